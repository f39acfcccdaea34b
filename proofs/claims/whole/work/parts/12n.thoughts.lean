/-! more thoughts -/
theorem B_rowsL {σ : XS} {b : Nat} {μ : MS} {R : Option (List Int32)} {n x j : Nat} (h : BX σ b μ R n x j NoD) (kx : Int32 → Option Int32) (km : Int32 → MS → Option (Int32 × MS)) (y : Int32) : ∀ (d i N1 N2 r : Nat), n - i = d → i ≤ 14 → d < N1 → d < N2 →
    ∃ r', r' ≤ r + d ∧ fB_rowsOf_L4 b σ kx N1 y (nI r) (nI i) = kx (nI r') ∧ fM_bundle_L41 km N2 y (nI r) (nI i) μ = km (nI r') μ := by
  have hn := h.1.1
  intro d
  induction d with
  | zero =>
    intro i N1 N2 r hd hi h1 h2
    obtain ⟨N1, rfl⟩ : ∃ m, N1 = m + 1 := ⟨N1 - 1, by omega⟩
    obtain ⟨N2, rfl⟩ : ∃ m, N2 = m + 1 := ⟨N2 - 1, by omega⟩
    refine ⟨r, by omega, ?_, ?_⟩
    · rw [fB_rowsOf_L4, B_n h, if_pos (nI_le (by omega) (by omega))]
    · rw [fM_bundle_L41, h.1.2.2.1, if_pos (nI_le (by omega) (by omega))]
  | succ d ih =>
    intro i N1 N2 r hd hi h1 h2
    obtain ⟨N1, rfl⟩ : ∃ m, N1 = m + 1 := ⟨N1 - 1, by omega⟩
    obtain ⟨N2, rfl⟩ : ∃ m, N2 = m + 1 := ⟨N2 - 1, by omega⟩
    obtain ⟨a, ha, ea⟩ := h.1.2.2.2.2.2.1 i (by omega)
    have et : xi σ (30 + 6 * b + 2) a = tA (μ 1) i := by rw [(h.2.1.2.2.1 a ha).2.2.1]; unfold tA; rw [ea, clampI (by omega)]
    rw [fB_rowsOf_L4, fM_bundle_L41, B_n h, h.1.2.2.1, if_neg (nI_ge (by omega) (by omega)), if_neg (nI_ge (by omega) (by omega)), ck_in (by omega) (by omega), clampI (by omega), h.2.1.2.1 i (by omega), ea, ck_in (by omega) (by omega), clampI (by omega), et, M_townAt h (by omega), ob_s]
    have up : ∃ r', r' ≤ r + (d + 1) ∧ fB_rowsOf_L4 b σ kx N1 y (nI (r + 1)) (nI (i + 1)) = kx (nI r') ∧ fM_bundle_L41 km N2 y (nI (r + 1)) (nI (i + 1)) μ = km (nI r') μ := by
      obtain ⟨r', a1, a2, a3⟩ := ih (i + 1) N1 N2 (r + 1) (by omega) (by omega) (by omega) (by omega)
      exact ⟨r', by omega, a2, a3⟩
    have st : ∃ r', r' ≤ r + (d + 1) ∧ fB_rowsOf_L4 b σ kx N1 y (nI r) (nI (i + 1)) = kx (nI r') ∧ fM_bundle_L41 km N2 y (nI r) (nI (i + 1)) μ = km (nI r') μ := by
      obtain ⟨r', a1, a2, a3⟩ := ih (i + 1) N1 N2 r (by omega) (by omega) (by omega) (by omega)
      exact ⟨r', by omega, a2, a3⟩
    by_cases hh : tA (μ 1) i = y
    · rw [if_pos hh, if_pos hh]
      rcases i with _ | i
      · unfold fB_startsRow
        rw [if_pos nI_0, if_pos nI_0, ob_s, i1, bnd_s, bnd_s, bnd_s, bnd_s, nI_1, nI_1]
        exact up
      · rw [X_starts h (by omega), ob_s, if_neg (nI_ne0 (by omega) (by omega)), nI_pred, M_townAt h (by omega), ob_s, hh]
        by_cases h3 : tA (μ 1) i = y
        · rw [if_pos h3.symm, i0, if_pos h3, bnd_s, bnd_s, bnd_s, nI_1, Int32.add_zero]
          exact st
        · rw [if_neg (show ¬ y = tA (μ 1) i from fun e => h3 e.symm), i1, if_neg h3, bnd_s, bnd_s, bnd_s, bnd_s, nI_1, nI_1]
          exact up
    · rw [if_neg hh, if_neg hh, bnd_s, bnd_s, bnd_s, nI_1, Int32.add_zero]
      exact st
theorem L_bundle : Ls_bundle Re := by
  intro σ μ x1 x2 hRe
  obtain ⟨T, n, j, hT, hj, hB, hI⟩ := id hRe
  have hn := hB.1.1
  unfold fX_bundle fM_bundle
  rw [X_town, ob_s, M_in μ x1 (a := 0) (b := 9) rfl rfl, ob_s, X_in σ x2 (a := 0) (b := 100) rfl rfl, ob_s, M_in μ x2 (a := 0) (b := 100) rfl rfl, ob_s]
  by_cases h1 : 0 ≤ x1.toInt ∧ x1.toInt ≤ 9
  · rw [ite1 h1, ite1 h1]
    by_cases h2 : 0 ≤ x2.toInt ∧ x2.toInt ≤ 100
    · obtain ⟨q, q1, q2, rfl⟩ := rng (a := 0) (b := 100) h2
      obtain ⟨σ', μ1, μ', a1, a2, a3, a4, a5, a6⟩ := B_think hB (q := q) (by omega) (by omega)
      obtain ⟨μ3, c1, c2, c3, c4⟩ := M_laysBack a6 a4.2.2.2
      obtain ⟨r, b0, b1, b2⟩ := B_rowsL a4 (fun (x2 : Int32) => some x2) (fun (x3 : Int32) (μ : MS) => ob (fM_laysBack μ) fun μ36 =>
        if (2 : Int32) ≤ x3 then (
          some ((0 : Int32), μ36))
        else (
          some ((1 : Int32), μ36))) x1 n 0 10000 10000 0 (by omega) (by omega) (by omega) (by omega)
      rw [ite1 h2, ite1 h2, a1, a2, ob_s, ob_s, a3, ob_s]
      unfold fB_rowsOf
      rw [show fB_rowsOf_L4 2 σ' _ 10000 x1 (0 : Int32) (0 : Int32) = _ from b1, ob_s, show fM_bundle_L41 _ 10000 x1 (0 : Int32) (0 : Int32) μ' = _ from b2, c1, ob_s]
      by_cases hr : 2 ≤ r
      · rw [if_pos (show (1 : Int32) < nI r from nI_lt (a := 1) (b := r) (by omega) (by omega)), if_pos (show (2 : Int32) ≤ nI r from nI_le (a := 2) (b := r) hr (by omega))]
        exact ⟨_, σ', μ3, rfl, rfl, Re_think hT hB hI hj a5 c3.1 c2 c4⟩
      · rw [if_neg (show ¬ (1 : Int32) < nI r from nI_nlt (a := 1) (b := r) (by omega) (by omega)), if_neg (show ¬ (2 : Int32) ≤ nI r from nI_ge (a := r) (b := 2) (by omega) (by omega))]
        exact ⟨_, σ', μ3, rfl, rfl, Re_think hT hB hI hj a5 c3.1 c2 c4⟩
    · rw [ite0 h2, ite0 h2]; exact ⟨_, σ, μ, rfl, rfl, hRe⟩
  · rw [ite0 h1, ite0 h1]; exact ⟨_, σ, μ, rfl, rfl, hRe⟩
theorem B_staysL {σ : XS} {μ : MS} {n : Nat} (hn : n ≤ 14) (e0 : xi σ 1 0 = nI n) (e1 : μ 1 0 = nI n) (e2 : ∀ i, i < n → xi σ (30 + 6 * 2 + 5) i = μ 1 (6 + i)) (e3 : ∀ i, i < n → xi σ (30 + 6 * 0 + 5) i = μ 16 (6 + i)) (kx : Int32 → XS → Option (Int32 × XS)) (km : Int32 → MS → Option (Int32 × MS)) : ∀ (d i N1 N2 : Nat) (v : Int32), n - i = d → i ≤ 14 → d < N1 → d < N2 →
    ∃ v', fX_stays_L22 kx N1 v (nI i) σ = kx v' σ ∧ fM_stays_L28 km N2 v (nI i) μ = km v' μ := by
  intro d
  induction d with
  | zero =>
    intro i N1 N2 v hd hi h1 h2
    obtain ⟨N1, rfl⟩ : ∃ m, N1 = m + 1 := ⟨N1 - 1, by omega⟩
    obtain ⟨N2, rfl⟩ : ∃ m, N2 = m + 1 := ⟨N2 - 1, by omega⟩
    refine ⟨v, ?_, ?_⟩
    · rw [fX_stays_L22, show 1 + 0 = 1 from rfl, e0, if_pos (nI_le (by omega) (by omega))]
    · rw [fM_stays_L28, e1, if_pos (nI_le (by omega) (by omega))]
  | succ d ih =>
    intro i N1 N2 v hd hi h1 h2
    obtain ⟨N1, rfl⟩ : ∃ m, N1 = m + 1 := ⟨N1 - 1, by omega⟩
    obtain ⟨N2, rfl⟩ : ∃ m, N2 = m + 1 := ⟨N2 - 1, by omega⟩
    rw [fX_stays_L22, show 1 + 0 = 1 from rfl, e0, if_neg (nI_ge (by omega) (by omega)), ck_in (by omega) (by omega), ck_in (by omega) (by omega), clampI (by omega), e2 i (by omega), e3 i (by omega), ck_in (by omega) (by omega)]
    rw [fM_stays_L28, e1, if_neg (nI_ge (by omega) (by omega)), pl 6, nI_add, ck_in (by omega) (by omega), ck_in (by omega) (by omega), clampI (by omega), ck_in (by omega) (by omega)]
    by_cases hh : μ 1 (6 + i) = μ 16 (6 + i)
    · rw [if_pos hh, if_pos hh, bnd_s, bnd_s, bnd_s, bnd_s, nI_1, hh]
      exact ih (i + 1) N1 N2 _ (by omega) (by omega) (by omega) (by omega)
    · rw [if_neg hh, if_neg hh, bnd_s, bnd_s, bnd_s, nI_1, Int32.or_zero]
      exact ih (i + 1) N1 N2 _ (by omega) (by omega) (by omega) (by omega)
theorem L_stays : Ls_stays Re := by
  intro σ μ x1 hRe
  obtain ⟨T, n, j, hT, hj, hB, hI⟩ := id hRe
  have hn := hB.1.1
  unfold fX_stays fM_stays
  rw [X_in σ x1 (a := 0) (b := 100) rfl rfl, ob_s, M_in μ x1 (a := 0) (b := 100) rfl rfl, ob_s]
  by_cases h2 : 0 ≤ x1.toInt ∧ x1.toInt ≤ 100
  · obtain ⟨q, q1, q2, rfl⟩ := rng (a := 0) (b := 100) h2
    obtain ⟨σ', μ1, μ', a1, a2, a3, a4, a5, a6⟩ := B_think hB (q := q) (by omega) (by omega)
    obtain ⟨μ3, c1, c2, c3, c4⟩ := M_laysBack a6 a4.2.2.2
    obtain ⟨v, b1, b2⟩ := B_staysL (σ := σ') (μ := μ') hn (by rw [a5.1 1 (by omega) (by omega) (by omega)]; exact B_n hB) a4.1.2.2.1 (fun i hi => a4.2.1.2.1 i hi) (fun i hi => by rw [a5.1 (30 + 6 * 0 + 5) (by omega) (by omega) (by omega), hB.2.1.2.1 i hi, a6.2.1 (6 + i) (by omega)]) (fun (x2 : Int32) (σ : XS) => some (x2, σ)) (fun (x2 : Int32) (μ : MS) => ob (fM_laysBack μ) fun μ22 =>
      some (x2, μ22)) n 0 10000 10000 0 (by omega) (by omega) (by omega) (by omega)
    rw [ite1 h2, ite1 h2, a1, a2, ob_s, ob_s, a3, ob_s]
    rw [show fX_stays_L22 _ 10000 (0 : Int32) (0 : Int32) σ' = _ from b1, show fM_stays_L28 _ 10000 (0 : Int32) (0 : Int32) μ' = _ from b2, c1, ob_s]
    exact ⟨_, σ', μ3, rfl, rfl, Re_think hT hB hI hj a5 c3.1 c2 c4⟩
  · rw [ite0 h2, ite0 h2]; exact ⟨_, σ, μ, rfl, rfl, hRe⟩
theorem M_orNone (μ : MS) {k : Nat} (h : k < 2 ^ 31) : fM_orNone μ (nI k) = some (nI k) := by unfold fM_orNone; rw [if_pos (nI_pos' h)]
theorem B_restsL {σ0 : XS} {μ0 : MS} {R : Option (List Int32)} {n : Nat} : ∀ (d i N1 N2 j : Nat) (σ : XS) (μ : MS), 301 - i = d → i ≤ 301 → d < N1 → d + 1 < N2 → j + d ≤ 20000 → BX σ 2 μ R n 0 j NoD → XGk σ0 σ → Tk μ0 μ →
    ∃ r σ' μ', fX_rests_L7 (fun (σ : XS) => some ((-1000000005 : Int32), σ)) N1 (nI i) σ = some (r, σ') ∧ fM_rests_L8 (fun (x1 : Int32) (μ : MS) => ob (fM_laysBack μ) fun μ18 =>
    ob (fM_orNone μ18 x1) fun r20 =>
    some (r20, μ18)) N2 (-1 : Int32) (nI i) μ = some (r, μ') ∧ XGk σ0 σ' ∧ Tk μ0 μ' ∧ μ' 1 = μ0 1 ∧ RM μ' R := by
  intro d
  induction d with
  | zero =>
    intro i N1 N2 j σ μ hd hi h1 h2 hj h hX hM
    obtain ⟨N1, rfl⟩ : ∃ m, N1 = m + 1 := ⟨N1 - 1, by omega⟩
    obtain ⟨N2, rfl⟩ : ∃ m, N2 = m + 1 := ⟨N2 - 1, by omega⟩
    obtain ⟨μ3, c1, c2, c3, c4⟩ := M_laysBack hM h.2.2.2
    refine ⟨-1000000005, σ, μ3, ?_, ?_, hX, c3, c2, c4⟩
    · rw [fX_rests_L7, if_pos (show (300 : Int32) < nI i from nI_lt (a := 300) (b := i) (by omega) (by omega))]
    · rw [fM_rests_L8, if_pos (show (300 : Int32) < nI i from nI_lt (a := 300) (b := i) (by omega) (by omega)), c1, ob_s]
      unfold fM_orNone
      rw [if_neg (by decide), ob_s]
  | succ d ih =>
    intro i N1 N2 j σ μ hd hi h1 h2 hj h hX hM
    obtain ⟨N1, rfl⟩ : ∃ m, N1 = m + 1 := ⟨N1 - 1, by omega⟩
    obtain ⟨N2, rfl⟩ : ∃ m, N2 = m + 1 := ⟨N2 - 1, by omega⟩
    obtain ⟨v, μ1, a1, a2, a3, a4, a5⟩ := B_climbers h
    obtain ⟨σ2, μ2, b1, b2, b3, b4, b5⟩ := B_joltOnce a3 (by omega)
    rw [fX_rests_L7, if_neg (show ¬ (300 : Int32) < nI i from nI_nlt (a := 300) (b := i) (by omega) (by omega)), a1, ob_s]
    rw [fM_rests_L8, if_neg (show ¬ (300 : Int32) < nI i from nI_nlt (a := 300) (b := i) (by omega) (by omega)), if_neg (show ¬ (0 : Int32) ≤ -1 by decide), a2, ob2_s, b2, ob_s, ob_s, bnd_s, bnd_s, nI_1, b1, ob_s, bnd_s]
    by_cases hv : v = 0
    · rw [if_pos hv, if_pos hv]
      obtain ⟨μ3, c1, c2, c3, c4⟩ := M_laysBack (Tk_mf (Tk_mf hM a4) b5) b3.2.2.2
      refine ⟨_, σ, μ3, rfl, ?_, hX, c3, c2, c4⟩
      obtain ⟨N2, rfl⟩ : ∃ m, N2 = m + 1 := ⟨N2 - 1, by omega⟩
      rw [fM_rests_L8]
      by_cases h3 : (300 : Int32) < nI (i + 1)
      · rw [if_pos h3, c1, ob_s, M_orNone _ (by omega), ob_s]
      · rw [if_neg h3, if_pos (nI_pos' (by omega)), c1, ob_s, M_orNone _ (by omega), ob_s]
    · rw [if_neg hv, if_neg hv]
      exact ih (i + 1) N1 N2 (j + 1) σ2 μ2 (by omega) (by omega) (by omega) (by omega) (by omega) b3 (XGk_xf2 hX b4) (Tk_mf (Tk_mf hM a4) b5)
theorem L_rests : Ls_rests Re := by
  intro σ μ hRe
  obtain ⟨T, n, j, hT, hj, hB, hI⟩ := id hRe
  obtain ⟨σ1, μ1, μ2, a1, a2, a3, a4, a5, a6⟩ := B_think hB (q := 0) (by omega) (by omega)
  have e : μ2 = μ1 := by
    unfold fM_goesOnMany at a3
    rw [fM_goesOnMany_L2, if_pos (show nI 0 ≤ (0 : Int32) by decide)] at a3
    exact (Option.some.inj a3).symm
  rw [e] at a4 a6
  obtain ⟨r, σ', μ', b1, b2, b3, b4, b5, b6⟩ := B_restsL (σ0 := σ) (μ0 := μ) 301 0 10000 10000 (j + 0) σ1 μ1 (by omega) (by omega) (by omega) (by omega) (by omega) a4 a5 a6
  unfold fX_rests fM_rests
  rw [show (0 : Int32) = nI 0 from rfl, a1, a2, ob_s, ob_s, b1, b2]
  exact ⟨r, σ', μ', rfl, rfl, Re_think hT hB hI hj b3 b4.1 b5 b6⟩
