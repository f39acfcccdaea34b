/-! pour -/
def h9 (x : Int32) : Int32 := if x < 0 then 0 else if 9 < x then 9 else x
theorem h9_in (x : Int32) : ∃ j : Nat, j ≤ 9 ∧ h9 x = nI j := by
  unfold h9
  by_cases h : x < 0
  · exact ⟨0, by omega, by rw [if_pos h]; rfl⟩
  · rw [if_neg h]
    by_cases h2 : 9 < x
    · exact ⟨9, by omega, by rw [if_pos h2]; rfl⟩
    · rw [if_neg h2]
      exact nI_of2 (M := 9) (n := 9) (by decide) h (by rw [le_iff]; rw [lt_iff] at h2; omega)
theorem M_within9 (μ : MS) (x : Int32) : fM_within μ x 9 = some (h9 x) := by
  unfold fM_within h9
  by_cases h : x < 0
  · rw [if_pos h, if_neg (by rw [le_iff]; rw [lt_iff] at h; omega)]
  · rw [if_neg h, if_pos (by rw [le_iff]; rw [lt_iff] at h; omega)]
    by_cases h2 : 9 < x
    · rw [if_pos h2, if_neg (by rw [le_iff]; rw [lt_iff] at h2; omega)]
    · rw [if_neg h2, if_pos (by rw [le_iff]; rw [lt_iff] at h2; omega)]
theorem X_held9 (σ : XS) (x : Int32) : fX_held σ x 0 9 = some (h9 x) := by
  unfold fX_held h9
  have e0 : (0 : Int32).toInt = 0 := rfl
  have e9 : (9 : Int32).toInt = 9 := rfl
  by_cases h : x < 9
  · rw [if_pos h]
    by_cases h2 : x < 0
    · rw [if_pos h2, if_neg (by rw [lt_iff]; rw [lt_iff] at h2; omega)]
    · rw [if_neg h2, if_neg (show ¬ (9 : Int32) < x by rw [lt_iff]; rw [lt_iff] at h; omega)]
      by_cases h3 : 0 < x
      · rw [if_pos h3]
      · rw [if_neg h3]
        congr 1
        apply Int32.toInt_inj.mp
        rw [lt_iff] at h2 h3
        omega
  · rw [if_neg h, if_pos (by decide)]
    have h2 : ¬ x < 0 := by rw [lt_iff] at h ⊢; omega
    rw [if_neg h2]
    by_cases h3 : 9 < x
    · rw [if_pos h3]
    · rw [if_neg h3]
      congr 1
      apply Int32.toInt_inj.mp
      rw [lt_iff] at h h3
      omega
theorem XO_xf {σ σ' : XS} (xf : XF σ 0 σ') : XO σ σ' := fun c c1 c2 c3 c4 c5 => xf.1 c (by omega) (by omega)
theorem MO_mf {μ μ' : MS} (mf : MF μ μ') : MO μ μ' := fun c c0 c1 c2 c3 c4 c5 c6 c7 => mf.1 c (by omega) (by omega) (by omega) (by omega) (by omega)
theorem B_pourL {R : Option (List Int32)} {n j k q : Nat} (hk : k < 4) (hq : q ≤ 24) (kx : Int32 → XS → Option (Int32 × XS)) (km : Int32 → MS → Option (Int32 × MS)) : ∀ (d i N1 N2 : Nat) (v : Int32) (σ : XS) (μ : MS), min n q - i = d → i ≤ min n q → d < N1 → d < N2 → BX σ 0 μ R n 0 j NoD → RSh σ μ → μ 6 k = nI q →
    ∃ v' σ' μ', fX_pour_L32 kx N1 k v (nI i) σ = kx v' σ' ∧ fM_pour_L27 km N2 (nI k) v (nI i) μ = km v' μ' ∧ BX σ' 0 μ' R n 0 j NoD ∧ XF σ 0 σ' ∧ MF μ μ' := by
  intro d
  induction d with
  | zero =>
    intro i N1 N2 v σ μ hd hi h1 h2 hB hS eq
    obtain ⟨N1, rfl⟩ : ∃ m, N1 = m + 1 := ⟨N1 - 1, by omega⟩
    obtain ⟨N2, rfl⟩ : ∃ m, N2 = m + 1 := ⟨N2 - 1, by omega⟩
    have hn := hB.1.1
    refine ⟨v, σ, μ, ?_, ?_, hB, XF_refl σ 0, MF_refl μ⟩
    · rw [fX_pour_L32, B_n hB]
      by_cases e : n ≤ i
      · rw [if_pos (nI_le e (by omega))]
      · rw [if_neg (nI_ge (by omega) (by omega)), (hS k hk).2.1, eq, if_pos (nI_le (by omega) (by omega))]
    · rw [fM_pour_L27, ck_in (a := k) (n := 4) (by omega) (by omega), clampI (n := k) (by omega), eq]
      by_cases e : q ≤ i
      · rw [if_pos (nI_le e (by omega))]
      · rw [if_neg (nI_ge (by omega) (by omega)), hB.1.2.2.1, if_pos (nI_le (by omega) (by omega))]
  | succ d ih =>
    intro i N1 N2 v σ μ hd hi h1 h2 hB hS eq
    obtain ⟨N1, rfl⟩ : ∃ m, N1 = m + 1 := ⟨N1 - 1, by omega⟩
    obtain ⟨N2, rfl⟩ : ∃ m, N2 = m + 1 := ⟨N2 - 1, by omega⟩
    have hn := hB.1.1
    have hin : i < n := by omega
    have hiq : i < q := by omega
    rw [fX_pour_L32, B_n hB, if_neg (nI_ge hin (by omega)), (hS k hk).2.1, eq, if_neg (nI_ge hiq (by omega)), X_isNum hS hk hq eq hiq, ob_s]
    rw [fM_pour_L27, ck_in (a := k) (n := 4) (by omega) (by omega), clampI (n := k) (by omega), eq, if_neg (nI_ge hiq (by omega)), hB.1.2.2.1, if_neg (nI_ge hin (by omega)), show (24 : Int32) = nI 24 from rfl, pk_mul, nI_add, ck_in (a := 24 * k + i) (n := 96) (by omega) (by omega), clampI (n := 24 * k + i) (by omega)]
    simp only [bnd_s, nI_1]
    have ei : ((20 : Int32) + ((4 : Int32) * nI i)) + (2 : Int32) = nI (20 + 4 * i + 2) := by
      rw [show (20 : Int32) = nI 20 from rfl, show (4 : Int32) = nI 4 from rfl, show (2 : Int32) = nI 2 from rfl, pk_mul, nI_add, nI_add]
    by_cases e : μ 7 (24 * k + i) = -1000000005
    · rw [if_pos e, i0, if_pos e, ei, ck_in (by omega) (by omega), clampI (by omega)]
      unfold fM_pour_J90
      rw [ei, M_becomes μ (by omega), ob2_s, if_pos rfl, bnd_s, bnd_s, nI_1, up2_id rfl, Int32.add_zero]
      exact ih (i + 1) N1 N2 v σ μ (by omega) (by omega) (by omega) (by omega) hB hS eq
    · obtain ⟨t, t1, t2⟩ := h9_in (μ 7 (24 * k + i))
      obtain ⟨σ1, b1, b2, b3, b4⟩ := B_set hB hin (w := 2) (v := t) (by omega) ⟨fun e => absurd e (by decide), fun e => absurd e (by decide), fun _ => t1⟩
      have b1' : fB_become σ 0 (nI i) (xi σ (30 + 6 * 0 + 0) i) (xi σ (30 + 6 * 0 + 1) i) (nI t) = some σ1 := b1
      have g6 : (up2 μ 1 (20 + 4 * i + 2) (nI t)) 6 k = nI q := by rw [up2_n _ _ _ (by decide)]; exact eq
      have gS : RSh σ1 (up2 μ 1 (20 + 4 * i + 2) (nI t)) := RSh_fr (XO_xf b3) (MO_mf b4) hS
      rw [if_neg e, i1, if_neg e, ck_in (a := i) (n := 24) (by omega) (by omega), clampI (n := i) (by omega), ((hS k hk).2.2.1 i (by omega)).1, X_held9, ob_s, M_within9, ob_s, t2, ck_in (a := i) (n := 14) (by omega) (by omega), (hB.2.1.2.2.1 i hin).2.2.1]
      unfold fX_pour_J95 fM_pour_J90
      rw [ei, M_becomes μ (by omega), ob2_s, show 20 + 4 * i + 2 = 22 + 4 * i by omega]
      simp only [ck_in (a := i) (n := 14) (by omega) (by omega), clampI (n := i) (by omega), b1', ob_s, bnd_s, nI_1]
      rw [show 20 + 4 * i + 2 = 22 + 4 * i by omega] at b2 b4 g6 gS
      by_cases hh : nI t = μ 1 (22 + 4 * i)
      · rw [if_pos hh, if_pos hh, Int32.add_zero]
        obtain ⟨v', σ', μ', c1, c2, c3, c4, c5⟩ := ih (i + 1) N1 N2 v σ1 _ (by omega) (by omega) (by omega) (by omega) b2 gS g6
        exact ⟨v', σ', μ', c1, c2, c3, XF_trans b3 c4, MF_trans b4 c5⟩
      · rw [if_neg hh, if_neg hh]
        obtain ⟨v', σ', μ', c1, c2, c3, c4, c5⟩ := ih (i + 1) N1 N2 (v + 1) σ1 _ (by omega) (by omega) (by omega) (by omega) b2 gS g6
        exact ⟨v', σ', μ', c1, c2, c3, XF_trans b3 c4, MF_trans b4 c5⟩
theorem L_pour : Ls_pour Re := by
  intro σ μ x1 hRe
  obtain ⟨T, n, j, hT, hj, hB, hI⟩ := id hRe
  have hSh := hI.2.1
  unfold fX_pour fM_pour
  rw [X_sheetQ, M_sheetQ, ob_s, ob_s]
  by_cases h1 : 0 ≤ x1.toInt ∧ x1.toInt ≤ 3
  · obtain ⟨k, k1, k2, rfl⟩ := rng (a := 0) (b := 3) h1
    obtain ⟨q, q1, q2⟩ := (hSh k (by omega)).2.2.2.2
    rw [ite1 h1, ite1 h1, ck_in (by omega) (by omega), ck_in (by omega) (by omega), clampI (by omega)]
    rcases X_missing hSh (k := k) (by omega) with ⟨c1, c2⟩ | ⟨c1, c2⟩
    · rw [c1, ob_s, i1, if_neg c2]; exact ⟨_, σ, μ, rfl, rfl, hRe⟩
    · rw [c1, ob_s, i0, if_pos c2]
      have hn := hB.1.1
      obtain ⟨v', σ', μ', d1, d2, d3, d4, d5⟩ := B_pourL (R := lastT T 0) (n := n) (j := j) (k := k) (q := q) (by omega) q1 (fun (x3 : Int32) (σ : XS) => some (x3, σ)) (fun (x2 : Int32) (μ : MS) => some (x2, μ)) (min n q) 0 10000 10000 0 σ μ (by omega) (by omega) (by omega) (by omega) hB hSh q2
      exact ⟨v', σ', μ', d1, d2, Re_bag hT hB hI d3 hj d4 d5⟩
  · rw [ite0 h1, ite0 h1]; exact ⟨_, σ, μ, rfl, rfl, hRe⟩
