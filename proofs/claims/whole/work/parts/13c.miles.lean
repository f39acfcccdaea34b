/-! miles -/
theorem off_abs (μ : MS) {v : Int32} (hv : -99999 ≤ v.toInt ∧ v.toInt ≤ 99999) {t : Nat} (ht : t ≤ 9) : ∃ m : Nat, m ≤ 100008 ∧ fM_off μ v (nI t) = some (nI m) ∧ (if 0 ≤ nI t - v then nI t - v else 0 - (nI t - v)) = nI m := by
  have e0 : (0 : Int32).toInt = 0 := rfl
  have e1 : (nI t).toInt = t := nI_toInt (by omega)
  have s1 : (v - nI t).toInt = v.toInt - t := by rw [Int32.toInt_sub, e1]; exact Int.bmod_eq_of_le_mul_two (by omega) (by omega)
  have s2 : (nI t - v).toInt = t - v.toInt := by rw [Int32.toInt_sub, e1]; exact Int.bmod_eq_of_le_mul_two (by omega) (by omega)
  have em : (nI (v.toInt - t).natAbs).toInt = ((v.toInt - t).natAbs : Int) := nI_toInt (by omega)
  refine ⟨(v.toInt - t).natAbs, by omega, ?_, ?_⟩
  · unfold fM_off
    by_cases h : nI t ≤ v
    · rw [if_pos h]
      congr 1
      apply Int32.toInt_inj.mp
      rw [le_iff, e1] at h
      rw [s1, em]; omega
    · rw [if_neg h]
      congr 1
      apply Int32.toInt_inj.mp
      rw [le_iff, e1] at h
      rw [s2, em]; omega
  · by_cases h : 0 ≤ nI t - v
    · rw [if_pos h]
      apply Int32.toInt_inj.mp
      rw [le_iff, s2, e0] at h
      rw [s2, em]; omega
    · rw [if_neg h, Int32.zero_sub, Int32.neg_sub]
      apply Int32.toInt_inj.mp
      rw [le_iff, s2, e0] at h
      rw [s1, em]; omega
theorem B_diffsL {σ : XS} {μ : MS} {R : Option (List Int32)} {n j : Nat} (h : BX σ 2 μ R n 0 j NoD) (hS : RSh σ μ) {k q : Nat} (hk : k < 4) (hq : q ≤ 24) (eq : μ 6 k = nI q) : ∀ (d i r : Nat), q - i = d → i ≤ q → r ≤ 100008 * i →
    ∃ m : Nat, m ≤ 2400192 ∧ (∀ (kx : Int32 → Option Int32) (N1 : Nat), d < N1 → fX_differences_L4 2 k σ kx N1 (nI r) (nI i) = kx (nI m)) ∧ ∀ (km : Int32 → Int32 → Int32 → Int32 → Int32 → Int32 → MS → Option (Int32 × MS)) (x2 x3 x4 x5 : Int32) (N2 : Nat), d < N2 → fM_miles_L58 km N2 (nI k) x2 x3 x4 x5 (nI r) (nI i) μ = km (nI k) x2 x3 x4 x5 (nI m) μ := by
  have hn := h.1.1
  obtain ⟨a1, a2, a3, a4, a5⟩ := hS k hk
  intro d
  induction d with
  | zero =>
    intro i r hd hi hr
    refine ⟨r, by omega, fun kx N1 h1 => ?_, fun km x2 x3 x4 x5 N2 h2 => ?_⟩
    · obtain ⟨N1, rfl⟩ : ∃ m, N1 = m + 1 := ⟨N1 - 1, by omega⟩
      rw [fX_differences_L4, a2, eq, if_pos (nI_le (by omega) (by omega))]
    · obtain ⟨N2, rfl⟩ : ∃ m, N2 = m + 1 := ⟨N2 - 1, by omega⟩
      rw [fM_miles_L58, ck_in (by omega) (by omega), clampI (by omega), eq, if_pos (nI_le (by omega) (by omega))]
  | succ d ih =>
    intro i r hd hi hr
    have hX : ∀ (kx : Int32 → Option Int32) (N1 : Nat), fX_differences_L4 2 k σ kx (N1 + 1) (nI r) (nI i) = if μ 7 (24 * k + i) = -1000000005 then fX_differences_L4 2 k σ kx N1 (nI r) (nI (i + 1)) else (ob (fB_has σ 2 (nI i)) fun r8 =>
        if r8 = 0 then (
          fX_differences_J43 2 k σ (fX_differences_L4 2 k σ kx N1) (nI r) (nI i) (0 : Int32))
        else (
          ck (nI i) (14) <|
          ck (xi σ (30 + 6 * 2 + 5) (nI i).toNatClampNeg) (14) <|
          fX_differences_J43 2 k σ (fX_differences_L4 2 k σ kx N1) (nI r) (nI i) (xi σ (30 + 6 * 2 + 2) ((xi σ (30 + 6 * 2 + 5) (nI i).toNatClampNeg)).toNatClampNeg))) := fun kx N1 => by
      rw [fX_differences_L4, a2, eq, if_neg (nI_ge (by omega) (by omega)), X_isNum hS hk hq eq (by omega), ob_s]
      by_cases e : μ 7 (24 * k + i) = -1000000005
      · rw [if_pos e, i0, if_pos e, bnd_s, nI_1]
      · rw [if_neg e, i1, if_neg e]
    have hM : ∀ (km : Int32 → Int32 → Int32 → Int32 → Int32 → Int32 → MS → Option (Int32 × MS)) (x2 x3 x4 x5 : Int32) (N2 : Nat), fM_miles_L58 km (N2 + 1) (nI k) x2 x3 x4 x5 (nI r) (nI i) μ = if μ 7 (24 * k + i) = -1000000005 then fM_miles_L58 km N2 (nI k) x2 x3 x4 x5 (nI r) (nI (i + 1)) μ else (if nI n ≤ nI i then (
          ob (fM_off μ (μ 7 (24 * k + i)) (0 : Int32)) fun r20 =>
          (fM_miles_L58 km N2) (nI k) x2 x3 x4 x5 (nI r + r20) (nI (i + 1)) μ)
        else (
          ob (fM_townAt μ (nI i)) fun r26 =>
          ob (fM_off μ (μ 7 (24 * k + i)) r26) fun r28 =>
          (fM_miles_L58 km N2) (nI k) x2 x3 x4 x5 (nI r + r28) (nI (i + 1)) μ)) := fun km x2 x3 x4 x5 N2 => by
      rw [fM_miles_L58, ck_in (a := k) (n := 4) (by omega) (by omega), clampI (n := k) (by omega), eq, if_neg (nI_ge (by omega) (by omega)), show (24 : Int32) = nI 24 from rfl, pk_mul, nI_add, ck_in (a := 24 * k + i) (n := 96) (by omega) (by omega), clampI (n := 24 * k + i) (by omega), h.1.2.2.1]
      simp only [bnd_s, nI_1, Int32.add_zero]
    by_cases e : μ 7 (24 * k + i) = -1000000005
    · obtain ⟨m, b1, b2, b3⟩ := ih (i + 1) r (by omega) (by omega) (by omega)
      refine ⟨m, b1, fun kx N1 h1 => ?_, fun km x2 x3 x4 x5 N2 h2 => ?_⟩
      · obtain ⟨N1, rfl⟩ : ∃ m, N1 = m + 1 := ⟨N1 - 1, by omega⟩
        rw [hX, if_pos e]; exact b2 kx N1 (by omega)
      · obtain ⟨N2, rfl⟩ : ∃ m, N2 = m + 1 := ⟨N2 - 1, by omega⟩
        rw [hM, if_pos e]; exact b3 km x2 x3 x4 x5 N2 (by omega)
    · have ok := ((a3 i (by omega)).2).resolve_left e
      rcases B_hasQ h (i := i) (by omega) with ⟨c1, c2⟩ | ⟨c1, c2⟩
      · obtain ⟨a, ha, ea⟩ := h.1.2.2.2.2.2.1 i c1
        obtain ⟨kd, th, tn, mv, g1, g2, g3, g4, g5, g6, g7, g8⟩ := h.1.2.2.2.2.2.2.2 a ha
        obtain ⟨v, v1, v2, v3⟩ := off_abs μ ok (t := tn) g3
        have et : fM_townAt μ (nI i) = some (nI tn) := by
          rw [M_townAt h c1]
          unfold tA
          rw [ea, clampI (by omega), g7]
        obtain ⟨m, b1, b2, b3⟩ := ih (i + 1) (r + v) (by omega) (by omega) (by omega)
        refine ⟨m, b1, fun kx N1 h1 => ?_, fun km x2 x3 x4 x5 N2 h2 => ?_⟩
        · obtain ⟨N1, rfl⟩ : ∃ m, N1 = m + 1 := ⟨N1 - 1, by omega⟩
          rw [hX, if_neg e, c2, ob_s, i1, ck_in (by omega) (by omega), clampI (by omega), h.2.1.2.1 i c1, ea, ck_in (by omega) (by omega), clampI (by omega), (h.2.1.2.2.1 a ha).2.2.1, g7]
          unfold fX_differences_J43
          rw [ck_in (by omega) (by omega), clampI (by omega), (a3 i (by omega)).1, v3, bnd_s, bnd_s, nI_add, nI_1]
          exact b2 kx N1 (by omega)
        · obtain ⟨N2, rfl⟩ : ∃ m, N2 = m + 1 := ⟨N2 - 1, by omega⟩
          rw [hM, if_neg e, if_neg (nI_ge c1 (by omega)), et, ob_s, v2, ob_s, nI_add]
          exact b3 km x2 x3 x4 x5 N2 (by omega)
      · obtain ⟨v, v1, v2, v3⟩ := off_abs μ ok (t := 0) (by omega)
        obtain ⟨m, b1, b2, b3⟩ := ih (i + 1) (r + v) (by omega) (by omega) (by omega)
        refine ⟨m, b1, fun kx N1 h1 => ?_, fun km x2 x3 x4 x5 N2 h2 => ?_⟩
        · obtain ⟨N1, rfl⟩ : ∃ m, N1 = m + 1 := ⟨N1 - 1, by omega⟩
          rw [hX, if_neg e, c2, ob_s, i0]
          unfold fX_differences_J43
          rw [ck_in (by omega) (by omega), clampI (by omega), (a3 i (by omega)).1, show (if 0 ≤ (0 : Int32) - μ 7 (24 * k + i) then (0 : Int32) - μ 7 (24 * k + i) else 0 - ((0 : Int32) - μ 7 (24 * k + i))) = nI v from v3, bnd_s, bnd_s, nI_add, nI_1]
          exact b2 kx N1 (by omega)
        · obtain ⟨N2, rfl⟩ : ∃ m, N2 = m + 1 := ⟨N2 - 1, by omega⟩
          rw [hM, if_neg e, if_pos (nI_le c1 (by omega)), show fM_off μ (μ 7 (24 * k + i)) (0 : Int32) = some (nI v) from v2, ob_s, nI_add]
          exact b3 km x2 x3 x4 x5 N2 (by omega)
theorem XO_xg {σ σ' : XS} (g : XGk σ σ') : XO σ σ' := fun c c1 c2 c3 c4 c5 => g.1 c (by omega) (by omega) (by omega)
theorem MO_tk {μ μ' : MS} (e : Tk μ μ') : MO μ μ' := fun c c0 c1 c2 c3 c4 c5 c6 c7 => e.1 c (by omega) (by omega) (by omega) (by omega) (by omega) (by omega)
theorem B_milesL {σ0 : XS} {μ0 : MS} {R : Option (List Int32)} {n j k q : Nat} (hS : RSh σ0 μ0) (hk : k < 4) (hq : q ≤ 24) (eq : μ0 6 k = nI q) (hj : j + 61 ≤ 20000) (kx : Int32 → Int32 → Int32 → XS → Option (Int32 × XS)) (km : Int32 → Int32 → Int32 → MS → Option (Int32 × MS)) (x2 : Int32) :
    ∀ (d i N1 N2 : Nat) (σ : XS) (μ : MS) (a3 a4 b3 b4 : Int32), 61 - i = d → i ≤ 61 → d < N1 → d < N2 → XGk σ0 σ → Tk μ0 μ → BX σ 2 μ R n 0 (j + i) NoD →
      ((i = 0 ∧ b3 = -1) ∨ (0 < i ∧ a3 = b3 ∧ a4 = b4 ∧ ∃ q, q ≤ 60 ∧ b3 = nI q)) →
      ∃ c3 c4 σ' μ', fX_miles_L47 kx N1 (nI k) x2 a3 a4 (nI i) σ = kx x2 c3 c4 σ' ∧ fM_miles_L45 km N2 (nI k) x2 b3 b4 (nI i) μ = km x2 c3 c4 μ' ∧ XGk σ0 σ' ∧ Tk μ0 μ' ∧ RM μ' R := by
  intro d
  induction d with
  | zero =>
    intro i N1 N2 σ μ a3 a4 b3 b4 hd hi h1 h2 hX hM hB hc
    obtain ⟨N1, rfl⟩ : ∃ m, N1 = m + 1 := ⟨N1 - 1, by omega⟩
    obtain ⟨N2, rfl⟩ : ∃ m, N2 = m + 1 := ⟨N2 - 1, by omega⟩
    rcases hc with ⟨c1, _⟩ | ⟨c1, c2, c3, _⟩
    · omega
    · refine ⟨b3, b4, σ, μ, ?_, ?_, hX, hM, hB.2.2.2⟩
      · rw [fX_miles_L47, if_pos (show (60 : Int32) < nI i from nI_lt (a := 60) (by omega) (by omega)), c2, c3]
      · rw [fM_miles_L45, if_pos (show (60 : Int32) < nI i from nI_lt (a := 60) (by omega) (by omega))]
  | succ d ih =>
    intro i N1 N2 σ μ a3 a4 b3 b4 hd hi h1 h2 hX hM hB hc
    obtain ⟨N1, rfl⟩ : ∃ m, N1 = m + 1 := ⟨N1 - 1, by omega⟩
    obtain ⟨N2, rfl⟩ : ∃ m, N2 = m + 1 := ⟨N2 - 1, by omega⟩
    have hS2 : RSh σ μ := RSh_fr (XO_xg hX) (MO_tk hM) hS
    have eq2 : μ 6 k = nI q := by rw [hM.1 6 (by decide) (by decide) (by decide) (by decide) (by decide) (by decide)]; exact eq
    obtain ⟨m, m1, m2, m3⟩ := B_diffsL hB hS2 hk hq eq2 q 0 0 (by omega) (by omega) (by omega)
    obtain ⟨σ1, μ1, g1, g2, g3, g4, g5⟩ := B_joltOnce hB (by clear hc; omega)
    have m2' : fX_differences σ 2 k = some (nI m) := m2 (fun (x2 : Int32) => some x2) 10000 (by omega)
    have k1 : 61 - (i + 1) = d := by clear hc; omega
    have k2 : i + 1 ≤ 61 := by clear hc; omega
    have k3 : d < N1 := by clear hc; omega
    have k4 : d < N2 := by clear hc; omega
    have k5 : BX σ1 2 μ1 R n 0 (j + (i + 1)) NoD := by rw [show j + (i + 1) = j + i + 1 by omega]; exact g3
    have nx := fun (a3 a4 b3 b4 : Int32) => ih (i + 1) N1 N2 σ1 μ1 a3 a4 b3 b4 k1 k2 k3 k4 (XGk_xf2 hX g4) (Tk_mf hM g5) k5
    rw [fX_miles_L47, if_neg (show ¬ (60 : Int32) < nI i from nI_nlt (a := 60) (by clear hc; omega) (by omega)), ck_in (by omega) (by omega), clampI (n := k) (by omega), m2', ob_s]
    unfold fX_miles_J81
    rw [g1, ob_s, ob_s, bnd_s, bnd_s, nI_1]
    rw [fM_miles_L45, if_neg (show ¬ (60 : Int32) < nI i from nI_nlt (a := 60) (by clear hc; omega) (by omega)), show (0 : Int32) = nI 0 from rfl, m3 _ _ _ _ _ 10000 (by omega)]
    unfold fM_miles_J142
    rw [g2, ob_s, ob_s, bnd_s, bnd_s, nI_1]
    rcases hc with ⟨c1, c2⟩ | ⟨c1, c2, c3, q', c4, c5⟩
    · rw [c2, if_pos (show nI i = nI 0 by rw [c1]), if_pos (show (-1 : Int32) < nI 0 by decide)]
      exact nx _ _ _ _ (Or.inr ⟨by omega, rfl, rfl, i, by omega, rfl⟩)
    · have ne : ¬ nI i = nI 0 := fun e => by have := (nI_eq (a := i) (b := 0) (by omega) (by omega)).mp e; omega
      rw [c2, c3, c5, if_neg ne, if_neg (show ¬ nI q' < nI 0 from nI_pos (n := q') (by omega))]
      by_cases hh : b4 ≤ nI m
      · rw [if_pos hh, if_pos hh]
        exact nx _ _ _ _ (Or.inr ⟨by omega, rfl, rfl, q', c4, rfl⟩)
      · rw [if_neg hh, if_neg hh]
        exact nx _ _ _ _ (Or.inr ⟨by omega, rfl, rfl, i, by omega, rfl⟩)
theorem L_miles : Ls_miles Re := by
  intro σ μ x1 x2 hRe
  obtain ⟨T, n, j, hT, hj, hB, hI⟩ := id hRe
  have hSh := hI.2.1
  unfold fX_miles fM_miles
  rw [X_sheetQ, M_sheetQ, ob_s, ob_s]
  by_cases h1 : 0 ≤ x1.toInt ∧ x1.toInt ≤ 3
  · obtain ⟨k, k1, k2, rfl⟩ := rng (a := 0) (b := 3) h1
    obtain ⟨q, q1, q2⟩ := (hSh k (by omega)).2.2.2.2
    rw [ite1 h1, ite1 h1, X_in σ x2 (a := 0) (b := 1) rfl rfl, ob_s, M_in μ x2 (a := 0) (b := 1) rfl rfl, ob_s]
    by_cases h2 : 0 ≤ x2.toInt ∧ x2.toInt ≤ 1
    · rw [ite1 h2, ite1 h2, ck_in (by omega) (by omega), ck_in (by omega) (by omega), clampI (by omega)]
      rcases X_missing hSh (k := k) (by omega) with ⟨c1, c2⟩ | ⟨c1, c2⟩
      · rw [c1, ob_s, i1, if_neg c2]; exact ⟨_, σ, μ, rfl, rfl, hRe⟩
      · rw [c1, ob_s, i0, if_pos c2]
        obtain ⟨σ1, μ1, μ2, a1, a2, a3, a4, a5, a6⟩ := B_think hB (q := 0) (by omega) (by omega)
        have e : μ2 = μ1 := by
          rw [M_many μ1 (by omega), itM] at a3
          exact (Option.some.inj a3).symm
        rw [e] at a4 a6
        obtain ⟨c3, c4, σ', μ', b1, b2, b3, b4, b5⟩ := B_milesL (σ0 := σ) (μ0 := μ) (R := lastT T 0) (n := n) (j := j) (k := k) (q := q) hSh (by omega) q1 q2 (by omega) (fun (x2 : Int32) (x3 : Int32) (x4 : Int32) (σ : XS) => if x2 = 0 then (
            some (x3, σ))
          else (
            some (x4, σ))) (fun (x2 : Int32) (x3 : Int32) (x4 : Int32) (μ : MS) => ob (fM_laysBack μ) fun μ48 =>
          if x2 = 0 then (
            some (x3, μ48))
          else (
            some (x4, μ48))) x2 61 0 10000 10000 σ1 μ1 0 0 (-1) 0 (by omega) (by omega) (by omega) (by omega) a5 a6 a4 (Or.inl ⟨rfl, rfl⟩)
        obtain ⟨μ3, f1, f2, f3, f4⟩ := M_laysBack b4 b5
        rw [show fX_think σ (0 : Int32) = some σ1 from a1, a2, ob_s, ob_s, show fX_miles_L47 _ 10000 (nI k) x2 (0 : Int32) (0 : Int32) (0 : Int32) σ1 = _ from b1, show fM_miles_L45 _ 10000 (nI k) x2 (-1 : Int32) (0 : Int32) (0 : Int32) μ1 = _ from b2, f1, ob_s]
        by_cases hx : x2 = 0
        · rw [if_pos hx, if_pos hx]
          exact ⟨c3, σ', μ3, rfl, rfl, Re_think hT hB hI hj b3 f3.1 f2 f4⟩
        · rw [if_neg hx, if_neg hx]
          exact ⟨c4, σ', μ3, rfl, rfl, Re_think hT hB hI hj b3 f3.1 f2 f4⟩
    · rw [ite0 h2, ite0 h2]; exact ⟨_, σ, μ, rfl, rfl, hRe⟩
  · rw [ite0 h1, ite0 h1]; exact ⟨_, σ, μ, rfl, rfl, hRe⟩
