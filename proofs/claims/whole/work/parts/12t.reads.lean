/-! reads -/
theorem X_missing {σ : XS} {μ : MS} (h : RSh σ μ) {k : Nat} (hk : k < 4) : (fS_isMissing σ k = some 1 ∧ ¬ 0 ≤ μ 5 k) ∨ (fS_isMissing σ k = some 0 ∧ 0 ≤ μ 5 k) := by
  obtain ⟨a1, a2, a3, a4, a5⟩ := h k hk
  unfold fS_isMissing
  rw [a1]
  rcases a4 with e | e | e
  · left; rw [e]; exact ⟨if_pos rfl, by decide⟩
  · right; rw [e]; exact ⟨if_neg (by decide), by decide⟩
  · right; rw [e]; exact ⟨if_neg (by decide), by decide⟩
theorem X_isNum {σ : XS} {μ : MS} (h : RSh σ μ) {k q i : Nat} (hk : k < 4) (hq : q ≤ 24) (eq : μ 6 k = nI q) (hi : i < q) : fS_isNumber σ k (nI i) = some (if μ 7 (24 * k + i) = -1000000005 then 0 else 1) := by
  obtain ⟨a1, a2, a3, a4, a5⟩ := h k hk
  unfold fS_isNumber fS_has
  rw [if_neg (nI_pos (by omega)), a2, eq, if_neg (nI_ge hi (by omega)), ob_s, i1, ck_in (by omega) (by omega), clampI (by omega), (a3 i (by omega)).1]
  by_cases e : μ 7 (24 * k + i) = -1000000005
  · rw [if_pos e, if_pos e]
  · rw [if_neg e, if_neg e]
theorem B_hasQ {σ : XS} {b : Nat} {μ : MS} {R : Option (List Int32)} {n x j : Nat} (h : BX σ b μ R n x j NoD) {i : Nat} (hi : i < 100) : (i < n ∧ fB_has σ b (nI i) = some 1) ∨ (n ≤ i ∧ fB_has σ b (nI i) = some 0) := by
  have hn := h.1.1
  by_cases e : i < n
  · exact Or.inl ⟨e, X_has hn (B_n h) e⟩
  · right
    refine ⟨by omega, ?_⟩
    unfold fB_has
    rw [if_neg (nI_pos (by omega)), B_n h, if_pos (nI_le (by omega) (by omega))]
theorem B_readsL {σ : XS} {μ : MS} {R : Option (List Int32)} {n j : Nat} (h : BX σ 0 μ R n 0 j NoD) (hS : RSh σ μ) {k q : Nat} (hk : k < 4) (hq : q ≤ 24) (eq : μ 6 k = nI q) (kk : Option Int32) : ∀ (d i N1 N2 : Nat), q - i = d → i ≤ q → d < N1 → d < N2 →
    ∃ z, (z = kk ∨ ∃ r, z = some r) ∧ fX_reads_L29 σ kk N1 k (nI i) = z ∧ fM_reads_L25 μ kk N2 (nI k) (nI i) = z := by
  have hn := h.1.1
  obtain ⟨a1, a2, a3, a4, a5⟩ := hS k hk
  intro d
  induction d with
  | zero =>
    intro i N1 N2 hd hi h1 h2
    obtain ⟨N1, rfl⟩ : ∃ m, N1 = m + 1 := ⟨N1 - 1, by omega⟩
    obtain ⟨N2, rfl⟩ : ∃ m, N2 = m + 1 := ⟨N2 - 1, by omega⟩
    refine ⟨kk, Or.inl rfl, ?_, ?_⟩
    · rw [fX_reads_L29, a2, eq, if_pos (nI_le (by omega) (by omega))]
    · rw [fM_reads_L25, ck_in (by omega) (by omega), clampI (by omega), eq, if_pos (nI_le (by omega) (by omega))]
  | succ d ih =>
    intro i N1 N2 hd hi h1 h2
    obtain ⟨N1, rfl⟩ : ∃ m, N1 = m + 1 := ⟨N1 - 1, by omega⟩
    obtain ⟨N2, rfl⟩ : ∃ m, N2 = m + 1 := ⟨N2 - 1, by omega⟩
    rw [fX_reads_L29, a2, eq, if_neg (nI_ge (by omega) (by omega)), X_isNum hS hk hq eq (by omega), ob_s]
    rw [fM_reads_L25, ck_in (a := k) (n := 4) (by omega) (by omega), clampI (n := k) (by omega), eq, if_neg (nI_ge (by omega) (by omega)), show (24 : Int32) = nI 24 from rfl, pk_mul, nI_add, ck_in (a := 24 * k + i) (n := 96) (by omega) (by omega), clampI (n := 24 * k + i) (by omega)]
    simp only [bnd_s, nI_1]
    by_cases e : μ 7 (24 * k + i) = -1000000005
    · rw [if_pos e, i0, if_pos e]
      exact ih (i + 1) N1 N2 (by omega) (by omega) (by omega) (by omega)
    · rw [if_neg e, i1, if_neg e, h.1.2.2.1]
      rcases B_hasQ h (i := i) (by omega) with ⟨c1, c2⟩ | ⟨c1, c2⟩
      · rw [c2, ob_s, i1, ck_in (by omega) (by omega), ck_in (by omega) (by omega), clampI (by omega), (a3 i (by omega)).1, h.2.1.2.1 i c1, if_neg (nI_ge c1 (by omega)), pl 6, nI_add, ck_in (by omega) (by omega), clampI (by omega)]
        by_cases e2 : μ 7 (24 * k + i) = μ 1 (6 + i)
        · rw [if_pos e2, if_pos e2]
          exact ih (i + 1) N1 N2 (by omega) (by omega) (by omega) (by omega)
        · rw [if_neg e2, if_neg e2]
          exact ⟨_, Or.inr ⟨_, rfl⟩, rfl, rfl⟩
      · rw [c2, ob_s, i0, if_pos (nI_le c1 (by omega))]
        exact ⟨_, Or.inr ⟨_, rfl⟩, rfl, rfl⟩
theorem L_reads : Ls_reads Re := by
  intro σ μ x1 hRe
  obtain ⟨T, n, j, hT, hj, hB, hI, hSh, hSl, hTp, hWt⟩ := id hRe
  unfold fX_reads fM_reads
  rw [X_sheetQ, M_sheetQ, ob_s, ob_s]
  by_cases h1 : 0 ≤ x1.toInt ∧ x1.toInt ≤ 3
  · obtain ⟨k, k1, k2, rfl⟩ := rng (a := 0) (b := 3) h1
    obtain ⟨q, q1, q2⟩ := (hSh k (by omega)).2.2.2.2
    rw [ite1 h1, ite1 h1, ck_in (by omega) (by omega), ck_in (by omega) (by omega), clampI (by omega)]
    rcases X_missing hSh (k := k) (by omega) with ⟨c1, c2⟩ | ⟨c1, c2⟩
    · rw [c1, ob_s, i1, if_neg c2]; exact ⟨_, rfl, rfl⟩
    · rw [c1, ob_s, i0, if_pos c2]
      obtain ⟨z, d2, d1, d3⟩ := B_readsL hB hSh (k := k) (by omega) q1 q2 (some (-1000000005 : Int32)) q 0 10000 10000 (by omega) (by omega) (by omega) (by omega)
      rcases d2 with d2 | ⟨r, d2⟩
      · rw [d2] at d1 d3; exact ⟨_, d1, d3⟩
      · rw [d2] at d1 d3; exact ⟨r, d1, d3⟩
  · rw [ite0 h1, ite0 h1]; exact ⟨_, rfl, rfl⟩
