/-! mark -/
theorem sx_ar (a b : Int) (h0 : 0 ≤ b) (h1 : b < 65536) : Int.bmod (b * 65536) 4294967296 / 65536 = Int.bmod (65536 * a + b) 65536 := by
  rw [Int.bmod_def, Int.bmod_def]
  have e1 : b * 65536 % ((4294967296 : Nat) : Int) = b * 65536 := by rw [Int.emod_eq_of_lt (by omega) (by omega)]
  have e2 : (65536 * a + b) % ((65536 : Nat) : Int) = b := by omega
  rw [e1, e2]
  by_cases h : b < 32768
  · rw [if_pos (by omega), if_pos (by omega)]; omega
  · rw [if_neg (by omega), if_neg (by omega)]; omega
theorem sx16 (x : Int32) : (x <<< ((16 : Int32) &&& 31)) >>> ((16 : Int32) &&& 31) = x.toInt16.toInt32 := by
  apply Int32.toInt_inj.mp
  rw [pk_shr _ _ 16 (by decide), Int16.toInt_toInt32, Int32.toInt_toInt16]
  have h1 := pk_shl x ((16 : Int32) &&& 31) 16 (by decide)
  have h2 : ∀ y : Int32, y.toInt = Int.bmod (y.toBitVec.toNat : Int) (2 ^ 32) := fun y => BitVec.toInt_eq_toNat_bmod y.toBitVec
  rw [h2 (x <<< _), h2 x, h1]
  generalize x.toBitVec.toNat = N
  rw [Int.bmod_bmod_of_dvd (by decide), Int.shiftRight_eq_div_pow]
  have e : N * 2 ^ 16 % 2 ^ 32 = (N % 65536) * 65536 := by
    rw [show (2 : Nat) ^ 32 = 65536 * 2 ^ 16 from rfl, Nat.mul_mod_mul_right]
  rw [e]
  have g := sx_ar ((N / 65536 : Nat) : Int) ((N % 65536 : Nat) : Int) (by omega) (by omega)
  have e2 : (65536 * ((N / 65536 : Nat) : Int) + ((N % 65536 : Nat) : Int)) = (N : Int) := by omega
  rw [e2] at g
  rw [Int.natCast_mul]
  exact g
theorem ok16 (x : Int32) : okV x.toInt16.toInt32 := by
  right
  rw [Int16.toInt_toInt32]
  have h1 := x.toInt16.le_toInt
  have h2 := x.toInt16.toInt_lt
  omega
/-- one place of a sheet -/
theorem Re_place {σ : XS} {μ : MS} (hRe : Re σ μ) {k i : Nat} (hk : k < 4) (hi : i < 24) {v : Int32} (hv : okV v) : Re (xu σ (60 + k) i v) (up2 μ 7 (24 * k + i) v) := by
  obtain ⟨T, n, j, hT, hj, hB, hI, hSh, hSl, hTp, hWt⟩ := hRe
  have a1 : ∀ c, c ≠ 60 + k → xi (xu σ (60 + k) i v) c = xi σ c := fun c h => xi_un _ _ _ h
  have b1 : ∀ c, c ≠ 7 → (up2 μ 7 (24 * k + i) v) c = μ c := fun c h => up2_n _ _ _ h
  refine Re_side hT hj hB hI ⟨by rw [a1 0 (by omega)], by rw [a1 0 (by omega)], by rw [a1 0 (by omega)]⟩ (a1 1 (by omega)) (a1 2 (by omega)) (fun c h1 h2 => a1 c (by omega)) rfl ⟨by rw [b1 0 (by decide)], by rw [b1 0 (by decide)]⟩ (b1 1 (by decide)) (b1 2 (by decide)) (b1 14 (by decide)) (b1 15 (by decide)) ⟨?_, ?_, ?_, ?_⟩
  · intro w hw
    obtain ⟨c1, c2, c3, c4, c5⟩ := hSh w hw
    rw [a1 (10 + w) (by omega), b1 5 (by decide), b1 6 (by decide)]
    refine ⟨c1, c2, fun m hm => ?_, c4, c5⟩
    rw [up2_s]
    by_cases e : w = k
    · subst e
      rw [xi_u]
      by_cases e2 : m = i
      · subst e2
        rw [pk_us, pk_us]; exact ⟨rfl, hv⟩
      · rw [pk_un e2, pk_un (by omega)]; exact c3 m hm
    · rw [a1 (60 + w) (by omega), pk_un (by omega)]; exact c3 m hm
  · intro w hw
    rw [a1 (20 + w) (by omega), a1 (10 + (4 + w)) (by omega), a1 (60 + (4 + w)) (by omega), b1 8 (by decide), b1 9 (by decide), b1 10 (by decide), b1 11 (by decide), b1 12 (by decide)]
    exact hSl w hw
  · unfold RTp
    rw [a1 5 (by omega), a1 54 (by omega), b1 0 (by decide), b1 17 (by decide)]
    exact hTp
  · unfold RWt
    rw [a1 0 (by omega), a1 56 (by omega), b1 0 (by decide), b1 32 (by decide)]
    exact hWt
theorem X_shas {σ : XS} {μ : MS} (h : RSh σ μ) {k q : Nat} (hk : k < 4) (hq : q ≤ 24) (eq : μ 6 k = nI q) (x2 : Int32) : fS_has σ k x2 = some (if 0 ≤ x2.toInt ∧ x2.toInt ≤ (q : Int) - 1 then 1 else 0) := by
  unfold fS_has
  rw [(h k hk).2.1, eq]
  by_cases h5 : x2 < 0
  · rw [if_pos h5, if_neg (by rw [lt_iff] at h5; have : (0 : Int32).toInt = 0 := rfl; omega)]
  · rw [if_neg h5]
    have h5' : 0 ≤ x2.toInt := by rw [lt_iff] at h5; have : (0 : Int32).toInt = 0 := rfl; omega
    by_cases h6 : nI q ≤ x2
    · rw [if_pos h6, if_neg (by rw [le_iff, nI_toInt (by omega)] at h6; omega)]
    · rw [if_neg h6, if_pos (by rw [le_iff, nI_toInt (by omega)] at h6; omega)]
theorem L_mark : Ls_mark Re := by
  intro σ μ x1 x2 x3 hRe
  obtain ⟨T, n, j, hT, hj, hB, hI, hSh, hSl, hTp, hWt⟩ := id hRe
  unfold fX_mark fM_mark
  rw [X_sheetQ, M_sheetQ, ob_s, ob_s]
  by_cases h1 : 0 ≤ x1.toInt ∧ x1.toInt ≤ 3
  · obtain ⟨k, k1, k2, rfl⟩ := rng (a := 0) (b := 3) h1
    obtain ⟨s1, s2, s3, s4, q, q1, q2⟩ := hSh k (by omega)
    have e1 : (nI q - 1).toInt = (q : Int) - 1 := by rw [show (1 : Int32) = nI 1 from rfl, pk_sub_toInt (by omega) (by omega)]; rfl
    rw [ite1 h1, ite1 h1]
    simp only [ck_in (a := k) (n := 4) (by omega) (by omega), clampI (n := k) (by omega)]
    rcases X_missing hSh (k := k) (by omega) with ⟨c1, c2⟩ | ⟨c1, c2⟩
    · rw [c1, ob_s, i1, if_neg c2]; exact ⟨_, σ, μ, rfl, rfl, hRe⟩
    · rw [c1, ob_s, i0, if_pos c2, X_shas hSh (by omega) q1 q2, ob_s, q2, M_in μ x2 (a := 0) (b := (q : Int) - 1) rfl (by rw [w64]; exact e1), ob_s]
      by_cases h2 : 0 ≤ x2.toInt ∧ x2.toInt ≤ (q : Int) - 1
      · obtain ⟨i, i1', i2, rfl⟩ := rng (x := x2) (a := 0) (b := q - 1) (by omega)
        have hi : i < 24 := by rw [nI_toInt (by omega)] at h2; omega
        rw [ite1 h2, ite1 h2, s1]
        unfold fM_mark_J63 fM_mark_J96
        simp only [ck_in (a := k) (n := 4) (by omega) (by omega), clampI (n := k) (by omega), ck_in (a := i) (n := 24) (by omega) (by omega), clampI (n := i) (by omega), show (24 : Int32) = nI 24 from rfl, pk_mul, nI_add, ck_in (a := 24 * k + i) (n := 96) (by omega) (by omega), clampI (n := 24 * k + i) (by omega), bnd_s]
        by_cases h3 : μ 5 k = 0
        · rw [if_pos h3, if_pos h3]
          by_cases h4 : x3 = -1000000005
          · rw [if_pos h4, if_pos h4]; exact ⟨_, σ, μ, rfl, rfl, hRe⟩
          · rw [if_neg h4, if_neg h4, if_neg (show ¬ μ 5 k = 1 by rw [h3]; decide), if_pos h3, sx16]
            exact ⟨_, _, _, rfl, rfl, Re_place hRe (by omega) hi (ok16 x3)⟩
        · have h5 : μ 5 k = 1 := by
            rcases s4 with e | e | e
            · rw [e] at c2; exact absurd c2 (by decide)
            · exact absurd e h3
            · exact e
          rw [if_neg h3, if_neg h3, if_pos h5, if_neg h3]
          by_cases h4 : x3 = -1000000005
          · rw [if_pos h4, if_pos h4]
            exact ⟨_, _, _, rfl, rfl, Re_place hRe (by omega) hi (Or.inl h4)⟩
          · rw [if_neg h4, if_neg h4, X_in σ x3 (a := -99999) (b := 99999) rfl rfl, ob_s, M_in μ x3 (a := -99999) (b := 99999) rfl rfl, ob_s]
            by_cases h6 : -99999 ≤ x3.toInt ∧ x3.toInt ≤ 99999
            · rw [ite1 h6, ite1 h6]
              exact ⟨_, _, _, rfl, rfl, Re_place hRe (by omega) hi (Or.inr h6)⟩
            · rw [ite0 h6, ite0 h6]; exact ⟨_, σ, μ, rfl, rfl, hRe⟩
      · rw [ite0 h2, ite0 h2]; exact ⟨_, σ, μ, rfl, rfl, hRe⟩
  · rw [ite0 h1, ite0 h1]; exact ⟨_, σ, μ, rfl, rfl, hRe⟩
