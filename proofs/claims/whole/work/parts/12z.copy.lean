/-! copy -/
theorem X_hasRow {σ : XS} {μ : MS} (h : RSh σ μ) {k q : Nat} (hk : k < 4) (hq : q ≤ 24) (eq : μ 6 k = nI q) (x y : Int32) : fS_hasRow σ k x y = some (if 0 ≤ x.toInt ∧ 0 ≤ y.toInt ∧ x.toInt + y.toInt ≤ q then 1 else 0) := by
  have e0 : (0 : Int32).toInt = 0 := rfl
  have eq' : (nI q).toInt = q := nI_toInt (by omega)
  unfold fS_hasRow
  rw [(h k hk).2.1, eq]
  by_cases h1 : x < 0
  · rw [if_pos h1, if_neg (by rw [lt_iff] at h1; omega)]
  · rw [if_neg h1]
    rw [lt_iff] at h1
    by_cases h2 : y < 0
    · rw [if_pos h2, if_neg (by rw [lt_iff] at h2; omega)]
    · rw [if_neg h2]
      rw [lt_iff] at h2
      by_cases h3 : nI q < x
      · rw [if_pos h3, if_neg (by rw [lt_iff] at h3; omega)]
      · rw [if_neg h3]
        rw [lt_iff] at h3
        obtain ⟨a, a1, a2, rfl⟩ := rng (x := x) (a := 0) (b := q) (by omega)
        have ea : (nI a).toInt = a := nI_toInt (by omega)
        have es : (nI q - nI a).toInt = (q : Int) - a := pk_sub_toInt (by omega) (by omega)
        by_cases h4 : nI q - nI a < y
        · rw [if_pos h4, if_neg (by rw [lt_iff] at h4; omega)]
        · rw [if_neg h4, if_pos (by rw [lt_iff] at h4; omega)]
theorem sum64 (x y : Int32) : (x.toInt64 + y.toInt64).toInt = x.toInt + y.toInt := by
  have h1 := x.le_toInt
  have h2 := x.toInt_lt
  have h3 := y.le_toInt
  have h4 := y.toInt_lt
  rw [Int64.toInt_add, w64, w64]
  exact Int.bmod_eq_of_le_mul_two (by omega) (by omega)
theorem M_copy1 {k p q : Nat} (hk : k < 4) (x3 x4 : Int32) (hq : p + q ≤ 24) (km : Int32 → Int32 → Int32 → MS → Option (Int32 × MS)) : ∀ (d i N : Nat) (μ : MS), q - i = d → i ≤ q → d < N → ∃ μ', fM_copy_L113 km N (nI k) (nI p) x3 x4 (nI q) (nI i) μ = km x3 x4 (nI q) μ' ∧ (∀ c, c ≠ 31 → μ' c = μ c) ∧ ∀ m, μ' 31 m = if i ≤ m ∧ m < q then μ 7 (24 * k + p + m) else μ 31 m := by
  intro d
  induction d with
  | zero =>
    intro i N μ hd hi hN
    obtain ⟨N, rfl⟩ : ∃ m, N = m + 1 := ⟨N - 1, by omega⟩
    rw [fM_copy_L113, if_pos (nI_le (by omega) (by omega))]
    exact ⟨μ, rfl, fun _ _ => rfl, fun m => by rw [if_neg (by omega)]⟩
  | succ d ih =>
    intro i N μ hd hi hN
    obtain ⟨N, rfl⟩ : ∃ m, N = m + 1 := ⟨N - 1, by omega⟩
    rw [fM_copy_L113, if_neg (nI_ge (by omega) (by omega)), show (24 : Int32) = nI 24 from rfl, pk_mul, nI_add, nI_add, ck_in (by omega) (by omega), ck_in (by omega) (by omega), bnd_s, clampI (by omega), clampI (by omega), bnd_s, nI_1]
    obtain ⟨μ', a1, a2, a3⟩ := ih (i + 1) N (up2 μ 31 i (μ 7 (24 * k + p + i))) (by omega) (by omega) (by omega)
    refine ⟨μ', a1, fun c hc => by rw [a2 c hc, up2_n _ _ _ hc], fun m => ?_⟩
    rw [a3, up2_s, up2_n _ _ _ (by decide)]
    unfold upd
    by_cases e1 : i + 1 ≤ m ∧ m < q
    · rw [if_pos e1, if_pos (by omega)]
    · rw [if_neg e1]
      by_cases e2 : m = i
      · rw [if_pos e2, if_pos (by omega), e2]
      · rw [if_neg e2, if_neg (by omega)]
theorem M_copy2 {k p q : Nat} (hk : k < 4) (hq : p + q ≤ 24) (km : Int32 → MS → Option (Int32 × MS)) : ∀ (d i N : Nat) (μ : MS), q - i = d → i ≤ q → d < N → ∃ μ', fM_copy_L150 km N (nI k) (nI p) (nI q) (nI i) μ = km (nI q) μ' ∧ (∀ c, c ≠ 7 → μ' c = μ c) ∧ ∀ m, μ' 7 m = if 24 * k + p + i ≤ m ∧ m < 24 * k + p + q then μ 31 (m - (24 * k + p)) else μ 7 m := by
  intro d
  induction d with
  | zero =>
    intro i N μ hd hi hN
    obtain ⟨N, rfl⟩ : ∃ m, N = m + 1 := ⟨N - 1, by omega⟩
    rw [fM_copy_L150, if_pos (nI_le (by omega) (by omega))]
    exact ⟨μ, rfl, fun _ _ => rfl, fun m => by rw [if_neg (by omega)]⟩
  | succ d ih =>
    intro i N μ hd hi hN
    obtain ⟨N, rfl⟩ : ∃ m, N = m + 1 := ⟨N - 1, by omega⟩
    rw [fM_copy_L150, if_neg (nI_ge (by omega) (by omega)), show (24 : Int32) = nI 24 from rfl, pk_mul, nI_add, nI_add, ck_in (by omega) (by omega), ck_in (by omega) (by omega), bnd_s, clampI (by omega), clampI (by omega), bnd_s, nI_1]
    obtain ⟨μ', a1, a2, a3⟩ := ih (i + 1) N (up2 μ 7 (24 * k + p + i) (μ 31 i)) (by omega) (by omega) (by omega)
    refine ⟨μ', a1, fun c hc => by rw [a2 c hc, up2_n _ _ _ hc], fun m => ?_⟩
    rw [a3, up2_s, up2_n _ _ _ (by decide)]
    unfold upd
    by_cases e1 : 24 * k + p + (i + 1) ≤ m ∧ m < 24 * k + p + q
    · rw [if_pos e1, if_pos (by omega)]
    · rw [if_neg e1]
      by_cases e2 : m = 24 * k + p + i
      · rw [if_pos e2, if_pos (by omega), e2, show 24 * k + p + i - (24 * k + p) = i by omega]
      · rw [if_neg e2, if_neg (by omega)]
/-- the rows of sheets -/
theorem Re_rows {σ σ' : XS} {μ μ' : MS} (hRe : Re σ μ) (a1 : ∀ c, (c < 60 ∨ 64 ≤ c) → xi σ' c = xi σ c) (a2 : σ'.2 = σ.2) (b1 : ∀ c, c ≠ 7 → c ≠ 31 → μ' c = μ c) (h : ∀ w i, w < 4 → i < 24 → xi σ' (60 + w) i = μ' 7 (24 * w + i) ∧ okV (μ' 7 (24 * w + i))) : Re σ' μ' := by
  obtain ⟨T, n, j, hT, hj, hB, hI, hSh, hSl, hTp, hWt⟩ := hRe
  refine Re_side hT hj hB hI ⟨by rw [a1 0 (by omega)], by rw [a1 0 (by omega)], by rw [a1 0 (by omega)]⟩ (a1 1 (by omega)) (a1 2 (by omega)) (fun c h1 h2 => a1 c (by omega)) a2 ⟨by rw [b1 0 (by decide) (by decide)], by rw [b1 0 (by decide) (by decide)]⟩ (b1 1 (by decide) (by decide)) (b1 2 (by decide) (by decide)) (b1 14 (by decide) (by decide)) (b1 15 (by decide) (by decide)) ⟨?_, ?_, ?_, ?_⟩
  · intro w hw
    obtain ⟨c1, c2, c3, c4, c5⟩ := hSh w hw
    rw [a1 (10 + w) (by omega), b1 5 (by decide) (by decide), b1 6 (by decide) (by decide)]
    exact ⟨c1, c2, fun i hi => h w i hw hi, c4, c5⟩
  · intro w hw
    rw [a1 (20 + w) (by omega), a1 (10 + (4 + w)) (by omega), a1 (60 + (4 + w)) (by omega), b1 8 (by decide) (by decide), b1 9 (by decide) (by decide), b1 10 (by decide) (by decide), b1 11 (by decide) (by decide), b1 12 (by decide) (by decide)]
    exact hSl w hw
  · unfold RTp
    rw [a1 5 (by omega), a1 54 (by omega), b1 0 (by decide) (by decide), b1 17 (by decide) (by decide)]
    exact hTp
  · unfold RWt
    rw [a1 0 (by omega), a1 56 (by omega), b1 0 (by decide) (by decide), b1 32 (by decide) (by decide)]
    exact hWt
theorem L_copy : Ls_copy Re := by
  intro σ μ x1 x2 x3 x4 x5 hRe
  obtain ⟨T, n, j, hT, hj, hB, hI, hSh, hSl, hTp, hWt⟩ := id hRe
  have e0 : (0 : Int32).toInt = 0 := rfl
  unfold fX_copy fM_copy
  rw [X_sheetQ, M_sheetQ, ob_s, ob_s, X_sheetQ, M_sheetQ, ob_s, ob_s]
  by_cases h1 : 0 ≤ x1.toInt ∧ x1.toInt ≤ 3
  · rw [ite1 h1, ite1 h1]
    by_cases h2 : 0 ≤ x3.toInt ∧ x3.toInt ≤ 3
    · obtain ⟨k, k1, k2, rfl⟩ := rng (a := 0) (b := 3) h1
      obtain ⟨p, p1, p2, rfl⟩ := rng (a := 0) (b := 3) h2
      obtain ⟨s1, s2, s3, s4, q, q1, q2⟩ := hSh k (by omega)
      obtain ⟨t1, t2, t3, t4, u, u1, u2⟩ := hSh p (by omega)
      rw [ite1 h2, ite1 h2]
      simp only [ck_in (a := k) (n := 4) (by omega) (by omega), clampI (n := k) (by omega), ck_in (a := p) (n := 4) (by omega) (by omega), clampI (n := p) (by omega)]
      rcases X_missing hSh (k := k) (by omega) with ⟨c1, c2⟩ | ⟨c1, c2⟩
      · rw [c1, ob_s, i1, if_pos (Int32.not_le.mp c2)]; exact ⟨_, σ, μ, rfl, rfl, hRe⟩
      · rw [c1, ob_s, i0, if_neg (Int32.not_lt.mpr c2)]
        rcases X_missing hSh (k := p) (by omega) with ⟨d1, d2⟩ | ⟨d1, d2⟩
        · rw [d1, ob_s, i1, if_neg d2]; exact ⟨_, σ, μ, rfl, rfl, hRe⟩
        · rw [d1, ob_s, i0, if_pos d2, s1, t1]
          by_cases h3 : μ 5 k = μ 5 p
          · rw [if_pos h3, if_pos h3, X_hasRow hSh (by omega) q1 q2, ob_s, X_hasRow hSh (by omega) u1 u2, ob_s]
            have g1 : (0 < lg_cmp (x2.toInt64 + x5.toInt64) (μ 6 k).toInt64) ↔ (q : Int) < x2.toInt + x5.toInt := by
              rw [cmp_gt, Int64.lt_iff_toInt_lt, sum64, w64, q2, nI_toInt (by omega)]
            have g2 : (lg_cmp (x4.toInt64 + x5.toInt64) (μ 6 p).toInt64 ≤ 0) ↔ ¬ (u : Int) < x4.toInt + x5.toInt := by
              rw [← Int32.not_lt, cmp_gt, Int64.lt_iff_toInt_lt, sum64, w64, u2, nI_toInt (by omega)]
            have l2 : x2 < 0 ↔ x2.toInt < 0 := by rw [lt_iff, e0]
            have l4 : x4 < 0 ↔ x4.toInt < 0 := by rw [lt_iff, e0]
            have l5 : x5 < 0 ↔ x5.toInt < 0 := by rw [lt_iff, e0]
            by_cases h4 : (0 ≤ x2.toInt ∧ 0 ≤ x5.toInt ∧ x2.toInt + x5.toInt ≤ q) ∧ (0 ≤ x4.toInt ∧ 0 ≤ x5.toInt ∧ x4.toInt + x5.toInt ≤ u)
            · rw [ite1 h4.1, ite1 h4.2, if_neg (by rw [l2]; omega), if_neg (by rw [l4]; omega), if_neg (by rw [l5]; omega), if_neg (by rw [g1]; omega), if_pos (by rw [g2]; omega)]
              obtain ⟨a, a1, a2, rfl⟩ := rng (x := x2) (a := 0) (b := q) (by omega)
              obtain ⟨b, b1, b2, rfl⟩ := rng (x := x4) (a := 0) (b := u) (by omega)
              obtain ⟨c, c1', c2', rfl⟩ := rng (x := x5) (a := 0) (b := 24) (by omega)
              rw [nI_toInt (by omega), nI_toInt (by omega), nI_toInt (by omega)] at h4
              obtain ⟨μ1, m1, m2, m3⟩ := M_copy1 (k := k) (p := a) (q := c) (by omega) (nI p) (nI b) (by omega) (fun (x3 : Int32) (x4 : Int32) (x5 : Int32) (μ : MS) => fM_copy_L150 (fun (x5 : Int32) (μ : MS) => some (x5, μ)) 10000 x3 x4 x5 (0 : Int32) μ) c 0 10000 μ (by omega) (by omega) (by omega)
              obtain ⟨μ2, n1, n2, n3⟩ := M_copy2 (k := p) (p := b) (q := c) (by omega) (by omega) (fun (x5 : Int32) (μ : MS) => some (x5, μ)) c 0 10000 μ1 (by omega) (by omega) (by omega)
              unfold cp3
              rw [clampI (n := a) (by omega), clampI (n := b) (by omega), clampI (n := c) (by omega), if_pos ⟨nI_pos (by omega), nI_pos (by omega), nI_pos (by omega), by omega, by omega⟩, bnd_s]
              refine ⟨nI c, _, μ2, rfl, m1.trans n1, Re_rows hRe (fun e he => xi_uan _ _ (by omega)) rfl (fun e f1 f2 => by rw [n2 e f1, m2 e f2]) (fun w i hw hi => ?_)⟩
              obtain ⟨v1, v2, v3, v4, v5⟩ := hSh w hw
              rw [n3, m2 7 (by decide)]
              by_cases ew : w = p
              · subst ew
                rw [xi_ua]
                by_cases ei : b ≤ i ∧ i < b + c
                · rw [pk_cpy_in ei.1 ei.2, if_pos (by omega), m3, if_pos (by omega), show 24 * k + a + (24 * w + i - (24 * w + b)) = 24 * k + (a + (i - b)) by omega]
                  exact s3 (a + (i - b)) (by omega)
                · rw [pk_cpy_out (by omega), if_neg (by omega)]
                  exact v3 i hi
              · rw [xi_uan _ _ (by omega), if_neg (by omega)]
                exact v3 i hi
            · have hx : (if (if 0 ≤ x2.toInt ∧ 0 ≤ x5.toInt ∧ x2.toInt + x5.toInt ≤ (q : Int) then (1 : Int32) else 0) = 0 then (some ((-1000000013 : Int32), σ) : Option (Int32 × XS)) else if (if 0 ≤ x4.toInt ∧ 0 ≤ x5.toInt ∧ x4.toInt + x5.toInt ≤ (u : Int) then (1 : Int32) else 0) = 0 then some ((-1000000013 : Int32), σ) else cp3 x2 x4 x5 24 24 <| bnd (xua σ (60 + p) (va_cpy (xi σ (60 + k)) (xi σ (60 + p)) (x2).toNatClampNeg (x4).toNatClampNeg (x5).toNatClampNeg)) fun σ22 => some (x5, σ22)) = some ((-1000000013 : Int32), σ) := by
                by_cases f1 : 0 ≤ x2.toInt ∧ 0 ≤ x5.toInt ∧ x2.toInt + x5.toInt ≤ (q : Int)
                · rw [ite1 f1, ite0 (fun f2 => h4 ⟨f1, f2⟩)]
                · rw [ite0 f1]
              rw [hx]
              refine ⟨-1000000013, σ, μ, rfl, ?_, hRe⟩
              by_cases f1 : x2 < 0
              · rw [if_pos f1]
              · rw [if_neg f1]
                by_cases f2 : x4 < 0
                · rw [if_pos f2]
                · rw [if_neg f2]
                  by_cases f3 : x5 < 0
                  · rw [if_pos f3]
                  · rw [if_neg f3]
                    by_cases f4 : 0 < lg_cmp (x2.toInt64 + x5.toInt64) (μ 6 k).toInt64
                    · rw [if_pos f4]
                    · rw [if_neg f4, if_neg]
                      rw [g2]
                      rw [l2] at f1
                      rw [l4] at f2
                      rw [l5] at f3
                      rw [g1] at f4
                      omega
          · rw [if_neg h3, if_neg h3]; exact ⟨_, σ, μ, rfl, rfl, hRe⟩
    · rw [ite0 h2, ite0 h2]; exact ⟨_, σ, μ, rfl, rfl, hRe⟩
  · rw [ite0 h1, ite0 h1]; exact ⟨_, σ, μ, rfl, rfl, hRe⟩
