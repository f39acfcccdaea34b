/-! rises -/
def heldv (x : Int32) : Int32 := if x < 0 then 0 else if 999 < x then 999 else x
def kR (kd y : Int32) : Int32 := if kd = 1 then (if 0 < y - 20 then y - 20 else 0) else if kd = 2 then (if 0 < y - 5 then y - 5 else 0) else if kd = 3 then (if 0 < y - 20 then y - 20 else 0) / 2 else if kd = 4 then 0 else if kd = 5 then 2 * y else y
def riseV (R : Option (List Int32)) (kd th tn mv : Int32) : Int32 := kR kd (match R with
  | none => th
  | some cs => heldv (evV (f3 th tn mv) cs))
theorem heldv_in (x : Int32) : ∃ j : Nat, j ≤ 999 ∧ heldv x = nI j := by
  unfold heldv
  by_cases h : x < 0
  · exact ⟨0, by omega, by rw [if_pos h]; rfl⟩
  · rw [if_neg h]
    by_cases h2 : 999 < x
    · exact ⟨999, by omega, by rw [if_pos h2]; rfl⟩
    · rw [if_neg h2]
      exact nI_of2 (M := 999) (n := 999) (by decide) h (by rw [le_iff]; rw [lt_iff] at h2; omega)
theorem M_within (μ : MS) (x : Int32) : fM_within μ x 999 = some (heldv x) := by
  unfold fM_within heldv
  by_cases h : x < 0
  · rw [if_pos h, if_neg (by rw [le_iff]; rw [lt_iff] at h; omega)]
  · rw [if_neg h, if_pos (by rw [le_iff]; rw [lt_iff] at h; omega)]
    by_cases h2 : 999 < x
    · rw [if_pos h2, if_neg (by rw [le_iff]; rw [lt_iff] at h2; omega)]
    · rw [if_neg h2, if_pos (by rw [le_iff]; rw [lt_iff] at h2; omega)]
theorem X_held (σ : XS) (x : Int32) : fX_held σ x 0 999 = some (heldv x) := by
  unfold fX_held heldv
  by_cases h : x < 999
  · rw [if_pos h]
    by_cases h2 : x < 0
    · rw [if_pos h2, if_neg (by rw [lt_iff]; rw [lt_iff] at h2; omega)]
    · rw [if_neg h2, if_neg (show ¬ (999 : Int32) < x by rw [lt_iff]; rw [lt_iff] at h; omega)]
      by_cases h3 : 0 < x
      · rw [if_pos h3]
      · rw [if_neg h3]
        congr 1
        apply Int32.toInt_inj.mp
        rw [lt_iff] at h2 h3
        have : (0 : Int32).toInt = 0 := rfl
        omega
  · rw [if_neg h, if_pos (by decide)]
    have h2 : ¬ x < 0 := by rw [lt_iff] at h ⊢; have : (0 : Int32).toInt = 0 := rfl; have : (999 : Int32).toInt = 999 := rfl; omega
    rw [if_neg h2]
    by_cases h3 : 999 < x
    · rw [if_pos h3]
    · rw [if_neg h3]
      congr 1
      apply Int32.toInt_inj.mp
      rw [lt_iff] at h h3
      have : (999 : Int32).toInt = 999 := rfl
      omega
theorem sub_t {j k : Nat} (hj : j ≤ 999) (hk : k ≤ 999) : (nI j - nI k).toInt = (j : Int) - k := pk_sub_toInt (by omega) (by omega)
theorem heldv_sub {j k : Nat} (hj : j ≤ 999) (hk : k ≤ 999) : heldv (nI j - nI k) = if 0 < nI j - nI k then nI j - nI k else 0 := by
  have h := sub_t hj hk
  unfold heldv
  have e0 : (0 : Int32).toInt = 0 := rfl
  have e9 : (999 : Int32).toInt = 999 := rfl
  by_cases h1 : nI j - nI k < 0
  · rw [if_pos h1, if_neg (by rw [lt_iff] at h1 ⊢; omega)]
  · rw [if_neg h1, if_neg (by rw [lt_iff]; omega)]
    by_cases h2 : 0 < nI j - nI k
    · rw [if_pos h2]
    · rw [if_neg h2]
      apply Int32.toInt_inj.mp
      rw [lt_iff] at h1 h2
      omega
theorem X_kR (σ : XS) (kd y : Int32) : fK_rises σ kd y = some (kR kd y) := by
  unfold fK_rises kR
  rw [bnd_s]
  by_cases h1 : kd = 1
  · rw [if_pos h1, if_pos h1]
  · rw [if_neg h1, if_neg h1]
    by_cases h2 : kd = 2
    · rw [if_pos h2, if_pos h2]
    · rw [if_neg h2, if_neg h2]
      by_cases h3 : kd = 3
      · rw [if_pos h3, if_pos h3]
      · rw [if_neg h3, if_neg h3]
        by_cases h4 : kd = 4
        · rw [if_pos h4, if_pos h4]
        · rw [if_neg h4, if_neg h4]
          by_cases h5 : kd = 5
          · rw [if_pos h5, if_pos h5]
          · rw [if_neg h5, if_neg h5]
theorem M_of (μ : MS) {k w : Nat} (h : 20 + 4 * k + w < 3076) : fM_of μ (nI k) (nI w) = some (μ 1 (20 + 4 * k + w)) := by
  unfold fM_of
  rw [pl 20, pl 4, pk_mul, nI_add, nI_add, ck_in h (by omega), clampI (by omega)]
theorem M_kR (μ : MS) {k : Nat} (hk : k < 14) {y : Nat} (hy : y ≤ 999) : fM_rises_J21 (nI k) (nI y) μ = some (kR (μ 1 (20 + 4 * k)) (nI y), μ) := by
  unfold fM_rises_J21 kR
  rw [show (0 : Int32) = nI 0 from rfl, M_of μ (by omega), ob_s, Nat.add_zero, M_within, ob_s, M_within, ob_s, show (20 : Int32) = nI 20 from rfl, show (5 : Int32) = nI 5 from rfl, heldv_sub hy (by omega), heldv_sub hy (by omega)]
  generalize μ 1 (20 + 4 * k) = kd
  by_cases h1 : kd = 1
  · rw [if_pos h1, if_pos h1]; rfl
  · rw [if_neg h1, if_neg h1]
    by_cases h2 : kd = 2
    · rw [if_pos h2, if_pos h2]; rfl
    · rw [if_neg h2, if_neg h2]
      by_cases h3 : kd = 3
      · rw [if_pos h3, if_pos h3]; rfl
      · rw [if_neg h3, if_neg h3]
        by_cases h4 : kd = 4
        · rw [if_pos h4, if_pos h4]
        · rw [if_neg h4, if_neg h4]
          by_cases h5 : kd = nI 5
          · rw [if_pos h5, if_pos h5]
          · rw [if_neg h5, if_neg h5]
/-! the model's store of rises that a text gave -/
theorem bv_nI {n : Nat} (h : n < 2 ^ 32) : (nI n).toBitVec.toNat = n := pk_tn h
theorem nI_or {a b : Nat} (ha : a < 2 ^ 31) (hb : b < 2 ^ 31) : nI a ||| nI b = nI (a ||| b) := by
  apply Int32.toBitVec_inj.mp
  apply BitVec.eq_of_toNat_eq
  rw [Int32.toBitVec_or, BitVec.toNat_or, bv_nI (by omega), bv_nI (by omega), bv_nI (Nat.or_lt_two_pow (by omega) (by omega))]
theorem key_eq {mv tn th : Nat} (h1 : mv < 2 ^ 19) (h2 : tn < 16) (h3 : th < 128) :
    (1 : Int32) + (((nI mv <<< ((11 : Int32) &&& 31)) ||| (nI tn <<< ((7 : Int32) &&& 31))) ||| nI th) = nI (1 + mv * 2048 + tn * 128 + th) := by
  rw [pk_shlN _ 11 (by decide) (by omega), pk_shlN _ 7 (by decide) (by omega), nI_or (by omega) (by omega)]
  have e1 : mv * 2 ^ 11 ||| tn * 2 ^ 7 = mv * 2 ^ 11 + tn * 2 ^ 7 := by
    have := Nat.shiftLeft_add_eq_or_of_lt (i := 11) (b := tn * 2 ^ 7) (by omega) mv
    rw [Nat.shiftLeft_eq] at this
    exact this.symm
  rw [e1, nI_or (by omega) (by omega)]
  have e2 : mv * 2 ^ 11 + tn * 2 ^ 7 ||| th = mv * 2 ^ 11 + tn * 2 ^ 7 + th := by
    have := Nat.shiftLeft_add_eq_or_of_lt (i := 7) (b := th) (by omega) (mv * 2 ^ 4 + tn)
    rw [Nat.shiftLeft_eq, show (mv * 2 ^ 4 + tn) * 2 ^ 7 = mv * 2 ^ 11 + tn * 2 ^ 7 by omega] at this
    exact this.symm
  rw [e2, pl 1, nI_add]
  congr 1
  omega
def CO (μ : MS) (cs : List Int32) : Prop := ∀ j, j < 4096 → ¬ μ 14 j = 0 → ∃ th tn mv : Nat, th < 128 ∧ tn < 16 ∧ mv < 2 ^ 19 ∧ μ 14 j = nI (1 + mv * 2048 + tn * 128 + th) ∧ μ 15 j = heldv (evV (f3 (nI th) (nI tn) (nI mv)) cs)
/-- what the text of rises stands on in the model -/
def RM (μ : MS) (R : Option (List Int32)) : Prop := match R with
  | none => μ 0 12 < 0
  | some cs => ∃ o t : Nat, t < 14 ∧ μ 0 12 = nI t ∧ TextAt (μ 1) t 0 o cs ∧ WfT 0 o cs ∧ CO μ cs
theorem M_givenRise {μ : MS} {cs : List Int32} (hR : RM μ (some cs)) {k : Nat} (hk : k < 14) {th tn mv : Nat} (h1 : th < 128) (h2 : tn < 16) (h3 : mv < 2 ^ 19) (e1 : μ 1 (21 + 4 * k) = nI th) (e2 : μ 1 (22 + 4 * k) = nI tn) (e3 : μ 1 (23 + 4 * k) = nI mv) :
    ∃ μ', fM_givenRise μ (nI k) = some (heldv (evV (f3 (nI th) (nI tn) (nI mv)) cs), μ') ∧ RM μ' (some cs) ∧ ∀ c, c ≠ 14 → c ≠ 15 → c ≠ 29 → c ≠ 30 → μ' c = μ c := by
  have hR0 := hR
  obtain ⟨o, t, ht, hr, hT, hW, hC⟩ := hR
  unfold fM_givenRise
  rw [show (1 : Int32) = nI 1 from rfl, show (2 : Int32) = nI 2 from rfl, show (3 : Int32) = nI 3 from rfl, M_of μ (by omega), ob_s, M_of μ (by omega), ob_s, M_of μ (by omega), ob_s, show 20 + 4 * k + 1 = 21 + 4 * k by omega, show 20 + 4 * k + 2 = 22 + 4 * k by omega, show 20 + 4 * k + 3 = 23 + 4 * k by omega, e1, e2, e3, show nI 1 = (1 : Int32) from rfl, key_eq h3 h2 h1, bnd_s, bnd_s]
  obtain ⟨q, hq, eq⟩ := pk_andE ((nI mv <<< ((7 : Int32) &&& 31)) ^^^ ((37 : Int32) * nI tn) ^^^ nI th) (m := 4095) 12 (by decide)
  rw [eq, ck_in (by omega) (by omega), clampI (by omega), ck_in (by omega) (by omega)]
  by_cases hh : μ 14 q = nI (1 + mv * 2048 + tn * 128 + th)
  · rw [if_pos hh]
    refine ⟨μ, ?_, hR0, fun _ _ _ _ _ => rfl⟩
    obtain ⟨a, b, c, ha, hb, hc, e5, e6⟩ := hC q (by omega) (by rw [hh]; exact nI_ne0 (by omega) (by omega))
    rw [hh, nI_eq (by omega) (by omega)] at e5
    have q1 : th = a := by omega
    have q2 : tn = b := by omega
    have q3 : mv = c := by omega
    rw [e6, q1, q2, q3]
  · rw [if_neg hh, bnd_s, bnd_s, bnd_s]
    have hnm : ∀ c ∈ cs, ¬ c < -3 → c < 0 → (up2 (up2 (up2 μ 29 116 (nI th)) 29 100 (nI tn)) 29 109 (nI mv)) 29 (dcV 0 c).toNatClampNeg = evN (f3 (nI th) (nI tn) (nI mv)) c := by
      intro c hc g1 g2
      unfold dcV evN
      rw [if_neg g1, if_pos g2, if_pos g2]
      by_cases g3 : c = -1
      · rw [if_pos g3, if_pos g3]; rfl
      · rw [if_neg g3, if_neg g3]
        by_cases g4 : c = -2
        · rw [if_pos g4, if_pos g4]; rfl
        · rw [if_neg g4, if_neg g4]; rfl
    obtain ⟨μ', a1, a2⟩ := M_worked (f3 (nI th) (nI tn) (nI mv)) (up2 (up2 (up2 μ 29 116 (nI th)) 29 100 (nI tn)) 29 109 (nI mv)) ht hT hW hnm
    rw [show (up2 (up2 (up2 μ 29 116 (nI th)) 29 100 (nI tn)) 29 109 (nI mv)) 0 12 = nI t from hr, a1, ob2_s, M_within, ob_s, ck_in (by omega) (by omega), bnd_s, ck_in (by omega) (by omega), bnd_s, ck_in (by omega) (by omega)]
    have fr : ∀ c, c ≠ 14 → c ≠ 15 → c ≠ 29 → c ≠ 30 → (up2 (up2 μ' 15 q (heldv (evV (f3 (nI th) (nI tn) (nI mv)) cs))) 14 q (nI (1 + mv * 2048 + tn * 128 + th))) c = μ c := by
      intro c c1 c2 c3 c4
      rw [up2_n _ _ _ c1, up2_n _ _ _ c2, a2 c c4, up2_n _ _ _ c3, up2_n _ _ _ c3, up2_n _ _ _ c3]
    refine ⟨_, ?_, ?_, fr⟩
    · rw [up2_n _ _ _ (by decide), up2_s]
      unfold upd
      rw [if_pos rfl]
    · refine ⟨o, t, ht, by rw [fr 0 (by decide) (by decide) (by decide) (by decide)]; exact hr, by rw [fr 1 (by decide) (by decide) (by decide) (by decide)]; exact hT, hW, ?_⟩
      intro j hj hz
      rw [up2_s, up2_n _ _ _ (by decide)] at hz ⊢
      rw [up2_n _ _ _ (by decide), up2_s]
      unfold upd at hz ⊢
      by_cases hjq : j = q
      · rw [if_pos hjq, if_pos hjq]
        exact ⟨th, tn, mv, h1, h2, h3, rfl, rfl⟩
      · rw [if_neg hjq] at hz ⊢
        rw [if_neg hjq]
        rw [a2 14 (by decide)] at hz ⊢
        rw [a2 15 (by decide)]
        exact hC j hj hz
theorem M_rises {μ : MS} {R : Option (List Int32)} (hR : RM μ R) {k : Nat} (hk : k < 14) {th tn mv : Nat} (h1 : th < 128) (h2 : tn < 16) (h3 : mv < 2 ^ 19) (e1 : μ 1 (21 + 4 * k) = nI th) (e2 : μ 1 (22 + 4 * k) = nI tn) (e3 : μ 1 (23 + 4 * k) = nI mv) :
    ∃ μ', fM_rises μ (nI k) = some (riseV R (μ 1 (20 + 4 * k)) (nI th) (nI tn) (nI mv), μ') ∧ RM μ' R ∧ ∀ c, c ≠ 14 → c ≠ 15 → c ≠ 29 → c ≠ 30 → μ' c = μ c := by
  unfold fM_rises
  rcases R with _ | cs
  · rw [if_neg (by have := hR; unfold RM at this; rw [lt_iff] at this; rw [le_iff]; omega), show (1 : Int32) = nI 1 from rfl, M_of μ (by omega), ob_s, show 20 + 4 * k + 1 = 21 + 4 * k by omega, e1, M_kR μ hk (by omega)]
    exact ⟨μ, rfl, hR, fun _ _ _ _ _ => rfl⟩
  · have hp : (0 : Int32) ≤ μ 0 12 := by
      obtain ⟨o, t, ht, hr, _⟩ := hR
      rw [hr]; exact nI_pos' (by omega)
    rw [if_pos hp]
    obtain ⟨μ', a1, a2, a3⟩ := M_givenRise hR hk h1 h2 h3 e1 e2 e3
    obtain ⟨y, hy, ey⟩ := heldv_in (evV (f3 (nI th) (nI tn) (nI mv)) cs)
    rw [a1, ob2_s, ey, M_kR μ' hk hy, a3 1 (by decide) (by decide) (by decide) (by decide)]
    refine ⟨μ', ?_, a2, a3⟩
    unfold riseV
    rw [← ey]
