/-! PURE: numbers -/
theorem pl (n : Nat) : (OfNat.ofNat n : Int32) = nI n := by
  apply Int32.toInt_inj.mp
  rfl
theorem ck_in {α : Type} {a n : Nat} {k : Option α} (h : a < n) (hn : n < 2 ^ 31) : ck (nI a) n k = k := by
  unfold ck
  rw [if_neg (nI_in h hn)]
theorem ob_s {α β : Type} {x : α} {k : α → Option β} : ob (some x) k = k x := rfl
theorem ob2_s {α γ β : Type} {x : α} {y : γ} {k : α → γ → Option β} : ob2 (some (x, y)) k = k x y := rfl
theorem bnd_s {α β : Type} {v : α} {k : α → β} : bnd v k = k v := rfl
theorem nz_s {α : Type} {y : Int32} {k : Option α} (h : ¬ y = 0) : nz y k = k := by unfold nz; rw [if_neg h]
theorem zb_s {α : Type} {c : Prop} [Decidable c] {k : Option α} : zb (if c then 1 else 0) k = k := by
  unfold zb
  by_cases h : c
  · rw [if_pos h, if_pos (Or.inr rfl)]
  · rw [if_neg h, if_pos (Or.inl rfl)]
theorem lt_iff (a b : Int32) : a < b ↔ a.toInt < b.toInt := Int32.lt_iff_toInt_lt
theorem le_iff (a b : Int32) : a ≤ b ↔ a.toInt ≤ b.toInt := Int32.le_iff_toInt_le
theorem cmp_lt (x y : Int64) : lg_cmp x y < 0 ↔ x < y := by
  unfold lg_cmp
  by_cases h1 : x > y
  · rw [if_pos h1]
    constructor
    · intro h; exact absurd h (by decide)
    · intro h; exact absurd (Int64.lt_iff_toInt_lt.mp h) (by have := Int64.lt_iff_toInt_lt.mp h1; omega)
  · rw [if_neg h1]
    by_cases h2 : x = y
    · rw [if_pos h2]
      constructor
      · intro h; exact absurd h (by decide)
      · intro h; rw [h2] at h; exact absurd (Int64.lt_iff_toInt_lt.mp h) (by omega)
    · rw [if_neg h2]
      constructor
      · intro _
        rw [Int64.lt_iff_toInt_lt]
        have a1 : ¬ y.toInt < x.toInt := fun z => h1 (Int64.lt_iff_toInt_lt.mpr z)
        have a2 : ¬ x.toInt = y.toInt := fun z => h2 (Int64.toInt_inj.mp z)
        omega
      · intro _; decide
theorem cmp_gt (x y : Int64) : 0 < lg_cmp x y ↔ y < x := by
  unfold lg_cmp
  by_cases h1 : x > y
  · rw [if_pos h1]
    exact ⟨fun _ => h1, fun _ => by decide⟩
  · rw [if_neg h1]
    by_cases h2 : x = y
    · rw [if_pos h2]
      exact ⟨fun h => absurd h (by decide), fun h => absurd h h1⟩
    · rw [if_neg h2]
      exact ⟨fun h => absurd h (by decide), fun h => absurd h h1⟩
theorem w64 (x : Int32) : x.toInt64.toInt = x.toInt := Int32.toInt_toInt64 x
theorem M_isIn (μ : MS) (x : Int32) (lo hi : Int64) : fM_isIn μ x.toInt64 lo hi = some (if lo.toInt ≤ x.toInt ∧ x.toInt ≤ hi.toInt then 1 else 0) := by
  unfold fM_isIn
  by_cases h1 : lg_cmp x.toInt64 lo < 0
  · rw [if_pos h1]
    have h2 := Int64.lt_iff_toInt_lt.mp ((cmp_lt _ _).mp h1)
    rw [w64] at h2
    rw [if_neg (by omega)]
  · rw [if_neg h1]
    have h2 : ¬ x.toInt64 < lo := fun z => h1 ((cmp_lt _ _).mpr z)
    rw [Int64.lt_iff_toInt_lt, w64] at h2
    by_cases h3 : 0 < lg_cmp x.toInt64 hi
    · rw [if_pos h3]
      have h4 := Int64.lt_iff_toInt_lt.mp ((cmp_gt _ _).mp h3)
      rw [w64] at h4
      rw [if_neg (by omega)]
    · rw [if_neg h3]
      have h4 : ¬ hi < x.toInt64 := fun z => h3 ((cmp_gt _ _).mpr z)
      rw [Int64.lt_iff_toInt_lt, w64] at h4
      rw [if_pos (by omega)]
theorem X_isWithin (σ : XS) (x lo hi : Int32) : fX_isWithin σ x lo hi = some (if lo.toInt ≤ x.toInt ∧ x.toInt ≤ hi.toInt then 1 else 0) := by
  unfold fX_isWithin
  by_cases h1 : x < lo
  · rw [if_pos h1]
    rw [lt_iff] at h1
    rw [if_neg (by omega)]
  · rw [if_neg h1]
    rw [lt_iff] at h1
    by_cases h2 : hi < x
    · rw [if_pos h2]
      rw [lt_iff] at h2
      rw [if_neg (by omega)]
    · rw [if_neg h2]
      rw [lt_iff] at h2
      rw [if_pos (by omega)]
/-- every number in a range is one of the small ones -/
theorem nI_rng {x : Int32} {m : Int} (h0 : 0 ≤ x.toInt) (h1 : x.toInt ≤ m) : ∃ j : Nat, (j : Int) ≤ m ∧ x = nI j := by
  obtain ⟨j, hj, rfl⟩ := nI_of (x := x) (by rw [lt_iff]; have : (0 : Int32).toInt = 0 := rfl; omega)
  exact ⟨j, by rw [nI_toInt hj] at h1; omega, rfl⟩
