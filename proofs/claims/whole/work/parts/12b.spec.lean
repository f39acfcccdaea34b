/-! SPEC: texts worked out on a pile of depth d; the code of a number is itself, of name k -1 - k, of a sign the number below 0 of its byte -/
def jv (c x y : Int32) : Int32 :=
  if c = 38 then (if x = 0 then 0 else if y = 0 then 0 else 1)
  else if c = 42 then x * y
  else if c = 43 then x + y
  else if c = 45 then x - y
  else if c = 47 then (if y = 0 then 0 else x / y)
  else if c = 60 then (if y ≤ x then 0 else 1)
  else if c = 61 then (if x = y then 1 else 0)
  else if c = 62 then (if x ≤ y then 0 else 1)
  else (if x = 0 then (if y = 0 then 0 else 1) else 1)
def isJ (c : Int32) : Prop := c = 38 ∨ c = 42 ∨ c = 43 ∨ c = 45 ∨ c = 47 ∨ c = 60 ∨ c = 61 ∨ c = 62 ∨ c = 124
theorem div_m1 (x : Int32) : x / (-1) = -x := Int32.toInt_inj.mp (by rw [Int32.toInt_div, Int32.toInt_neg x]; show (x.toInt.tdiv (-1)).bmod _ = _; rw [Int.tdiv_neg, Int.tdiv_one])
theorem M_joined (μ : MS) {c : Int32} (hc : isJ c) (x y : Int32) : fM_joined μ c x y = some (jv c x y) := by
  unfold fM_joined jv
  rcases hc with rfl | rfl | rfl | rfl | rfl | rfl | rfl | rfl | rfl <;> simp +decide only [if_true, if_false]
  all_goals first | rfl | skip
  · by_cases h1 : x = 0 <;> by_cases h2 : y = 0 <;> simp [h1, h2]
  · by_cases h1 : y = 0
    · simp [h1]
    · by_cases h2 : y = -1
      · simp [h2, div_m1]
      · simp [h1, h2, nz]
  · by_cases h1 : y ≤ x <;> simp [h1]
  · by_cases h1 : x = y <;> simp [h1]
  · by_cases h1 : x ≤ y <;> simp [h1]
  · by_cases h1 : x = 0 <;> by_cases h2 : y = 0 <;> simp [h1, h2]
theorem X_joined (σ : XS) {c : Int32} (hc : isJ c) (x y : Int32) : fL_joined σ c x y = some (jv c x y) := by
  unfold fL_joined jv
  rcases hc with rfl | rfl | rfl | rfl | rfl | rfl | rfl | rfl | rfl <;> simp +decide only [if_true, if_false]
  all_goals first | rfl | skip
  · by_cases h1 : x = 0 <;> by_cases h2 : y = 0 <;> simp [h1, h2]
  · by_cases h1 : y = 0
    · simp [h1]
    · simp [h1, nz]
  · by_cases h1 : y ≤ x <;> simp [h1]
  · by_cases h1 : x = y <;> simp [h1]
  · by_cases h1 : x ≤ y <;> simp [h1]
  · by_cases h1 : x = 0 <;> by_cases h2 : y = 0 <;> simp [h1, h2]
/-- one code on a pile of depth d -/
def evN (f : Nat → Int32) (c : Int32) : Int32 := if c < 0 then (if c = -1 then f 0 else if c = -2 then f 1 else f 2) else c
def ev1 (f : Nat → Int32) (c : Int32) (d : Nat) (p : Nat → Int32) : Nat × (Nat → Int32) :=
  if c < -3 then (if c = -33 then (d, upd p (d - 1) (if p (d - 1) = 0 then 1 else 0)) else (d - 1, upd p (d - 2) (jv (-c) (p (d - 2)) (p (d - 1)))))
  else (d + 1, upd p d (evN f c))
def evF (f : Nat → Int32) : List Int32 → Nat → (Nat → Int32) → (Nat → Int32)
  | [], _, p => p
  | c :: cs, d, p => evF f cs (ev1 f c d p).1 (ev1 f c d p).2
/-- the depth behind codes, if they go through; a sign is one of those that there are -/
def dpF : List Int32 → Nat → Option Nat
  | [], d => some d
  | c :: cs, d => if c < -3 then (if c = -33 then (if 1 ≤ d then dpF cs d else none) else (if 2 ≤ d ∧ (-c = 38 ∨ -c = 42 ∨ -c = 43 ∨ -c = 45 ∨ -c = 47 ∨ -c = 60 ∨ -c = 61 ∨ -c = 62 ∨ -c = 124) then dpF cs (d - 1) else none)) else dpF cs (d + 1)
/-- numbers and names among codes -/
def nops : List Int32 → Nat
  | [] => 0
  | c :: cs => (if c < -3 then 0 else 1) + nops cs
theorem dpF_app (f : Nat → Int32) : ∀ (a b : List Int32) (d e : Nat), dpF a d = some e → dpF (a ++ b) d = dpF b e := by
  intro a
  induction a with
  | nil => intro b d e h; cases h; rfl
  | cons c cs ih =>
    intro b d e h
    rw [List.cons_append, dpF]
    rw [dpF] at h
    by_cases h1 : c < -3
    · rw [if_pos h1] at h ⊢
      by_cases h2 : c = -33
      · rw [if_pos h2] at h ⊢
        by_cases h3 : 1 ≤ d
        · rw [if_pos h3] at h ⊢; exact ih b d e h
        · rw [if_neg h3] at h; cases h
      · rw [if_neg h2] at h ⊢
        by_cases h3 : 2 ≤ d ∧ (-c = 38 ∨ -c = 42 ∨ -c = 43 ∨ -c = 45 ∨ -c = 47 ∨ -c = 60 ∨ -c = 61 ∨ -c = 62 ∨ -c = 124)
        · rw [if_pos h3] at h ⊢; exact ih b (d - 1) e h
        · rw [if_neg h3] at h; cases h
    · rw [if_neg h1] at h ⊢; exact ih b (d + 1) e h
theorem nops_app : ∀ (a b : List Int32), nops (a ++ b) = nops a + nops b := by
  intro a
  induction a with
  | nil => intro b; simp [nops]
  | cons c cs ih => intro b; rw [List.cons_append, nops, nops, ih]; omega
theorem nops_le : ∀ (a : List Int32), nops a ≤ a.length := by
  intro a
  induction a with
  | nil => simp [nops]
  | cons c cs ih => rw [nops, List.length_cons]; split <;> omega
/-- a pile's end doesn't hang on what lay there -/
theorem evF_eq (f : Nat → Int32) : ∀ (cs : List Int32) (d e : Nat) (p q : Nat → Int32), dpF cs d = some e → (∀ j, j < d → p j = q j) → ∀ j, j < e → evF f cs d p j = evF f cs d q j := by
  intro cs
  induction cs with
  | nil => intro d e p q h hpq j hj; cases h; exact hpq j hj
  | cons c cs ih =>
    intro d e p q h hpq
    rw [dpF] at h
    rw [evF, evF]
    unfold ev1
    by_cases h1 : c < -3
    · rw [if_pos h1] at h; simp only [if_pos h1]
      by_cases h2 : c = -33
      · rw [if_pos h2] at h; simp only [if_pos h2]
        by_cases h3 : 1 ≤ d
        · rw [if_pos h3] at h
          refine ih d e _ _ h (fun j hj => ?_)
          unfold upd
          rw [hpq (d - 1) (by omega), hpq j hj]
        · rw [if_neg h3] at h; cases h
      · rw [if_neg h2] at h; simp only [if_neg h2]
        by_cases h3 : 2 ≤ d ∧ (-c = 38 ∨ -c = 42 ∨ -c = 43 ∨ -c = 45 ∨ -c = 47 ∨ -c = 60 ∨ -c = 61 ∨ -c = 62 ∨ -c = 124)
        · rw [if_pos h3] at h
          refine ih (d - 1) e _ _ h (fun j hj => ?_)
          unfold upd
          rw [hpq (d - 1) (by omega), hpq (d - 2) (by omega), hpq j (by omega)]
        · rw [if_neg h3] at h; cases h
    · rw [if_neg h1] at h; simp only [if_neg h1]
      refine ih (d + 1) e _ _ h (fun j hj => ?_)
      unfold upd
      by_cases hjd : j = d
      · rw [if_pos hjd, if_pos hjd]
      · rw [if_neg hjd, if_neg hjd, hpq j (by omega)]
/-- what a text gives -/
def evV (f : Nat → Int32) (cs : List Int32) : Int32 := evF f cs 0 (fun _ => 0) 0
theorem evV_of {f : Nat → Int32} {cs : List Int32} (h : dpF cs 0 = some 1) (p : Nat → Int32) : evF f cs 0 p 0 = evV f cs := evF_eq f cs 0 1 p _ h (fun j hj => absurd hj (by omega)) 0 (by omega)
