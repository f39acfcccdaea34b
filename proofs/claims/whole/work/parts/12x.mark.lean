/-! mark -/
theorem sx_ar (a b : Int) (h0 : 0 ≤ b) (h1 : b < 65536) : Int.bmod (b * 65536) 4294967296 / 65536 = Int.bmod (65536 * a + b) 65536 := by
  rw [Int.bmod_def, Int.bmod_def]
  have e1 : b * 65536 % ((4294967296 : Nat) : Int) = b * 65536 := by rw [Int.emod_eq_of_lt (by omega) (by omega)]
  have e2 : (65536 * a + b) % ((65536 : Nat) : Int) = b := by omega
  rw [e1, e2]
  by_cases h : b < 32768
  · rw [if_pos (by omega), if_pos (by omega)]; omega
  · rw [if_neg (by omega), if_neg (by omega)]; omega
theorem sx16 (x : Int32) : (x <<< ((16 : Int32) &&& 31)) >>> ((16 : Int32) &&& 31) = x.toInt16.toInt32 := by
  apply Int32.toInt_inj.mp
  rw [pk_shr _ _ 16 (by decide), Int16.toInt_toInt32, Int32.toInt_toInt16]
  have h1 := pk_shl x ((16 : Int32) &&& 31) 16 (by decide)
  have h2 : ∀ y : Int32, y.toInt = Int.bmod (y.toBitVec.toNat : Int) (2 ^ 32) := fun y => BitVec.toInt_eq_toNat_bmod y.toBitVec
  rw [h2 (x <<< _), h2 x, h1]
  generalize x.toBitVec.toNat = N
  rw [Int.bmod_bmod_of_dvd (by decide), Int.shiftRight_eq_div_pow]
  have e : N * 2 ^ 16 % 2 ^ 32 = (N % 65536) * 65536 := by
    rw [show (2 : Nat) ^ 32 = 65536 * 2 ^ 16 from rfl, Nat.mul_mod_mul_right]
  rw [e]
  have g := sx_ar ((N / 65536 : Nat) : Int) ((N % 65536 : Nat) : Int) (by omega) (by omega)
  have e2 : (65536 * ((N / 65536 : Nat) : Int) + ((N % 65536 : Nat) : Int)) = (N : Int) := by omega
  rw [e2] at g
  rw [Int.natCast_mul]
  exact g
