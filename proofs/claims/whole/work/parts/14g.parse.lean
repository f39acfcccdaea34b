/-! TEXT: the key, and a whole text -/
def wcc (p j : Nat) : Int32 := (xSb.getD p []).getD j 0
theorem wcc_ok : ∀ (p : Fin 3) (j : Fin 4), (((wcc p.val j.val) &&& (255 : Int32)).toUInt32 % 65536).toInt32 = wcc p.val j.val ∧ ((wcc p.val j.val).toUInt32 % 65536).toInt32 = wcc p.val j.val := by decide +kernel
theorem X_charAt (σ : XS) {p j : Nat} (hp : p < 3) (hj : j < xSl.getD p 0) (h4 : xSl.getD p 0 ≤ 4) : fJ_charAt_5068e σ p (nI j) = some (wcc p j, σ) := by
  obtain ⟨q1, q2⟩ := wcc_ok ⟨p, hp⟩ ⟨j, by omega⟩
  unfold fJ_charAt_5068e fJ_isLatin1_aae02 fJ_charAt_3b067 fJ_checkIndex_df160 fJ_checkIndex_8e157
  rw [ob_s, i1, if_neg (nI_pos (by omega)), show Int32.ofNat (xSl.getD p 0) = nI (xSl.getD p 0) from rfl, if_pos (nI_lt hj (by omega)), ob_s, ob_s, ck_in hj (by omega), clampI (by omega), show (xSb.getD p []).getD j 0 = wcc p j from rfl]
  rw [show (((wcc p j) &&& (255 : Int32)).toUInt32 % 65536).toInt32 = wcc p j from q1]
  unfold zc
  rw [if_pos q2, ob2_s, if_pos q2]
theorem X_len (σ : XS) {p : Nat} (hp : p < 3) : fJ_length_8abf5 σ p = some (nI (xSl.getD p 0)) ∧ 3 ≤ xSl.getD p 0 ∧ xSl.getD p 0 ≤ 4 := by
  have hp3 : p = 0 ∨ p = 1 ∨ p = 2 := by omega
  unfold fJ_length_8abf5 fJ_coder_7d493
  rw [ob_s]
  rcases hp3 with rfl | rfl | rfl
  · exact ⟨congrArg some (show (Int32.ofNat 4) >>> ((0 : Int32) &&& 31) = nI 4 by decide), by decide, by decide⟩
  · exact ⟨congrArg some (show (Int32.ofNat 3) >>> ((0 : Int32) &&& 31) = nI 3 by decide), by decide, by decide⟩
  · exact ⟨congrArg some (show (Int32.ofNat 4) >>> ((0 : Int32) &&& 31) = nI 4 by decide), by decide, by decide⟩
theorem W_step {σ : XS} {μ : MS} {B : Nat → Nat} {L st en : Nat} (hB : TB σ μ B L) (e3 : xi σ 5 3 = nI st) (hen : en ≤ L) {p : Nat} (hp : p < 3) (hl : en = st + xSl.getD p 0) (kx : XS → Option (Int32 × XS)) {N j : Nat} (hN : 0 < N) (hj : j < xSl.getD p 0) : fT_isWord_L28 p kx N (nI j) σ = if nI (B (st + j)) = wcc p j then fT_isWord_L28 p kx (N - 1) (nI (j + 1)) σ else some (0, σ) := by
  obtain ⟨N, rfl⟩ : ∃ m, N = m + 1 := ⟨N - 1, by omega⟩
  obtain ⟨l1, l2, l3⟩ := X_len σ hp
  have hL := hB.1
  rw [fT_isWord_L28, l1, ob_s, if_neg (nI_ge hj (by omega)), e3, nI_add, ck_in (by omega) (by omega), X_charAt σ hp hj l3, ob2_s, clampI (by omega), (hB.2.2.2 (st + j) (by omega)).1, bnd_s, nI_1]
  rfl
theorem W_end {σ : XS} {p : Nat} (hp : p < 3) (kx : XS → Option (Int32 × XS)) {N : Nat} (hN : 0 < N) : fT_isWord_L28 p kx N (nI (xSl.getD p 0)) σ = kx σ := by
  obtain ⟨N, rfl⟩ : ∃ m, N = m + 1 := ⟨N - 1, by omega⟩
  obtain ⟨l1, l2, l3⟩ := X_len σ hp
  rw [fT_isWord_L28, l1, ob_s, if_pos (nI_le (by omega) (by omega))]
def kw3 (b0 b1 b2 a b c : Int32) : Int32 := if b0 = a then (if b1 = b then (if b2 = c then 1 else 0) else 0) else 0
def kw4 (b0 b1 b2 b3 a b c d : Int32) : Int32 := if b0 = a then (if b1 = b then (if b2 = c then (if b3 = d then 1 else 0) else 0) else 0) else 0
theorem TS_1 {σ : XS} {μ : MS} {B : Nat → Nat} {L st en so : Nat} (h : TS σ μ B L st en so) : so < 5 ∧ (so = 1 ↔ μ 0 20 = 1) ∧ (so = 0 ↔ μ 0 20 = 0) := by
  rcases h.2.2.2.2.2.2.2 with z | z | z | z | z
  · rw [z.1, z.2]; exact ⟨by omega, by decide, by decide⟩
  · rw [z.1, z.2.1]; exact ⟨by omega, by decide, by decide⟩
  · rcases z.2.2.2 with y | y
    · rw [z.1, y.2.1]; exact ⟨by omega, by decide, by decide⟩
    · rw [z.1, y.2]; exact ⟨by omega, by decide, by decide⟩
  · rw [z.1, z.2.1]; exact ⟨by omega, by decide, by decide⟩
  · rw [z.1, z.2]; exact ⟨by omega, by decide, by decide⟩
/-- a word of four -/
theorem W4 {σ : XS} {μ : MS} {B : Nat → Nat} {L st en so : Nat} (hB : TB σ μ B L) (hT : TS σ μ B L st en so) {p : Nat} (hp : p < 3) (hl : xSl.getD p 0 = 4) {a b c d : Int32} (ha : wcc p 0 = a) (hb : wcc p 1 = b) (hc : wcc p 2 = c) (hd : wcc p 3 = d) (hd0 : ¬ d = 0) :
    ∃ r, fT_isWord σ p = some (r, σ) ∧ fM_isWordAt μ a b c d = some r ∧ (r = 0 ∨ (r = 1 ∧ so = 1 ∧ st + 3 ≤ en)) := by
  have hL := hB.1
  obtain ⟨s5, s1, _⟩ := TS_1 hT
  obtain ⟨t1, t2, t3, t4, t5, t6, t7, t8⟩ := hT
  obtain ⟨l1, l2, l3⟩ := X_len σ hp
  unfold fT_isWord fM_isWordAt fM_isWordAt_J10
  rw [if_neg hd0, t5]
  by_cases e1 : so = 1
  · rw [if_pos (by rw [e1]; rfl), if_pos (s1.mp e1), l1, ob_s, t1, t2, t3, t4, pk_sub t6, hl]
    by_cases e2 : en - st = 4
    · have e2' : en = st + xSl.getD p 0 := by omega
      have m : ∀ j, j < 4 → μ 17 (st + j) = nI (B (st + j)) := fun j hj => (hB.2.2.2 (st + j) (by omega)).2.1
      rw [if_pos (by rw [e2]), if_pos (by rw [e2]; rfl), show (0 : Int32) = nI 0 from rfl, W_step hB t1 t7 hp e2' _ (by omega) (by omega), W_step hB t1 t7 hp e2' _ (by omega) (by omega), W_step hB t1 t7 hp e2' _ (by omega) (by omega), W_step hB t1 t7 hp e2' _ (by omega) (by omega), show nI (0 + 1 + 1 + 1 + 1) = nI (xSl.getD p 0) by rw [hl], W_end hp _ (by omega)]
      rw [ha, show wcc p (0 + 1) = b from hb, show wcc p (0 + 1 + 1) = c from hc, show wcc p (0 + 1 + 1 + 1) = d from hd]
      rw [ck_in (by omega) (by omega), clampI (by omega), show nI st + (1 : Int32) = nI (st + 1) from nI_1 st, show nI st + (2 : Int32) = nI (st + 2) from nI_add st 2, show nI st + (3 : Int32) = nI (st + 3) from nI_add st 3, ck_in (by omega) (by omega), ck_in (by omega) (by omega), ck_in (by omega) (by omega), clampI (by omega), clampI (by omega), clampI (by omega), if_neg (show ¬ d = nI 0 from hd0), m 1 (by omega), m 2 (by omega), m 3 (by omega), show μ 17 st = nI (B (st + 0)) from m 0 (by omega)]
      refine ⟨kw4 (nI (B (st + 0))) (nI (B (st + 1))) (nI (B (st + 2))) (nI (B (st + 3))) a b c d, ?_⟩
      unfold kw4
      show (if nI (B (st + 0)) = a then (if nI (B (st + 1)) = b then (if nI (B (st + 2)) = c then (if nI (B (st + 3)) = d then some ((1 : Int32), σ) else some (0, σ)) else some (0, σ)) else some (0, σ)) else some (0, σ)) = _ ∧ _
      by_cases f0 : nI (B (st + 0)) = a
      · rw [if_pos f0, if_pos f0, if_pos f0]
        by_cases f1 : nI (B (st + 1)) = b
        · rw [if_pos f1, if_pos f1, if_pos f1]
          by_cases f2 : nI (B (st + 2)) = c
          · rw [if_pos f2, if_pos f2, if_pos f2]
            by_cases f3 : nI (B (st + 3)) = d
            · rw [if_pos f3, if_pos f3, if_pos f3]; exact ⟨rfl, rfl, Or.inr ⟨rfl, e1, by omega⟩⟩
            · rw [if_neg f3, if_neg f3, if_neg f3]; exact ⟨rfl, rfl, Or.inl rfl⟩
          · rw [if_neg f2, if_neg f2, if_neg f2]; exact ⟨rfl, rfl, Or.inl rfl⟩
        · rw [if_neg f1, if_neg f1, if_neg f1]; exact ⟨rfl, rfl, Or.inl rfl⟩
      · rw [if_neg f0, if_neg f0, if_neg f0]; exact ⟨rfl, rfl, Or.inl rfl⟩
    · rw [if_neg (fun e => e2 (nI_inj (by omega) (by omega) e)), if_neg (show ¬ nI (en - st) = (4 : Int32) from fun e => e2 (nI_inj (b := 4) (by omega) (by omega) e))]
      exact ⟨0, rfl, rfl, Or.inl rfl⟩
  · rw [if_neg (show ¬ nI so = (1 : Int32) from fun e => e1 (nI_inj (b := 1) (by omega) (by omega) e)), if_neg (fun e => e1 (s1.mpr e))]
    exact ⟨0, rfl, rfl, Or.inl rfl⟩
/-- a word of three -/
theorem W3 {σ : XS} {μ : MS} {B : Nat → Nat} {L st en so : Nat} (hB : TB σ μ B L) (hT : TS σ μ B L st en so) {p : Nat} (hp : p < 3) (hl : xSl.getD p 0 = 3) {a b c : Int32} (ha : wcc p 0 = a) (hb : wcc p 1 = b) (hc : wcc p 2 = c) :
    ∃ r, fT_isWord σ p = some (r, σ) ∧ fM_isWordAt μ a b c 0 = some r ∧ (r = 0 ∨ (r = 1 ∧ so = 1 ∧ st + 3 ≤ en)) := by
  have hL := hB.1
  obtain ⟨s5, s1, _⟩ := TS_1 hT
  obtain ⟨t1, t2, t3, t4, t5, t6, t7, t8⟩ := hT
  obtain ⟨l1, l2, l3⟩ := X_len σ hp
  unfold fT_isWord fM_isWordAt fM_isWordAt_J10
  rw [if_pos rfl, t5]
  by_cases e1 : so = 1
  · rw [if_pos (by rw [e1]; rfl), if_pos (s1.mp e1), l1, ob_s, t1, t2, t3, t4, pk_sub t6, hl]
    by_cases e2 : en - st = 3
    · have e2' : en = st + xSl.getD p 0 := by omega
      have m : ∀ j, j < 3 → μ 17 (st + j) = nI (B (st + j)) := fun j hj => (hB.2.2.2 (st + j) (by omega)).2.1
      have hX : fT_isWord_L28 p (fun (σ : XS) => some ((1 : Int32), σ)) 10000 (nI 0) σ = (if nI (B (st + 0)) = a then (if nI (B (st + 1)) = b then (if nI (B (st + 2)) = c then some ((1 : Int32), σ) else some (0, σ)) else some (0, σ)) else some (0, σ)) := by
        rw [W_step hB t1 t7 hp e2' _ (by omega) (by omega), W_step hB t1 t7 hp e2' _ (by omega) (by omega), W_step hB t1 t7 hp e2' _ (by omega) (by omega), show nI (0 + 1 + 1 + 1) = nI (xSl.getD p 0) by rw [hl], W_end hp _ (by omega)]
        rw [ha, show wcc p (0 + 1) = b from hb, show wcc p (0 + 1 + 1) = c from hc]
      rw [if_pos (by rw [e2]), if_pos (by rw [e2]; rfl), show fT_isWord_L28 p (fun (σ : XS) => some ((1 : Int32), σ)) 10000 (0 : Int32) σ = _ from hX]
      rw [ck_in (by omega) (by omega), clampI (by omega), show nI st + (1 : Int32) = nI (st + 1) from nI_1 st, show nI st + (2 : Int32) = nI (st + 2) from nI_add st 2, ck_in (by omega) (by omega), ck_in (by omega) (by omega), clampI (by omega), clampI (by omega), if_pos rfl, m 1 (by omega), m 2 (by omega), show μ 17 st = nI (B (st + 0)) from m 0 (by omega)]
      refine ⟨kw3 (nI (B (st + 0))) (nI (B (st + 1))) (nI (B (st + 2))) a b c, ?_⟩
      unfold kw3
      by_cases f0 : nI (B (st + 0)) = a
      · rw [if_pos f0, if_pos f0, if_pos f0]
        by_cases f1 : nI (B (st + 1)) = b
        · rw [if_pos f1, if_pos f1, if_pos f1]
          by_cases f2 : nI (B (st + 2)) = c
          · rw [if_pos f2, if_pos f2, if_pos f2]; exact ⟨rfl, rfl, Or.inr ⟨rfl, e1, by omega⟩⟩
          · rw [if_neg f2, if_neg f2, if_neg f2]; exact ⟨rfl, rfl, Or.inl rfl⟩
        · rw [if_neg f1, if_neg f1, if_neg f1]; exact ⟨rfl, rfl, Or.inl rfl⟩
      · rw [if_neg f0, if_neg f0, if_neg f0]; exact ⟨rfl, rfl, Or.inl rfl⟩
    · rw [if_neg (fun e => e2 (nI_inj (by omega) (by omega) e)), if_neg (show ¬ nI (en - st) = (3 : Int32) from fun e => e2 (nI_inj (b := 3) (by omega) (by omega) e))]
      exact ⟨0, rfl, rfl, Or.inl rfl⟩
  · rw [if_neg (show ¬ nI so = (1 : Int32) from fun e => e1 (nI_inj (b := 1) (by omega) (by omega) e)), if_neg (fun e => e1 (s1.mpr e))]
    exact ⟨0, rfl, rfl, Or.inl rfl⟩
theorem T_key {σ : XS} {μ : MS} {B : Nat → Nat} {L st en so : Nat} (hB : TB σ μ B L) (hT : TS σ μ B L st en so) :
    (∃ k, k ≤ 2 ∧ fR_isKey σ = (ob (fT_next (xu σ 6 1 (nI k))) fun σ' => some ((1 : Int32), σ')) ∧ fM_key μ = some (nI k) ∧ so = 1 ∧ st + 3 ≤ en) ∨ (fR_isKey σ = some (0, σ) ∧ fM_key μ = some (-1)) := by
  obtain ⟨r0, a1, a2, a3⟩ := W4 hB hT (p := 0) (by omega) rfl (a := 114) (b := 105) (c := 115) (d := 101) rfl rfl rfl rfl (by decide)
  obtain ⟨r1, b1, b2, b3⟩ := W3 hB hT (p := 1) (by omega) rfl (a := 102) (b := 101) (c := 101) rfl rfl rfl
  obtain ⟨r2, c1, c2, c3⟩ := W4 hB hT (p := 2) (by omega) rfl (a := 102) (b := 105) (c := 110) (d := 101) rfl rfl rfl rfl (by decide)
  unfold fR_isKey fM_key
  rw [a1, a2, ob2_s, ob_s]
  rcases a3 with rfl | ⟨rfl, d1, d2⟩
  · rw [i0, i0, b1, b2, ob2_s, ob_s]
    rcases b3 with rfl | ⟨rfl, d1, d2⟩
    · rw [i0, i0, c1, c2, ob2_s, ob_s]
      rcases c3 with rfl | ⟨rfl, d1, d2⟩
      · rw [i0, i0]; exact Or.inr ⟨rfl, rfl⟩
      · rw [i1, i1, bnd_s]; exact Or.inl ⟨2, by omega, rfl, rfl, d1, d2⟩
    · rw [i1, i1, bnd_s]; exact Or.inl ⟨1, by omega, rfl, rfl, d1, d2⟩
  · rw [i1, i1, bnd_s]; exact Or.inl ⟨0, by omega, rfl, rfl, d1, d2⟩
