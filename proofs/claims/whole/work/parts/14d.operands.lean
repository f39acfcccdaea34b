/-! TEXT: numbers and names -/
theorem T_numberL {σ : XS} {μ : MS} {B : Nat → Nat} {L st en : Nat} (hB : TB σ μ B L) (e4 : xi σ 5 4 = nI en) (hen : en ≤ L) (hd : ∀ i, st ≤ i → i < en → so3 (B i) = 2) (kx : Int32 → Option Int32) : ∀ (d i N : Nat), en - st - i = d → st + i ≤ en → d < N → fT_number_L7 σ kx N (nI (nv B st i)) (nI (st + i)) = kx (nI (nv B st (en - st))) := by
  have hL := hB.1
  intro d
  induction d with
  | zero =>
    intro i N h1 h2 hN
    obtain ⟨N, rfl⟩ : ∃ m, N = m + 1 := ⟨N - 1, by omega⟩
    rw [fT_number_L7, e4, if_pos (nI_le (by omega) (by omega)), show en - st = i by omega]
  | succ d ih =>
    intro i N h1 h2 hN
    obtain ⟨N, rfl⟩ : ∃ m, N = m + 1 := ⟨N - 1, by omega⟩
    rw [fT_number_L7, e4, if_neg (nI_ge (by omega) (by omega)), ck_in (by omega) (by omega), clampI (by omega), (hB.2.2.2 (st + i) (by omega)).1, bnd_s, nv_step B st i (so3_2 (hd (st + i) (by omega) (by omega))).1, bnd_s, nI_1]
    exact ih (i + 1) N (by omega) (by omega) (by omega)
theorem dc_num {v k : Nat} (h : v < 10000) : (0 : Int32) = dcW (nI v) ∧ nI v = dcV k (nI v) ∧ ¬ nI v < -3 ∧ nI v ≠ -3 := by
  have e : (nI v).toInt = v := nI_toInt (by omega)
  have e3 : (-3 : Int32).toInt = -3 := rfl
  have h1 : ¬ nI v < -3 := by rw [lt_iff, e, e3]; omega
  have h2 : ¬ nI v < 0 := nI_pos (by omega)
  refine ⟨by unfold dcW; rw [if_neg h1, if_neg h2], by unfold dcV; rw [if_neg h1, if_neg h2], h1, fun z => ?_⟩
  have := congrArg Int32.toInt z
  rw [e, e3] at this
  omega
theorem P_number {σ : XS} {μ : MS} {B : Nat → Nat} {L st en so b t k A : Nat} {cs : List Int32} {o : Nat} (h : PR σ μ B L st en so b t k A cs o) (hl : cs.length + 3 ≤ st) (hs : so = 2) (h4 : en - st ≤ 4) :
    ∃ σ' μ', fR_isNumber σ = some (1, σ') ∧ (ob (fM_step μ 0 (μ 0 21)) fun μ49 => bnd (up2 μ49 0 27 ((μ49 0 27) + (1 : Int32))) fun μ50 => ob (fM_nextToken μ50) fun μ53 => some ((1 : Int32), μ53)) = some (1, μ') ∧ OKr σ' μ' B L st b t k A cs o 1 ∧ PF σ σ' μ μ' A := by
  have h0 := h
  obtain ⟨h1, ⟨t1, t2, t3, t4, t5, t6, t7, t8⟩, _⟩ := h
  have hL := h1.1
  subst hs
  rcases t8 with z | z | z | z | z
  · omega
  · omega
  · obtain ⟨_, z1, z2, z3⟩ := z
    have z3 := z3.resolve_right (fun y => absurd y.1 (by omega))
    have hv : nv B st (en - st) < 10000 := by
      have := nv_lt B st (en - st) (fun m hm => (so3_2 (z2 (st + m) (by omega) (by omega))).2)
      have h10 : (10 : Nat) ^ (en - st) ≤ 10 ^ 4 := Nat.pow_le_pow_right (by omega) h4
      omega
    obtain ⟨d1, d2, d3, d4⟩ := dc_num (k := k) hv
    obtain ⟨σ', μ', a1, a2, a3, a4⟩ := P_opd (w := 0) (v := μ 0 21) h0 hl ⟨Or.inr (Or.inl rfl), z3.2.1⟩ (nI (nv B st (en - st))) d1 (by rw [z3.2.2]; exact d2) d3 (Or.inr d4)
    refine ⟨σ', μ', ?_, a2, a3, a4⟩
    have hN : fT_number_L7 σ (fun (x1 : Int32) => some x1) 10000 (0 : Int32) (nI st) = some (nI (nv B st (en - st))) := T_numberL h1 t3 t7 z2 (fun (x1 : Int32) => some x1) (en - st) 0 10000 (by omega) (by omega) (by omega)
    unfold fR_isNumber fT_number
    rw [t3, t1, pk_sub t6, if_neg (show ¬ (4 : Int32) < nI (en - st) from nI_nlt (a := 4) h4 (by omega)), bnd_s, hN, ob_s, a1, ob2_s, i1]
  · omega
  · omega
/-! names -/
def nix (k b : Nat) : Option Nat := if k = 0 then (if b = 116 then some 0 else if b = 100 then some 1 else if b = 109 then some 2 else none) else if k = 1 then (if b = 109 then some 0 else if b = 106 then some 1 else none) else (if b = 116 then some 0 else if b = 112 then some 1 else none)
theorem nix_spec {k b i : Nat} (hk : k ≤ 2) (h : nix k b = some i) : i ≤ 2 ∧ nmC k i = nI b ∧ (i = 2 → k = 0) ∧ b ≠ 0 := by
  have hk3 : k = 0 ∨ k = 1 ∨ k = 2 := by omega
  unfold nix at h
  rcases hk3 with rfl | rfl | rfl
  · rw [if_pos rfl] at h
    by_cases h1 : b = 116
    · rw [if_pos h1] at h; cases h; subst h1; exact ⟨by omega, rfl, fun e => absurd e (by decide), by omega⟩
    · rw [if_neg h1] at h
      by_cases h2 : b = 100
      · rw [if_pos h2] at h; cases h; subst h2; exact ⟨by omega, rfl, fun e => absurd e (by decide), by omega⟩
      · rw [if_neg h2] at h
        by_cases h3 : b = 109
        · rw [if_pos h3] at h; cases h; subst h3; exact ⟨by omega, rfl, fun _ => rfl, by omega⟩
        · rw [if_neg h3] at h; cases h
  · rw [if_neg (by decide), if_pos rfl] at h
    by_cases h1 : b = 109
    · rw [if_pos h1] at h; cases h; subst h1; exact ⟨by omega, rfl, fun e => absurd e (by decide), by omega⟩
    · rw [if_neg h1] at h
      by_cases h2 : b = 106
      · rw [if_pos h2] at h; cases h; subst h2; exact ⟨by omega, rfl, fun e => absurd e (by decide), by omega⟩
      · rw [if_neg h2] at h; cases h
  · rw [if_neg (by decide), if_neg (by decide)] at h
    by_cases h1 : b = 116
    · rw [if_pos h1] at h; cases h; subst h1; exact ⟨by omega, rfl, fun e => absurd e (by decide), by omega⟩
    · rw [if_neg h1] at h
      by_cases h2 : b = 112
      · rw [if_pos h2] at h; cases h; subst h2; exact ⟨by omega, rfl, fun e => absurd e (by decide), by omega⟩
      · rw [if_neg h2] at h; cases h
def nixI (k b : Nat) : Int32 := match nix k b with
  | some i => nI i
  | none => -1
def nixB (k b : Nat) : Int32 := match nix k b with
  | some _ => 1
  | none => 0
theorem nI_lit {b c : Nat} (hb : b < 256) (hc : c < 256) : (nI b = nI c) ↔ b = c := nI_eq (by omega) (by omega)
theorem M_isName (μ : MS) {k b : Nat} (hk : k ≤ 2) (hb : b < 256) : fM_isName μ (nI k) (nI b) = some (nixB k b) := by
  have hk3 : k = 0 ∨ k = 1 ∨ k = 2 := by omega
  have q : ∀ c : Nat, c < 256 → ((nI b = nI c) ↔ b = c) := fun c hc => nI_lit hb hc
  have q116 : (nI b = (116 : Int32)) ↔ b = 116 := q 116 (by omega)
  have q100 : (nI b = (100 : Int32)) ↔ b = 100 := q 100 (by omega)
  have q109 : (nI b = (109 : Int32)) ↔ b = 109 := q 109 (by omega)
  have q106 : (nI b = (106 : Int32)) ↔ b = 106 := q 106 (by omega)
  have q112 : (nI b = (112 : Int32)) ↔ b = 112 := q 112 (by omega)
  unfold fM_isName nixB nix
  simp only [q116, q100, q109, q106, q112]
  rcases hk3 with rfl | rfl | rfl
  · rw [if_pos (show nI 0 = (0 : Int32) from rfl), if_pos rfl]
    by_cases h1 : b = 116
    · rw [if_pos h1, if_pos h1]
    · rw [if_neg h1, if_neg h1]
      by_cases h2 : b = 100
      · rw [if_pos h2, if_pos h2]
      · rw [if_neg h2, if_neg h2]
        by_cases h3 : b = 109
        · rw [if_pos h3, if_pos h3]
        · rw [if_neg h3, if_neg h3]
  · rw [if_neg (show ¬ nI 1 = (0 : Int32) by decide), if_pos (show nI 1 = (1 : Int32) from rfl), if_neg (show ¬ (1 : Nat) = 0 by decide), if_pos rfl]
    by_cases h1 : b = 109
    · rw [if_pos h1, if_pos h1]
    · rw [if_neg h1, if_neg h1]
      by_cases h2 : b = 106
      · rw [if_pos h2, if_pos h2]
      · rw [if_neg h2, if_neg h2]
  · rw [if_neg (show ¬ nI 2 = (0 : Int32) by decide), if_neg (show ¬ nI 2 = (1 : Int32) by decide), if_neg (show ¬ (2 : Nat) = 0 by decide), if_neg (show ¬ (2 : Nat) = 1 by decide)]
    by_cases h1 : b = 116
    · rw [if_pos h1, if_pos h1]
    · rw [if_neg h1, if_neg h1]
      by_cases h2 : b = 112
      · rw [if_pos h2, if_pos h2]
      · rw [if_neg h2, if_neg h2]
theorem i8_all : ∀ b : Fin 256, (((116 : Int32) = (nI b.val).toInt8.toInt32) ↔ b.val = 116) ∧ (((100 : Int32) = (nI b.val).toInt8.toInt32) ↔ b.val = 100) ∧ (((109 : Int32) = (nI b.val).toInt8.toInt32) ↔ b.val = 109) ∧ (((106 : Int32) = (nI b.val).toInt8.toInt32) ↔ b.val = 106) ∧ (((112 : Int32) = (nI b.val).toInt8.toInt32) ↔ b.val = 112) := by decide +kernel
theorem ix_step (p0 : Nat) (σ : XS) (kk : Option Int32) (N : Nat) {len j : Nat} (v : Int32) {c : Int32} (hlen : xSl.getD p0 0 = len) (hj : j < len) (hl : len < 100) (hc : (xSb.getD p0 []).getD j 0 = c) : fJ_indexOfChar_4cfef_L7 p0 σ kk (N + 1) (nI len) v (nI j) = if c = v then some (nI j) else fJ_indexOfChar_4cfef_L7 p0 σ kk N (nI len) v (nI (j + 1)) := by
  rw [fJ_indexOfChar_4cfef_L7, if_neg (nI_ge hj (by omega)), hlen, ck_in hj (by omega), clampI (by omega), hc, bnd_s, nI_1]
theorem ix_end (p0 : Nat) (σ : XS) (kk : Option Int32) (N : Nat) {len : Nat} (v : Int32) (hl : len < 100) : fJ_indexOfChar_4cfef_L7 p0 σ kk (N + 1) (nI len) v (nI len) = kk := by
  rw [fJ_indexOfChar_4cfef_L7, if_pos (nI_le (by omega) (by omega))]
theorem ix3 (σ : XS) (v : Int32) {N : Nat} (h : 4 ≤ N) : fJ_indexOfChar_4cfef_L7 3 σ (some (-1)) N (nI 3) v (nI 0) = if 116 = v then some (nI 0) else if 100 = v then some (nI 1) else if 109 = v then some (nI 2) else some (-1) := by
  obtain ⟨N, rfl⟩ : ∃ m, N = m + 4 := ⟨N - 4, by omega⟩
  rw [show N + 4 = N + 3 + 1 from rfl, ix_step 3 σ _ _ (len := 3) v rfl (by omega) (by omega) (show (xSb.getD 3 []).getD 0 0 = 116 from rfl), show N + 3 = N + 2 + 1 from rfl, ix_step 3 σ _ _ (len := 3) v rfl (by omega) (by omega) (show (xSb.getD 3 []).getD (0 + 1) 0 = 100 from rfl), show N + 2 = N + 1 + 1 from rfl, ix_step 3 σ _ _ (len := 3) v rfl (by omega) (by omega) (show (xSb.getD 3 []).getD (0 + 1 + 1) 0 = 109 from rfl), show 0 + 1 + 1 + 1 = 3 from rfl, ix_end 3 σ _ _ v (by omega)]
theorem ix4 (σ : XS) (v : Int32) {N : Nat} (h : 4 ≤ N) : fJ_indexOfChar_4cfef_L7 4 σ (some (-1)) N (nI 2) v (nI 0) = if 109 = v then some (nI 0) else if 106 = v then some (nI 1) else some (-1) := by
  obtain ⟨N, rfl⟩ : ∃ m, N = m + 3 := ⟨N - 3, by omega⟩
  rw [show N + 3 = N + 2 + 1 from rfl, ix_step 4 σ _ _ (len := 2) v rfl (by omega) (by omega) (show (xSb.getD 4 []).getD 0 0 = 109 from rfl), show N + 2 = N + 1 + 1 from rfl, ix_step 4 σ _ _ (len := 2) v rfl (by omega) (by omega) (show (xSb.getD 4 []).getD (0 + 1) 0 = 106 from rfl), show 0 + 1 + 1 = 2 from rfl, ix_end 4 σ _ _ v (by omega)]
theorem ix5 (σ : XS) (v : Int32) {N : Nat} (h : 4 ≤ N) : fJ_indexOfChar_4cfef_L7 5 σ (some (-1)) N (nI 2) v (nI 0) = if 116 = v then some (nI 0) else if 112 = v then some (nI 1) else some (-1) := by
  obtain ⟨N, rfl⟩ : ∃ m, N = m + 3 := ⟨N - 3, by omega⟩
  rw [show N + 3 = N + 2 + 1 from rfl, ix_step 5 σ _ _ (len := 2) v rfl (by omega) (by omega) (show (xSb.getD 5 []).getD 0 0 = 116 from rfl), show N + 2 = N + 1 + 1 from rfl, ix_step 5 σ _ _ (len := 2) v rfl (by omega) (by omega) (show (xSb.getD 5 []).getD (0 + 1) 0 = 112 from rfl), show 0 + 1 + 1 = 2 from rfl, ix_end 5 σ _ _ v (by omega)]
theorem ix_in (σ : XS) {p len b : Nat} (hb : b < 256) (hlen : xSl.getD p 0 = len) (h0 : 0 < len) (h9 : len < 9) : fJ_indexOf_0f7a4 σ p (nI b) = ob (fJ_indexOfChar_4cfef_L7 p σ (some (-1)) 10000 (nI len) (nI b).toInt8.toInt32 (nI 0)) fun r => some (r, σ) := by
  have hs : ((Int32.ofNat len) >>> ((0 : Int32) &&& 31)) = nI len := by
    have : len = 1 ∨ len = 2 ∨ len = 3 ∨ len = 4 ∨ len = 5 ∨ len = 6 ∨ len = 7 ∨ len = 8 := by omega
    rcases this with rfl | rfl | rfl | rfl | rfl | rfl | rfl | rfl <;> decide
  unfold fJ_indexOf_0f7a4 fJ_indexOf_7cf53 fJ_isLatin1_aae02 fJ_length_8abf5 fJ_coder_7d493 fJ_indexOf_4cfef fJ_canEncode_9a6ad fJ_indexOfChar_4cfef
  rw [ob_s, i1, ob_s, ob_s, if_neg (nI_pos (by omega)), if_neg (show ¬ (255 : Int32) < nI b from nI_nlt (a := 255) (by omega) (by omega)), ob_s, i1, bnd_s, bnd_s, bnd_s, hlen, hs, if_neg (show ¬ (0 : Int32) < (0 : Int32) by decide), show Int32.ofNat len = nI len from rfl, ite_self, if_pos (show (0 : Int32) < nI len from nI_lt (a := 0) h0 (by omega)), show (0 : Int32) = nI 0 from rfl]
  cases fJ_indexOfChar_4cfef_L7 p σ (some (-1)) 10000 (nI len) (nI b).toInt8.toInt32 (nI 0) with
  | none => rfl
  | some r => rfl
theorem X_index (σ : XS) {k b : Nat} (hk : k ≤ 2) (hb : b < 256) : fJ_indexOf_0f7a4 σ (3 + k) (((nI b)).toUInt32 % 65536).toInt32 = some (nixI k b, σ) := by
  have e : ((nI b).toUInt32 % 65536).toInt32 = nI b := by rw [pk_char, pk_tn (by omega), show b % 65536 = b by omega]
  obtain ⟨q116, q100, q109, q106, q112⟩ := i8_all ⟨b, hb⟩
  rw [e]
  have hk3 : k = 0 ∨ k = 1 ∨ k = 2 := by omega
  rcases hk3 with rfl | rfl | rfl
  · rw [ix_in σ (len := 3) hb rfl (by omega) (by omega), ix3 σ _ (by omega)]
    simp only [q116, q100, q109]
    unfold nixI nix
    rw [if_pos rfl]
    by_cases h1 : b = 116
    · rw [if_pos h1, if_pos h1]; rfl
    · rw [if_neg h1, if_neg h1]
      by_cases h2 : b = 100
      · rw [if_pos h2, if_pos h2]; rfl
      · rw [if_neg h2, if_neg h2]
        by_cases h3 : b = 109
        · rw [if_pos h3, if_pos h3]; rfl
        · rw [if_neg h3, if_neg h3]; rfl
  · rw [ix_in σ (len := 2) hb rfl (by omega) (by omega), ix4 σ _ (by omega)]
    simp only [q109, q106]
    unfold nixI nix
    rw [if_neg (show ¬ (1 : Nat) = 0 by decide), if_pos rfl]
    by_cases h1 : b = 109
    · rw [if_pos h1, if_pos h1]; rfl
    · rw [if_neg h1, if_neg h1]
      by_cases h2 : b = 106
      · rw [if_pos h2, if_pos h2]; rfl
      · rw [if_neg h2, if_neg h2]; rfl
  · rw [ix_in σ (len := 2) hb rfl (by omega) (by omega), ix5 σ _ (by omega)]
    simp only [q116, q112]
    unfold nixI nix
    rw [if_neg (show ¬ (2 : Nat) = 0 by decide), if_neg (show ¬ (2 : Nat) = 1 by decide)]
    by_cases h1 : b = 116
    · rw [if_pos h1, if_pos h1]; rfl
    · rw [if_neg h1, if_neg h1]
      by_cases h2 : b = 112
      · rw [if_pos h2, if_pos h2]; rfl
      · rw [if_neg h2, if_neg h2]; rfl
theorem X_namesOf (σ : XS) {k : Nat} (hk : k ≤ 2) : fL_namesOf σ (nI k) = some (3 + k) := by
  have hk3 : k = 0 ∨ k = 1 ∨ k = 2 := by omega
  unfold fL_namesOf
  rcases hk3 with rfl | rfl | rfl
  · rw [if_pos (show nI 0 = (0 : Int32) from rfl)]
  · rw [if_neg (show ¬ nI 1 = (0 : Int32) by decide), if_pos (show nI 1 = (1 : Int32) from rfl)]
  · rw [if_neg (show ¬ nI 2 = (0 : Int32) by decide), if_neg (show ¬ nI 2 = (1 : Int32) by decide)]
theorem dc_name {k i b : Nat} (hk : k ≤ 2) (h : nix k b = some i) : (1 : Int32) = dcW ((-1 : Int32) - nI i) ∧ nI b = dcV k ((-1 : Int32) - nI i) ∧ ¬ ((-1 : Int32) - nI i) < -3 ∧ (k = 0 ∨ ((-1 : Int32) - nI i) ≠ -3) := by
  obtain ⟨h1, h2, h3, h4⟩ := nix_spec hk h
  have hi : i = 0 ∨ i = 1 ∨ i = 2 := by omega
  rcases hi with rfl | rfl | rfl
  · exact ⟨by decide, h2.symm, by decide, Or.inr (by decide)⟩
  · exact ⟨by decide, h2.symm, by decide, Or.inr (by decide)⟩
  · exact ⟨by decide, h2.symm, by decide, Or.inl (h3 rfl)⟩
