/-! feed -/
/-- the byte of a number, d bytes above its last -/
def byN (x : Int32) (d : Nat) : Nat := x.toBitVec.toNat / 2 ^ (8 * d) % 256
theorem byN_lt (x : Int32) (d : Nat) : byN x d < 256 := Nat.mod_lt _ (by decide)
theorem X_byte (x : Int32) {d : Nat} (hd : d < 4) : ((x).toUInt32 >>> ((nI (8 * d)).toUInt32 &&& Int32.toUInt32 31)).toInt32 &&& (255 : Int32) = nI (byN x d) := by
  have hs : (((nI (8 * d)).toUInt32 &&& Int32.toUInt32 31).toBitVec % 32).toNat = 8 * d := by
    have hd4 : d = 0 ∨ d = 1 ∨ d = 2 ∨ d = 3 := by omega
    rcases hd4 with rfl | rfl | rfl | rfl <;> decide
  rw [pk_and _ 8 (by decide), pk_ushr x _ (8 * d) hs]
  rfl
theorem shr8 (x s : Int32) {k : Nat} (hk : k = 0 ∨ k = 8 ∨ k = 16 ∨ k = 24) (hs : (s.toBitVec.smod 32).toNat = k) : (x >>> s).toBitVec.toNat % 256 = x.toBitVec.toNat / 2 ^ k % 256 := by
  have h1 := pk_shr x s k hs
  rw [Int.shiftRight_eq_div_pow] at h1
  have h2 : ∀ y : Int32, y.toInt = if 2 * y.toBitVec.toNat < 2 ^ 32 then (y.toBitVec.toNat : Int) else (y.toBitVec.toNat : Int) - ((2 ^ 32 : Nat) : Int) := fun y => BitVec.toInt_eq_toNat_cond y.toBitVec
  rw [h2, h2] at h1
  have l1 := (x >>> s).toBitVec.isLt
  have l2 := x.toBitVec.isLt
  generalize (x >>> s).toBitVec.toNat = a at *
  generalize x.toBitVec.toNat = c at *
  rcases hk with rfl | rfl | rfl | rfl <;> split at h1 <;> split at h1 <;> omega
theorem M_byte (x : Int32) {i : Nat} (hi : i < 12) : (x >>> (((24 : Int32) - ((8 : Int32) * (nI i - nI i / (4 : Int32) * (4 : Int32)))) &&& 31)) &&& (255 : Int32) = nI (byN x (3 - i % 4)) := by
  rw [show (4 : Int32) = nI 4 from rfl, pk_rem (by omega) (by omega) (by omega), show (8 : Int32) = nI 8 from rfl, pk_mul, show (24 : Int32) = nI 24 from rfl, pk_sub (by omega)]
  have h4 : i % 4 = 0 ∨ i % 4 = 1 ∨ i % 4 = 2 ∨ i % 4 = 3 := by omega
  rw [pk_and _ 8 (by decide)]
  unfold byN
  rcases h4 with e | e | e | e <;> rw [e]
  · rw [show (2 : Nat) ^ 8 = 256 from rfl, shr8 x _ (k := 24) (by omega) (by decide)]
  · rw [show (2 : Nat) ^ 8 = 256 from rfl, shr8 x _ (k := 16) (by omega) (by decide)]
  · rw [show (2 : Nat) ^ 8 = 256 from rfl, shr8 x _ (k := 8) (by omega) (by decide)]
  · rw [show (2 : Nat) ^ 8 = 256 from rfl, shr8 x _ (k := 0) (by omega) (by decide)]
theorem X_appendL (x : Int32) (kx : XS → Option XS) : ∀ (d L N : Nat) (σ : XS), d ≤ 4 → L + d ≤ 96 → d < N → xi σ 5 1 = nI L →
    ∃ σ', fT_append_L3 kx N x (nI (8 * d) - nI 8) σ = kx σ' ∧ (∀ c, c ≠ 5 → c ≠ 54 → xi σ' c = xi σ c) ∧ σ'.2 = σ.2 ∧ xi σ' 5 1 = nI (L + d) ∧ (∀ f, f ≠ 1 → xi σ' 5 f = xi σ 5 f) ∧ ∀ m, xi σ' 54 m = if L ≤ m ∧ m < L + d then nI (byN x (d - 1 - (m - L))) else xi σ 54 m := by
  intro d
  induction d with
  | zero =>
    intro L N σ hd hL hN e
    obtain ⟨N, rfl⟩ : ∃ m, N = m + 1 := ⟨N - 1, by omega⟩
    rw [fT_append_L3, if_pos (show nI (8 * 0) - nI 8 < 0 by decide)]
    exact ⟨σ, rfl, fun _ _ _ => rfl, rfl, e, fun _ _ => rfl, fun m => by rw [if_neg (by omega)]⟩
  | succ d ih =>
    intro L N σ hd hL hN e
    obtain ⟨N, rfl⟩ : ∃ m, N = m + 1 := ⟨N - 1, by omega⟩
    rw [fT_append_L3, pk_sub (by omega), show 8 * (d + 1) - 8 = 8 * d by omega, if_neg (nI_pos (by omega)), e, show (96 : Int32) = nI 96 from rfl, if_neg (nI_ge (by omega) (by omega)), ck_in (by omega) (by omega), clampI (by omega), X_byte x (by omega), bnd_s, bnd_s, xi_un _ _ _ (by decide), e, nI_1, bnd_s, show nI (8 * d) + (-8 : Int32) = nI (8 * d) - nI 8 by rw [Int32.sub_eq_add_neg, show (-8 : Int32) = -nI 8 by decide]]
    obtain ⟨σ', a1, a2, a3, a4, a5, a6⟩ := ih (L + 1) N (xu (xu σ 54 L (nI (byN x d))) 5 1 (nI (L + 1))) (by omega) (by omega) (by omega) (by rw [xi_u, pk_us])
    refine ⟨σ', a1, fun c h1 h2 => by rw [a2 c h1 h2, xi_un _ _ _ h1, xi_un _ _ _ h2], a3, by rw [a4]; congr 1; omega, fun f hf => by rw [a5 f hf, xi_u, pk_un hf, xi_un _ _ _ (by decide)], fun m => ?_⟩
    rw [a6, xi_un _ _ _ (by decide), xi_u]
    unfold upd
    by_cases e1 : L + 1 ≤ m ∧ m < L + 1 + d
    · rw [if_pos e1, if_pos (by omega)]
      congr 2
      omega
    · rw [if_neg e1]
      by_cases e2 : m = L
      · rw [if_pos e2, if_pos (by omega), e2]
        congr 2
        omega
      · rw [if_neg e2, if_neg (by omega)]
theorem X_append (x : Int32) {σ : XS} {L : Nat} (hL : L + 4 ≤ 96) (e : xi σ 5 1 = nI L) : ∃ σ', fT_append σ x = some σ' ∧ (∀ c, c ≠ 5 → c ≠ 54 → xi σ' c = xi σ c) ∧ σ'.2 = σ.2 ∧ xi σ' 5 1 = nI (L + 4) ∧ (∀ f, f ≠ 1 → xi σ' 5 f = xi σ 5 f) ∧ ∀ m, xi σ' 54 m = if L ≤ m ∧ m < L + 4 then nI (byN x (3 - (m - L))) else xi σ 54 m := by
  obtain ⟨σ', a1, a2⟩ := X_appendL x (fun (σ : XS) => some σ) 4 L 10000 σ (by omega) hL (by omega) e
  exact ⟨σ', a1, a2⟩
def by3 (x1 x2 x3 : Int32) (i : Nat) : Nat := byN (if i < 4 then x1 else if i < 8 then x2 else x3) (3 - i % 4)
theorem M_feedL (x1 x2 x3 : Int32) {L : Nat} (hL : L + 12 ≤ 96) (km : MS → Option (Int32 × MS)) : ∀ (d i N : Nat) (μ : MS), 12 - i = d → i ≤ 12 → d < N → μ 0 17 = nI (L + i) →
    ∃ μ', fM_feed_L18 km N x1 x2 x3 (nI i) μ = km μ' ∧ (∀ c, c ≠ 0 → c ≠ 17 → μ' c = μ c) ∧ μ' 0 17 = nI (L + 12) ∧ (∀ f, f ≠ 17 → μ' 0 f = μ 0 f) ∧ ∀ m, μ' 17 m = if L + i ≤ m ∧ m < L + 12 then nI (by3 x1 x2 x3 (m - L)) else μ 17 m := by
  intro d
  induction d with
  | zero =>
    intro i N μ hd hi hN e
    obtain ⟨N, rfl⟩ : ∃ m, N = m + 1 := ⟨N - 1, by omega⟩
    have : i = 12 := by omega
    subst this
    rw [fM_feed_L18, if_pos (show (12 : Int32) ≤ nI 12 by decide)]
    exact ⟨μ, rfl, fun _ _ _ => rfl, e, fun _ _ => rfl, fun m => by rw [if_neg (by omega)]⟩
  | succ d ih =>
    intro i N μ hd hi hN e
    obtain ⟨N, rfl⟩ : ∃ m, N = m + 1 := ⟨N - 1, by omega⟩
    have key : ∀ y : Int32, byN y (3 - i % 4) = by3 x1 x2 x3 i → ∃ μ', fM_feed_J47 (fM_feed_L18 km N) x1 x2 x3 (nI i) y μ = km μ' ∧ (∀ c, c ≠ 0 → c ≠ 17 → μ' c = μ c) ∧ μ' 0 17 = nI (L + 12) ∧ (∀ f, f ≠ 17 → μ' 0 f = μ 0 f) ∧ ∀ m, μ' 17 m = if L + i ≤ m ∧ m < L + 12 then nI (by3 x1 x2 x3 (m - L)) else μ 17 m := by
      intro y hy
      unfold fM_feed_J47
      rw [e, ck_in (by omega) (by omega), clampI (by omega), M_byte y (by omega), hy, bnd_s, bnd_s, up2_n _ _ _ (by decide), e, nI_1, bnd_s, nI_1]
      obtain ⟨μ', a1, a2, a3, a4, a5⟩ := ih (i + 1) N (up2 (up2 μ 17 (L + i) (nI (by3 x1 x2 x3 i))) 0 17 (nI (L + i + 1))) (by omega) (by omega) (by omega) (by rw [up2_s, pk_us]; rfl)
      refine ⟨μ', a1, fun c h1 h2 => by rw [a2 c h1 h2, up2_n _ _ _ h1, up2_n _ _ _ h2], a3, fun f hf => by rw [a4 f hf, up2_s, pk_un hf, up2_n _ _ _ (by decide)], fun m => ?_⟩
      rw [a5, up2_n _ _ _ (by decide), up2_s]
      unfold upd
      by_cases e1 : L + (i + 1) ≤ m ∧ m < L + 12
      · rw [if_pos e1, if_pos (by omega)]
      · rw [if_neg e1]
        by_cases e2 : m = L + i
        · rw [if_pos e2, if_pos (by omega), e2, show L + i - L = i by omega]
        · rw [if_neg e2, if_neg (by omega)]
    rw [fM_feed_L18, if_neg (show ¬ (12 : Int32) ≤ nI i from nI_ge (a := i) (b := 12) (by omega) (by omega))]
    by_cases c1 : i < 4
    · rw [if_neg (show ¬ (4 : Int32) ≤ nI i from nI_ge (a := i) (b := 4) (by omega) (by omega))]
      exact key x1 (by unfold by3; rw [if_pos c1])
    · rw [if_pos (show (4 : Int32) ≤ nI i from nI_le (a := 4) (b := i) (by omega) (by omega))]
      by_cases c2 : i < 8
      · rw [if_neg (show ¬ (8 : Int32) ≤ nI i from nI_ge (a := i) (b := 8) (by omega) (by omega))]
        exact key x2 (by unfold by3; rw [if_neg c1, if_pos c2])
      · rw [if_pos (show (8 : Int32) ≤ nI i from nI_le (a := 8) (b := i) (by omega) (by omega))]
        exact key x3 (by unfold by3; rw [if_neg c1, if_neg c2])
theorem L_feed : Ls_feed Re := by
  intro σ μ x1 x2 x3 hRe
  obtain ⟨T, n, j, hT, hj, hB, hI, hSh, hSl, ⟨⟨L, l1, l2, l3⟩, hTp⟩, hWt⟩ := id hRe
  unfold fX_feed fM_feed fT_hasRoom
  rw [l2, l3, show (12 : Int32) = nI 12 from rfl, show (96 : Int32) = nI 96 from rfl, nI_add]
  by_cases h1 : L + 12 ≤ 96
  · rw [if_neg (nI_nlt h1 (by omega)), ob_s, i1, if_pos (nI_le h1 (by omega))]
    obtain ⟨σ1, a1, a2, a3, a4, a5, a6⟩ := X_append x1 (σ := σ) (L := L) (by omega) l2
    obtain ⟨σ2, b1, b2, b3, b4, b5, b6⟩ := X_append x2 (σ := σ1) (L := L + 4) (by omega) a4
    obtain ⟨σ3, c1, c2, c3, c4, c5, c6⟩ := X_append x3 (σ := σ2) (L := L + 4 + 4) (by omega) b4
    obtain ⟨μ', d1, d2, d3, d4, d5⟩ := M_feedL x1 x2 x3 (L := L) h1 (fun (μ : MS) => some ((μ 0 17), μ)) 12 0 10000 μ (by omega) (by omega) (by omega) l3
    have d1' : fM_feed_L18 (fun (μ : MS) => some ((μ 0 17), μ)) 10000 x1 x2 x3 (0 : Int32) μ = some (μ' 0 17, μ') := d1
    rw [a1, ob_s, b1, ob_s, c1, ob_s, c4, d1', d3]
    have xc : ∀ c, c ≠ 5 → c ≠ 54 → xi σ3 c = xi σ c := fun c h1 h2 => by rw [c2 c h1 h2, b2 c h1 h2, a2 c h1 h2]
    refine ⟨_, σ3, μ', rfl, by rw [show L + 4 + 4 + 4 = L + 12 by omega], Re_side hT hj hB hI ⟨by rw [xc 0 (by decide) (by decide)], by rw [xc 0 (by decide) (by decide)], by rw [xc 0 (by decide) (by decide)]⟩ (xc 1 (by decide) (by decide)) (xc 2 (by decide) (by decide)) (fun c h1 h2 => xc c (by omega) (by omega)) (by rw [c3, b3, a3]) ⟨d4 12 (by decide), d4 3 (by decide)⟩ (d2 1 (by decide) (by decide)) (d2 2 (by decide) (by decide)) (d2 14 (by decide) (by decide)) (d2 15 (by decide) (by decide)) ⟨?_, ?_, ?_, ?_⟩⟩
    · intro k hk
      rw [xc (10 + k) (by omega) (by omega), xc (60 + k) (by omega) (by omega), d2 5 (by decide) (by decide), d2 6 (by decide) (by decide), d2 7 (by decide) (by decide)]
      exact hSh k hk
    · intro k hk
      rw [xc (20 + k) (by omega) (by omega), xc (10 + (4 + k)) (by omega) (by omega), xc (60 + (4 + k)) (by omega) (by omega), d2 8 (by decide) (by decide), d2 9 (by decide) (by decide), d2 10 (by decide) (by decide), d2 11 (by decide) (by decide), d2 12 (by decide) (by decide)]
      exact hSl k hk
    · refine ⟨⟨L + 12, by omega, by rw [c4], d3⟩, fun i hi => ?_⟩
      rw [c6, b6, a6, d5]
      by_cases e : L + 0 ≤ i ∧ i < L + 12
      · rw [if_pos e]
        refine ⟨?_, by3 x1 x2 x3 (i - L), byN_lt _ _, rfl⟩
        unfold by3
        by_cases e1 : L + 4 + 4 ≤ i ∧ i < L + 4 + 4 + 4
        · rw [if_pos e1, if_neg (by omega), if_neg (by omega)]
          congr 2
          omega
        · rw [if_neg e1]
          by_cases e2 : L + 4 ≤ i ∧ i < L + 4 + 4
          · rw [if_pos e2, if_neg (by omega), if_pos (by omega)]
            congr 2
            omega
          · rw [if_neg e2, if_pos (by omega), if_pos (by omega)]
            congr 2
            omega
      · rw [if_neg e, if_neg (by omega), if_neg (by omega), if_neg (by omega)]
        exact hTp i hi
    · unfold RWt
      rw [xc 0 (by decide) (by decide), xc 56 (by decide) (by decide), d4 32 (by decide), d2 32 (by decide) (by decide)]
      exact hWt
  · rw [if_pos (nI_lt (by omega) (by omega)), ob_s, i0, if_neg (nI_ge (by omega) (by omega))]; exact ⟨_, σ, μ, rfl, rfl, hRe⟩
