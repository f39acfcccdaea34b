/-! TEXT: the tokens -/
theorem up2_up (μ : MS) (c i : Nat) (v w : Int32) : up2 (up2 μ c i v) c i w = up2 μ c i w := by
  funext d
  unfold up2
  by_cases h : d = c
  · rw [if_pos h, if_pos h, if_pos rfl]
    funext k
    unfold upd
    by_cases h2 : k = i
    · rw [if_pos h2, if_pos h2]
    · rw [if_neg h2, if_neg h2, if_neg h2]
  · rw [if_neg h, if_neg h, if_neg h]
theorem xu_xu (σ : XS) (c i : Nat) (v w : Int32) : xu (xu σ c i v) c i w = xu σ c i w := Prod.ext (up2_up σ.1 c i v w) rfl
theorem xu_id {σ : XS} {c i : Nat} {v : Int32} (h : xi σ c i = v) : xu σ c i v = σ := Prod.ext (up2_id (μ := σ.1) h) rfl
def so3 (b : Nat) : Nat := if 97 ≤ b ∧ b ≤ 122 then 1 else if 48 ≤ b ∧ b ≤ 57 then 2 else 3
theorem X_sortOf (σ : XS) {b : Nat} (hb : b < 256) : fT_sortOf σ (nI b) = some (nI (so3 b)) := by
  unfold fT_sortOf fT_sortOf_J14 so3
  rw [show (97 : Int32) = nI 97 from rfl, show (122 : Int32) = nI 122 from rfl, show (48 : Int32) = nI 48 from rfl, show (57 : Int32) = nI 57 from rfl]
  by_cases h1 : 97 ≤ b ∧ b ≤ 122
  · rw [if_neg (nI_nlt h1.1 (by omega)), if_neg (nI_nlt h1.2 (by omega)), if_pos h1]; rfl
  · rw [if_neg h1]
    have key : (if nI b < nI 48 then some (3 : Int32) else if nI 57 < nI b then some (3 : Int32) else some (2 : Int32)) = some (nI (if 48 ≤ b ∧ b ≤ 57 then 2 else 3)) := by
      by_cases h2 : 48 ≤ b ∧ b ≤ 57
      · rw [if_neg (nI_nlt h2.1 (by omega)), if_neg (nI_nlt h2.2 (by omega)), if_pos h2]; rfl
      · rw [if_neg h2]
        by_cases h3 : b < 48
        · rw [if_pos (nI_lt h3 (by omega))]; rfl
        · rw [if_neg (nI_nlt (by omega) (by omega)), if_pos (nI_lt (by omega) (by omega))]; rfl
    by_cases h2 : b < 97
    · rw [if_pos (nI_lt h2 (by omega))]; exact key
    · rw [if_neg (nI_nlt (by omega) (by omega)), if_pos (nI_lt (by omega) (by omega))]; exact key
/-- the tape -/
def TB (σ : XS) (μ : MS) (B : Nat → Nat) (L : Nat) : Prop := L ≤ 96 ∧ xi σ 5 1 = nI L ∧ μ 0 17 = nI L ∧ ∀ i, i < 96 → xi σ 54 i = nI (B i) ∧ μ 17 i = nI (B i) ∧ B i < 256
theorem TB_fr {σ σ' : XS} {μ μ' : MS} {B : Nat → Nat} {L : Nat} (h : TB σ μ B L) (h1 : xi σ' 5 1 = xi σ 5 1) (h2 : xi σ' 54 = xi σ 54) (h3 : μ' 0 17 = μ 0 17) (h4 : μ' 17 = μ 17) : TB σ' μ' B L := by
  unfold TB
  rw [h1, h2, h3, h4]
  exact h
theorem M_letQ {σ : XS} {μ : MS} {B : Nat → Nat} {L : Nat} (h : TB σ μ B L) {i : Nat} (hi : i ≤ 96) : fM_isLetter μ (nI i) = some (if i < L ∧ so3 (B i) = 1 then 1 else 0) := by
  have hL := h.1
  unfold fM_isLetter
  rw [h.2.2.1]
  by_cases h1 : i < L
  · obtain ⟨a1, a2, a3⟩ := h.2.2.2 i (by omega)
    rw [if_neg (nI_ge h1 (by omega)), ck_in (by omega) (by omega), clampI (by omega), a2, M_in μ _ (a := 97) (b := 122) rfl rfl, ob_s, nI_toInt (by omega)]
    unfold so3
    by_cases h2 : 97 ≤ B i ∧ B i ≤ 122
    · rw [ite1 (by omega), if_pos h2, if_pos ⟨h1, rfl⟩]
    · rw [ite0 (by omega), if_neg h2, if_neg]
      intro z
      have := z.2
      split at this <;> omega
  · rw [if_pos (nI_le (by omega) (by omega)), if_neg (fun z => h1 z.1)]
theorem M_digQ {σ : XS} {μ : MS} {B : Nat → Nat} {L : Nat} (h : TB σ μ B L) {i : Nat} (hi : i ≤ 96) : fM_isDigit μ (nI i) = some (if i < L ∧ so3 (B i) = 2 then 1 else 0) := by
  have hL := h.1
  unfold fM_isDigit
  rw [h.2.2.1]
  by_cases h1 : i < L
  · obtain ⟨a1, a2, a3⟩ := h.2.2.2 i (by omega)
    rw [if_neg (nI_ge h1 (by omega)), ck_in (by omega) (by omega), clampI (by omega), a2, M_in μ _ (a := 48) (b := 57) rfl rfl, ob_s, nI_toInt (by omega)]
    unfold so3
    by_cases h2 : 48 ≤ B i ∧ B i ≤ 57
    · rw [ite1 (by omega), if_neg (show ¬ (97 ≤ B i ∧ B i ≤ 122) by omega), if_pos h2, if_pos ⟨h1, rfl⟩]
    · rw [ite0 (by omega), if_neg h2, if_neg]
      intro z
      have := z.2
      split at this <;> omega
  · rw [if_pos (nI_le (by omega) (by omega)), if_neg (fun z => h1 z.1)]
/-- spaces -/
theorem T_sp {B : Nat → Nat} {L : Nat} (kx : Int32 → Int32 → XS → Option XS) (km : Int32 → Int32 → MS → Option MS) (x1 x2 : Int32) : ∀ (d i N1 N2 : Nat) (σ : XS) (μ : MS), L - i = d → i ≤ L → d < N1 → d < N2 → TB σ μ B L → xi σ 5 3 = nI i → μ 0 19 = nI i →
    ∃ p, i ≤ p ∧ p ≤ L ∧ fT_next_L32 kx N1 x1 x2 σ = kx x1 x2 (xu σ 5 3 (nI p)) ∧ fM_nextToken_L34 km N2 x1 x2 μ = km x1 x2 (up2 μ 0 19 (nI p)) := by
  intro d
  induction d with
  | zero =>
    intro i N1 N2 σ μ hd hi h1 h2 hB e1 e2
    obtain ⟨N1, rfl⟩ : ∃ m, N1 = m + 1 := ⟨N1 - 1, by omega⟩
    obtain ⟨N2, rfl⟩ : ∃ m, N2 = m + 1 := ⟨N2 - 1, by omega⟩
    have hL := hB.1
    refine ⟨i, by omega, hi, ?_, ?_⟩
    · rw [fT_next_L32, hB.2.1, e1, if_pos (nI_le (by omega) (by omega)), xu_id e1]
    · rw [fM_nextToken_L34, hB.2.2.1, e2, if_pos (nI_le (by omega) (by omega)), up2_id e2]
  | succ d ih =>
    intro i N1 N2 σ μ hd hi h1 h2 hB e1 e2
    obtain ⟨N1, rfl⟩ : ∃ m, N1 = m + 1 := ⟨N1 - 1, by omega⟩
    obtain ⟨N2, rfl⟩ : ∃ m, N2 = m + 1 := ⟨N2 - 1, by omega⟩
    have hL := hB.1
    obtain ⟨a1, a2, a3⟩ := hB.2.2.2 i (by omega)
    rw [fT_next_L32, hB.2.1, e1, if_neg (nI_ge (by omega) (by omega)), ck_in (by omega) (by omega), clampI (by omega), a1, bnd_s, nI_1]
    rw [fM_nextToken_L34, hB.2.2.1, e2, if_neg (nI_ge (by omega) (by omega)), ck_in (by omega) (by omega), clampI (by omega), a2, bnd_s, nI_1]
    by_cases e : nI (B i) = 32
    · rw [if_pos e, if_pos e]
      obtain ⟨p, p1, p2, p3, p4⟩ := ih (i + 1) N1 N2 (xu σ 5 3 (nI (i + 1))) (up2 μ 0 19 (nI (i + 1))) (by omega) (by omega) (by omega) (by omega) (TB_fr hB (by rw [xi_u, pk_un (by decide)]) (xi_un _ _ _ (by decide)) (by rw [up2_s, pk_un (by decide)]) (up2_n _ _ _ (by decide))) (by rw [xi_u, pk_us]) (by rw [up2_s, pk_us])
      rw [xu_xu] at p3
      rw [up2_up] at p4
      exact ⟨p, by omega, p2, p3, p4⟩
    · rw [if_neg e, if_neg e]
      exact ⟨i, by omega, hi, by rw [xu_id e1], by rw [up2_id e2]⟩
/-- the end of a run of one sort -/
def runE (B : Nat → Nat) (L s : Nat) : Nat → Nat → Nat
  | 0, q => q
  | d + 1, q => if so3 (B q) = s then runE B L s d (q + 1) else q
theorem runE_ge (B : Nat → Nat) (L s : Nat) : ∀ (d q : Nat), q ≤ runE B L s d q ∧ runE B L s d q ≤ q + d ∧ ∀ i, q ≤ i → i < runE B L s d q → so3 (B i) = s := by
  intro d
  induction d with
  | zero => intro q; rw [runE]; exact ⟨by omega, by omega, fun i h1 h2 => absurd h2 (by omega)⟩
  | succ d ih =>
    intro q
    rw [runE]
    by_cases h : so3 (B q) = s
    · rw [if_pos h]
      obtain ⟨a1, a2, a3⟩ := ih (q + 1)
      refine ⟨by omega, by omega, fun i h1 h2 => ?_⟩
      by_cases e : i = q
      · rw [e]; exact h
      · exact a3 i (by omega) h2
    · rw [if_neg h]; exact ⟨by omega, by omega, fun i h1 h2 => absurd h2 (by omega)⟩
theorem X_run {B : Nat → Nat} {L s : Nat} (hs : s < 3) (kx : Int32 → Int32 → XS → Option XS) (x1 x2 : Int32) : ∀ (d q N : Nat) (σ : XS) (μ : MS), L - q = d → q ≤ L → d < N → TB σ μ B L → xi σ 5 2 = nI s → xi σ 5 4 = nI q → fT_next_L121 kx N x1 x2 σ = kx x1 x2 (xu σ 5 4 (nI (runE B L s d q))) := by
  intro d
  induction d with
  | zero =>
    intro q N σ μ hd hq hN hB e1 e2
    obtain ⟨N, rfl⟩ : ∃ m, N = m + 1 := ⟨N - 1, by omega⟩
    have hL := hB.1
    rw [fT_next_L121, e1, if_neg (show ¬ nI s = (3 : Int32) from fun e => absurd ((nI_eq (a := s) (b := 3) (by omega) (by omega)).mp e) (by omega)), hB.2.1, e2, if_pos (nI_le (by omega) (by omega)), runE, xu_id e2]
  | succ d ih =>
    intro q N σ μ hd hq hN hB e1 e2
    obtain ⟨N, rfl⟩ : ∃ m, N = m + 1 := ⟨N - 1, by omega⟩
    have hL := hB.1
    obtain ⟨a1, a2, a3⟩ := hB.2.2.2 q (by omega)
    have hso : so3 (B q) < 4 := by unfold so3; split <;> (try split) <;> omega
    rw [fT_next_L121, e1, if_neg (show ¬ nI s = (3 : Int32) from fun e => absurd ((nI_eq (a := s) (b := 3) (by omega) (by omega)).mp e) (by omega)), hB.2.1, e2, if_neg (nI_ge (by omega) (by omega)), ck_in (by omega) (by omega), clampI (by omega), a1, X_sortOf σ a3, ob_s, bnd_s, nI_1, runE]
    by_cases h : so3 (B q) = s
    · rw [if_pos (by rw [h]), if_pos h, ih (q + 1) N (xu σ 5 4 (nI (q + 1))) μ (by omega) (by omega) (by omega) (TB_fr hB (by rw [xi_u, pk_un (by decide)]) (xi_un _ _ _ (by decide)) rfl rfl) (by rw [xi_u, pk_un (by decide)]; exact e1) (by rw [xi_u, pk_us]), xu_xu]
    · rw [if_neg (fun e => h ((nI_eq (by omega) (by omega)).mp e)), if_neg h, xu_id e2]
theorem M_runL {B : Nat → Nat} {L : Nat} (km : Int32 → MS → Option MS) (x1 : Int32) : ∀ (d q N : Nat) (σ : XS) (μ : MS), L - q = d → q ≤ L → d < N → TB σ μ B L → μ 0 19 = nI q → fM_nextToken_L128 km N x1 μ = km x1 (up2 μ 0 19 (nI (runE B L 1 d q))) := by
  intro d
  induction d with
  | zero =>
    intro q N σ μ hd hq hN hB e2
    obtain ⟨N, rfl⟩ : ∃ m, N = m + 1 := ⟨N - 1, by omega⟩
    have hL := hB.1
    rw [fM_nextToken_L128, e2, M_letQ hB (by omega), ob_s, ite0 (fun z => absurd z.1 (by omega)), runE, up2_id e2]
  | succ d ih =>
    intro q N σ μ hd hq hN hB e2
    obtain ⟨N, rfl⟩ : ∃ m, N = m + 1 := ⟨N - 1, by omega⟩
    have hL := hB.1
    rw [fM_nextToken_L128, e2, M_letQ hB (by omega), ob_s, bnd_s, nI_1, runE]
    by_cases h : so3 (B q) = 1
    · rw [ite1 ⟨by omega, h⟩, if_pos h, ih (q + 1) N σ (up2 μ 0 19 (nI (q + 1))) (by omega) (by omega) (by omega) (TB_fr hB rfl rfl (by rw [up2_s, pk_un (by decide)]) (up2_n _ _ _ (by decide))) (by rw [up2_s, pk_us]), up2_up]
    · rw [ite0 (fun z => h z.2), if_neg h, up2_id e2]
/-- a number's worth -/
def nv (B : Nat → Nat) (p : Nat) : Nat → Nat
  | 0 => 0
  | i + 1 => 10 * nv B p i + (B (p + i) - 48)
theorem nv_step (B : Nat → Nat) (p i : Nat) (h : 48 ≤ B (p + i)) : (((10 : Int32) * nI (nv B p i)) + nI (B (p + i))) - (48 : Int32) = nI (nv B p (i + 1)) := by
  rw [show (10 : Int32) = nI 10 from rfl, show (48 : Int32) = nI 48 from rfl, pk_mul, nI_add, pk_sub (by omega), nv]
  congr 1
  omega
theorem nv_lt (B : Nat → Nat) (p : Nat) : ∀ i, (∀ m, m < i → B (p + m) ≤ 57) → nv B p i < 10 ^ i := by
  intro i
  induction i with
  | zero => intro _; rw [nv]; decide
  | succ i ih =>
    intro h
    rw [nv, Nat.pow_succ]
    have h1 := ih (fun m hm => h m (by omega))
    have h2 := h i (by omega)
    omega
theorem so3_2 {b : Nat} (h : so3 b = 2) : 48 ≤ b ∧ b ≤ 57 := by
  unfold so3 at h
  split at h
  · omega
  · split at h
    · assumption
    · omega
theorem M_runD {B : Nat → Nat} {L p : Nat} (km : Int32 → MS → Option MS) (x1 : Int32) : ∀ (d q N : Nat) (σ : XS) (μ : MS), L - q = d → q ≤ L → p ≤ q → d < N → TB σ μ B L → μ 0 18 = nI p → μ 0 19 = nI q → μ 0 21 = nI (nv B p (min (q - p) 4)) →
    fM_nextToken_L214 km N x1 μ = km x1 (up2 (up2 μ 0 21 (nI (nv B p (min (runE B L 2 d q - p) 4)))) 0 19 (nI (runE B L 2 d q))) := by
  intro d
  induction d with
  | zero =>
    intro q N σ μ hd hq hp hN hB e1 e2 e3
    obtain ⟨N, rfl⟩ : ∃ m, N = m + 1 := ⟨N - 1, by omega⟩
    have hL := hB.1
    rw [fM_nextToken_L214, e2, M_digQ hB (by omega), ob_s, ite0 (fun z => absurd z.1 (by omega)), runE, up2_id e3, up2_id e2]
  | succ d ih =>
    intro q N σ μ hd hq hp hN hB e1 e2 e3
    obtain ⟨N, rfl⟩ : ∃ m, N = m + 1 := ⟨N - 1, by omega⟩
    have hL := hB.1
    obtain ⟨a1, a2, a3⟩ := hB.2.2.2 q (by omega)
    rw [fM_nextToken_L214, e2, M_digQ hB (by omega), ob_s, runE]
    by_cases h : so3 (B q) = 2
    · have hb := so3_2 h
      rw [ite1 ⟨by omega, h⟩, if_pos h, e1, pk_sub hp]
      unfold fM_nextToken_J266
      have key : ∀ v : Int32, v = nI (nv B p (min (q + 1 - p) 4)) → fM_nextToken_L214 km N x1 (up2 (up2 μ 0 21 v) 0 19 (nI (q + 1))) = km x1 (up2 (up2 μ 0 21 (nI (nv B p (min (runE B L 2 d (q + 1) - p) 4)))) 0 19 (nI (runE B L 2 d (q + 1)))) := fun v hv => by
        rw [ih (q + 1) N σ (up2 (up2 μ 0 21 v) 0 19 (nI (q + 1))) (by omega) (by omega) (by omega) (by omega) (TB_fr hB rfl rfl (by rw [up2_s, pk_un (by decide), up2_s, pk_un (by decide)]) (by rw [up2_n _ _ _ (by decide), up2_n _ _ _ (by decide)])) (by rw [up2_s, pk_un (by decide), up2_s, pk_un (by decide)]; exact e1) (by rw [up2_s, pk_us]) (by rw [up2_s, pk_un (by decide), up2_s, pk_us]; exact hv)]
        rw [up2_comm (up2 μ 0 21 v) _ _ (show (19 : Nat) ≠ 21 by decide), up2_up, up2_up]
      by_cases h4 : 4 ≤ q - p
      · rw [if_pos (show (4 : Int32) ≤ nI (q - p) from nI_le (a := 4) h4 (by omega)), bnd_s, bnd_s, up2_s, pk_un (by decide), e2, nI_1]
        exact key _ (by rw [e3]; congr 2; omega)
      · rw [if_neg (show ¬ (4 : Int32) ≤ nI (q - p) from nI_ge (b := 4) (by omega) (by omega)), ck_in (by omega) (by omega), clampI (by omega), a2, e3, bnd_s, bnd_s, up2_s, pk_un (by decide), e2, nI_1]
        refine key _ ?_
        have e5 : q = p + (q - p) := by omega
        rw [show min (q - p) 4 = q - p by omega, show min (q + 1 - p) 4 = (q - p) + 1 by omega]
        have := nv_step B p (q - p) (by rw [← e5]; exact hb.1)
        rw [← e5] at this
        exact this
    · rw [ite0 (fun z => h z.2), if_neg h, up2_id e3, up2_id e2]
