/-! orders and single numbers -/
theorem B_order {σ σ' : XS} {b : Nat} {μ μ' : MS} {R : Option (List Int32)} {n x j : Nat} {D : Nat → Prop} (h : BX σ b μ R n x j D)
    (hx : ∀ c, c ≠ 30 + 6 * b + 5 → xi σ' c = xi σ c) (h2 : σ'.2 = σ.2) (hm : ∀ c, c ≠ 1 → μ' c = μ c) (hm1 : ∀ m, m < 6 ∨ 20 ≤ m → μ' 1 m = μ 1 m)
    (ho : ∀ i, i < n → ∃ q, q < n ∧ μ' 1 (6 + i) = μ 1 (6 + q) ∧ xi σ' (30 + 6 * b + 5) i = xi σ (30 + 6 * b + 5) q) (hq : ∀ i, i < n → ∃ q, q < n ∧ μ' 1 (6 + q) = μ 1 (6 + i)) :
    BX σ' b μ' R n x j D ∧ XF σ b σ' ∧ MF μ μ' := by
  obtain ⟨⟨w1, w2, w3, w4, w5, w6, w7, w8⟩, ⟨g2, g3, g4, g5⟩, h6, h7⟩ := h
  have kw : Kw σ σ' := by unfold Kw xl xL xq xw; rw [h2]; exact ⟨rfl, rfl, rfl, fun _ _ => rfl⟩
  have xr' : xr σ' = xr σ := by unfold xr; rw [h2]
  have mf : MF μ μ' := ⟨fun c c1 _ _ _ _ => hm c c1, hm1 1 (by omega), fun m hm => hm1 m (by omega)⟩
  refine ⟨⟨⟨w1, w2, ?_, ?_, ?_, ?_, ?_, ?_⟩, ⟨?_, ?_, ?_, ?_⟩, RX_fr (by rw [xr']) kw h6, RM_fr (by rw [hm 0 (by decide)]) mf.2.2 (hm 14 (by decide)) (hm 15 (by decide)) h7⟩, ⟨fun c c1 c2 => hx c (by omega), xr', kw⟩, mf⟩
  · rw [hm1 0 (by omega)]; exact w3
  · rw [hm1 2 (by omega)]; exact w4
  · rw [hm1 4 (by omega)]; exact w5
  · intro i hi
    obtain ⟨q, hq1, e, _⟩ := ho i hi
    rw [e]; exact w6 q hq1
  · intro k hk
    obtain ⟨i, hi, e⟩ := w7 k hk
    obtain ⟨q, hq1, e2⟩ := hq i hi
    exact ⟨q, hq1, by rw [e2]; exact e⟩
  · intro k hk
    unfold WL
    rw [hm1 _ (by omega), hm1 _ (by omega), hm1 _ (by omega), hm1 _ (by omega)]
    exact w8 k hk
  · rw [hx _ (by omega), hm1 0 (by omega), hm1 4 (by omega), hm1 3 (by omega), hm1 2 (by omega), hm1 5 (by omega)]; exact g2
  · intro i hi
    obtain ⟨q, hq1, e, e2⟩ := ho i hi
    rw [e, e2]; exact g3 q hq1
  · intro k hk
    rw [hx _ (by omega), hx _ (by omega), hx _ (by omega), hx _ (by omega), hm1 _ (by omega), hm1 _ (by omega), hm1 _ (by omega), hm1 _ (by omega)]
    exact g4 k hk
  · intro k hk hD
    rw [hx _ (by omega), hm1 _ (by omega), hm1 _ (by omega), hm1 _ (by omega), hm1 _ (by omega)]
    exact g5 k hk hD
theorem M_swaps (μ : MS) {a c : Nat} (ha : a < 14) (hc : c < 14) : fM_swaps μ (nI a) (nI c) = some (up2 (up2 μ 1 (6 + a) (μ 1 (6 + c))) 1 (6 + c) (μ 1 (6 + a))) := by
  unfold fM_swaps
  rw [pl 6, nI_add, nI_add, ck_in (by omega) (by omega), bnd_s, ck_in (by omega) (by omega), ck_in (by omega) (by omega), bnd_s, ck_in (by omega) (by omega), bnd_s, clampI (by omega), clampI (by omega)]
theorem X_swap (σ : XS) (b : Nat) {a c : Nat} (ha : a < 14) (hc : c < 14) : fB_swap σ b (nI a) (nI c) = some (xu (xu σ (30 + 6 * b + 5) a (xi σ (30 + 6 * b + 5) c)) (30 + 6 * b + 5) c (xi σ (30 + 6 * b + 5) a)) := by
  unfold fB_swap
  rw [ck_in (by omega) (by omega), bnd_s, ck_in (by omega) (by omega), ck_in (by omega) (by omega), bnd_s, ck_in (by omega) (by omega), bnd_s, clampI (by omega), clampI (by omega)]
theorem B_swap {σ : XS} {b : Nat} {μ : MS} {R : Option (List Int32)} {n x j : Nat} {D : Nat → Prop} (h : BX σ b μ R n x j D) {a c : Nat} (ha : a < n) (hc : c < n) :
    ∃ σ' μ', fB_swap σ b (nI a) (nI c) = some σ' ∧ fM_swaps μ (nI a) (nI c) = some μ' ∧ (BX σ' b μ' R n x j D ∧ XF σ b σ' ∧ MF μ μ') ∧ μ' 1 (6 + a) = μ 1 (6 + c) ∧ μ' 1 (6 + c) = μ 1 (6 + a) ∧ (∀ m, m < 6 ∨ 20 ≤ m → μ' 1 m = μ 1 m) := by
  have hn := h.1.1
  refine ⟨_, _, X_swap σ b (by omega) (by omega), M_swaps μ (by omega) (by omega), ?_, ?_, ?_, ?_⟩
  · refine B_order h (fun d hd => by rw [xi_un _ _ _ hd, xi_un _ _ _ hd]) rfl (fun d hd => by rw [up2_n _ _ _ hd, up2_n _ _ _ hd]) (fun m hm => by rw [up2_s, up2_s, pk_un (by omega), pk_un (by omega)]) (fun i hi => ?_) (fun i hi => ?_)
    · rw [up2_s, up2_s, xi_u, xi_u]
      unfold upd
      by_cases e1 : i = c
      · exact ⟨a, ha, by rw [if_pos (by omega)], by rw [if_pos e1]⟩
      · by_cases e2 : i = a
        · exact ⟨c, hc, by rw [if_neg (by omega), if_pos (by omega)], by rw [if_neg e1, if_pos e2]⟩
        · exact ⟨i, hi, by rw [if_neg (by omega), if_neg (by omega)], by rw [if_neg e1, if_neg e2]⟩
    · rw [up2_s, up2_s]
      unfold upd
      by_cases e1 : i = a
      · exact ⟨c, hc, by rw [if_pos (by omega), e1]⟩
      · by_cases e2 : i = c
        · exact ⟨a, ha, by rw [e2]; by_cases e3 : a = c
                           · rw [if_pos (by omega), e3]
                           · rw [if_neg (by omega), if_pos (by omega)]⟩
        · exact ⟨i, hi, by rw [if_neg (by omega), if_neg (by omega)]⟩
  · rw [up2_s, up2_s]
    unfold upd
    by_cases e : a = c
    · rw [if_pos (by omega), e]
    · rw [if_neg (by omega), if_pos rfl]
  · rw [up2_s, up2_s]
    unfold upd
    rw [if_pos rfl]
  · intro m hm
    rw [up2_s, up2_s, pk_un (by omega), pk_un (by omega)]
/-- a single number: bump, changes, z -/
theorem B_scal {σ : XS} {b : Nat} {μ : MS} {R : Option (List Int32)} {n x j : Nat} {D : Nat → Prop} (h : BX σ b μ R n x j D) {p w : Nat} (hp : (p = 7 ∧ w = 4) ∨ (p = 8 ∧ w = 3) ∨ (p = 10 ∧ w = 5)) (v : Int32) (hv : w = 4 → ∃ q, q ≤ 100 ∧ v = nI q) :
    BX (xu σ (1 + b) p v) b (up2 μ 1 w v) R n x j D ∧ XF σ b (xu σ (1 + b) p v) ∧ MF μ (up2 μ 1 w v) := by
  obtain ⟨⟨w1, w2, w3, w4, w5, w6, w7, w8⟩, ⟨g2, g3, g4, g5⟩, h6, h7⟩ := h
  have mf : MF μ (up2 μ 1 w v) := ⟨fun c c1 _ _ _ _ => up2_n _ _ _ c1, by rw [up2_s]; exact pk_un (by omega), fun m hm => by rw [up2_s]; exact pk_un (by omega)⟩
  have xf : (hb : True) → XF σ b (xu σ (1 + b) p v) := fun _ => ⟨fun c c1 c2 => xi_un _ _ _ (by omega), rfl, kw_xu _ _ _ _⟩
  refine ⟨⟨⟨w1, w2, ?_, ?_, ?_, ?_, ?_, ?_⟩, ⟨?_, ?_, ?_, ?_⟩, RX_fr rfl (kw_xu _ _ _ _) h6, RM_fr (by rw [up2_n _ _ _ (by decide)]) mf.2.2 (up2_n _ _ _ (by decide)) (up2_n _ _ _ (by decide)) h7⟩, xf trivial, mf⟩
  · rw [up2_s, pk_un (by omega)]; exact w3
  · rw [up2_s, pk_un (by omega)]; exact w4
  · rw [up2_s]
    unfold upd
    by_cases e : 4 = w
    · rw [if_pos e]; exact hv e.symm
    · rw [if_neg e]; exact w5
  · intro i hi; rw [up2_s, pk_un (by omega)]; exact w6 i hi
  · intro i hi
    obtain ⟨q, hq, e⟩ := w7 i hi
    exact ⟨q, hq, by rw [up2_s, pk_un (by omega)]; exact e⟩
  · intro i hi
    unfold WL
    rw [up2_s, pk_un (by omega), pk_un (by omega), pk_un (by omega), pk_un (by omega)]
    exact w8 i hi
  · rw [xi_u, up2_s]
    obtain ⟨q1, q2, q3, q4, q5⟩ := g2
    rcases hp with ⟨rfl, rfl⟩ | ⟨rfl, rfl⟩ | ⟨rfl, rfl⟩
    · exact ⟨q1, rfl, q3, q4, q5⟩
    · exact ⟨q1, q2, rfl, q4, q5⟩
    · exact ⟨q1, q2, q3, q4, rfl⟩
  · intro i hi
    rw [xi_un _ _ _ (by omega), up2_s, pk_un (by omega)]; exact g3 i hi
  · intro i hi
    rw [xi_un _ _ _ (by omega), xi_un _ _ _ (by omega), xi_un _ _ _ (by omega), xi_un _ _ _ (by omega), up2_s, pk_un (by omega), pk_un (by omega), pk_un (by omega), pk_un (by omega)]; exact g4 i hi
  · intro i hi hD
    rw [xi_un _ _ _ (by omega), up2_s, pk_un (by omega), pk_un (by omega), pk_un (by omega), pk_un (by omega)]; exact g5 i hi hD
/-- the jolts' number goes up by 1 -/
theorem B_jolt {σ : XS} {b : Nat} {μ : MS} {R : Option (List Int32)} {n x j : Nat} {D : Nat → Prop} (h : BX σ b μ R n x j D) (hx : x ≤ 16) (hj : j < 20000) :
    BX (xu σ (1 + b) 9 (nI (j + 1))) b (up2 μ 1 2 (nI (j + 1))) R n 0 (j + 1) D ∧ XF σ b (xu σ (1 + b) 9 (nI (j + 1))) ∧ MF μ (up2 μ 1 2 (nI (j + 1))) := by
  obtain ⟨⟨w1, w2, w3, w4, w5, w6, w7, w8⟩, ⟨g2, g3, g4, g5⟩, h6, h7⟩ := h
  have mf : MF μ (up2 μ 1 2 (nI (j + 1))) := ⟨fun c c1 _ _ _ _ => up2_n _ _ _ c1, by rw [up2_s]; exact pk_un (by omega), fun m hm => by rw [up2_s]; exact pk_un (by omega)⟩
  refine ⟨⟨⟨w1, ⟨by omega, by omega⟩, ?_, ?_, ?_, ?_, ?_, ?_⟩, ⟨?_, ?_, ?_, ?_⟩, RX_fr rfl (kw_xu _ _ _ _) h6, RM_fr (by rw [up2_n _ _ _ (by decide)]) mf.2.2 (up2_n _ _ _ (by decide)) (up2_n _ _ _ (by decide)) h7⟩, ⟨fun c c1 c2 => xi_un _ _ _ (by omega), rfl, kw_xu _ _ _ _⟩, mf⟩
  · rw [up2_s, pk_un (by omega)]; exact w3
  · rw [up2_s]; exact pk_us
  · rw [up2_s, pk_un (by omega)]; exact w5
  · intro i hi; rw [up2_s, pk_un (by omega)]; exact w6 i hi
  · intro i hi
    obtain ⟨q, hq, e⟩ := w7 i hi
    exact ⟨q, hq, by rw [up2_s, pk_un (by omega)]; exact e⟩
  · intro i hi
    unfold WL
    rw [up2_s, pk_un (by omega), pk_un (by omega), pk_un (by omega), pk_un (by omega)]
    obtain ⟨kd, th, tn, mv, a1, a2, a3, a4, a5⟩ := w8 i hi
    exact ⟨kd, th, tn, mv, a1, a2, a3, by omega, a5⟩
  · rw [xi_u, up2_s]
    obtain ⟨q1, q2, q3, q4, q5⟩ := g2
    exact ⟨q1, q2, q3, rfl, q5⟩
  · intro i hi
    rw [xi_un _ _ _ (by omega), up2_s, pk_un (by omega)]; exact g3 i hi
  · intro i hi
    rw [xi_un _ _ _ (by omega), xi_un _ _ _ (by omega), xi_un _ _ _ (by omega), xi_un _ _ _ (by omega), up2_s, pk_un (by omega), pk_un (by omega), pk_un (by omega), pk_un (by omega)]; exact g4 i hi
  · intro i hi hD
    rw [xi_un _ _ _ (by omega), up2_s, pk_un (by omega), pk_un (by omega), pk_un (by omega), pk_un (by omega)]; exact g5 i hi hD
/-- a draw is the same number on both sides, below 2 ^ 24 -/
theorem B_draw {σ : XS} {b : Nat} {μ : MS} {R : Option (List Int32)} {n x j : Nat} {D : Nat → Prop} (h : BX σ b μ R n x j D) :
    ∃ (r : Nat) (σ' : XS) (μ' : MS), r < 2 ^ 24 ∧ fB_draw σ b = some (nI r, σ') ∧ fM_drawn μ = some (nI r, μ') ∧ BX σ' b μ' R n x j D ∧ XF σ b σ' ∧ MF μ μ' := by
  unfold fB_draw fM_drawn
  rw [bnd_s, bnd_s, xi_u, up2_s, pk_us, pk_us, h.2.1.1.2.2.2.2]
  have hr := pk_ushr (μ 1 5 * 1103515245 + 12345) 8 8 (by decide)
  generalize μ 1 5 * 1103515245 + 12345 = z at hr ⊢
  have hb : z.toBitVec.toNat < 2 ^ 32 := z.toBitVec.isLt
  refine ⟨z.toBitVec.toNat / 2 ^ 8, _, _, by omega, ?_, ?_, B_scal h (Or.inr (Or.inr ⟨rfl, rfl⟩)) z (fun e => absurd e (by decide))⟩
  · congr 2
    apply Int32.toBitVec_inj.mp
    apply BitVec.eq_of_toNat_eq
    rw [hr, bv_nI (by omega)]
  · congr 2
    apply Int32.toBitVec_inj.mp
    apply BitVec.eq_of_toNat_eq
    rw [hr, bv_nI (by omega)]
/-! a letter goes from place a to place c -/
theorem M_up (k47 : Int32 → Int32 → Int32 → MS → Option MS) (x1 v : Int32) (c : Nat) (hc : c < 14) : ∀ (d i n : Nat) (μ : MS), i < 14 → c - i = d → d < n →
    ∃ μ', fM_goesTo_L13 k47 n x1 (nI c) v (nI i) μ = k47 x1 (nI c) v μ' ∧ (∀ q, q ≠ 1 → μ' q = μ q) ∧ ∀ m, μ' 1 m = if 6 + i ≤ m ∧ m < 6 + c then μ 1 (m + 1) else μ 1 m := by
  intro d
  induction d with
  | zero =>
    intro i n μ hi hd hn
    obtain ⟨n, rfl⟩ : ∃ m, n = m + 1 := ⟨n - 1, by omega⟩
    rw [fM_goesTo_L13, if_pos (nI_le (by omega) (by omega))]
    exact ⟨μ, rfl, fun _ _ => rfl, fun m => by rw [if_neg (by omega)]⟩
  | succ d ih =>
    intro i n μ hi hd hn
    obtain ⟨n, rfl⟩ : ∃ m, n = m + 1 := ⟨n - 1, by omega⟩
    rw [fM_goesTo_L13, if_neg (nI_ge (by omega) (by omega)), pl 6, nI_add, nI_1, ck_in (by omega) (by omega), ck_in (by omega) (by omega), bnd_s, clampI (by omega), clampI (by omega), nI_1, bnd_s]
    obtain ⟨μ', a1, a2, a3⟩ := ih (i + 1) n (up2 μ 1 (6 + i) (μ 1 (6 + i + 1))) (by omega) (by omega) (by omega)
    refine ⟨μ', a1, fun q hq => by rw [a2 q hq, up2_n _ _ _ hq], fun m => ?_⟩
    rw [a3, up2_s]
    unfold upd
    by_cases e1 : 6 + (i + 1) ≤ m ∧ m < 6 + c
    · rw [if_pos e1, if_neg (by omega), if_pos (by omega)]
    · rw [if_neg e1]
      by_cases e2 : m = 6 + i
      · rw [if_pos e2, if_pos (by omega), e2]
      · rw [if_neg e2, if_neg (by omega)]
theorem M_down (k84 : Int32 → Int32 → MS → Option MS) (v : Int32) (c : Nat) (hc : c < 14) : ∀ (d i n : Nat) (μ : MS), i < 14 → i - c = d → d < n →
    ∃ μ', fM_goesTo_L50 k84 n (nI c) v (nI i) μ = k84 (nI c) v μ' ∧ (∀ q, q ≠ 1 → μ' q = μ q) ∧ ∀ m, μ' 1 m = if 6 + c < m ∧ m ≤ 6 + i then μ 1 (m - 1) else μ 1 m := by
  intro d
  induction d with
  | zero =>
    intro i n μ hi hd hn
    obtain ⟨n, rfl⟩ : ∃ m, n = m + 1 := ⟨n - 1, by omega⟩
    rw [fM_goesTo_L50, if_pos (nI_le (by omega) (by omega))]
    exact ⟨μ, rfl, fun _ _ => rfl, fun m => by rw [if_neg (by omega)]⟩
  | succ d ih =>
    intro i n μ hi hd hn
    obtain ⟨n, rfl⟩ : ∃ m, n = m + 1 := ⟨n - 1, by omega⟩
    obtain ⟨i, rfl⟩ : ∃ i', i = i' + 1 := ⟨i - 1, by omega⟩
    rw [fM_goesTo_L50, if_neg (nI_ge (by omega) (by omega)), pk_m1, pl 6, nI_add, show 6 + (i + 1) = 6 + i + 1 by omega, nI_pred, ck_in (by omega) (by omega), ck_in (by omega) (by omega), bnd_s, clampI (by omega), clampI (by omega), bnd_s]
    obtain ⟨μ', a1, a2, a3⟩ := ih i n (up2 μ 1 (6 + i + 1) (μ 1 (6 + i))) (by omega) (by omega) (by omega)
    refine ⟨μ', a1, fun q hq => by rw [a2 q hq, up2_n _ _ _ hq], fun m => ?_⟩
    rw [a3, up2_s]
    unfold upd
    by_cases e1 : 6 + c < m ∧ m ≤ 6 + i
    · rw [if_pos e1, if_neg (by omega), if_pos (by omega)]
    · rw [if_neg e1]
      by_cases e2 : m = 6 + i + 1
      · rw [if_pos e2, if_pos (by omega), e2]; rfl
      · rw [if_neg e2, if_neg (by omega)]
/-- where the letter at place i stood before -/
def mvI (a c i : Nat) : Nat := if i = c then a else if a ≤ i ∧ i < c then i + 1 else if c < i ∧ i ≤ a then i - 1 else i
theorem M_goesTo (μ : MS) {a c : Nat} (ha : a < 14) (hc : c < 14) :
    ∃ μ', fM_goesTo μ (nI a) (nI c) = some μ' ∧ (∀ q, q ≠ 1 → μ' q = μ q) ∧ (∀ m, m < 6 ∨ 20 ≤ m → μ' 1 m = μ 1 m) ∧ ∀ i, i < 14 → μ' 1 (6 + i) = μ 1 (6 + mvI a c i) := by
  unfold fM_goesTo
  rw [pl 6, nI_add, ck_in (by omega) (by omega), bnd_s, clampI (by omega)]
  obtain ⟨μ1, a1, a2, a3⟩ := M_up (fun (x1 : Int32) (x2 : Int32) (x3 : Int32) (μ : MS) => fM_goesTo_L50 (fun (x2 : Int32) (x3 : Int32) (μ : MS) => ck (nI 6 + x2) (3076) <|
      bnd (up2 μ 1 ((nI 6 + x2)).toNatClampNeg x3) fun μ19 =>
      some μ19) 10000 x2 x3 x1 μ) (nI a) (μ 1 (6 + a)) c hc (c - a) a 10000 μ ha rfl (by omega)
  rw [a1]
  obtain ⟨μ2, b1, b2, b3⟩ := M_down (fun (x2 : Int32) (x3 : Int32) (μ : MS) => ck (nI 6 + x2) (3076) <|
      bnd (up2 μ 1 ((nI 6 + x2)).toNatClampNeg x3) fun μ19 =>
      some μ19) (μ 1 (6 + a)) c hc (a - c) a 10000 μ1 ha rfl (by omega)
  rw [b1, nI_add, ck_in (by omega) (by omega), bnd_s, clampI (by omega)]
  refine ⟨_, rfl, fun q hq => by rw [up2_n _ _ _ hq, b2 q hq, a2 q hq], fun m hm => ?_, fun i hi => ?_⟩
  · rw [up2_s, pk_un (by omega), b3, if_neg (by omega), a3, if_neg (by omega)]
  · rw [up2_s]
    unfold upd mvI
    by_cases e0 : i = c
    · rw [if_pos (by omega), if_pos e0]
    · rw [if_neg (by omega), if_neg e0, b3]
      by_cases e1 : a ≤ i ∧ i < c
      · rw [if_pos e1, if_neg (by omega), a3, if_pos (by omega)]; rfl
      · rw [if_neg e1]
        by_cases e2 : c < i ∧ i ≤ a
        · rw [if_pos e2, if_pos (by omega), a3, if_neg (by omega)]
          congr 1; omega
        · rw [if_neg e2, if_neg (by omega), a3, if_neg (by omega)]
theorem X_up (b : Nat) (k55 : Int32 → Int32 → Int32 → XS → Option XS) (x1 v : Int32) (c : Nat) (hc : c < 14) : ∀ (d i n : Nat) (σ : XS), i < 14 → c - i = d → d < n →
    ∃ σ', fB_move_L27 b k55 n x1 (nI c) v (nI i) σ = k55 x1 (nI c) v σ' ∧ (∀ q, q ≠ 30 + 6 * b + 5 → xi σ' q = xi σ q) ∧ σ'.2 = σ.2 ∧ ∀ m, xi σ' (30 + 6 * b + 5) m = if i ≤ m ∧ m < c then xi σ (30 + 6 * b + 5) (m + 1) else xi σ (30 + 6 * b + 5) m := by
  intro d
  induction d with
  | zero =>
    intro i n σ hi hd hn
    obtain ⟨n, rfl⟩ : ∃ m, n = m + 1 := ⟨n - 1, by omega⟩
    rw [fB_move_L27, if_pos (nI_le (by omega) (by omega))]
    exact ⟨σ, rfl, fun _ _ => rfl, rfl, fun m => by rw [if_neg (by omega)]⟩
  | succ d ih =>
    intro i n σ hi hd hn
    obtain ⟨n, rfl⟩ : ∃ m, n = m + 1 := ⟨n - 1, by omega⟩
    rw [fB_move_L27, if_neg (nI_ge (by omega) (by omega)), nI_1, ck_in (by omega) (by omega), ck_in (by omega) (by omega), bnd_s, clampI (by omega), clampI (by omega), bnd_s]
    obtain ⟨σ', a1, a2, a4, a3⟩ := ih (i + 1) n (xu σ (30 + 6 * b + 5) i (xi σ (30 + 6 * b + 5) (i + 1))) (by omega) (by omega) (by omega)
    refine ⟨σ', a1, fun q hq => by rw [a2 q hq, xi_un _ _ _ hq], a4, fun m => ?_⟩
    rw [a3, xi_u]
    unfold upd
    by_cases e1 : (i + 1) ≤ m ∧ m < c
    · rw [if_pos e1, if_neg (by omega), if_pos (by omega)]
    · rw [if_neg e1]
      by_cases e2 : m = i
      · rw [if_pos e2, if_pos (by omega), e2]
      · rw [if_neg e2, if_neg (by omega)]
theorem X_down (b : Nat) (k86 : Int32 → Int32 → XS → Option XS) (v : Int32) (c : Nat) (hc : c < 14) : ∀ (d i n : Nat) (σ : XS), i < 14 → i - c = d → d < n →
    ∃ σ', fB_move_L58 b k86 n (nI c) v (nI i) σ = k86 (nI c) v σ' ∧ (∀ q, q ≠ 30 + 6 * b + 5 → xi σ' q = xi σ q) ∧ σ'.2 = σ.2 ∧ ∀ m, xi σ' (30 + 6 * b + 5) m = if c < m ∧ m ≤ i then xi σ (30 + 6 * b + 5) (m - 1) else xi σ (30 + 6 * b + 5) m := by
  intro d
  induction d with
  | zero =>
    intro i n σ hi hd hn
    obtain ⟨n, rfl⟩ : ∃ m, n = m + 1 := ⟨n - 1, by omega⟩
    rw [fB_move_L58, if_pos (nI_le (by omega) (by omega))]
    exact ⟨σ, rfl, fun _ _ => rfl, rfl, fun m => by rw [if_neg (by omega)]⟩
  | succ d ih =>
    intro i n σ hi hd hn
    obtain ⟨n, rfl⟩ : ∃ m, n = m + 1 := ⟨n - 1, by omega⟩
    obtain ⟨i, rfl⟩ : ∃ i', i = i' + 1 := ⟨i - 1, by omega⟩
    rw [fB_move_L58, if_neg (nI_ge (by omega) (by omega)), pk_m1, nI_pred, ck_in (by omega) (by omega), ck_in (by omega) (by omega), bnd_s, clampI (by omega), clampI (by omega), bnd_s]
    obtain ⟨σ', a1, a2, a4, a3⟩ := ih i n (xu σ (30 + 6 * b + 5) (i + 1) (xi σ (30 + 6 * b + 5) i)) (by omega) (by omega) (by omega)
    refine ⟨σ', a1, fun q hq => by rw [a2 q hq, xi_un _ _ _ hq], a4, fun m => ?_⟩
    rw [a3, xi_u]
    unfold upd
    by_cases e1 : c < m ∧ m ≤ i
    · rw [if_pos e1, if_neg (by omega), if_pos (by omega)]
    · rw [if_neg e1]
      by_cases e2 : m = i + 1
      · rw [if_pos e2, if_pos (by omega), e2]; rfl
      · rw [if_neg e2, if_neg (by omega)]
theorem X_has {σ : XS} {b n : Nat} (hn : n ≤ 14) (h : xi σ (1 + b) 0 = nI n) {k : Nat} (hk : k < n) : fB_has σ b (nI k) = some 1 := by
  unfold fB_has
  rw [if_neg (nI_pos (by omega)), h, if_neg (nI_ge hk (by omega))]
theorem X_move {σ : XS} {b n : Nat} (hn : n ≤ 14) (h : xi σ (1 + b) 0 = nI n) {a c : Nat} (ha : a < n) (hc : c < n) :
    ∃ σ', fB_move σ b (nI a) (nI c) = some σ' ∧ (∀ q, q ≠ 30 + 6 * b + 5 → xi σ' q = xi σ q) ∧ σ'.2 = σ.2 ∧ ∀ i, i < 14 → xi σ' (30 + 6 * b + 5) i = xi σ (30 + 6 * b + 5) (mvI a c i) := by
  unfold fB_move
  rw [X_has hn h ha, ob_s, if_neg (by decide), X_has hn h hc, ob_s, if_neg (by decide), ck_in (by omega) (by omega), bnd_s, clampI (by omega)]
  obtain ⟨μ1, a1, a2, a4, a3⟩ := X_up b (fun (x1 : Int32) (x2 : Int32) (x3 : Int32) (σ : XS) => fB_move_L58 b (fun (x2 : Int32) (x3 : Int32) (σ : XS) => ck x2 (14) <|
          bnd (xu σ (30 + 6 * b + 5) (x2).toNatClampNeg x3) fun σ24 =>
          some σ24) 10000 x2 x3 x1 σ) (nI a) (xi σ (30 + 6 * b + 5) a) c (by omega) (c - a) a 10000 σ (by omega) rfl (by omega)
  rw [a1]
  obtain ⟨μ2, b1, b2, b4, b3⟩ := X_down b (fun (x2 : Int32) (x3 : Int32) (σ : XS) => ck x2 (14) <|
          bnd (xu σ (30 + 6 * b + 5) (x2).toNatClampNeg x3) fun σ24 =>
          some σ24) (xi σ (30 + 6 * b + 5) a) c (by omega) (a - c) a 10000 μ1 (by omega) rfl (by omega)
  rw [b1, ck_in (by omega) (by omega), bnd_s, clampI (by omega)]
  refine ⟨_, rfl, fun q hq => by rw [xi_un _ _ _ hq, b2 q hq, a2 q hq], by show μ2.2 = _; rw [b4, a4], fun i hi => ?_⟩
  rw [xi_u]
  unfold upd mvI
  by_cases e0 : i = c
  · rw [if_pos (by omega), if_pos e0]
  · rw [if_neg (by omega), if_neg e0, b3]
    by_cases e1 : a ≤ i ∧ i < c
    · rw [if_pos e1, if_neg (by omega), a3, if_pos (by omega)]
    · rw [if_neg e1]
      by_cases e2 : c < i ∧ i ≤ a
      · rw [if_pos e2, if_pos (by omega), a3, if_neg (by omega)]
      · rw [if_neg e2, if_neg (by omega), a3, if_neg (by omega)]
theorem mvI_lt {a c i n : Nat} (ha : a < n) (hc : c < n) (hi : i < n) : mvI a c i < n := by
  unfold mvI
  split
  · exact ha
  · split
    · omega
    · split <;> omega
theorem mvI_on {a c i n : Nat} (ha : a < n) (hc : c < n) (hi : i < n) : ∃ q, q < n ∧ mvI a c q = i := by
  by_cases e0 : i = a
  · exact ⟨c, hc, by unfold mvI; rw [if_pos rfl, e0]⟩
  · by_cases e1 : a < i ∧ i ≤ c
    · exact ⟨i - 1, by omega, by unfold mvI; rw [if_neg (by omega), if_pos (by omega)]; omega⟩
    · by_cases e2 : c ≤ i ∧ i < a
      · exact ⟨i + 1, by omega, by unfold mvI; rw [if_neg (by omega), if_neg (by omega), if_pos (by omega)]; omega⟩
      · exact ⟨i, hi, by unfold mvI; rw [if_neg (by omega), if_neg (by omega), if_neg (by omega)]⟩
theorem B_move {σ : XS} {b : Nat} {μ : MS} {R : Option (List Int32)} {n x j : Nat} {D : Nat → Prop} (h : BX σ b μ R n x j D) {a c : Nat} (ha : a < n) (hc : c < n) :
    ∃ σ' μ', fB_move σ b (nI a) (nI c) = some σ' ∧ fM_goesTo μ (nI a) (nI c) = some μ' ∧ BX σ' b μ' R n x j D ∧ XF σ b σ' ∧ MF μ μ' := by
  have hn := h.1.1
  obtain ⟨μ', a1, a2, a3, a4⟩ := M_goesTo μ (a := a) (c := c) (by omega) (by omega)
  obtain ⟨σ', b1, b2, b3, b4⟩ := X_move hn (by rw [h.2.1.1.1]; exact h.1.2.2.1) ha hc
  refine ⟨σ', μ', b1, a1, B_order h b2 b3 a2 a3 (fun i hi => ⟨mvI a c i, mvI_lt ha hc hi, a4 i (by omega), b4 i (by omega)⟩) (fun i hi => ?_)⟩
  obtain ⟨q, hq, e⟩ := mvI_on ha hc hi
  exact ⟨q, hq, by rw [a4 q (by omega), e]⟩
