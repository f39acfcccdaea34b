/-! thoughts -/
theorem xi_ua (σ : XS) (c : Nat) (f : Nat → Int32) : xi (xua σ c f) c = f := by show (if c = c then f else σ.1 c) = f; rw [if_pos rfl]
theorem xi_uan (σ : XS) {c d : Nat} (f : Nat → Int32) (h : d ≠ c) : xi (xua σ c f) d = xi σ d := by show (if d = c then f else σ.1 d) = _; rw [if_neg h]; rfl
theorem xi_ur (σ : XS) (k : Nat) (v : Option Nat) : xi (xur σ k v) = xi σ := rfl
theorem cpy14 (f g : Nat → Int32) {i : Nat} (h : i < 14) : va_cpy f g ((0 : Int32)).toNatClampNeg ((0 : Int32)).toNatClampNeg ((14 : Int32)).toNatClampNeg i = f i := by
  have e := pk_cpy_in (f := f) (g := g) (sp := 0) (dp := 0) (n := 14) (j := i) (by omega) (by omega)
  rw [Nat.zero_add, Nat.sub_zero] at e
  exact e
theorem X_becomeAs (σ : XS) {b p : Nat} (hb : b < 4) (hp : p < 4) (h : b ≠ p) : ∃ σ', fB_becomeAs σ b p = some σ' ∧ (∀ c, c ≠ 1 + b → (c < 30 + 6 * b ∨ 36 + 6 * b ≤ c) → xi σ' c = xi σ c) ∧
    (xi σ' (1 + b) 0 = xi σ (1 + p) 0 ∧ xi σ' (1 + b) 7 = xi σ (1 + p) 7 ∧ xi σ' (1 + b) 8 = xi σ (1 + p) 8 ∧ xi σ' (1 + b) 9 = xi σ (1 + p) 9 ∧ xi σ' (1 + b) 10 = xi σ (1 + p) 10) ∧
    (∀ w i, w < 6 → i < 14 → xi σ' (30 + 6 * b + w) i = xi σ (30 + 6 * p + w) i) ∧ xr σ' b = xr σ p ∧ (∀ q, q ≠ b → xr σ' q = xr σ q) ∧ Kw σ σ' := by
  unfold fB_becomeAs
  simp only [bnd_s]
  refine ⟨_, rfl, fun c c1 c2 => ?_, ⟨?_, ?_, ?_, ?_, ?_⟩, fun w i hw hi => ?_, va_up_self _ _ _, fun q hq => va_up_ne _ _ hq, ⟨rfl, rfl, rfl, fun _ _ => rfl⟩⟩
  · simp (discharger := omega) only [xi_ur, xi_un, xi_uan]
  · simp (discharger := omega) only [xi_ur, xi_u, xi_un, xi_ua, xi_uan, pk_us, pk_un]
  · simp (discharger := omega) only [xi_ur, xi_u, xi_un, xi_ua, xi_uan, pk_us, pk_un]
  · simp (discharger := omega) only [xi_ur, xi_u, xi_un, xi_ua, xi_uan, pk_us, pk_un]
  · simp (discharger := omega) only [xi_ur, xi_u, xi_un, xi_ua, xi_uan, pk_us, pk_un]
  · simp (discharger := omega) only [xi_ur, xi_u, xi_un, xi_ua, xi_uan, pk_us, pk_un]
  · have hw6 : w = 0 ∨ w = 1 ∨ w = 2 ∨ w = 3 ∨ w = 4 ∨ w = 5 := by omega
    rcases hw6 with rfl | rfl | rfl | rfl | rfl | rfl <;> simp (discharger := omega) only [xi_ur, xi_u, xi_un, xi_ua, xi_uan, cpy14]
/-- a bag becomes another one's like -/
theorem B_becomeAs {σ : XS} {b p : Nat} (hb : b < 4) (hp : p < 4) (hbp : b ≠ p) {μ : MS} {R : Option (List Int32)} {n x j : Nat} (h : BX σ p μ R n x j NoD) :
    ∃ σ', fB_becomeAs σ b p = some σ' ∧ BX σ' b μ R n x j NoD ∧ (∀ c, c ≠ 1 + b → (c < 30 + 6 * b ∨ 36 + 6 * b ≤ c) → xi σ' c = xi σ c) ∧ (∀ q, q ≠ b → xr σ' q = xr σ q) ∧ Kw σ σ' := by
  obtain ⟨σ', a1, a2, a3, a4, a5, a6, a7⟩ := X_becomeAs σ hb hp hbp
  have hn := h.1.1
  refine ⟨σ', a1, ⟨h.1, ⟨?_, fun i hi => ?_, fun k hk => ?_, fun k hk hD => ?_⟩, ?_, h.2.2.2⟩, a2, a6, a7⟩
  · rw [a3.1, a3.2.1, a3.2.2.1, a3.2.2.2.1, a3.2.2.2.2]; exact h.2.1.1
  · rw [a4 5 i (by omega) (by omega)]; exact h.2.1.2.1 i hi
  · rw [a4 0 k (by omega) (by omega), a4 1 k (by omega) (by omega), a4 2 k (by omega) (by omega), a4 3 k (by omega) (by omega)]; exact h.2.1.2.2.1 k hk
  · rw [a4 4 k (by omega) (by omega)]; exact h.2.1.2.2.2 k hk hD
  · have g := RX_fr (σ' := σ') (b := p) (R := R) (σ := σ) (by rw [a6 p (fun e => hbp e.symm)]) a7 h.2.2.1
    refine ⟨g.1, ?_⟩
    rcases R with _ | cs
    · show xr σ' b = none; rw [a5]; exact h.2.2.1.2
    · obtain ⟨a, o, e1, e2, e3⟩ := g.2
      exact ⟨a, o, by rw [a5, ← a6 p (fun e => hbp e.symm)]; exact e1, e2, e3⟩
theorem M_laysByL (k26 : MS → Option MS) : ∀ (d i N : Nat) (μ : MS), 76 - i = d → i ≤ 76 → d < N → ∃ μ', fM_laysBy_L2 k26 N (nI i) μ = k26 μ' ∧ (∀ c, c ≠ 16 → μ' c = μ c) ∧ ∀ m, μ' 16 m = if i ≤ m ∧ m < 76 then μ 1 m else μ 16 m := by
  intro d
  induction d with
  | zero =>
    intro i N μ hd hi hN
    obtain ⟨N, rfl⟩ : ∃ m, N = m + 1 := ⟨N - 1, by omega⟩
    rw [fM_laysBy_L2, show (76 : Int32) = nI 76 from rfl, if_pos (nI_le (by omega) (by omega))]
    exact ⟨μ, rfl, fun _ _ => rfl, fun m => by rw [if_neg (by omega)]⟩
  | succ d ih =>
    intro i N μ hd hi hN
    obtain ⟨N, rfl⟩ : ∃ m, N = m + 1 := ⟨N - 1, by omega⟩
    rw [fM_laysBy_L2, show (76 : Int32) = nI 76 from rfl, if_neg (nI_ge (by omega) (by omega)), ck_in (by omega) (by omega), ck_in (by omega) (by omega), bnd_s, clampI (by omega), bnd_s, nI_1]
    obtain ⟨μ', a1, a2, a3⟩ := ih (i + 1) N (up2 μ 16 i (μ 1 i)) (by omega) (by omega) (by omega)
    refine ⟨μ', a1, fun c hc => by rw [a2 c hc, up2_n _ _ _ hc], fun m => ?_⟩
    rw [a3, up2_s, up2_n _ _ _ (by decide)]
    unfold upd
    by_cases e1 : i + 1 ≤ m ∧ m < 76
    · rw [if_pos e1, if_pos (by omega)]
    · rw [if_neg e1]
      by_cases e2 : m = i
      · rw [if_pos e2, if_pos (by omega), e2]
      · rw [if_neg e2, if_neg (by omega)]
theorem M_laysBackL (k26 : MS → Option MS) : ∀ (d i N : Nat) (μ : MS), 76 - i = d → i ≤ 76 → d < N → ∃ μ', fM_laysBack_L2 k26 N (nI i) μ = k26 μ' ∧ (∀ c, c ≠ 1 → μ' c = μ c) ∧ ∀ m, μ' 1 m = if i ≤ m ∧ m < 76 then μ 16 m else μ 1 m := by
  intro d
  induction d with
  | zero =>
    intro i N μ hd hi hN
    obtain ⟨N, rfl⟩ : ∃ m, N = m + 1 := ⟨N - 1, by omega⟩
    rw [fM_laysBack_L2, show (76 : Int32) = nI 76 from rfl, if_pos (nI_le (by omega) (by omega))]
    exact ⟨μ, rfl, fun _ _ => rfl, fun m => by rw [if_neg (by omega)]⟩
  | succ d ih =>
    intro i N μ hd hi hN
    obtain ⟨N, rfl⟩ : ∃ m, N = m + 1 := ⟨N - 1, by omega⟩
    rw [fM_laysBack_L2, show (76 : Int32) = nI 76 from rfl, if_neg (nI_ge (by omega) (by omega)), ck_in (by omega) (by omega), ck_in (by omega) (by omega), bnd_s, clampI (by omega), bnd_s, nI_1]
    obtain ⟨μ', a1, a2, a3⟩ := ih (i + 1) N (up2 μ 1 i (μ 16 i)) (by omega) (by omega) (by omega)
    refine ⟨μ', a1, fun c hc => by rw [a2 c hc, up2_n _ _ _ hc], fun m => ?_⟩
    rw [a3, up2_s, up2_n _ _ _ (by decide)]
    unfold upd
    by_cases e1 : i + 1 ≤ m ∧ m < 76
    · rw [if_pos e1, if_pos (by omega)]
    · rw [if_neg e1]
      by_cases e2 : m = i
      · rw [if_pos e2, if_pos (by omega), e2]
      · rw [if_neg e2, if_neg (by omega)]
/-- a thought that began at μ0 -/
def Tk (μ0 μ : MS) : Prop := (∀ c, c ≠ 1 → c ≠ 14 → c ≠ 15 → c ≠ 16 → c ≠ 29 → c ≠ 30 → μ c = μ0 c) ∧ (∀ m, m < 76 → μ 16 m = μ0 1 m) ∧ μ 1 1 = μ0 1 1 ∧ ∀ m, 76 ≤ m → μ 1 m = μ0 1 m
def XGk (σ0 σ : XS) : Prop := (∀ c, c ≠ 3 → c ≠ 4 → (c < 42 ∨ 54 ≤ c) → xi σ c = xi σ0 c) ∧ xr σ 0 = xr σ0 0 ∧ xr σ 1 = xr σ0 1 ∧ Kw σ0 σ
theorem Tk_mf {μ0 μ μ' : MS} (h : Tk μ0 μ) (g : MF μ μ') : Tk μ0 μ' := ⟨fun c c1 c2 c3 c4 c5 c6 => by rw [g.1 c c1 c2 c3 c5 c6]; exact h.1 c c1 c2 c3 c4 c5 c6, fun m hm => by rw [g.1 16 (by decide) (by decide) (by decide) (by decide) (by decide)]; exact h.2.1 m hm, by rw [g.2.1]; exact h.2.2.1, fun m hm => by rw [g.2.2 m hm]; exact h.2.2.2 m hm⟩
theorem XGk_xf2 {σ0 σ σ' : XS} (h : XGk σ0 σ) (g : XF σ 2 σ') : XGk σ0 σ' := ⟨fun c c1 c2 c3 => by rw [g.1 c (by omega) (by omega)]; exact h.1 c c1 c2 c3, by rw [g.2.1]; exact h.2.1, by rw [g.2.1]; exact h.2.2.1, Kw_trans h.2.2.2 g.2.2⟩
theorem XGk_xf3 {σ0 σ σ' : XS} (h : XGk σ0 σ) (g : XF σ 3 σ') : XGk σ0 σ' := ⟨fun c c1 c2 c3 => by rw [g.1 c (by omega) (by omega)]; exact h.1 c c1 c2 c3, by rw [g.2.1]; exact h.2.1, by rw [g.2.1]; exact h.2.2.1, Kw_trans h.2.2.2 g.2.2⟩
theorem XGk_as {σ0 σ σ' : XS} {b : Nat} (hb : b = 2 ∨ b = 3) (h : XGk σ0 σ) (g1 : ∀ c, c ≠ 1 + b → (c < 30 + 6 * b ∨ 36 + 6 * b ≤ c) → xi σ' c = xi σ c) (g2 : ∀ q, q ≠ b → xr σ' q = xr σ q) (g3 : Kw σ σ') : XGk σ0 σ' := ⟨fun c c1 c2 c3 => by rw [g1 c (by omega) (by omega)]; exact h.1 c c1 c2 c3, by rw [g2 0 (by omega)]; exact h.2.1, by rw [g2 1 (by omega)]; exact h.2.2.1, Kw_trans h.2.2.2 g3⟩
theorem XGk_refl (σ : XS) : XGk σ σ := ⟨fun _ _ _ _ => rfl, rfl, rfl, Kw_refl σ⟩
theorem BX_xg {σ0 σ : XS} {μ0 μ : MS} {R : Option (List Int32)} {n x j : Nat} (h : BX σ0 0 μ0 R n x j NoD) (g : XGk σ0 σ) (e1 : μ 1 = μ0 1) (e2 : RM μ R) : BX σ 0 μ R n x j NoD := by
  refine ⟨by rw [e1]; exact h.1, by rw [e1]; exact XB_fr (g.1 _ (by omega) (by omega) (by omega)) (fun w hw => g.1 _ (by omega) (by omega) (by omega)) h.2.1, RX_fr (by rw [g.2.1]) g.2.2.2 h.2.2.1, e2⟩
/-- a thought's end -/
theorem Re_think {σ0 σ : XS} {μ0 μ : MS} {T : List (Nat × Nat × List Int32)} {n j : Nat} (hT : MT (μ0 1) T ∧ xi σ0 0 6 = nI T.length ∧ XT σ0 T) (hB : BX σ0 0 μ0 (lastT T 0) n 0 j NoD) (h : RIm σ0 μ0 T ∧ RSh σ0 μ0 ∧ RSl σ0 μ0 ∧ RTp σ0 μ0 ∧ RWt σ0 μ0) (hj : j ≤ 9999 ∧ RF μ0 T.length)
    (g : XGk σ0 σ) (e : ∀ c, c ≠ 1 → c ≠ 14 → c ≠ 15 → c ≠ 16 → c ≠ 29 → c ≠ 30 → μ c = μ0 c) (e1 : μ 1 = μ0 1) (e2 : RM μ (lastT T 0)) : Re σ μ := by
  obtain ⟨r1, r2, r3, r4, r5⟩ := h
  have hX : XO σ0 σ := fun c c1 c2 c3 c4 c5 => g.1 c (by omega) (by omega) (by omega)
  have hM : MO μ0 μ := fun c c0 c1 c2 c3 c4 c5 c6 c7 => e c (by omega) (by omega) (by omega) (by omega) (by omega) (by omega)
  have m0 : μ 0 = μ0 0 := e 0 (by omega) (by omega) (by omega) (by omega) (by omega) (by omega)
  refine ⟨T, n, j, ⟨by rw [e1]; exact hT.1, by rw [g.1 0 (by omega) (by omega) (by omega)]; exact hT.2.1, XT_kw g.2.2.2 hB.2.2.1.1 hT.2.2⟩, ⟨hj.1, RF_fr (by rw [m0]) hj.2⟩, BX_xg hB g e1 e2, ?_, RSh_fr hX hM r2, RSl_fr hX hM r3, RTp_fr hX hM (by rw [m0]) r4, RWt_fr hX hM (by rw [m0]) r5⟩
  exact RIm_fr (g.1 0 (by omega) (by omega) (by omega)) (g.1 2 (by omega) (by omega) (by omega)) (fun w hw => g.1 (36 + w) (by omega) (by omega) (by omega)) g.2.2.1 g.2.2.2 (by rw [m0]) (e 2 (by omega) (by omega) (by omega) (by omega) (by omega) (by omega)) r1
theorem M_laysBy {μ : MS} : ∃ μ', fM_laysBy μ = some μ' ∧ Tk μ μ' ∧ (∀ c, c ≠ 16 → μ' c = μ c) := by
  obtain ⟨μ', a1, a2, a3⟩ := M_laysByL (fun (μ : MS) => some μ) 76 0 10000 μ (by omega) (by omega) (by omega)
  exact ⟨μ', a1, ⟨fun c _ _ _ c4 _ _ => a2 c c4, fun m hm => by rw [a3, if_pos (by omega)], by rw [a2 1 (by decide)], fun m _ => by rw [a2 1 (by decide)]⟩, a2⟩
theorem M_laysBack {μ0 μ : MS} {R : Option (List Int32)} (h : Tk μ0 μ) (hR : RM μ R) : ∃ μ', fM_laysBack μ = some μ' ∧ μ' 1 = μ0 1 ∧ Tk μ0 μ' ∧ RM μ' R := by
  obtain ⟨μ', a1, a2, a3⟩ := M_laysBackL (fun (μ : MS) => some μ) 76 0 10000 μ (by omega) (by omega) (by omega)
  have e1 : μ' 1 = μ0 1 := by
    funext m
    rw [a3]
    by_cases hm : m < 76
    · rw [if_pos (by omega)]; exact h.2.1 m hm
    · rw [if_neg (by omega)]; exact h.2.2.2 m (by omega)
  refine ⟨μ', a1, e1, ⟨fun c c1 c2 c3 c4 c5 c6 => by rw [a2 c c1]; exact h.1 c c1 c2 c3 c4 c5 c6, fun m hm => by rw [a2 16 (by decide)]; exact h.2.1 m hm, by rw [e1], fun m _ => by rw [e1]⟩, RM_fr (by rw [a2 0 (by decide)]) (fun m hm => by rw [e1]; exact (h.2.2.2 m hm).symm) (a2 14 (by decide)) (a2 15 (by decide)) hR⟩
theorem RM_lays {μ μ' : MS} {R : Option (List Int32)} (h : ∀ c, c ≠ 16 → μ' c = μ c) (hR : RM μ R) : RM μ' R := RM_fr (by rw [h 0 (by decide)]) (fun m _ => by rw [h 1 (by decide)]) (h 14 (by decide)) (h 15 (by decide)) hR
/-- a thought of q jolts -/
theorem B_think {σ : XS} {μ : MS} {R : Option (List Int32)} {n j : Nat} (h : BX σ 0 μ R n 0 j NoD) {q : Nat} (hq : j + q ≤ 20000) (hq2 : q < 10000) :
    ∃ σ' μ1 μ', fX_think σ (nI q) = some σ' ∧ fM_laysBy μ = some μ1 ∧ fM_goesOnMany μ1 (nI q) = some μ' ∧ BX σ' 2 μ' R n 0 (j + q) NoD ∧ XGk σ σ' ∧ Tk μ μ' := by
  obtain ⟨μ1, a1, a2, a3⟩ := M_laysBy (μ := μ)
  have h1 : BX σ 0 μ1 R n 0 j NoD := BX_mu h (a3 1 (by decide)) (RM_lays a3 h.2.2.2)
  obtain ⟨σ1, b1, b2, b3, b4, b5⟩ := B_becomeAs (b := 2) (p := 0) (by decide) (by decide) (by decide) h1
  obtain ⟨σ', μ', c1, c2, c3, c4, c5⟩ := B_ride (b := 2) (R := R) (n := n) (q := q) (fun (σ : XS) => some σ) (fun (μ : MS) => some μ) (by omega) q 0 10000 10000 j σ1 μ1 (by omega) (by omega) (by omega) (by omega) hq b2
  refine ⟨σ', μ1, μ', ?_, a1, c2, c3, XGk_xf2 (XGk_as (Or.inl rfl) (XGk_refl σ) b3 b4 b5) c4, Tk_mf a2 c5⟩
  unfold fX_think
  rw [b1, ob_s]
  unfold fB_ride
  rw [show (0 : Int32) = nI 0 from rfl, c1, ob_s]
theorem L_behind : Ls_behind Re := by
  intro σ μ x1 x2 hRe
  obtain ⟨T, n, j, hT, hj, hB, hI⟩ := id hRe
  have hn := hB.1.1
  unfold fX_behind fM_behind
  have e1 : ((1 : Int32) + nI n).toInt = (n : Int) + 1 := by rw [show (1 : Int32) + nI n = nI (1 + n) from nI_add 1 n, nI_toInt (by omega)]; omega
  rw [X_in σ x1 (a := 0) (b := 100) rfl rfl, ob_s, M_in μ x1 (a := 0) (b := 100) rfl rfl, ob_s, B_n hB, hB.1.2.2.1, X_in σ x2 (a := 0) (b := (n : Int) + 1) rfl e1, ob_s, M_in μ x2 (a := 0) (b := (n : Int) + 1) rfl (by rw [w64]; exact e1), ob_s]
  by_cases h1 : 0 ≤ x1.toInt ∧ x1.toInt ≤ 100
  · rw [ite1 h1, ite1 h1]
    by_cases h2 : 0 ≤ x2.toInt ∧ x2.toInt ≤ (n : Int) + 1
    · obtain ⟨q, q1, q2, rfl⟩ := rng (a := 0) (b := 100) h1
      obtain ⟨y, y1, y2, rfl⟩ := rng (x := x2) (a := 0) (b := n + 1) (by omega)
      obtain ⟨σ', μ1, μ', a1, a2, a3, a4, a5, a6⟩ := B_think hB (q := q) (by omega) (by omega)
      rw [ite1 h2, ite1 h2, a1, a2, ob_s, ob_s, a3, ob_s]
      by_cases y0 : nI y = 0
      · rw [if_pos y0, if_pos y0]
        obtain ⟨r, μ2, b0, b1, b2, b3, b4, b5⟩ := B_mess a4
        obtain ⟨μ3, c1, c2, c3, c4⟩ := M_laysBack (Tk_mf a6 b4) b3.2.2.2
        rw [b1, b2, ob_s, ob2_s, c1, ob_s]
        exact ⟨_, σ', μ3, rfl, rfl, Re_think hT hB hI hj a5 c3.1 c2 c4⟩
      · rw [if_neg y0, if_neg y0]
        obtain ⟨μ3, c1, c2, c3, c4⟩ := M_laysBack a6 a4.2.2.2
        by_cases y3 : nI y = 1
        · rw [if_pos y3, if_pos y3, bnd_s, c1, ob_s, a4.2.1.1.2.2.1]
          exact ⟨_, σ', μ3, rfl, rfl, Re_think hT hB hI hj a5 c3.1 c2 c4⟩
        · have hy : 2 ≤ y := by
            rcases y with _ | _ | y
            · exact absurd rfl y0
            · exact absurd rfl y3
            · omega
          rw [if_neg y3, if_neg y3, show (2 : Int32) = nI 2 from rfl, pk_sub hy, ck_in (by omega) (by omega), clampI (by omega), pl 6, nI_add, pk_sub (by omega), ck_in (by omega) (by omega), clampI (by omega), bnd_s, c1, ob_s, a4.2.1.2.1 (y - 2) (by omega), show 6 + y - 2 = 6 + (y - 2) by omega]
          exact ⟨_, σ', μ3, rfl, rfl, Re_think hT hB hI hj a5 c3.1 c2 c4⟩
    · rw [ite0 h2, ite0 h2]; exact ⟨_, σ, μ, rfl, rfl, hRe⟩
  · rw [ite0 h1, ite0 h1]; exact ⟨_, σ, μ, rfl, rfl, hRe⟩
