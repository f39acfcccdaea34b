/-! the image -/
theorem M_setAsideL {a c : Nat} (hac : a ≠ c) (ha : 2876 ≤ mLen a) (hc : 2876 ≤ mLen c) (ha2 : mLen a < 2 ^ 31) (hc2 : mLen c < 2 ^ 31) (km : MS → Option MS) : ∀ (d i N : Nat) (μ : MS), 2876 - i = d → i ≤ 2876 → d < N → ∃ μ', fM_setAside_L2 a c km N (nI i) μ = km μ' ∧ (∀ q, q ≠ c → μ' q = μ q) ∧ ∀ m, μ' c m = if i ≤ m ∧ m < 2876 then μ a m else μ c m := by
  intro d
  induction d with
  | zero =>
    intro i N μ hd hi hN
    obtain ⟨N, rfl⟩ : ∃ m, N = m + 1 := ⟨N - 1, by omega⟩
    rw [fM_setAside_L2, show (2876 : Int32) = nI 2876 from rfl, if_pos (nI_le (by omega) (by omega))]
    exact ⟨μ, rfl, fun _ _ => rfl, fun m => by rw [if_neg (by omega)]⟩
  | succ d ih =>
    intro i N μ hd hi hN
    obtain ⟨N, rfl⟩ : ∃ m, N = m + 1 := ⟨N - 1, by omega⟩
    rw [fM_setAside_L2, show (2876 : Int32) = nI 2876 from rfl, if_neg (nI_ge (by omega) (by omega)), ck_in (by omega) ha2, ck_in (by omega) hc2, bnd_s, clampI (by omega), bnd_s, nI_1]
    obtain ⟨μ', a1, a2, a3⟩ := ih (i + 1) N (up2 μ c i (μ a i)) (by omega) (by omega) (by omega)
    refine ⟨μ', a1, fun q hq => by rw [a2 q hq, up2_n _ _ _ hq], fun m => ?_⟩
    rw [a3, up2_s, up2_n _ _ _ hac]
    unfold upd
    by_cases e1 : i + 1 ≤ m ∧ m < 2876
    · rw [if_pos e1, if_pos (by omega)]
    · rw [if_neg e1]
      by_cases e2 : m = i
      · rw [if_pos e2, if_pos (by omega), e2]
      · rw [if_neg e2, if_neg (by omega)]
theorem M_setAside (μ : MS) {a c : Nat} (hac : a ≠ c) (ha : 2876 ≤ mLen a) (hc : 2876 ≤ mLen c) (ha2 : mLen a < 2 ^ 31) (hc2 : mLen c < 2 ^ 31) : ∃ μ', fM_setAside μ a c = some μ' ∧ (∀ q, q ≠ c → μ' q = μ q) ∧ ∀ m, m < 2876 → μ' c m = μ a m := by
  obtain ⟨μ', a1, a2, a3⟩ := M_setAsideL hac ha hc ha2 hc2 (fun (μ : MS) => some μ) 2876 0 10000 μ (by omega) (by omega) (by omega)
  exact ⟨μ', a1, a2, fun m hm => by rw [a3, if_pos (by omega)]⟩
theorem WB_eq {s s' : Nat → Int32} {n x j : Nat} (e : ∀ m, m < 76 → s' m = s m) (h : WB s n x j) : WB s' n x j := by
  obtain ⟨h1, h2, h3, h4, h5, h6, h7, h8⟩ := h
  refine ⟨h1, h2, by rw [e 0 (by omega)]; exact h3, by rw [e 2 (by omega)]; exact h4, by rw [e 4 (by omega)]; exact h5, fun i hi => by rw [e _ (by omega)]; exact h6 i hi, fun k hk => ?_, fun k hk => ?_⟩
  · obtain ⟨i, hi, ei⟩ := h7 k hk
    exact ⟨i, hi, by rw [e _ (by omega)]; exact ei⟩
  · unfold WL
    rw [e _ (by omega), e _ (by omega), e _ (by omega), e _ (by omega)]
    exact h8 k hk
theorem XB_eq {σ : XS} {b : Nat} {s s' : Nat → Int32} {R : Option (List Int32)} {n : Nat} {D : Nat → Prop} (hn : n ≤ 14) (e : ∀ m, m < 76 → s' m = s m) (h : XB σ b s R n D) : XB σ b s' R n D := by
  obtain ⟨h1, h2, h3, h4⟩ := h
  refine ⟨by rw [e 0 (by omega), e 4 (by omega), e 3 (by omega), e 2 (by omega), e 5 (by omega)]; exact h1, fun i hi => by rw [e _ (by omega)]; exact h2 i hi, fun k hk => ?_, fun k hk hD => ?_⟩
  · rw [e _ (by omega), e _ (by omega), e _ (by omega), e _ (by omega)]; exact h3 k hk
  · rw [e _ (by omega), e _ (by omega), e _ (by omega), e _ (by omega)]; exact h4 k hk hD
theorem MT_eq {s s' : Nat → Int32} {T : List (Nat × Nat × List Int32)} (e : ∀ m, m < 2876 → s' m = s m) (h : MT s T) : MT s' T := by
  obtain ⟨h1, h2, h3⟩ := h
  refine ⟨by rw [e 1 (by omega)]; exact h1, h2, fun t p hp => ?_⟩
  obtain ⟨⟨t1, t2, t3, t4⟩, w⟩ := h3 t p hp
  have ht : t < T.length := by
    rcases Nat.lt_or_ge t T.length with h | h
    · exact h
    · rw [List.getElem?_eq_none h] at hp; cases hp
  have hl := w.2.2.1
  refine ⟨⟨by rw [e _ (by omega)]; exact t1, by rw [e _ (by omega)]; exact t2, by rw [e _ (by omega)]; exact t3, fun i hi => ?_⟩, w⟩
  rw [e _ (by omega), e _ (by omega)]
  exact t4 i hi
theorem L_keep : Ls_keep Re := by
  intro σ μ hRe
  obtain ⟨T, n, j, hT, hj, hB, hI, hSh, hSl, hTp, hWt⟩ := id hRe
  have hn := hB.1.1
  obtain ⟨σ1, a1, a2, a3, a4, a5⟩ := B_becomeAs (b := 1) (p := 0) (by decide) (by decide) (by decide) hB
  obtain ⟨μ', b1, b2, b3⟩ := M_setAside (up2 μ 0 3 1) (a := 1) (c := 2) (by decide) (by decide) (by decide) (by decide) (by decide)
  have m1 : μ' 1 = μ 1 := by rw [b2 1 (by decide), up2_n _ _ _ (by decide)]
  have m0 : ∀ f, f ≠ 3 → μ' 0 f = μ 0 f := fun f hf => by rw [b2 0 (by decide), up2_s, pk_un hf]
  have mc : ∀ c, c ≠ 0 → c ≠ 2 → μ' c = μ c := fun c h1 h2 => by rw [b2 c h2, up2_n _ _ _ h1]
  have m03 : μ' 0 3 = 1 := by rw [b2 0 (by decide), up2_s, pk_us]
  have s2 : ∀ m, m < 2876 → μ' 2 m = μ 1 m := fun m hm => by rw [b3 m hm, up2_n _ _ _ (by decide)]
  unfold fX_keep fM_keep
  rw [a1, ob_s, bnd_s, bnd_s, bnd_s, b1, ob_s, m1, hB.1.2.2.1]
  generalize hσ : xu (xu σ1 0 7 (xi σ1 0 6)) 0 4 1 = σ'
  have xc : ∀ c, c ≠ 0 → xi σ' c = xi σ1 c := fun c hc => by rw [← hσ, xi_un _ _ _ hc, xi_un _ _ _ hc]
  have x0 : ∀ f, f ≠ 4 → f ≠ 7 → xi σ' 0 f = xi σ 0 f := fun f h4 h7 => by rw [← hσ, xi_u, pk_un h4, xi_u, pk_un h7, a3 0 (by omega) (by omega)]
  have x04 : xi σ' 0 4 = 1 := by rw [← hσ, xi_u, pk_us]
  have x07 : xi σ' 0 7 = nI T.length := by rw [← hσ, xi_u, pk_un (by decide), xi_u, pk_us, a3 0 (by omega) (by omega)]; exact hT.2.1
  have k2 : σ'.2 = σ1.2 := by rw [← hσ]; rfl
  have kw1 : Kw σ1 σ' := by unfold Kw xl xL xq xw; rw [k2]; exact ⟨rfl, rfl, rfl, fun _ _ => rfl⟩
  have xr1 : xr σ' = xr σ1 := by unfold xr; rw [k2]
  have kw : Kw σ σ' := Kw_trans a5 kw1
  have xo : ∀ c, c ≠ 0 → c ≠ 2 → (c < 36 ∨ 42 ≤ c) → xi σ' c = xi σ c := fun c h0 h2 h3 => by rw [xc c h0, a3 c (by omega) (by omega)]
  have rm : RM μ' (lastT T 0) := RM_fr (m0 12 (by decide)) (fun m _ => by rw [m1]) (mc 14 (by decide) (by decide)) (mc 15 (by decide) (by decide)) hB.2.2.2
  have hB' : BX σ' 0 μ' (lastT T 0) n 0 j NoD := BX_mu (BX_off hB (xo 1 (by omega) (by omega) (by omega)) (fun w hw => xo _ (by omega) (by omega) (by omega)) (by rw [xr1, a4 0 (by decide)]) kw) m1 rm
  refine ⟨nI n, σ', μ', ?_, rfl, T, n, j, ⟨by rw [m1]; exact hT.1, by rw [x0 6 (by decide) (by decide)]; exact hT.2.1, XT_kw kw hB.2.2.1.1 hT.2.2⟩, ⟨hj.1, RF_fr (m0 12 (by decide)) hj.2⟩, hB', ⟨by rw [x04, m03], Or.inr ⟨m03, T.length, n, j, by omega, ?_, x07, hj.1, WB_eq (fun m hm => s2 m (by omega)) hB.1, ?_, ?_⟩⟩, ?_, ?_, ?_, ?_⟩
  · rw [B_n hB']
  · rw [List.take_length]
    exact MT_eq s2 hT.1
  · rw [List.take_length]
    exact XB_eq hn (fun m hm => s2 m (by omega)) (XB_fr (xc _ (by omega)) (fun w hw => xc _ (by omega)) a2.2.1)
  · rw [List.take_length]
    exact RX_fr (by rw [xr1]) kw1 a2.2.2.1
  · intro k hk
    rw [xo (10 + k) (by omega) (by omega) (by omega), xo (60 + k) (by omega) (by omega) (by omega), mc 5 (by decide) (by decide), mc 6 (by decide) (by decide), mc 7 (by decide) (by decide)]
    exact hSh k hk
  · intro k hk
    rw [xo (20 + k) (by omega) (by omega) (by omega), xo (10 + (4 + k)) (by omega) (by omega) (by omega), xo (60 + (4 + k)) (by omega) (by omega) (by omega), mc 8 (by decide) (by decide), mc 9 (by decide) (by decide), mc 10 (by decide) (by decide), mc 11 (by decide) (by decide), mc 12 (by decide) (by decide)]
    exact hSl k hk
  · unfold RTp
    rw [xo 5 (by omega) (by omega) (by omega), xo 54 (by omega) (by omega) (by omega), m0 17 (by decide), mc 17 (by decide) (by decide)]
    exact hTp
  · unfold RWt
    rw [x0 13 (by decide) (by decide), xo 56 (by omega) (by omega) (by omega), m0 32 (by decide), mc 32 (by decide) (by decide)]
    exact hWt
