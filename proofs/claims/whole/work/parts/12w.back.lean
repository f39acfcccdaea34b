/-! forgets, back -/
theorem M_forgetsL (km : MS → Option MS) : ∀ (d i N : Nat) (μ : MS), 4096 - i = d → i ≤ 4096 → d < N → ∃ μ', fM_forgets_L11 km N (nI i) μ = km μ' ∧ (∀ q, q ≠ 14 → μ' q = μ q) ∧ ∀ m, μ' 14 m = if i ≤ m ∧ m < 4096 then 0 else μ 14 m := by
  intro d
  induction d with
  | zero =>
    intro i N μ hd hi hN
    obtain ⟨N, rfl⟩ : ∃ m, N = m + 1 := ⟨N - 1, by omega⟩
    rw [fM_forgets_L11, show (4096 : Int32) = nI 4096 from rfl, if_pos (nI_le (by omega) (by omega))]
    exact ⟨μ, rfl, fun _ _ => rfl, fun m => by rw [if_neg (by omega)]⟩
  | succ d ih =>
    intro i N μ hd hi hN
    obtain ⟨N, rfl⟩ : ∃ m, N = m + 1 := ⟨N - 1, by omega⟩
    rw [fM_forgets_L11, show (4096 : Int32) = nI 4096 from rfl, if_neg (nI_ge (by omega) (by omega)), ck_in (by omega) (by omega), bnd_s, clampI (by omega), bnd_s, nI_1]
    obtain ⟨μ', a1, a2, a3⟩ := ih (i + 1) N (up2 μ 14 i 0) (by omega) (by omega) (by omega)
    refine ⟨μ', a1, fun q hq => by rw [a2 q hq, up2_n _ _ _ hq], fun m => ?_⟩
    rw [a3, up2_s]
    unfold upd
    by_cases e1 : i + 1 ≤ m ∧ m < 4096
    · rw [if_pos e1, if_pos (by omega)]
    · rw [if_neg e1]
      by_cases e2 : m = i
      · rw [if_pos e2, if_pos (by omega)]
      · rw [if_neg e2, if_neg (by omega)]
theorem M_forgets {μ : MS} {T : List (Nat × Nat × List Int32)} (hT : MT (μ 1) T) : ∃ μ', fM_forgets μ = some μ' ∧ (∀ q, q ≠ 0 → q ≠ 14 → μ' q = μ q) ∧ (∀ f, f ≠ 12 → μ' 0 f = μ 0 f) ∧ RM μ' (lastT T 0) ∧ RF μ' T.length := by
  have h14 := hT.2.1
  obtain ⟨x, a1, a2⟩ := M_counts hT (k := 0) (by omega)
  obtain ⟨μ', b1, b2, b3⟩ := M_forgetsL (fun (μ : MS) => some μ) 4096 0 10000 (up2 μ 0 12 (bI x (-1))) (by omega) (by omega) (by omega)
  have e0 : μ' 0 12 = bI x (-1) := by rw [b2 0 (by decide), up2_s, pk_us]
  refine ⟨μ', ?_, fun q h0 h1 => by rw [b2 q h1, up2_n _ _ _ h0], fun f hf => by rw [b2 0 (by decide), up2_s, pk_un hf], ?_, ?_⟩
  · unfold fM_forgets
    rw [show fM_counts μ (0 : Int32) = _ from a2, ob_s, bnd_s]
    exact b1
  · have hl := Best_last T 0 x a1
    rcases x with _ | t
    · rw [show lastT T 0 = none from hl]
      show μ' 0 12 < 0
      rw [e0]; decide
    · obtain ⟨p, p1, p2, p3⟩ := hl
      rw [p3]
      obtain ⟨c1, c2⟩ := hT.2.2 t p p1
      have ht := a1.1
      refine ⟨p.2.1, t, by omega, e0, ?_, ?_, fun j hj hz => ?_⟩
      · rw [b2 1 (by decide), up2_n _ _ _ (by decide), ← p2]; exact c1
      · rw [← p2]; exact c2
      · rw [b3, if_pos (by omega)] at hz
        exact absurd rfl hz
  · rcases x with _ | t
    · exact Or.inl (by rw [e0]; decide)
    · exact Or.inr ⟨t, a1.1, e0⟩
theorem XT_take {σ : XS} {T : List (Nat × Nat × List Int32)} (h : XT σ T) (q : Nat) : XT σ (T.take q) := fun t p hp => by
  refine h t p ?_
  rw [List.getElem?_take] at hp
  by_cases e : t < q
  · rw [if_pos e] at hp; exact hp
  · rw [if_neg e] at hp; cases hp
theorem L_back : Ls_back Re := by
  intro σ μ hRe
  obtain ⟨T, n0, j0, hT, hj0, hB0, ⟨i0', hI⟩, hSh, hSl, hTp, hWt⟩ := id hRe
  unfold fX_back fM_back
  rw [i0']
  rcases hI with hI | ⟨hI, q, n, j, q1, q2, q3, q4, q5, q6, q7⟩
  · rw [if_pos hI, if_pos hI]; exact ⟨_, σ, μ, rfl, rfl, hRe⟩
  · have hn := q5.1
    obtain ⟨μ1, a1, a2, a3⟩ := M_setAside μ (a := 2) (c := 1) (by decide) (by decide) (by decide) (by decide) (by decide)
    have hM1 : MT (μ1 1) (T.take q) := MT_eq a3 q2
    obtain ⟨μ2, b1, b2, b3, b4, b5⟩ := M_forgets hM1
    have e1 : μ2 1 = μ1 1 := b2 1 (by decide) (by decide)
    have s1 : ∀ m, m < 2876 → μ2 1 m = μ 2 m := fun m hm => by rw [e1, a3 m hm]
    have hB1 : BX σ 1 μ2 (lastT (T.take q) 0) n 0 j NoD := ⟨WB_eq (fun m hm => s1 m (by omega)) q5, XB_eq hn (fun m hm => s1 m (by omega)) q6, q7, b4⟩
    obtain ⟨σ1, c1, c2, c3, c4, c5⟩ := B_becomeAs (b := 0) (p := 1) (by decide) (by decide) (by decide) hB1
    rw [if_neg (by rw [hI]; decide), if_neg (by rw [hI]; decide), a1, ob_s, b1, ob_s, c1, ob_s, bnd_s, c3 0 (by omega) (by omega), q3, e1, ← e1, hB1.1.2.2.1]
    generalize hσ : xu σ1 0 6 (nI q) = σ'
    have xc : ∀ c, c ≠ 0 → xi σ' c = xi σ1 c := fun c hc => by rw [← hσ, xi_un _ _ _ hc]
    have x0 : ∀ f, f ≠ 6 → xi σ' 0 f = xi σ 0 f := fun f h => by rw [← hσ, xi_u, pk_un h, c3 0 (by omega) (by omega)]
    have x06 : xi σ' 0 6 = nI q := by rw [← hσ, xi_u, pk_us]
    have k2 : σ'.2 = σ1.2 := by rw [← hσ]; rfl
    have kw1 : Kw σ1 σ' := by unfold Kw xl xL xq xw; rw [k2]; exact ⟨rfl, rfl, rfl, fun _ _ => rfl⟩
    have xr1 : xr σ' = xr σ1 := by unfold xr; rw [k2]
    have kw : Kw σ σ' := Kw_trans c5 kw1
    have xo : ∀ c, c ≠ 0 → c ≠ 1 → (c < 30 ∨ 36 ≤ c) → xi σ' c = xi σ c := fun c h0 h2 h3 => by rw [xc c h0, c3 c (by omega) (by omega)]
    have hB' : BX σ' 0 μ2 (lastT (T.take q) 0) n 0 j NoD := BX_off c2 (xc _ (by omega)) (fun w hw => xc _ (by omega)) (by rw [xr1]) kw1
    have hlen : (T.take q).length = q := by rw [List.length_take]; omega
    have mc : ∀ c, c ≠ 0 → c ≠ 1 → c ≠ 14 → μ2 c = μ c := fun c h0 h1 h2 => by rw [b2 c h0 h2, a2 c h1]
    have m0 : ∀ f, f ≠ 12 → μ2 0 f = μ 0 f := fun f hf => by rw [b3 f hf, a2 0 (by decide)]
    refine ⟨nI n, σ', μ2, ?_, rfl, T.take q, n, j, ⟨by rw [e1]; exact hM1, by rw [x06, hlen], XT_take (XT_kw kw hB0.2.2.1.1 hT.2.2) q⟩, ⟨q4, b5⟩, hB', ⟨by rw [x0 4 (by decide), i0', m0 3 (by decide)], Or.inr ⟨by rw [m0 3 (by decide)]; exact hI, q, n, j, by omega, ?_, by rw [x0 7 (by decide)]; exact q3, q4, by rw [mc 2 (by decide) (by decide) (by decide)]; exact q5, ?_, ?_⟩⟩, ?_, ?_, ?_, ?_⟩
    · rw [B_n hB']
    · rw [List.take_take, Nat.min_self, mc 2 (by decide) (by decide) (by decide)]; exact q2
    · rw [List.take_take, Nat.min_self, mc 2 (by decide) (by decide) (by decide)]
      exact XB_fr (xo _ (by omega) (by omega) (by omega)) (fun w hw => xo _ (by omega) (by omega) (by omega)) q6
    · rw [List.take_take, Nat.min_self]
      exact RX_fr (by rw [xr1, c4 1 (by decide)]) kw q7
    · intro k hk
      rw [xo (10 + k) (by omega) (by omega) (by omega), xo (60 + k) (by omega) (by omega) (by omega), mc 5 (by decide) (by decide) (by decide), mc 6 (by decide) (by decide) (by decide), mc 7 (by decide) (by decide) (by decide)]
      exact hSh k hk
    · intro k hk
      rw [xo (20 + k) (by omega) (by omega) (by omega), xo (10 + (4 + k)) (by omega) (by omega) (by omega), xo (60 + (4 + k)) (by omega) (by omega) (by omega), mc 8 (by decide) (by decide) (by decide), mc 9 (by decide) (by decide) (by decide), mc 10 (by decide) (by decide) (by decide), mc 11 (by decide) (by decide) (by decide), mc 12 (by decide) (by decide) (by decide)]
      exact hSl k hk
    · unfold RTp
      rw [xo 5 (by omega) (by omega) (by omega), xo 54 (by omega) (by omega) (by omega), m0 17 (by decide), mc 17 (by decide) (by decide) (by decide)]
      exact hTp
    · unfold RWt
      rw [x0 13 (by decide), xo 56 (by omega) (by omega) (by omega), m0 32 (by decide), mc 32 (by decide) (by decide) (by decide)]
      exact hWt
