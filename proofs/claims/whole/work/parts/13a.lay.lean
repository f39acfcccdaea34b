/-! lay -/
theorem cpy24 (f g : Nat → Int32) {i : Nat} (h : i < 24) : va_cpy f g ((0 : Int32)).toNatClampNeg ((0 : Int32)).toNatClampNeg ((24 : Int32)).toNatClampNeg i = f i := by
  have e := pk_cpy_in (f := f) (g := g) (sp := 0) (dp := 0) (n := 24) (j := i) (by omega) (by omega)
  rw [Nat.zero_add, Nat.sub_zero] at e
  exact e
theorem X_sas (σ : XS) {k p : Nat} (hk : 4 ≤ k) (hk9 : k < 9) (hp : p < 4) : ∃ σ', fS_becomeAs σ k p = some σ' ∧ (∀ c, c ≠ 10 + k → c ≠ 60 + k → xi σ' c = xi σ c) ∧ σ'.2 = σ.2 ∧ xi σ' (10 + k) 1 = xi σ (10 + p) 1 ∧ ∀ i, i < 24 → xi σ' (60 + k) i = xi σ (60 + p) i := by
  unfold fS_becomeAs
  simp only [bnd_s]
  refine ⟨_, rfl, fun c c1 c2 => ?_, rfl, ?_, fun i hi => ?_⟩
  · simp (discharger := omega) only [xi_un, xi_uan]
  · simp (discharger := omega) only [xi_u, xi_un, xi_ua, xi_uan, pk_us, pk_un]
  · simp (discharger := omega) only [xi_u, xi_un, xi_ua, xi_uan, cpy24]
theorem M_layL {k p : Nat} (hk : k < 5) (hp : p < 4) (x5 : Int32) (km : Int32 → MS → Option (Int32 × MS)) : ∀ (d i N : Nat) (μ : MS), 24 - i = d → i ≤ 24 → d < N → ∃ μ', fM_lay_L150 km N (nI k) (nI p) x5 (nI i) μ = km x5 μ' ∧ (∀ c, c ≠ 12 → μ' c = μ c) ∧ ∀ m, μ' 12 m = if 24 * k + i ≤ m ∧ m < 24 * k + 24 then μ 7 (24 * p + (m - 24 * k)) else μ 12 m := by
  intro d
  induction d with
  | zero =>
    intro i N μ hd hi hN
    obtain ⟨N, rfl⟩ : ∃ m, N = m + 1 := ⟨N - 1, by omega⟩
    rw [fM_lay_L150, show (24 : Int32) = nI 24 from rfl, if_pos (nI_le (by omega) (by omega))]
    exact ⟨μ, rfl, fun _ _ => rfl, fun m => by rw [if_neg (by omega)]⟩
  | succ d ih =>
    intro i N μ hd hi hN
    obtain ⟨N, rfl⟩ : ∃ m, N = m + 1 := ⟨N - 1, by omega⟩
    rw [fM_lay_L150, show (24 : Int32) = nI 24 from rfl, if_neg (nI_ge (by omega) (by omega)), pk_mul, pk_mul, nI_add, nI_add, ck_in (by omega) (by omega), ck_in (by omega) (by omega), bnd_s, clampI (by omega), clampI (by omega), bnd_s, nI_1]
    obtain ⟨μ', a1, a2, a3⟩ := ih (i + 1) N (up2 μ 12 (24 * k + i) (μ 7 (24 * p + i))) (by omega) (by omega) (by omega)
    refine ⟨μ', a1, fun c hc => by rw [a2 c hc, up2_n _ _ _ hc], fun m => ?_⟩
    rw [a3, up2_s, up2_n _ _ _ (by decide)]
    unfold upd
    by_cases e1 : 24 * k + (i + 1) ≤ m ∧ m < 24 * k + 24
    · rw [if_pos e1, if_pos (by omega)]
    · rw [if_neg e1]
      by_cases e2 : m = 24 * k + i
      · rw [if_pos e2, if_pos (by omega), e2, show 24 * k + i - 24 * k = i by omega]
      · rw [if_neg e2, if_neg (by omega)]
/-- one slot is another -/
theorem Re_slot {σ σ' : XS} {μ μ' : MS} (hRe : Re σ μ) {k : Nat} (hk : k < 5) (a1 : ∀ c, c ≠ 20 + k → c ≠ 10 + (4 + k) → c ≠ 60 + (4 + k) → xi σ' c = xi σ c) (a2 : σ'.2 = σ.2)
    (b1 : ∀ c, c ≠ 8 → c ≠ 9 → c ≠ 10 → c ≠ 11 → c ≠ 12 → μ' c = μ c) (b2 : ∀ w, w ≠ k → μ' 8 w = μ 8 w ∧ μ' 9 w = μ 9 w ∧ μ' 10 w = μ 10 w ∧ μ' 11 w = μ 11 w) (b3 : ∀ m, (m < 24 * k ∨ 24 * k + 24 ≤ m) → μ' 12 m = μ 12 m)
    (h : xi σ' (20 + k) 0 = μ' 8 k ∧ (μ' 8 k = 1 → xi σ' (20 + k) 1 = μ' 9 k ∧ μ' 10 k = worthV (xi σ' (20 + k) 1) (xi σ' (20 + k) 2)) ∧ (μ' 8 k = 2 → xi σ' (10 + (4 + k)) 1 = μ' 11 k ∧ (∃ q, q ≤ 24 ∧ μ' 11 k = nI q) ∧ ∀ i, i < 24 → xi σ' (60 + (4 + k)) i = μ' 12 (24 * k + i)) ∧ (μ' 8 k = 3 → xi σ' (20 + k) 3 = μ' 9 k)) : Re σ' μ' := by
  obtain ⟨T, n, j, hT, hj, hB, hI, hSh, hSl, hTp, hWt⟩ := hRe
  have z0 : xi σ' 0 = xi σ 0 := a1 0 (by omega) (by omega) (by omega)
  have m0 : μ' 0 = μ 0 := b1 0 (by decide) (by decide) (by decide) (by decide) (by decide)
  refine Re_side hT hj hB hI ⟨by rw [z0], by rw [z0], by rw [z0]⟩ (a1 1 (by omega) (by omega) (by omega)) (a1 2 (by omega) (by omega) (by omega)) (fun c h1 h2 => a1 c (by omega) (by omega) (by omega)) a2 ⟨by rw [m0], by rw [m0]⟩ (b1 1 (by decide) (by decide) (by decide) (by decide) (by decide)) (b1 2 (by decide) (by decide) (by decide) (by decide) (by decide)) (b1 14 (by decide) (by decide) (by decide) (by decide) (by decide)) (b1 15 (by decide) (by decide) (by decide) (by decide) (by decide)) ⟨?_, ?_, ?_, ?_⟩
  · intro w hw
    rw [a1 (10 + w) (by omega) (by omega) (by omega), a1 (60 + w) (by omega) (by omega) (by omega), b1 5 (by decide) (by decide) (by decide) (by decide) (by decide), b1 6 (by decide) (by decide) (by decide) (by decide) (by decide), b1 7 (by decide) (by decide) (by decide) (by decide) (by decide)]
    exact hSh w hw
  · intro w hw
    by_cases e : w = k
    · subst e; exact h
    · obtain ⟨d1, d2, d3, d4⟩ := b2 w e
      obtain ⟨f1, f2, f3, f4⟩ := hSl w hw
      rw [a1 (20 + w) (by omega) (by omega) (by omega), a1 (10 + (4 + w)) (by omega) (by omega) (by omega), a1 (60 + (4 + w)) (by omega) (by omega) (by omega), d1, d2, d3, d4]
      refine ⟨f1, f2, fun z => ?_, f4⟩
      obtain ⟨g1, g2, g3⟩ := f3 z
      exact ⟨g1, g2, fun i hi => by rw [b3 _ (by omega)]; exact g3 i hi⟩
  · unfold RTp
    rw [a1 5 (by omega) (by omega) (by omega), a1 54 (by omega) (by omega) (by omega), m0, b1 17 (by decide) (by decide) (by decide) (by decide) (by decide)]
    exact hTp
  · unfold RWt
    rw [z0, a1 56 (by omega) (by omega) (by omega), m0, b1 32 (by decide) (by decide) (by decide) (by decide) (by decide)]
    exact hWt
theorem M_layBad (μ : MS) (x1 x2 x3 y : Int32) (h : ¬ (0 ≤ x1.toInt ∧ x1.toInt ≤ 4) ∨ y = 0) : fM_lay_J39 x1 x2 x3 y μ = some ((-1000000001 : Int32), μ) := by
  unfold fM_lay_J39
  rw [M_slotQ, ob_s]
  by_cases h1 : 0 ≤ x1.toInt ∧ x1.toInt ≤ 4
  · rw [ite1 h1, if_pos (h.resolve_left (fun z => z h1))]
  · rw [ite0 h1]
/-- the model's three cells of a slot -/
theorem up3 (μ : MS) (k : Nat) (a b c : Int32) : (∀ d, d ≠ 8 → d ≠ 9 → d ≠ 10 → (up2 (up2 (up2 μ 8 k a) 9 k b) 10 k c) d = μ d) ∧ (∀ w, w ≠ k → (up2 (up2 (up2 μ 8 k a) 9 k b) 10 k c) 8 w = μ 8 w ∧ (up2 (up2 (up2 μ 8 k a) 9 k b) 10 k c) 9 w = μ 9 w ∧ (up2 (up2 (up2 μ 8 k a) 9 k b) 10 k c) 10 w = μ 10 w) ∧
    (up2 (up2 (up2 μ 8 k a) 9 k b) 10 k c) 8 k = a ∧ (up2 (up2 (up2 μ 8 k a) 9 k b) 10 k c) 9 k = b ∧ (up2 (up2 (up2 μ 8 k a) 9 k b) 10 k c) 10 k = c := by
  refine ⟨fun d h1 h2 h3 => by rw [up2_n _ _ _ h3, up2_n _ _ _ h2, up2_n _ _ _ h1], fun w hw => ⟨?_, ?_, ?_⟩, ?_, ?_, ?_⟩
  · rw [up2_n _ _ _ (by decide), up2_n _ _ _ (by decide), up2_s, pk_un hw]
  · rw [up2_n _ _ _ (by decide), up2_s, pk_un hw, up2_n _ _ _ (by decide)]
  · rw [up2_s, pk_un hw, up2_n _ _ _ (by decide), up2_n _ _ _ (by decide)]
  · rw [up2_n _ _ _ (by decide), up2_n _ _ _ (by decide), up2_s, pk_us]
  · rw [up2_n _ _ _ (by decide), up2_s, pk_us]
  · rw [up2_s, pk_us]
theorem L_lay : Ls_lay Re := by
  intro σ μ x1 x2 x3 hRe
  obtain ⟨T, n, j, hT, hj, hB, hI, hSh, hSl, hTp, hWt⟩ := id hRe
  have hn := hB.1.1
  unfold fX_lay fM_lay
  rw [X_slotQ, ob_s]
  by_cases h1 : 0 ≤ x1.toInt ∧ x1.toInt ≤ 4
  · rw [ite1 h1, X_in σ x2 (a := 0) (b := 3) rfl rfl, ob_s]
    by_cases h2 : 0 ≤ x2.toInt ∧ x2.toInt ≤ 3
    · rw [ite1 h2]
      have h1' := h1
      obtain ⟨k, k1, k2, rfl⟩ := rng (a := 0) (b := 4) h1
      obtain ⟨y, y1, y2, rfl⟩ := rng (x := x2) (a := 0) (b := 3) h2
      have hsl : (if (if 0 ≤ (nI k).toInt ∧ (nI k).toInt ≤ 4 then (1 : Int32) else 0) = 0 then true else false) = false := by rw [ite1 h1']
      have hy : y = 0 ∨ y = 1 ∨ y = 2 ∨ y = 3 := by omega
      obtain ⟨f0, f1, f2, f3⟩ := hSl k (by omega)
      rcases hy with rfl | rfl | rfl | rfl
      · rw [if_neg (show ¬ nI 0 = (1 : Int32) by decide), if_pos (show nI 0 = (0 : Int32) from rfl)]
        unfold fX_lay_J35 fX_lay_J50 fX_lay_J70 fM_lay_J34 fM_lay_J39
        rw [M_slotQ, ob_s, ite1 h1']
        unfold fM_lay_J74 fM_lay_J109 fM_lay_J129
        simp only [ck_in (a := k) (n := 5) (by omega) (by omega), clampI (n := k) (by omega), bnd_s, if_neg (show ¬ (1 : Int32) = 0 by decide), if_neg (show ¬ nI 0 = (1 : Int32) by decide), if_neg (show ¬ nI 0 = (2 : Int32) by decide), if_neg (show ¬ nI 0 = (3 : Int32) by decide), f0]
        obtain ⟨u1, u2, u3, u4, u5⟩ := up3 μ k (nI 0) x3 0
        refine ⟨_, _, _, rfl, rfl, Re_slot hRe (k := k) (by omega) (fun c c1 c2 c3 => xi_un _ _ _ c1) rfl (fun c c1 c2 c3 c4 c5 => u1 c c1 c2 c3) (fun w hw => ⟨(u2 w hw).1, (u2 w hw).2.1, (u2 w hw).2.2, by rw [u1 11 (by decide) (by decide) (by decide)]⟩) (fun m hm => by rw [u1 12 (by decide) (by decide) (by decide)]) ⟨?_, ?_, ?_, ?_⟩⟩
        · rw [xi_u, pk_us, u3]
        · rw [u3]; intro z; exact absurd z (by decide)
        · rw [u3]; intro z; exact absurd z (by decide)
        · rw [u3]; intro z; exact absurd z (by decide)
      · rw [if_pos (show nI 1 = (1 : Int32) from rfl), if_neg (show ¬ nI 1 = (0 : Int32) by decide), if_neg (show ¬ nI 1 = (3 : Int32) by decide), if_pos (show nI 1 = (1 : Int32) from rfl)]
        rcases B_one hB x3 with ⟨z, hz, rfl, a1, a2⟩ | ⟨a1, a2⟩
        · rw [a1, a2, ob_s, ob_s, i1, i1]
          unfold fX_lay_J35 fX_lay_J50 fX_lay_J70 fM_lay_J34 fM_lay_J39
          rw [M_slotQ, ob_s, ite1 h1']
          unfold fM_lay_J74 fM_lay_J109 fM_lay_J129
          have g0 : ∀ v, fM_of (up2 μ 8 k v) (nI z) (0 : Int32) = some (μ 1 (20 + 4 * z)) := fun v => by
            rw [show (0 : Int32) = nI 0 from rfl, M_of _ (by omega), up2_n _ _ _ (by decide)]; rfl
          have g1 : ∀ v w, fM_worth (up2 (up2 μ 8 k v) 9 k w) (nI z) = some (worthV (μ 1 (20 + 4 * z)) (μ 1 (21 + 4 * z))) := fun v w => by
            rw [M_worth _ (by omega), up2_n _ _ _ (by decide), up2_n _ _ _ (by decide)]
          simp only [ck_in (a := k) (n := 5) (by omega) (by omega), clampI (n := k) (by omega), ck_in (a := z) (n := 14) (by omega) (by omega), clampI (n := z) (by omega), bnd_s, if_neg (show ¬ (1 : Int32) = 0 by decide), if_pos (show nI 1 = (1 : Int32) from rfl), if_neg (show ¬ nI 1 = (2 : Int32) by decide), if_neg (show ¬ nI 1 = (3 : Int32) by decide), f0, g0, g1, ob_s]
          obtain ⟨u1, u2, u3, u4, u5⟩ := up3 μ k (nI 1) (μ 1 (20 + 4 * z)) (worthV (μ 1 (20 + 4 * z)) (μ 1 (21 + 4 * z)))
          obtain ⟨d0, d1, d2, d3⟩ := hB.2.1.2.2.1 z hz
          refine ⟨_, _, _, rfl, rfl, Re_slot hRe (k := k) (by omega) (fun c c1 c2 c3 => by rw [xi_un _ _ _ c1, xi_un _ _ _ c1, xi_un _ _ _ c1]) rfl (fun c c1 c2 c3 c4 c5 => u1 c c1 c2 c3) (fun w hw => ⟨(u2 w hw).1, (u2 w hw).2.1, (u2 w hw).2.2, by rw [u1 11 (by decide) (by decide) (by decide)]⟩) (fun m hm => by rw [u1 12 (by decide) (by decide) (by decide)]) ⟨?_, ?_, ?_, ?_⟩⟩
          · rw [xi_u, pk_un (by decide), xi_u, pk_un (by decide), xi_u, pk_us, u3]
          · intro _
            rw [u4, u5]
            simp (discharger := omega) only [xi_u, xi_un, pk_us, pk_un, d0, d1]
            exact ⟨trivial, trivial⟩
          · rw [u3]; intro z; exact absurd z (by decide)
          · rw [u3]; intro z; exact absurd z (by decide)
        · rw [a1, a2, ob_s, ob_s, i0, i0]
          unfold fM_lay_J22 fM_lay_J38
          rw [if_neg (show ¬ nI 1 = (2 : Int32) by decide), M_layBad μ _ _ _ _ (Or.inr rfl)]
          exact ⟨_, σ, μ, rfl, rfl, hRe⟩
      · rw [if_neg (show ¬ nI 2 = (1 : Int32) by decide), if_neg (show ¬ nI 2 = (0 : Int32) by decide), if_neg (show ¬ nI 2 = (3 : Int32) by decide), if_neg (show ¬ nI 2 = (1 : Int32) by decide)]
        unfold fX_lay_J35 fM_lay_J22
        rw [if_pos (show nI 2 = (2 : Int32) from rfl), if_pos (show nI 2 = (2 : Int32) from rfl), X_sheetQ, ob_s, M_sheetQ, ob_s]
        by_cases h3 : 0 ≤ x3.toInt ∧ x3.toInt ≤ 3
        · rw [ite1 h3, ite1 h3]
          obtain ⟨p, p1, p2, rfl⟩ := rng (a := 0) (b := 3) h3
          obtain ⟨s1, s2, s3, s4, q, q1, q2⟩ := hSh p (by omega)
          unfold fX_lay_J50 fM_lay_J34 fM_lay_J39
          rw [M_slotQ, ob_s, ite1 h1', i1, if_pos (show nI 2 = (2 : Int32) from rfl), if_pos (show nI 2 = (2 : Int32) from rfl), ck_in (by omega) (by omega), ck_in (by omega) (by omega), clampI (n := p) (by omega)]
          rcases X_missing hSh (k := p) (by omega) with ⟨c1, c2⟩ | ⟨c1, c2⟩
          · rw [c1, ob_s, i1, if_neg c2]; exact ⟨_, σ, μ, rfl, rfl, hRe⟩
          · rw [c1, ob_s, i0, if_pos c2]
            unfold fX_lay_J70 fM_lay_J74 fM_lay_J109 fM_lay_J129
            obtain ⟨σ2, v1, v2, v3, v4, v5⟩ := X_sas (xu σ (20 + k) 0 (nI 2)) (k := 4 + k) (p := p) (by omega) (by omega) (by omega)
            obtain ⟨u1, u2, u3, u4, u5⟩ := up3 μ k (nI 2) (nI p) 0
            obtain ⟨μ2, w1, w2, w3⟩ := M_layL (k := k) (p := p) (by omega) (by omega) (μ 8 k) (fun (x5 : Int32) (μ : MS) => some (x5, μ)) 24 0 10000 (up2 (up2 (up2 (up2 μ 8 k (nI 2)) 9 k (nI p)) 10 k 0) 11 k ((up2 (up2 (up2 μ 8 k (nI 2)) 9 k (nI p)) 10 k 0) 6 p)) (by omega) (by omega) (by omega)
            rw [u1 6 (by decide) (by decide) (by decide)] at w1 w2 w3
            simp only [ck_in (a := k) (n := 5) (by omega) (by omega), clampI (n := k) (by omega), ck_in (a := p) (n := 4) (by omega) (by omega), clampI (n := p) (by omega), bnd_s, if_pos (show nI 2 = (2 : Int32) from rfl), if_neg (show ¬ nI 2 = (1 : Int32) by decide), f0, v1, ob_s, u1 6 (by decide) (by decide) (by decide)]
            rw [show fM_lay_L150 _ 10000 (nI k) (nI p) (μ 8 k) (0 : Int32) _ = _ from w1]
            refine ⟨_, _, _, rfl, rfl, Re_slot hRe (k := k) (by omega) (fun c c1 c2 c3 => by rw [v2 c c2 c3, xi_un _ _ _ c1]) v3 (fun c c1 c2 c3 c4 c5 => by rw [w2 c c5, up2_n _ _ _ c4, u1 c c1 c2 c3]) (fun w hw => ?_) (fun m hm => ?_) ⟨?_, ?_, ?_, ?_⟩⟩
            · refine ⟨?_, ?_, ?_, ?_⟩
              · rw [w2 8 (by decide), up2_n _ _ _ (by decide)]; exact (u2 w hw).1
              · rw [w2 9 (by decide), up2_n _ _ _ (by decide)]; exact (u2 w hw).2.1
              · rw [w2 10 (by decide), up2_n _ _ _ (by decide)]; exact (u2 w hw).2.2
              · rw [w2 11 (by decide), up2_s, pk_un hw, u1 11 (by decide) (by decide) (by decide)]
            · rw [w3, if_neg (by omega), up2_n _ _ _ (by decide), u1 12 (by decide) (by decide) (by decide)]
            · rw [v2 _ (by omega) (by omega), xi_u, pk_us, w2 8 (by decide), up2_n _ _ _ (by decide), u3]
            · rw [w2 8 (by decide), up2_n _ _ _ (by decide), u3]; intro z; exact absurd z (by decide)
            · intro _
              rw [v4, xi_un _ _ _ (by omega), s2, w2 11 (by decide), up2_s, pk_us]
              refine ⟨rfl, ⟨q, q1, q2⟩, fun i hi => ?_⟩
              rw [v5 i hi, xi_un _ _ _ (by omega), (s3 i hi).1, w3, if_pos (by omega), up2_n _ _ _ (by decide), u1 7 (by decide) (by decide) (by decide), show 24 * k + i - 24 * k = i by omega]
            · rw [w2 8 (by decide), up2_n _ _ _ (by decide), u3]; intro z; exact absurd z (by decide)
        · rw [ite0 h3, ite0 h3]
          unfold fM_lay_J38
          rw [M_layBad μ _ _ _ _ (Or.inr rfl)]
          exact ⟨_, σ, μ, rfl, rfl, hRe⟩
      · rw [if_neg (show ¬ nI 3 = (1 : Int32) by decide), if_neg (show ¬ nI 3 = (0 : Int32) by decide), if_pos (show nI 3 = (3 : Int32) from rfl)]
        unfold fX_lay_J35 fX_lay_J50 fX_lay_J70 fM_lay_J34 fM_lay_J39
        rw [M_slotQ, ob_s, ite1 h1']
        unfold fM_lay_J74 fM_lay_J109 fM_lay_J129
        simp only [ck_in (a := k) (n := 5) (by omega) (by omega), clampI (n := k) (by omega), bnd_s, if_neg (show ¬ (1 : Int32) = 0 by decide), if_neg (show ¬ nI 3 = (1 : Int32) by decide), if_neg (show ¬ nI 3 = (2 : Int32) by decide), if_pos (show nI 3 = (3 : Int32) from rfl), f0]
        obtain ⟨u1, u2, u3, u4, u5⟩ := up3 μ k (nI 3) x3 0
        refine ⟨_, _, _, rfl, rfl, Re_slot hRe (k := k) (by omega) (fun c c1 c2 c3 => by rw [xi_un _ _ _ c1, xi_un _ _ _ c1]) rfl (fun c c1 c2 c3 c4 c5 => u1 c c1 c2 c3) (fun w hw => ⟨(u2 w hw).1, (u2 w hw).2.1, (u2 w hw).2.2, by rw [u1 11 (by decide) (by decide) (by decide)]⟩) (fun m hm => by rw [u1 12 (by decide) (by decide) (by decide)]) ⟨?_, ?_, ?_, ?_⟩⟩
        · rw [xi_u, pk_un (by decide), xi_u, pk_us, u3]
        · rw [u3]; intro z; exact absurd z (by decide)
        · rw [u3]; intro z; exact absurd z (by decide)
        · intro _
          rw [xi_u, pk_us, u4]
    · rw [ite0 h2]
      have z0 : (0 : Int32).toInt = 0 := rfl
      have z1 : (1 : Int32).toInt = 1 := rfl
      have z2 : (2 : Int32).toInt = 2 := rfl
      have z3 : (3 : Int32).toInt = 3 := rfl
      rw [if_neg (fun e => h2 (by rw [e]; omega)), if_neg (fun e => h2 (by rw [e]; omega)), if_neg (fun e => h2 (by rw [e]; omega))]
      unfold fM_lay_J22 fM_lay_J38
      rw [if_neg (fun e => h2 (by rw [e]; omega)), M_layBad μ _ _ _ _ (Or.inr rfl)]
      exact ⟨_, σ, μ, rfl, rfl, hRe⟩
  · rw [ite0 h1]
    have hm : ∀ y, fM_lay_J39 x1 x2 x3 y μ = some ((-1000000001 : Int32), μ) := fun y => M_layBad μ _ _ _ _ (Or.inl h1)
    unfold fM_lay_J22 fM_lay_J34 fM_lay_J38
    simp only [hm]
    refine ⟨_, σ, μ, rfl, ?_, hRe⟩
    by_cases e0 : x2 = 0
    · rw [if_pos e0]
    · rw [if_neg e0]
      by_cases e3 : x2 = 3
      · rw [if_pos e3]
      · rw [if_neg e3, M_sheetQ, ob_s]
        by_cases e1 : x2 = 1
        · rw [if_pos e1]
          rcases B_one hB x3 with ⟨z, hz, _, a1, a2⟩ | ⟨a1, a2⟩
          · rw [a2, ob_s, i1]
          · rw [a2, ob_s, i0, if_neg (by rw [e1]; decide)]
        · rw [if_neg e1]
          by_cases e2 : x2 = 2
          · rw [if_pos e2, ite_self]
          · rw [if_neg e2]
