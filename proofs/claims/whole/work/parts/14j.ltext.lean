/-! TEXT: the call's step -/
theorem M_textNew {μ3 : MS} {N k o len : Nat} (hN : N < 14) (h1 : μ3 1 1 = nI N) (ho : μ3 0 27 = nI o) (hl : μ3 0 25 = nI len) :
    ∃ μ17, (ob (fM_textAt μ3 (μ3 1 1)) fun r7 =>
      ck (r7 + (0 : Int32)) (3076) <|
      bnd (up2 μ3 1 ((r7 + (0 : Int32))).toNatClampNeg (nI k)) fun μ9 =>
      ck (r7 + (1 : Int32)) (3076) <|
      bnd (up2 μ9 1 ((r7 + (1 : Int32))).toNatClampNeg (μ9 0 27)) fun μ12 =>
      ck (r7 + (2 : Int32)) (3076) <|
      bnd (up2 μ12 1 ((r7 + (2 : Int32))).toNatClampNeg (μ12 0 25)) fun μ15 =>
      bnd (up2 μ15 1 1 ((μ15 1 1) + (1 : Int32))) fun μ17 =>
      ob (fM_forgets μ17) fun μ20 =>
      some (((μ20 1 1) - (1 : Int32)), μ20)) = (ob (fM_forgets μ17) fun μ20 => some (((μ20 1 1) - (1 : Int32)), μ20)) ∧ (∀ c, c ≠ 1 → μ17 c = μ3 c) ∧ μ17 1 1 = nI (N + 1) ∧ μ17 1 (76 + 200 * N) = nI k ∧ μ17 1 (77 + 200 * N) = nI o ∧ μ17 1 (78 + 200 * N) = nI len ∧ ∀ m, m ≠ 1 → (m < 76 + 200 * N ∨ 79 + 200 * N ≤ m) → μ17 1 m = μ3 1 m := by
  refine ⟨up2 (up2 (up2 (up2 μ3 1 (76 + 200 * N) (nI k)) 1 (77 + 200 * N) (nI o)) 1 (78 + 200 * N) (nI len)) 1 1 (nI (N + 1)), ?_, fun c hc => ?_, ?_, ?_, ?_, ?_, fun m m1 m2 => ?_⟩
  · rw [h1, M_textAt, ob_s, Int32.add_zero, nI_1, show (2 : Int32) = nI 2 from rfl, nI_add, ck_in (by omega) (by omega), bnd_s, ck_in (by omega) (by omega), bnd_s, ck_in (by omega) (by omega), bnd_s, bnd_s, clampI (by omega), clampI (by omega), clampI (by omega), up2_n _ _ _ (by decide), ho, up2_n _ _ _ (by decide), up2_n _ _ _ (by decide), hl, show 76 + 200 * N + 1 = 77 + 200 * N by omega, show 76 + 200 * N + 2 = 78 + 200 * N by omega, up2_s, pk_un (by omega), up2_s, pk_un (by omega), up2_s, pk_un (by omega), h1, nI_1]
  · rw [up2_n _ _ _ hc, up2_n _ _ _ hc, up2_n _ _ _ hc, up2_n _ _ _ hc]
  · rw [up2_s, pk_us]
  · rw [up2_s, pk_un (by omega), up2_s, pk_un (by omega), up2_s, pk_un (by omega), up2_s, pk_us]
  · rw [up2_s, pk_un (by omega), up2_s, pk_un (by omega), up2_s, pk_us]
  · rw [up2_s, pk_un (by omega), up2_s, pk_us]
  · rw [up2_s, pk_un m1, up2_s, pk_un (by omega), up2_s, pk_un (by omega), up2_s, pk_un (by omega)]
theorem L_text : Ls_text Re := by
  intro σ μ hRe
  obtain ⟨T, n, j, hT, hj, hB, hI⟩ := id hRe
  obtain ⟨rI, rSh, rSl, rTp, rWt⟩ := id hI
  obtain ⟨L, l1, l2, l3⟩ := rTp.1
  have hn := hB.1.1
  have hN := hT.1.2.1
  have hTB : TB σ μ (fun i => (μ 17 i).toNatClampNeg) L := ⟨l1, l2, l3, fun i hi => by
    obtain ⟨a1, q, a2, a3⟩ := rTp.2 i hi
    show xi σ 54 i = nI (μ 17 i).toNatClampNeg ∧ μ 17 i = nI (μ 17 i).toNatClampNeg ∧ (μ 17 i).toNatClampNeg < 256
    rw [a1, a3, clampI (by omega)]
    exact ⟨rfl, rfl, a2⟩⟩
  obtain ⟨r, σ', q, μ3, p1, p2, fx, fx2, fm, fm0, m17, fm1, hr⟩ := T_parse hTB hN hT.1.1
  have hA : 76 + 200 * T.length ≤ lA T.length := by unfold lA; split <;> omega
  have gx : ∀ c, c ≠ 5 → c ≠ 6 → c ≠ 55 → xi (xu σ' 5 1 0) c = xi σ c := fun c h1 h2 h3 => by rw [xi_un _ _ _ h1]; exact fx c h1 h2 h3
  have gx51 : xi (xu σ' 5 1 0) 5 1 = nI 0 := by rw [xi_u, pk_us]; rfl
  have gx2 : (xu σ' 5 1 0).2 = σ.2 := fx2
  have R0 : Re (xu σ' 5 1 0) μ3 := Re_tape hT hj hB hI gx gx51 gx2 fm fm0 m17 fm1
  have n11 : μ3 1 1 = nI T.length := by rw [fm1 1 (by omega)]; exact hT.1.1
  have x06 : xi (xu σ' 5 1 0) 0 6 = nI T.length := by rw [gx 0 (by decide) (by decide) (by decide)]; exact hT.2.1
  unfold fX_text fM_text
  rw [p1, p2, ob2_s, ob2_s, bnd_s, bnd_s]
  rcases hr with ⟨rfl, rfl, e3⟩ | ⟨rfl, k, cs, rfl, hw, hl93, x61, x62, x64, m25, m27, hcs⟩
  · -- no text
    rw [i0, if_neg (show ¬ (0 : Int32) ≤ -1 by decide)]
    refine ⟨_, rfl, (fun σk h => (by cases h)), fun r u h => ?_⟩
    obtain ⟨h1, h2⟩ := h
    rw [h1, h2]
    exact ⟨μ3, by rw [e3], R0⟩
  · have hk := hw.1
    rw [i1, x06, if_pos (nI_pos' (by omega)), n11]
    by_cases h14 : T.length = 14
    · rw [if_pos (show nI T.length = (14 : Int32) by rw [h14]; rfl), if_pos (show nI T.length = (14 : Int32) by rw [h14]; rfl)]
      refine ⟨_, rfl, (fun σk h => (by cases h)), fun r u h => ?_⟩
      obtain ⟨h1, h2⟩ := h
      rw [h1, h2]
      exact ⟨μ3, rfl, R0⟩
    · have hne : ¬ nI T.length = (14 : Int32) := fun e => h14 (nI_inj (b := 14) (by omega) (by omega) e)
      rw [if_neg hne, if_neg hne]
      have hlA : lA T.length = 80 + 200 * T.length := by unfold lA; rw [if_pos (by omega)]
      -- the model
      obtain ⟨μ17, w1, w2, w3, w4, w5, w6, w7⟩ := M_textNew (k := k) (show T.length < 14 by omega) n11 m27 m25
      rw [n11] at w1
      rw [w1]
      have hMT : MT (μ17 1) (T ++ [(k, nops cs, cs)]) := by
        refine ⟨by rw [w3, List.length_append]; rfl, by rw [List.length_append, List.length_singleton]; omega, fun t p hp => ?_⟩
        by_cases ht : t < T.length
        · rw [List.getElem?_append_left ht] at hp
          obtain ⟨c1, c2⟩ := hT.1.2.2 t p hp
          exact ⟨TextAt_lt (fun m h1 h2 => by rw [w7 m (by omega) (Or.inl h2)]; exact fm1 m (by omega)) ht c2.2.2.1 c1, c2⟩
        · have ht2 : t = T.length := by
            have := getElem_lt hp
            rw [List.length_append, List.length_singleton] at this
            omega
          rw [ht2, List.getElem?_append_right (Nat.le_refl _), Nat.sub_self] at hp
          cases hp
          rw [ht2]
          refine ⟨⟨w4, w5, w6, fun i hi => ?_⟩, hw⟩
          obtain ⟨c1, c2, c3⟩ := hcs i hi
          rw [hlA] at c2 c3
          rw [w7 _ (by omega) (by omega), w7 _ (by omega) (by omega), show 81 + 200 * T.length + 2 * i = 80 + 200 * T.length + 2 * i + 1 by omega]
          exact ⟨c2, c3⟩
      obtain ⟨μ20, v1, v2, v3, v4, v5⟩ := M_forgets hMT
      have u1 : μ20 1 = μ17 1 := v2 1 (by decide) (by decide)
      have ns : ∀ m, m < 76 → m ≠ 1 → μ20 1 m = μ 1 m := fun m h1 h2 => by rw [u1, w7 m h2 (by omega), fm1 m (by omega)]
      have mc : ∀ c, c ≠ 0 → c ≠ 1 → c ≠ 14 → μ20 c = μ c := fun c h1 h2 h3 => by rw [v2 c h1 h3, w2 c h2, fm c h1 h2]
      have m0 : ∀ f, f ≠ 12 → (f < 17 ∨ 27 < f) → μ20 0 f = μ 0 f := fun f h1 h2 => by rw [v3 f h1, w2 0 (by decide), fm0 f h2]
      have m017 : μ20 0 17 = nI 0 := by rw [v3 17 (by decide), w2 0 (by decide)]; exact m17
      have hans : μ20 1 1 - 1 = nI T.length := by rw [u1, w3, nI_pred]
      rw [v1, ob_s, hans]
      -- the class
      have y62 : xi (xu σ' 5 1 0) 6 2 = nI (nops cs) := by rw [xi_un _ _ _ (by decide)]; exact x62
      have y64 : xi (xu σ' 5 1 0) 6 4 = nI cs.length := by rw [xi_un _ _ _ (by decide)]; exact x64
      have y61 : xi (xu σ' 5 1 0) 6 1 = nI k := by rw [xi_un _ _ _ (by decide)]; exact x61
      have y55 : ∀ i, i < cs.length → xi (xu σ' 5 1 0) 55 i = cs.getD i 0 := fun i hi => by rw [xi_un _ _ _ (by decide)]; exact (hcs i hi).1
      have hno : nops cs ≤ 96 := hw.2.1
      unfold lwk
      rw [y62, y64, clampI (by omega), clampI (by omega), if_pos ⟨nI_pos (by omega), hno, nI_pos (by omega), by omega⟩]
      generalize xu σ' 5 1 0 = σk at *
      have kw0 : Kw σ σk := by unfold Kw xl xL xq xw; rw [gx2]; exact ⟨rfl, rfl, rfl, fun _ _ => rfl⟩
      have xrk : xr σk = xr σ := by unfold xr; rw [gx2]
      have hAk : Apart σk := Apart_kw kw0 hB.2.2.1.1
      have key : ∀ a c t, frs (xL σk) a c t → ∃ u, fX_textK (xnew σk a c t) a = some (nI T.length, u) ∧ Re u μ20 := by
        intro a c t hf
        have hNA := new_apart hf hAk
        have hNL := new_law (a := a) (c := c) (t := t) hf y61 y62 hno y64 (by omega) y55
        obtain ⟨σ5, e5⟩ : ∃ s, s = xu (xul (xnew σk a c t) T.length (some a)) 0 6 (nI (T.length + 1)) := ⟨_, rfl⟩
        have kw5 : xL σ5 = xL (xnew σk a c t) ∧ xq σ5 = xq (xnew σk a c t) ∧ xw σ5 = xw (xnew σk a c t) := by rw [e5]; exact ⟨rfl, rfl, rfl⟩
        have xl5 : ∀ s, s ≠ T.length → xl σ5 s = xl σ s := fun s hs => by
          rw [e5]
          show va_up (xl σk) T.length (some a) s = _
          rw [va_up_ne _ _ hs, kw0.1]
        have xl5n : xl σ5 T.length = some a := by rw [e5]; exact va_up_self _ _ _
        have xr5 : xr σ5 = xr σ := by rw [e5]; exact xrk
        have old : ∀ x, x ∈ xL σ → x ∈ xL σ5 ∧ xq σ5 x = xq σ x ∧ xw σ5 x = xw σ x := fun x hx => by
          rw [kw5.1, kw5.2.1, kw5.2.2]
          have hx2 : x ∈ xL σk := by rw [kw0.2.1]; exact hx
          obtain ⟨z1, z2, z3⟩ := new_old hf hx2
          exact ⟨z1, by rw [z2, kw0.2.2.1], by rw [z3]; show σk.2.2.2.2.2 x = σ.2.2.2.2.2 x; rw [gx2]⟩
        have hA5 : Apart σ5 := by
          unfold Apart isStk
          rw [kw5.1, kw5.2.1]
          exact hNA
        have hL5 : LawAt σ5 a k (nops cs) cs := by
          unfold LawAt
          rw [kw5.1, kw5.2.1, kw5.2.2]
          exact hNL
        have xi5 : ∀ c, c ≠ 0 → xi σ5 c = xi σk c := fun c hc => by rw [e5, xi_un _ _ _ hc]; rfl
        have xi50 : ∀ f, f ≠ 6 → xi σ5 0 f = xi σ 0 f := fun f hf' => by
          rw [e5, xi_u, pk_un hf']
          show xi σk 0 f = _
          rw [gx 0 (by decide) (by decide) (by decide)]
        have xi506 : xi σ5 0 6 = nI (T.length + 1) := by rw [e5, xi_u, pk_us]
        have hXT : XT σ5 (T ++ [(k, nops cs, cs)]) := by
          intro s p hp
          by_cases hs : s < T.length
          · rw [List.getElem?_append_left hs] at hp
            obtain ⟨a', g1, g2⟩ := hT.2.2 s p hp
            exact ⟨a', by rw [xl5 s (by omega)]; exact g1, LawAt_ext old g2⟩
          · have hs2 : s = T.length := by
              have := getElem_lt hp
              rw [List.length_append, List.length_singleton] at this
              omega
            rw [hs2, List.getElem?_append_right (Nat.le_refl _), Nat.sub_self] at hp
            cases hp
            rw [hs2]
            exact ⟨a, xl5n, hL5⟩
        have hRX : ∀ (b : Nat) (R : Option (List Int32)), RX σ b R → RX σ5 b R := fun b R h => by
          refine ⟨hA5, ?_⟩
          rcases R with _ | ds
          · show xr σ5 b = none; rw [xr5]; exact h.2
          · obtain ⟨a', o', g1, g2, g3⟩ := h.2
            exact ⟨a', o', by rw [xr5]; exact g1, LawAt_ext old g2, g3⟩
        have core : ∀ u, BX u 0 μ20 (lastT (T ++ [(k, nops cs, cs)]) 0) n 0 j NoD → Kw σ5 u → xr u 1 = xr σ5 1 → (∀ c, c ≠ 1 → (c < 30 ∨ 36 ≤ c) → xi u c = xi σ5 c) → Re u μ20 := by
          intro u hu kwu xru xiu
          have hc : ∀ c, c ≠ 0 → c ≠ 1 → c ≠ 5 → c ≠ 6 → c ≠ 55 → (c < 30 ∨ 36 ≤ c) → xi u c = xi σ c := fun c h0 h1 h5 h6 h55 h30 => by rw [xiu c h1 h30, xi5 c h0, gx c h5 h6 h55]
          have hu0 : xi u 0 = xi σ5 0 := xiu 0 (by decide) (by omega)
          refine ⟨T ++ [(k, nops cs, cs)], n, j, ⟨by rw [u1]; exact hMT, by rw [hu0, xi506, List.length_append]; rfl, XT_kw kwu hA5 hXT⟩, ⟨hj.1, v5⟩, hu, ?_, ?_, ?_, ?_, ?_⟩
          · obtain ⟨i1', i2⟩ := rI
            refine ⟨by rw [hu0, xi50 4 (by decide), m0 3 (by decide) (by omega)]; exact i1', ?_⟩
            rcases i2 with i2 | ⟨i2, q', n', j', b1, b2, b3, b4, b5, b6, b7⟩
            · exact Or.inl (by rw [m0 3 (by decide) (by omega)]; exact i2)
            · have htk : (T ++ [(k, nops cs, cs)]).take q' = T.take q' := List.take_append_of_le_length b1
              refine Or.inr ⟨by rw [m0 3 (by decide) (by omega)]; exact i2, q', n', j', by rw [List.length_append]; omega, ?_, by rw [hu0, xi50 7 (by decide)]; exact b3, b4, ?_, ?_, ?_⟩
              · rw [htk, mc 2 (by decide) (by decide) (by decide)]; exact b2
              · rw [mc 2 (by decide) (by decide) (by decide)]; exact b5
              · rw [htk, mc 2 (by decide) (by decide) (by decide)]
                exact XB_fr (hc _ (by omega) (by omega) (by omega) (by omega) (by omega) (by omega)) (fun w hw' => hc _ (by omega) (by omega) (by omega) (by omega) (by omega) (by omega)) b6
              · rw [htk]
                exact RX_fr xru kwu (hRX 1 _ b7)
          · intro i hi
            rw [hc (10 + i) (by omega) (by omega) (by omega) (by omega) (by omega) (by omega), hc (60 + i) (by omega) (by omega) (by omega) (by omega) (by omega) (by omega), mc 5 (by decide) (by decide) (by decide), mc 6 (by decide) (by decide) (by decide), mc 7 (by decide) (by decide) (by decide)]
            exact rSh i hi
          · intro i hi
            rw [hc (20 + i) (by omega) (by omega) (by omega) (by omega) (by omega) (by omega), hc (10 + (4 + i)) (by omega) (by omega) (by omega) (by omega) (by omega) (by omega), hc (60 + (4 + i)) (by omega) (by omega) (by omega) (by omega) (by omega) (by omega), mc 8 (by decide) (by decide) (by decide), mc 9 (by decide) (by decide) (by decide), mc 10 (by decide) (by decide) (by decide), mc 11 (by decide) (by decide) (by decide), mc 12 (by decide) (by decide) (by decide)]
            exact rSl i hi
          · refine ⟨⟨0, by omega, by rw [xiu 5 (by decide) (by omega), xi5 5 (by decide)]; exact gx51, m017⟩, ?_⟩
            rw [hc 54 (by omega) (by omega) (by omega) (by omega) (by omega) (by omega), mc 17 (by decide) (by decide) (by decide)]
            exact rTp.2
          · obtain ⟨w, z1, z2, z3, z4⟩ := rWt
            refine ⟨w, z1, by rw [hu0, xi50 13 (by decide)]; exact z2, by rw [m0 32 (by decide) (by omega)]; exact z3, ?_⟩
            rw [hc 56 (by omega) (by omega) (by omega) (by omega) (by omega) (by omega), mc 32 (by decide) (by decide) (by decide)]
            exact z4
        have xb5 : ∀ (R' : Option (List Int32)) (D : Nat → Prop) (s5 : XS), xi s5 = xi σ5 → (∀ i, i < n → ¬ D i → R' = lastT T 0 ∧ ¬ NoD i) → XB s5 0 (μ20 1) R' n D := fun R' D s5 es hD => by
          have hc : ∀ c, c ≠ 0 → c ≠ 5 → c ≠ 6 → c ≠ 55 → xi s5 c = xi σ c := fun c h0 h5 h6 h55 => by rw [es, xi5 c h0, gx c h5 h6 h55]
          exact XB_ne hn ns hD (XB_fr (hc _ (by omega) (by omega) (by omega) (by omega)) (fun w hw' => hc _ (by omega) (by omega) (by omega) (by omega)) hB.2.1)
        have wb5 : WB (μ20 1) n 0 j := WB_ne ns hB.1
        -- the walk
        have hin : a ∈ xL (xnew σk a c t) ∧ xq (xnew σk a c t) a 3 = 0 := hNL.1
        unfold fX_textK
        rw [lk_s hin, show xi (xnew σk a c t) 0 6 = nI T.length from x06, ck_in (by omega) (by omega), clampI (by omega), bnd_s, bnd_s, show xi (xul (xnew σk a c t) T.length (some a)) 0 6 = nI T.length from x06, nI_1, ← e5, lk_s (show a ∈ xL σ5 ∧ xq σ5 a 3 = 0 from hL5.1), hL5.2.1, xi506, nI_pred]
        by_cases hk0 : k = 0
        · rw [if_pos (show nI k = (0 : Int32) by rw [hk0]; rfl)]
          have hlast : lastT (T ++ [(k, nops cs, cs)]) 0 = some cs := by rw [lastT_app, if_pos hk0]
          rw [hlast] at v4 core
          unfold fB_obey
          rw [bnd_s]
          have kw6 : Kw σ5 (xur σ5 0 (some a)) := ⟨rfl, rfl, rfl, fun _ _ => rfl⟩
          have hB6 : BX (xur σ5 0 (some a)) 0 μ20 (some cs) n 0 j (fun q => 0 ≤ q) := by
            refine ⟨wb5, xb5 _ _ _ rfl (fun i hi hD => absurd (Nat.zero_le i) hD), ⟨Apart_kw kw6 hA5, a, nops cs, show va_up (xr σ5) 0 (some a) 0 = some a from va_up_self _ _ _, ?_, ?_⟩, v4⟩
            · rw [← hk0]; exact LawAt_kw kw6 hA5 hL5
            · rw [← hk0]; exact hw
          obtain ⟨σ7, b1, b2, b3⟩ := X_obeyL (p := a) (fun (σ : XS) => some σ) n 0 10000 (xur σ5 0 (some a)) (by omega) (by omega) (by omega) hB6
          rw [show fB_obey_L7 0 a (fun (σ : XS) => some σ) 10000 (0 : Int32) (xur σ5 0 (some a)) = some σ7 from b1, ob_s, b3.1 0 (by omega) (by omega), show xi (xur σ5 0 (some a)) 0 6 = nI (T.length + 1) from xi506, nI_pred]
          exact ⟨σ7, rfl, core σ7 b2 (Kw_trans kw6 b3.2.2) (by rw [b3.2.1]; exact (show va_up (xr σ5) 0 (some a) 1 = xr σ5 1 from va_up_ne _ _ (by decide))) (fun c h1 h2 => by rw [b3.1 c (by omega) (by omega)]; rfl)⟩
        · rw [if_neg (show ¬ nI k = (0 : Int32) from fun e => hk0 (nI_inj (b := 0) (by omega) (by omega) e))]
          have hlast : lastT (T ++ [(k, nops cs, cs)]) 0 = lastT T 0 := by rw [lastT_app, if_neg hk0]
          rw [hlast] at v4 core
          exact ⟨σ5, rfl, core σ5 ⟨wb5, xb5 _ _ _ rfl (fun i hi hD => ⟨rfl, hD⟩), hRX 0 _ hB.2.2.1, v4⟩ (Kw_refl σ5) rfl (fun _ _ _ => rfl)⟩
      refine ⟨Sum.inr σk, rfl, fun σk' e a c t hf => ?_, fun r u h => ?_⟩
      · cases e
        obtain ⟨u, g1, _⟩ := key a c t hf
        exact ⟨_, g1⟩
      · obtain ⟨a, c, t, hf, g⟩ := h
        obtain ⟨u', g1, g2⟩ := key a c t hf
        rw [g1] at g
        cases g
        exact ⟨μ20, rfl, g2⟩
