/-! sheets, slots, waits -/
theorem Re_side {σ σ' : XS} {μ μ' : MS} {T : List (Nat × Nat × List Int32)} {n j : Nat} (hT : MT (μ 1) T ∧ xi σ 0 6 = nI T.length ∧ XT σ T) (hj : j ≤ 9999 ∧ RF μ T.length) (hB : BX σ 0 μ (lastT T 0) n 0 j NoD) (hI : RIm σ μ T)
    (x0 : xi σ' 0 4 = xi σ 0 4 ∧ xi σ' 0 6 = xi σ 0 6 ∧ xi σ' 0 7 = xi σ 0 7) (x1 : xi σ' 1 = xi σ 1) (x2 : xi σ' 2 = xi σ 2) (x3 : ∀ c, 30 ≤ c → c < 42 → xi σ' c = xi σ c) (x4 : σ'.2 = σ.2)
    (m0 : μ' 0 12 = μ 0 12 ∧ μ' 0 3 = μ 0 3) (m1 : μ' 1 = μ 1) (m2 : μ' 2 = μ 2) (m3 : μ' 14 = μ 14) (m4 : μ' 15 = μ 15) (h : RSh σ' μ' ∧ RSl σ' μ' ∧ RTp σ' μ' ∧ RWt σ' μ') : Re σ' μ' := by
  have kw : Kw σ σ' := by unfold Kw xl xL xq xw; rw [x4]; exact ⟨rfl, rfl, rfl, fun _ _ => rfl⟩
  have xr' : xr σ' = xr σ := by unfold xr; rw [x4]
  have rm : RM μ' (lastT T 0) := RM_fr m0.1 (fun m _ => by rw [m1]) m3 m4 hB.2.2.2
  have hB' : BX σ' 0 μ' (lastT T 0) n 0 j NoD := BX_mu (BX_off hB x1 (fun w hw => x3 _ (by omega) (by omega)) (by rw [xr']) kw) m1 rm
  refine ⟨T, n, j, ⟨by rw [m1]; exact hT.1, by rw [x0.2.1]; exact hT.2.1, XT_kw kw hB.2.2.1.1 hT.2.2⟩, ⟨hj.1, RF_fr m0.1 hj.2⟩, hB', ?_, h⟩
  obtain ⟨a1, a2⟩ := hI
  refine ⟨by rw [x0.1, m0.2]; exact a1, ?_⟩
  rcases a2 with a2 | ⟨a2, q, n', j', b1, b2, b3, b4, b5, b6, b7⟩
  · exact Or.inl (by rw [m0.2]; exact a2)
  · exact Or.inr ⟨by rw [m0.2]; exact a2, q, n', j', b1, by rw [m2]; exact b2, by rw [x0.2.2]; exact b3, b4, by rw [m2]; exact b5, by rw [m2]; exact XB_fr x2 (fun w hw => x3 _ (by omega) (by omega)) b6, RX_fr (by rw [xr']) kw b7⟩
theorem X_sheetQ (σ : XS) (x : Int32) : fX_isSheet σ x = some (if 0 ≤ x.toInt ∧ x.toInt ≤ 3 then 1 else 0) := by
  unfold fX_isSheet
  rw [X_in σ x (a := 0) (b := 3) rfl rfl, ob_s, zb_s]
theorem M_sheetQ (μ : MS) (x : Int32) : fM_isSheet μ x = some (if 0 ≤ x.toInt ∧ x.toInt ≤ 3 then 1 else 0) := by
  unfold fM_isSheet
  rw [M_in μ x (a := 0) (b := 3) rfl rfl, ob_s, zb_s]
theorem X_slotQ (σ : XS) (x : Int32) : fX_isSlot σ x = some (if 0 ≤ x.toInt ∧ x.toInt ≤ 4 then 1 else 0) := by
  unfold fX_isSlot
  rw [X_in σ x (a := 0) (b := 4) rfl rfl, ob_s, zb_s]
theorem M_slotQ (μ : MS) (x : Int32) : fM_isSlot μ x = some (if 0 ≤ x.toInt ∧ x.toInt ≤ 4 then 1 else 0) := by
  unfold fM_isSlot
  rw [M_in μ x (a := 0) (b := 4) rfl rfl, ob_s, zb_s]
theorem L_ask : Ls_ask Re := by
  intro σ μ x1 x2 hRe
  obtain ⟨T, n, j, hT, hj, hB, hI, hSh, hSl, hTp, hWt⟩ := id hRe
  unfold fX_ask fM_ask
  rw [X_slotQ, M_slotQ, ob_s, ob_s]
  by_cases h1 : 0 ≤ x1.toInt ∧ x1.toInt ≤ 4
  · rw [ite1 h1, ite1 h1, X_kind, ob_s, M_in μ x2 (a := 0) (b := 5) rfl rfl, ob_s]
    by_cases h2 : 0 ≤ x2.toInt ∧ x2.toInt ≤ 5
    · obtain ⟨k, k1, k2, rfl⟩ := rng (a := 0) (b := 4) h1
      obtain ⟨a0, a1, a2, a3⟩ := hSl k (by omega)
      rw [ite1 h2, ite1 h2, ck_in (by omega) (by omega), ck_in (by omega) (by omega), ck_in (by omega) (by omega), ck_in (by omega) (by omega), clampI (by omega), a0]
      by_cases h3 : μ 8 k = 0
      · rw [if_pos h3, if_pos h3]; exact ⟨_, rfl, rfl⟩
      · rw [if_neg h3, if_neg h3]
        by_cases h4 : μ 8 k = 1
        · obtain ⟨b1, b2⟩ := a1 h4
          obtain ⟨r, r1, r2⟩ := isOf_eq σ μ (μ 9 k) x2
          rw [if_pos h4, if_pos h4, b1, r1, ob_s, r2, ob_s]
          by_cases h5 : r = 0
          · rw [if_pos h5, if_pos h5]; exact ⟨_, rfl, rfl⟩
          · rw [if_neg h5, if_neg h5, X_worth, ob_s, b2, b1, ck_in (by omega) (by omega)]; exact ⟨_, rfl, rfl⟩
        · rw [if_neg h4, if_neg h4]; exact ⟨_, rfl, rfl⟩
    · rw [ite0 h2, ite0 h2]; exact ⟨_, rfl, rfl⟩
  · rw [ite0 h1, ite0 h1]; exact ⟨_, rfl, rfl⟩
theorem L_rest : Ls_rest Re := by
  intro σ μ x1 x2 hRe
  obtain ⟨T, n, j, hT, hj, hB, hI, hSh, hSl, hTp, hWt⟩ := id hRe
  unfold fX_rest fM_rest
  rw [X_slotQ, M_slotQ, ob_s, ob_s]
  by_cases h1 : 0 ≤ x1.toInt ∧ x1.toInt ≤ 4
  · obtain ⟨k, k1, k2, rfl⟩ := rng (a := 0) (b := 4) h1
    obtain ⟨a0, a1, a2, a3⟩ := hSl k (by omega)
    rw [ite1 h1, ite1 h1, ck_in (by omega) (by omega), ck_in (by omega) (by omega), clampI (by omega), a0, ck_in (by omega) (by omega)]
    by_cases h3 : μ 8 k = 0
    · rw [if_pos h3, if_neg (by rw [h3]; decide), if_pos h3, ck_in (by omega) (by omega)]; exact ⟨_, rfl, rfl⟩
    · rw [if_neg h3]
      by_cases h4 : μ 8 k = 3
      · rw [if_pos h4, if_pos h4, a3 h4]
        by_cases h5 : x2 = 0
        · rw [if_pos h5]; exact ⟨_, rfl, rfl⟩
        · rw [if_neg h5, nz_s h5]; exact ⟨_, rfl, rfl⟩
      · rw [if_neg h4, if_neg h4, if_neg h3, ck_in (by omega) (by omega)]; exact ⟨_, rfl, rfl⟩
  · rw [ite0 h1, ite0 h1]; exact ⟨_, rfl, rfl⟩
theorem L_tell : Ls_tell Re := by
  intro σ μ x1 hRe
  obtain ⟨T, n, j, hT, hj, hB, hI, hSh, hSl, hTp, w, w1, w2, w3, w4⟩ := id hRe
  unfold fX_tell fM_tell
  rw [w2, w3, show (60 : Int32) = nI 60 from rfl]
  by_cases h1 : w = 60
  · subst h1
    rw [if_pos rfl, if_pos rfl]; exact ⟨_, σ, μ, rfl, rfl, hRe⟩
  · have h2 : ¬ nI w = nI 60 := fun e => h1 ((nI_eq (by omega) (by omega)).mp e)
    rw [if_neg h2, if_neg h2, ck_in (by omega) (by omega), ck_in (by omega) (by omega), bnd_s, bnd_s, bnd_s, bnd_s, clampI (by omega), xi_u, up2_s, pk_us, pk_us, xi_un _ _ _ (by decide), up2_n _ _ _ (by decide), w2, w3, nI_1]
    refine ⟨_, _, _, rfl, rfl, ?_⟩
    have q0 : ∀ f, f ≠ 13 → xi (xu (xu σ 56 w x1) 0 13 (nI (w + 1))) 0 f = xi σ 0 f := fun f hf => by rw [xi_u, pk_un hf, xi_un _ _ _ (by decide)]
    have qc : ∀ c, c ≠ 0 → c ≠ 56 → xi (xu (xu σ 56 w x1) 0 13 (nI (w + 1))) c = xi σ c := fun c h1 h2 => by rw [xi_un _ _ _ h1, xi_un _ _ _ h2]
    have p0 : ∀ f, f ≠ 32 → (up2 (up2 μ 32 w x1) 0 32 (nI (w + 1))) 0 f = μ 0 f := fun f hf => by rw [up2_s, pk_un hf, up2_n _ _ _ (by decide)]
    have pc : ∀ c, c ≠ 0 → c ≠ 32 → (up2 (up2 μ 32 w x1) 0 32 (nI (w + 1))) c = μ c := fun c h1 h2 => by rw [up2_n _ _ _ h1, up2_n _ _ _ h2]
    refine Re_side hT hj hB hI ⟨q0 4 (by decide), q0 6 (by decide), q0 7 (by decide)⟩ (qc 1 (by decide) (by decide)) (qc 2 (by decide) (by decide)) (fun c h1 h2 => qc c (by omega) (by omega)) rfl ⟨p0 12 (by decide), p0 3 (by decide)⟩ (pc 1 (by decide) (by decide)) (pc 2 (by decide) (by decide)) (pc 14 (by decide) (by decide)) (pc 15 (by decide) (by decide)) ⟨?_, ?_, ?_, ?_⟩
    · intro k hk
      rw [qc (10 + k) (by omega) (by omega), qc (60 + k) (by omega) (by omega), pc 5 (by decide) (by decide), pc 6 (by decide) (by decide), pc 7 (by decide) (by decide)]
      exact hSh k hk
    · intro k hk
      rw [qc (20 + k) (by omega) (by omega), qc (10 + (4 + k)) (by omega) (by omega), qc (60 + (4 + k)) (by omega) (by omega), pc 8 (by decide) (by decide), pc 9 (by decide) (by decide), pc 10 (by decide) (by decide), pc 11 (by decide) (by decide), pc 12 (by decide) (by decide)]
      exact hSl k hk
    · unfold RTp
      rw [qc 5 (by decide) (by decide), qc 54 (by decide) (by decide), p0 17 (by decide), pc 17 (by decide) (by decide)]
      exact hTp
    · refine ⟨w + 1, by omega, ?_, ?_, fun i hi => ?_⟩
      · rw [xi_u, pk_us]
      · rw [up2_s, pk_us]
      · rw [xi_un _ _ _ (by decide), xi_u, up2_n _ _ _ (by decide), up2_s]
        by_cases e : i = w
        · rw [e, pk_us, pk_us]
        · rw [pk_un e, pk_un e]; exact w4 i (by omega)
theorem L_trim : Ls_trim Re := by
  intro σ μ x1 hRe
  obtain ⟨T, n, j, hT, hj, hB, hI, hSh, hSl, ⟨⟨L, l1, l2, l3⟩, hTp⟩, hWt⟩ := id hRe
  unfold fX_trim fM_trim
  rw [l2, l3, X_in σ x1 (a := 0) (b := L) rfl (nI_toInt (by omega)), ob_s, M_in μ x1 (a := 0) (b := L) rfl (by rw [w64]; exact nI_toInt (by omega)), ob_s]
  by_cases h1 : 0 ≤ x1.toInt ∧ x1.toInt ≤ (L : Int)
  · obtain ⟨y, y1, y2, rfl⟩ := rng (a := 0) (b := L) h1
    rw [ite1 h1, ite1 h1, bnd_s, bnd_s]
    refine ⟨_, _, _, rfl, rfl, ?_⟩
    have qc : ∀ c, c ≠ 5 → xi (xu σ 5 1 (nI y)) c = xi σ c := fun c h1 => by rw [xi_un _ _ _ h1]
    have p0 : ∀ f, f ≠ 17 → (up2 μ 0 17 (nI y)) 0 f = μ 0 f := fun f hf => by rw [up2_s, pk_un hf]
    have pc : ∀ c, c ≠ 0 → (up2 μ 0 17 (nI y)) c = μ c := fun c h1 => by rw [up2_n _ _ _ h1]
    refine Re_side hT hj hB hI ⟨by rw [qc 0 (by decide)], by rw [qc 0 (by decide)], by rw [qc 0 (by decide)]⟩ (qc 1 (by decide)) (qc 2 (by decide)) (fun c h1 h2 => qc c (by omega)) rfl ⟨p0 12 (by decide), p0 3 (by decide)⟩ (pc 1 (by decide)) (pc 2 (by decide)) (pc 14 (by decide)) (pc 15 (by decide)) ⟨?_, ?_, ?_, ?_⟩
    · intro k hk
      rw [qc (10 + k) (by omega), qc (60 + k) (by omega), pc 5 (by decide), pc 6 (by decide), pc 7 (by decide)]
      exact hSh k hk
    · intro k hk
      rw [qc (20 + k) (by omega), qc (10 + (4 + k)) (by omega), qc (60 + (4 + k)) (by omega), pc 8 (by decide), pc 9 (by decide), pc 10 (by decide), pc 11 (by decide), pc 12 (by decide)]
      exact hSl k hk
    · refine ⟨⟨y, by omega, by rw [xi_u, pk_us], by rw [up2_s, pk_us]⟩, ?_⟩
      rw [qc 54 (by decide), pc 17 (by decide)]
      exact hTp
    · unfold RWt
      rw [qc 0 (by decide), qc 56 (by decide), p0 32 (by decide), pc 32 (by decide)]
      exact hWt
  · rw [ite0 h1, ite0 h1]; exact ⟨_, σ, μ, rfl, rfl, hRe⟩
theorem L_item : Ls_item Re := by
  intro σ μ x1 x2 hRe
  obtain ⟨T, n, j, hT, hj, hB, hI, hSh, hSl, hTp, hWt⟩ := id hRe
  unfold fX_item fM_item
  rw [X_slotQ, M_slotQ, ob_s, ob_s]
  by_cases h1 : 0 ≤ x1.toInt ∧ x1.toInt ≤ 4
  · obtain ⟨k, k1, k2, rfl⟩ := rng (a := 0) (b := 4) h1
    obtain ⟨a0, a1, a2, a3⟩ := hSl k (by omega)
    rw [ite1 h1, ite1 h1, ck_in (by omega) (by omega), ck_in (by omega) (by omega), clampI (by omega), a0]
    by_cases h3 : μ 8 k = 0
    · rw [if_pos h3, if_neg (by rw [h3]; decide), if_pos h3, ck_in (by omega) (by omega)]; exact ⟨_, rfl, rfl⟩
    · rw [if_neg h3]
      by_cases h4 : μ 8 k = 2
      · obtain ⟨b1, ⟨q, b2, b3⟩, b4⟩ := a2 h4
        have e1 : (nI q - 1).toInt = (q : Int) - 1 := by rw [show (1 : Int32) = nI 1 from rfl, pk_sub_toInt (by omega) (by omega)]; rfl
        rw [if_pos h4, if_pos h4, ck_in (by omega) (by omega), b3, M_in μ x2 (a := 0) (b := (q : Int) - 1) rfl (by rw [w64]; exact e1), ob_s]
        unfold fS_isNumber
        have hh : fS_has σ (4 + k) x2 = some (if 0 ≤ x2.toInt ∧ x2.toInt ≤ (q : Int) - 1 then 1 else 0) := by
          unfold fS_has
          rw [b1, b3]
          by_cases h5 : x2 < 0
          · rw [if_pos h5, if_neg (by rw [lt_iff] at h5; have : (0 : Int32).toInt = 0 := rfl; omega)]
          · rw [if_neg h5]
            have h5' : 0 ≤ x2.toInt := by rw [lt_iff] at h5; have : (0 : Int32).toInt = 0 := rfl; omega
            by_cases h6 : nI q ≤ x2
            · rw [if_pos h6, if_neg (by rw [le_iff, nI_toInt (by omega)] at h6; omega)]
            · rw [if_neg h6, if_pos (by rw [le_iff, nI_toInt (by omega)] at h6; omega)]
        rw [hh, ob_s, ob_s]
        by_cases h5 : 0 ≤ x2.toInt ∧ x2.toInt ≤ (q : Int) - 1
        · rw [ite1 h5, ite1 h5, ite1 h5]
          obtain ⟨y, y1, y2, rfl⟩ := rng (x := x2) (a := 0) (b := q - 1) (by omega)
          rw [nI_toInt (by omega)] at h5
          rw [ck_in (by omega) (by omega), clampI (by omega), b4 y (by omega), show (24 : Int32) = nI 24 from rfl, pk_mul, nI_add, ck_in (by omega) (by omega), bnd_s, clampI (by omega)]
          by_cases h6 : μ 12 (24 * k + y) = -1000000005
          · rw [if_pos h6, ob_s, i0, if_pos h6, ck_in (by omega) (by omega)]; exact ⟨_, rfl, rfl⟩
          · rw [if_neg h6, ob_s, i1, if_neg h6, ck_in (by omega) (by omega)]; exact ⟨_, rfl, rfl⟩
        · rw [ite0 h5, ite0 h5]; exact ⟨_, rfl, rfl⟩
      · rw [if_neg h4, if_neg h4, if_neg h3, ck_in (by omega) (by omega)]; exact ⟨_, rfl, rfl⟩
  · rw [ite0 h1, ite0 h1]; exact ⟨_, rfl, rfl⟩
