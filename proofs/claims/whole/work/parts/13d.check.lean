/-! check -/
def CkF (μ0 μ : MS) : Prop := ∀ c, c ≠ 1 → c ≠ 14 → c ≠ 15 → c ≠ 29 → c ≠ 30 → c ≠ 34 → μ c = μ0 c
theorem CkF_refl (μ : MS) : CkF μ μ := fun _ _ _ _ _ _ _ => rfl
theorem CkF_trans {a b c : MS} (h : CkF a b) (g : CkF b c) : CkF a c := fun d h1 h2 h3 h4 h5 h6 => by rw [g d h1 h2 h3 h4 h5 h6, h d h1 h2 h3 h4 h5 h6]
theorem BX_34 {σ : XS} {b : Nat} {μ : MS} {R : Option (List Int32)} {n x j : Nat} (h : BX σ b μ R n x j NoD) (i k : Nat) (v w : Int32) : BX σ b (up2 (up2 μ 34 i v) 34 k w) R n x j NoD := by
  have e : ∀ c, c ≠ 34 → (up2 (up2 μ 34 i v) 34 k w) c = μ c := fun c hc => by rw [up2_n _ _ _ hc, up2_n _ _ _ hc]
  exact BX_mu h (e 1 (by decide)) (RM_fr (by rw [e 0 (by decide)]) (fun m _ => by rw [e 1 (by decide)]) (e 14 (by decide)) (e 15 (by decide)) h.2.2.2)
/-- one row of the model's -/
theorem B_checkS {σ : XS} {μ : MS} {R : Option (List Int32)} {n y j i : Nat} (h : BX σ 2 μ R n 0 (j + i) NoD) (hi : i < y) (hy : y ≤ 30) (hj : j + i < 9999) :
    ∃ σ1 μ2 v w, fB_joltOnce σ 2 = some σ1 ∧ fB_thickOnTop σ1 2 = some v ∧ xi σ1 (1 + 2) 8 = w ∧ (∀ (km : Int32 → Int32 → MS → Option (Int32 × MS)) (x2 : Int32) (N : Nat), fM_check_L69 km (N + 1) (nI y) x2 (nI (2 * i)) (nI i) μ = fM_check_L69 km N (nI y) x2 (nI (2 * (i + 1))) (nI (i + 1)) μ2) ∧
      BX σ1 2 μ2 R n 0 (j + (i + 1)) NoD ∧ XF σ 2 σ1 ∧ CkF μ μ2 ∧ μ2 34 (2 * i) = v ∧ μ2 34 (2 * i + 1) = w ∧ ∀ m, m < 2 * i → μ2 34 m = μ 34 m := by
  obtain ⟨σ1, μ1, g1, g2, g3, g4, g5⟩ := B_joltOnce h (by omega)
  obtain ⟨v, v1, v2⟩ := B_thickOnTop g3
  have w1 := g3.2.1.1.2.2.1
  refine ⟨σ1, up2 (up2 μ1 34 (2 * i) v) 34 (2 * i + 1) (μ1 1 3), v, μ1 1 3, g1, v1, w1, fun km x2 N => ?_, ?_, g4, fun c c1 c2 c3 c4 c5 c6 => ?_, ?_, ?_, fun m hm => ?_⟩
  · rw [fM_check_L69, if_neg (nI_ge hi (by omega)), h.1.2.2.2.1, show (9999 : Int32) = nI 9999 from rfl, if_neg (nI_ge hj (by omega)), g2, ob_s, v2, ob_s, ck_in (by omega) (by omega), bnd_s, nI_1, ck_in (by omega) (by omega), bnd_s, clampI (by omega), clampI (by omega), bnd_s, bnd_s, nI_1, show (2 : Int32) = nI 2 from rfl, nI_add, up2_n _ _ _ (by decide)]
    rfl
  · rw [show j + (i + 1) = j + i + 1 by omega]; exact BX_34 g3 _ _ _ _
  · rw [up2_n _ _ _ c6, up2_n _ _ _ c6, g5.1 c c1 c2 c3 c4 c5]
  · rw [up2_s, pk_un (by omega), up2_s, pk_us]
  · rw [up2_s, pk_us]
  · rw [up2_s, pk_un (by omega), up2_s, pk_un (by omega), g5.1 34 (by decide) (by decide) (by decide) (by decide) (by decide)]
theorem M_checkEnd {σ : XS} {μ : MS} {R : Option (List Int32)} {n y j i : Nat} (h : BX σ 2 μ R n 0 (j + i) NoD) (hy : y ≤ 30) (hi : i ≤ y) (hj : j + i ≤ 9999) (hD : i = y ∨ j + i = 9999) (km : Int32 → Int32 → MS → Option (Int32 × MS)) (x2 : Int32) (N : Nat) : fM_check_L69 km (N + 1) (nI y) x2 (nI (2 * i)) (nI i) μ = km x2 (nI (2 * i)) μ := by
  rw [fM_check_L69]
  by_cases e : y ≤ i
  · rw [if_pos (nI_le e (by omega))]
  · rw [if_neg (nI_ge (by omega) (by omega)), h.1.2.2.2.1, show (9999 : Int32) = nI 9999 from rfl, if_pos (nI_le (by omega) (by omega))]
theorem M_checkRun {R : Option (List Int32)} {n y j D : Nat} (hy : y ≤ 30) (hDy : D ≤ y) (hj : j + D ≤ 9999) (hD : D = y ∨ j + D = 9999) : ∀ (d i : Nat) (σ : XS) (μ : MS), D - i = d → i ≤ D → BX σ 2 μ R n 0 (j + i) NoD →
    ∃ μ', (∀ (km : Int32 → Int32 → MS → Option (Int32 × MS)) (x2 : Int32) (N : Nat), d < N → fM_check_L69 km N (nI y) x2 (nI (2 * i)) (nI i) μ = km x2 (nI (2 * D)) μ') ∧ CkF μ μ' ∧ ∀ m, m < 2 * i → μ' 34 m = μ 34 m := by
  intro d
  induction d with
  | zero =>
    intro i σ μ hd hi hB
    have e : i = D := by omega
    subst e
    refine ⟨μ, fun km x2 N hN => ?_, CkF_refl μ, fun _ _ => rfl⟩
    obtain ⟨N, rfl⟩ : ∃ m, N = m + 1 := ⟨N - 1, by omega⟩
    exact M_checkEnd hB hy hDy hj hD km x2 N
  | succ d ih =>
    intro i σ μ hd hi hB
    obtain ⟨σ1, μ2, v, w, a1, a2, a3, a4, a5, a6, a7, a8, a9, a10⟩ := B_checkS hB (y := y) (by omega) hy (by omega)
    obtain ⟨μ', b1, b2, b3⟩ := ih (i + 1) σ1 μ2 (by omega) (by omega) a5
    refine ⟨μ', fun km x2 N hN => ?_, CkF_trans a7 b2, fun m hm => by rw [b3 m (by omega), a10 m hm]⟩
    obtain ⟨N, rfl⟩ : ∃ m, N = m + 1 := ⟨N - 1, by omega⟩
    rw [a4]
    exact b1 km x2 N (by omega)
/-- the first row that differs -/
def Fst (f g : Nat → Int32) (w u k : Nat) : Prop := k ≤ w ∧ k ≤ u ∧ (∀ m, m < k → f m = g m) ∧ (k = w ∨ k = u ∨ ¬ f k = g k)
theorem B_checkL {σ0 : XS} {R : Option (List Int32)} {n y j D w : Nat} (hy : y ≤ 30) (hDy : D ≤ y) (hj : j + D ≤ 9999) (hD : D = y ∨ j + D = 9999) (hw : w ≤ 60) : ∀ (d i N1 : Nat) (σ : XS) (μ : MS), D - i = d → i ≤ D → d < N1 → BX σ 2 μ R n 0 (j + i) NoD → XGk σ0 σ → 2 * i ≤ w → (∀ m, m < 2 * i → xi σ0 56 m = μ 34 m) →
    ∃ r σ' μ' k, fX_check_L66 (fun (x2 : Int32) (x3 : Int32) (σ : XS) => if x2 ≤ x3 then (
          some ((0 : Int32), σ))
        else (
          some (((1 : Int32) + x3), σ))) N1 (nI w) (nI (2 * D)) (nI (2 * i)) σ = some (r, σ') ∧ (∀ (km : Int32 → Int32 → MS → Option (Int32 × MS)) (x2 : Int32) (N : Nat), d < N → fM_check_L69 km N (nI y) x2 (nI (2 * i)) (nI i) μ = km x2 (nI (2 * D)) μ') ∧ XGk σ0 σ' ∧ CkF μ μ' ∧ Fst (xi σ0 56) (μ' 34) w (2 * D) k ∧ r = if k = w ∧ k = 2 * D then 0 else nI (1 + k) := by
  intro d
  induction d with
  | zero =>
    intro i N1 σ μ hd hi h1 hB hX hiw hh
    obtain ⟨N1, rfl⟩ : ∃ m, N1 = m + 1 := ⟨N1 - 1, by omega⟩
    have e : i = D := by omega
    subst e
    rw [fX_check_L66, if_pos (nI_le (by omega) (by omega))]
    have hM : ∀ (km : Int32 → Int32 → MS → Option (Int32 × MS)) (x2 : Int32) (N : Nat), 0 < N → fM_check_L69 km N (nI y) x2 (nI (2 * i)) (nI i) μ = km x2 (nI (2 * i)) μ := fun km x2 N hN => by
      obtain ⟨N, rfl⟩ : ∃ m, N = m + 1 := ⟨N - 1, by omega⟩
      exact M_checkEnd hB hy hDy hj hD km x2 N
    by_cases e : w ≤ 2 * i
    · exact ⟨0, σ, μ, 2 * i, by rw [if_pos (nI_le e (by omega))], hM, hX, CkF_refl μ, ⟨hiw, by omega, hh, Or.inr (Or.inl rfl)⟩, by rw [if_pos (by omega)]⟩
    · exact ⟨_, σ, μ, 2 * i, by rw [if_neg (nI_ge (by omega) (by omega))], hM, hX, CkF_refl μ, ⟨hiw, by omega, hh, Or.inr (Or.inl rfl)⟩, by rw [if_neg (by omega), show (1 : Int32) = nI 1 from rfl, nI_add]⟩
  | succ d ih =>
    intro i N1 σ μ hd hi h1 hB hX hiw hh
    obtain ⟨N1, rfl⟩ : ∃ m, N1 = m + 1 := ⟨N1 - 1, by omega⟩
    obtain ⟨σ1, μ2, v, z, a1, a2, a3, a4, a5, a6, a7, a8, a9, a10⟩ := B_checkS hB (y := y) (by omega) hy (by omega)
    obtain ⟨μ', b1, b2, b3⟩ := M_checkRun hy hDy hj hD d (i + 1) σ1 μ2 (by omega) (by omega) a5
    have hX1 := XGk_xf2 hX a6
    have hM : ∀ (km : Int32 → Int32 → MS → Option (Int32 × MS)) (x2 : Int32) (N : Nat), d + 1 < N → fM_check_L69 km N (nI y) x2 (nI (2 * i)) (nI i) μ = km x2 (nI (2 * D)) μ' := fun km x2 N hN => by
      obtain ⟨N, rfl⟩ : ∃ m, N = m + 1 := ⟨N - 1, by omega⟩
      rw [a4]
      exact b1 km x2 N (by omega)
    have hlt : ∀ m, m < 2 * i → xi σ0 56 m = μ' 34 m := fun m hm => by rw [b3 m (by omega), a10 m hm]; exact hh m hm
    have q0 : μ' 34 (2 * i) = v := by rw [b3 _ (by omega)]; exact a8
    have q1 : μ' 34 (2 * i + 1) = z := by rw [b3 _ (by omega)]; exact a9
    have e56 : xi σ1 56 = xi σ0 56 := hX1.1 56 (by decide) (by decide) (by decide)
    have F := CkF_trans a7 b2
    rw [fX_check_L66, if_neg (nI_ge (by omega) (by omega)), a1, ob_s]
    by_cases c1 : w ≤ 2 * i
    · rw [if_pos (nI_le c1 (by omega))]
      exact ⟨_, σ1, μ', 2 * i, rfl, hM, hX1, F, ⟨hiw, by omega, hlt, Or.inl (by omega)⟩, by rw [if_neg (by omega), show (1 : Int32) = nI 1 from rfl, nI_add]⟩
    · rw [if_neg (nI_ge (by omega) (by omega)), ck_in (by omega) (by omega), a2, ob_s, clampI (by omega), e56, a3]
      by_cases c2 : xi σ0 56 (2 * i) = v
      · rw [if_pos c2, nI_1]
        have hlt2 : ∀ m, m < 2 * i + 1 → xi σ0 56 m = μ' 34 m := fun m hm => by
          by_cases e : m = 2 * i
          · rw [e, q0]; exact c2
          · exact hlt m (by omega)
        by_cases c3 : w ≤ 2 * i + 1
        · rw [if_pos (nI_le c3 (by omega))]
          exact ⟨_, σ1, μ', 2 * i + 1, rfl, hM, hX1, F, ⟨by omega, by omega, hlt2, Or.inl (by omega)⟩, by rw [if_neg (by omega), show (2 : Int32) = nI 2 from rfl, nI_add]; congr 1; omega⟩
        · rw [if_neg (nI_ge (by omega) (by omega)), ck_in (by omega) (by omega), clampI (by omega)]
          by_cases c4 : xi σ0 56 (2 * i + 1) = z
          · rw [if_pos c4, bnd_s, show (2 : Int32) = nI 2 from rfl, nI_add]
            obtain ⟨r, σ', μ'', k, d1, d2, d3, d4, d5, d6⟩ := ih (i + 1) N1 σ1 μ2 (by omega) (by omega) (by omega) a5 hX1 (by omega) (fun m hm => by
              by_cases e1 : m = 2 * i + 1
              · rw [e1, a9]; exact c4
              · by_cases e2 : m = 2 * i
                · rw [e2, a8]; exact c2
                · rw [a10 m (by omega)]; exact hh m (by omega))
            refine ⟨r, σ', μ'', k, d1, fun km x2 N hN => ?_, d3, CkF_trans a7 d4, d5, d6⟩
            obtain ⟨N, rfl⟩ : ∃ m, N = m + 1 := ⟨N - 1, by omega⟩
            rw [a4]
            exact d2 km x2 N (by omega)
          · rw [if_neg c4]
            exact ⟨_, σ1, μ', 2 * i + 1, rfl, hM, hX1, F, ⟨by omega, by omega, hlt2, Or.inr (Or.inr (by rw [q1]; exact c4))⟩, by rw [if_neg (by omega), show (2 : Int32) = nI 2 from rfl, nI_add]; congr 1; omega⟩
      · rw [if_neg c2]
        exact ⟨_, σ1, μ', 2 * i, rfl, hM, hX1, F, ⟨hiw, by omega, hlt, Or.inr (Or.inr (by rw [q0]; exact c2))⟩, by rw [if_neg (by omega), show (1 : Int32) = nI 1 from rfl, nI_add]⟩
theorem M_cmpL {μ : MS} {w u k : Nat} (hw : w ≤ 60) (hu : u ≤ 60) (h : Fst (μ 32) (μ 34) w u k) (km : Int32 → Int32 → Int32 → MS → Option (Int32 × MS)) : ∀ (d i N : Nat), k - i = d → i ≤ k → d < N → fM_check_L143 km N (nI w) (nI u) (nI i) μ = km (nI w) (nI u) (nI k) μ := by
  obtain ⟨h1, h2, h3, h4⟩ := h
  intro d
  induction d with
  | zero =>
    intro i N hd hi hN
    obtain ⟨N, rfl⟩ : ∃ m, N = m + 1 := ⟨N - 1, by omega⟩
    have e : i = k := by omega
    subst e
    rw [fM_check_L143]
    by_cases c1 : w ≤ i
    · rw [if_pos (nI_le c1 (by omega))]
    · rw [if_neg (nI_ge (by omega) (by omega))]
      by_cases c2 : u ≤ i
      · rw [if_pos (nI_le c2 (by omega))]
      · rw [if_neg (nI_ge (by omega) (by omega)), ck_in (by omega) (by omega), ck_in (by omega) (by omega), clampI (by omega), if_neg]
        rcases h4 with h4 | h4 | h4
        · omega
        · omega
        · exact h4
  | succ d ih =>
    intro i N hd hi hN
    obtain ⟨N, rfl⟩ : ∃ m, N = m + 1 := ⟨N - 1, by omega⟩
    rw [fM_check_L143, if_neg (nI_ge (by omega) (by omega)), if_neg (nI_ge (by omega) (by omega)), ck_in (by omega) (by omega), ck_in (by omega) (by omega), clampI (by omega), if_pos (h3 i (by omega)), bnd_s, nI_1]
    exact ih (i + 1) N (by omega) (by omega) (by omega)
theorem L_check : Ls_check Re := by
  intro σ0 μ0 x1 hRe0
  obtain ⟨w, w1, w2, w3, w4⟩ := (by obtain ⟨T, n, j, hT, hj, hB, hI, hSh, hSl, hTp, hWt⟩ := hRe0; exact hWt : RWt σ0 μ0)
  unfold fX_check fM_check
  rw [bnd_s, bnd_s, bnd_s, bnd_s, w2, w3]
  have hRe : Re (xu σ0 0 13 0) (up2 μ0 0 32 0) := by
    obtain ⟨T, n, j, hT, hj, hB, hI, hSh, hSl, hTp, hWt⟩ := hRe0
    have qc : ∀ c, c ≠ 0 → xi (xu σ0 0 13 0) c = xi σ0 c := fun c h1 => xi_un _ _ _ h1
    have q0 : ∀ f, f ≠ 13 → xi (xu σ0 0 13 0) 0 f = xi σ0 0 f := fun f hf => by rw [xi_u, pk_un hf]
    have p0 : ∀ f, f ≠ 32 → (up2 μ0 0 32 0) 0 f = μ0 0 f := fun f hf => by rw [up2_s, pk_un hf]
    have pc : ∀ c, c ≠ 0 → (up2 μ0 0 32 0) c = μ0 c := fun c h1 => up2_n _ _ _ h1
    refine Re_side hT hj hB hI ⟨q0 4 (by decide), q0 6 (by decide), q0 7 (by decide)⟩ (qc 1 (by decide)) (qc 2 (by decide)) (fun c h1 h2 => qc c (by omega)) rfl ⟨p0 12 (by decide), p0 3 (by decide)⟩ (pc 1 (by decide)) (pc 2 (by decide)) (pc 14 (by decide)) (pc 15 (by decide)) ⟨?_, ?_, ?_, ?_⟩
    · intro k hk
      rw [qc (10 + k) (by omega), qc (60 + k) (by omega), pc 5 (by decide), pc 6 (by decide), pc 7 (by decide)]
      exact hSh k hk
    · intro k hk
      rw [qc (20 + k) (by omega), qc (10 + (4 + k)) (by omega), qc (60 + (4 + k)) (by omega), pc 8 (by decide), pc 9 (by decide), pc 10 (by decide), pc 11 (by decide), pc 12 (by decide)]
      exact hSl k hk
    · unfold RTp
      rw [qc 5 (by decide), qc 54 (by decide), p0 17 (by decide), pc 17 (by decide)]
      exact hTp
    · exact ⟨0, by omega, by rw [xi_u, pk_us]; rfl, by rw [up2_s, pk_us]; rfl, fun i hi => absurd hi (by omega)⟩
  have e56 : xi (xu σ0 0 13 0) 56 = xi σ0 56 := xi_un _ _ _ (by decide)
  have e32 : (up2 μ0 0 32 0) 32 = μ0 32 := up2_n _ _ _ (by decide)
  rw [← e56, ← e32] at w4
  generalize xu σ0 0 13 0 = σ at *
  generalize up2 μ0 0 32 0 = μ at *
  obtain ⟨T, n, j, hT, hj, hB, ⟨i0', hI⟩, hSh, hSl, hTp, hWt⟩ := id hRe
  rw [X_in σ x1 (a := 1) (b := 30) rfl rfl, ob_s, M_in μ x1 (a := 1) (b := 30) rfl rfl, ob_s]
  by_cases h1 : 1 ≤ x1.toInt ∧ x1.toInt ≤ 30
  · obtain ⟨y, y1, y2, rfl⟩ := rng (a := 1) (b := 30) h1
    rw [ite1 h1, ite1 h1, i0']
    rcases hI with hI | ⟨hI, q, n', j', q1, q2, q3, q4, q5, q6, q7⟩
    · rw [if_pos hI, if_pos hI]; exact ⟨_, σ, μ, rfl, rfl, hRe⟩
    · have hn := hB.1.1
      have hn' := q5.1
      obtain ⟨μ1, a1, a2, a3⟩ := M_setAside μ (a := 1) (c := 3) (by decide) (by decide) (by decide) (by decide) (by decide)
      obtain ⟨μ2, b1, b2, b3⟩ := M_setAside μ1 (a := 2) (c := 1) (by decide) (by decide) (by decide) (by decide) (by decide)
      have s2 : ∀ m, m < 2876 → μ2 1 m = μ 2 m := fun m hm => by rw [b3 m hm, a2 2 (by decide)]
      obtain ⟨μ3, c1, c2, c3, c4, _⟩ := M_forgets (MT_eq s2 q2)
      have s3 : ∀ m, m < 2876 → μ3 1 m = μ 2 m := fun m hm => by rw [c2 1 (by decide) (by decide), s2 m hm]
      have hB1 : BX σ 1 μ3 (lastT (T.take q) 0) n' 0 j' NoD := ⟨WB_eq (fun m hm => s3 m (by omega)) q5, XB_eq hn' (fun m hm => s3 m (by omega)) q6, q7, c4⟩
      obtain ⟨σ1, d1, d2, d3, d4, d5⟩ := B_becomeAs (b := 2) (p := 1) (by decide) (by decide) (by decide) hB1
      have ej : xi σ1 (1 + 1) 9 = nI j' := by rw [d3 (1 + 1) (by omega) (by omega), hB1.2.1.1.2.2.2.1, hB1.1.2.2.2.1]
      have hX1 : XGk σ σ1 := XGk_as (Or.inl rfl) (XGk_refl σ) d3 d4 d5
      obtain ⟨D, hD⟩ : ∃ D, D = min (9999 - j') y := ⟨_, rfl⟩
      obtain ⟨r, σ', μ4, k, e1, e2, e3, e4, e5, e6⟩ := B_checkL (σ0 := σ) (R := lastT (T.take q) 0) (n := n') (y := y) (j := j') (D := D) (w := w) (by omega) (by omega) (by omega) (by omega) w1 D 0 10000 σ1 μ3 (by omega) (by omega) (by omega) d2 hX1 (by omega) (fun m hm => absurd hm (by omega))
      have f3 : ∀ m, m < 2876 → μ4 3 m = μ 1 m := fun m hm => by rw [e4 3 (by decide) (by decide) (by decide) (by decide) (by decide) (by decide), c2 3 (by decide) (by decide), b2 3 (by decide), a3 m hm]
      obtain ⟨μ5, g1, g2, g3⟩ := M_setAside μ4 (a := 3) (c := 1) (by decide) (by decide) (by decide) (by decide) (by decide)
      have s5 : ∀ m, m < 2876 → μ5 1 m = μ 1 m := fun m hm => by rw [g3 m hm, f3 m hm]
      obtain ⟨μ6, k1, k2, k3, k4, k5⟩ := M_forgets (MT_eq s5 hT.1)
      have s6 : ∀ m, m < 2876 → μ6 1 m = μ 1 m := fun m hm => by rw [k2 1 (by decide) (by decide), s5 m hm]
      have mc : ∀ c, c ≠ 0 → c ≠ 1 → c ≠ 3 → c ≠ 14 → c ≠ 15 → c ≠ 29 → c ≠ 30 → c ≠ 34 → μ6 c = μ c := fun c n0 n1 n3 n14 n15 n29 n30 n34 => by
        rw [k2 c n0 n14, g2 c n1, e4 c n1 n14 n15 n29 n30 n34, c2 c n0 n14, b2 c n1, a2 c n3]
      have m0 : ∀ f, f ≠ 12 → μ6 0 f = μ 0 f := fun f hf => by
        rw [k3 f hf, g2 0 (by decide), e4 0 (by decide) (by decide) (by decide) (by decide) (by decide) (by decide), c3 f hf, b2 0 (by decide), a2 0 (by decide)]
      have hF : Fst (μ6 32) (μ6 34) w (2 * D) k := by
        obtain ⟨z1, z2, z3, z4⟩ := e5
        have e32 : μ6 32 = μ 32 := mc 32 (by decide) (by decide) (by decide) (by decide) (by decide) (by decide) (by decide) (by decide)
        have e34 : μ6 34 = μ4 34 := by rw [k2 34 (by decide) (by decide), g2 34 (by decide)]
        rw [e32, e34]
        refine ⟨z1, z2, fun m hm => by rw [← w4 m (by omega)]; exact z3 m hm, ?_⟩
        rcases z4 with z4 | z4 | z4
        · exact Or.inl z4
        · exact Or.inr (Or.inl z4)
        · by_cases ew : k = w
          · exact Or.inl ew
          · exact Or.inr (Or.inr (by rw [← w4 k (by omega)]; exact z4))
      have e2' : fM_check_L69 (fun (x2 : Int32) (x3 : Int32) (μ : MS) => fM_check_J124 x2 x3 μ) 10000 (nI y) (nI w) (0 : Int32) (0 : Int32) μ3 = fM_check_J124 (nI w) (nI (2 * D)) μ4 := e2 (fun (x2 : Int32) (x3 : Int32) (μ : MS) => fM_check_J124 x2 x3 μ) (nI w) 10000 (by omega)
      have hfin : fM_check_J124 (nI w) (nI (2 * D)) μ4 = some (r, μ6) := by
        unfold fM_check_J124
        rw [g1, ob_s, k1, ob_s, show (0 : Int32) = nI 0 from rfl, M_cmpL w1 (by omega) hF _ k 0 10000 (by omega) (by omega) (by have := hF.1; omega)]
        unfold fM_check_J178
        have kw := hF.1
        have ku := hF.2.1
        rw [e6, show (1 : Int32) = nI 1 from rfl, nI_add]
        by_cases c1 : k = w
        · rw [if_pos (by rw [c1])]
          by_cases c2 : k = 2 * D
          · rw [if_pos (by rw [c2]), if_pos ⟨c1, c2⟩]
          · rw [if_neg (fun e => c2 ((nI_eq (by omega) (by omega)).mp e)), if_neg (fun e => c2 e.2)]
        · rw [if_neg (fun e => c1 ((nI_eq (by omega) (by omega)).mp e)), if_neg (fun e => c1 e.1)]
      rw [if_neg (by rw [hI]; decide), if_neg (by rw [hI]; decide), a1, ob_s, b1, ob_s, c1, ob_s, d1, ob_s, bnd_s, ej, show (9999 : Int32) - nI j' = nI (9999 - j') from pk_sub (a := 9999) (by omega), minI (by omega) (by omega), show (2 : Int32) = nI 2 from rfl, pk_mul, ← hD, e2', hfin]
      have z0 : xi σ' 0 = xi σ 0 := e3.1 0 (by omega) (by omega) (by omega)
      have hB' : BX σ' 0 μ6 (lastT T 0) n 0 j NoD := ⟨WB_eq (fun m hm => s6 m (by omega)) hB.1, XB_eq hn (fun m hm => s6 m (by omega)) (XB_fr (e3.1 _ (by omega) (by omega) (by omega)) (fun w hw => e3.1 _ (by omega) (by omega) (by omega)) hB.2.1), RX_fr (by rw [e3.2.1]) e3.2.2.2 hB.2.2.1, k4⟩
      refine ⟨r, σ', μ6, e1, rfl, T, n, j, ⟨MT_eq s6 hT.1, by rw [z0]; exact hT.2.1, XT_kw e3.2.2.2 hB.2.2.1.1 hT.2.2⟩, ⟨hj.1, k5⟩, hB', ?_, ?_, ?_, ?_, ?_⟩
      · exact RIm_fr z0 (e3.1 2 (by omega) (by omega) (by omega)) (fun w hw => e3.1 _ (by omega) (by omega) (by omega)) e3.2.2.1 e3.2.2.2 (m0 3 (by decide)) (mc 2 (by decide) (by decide) (by decide) (by decide) (by decide) (by decide) (by decide) (by decide)) ⟨i0', Or.inr ⟨hI, q, n', j', q1, q2, q3, q4, q5, q6, q7⟩⟩
      · intro k hk
        rw [e3.1 (10 + k) (by omega) (by omega) (by omega), e3.1 (60 + k) (by omega) (by omega) (by omega), mc 5 (by decide) (by decide) (by decide) (by decide) (by decide) (by decide) (by decide) (by decide), mc 6 (by decide) (by decide) (by decide) (by decide) (by decide) (by decide) (by decide) (by decide), mc 7 (by decide) (by decide) (by decide) (by decide) (by decide) (by decide) (by decide) (by decide)]
        exact hSh k hk
      · intro k hk
        rw [e3.1 (20 + k) (by omega) (by omega) (by omega), e3.1 (10 + (4 + k)) (by omega) (by omega) (by omega), e3.1 (60 + (4 + k)) (by omega) (by omega) (by omega), mc 8 (by decide) (by decide) (by decide) (by decide) (by decide) (by decide) (by decide) (by decide), mc 9 (by decide) (by decide) (by decide) (by decide) (by decide) (by decide) (by decide) (by decide), mc 10 (by decide) (by decide) (by decide) (by decide) (by decide) (by decide) (by decide) (by decide), mc 11 (by decide) (by decide) (by decide) (by decide) (by decide) (by decide) (by decide) (by decide), mc 12 (by decide) (by decide) (by decide) (by decide) (by decide) (by decide) (by decide) (by decide)]
        exact hSl k hk
      · unfold RTp
        rw [e3.1 5 (by omega) (by omega) (by omega), e3.1 54 (by omega) (by omega) (by omega), m0 17 (by decide), mc 17 (by decide) (by decide) (by decide) (by decide) (by decide) (by decide) (by decide) (by decide)]
        exact hTp
      · unfold RWt
        rw [z0, e3.1 56 (by omega) (by omega) (by omega), m0 32 (by decide), mc 32 (by decide) (by decide) (by decide) (by decide) (by decide) (by decide) (by decide) (by decide)]
        exact hWt
  · rw [ite0 h1, ite0 h1]; exact ⟨_, σ, μ, rfl, rfl, hRe⟩
