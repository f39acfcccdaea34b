/-! sheets -/
theorem M_sheetL (km : Int32 → MS → Option (Int32 × MS)) {k : Nat} (hk : k < 4) : ∀ (d i N : Nat) (μ : MS), 24 - i = d → i ≤ 24 → d < N → ∃ μ', fM_sheet_L69 km N (nI k) (nI i) μ = km (nI k) μ' ∧ (∀ c, c ≠ 7 → μ' c = μ c) ∧ ∀ m, μ' 7 m = if 24 * k + i ≤ m ∧ m < 24 * k + 24 then 0 else μ 7 m := by
  intro d
  induction d with
  | zero =>
    intro i N μ hd hi hN
    obtain ⟨N, rfl⟩ : ∃ m, N = m + 1 := ⟨N - 1, by omega⟩
    rw [fM_sheet_L69, show (24 : Int32) = nI 24 from rfl, if_pos (nI_le (by omega) (by omega))]
    exact ⟨μ, rfl, fun _ _ => rfl, fun m => by rw [if_neg (by omega)]⟩
  | succ d ih =>
    intro i N μ hd hi hN
    obtain ⟨N, rfl⟩ : ∃ m, N = m + 1 := ⟨N - 1, by omega⟩
    rw [fM_sheet_L69, show (24 : Int32) = nI 24 from rfl, if_neg (nI_ge (by omega) (by omega)), pk_mul, nI_add, ck_in (by omega) (by omega), bnd_s, clampI (by omega), bnd_s, nI_1]
    obtain ⟨μ', a1, a2, a3⟩ := ih (i + 1) N (up2 μ 7 (24 * k + i) 0) (by omega) (by omega) (by omega)
    refine ⟨μ', a1, fun c hc => by rw [a2 c hc, up2_n _ _ _ hc], fun m => ?_⟩
    rw [a3, up2_s]
    unfold upd
    by_cases e1 : 24 * k + (i + 1) ≤ m ∧ m < 24 * k + 24
    · rw [if_pos e1, if_pos (by omega)]
    · rw [if_neg e1]
      by_cases e2 : m = 24 * k + i
      · rw [if_pos e2, if_pos (by omega)]
      · rw [if_neg e2, if_neg (by omega)]
theorem X_fillL (kx : XS → Option XS) (v : Int32) {p : Nat} (hp : xLen p = 24) : ∀ (d i N : Nat) (σ : XS), 24 - i = d → i ≤ 24 → d < N → ∃ σ', fJ_fill_53178_L5 p kx N v (nI i) (nI 24) σ = kx σ' ∧ (∀ c, c ≠ p → xi σ' c = xi σ c) ∧ σ'.2 = σ.2 ∧ ∀ m, xi σ' p m = if i ≤ m ∧ m < 24 then v else xi σ p m := by
  intro d
  induction d with
  | zero =>
    intro i N σ hd hi hN
    obtain ⟨N, rfl⟩ : ∃ m, N = m + 1 := ⟨N - 1, by omega⟩
    rw [fJ_fill_53178_L5, if_pos (nI_le (by omega) (by omega))]
    exact ⟨σ, rfl, fun _ _ => rfl, rfl, fun m => by rw [if_neg (by omega)]⟩
  | succ d ih =>
    intro i N σ hd hi hN
    obtain ⟨N, rfl⟩ : ∃ m, N = m + 1 := ⟨N - 1, by omega⟩
    rw [fJ_fill_53178_L5, if_neg (nI_ge (by omega) (by omega)), hp, ck_in (by omega) (by omega), bnd_s, clampI (by omega), bnd_s, nI_1]
    obtain ⟨σ', a1, a2, a4, a3⟩ := ih (i + 1) N (xu σ p i v) (by omega) (by omega) (by omega)
    refine ⟨σ', a1, fun c hc => by rw [a2 c hc, xi_un _ _ _ hc], a4, fun m => ?_⟩
    rw [a3, xi_u]
    unfold upd
    by_cases e1 : i + 1 ≤ m ∧ m < 24
    · rw [if_pos e1, if_pos (by omega)]
    · rw [if_neg e1]
      by_cases e2 : m = i
      · rw [if_pos e2, if_pos (by omega)]
      · rw [if_neg e2, if_neg (by omega)]
theorem X_sbecome (σ : XS) {k : Nat} (hk : k < 9) (x y : Int32) : ∃ σ', fS_become σ k x y = some σ' ∧ (∀ c, c ≠ 10 + k → c ≠ 60 + k → xi σ' c = xi σ c) ∧ σ'.2 = σ.2 ∧ xi σ' (10 + k) 0 = x ∧ xi σ' (10 + k) 1 = y ∧ ∀ m, m < 24 → xi σ' (60 + k) m = 0 := by
  unfold fS_become fJ_fill_53178
  rw [bnd_s, bnd_s, bnd_s, xLen_s hk]
  obtain ⟨σ', a1, a2, a3, a4⟩ := X_fillL (fun (σ : XS) => some σ) 0 (p := 60 + k) (xLen_s hk) 24 0 10000 (xu (xu σ (10 + k) 0 x) (10 + k) 1 y) (by omega) (by omega) (by omega)
  refine ⟨σ', ?_, fun c h1 h2 => by rw [a2 c h2, xi_un _ _ _ h1, xi_un _ _ _ h1], a3, ?_, ?_, fun m hm => by rw [a4, if_pos (by omega)]⟩
  · rw [show fJ_fill_53178_L5 (60 + k) _ 10000 (0 : Int32) (0 : Int32) (Int32.ofNat 24) _ = _ from a1, ob_s]
  · rw [a2 _ (by omega), xi_u, pk_un (by omega), xi_u, pk_us]
  · rw [a2 _ (by omega), xi_u, pk_us]
/-- a sheet that is new on both sides -/
theorem Re_sheet {σ σ' : XS} {μ μ' : MS} (hRe : Re σ μ) {k : Nat} (hk : k < 4) {x y : Int32} (hx : x = -1 ∨ x = 0 ∨ x = 1) {q : Nat} (hq : q ≤ 24) (hy : y = nI q)
    (a1 : ∀ c, c ≠ 10 + k → c ≠ 60 + k → xi σ' c = xi σ c) (a2 : σ'.2 = σ.2) (a3 : xi σ' (10 + k) 0 = x) (a4 : xi σ' (10 + k) 1 = y) (a5 : ∀ m, m < 24 → xi σ' (60 + k) m = 0)
    (b1 : ∀ c, c ≠ 5 → c ≠ 6 → c ≠ 7 → μ' c = μ c) (b2 : μ' 5 = upd (μ 5) k x) (b3 : μ' 6 = upd (μ 6) k y) (b4 : ∀ m, μ' 7 m = if 24 * k ≤ m ∧ m < 24 * k + 24 then 0 else μ 7 m) : Re σ' μ' := by
  obtain ⟨T, n, j, hT, hj, hB, hI, hSh, hSl, hTp, hWt⟩ := hRe
  refine Re_side hT hj hB hI ⟨by rw [a1 0 (by omega) (by omega)], by rw [a1 0 (by omega) (by omega)], by rw [a1 0 (by omega) (by omega)]⟩ (a1 1 (by omega) (by omega)) (a1 2 (by omega) (by omega)) (fun c h1 h2 => a1 c (by omega) (by omega)) a2 ⟨by rw [b1 0 (by decide) (by decide) (by decide)], by rw [b1 0 (by decide) (by decide) (by decide)]⟩ (b1 1 (by decide) (by decide) (by decide)) (b1 2 (by decide) (by decide) (by decide)) (b1 14 (by decide) (by decide) (by decide)) (b1 15 (by decide) (by decide) (by decide)) ⟨?_, ?_, ?_, ?_⟩
  · intro w hw
    by_cases e : w = k
    · subst e
      rw [a3, a4, b2, b3, pk_us, pk_us]
      refine ⟨rfl, rfl, fun i hi => ?_, hx, q, hq, hy⟩
      rw [a5 i hi, b4, if_pos (by omega)]
      exact ⟨rfl, Or.inr (by decide)⟩
    · rw [a1 (10 + w) (by omega) (by omega), a1 (60 + w) (by omega) (by omega), b2, b3, pk_un e, pk_un e]
      obtain ⟨c1, c2, c3, c4, c5⟩ := hSh w hw
      refine ⟨c1, c2, fun i hi => ?_, c4, c5⟩
      rw [b4, if_neg (by omega)]
      exact c3 i hi
  · intro w hw
    rw [a1 (20 + w) (by omega) (by omega), a1 (10 + (4 + w)) (by omega) (by omega), a1 (60 + (4 + w)) (by omega) (by omega), b1 8 (by decide) (by decide) (by decide), b1 9 (by decide) (by decide) (by decide), b1 10 (by decide) (by decide) (by decide), b1 11 (by decide) (by decide) (by decide), b1 12 (by decide) (by decide) (by decide)]
    exact hSl w hw
  · unfold RTp
    rw [a1 5 (by omega) (by omega), a1 54 (by omega) (by omega), b1 0 (by decide) (by decide) (by decide), b1 17 (by decide) (by decide) (by decide)]
    exact hTp
  · unfold RWt
    rw [a1 0 (by omega) (by omega), a1 56 (by omega) (by omega), b1 0 (by decide) (by decide) (by decide), b1 32 (by decide) (by decide) (by decide)]
    exact hWt
theorem M_sheetJ (μ : MS) {k : Nat} (hk : k < 4) (v : Int32) : ∃ μ', fM_sheet_J65 (nI k) (nI k) v μ = some (v, μ') ∧ (∀ c, c ≠ 6 → c ≠ 7 → μ' c = μ c) ∧ μ' 6 = upd (μ 6) k v ∧ ∀ m, μ' 7 m = if 24 * k ≤ m ∧ m < 24 * k + 24 then 0 else μ 7 m := by
  unfold fM_sheet_J65
  rw [ck_in hk (by omega), bnd_s, clampI (by omega)]
  obtain ⟨μ', a1, a2, a3⟩ := M_sheetL (fun (x1 : Int32) (μ : MS) => ck x1 (4) <| some ((μ 6 (x1).toNatClampNeg), μ)) hk 24 0 10000 (up2 μ 6 k v) (by omega) (by omega) (by omega)
  refine ⟨μ', ?_, fun c h1 h2 => by rw [a2 c h2, up2_n _ _ _ h1], by rw [a2 6 (by decide), up2_s], fun m => by rw [a3, up2_n _ _ _ (by decide)]; rfl⟩
  rw [show fM_sheet_L69 _ 10000 (nI k) (0 : Int32) _ = _ from a1, ck_in hk (by omega), clampI (by omega), a2 6 (by decide), up2_s, pk_us]
theorem L_sheet : Ls_sheet Re := by
  intro σ μ x1 x2 x3 hRe
  unfold fX_sheet fM_sheet
  rw [X_sheetQ, M_sheetQ, ob_s, ob_s]
  by_cases h1 : 0 ≤ x1.toInt ∧ x1.toInt ≤ 3
  · obtain ⟨k, k1, k2, rfl⟩ := rng (a := 0) (b := 3) h1
    rw [ite1 h1, ite1 h1, X_in σ x2 (a := -1) (b := 1) rfl rfl, ob_s, M_in μ x2 (a := -1) (b := 1) rfl rfl, ob_s]
    by_cases h2 : -1 ≤ x2.toInt ∧ x2.toInt ≤ 1
    · rw [ite1 h2, ite1 h2]
      have z1 : (-1 : Int32).toInt = -1 := rfl
      have z0 : (0 : Int32).toInt = 0 := rfl
      have z2 : (24 : Int32).toInt = 24 := rfl
      have y1 : (1 : Int32).toInt = 1 := rfl
      by_cases h3 : x2 = -1
      · subst h3
        obtain ⟨σ', a1, a2, a3, a4, a5, a6⟩ := X_sbecome σ (k := k) (by omega) (-1) 0
        obtain ⟨μ', b1, b2, b3, b4⟩ := M_sheetJ (up2 μ 5 k (-1)) (k := k) (by omega) 0
        rw [if_pos rfl, ck_in (by omega) (by omega), clampI (by omega), a1, ob_s, if_pos (show (-1 : Int32) < 0 by decide)]
        unfold fM_sheet_J32 fM_sheet_J44
        rw [if_pos (show (-1 : Int32) < 0 by decide), ck_in (by omega) (by omega), bnd_s, clampI (by omega), if_neg (show ¬ (0 : Int32) ≤ -1 by decide), b1]
        exact ⟨_, σ', μ', rfl, rfl, Re_sheet hRe (k := k) (by omega) (x := -1) (y := 0) (Or.inl rfl) (q := 0) (by omega) rfl a2 a3 a4 a5 a6 (fun c c1 c2 c3 => by rw [b2 c c2 c3, up2_n _ _ _ c1]) (by rw [b2 5 (by decide) (by decide), up2_s]) (by rw [b3, up2_n _ _ _ (by decide)]) (fun m => by rw [b4, up2_n _ _ _ (by decide)])⟩
      · have h4 : 0 ≤ x2.toInt := by
          have : ¬ x2.toInt = -1 := fun e => h3 (Int32.toInt_inj.mp (by rw [e]; rfl))
          omega
        rw [if_neg h3, if_neg (show ¬ x2 < 0 by rw [lt_iff]; omega)]
        by_cases h5 : x3 ≤ 24
        · rw [if_pos h5, if_pos h5]
          unfold fM_sheet_J32
          rw [if_neg (show ¬ x2 < 0 by rw [lt_iff]; omega)]
          by_cases h6 : 0 ≤ x3
          · rw [if_pos h6, if_pos h6]
            unfold fM_sheet_J44
            obtain ⟨q, q1, q2, rfl⟩ := rng (x := x3) (a := 0) (b := 24) ⟨by rw [le_iff] at h6; omega, by rw [le_iff] at h5; omega⟩
            obtain ⟨σ', a1, a2, a3, a4, a5, a6⟩ := X_sbecome σ (k := k) (by omega) x2 (nI q)
            obtain ⟨μ', b1, b2, b3, b4⟩ := M_sheetJ (up2 μ 5 k x2) (k := k) (by omega) (nI q)
            rw [ck_in (by omega) (by omega), clampI (by omega), a1, ob_s, ck_in (by omega) (by omega), bnd_s, if_pos (show 0 ≤ x2 by rw [le_iff]; omega), b1]
            have hx : x2 = -1 ∨ x2 = 0 ∨ x2 = 1 := by
              have : x2.toInt = 0 ∨ x2.toInt = 1 := by omega
              rcases this with e | e
              · exact Or.inr (Or.inl (Int32.toInt_inj.mp (by rw [e]; rfl)))
              · exact Or.inr (Or.inr (Int32.toInt_inj.mp (by rw [e]; rfl)))
            exact ⟨_, σ', μ', rfl, rfl, Re_sheet hRe (by omega) hx (q := q) (by omega) rfl a2 a3 a4 a5 a6 (fun c c1 c2 c3 => by rw [b2 c c2 c3, up2_n _ _ _ c1]) (by rw [b2 5 (by decide) (by decide), up2_s]) (by rw [b3, up2_n _ _ _ (by decide)]) (fun m => by rw [b4, up2_n _ _ _ (by decide)])⟩
          · rw [if_neg h6, if_neg h6]; exact ⟨_, σ, μ, rfl, rfl, hRe⟩
        · rw [if_neg h5, if_neg h5]; exact ⟨_, σ, μ, rfl, rfl, hRe⟩
    · rw [ite0 h2, ite0 h2]; exact ⟨_, σ, μ, rfl, rfl, hRe⟩
  · rw [ite0 h1, ite0 h1]; exact ⟨_, σ, μ, rfl, rfl, hRe⟩
