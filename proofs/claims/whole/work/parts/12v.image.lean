/-! the image -/
theorem M_setAsideL {a c : Nat} (hac : a ≠ c) (ha : 2876 ≤ mLen a) (hc : 2876 ≤ mLen c) (ha2 : mLen a < 2 ^ 31) (hc2 : mLen c < 2 ^ 31) (km : MS → Option MS) : ∀ (d i N : Nat) (μ : MS), 2876 - i = d → i ≤ 2876 → d < N → ∃ μ', fM_setAside_L2 a c km N (nI i) μ = km μ' ∧ (∀ q, q ≠ c → μ' q = μ q) ∧ ∀ m, μ' c m = if i ≤ m ∧ m < 2876 then μ a m else μ c m := by
  intro d
  induction d with
  | zero =>
    intro i N μ hd hi hN
    obtain ⟨N, rfl⟩ : ∃ m, N = m + 1 := ⟨N - 1, by omega⟩
    rw [fM_setAside_L2, show (2876 : Int32) = nI 2876 from rfl, if_pos (nI_le (by omega) (by omega))]
    exact ⟨μ, rfl, fun _ _ => rfl, fun m => by rw [if_neg (by omega)]⟩
  | succ d ih =>
    intro i N μ hd hi hN
    obtain ⟨N, rfl⟩ : ∃ m, N = m + 1 := ⟨N - 1, by omega⟩
    rw [fM_setAside_L2, show (2876 : Int32) = nI 2876 from rfl, if_neg (nI_ge (by omega) (by omega)), ck_in (by omega) ha2, ck_in (by omega) hc2, bnd_s, clampI (by omega), bnd_s, nI_1]
    obtain ⟨μ', a1, a2, a3⟩ := ih (i + 1) N (up2 μ c i (μ a i)) (by omega) (by omega) (by omega)
    refine ⟨μ', a1, fun q hq => by rw [a2 q hq, up2_n _ _ _ hq], fun m => ?_⟩
    rw [a3, up2_s, up2_n _ _ _ hac]
    unfold upd
    by_cases e1 : i + 1 ≤ m ∧ m < 2876
    · rw [if_pos e1, if_pos (by omega)]
    · rw [if_neg e1]
      by_cases e2 : m = i
      · rw [if_pos e2, if_pos (by omega), e2]
      · rw [if_neg e2, if_neg (by omega)]
theorem M_setAside (μ : MS) {a c : Nat} (hac : a ≠ c) (ha : 2876 ≤ mLen a) (hc : 2876 ≤ mLen c) (ha2 : mLen a < 2 ^ 31) (hc2 : mLen c < 2 ^ 31) : ∃ μ', fM_setAside μ a c = some μ' ∧ (∀ q, q ≠ c → μ' q = μ q) ∧ ∀ m, m < 2876 → μ' c m = μ a m := by
  obtain ⟨μ', a1, a2, a3⟩ := M_setAsideL hac ha hc ha2 hc2 (fun (μ : MS) => some μ) 2876 0 10000 μ (by omega) (by omega) (by omega)
  exact ⟨μ', a1, a2, fun m hm => by rw [a3, if_pos (by omega)]⟩
theorem WB_eq {s s' : Nat → Int32} {n x j : Nat} (e : ∀ m, m < 76 → s' m = s m) (h : WB s n x j) : WB s' n x j := by
  obtain ⟨h1, h2, h3, h4, h5, h6, h7, h8⟩ := h
  refine ⟨h1, h2, by rw [e 0 (by omega)]; exact h3, by rw [e 2 (by omega)]; exact h4, by rw [e 4 (by omega)]; exact h5, fun i hi => by rw [e _ (by omega)]; exact h6 i hi, fun k hk => ?_, fun k hk => ?_⟩
  · obtain ⟨i, hi, ei⟩ := h7 k hk
    exact ⟨i, hi, by rw [e _ (by omega)]; exact ei⟩
  · unfold WL
    rw [e _ (by omega), e _ (by omega), e _ (by omega), e _ (by omega)]
    exact h8 k hk
theorem XB_eq {σ : XS} {b : Nat} {s s' : Nat → Int32} {R : Option (List Int32)} {n : Nat} {D : Nat → Prop} (hn : n ≤ 14) (e : ∀ m, m < 76 → s' m = s m) (h : XB σ b s R n D) : XB σ b s' R n D := by
  obtain ⟨h1, h2, h3, h4⟩ := h
  refine ⟨by rw [e 0 (by omega), e 4 (by omega), e 3 (by omega), e 2 (by omega), e 5 (by omega)]; exact h1, fun i hi => by rw [e _ (by omega)]; exact h2 i hi, fun k hk => ?_, fun k hk hD => ?_⟩
  · rw [e _ (by omega), e _ (by omega), e _ (by omega), e _ (by omega)]; exact h3 k hk
  · rw [e _ (by omega), e _ (by omega), e _ (by omega), e _ (by omega)]; exact h4 k hk hD
theorem MT_eq {s s' : Nat → Int32} {T : List (Nat × Nat × List Int32)} (e : ∀ m, m < 2876 → s' m = s m) (h : MT s T) : MT s' T := by
  obtain ⟨h1, h2, h3⟩ := h
  refine ⟨by rw [e 1 (by omega)]; exact h1, h2, fun t p hp => ?_⟩
  obtain ⟨⟨t1, t2, t3, t4⟩, w⟩ := h3 t p hp
  have ht : t < T.length := by
    rcases Nat.lt_or_ge t T.length with h | h
    · exact h
    · rw [List.getElem?_eq_none h] at hp; cases hp
  have hl := w.2.2.1
  refine ⟨⟨by rw [e _ (by omega)]; exact t1, by rw [e _ (by omega)]; exact t2, by rw [e _ (by omega)]; exact t3, fun i hi => ?_⟩, w⟩
  rw [e _ (by omega), e _ (by omega)]
  exact t4 i hi
