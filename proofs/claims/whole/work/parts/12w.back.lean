/-! forgets, back -/
theorem M_forgetsL (km : MS → Option MS) : ∀ (d i N : Nat) (μ : MS), 4096 - i = d → i ≤ 4096 → d < N → ∃ μ', fM_forgets_L11 km N (nI i) μ = km μ' ∧ (∀ q, q ≠ 14 → μ' q = μ q) ∧ ∀ m, μ' 14 m = if i ≤ m ∧ m < 4096 then 0 else μ 14 m := by
  intro d
  induction d with
  | zero =>
    intro i N μ hd hi hN
    obtain ⟨N, rfl⟩ : ∃ m, N = m + 1 := ⟨N - 1, by omega⟩
    rw [fM_forgets_L11, show (4096 : Int32) = nI 4096 from rfl, if_pos (nI_le (by omega) (by omega))]
    exact ⟨μ, rfl, fun _ _ => rfl, fun m => by rw [if_neg (by omega)]⟩
  | succ d ih =>
    intro i N μ hd hi hN
    obtain ⟨N, rfl⟩ : ∃ m, N = m + 1 := ⟨N - 1, by omega⟩
    rw [fM_forgets_L11, show (4096 : Int32) = nI 4096 from rfl, if_neg (nI_ge (by omega) (by omega)), ck_in (by omega) (by omega), bnd_s, clampI (by omega), bnd_s, nI_1]
    obtain ⟨μ', a1, a2, a3⟩ := ih (i + 1) N (up2 μ 14 i 0) (by omega) (by omega) (by omega)
    refine ⟨μ', a1, fun q hq => by rw [a2 q hq, up2_n _ _ _ hq], fun m => ?_⟩
    rw [a3, up2_s]
    unfold upd
    by_cases e1 : i + 1 ≤ m ∧ m < 4096
    · rw [if_pos e1, if_pos (by omega)]
    · rw [if_neg e1]
      by_cases e2 : m = i
      · rw [if_pos e2, if_pos (by omega)]
      · rw [if_neg e2, if_neg (by omega)]
theorem M_forgets {μ : MS} {T : List (Nat × Nat × List Int32)} (hT : MT (μ 1) T) : ∃ μ', fM_forgets μ = some μ' ∧ (∀ q, q ≠ 0 → q ≠ 14 → μ' q = μ q) ∧ (∀ f, f ≠ 12 → μ' 0 f = μ 0 f) ∧ RM μ' (lastT T 0) := by
  have h14 := hT.2.1
  obtain ⟨x, a1, a2⟩ := M_counts hT (k := 0) (by omega)
  obtain ⟨μ', b1, b2, b3⟩ := M_forgetsL (fun (μ : MS) => some μ) 4096 0 10000 (up2 μ 0 12 (bI x (-1))) (by omega) (by omega) (by omega)
  have e0 : μ' 0 12 = bI x (-1) := by rw [b2 0 (by decide), up2_s, pk_us]
  refine ⟨μ', ?_, fun q h0 h1 => by rw [b2 q h1, up2_n _ _ _ h0], fun f hf => by rw [b2 0 (by decide), up2_s, pk_un hf], ?_⟩
  · unfold fM_forgets
    rw [show fM_counts μ (0 : Int32) = _ from a2, ob_s, bnd_s]
    exact b1
  · have hl := Best_last T 0 x a1
    rcases x with _ | t
    · rw [show lastT T 0 = none from hl]
      show μ' 0 12 < 0
      rw [e0]; decide
    · obtain ⟨p, p1, p2, p3⟩ := hl
      rw [p3]
      obtain ⟨c1, c2⟩ := hT.2.2 t p p1
      have ht := a1.1
      refine ⟨p.2.1, t, by omega, e0, ?_, ?_, fun j hj hz => ?_⟩
      · rw [b2 1 (by decide), up2_n _ _ _ (by decide), ← p2]; exact c1
      · rw [← p2]; exact c2
      · rw [b3, if_pos (by omega)] at hz
        exact absurd rfl hz
