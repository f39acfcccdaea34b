/-! measures of a bag -/
theorem B_n {σ : XS} {b : Nat} {μ : MS} {R : Option (List Int32)} {n x j : Nat} {D : Nat → Prop} (h : BX σ b μ R n x j D) : xi σ (1 + b) 0 = nI n := by rw [h.2.1.1.1]; exact h.1.2.2.1
theorem B_messI {σ : XS} {b : Nat} {R : Option (List Int32)} {n x j : Nat} (kx : Int32 → Int32 → Option Int32) (km : Int32 → Int32 → MS → Option (Int32 × MS)) {p : Nat} (hp : p < n) : ∀ (d i N1 N2 r : Nat) (μ : MS), n - i = d → i ≤ 15 → d < N1 → d < N2 → BX σ b μ R n x j NoD →
    ∃ r' μ', r' ≤ r + d ∧ fB_mess_L16 b σ kx N1 (nI r) (nI p) (nI i) = kx (nI r') (nI p) ∧ fM_mess_L18 km N2 (nI r) (nI p) (nI i) μ = km (nI r') (nI p) μ' ∧ BX σ b μ' R n x j NoD ∧ MF μ μ' ∧ μ' 1 = μ 1 := by
  intro d
  induction d with
  | zero =>
    intro i N1 N2 r μ hd hi h1 h2 h
    obtain ⟨N1, rfl⟩ : ∃ m, N1 = m + 1 := ⟨N1 - 1, by omega⟩
    obtain ⟨N2, rfl⟩ : ∃ m, N2 = m + 1 := ⟨N2 - 1, by omega⟩
    have hn := h.1.1
    refine ⟨r, μ, by omega, ?_, ?_, h, MF_refl _, rfl⟩
    · rw [fB_mess_L16, B_n h, if_pos (nI_le (by omega) (by omega))]
    · rw [fM_mess_L18, h.1.2.2.1, if_pos (nI_le (by omega) (by omega))]
  | succ d ih =>
    intro i N1 N2 r μ hd hi h1 h2 h
    obtain ⟨N1, rfl⟩ : ∃ m, N1 = m + 1 := ⟨N1 - 1, by omega⟩
    obtain ⟨N2, rfl⟩ : ∃ m, N2 = m + 1 := ⟨N2 - 1, by omega⟩
    have hn := h.1.1
    obtain ⟨a, ha, ea⟩ := h.1.2.2.2.2.2.1 i (by omega)
    obtain ⟨c, hc, ec⟩ := h.1.2.2.2.2.2.1 p hp
    obtain ⟨μ1, p1, p2, p3, p4⟩ := B_rises h ha
    obtain ⟨μ2, q1, q2, q3, q4⟩ := B_rises p2 hc
    rw [fB_mess_L16, B_n h, if_neg (nI_ge (by omega) (by omega)), ck_in (by omega) (by omega), clampI (by omega), h.2.1.2.1 i (by omega), ea, ck_in (by omega) (by omega), clampI (by omega), ck_in (by omega) (by omega), clampI (by omega), h.2.1.2.1 p hp, ec, ck_in (by omega) (by omega), clampI (by omega)]
    rw [fM_mess_L18, h.1.2.2.1, if_neg (nI_ge (by omega) (by omega)), pl 6, nI_add, nI_add, ck_in (by omega) (by omega), clampI (by omega), ea, p1, ob2_s, ck_in (by omega) (by omega), clampI (by omega), p4, ec, q1, ob2_s]
    by_cases hh : xi σ (30 + 6 * b + 4) a ≤ xi σ (30 + 6 * b + 4) c
    · rw [if_pos hh, if_pos hh, bnd_s, bnd_s, bnd_s, nI_1, show (0 : Int32) = nI 0 from rfl, nI_add]
      obtain ⟨r', μ', b1, b2, b3, b4, b5, b6⟩ := ih (i + 1) N1 N2 r μ2 (by omega) (by omega) (by omega) (by omega) q2
      exact ⟨r', μ', by omega, b2, b3, b4, MF_trans p3 (MF_trans q3 b5), by rw [b6, q4, p4]⟩
    · rw [if_neg hh, if_neg hh, bnd_s, bnd_s, bnd_s, bnd_s, nI_1, nI_1]
      obtain ⟨r', μ', b1, b2, b3, b4, b5, b6⟩ := ih (i + 1) N1 N2 (r + 1) μ2 (by omega) (by omega) (by omega) (by omega) q2
      exact ⟨r', μ', by omega, b2, b3, b4, MF_trans p3 (MF_trans q3 b5), by rw [b6, q4, p4]⟩
theorem B_messO {σ : XS} {b : Nat} {R : Option (List Int32)} {n x j : Nat} (kx : Int32 → Option Int32) (km : Int32 → MS → Option (Int32 × MS)) : ∀ (d i N1 N2 r : Nat) (μ : MS), n - i = d → i ≤ 14 → d < N1 → d < N2 → BX σ b μ R n x j NoD →
    ∃ r' μ', r' ≤ r + 14 * d ∧ fB_mess_L4 b σ kx N1 (nI r) (nI i) = kx (nI r') ∧ fM_mess_L4 km N2 (nI r) (nI i) μ = km (nI r') μ' ∧ BX σ b μ' R n x j NoD ∧ MF μ μ' ∧ μ' 1 = μ 1 := by
  intro d
  induction d with
  | zero =>
    intro i N1 N2 r μ hd hi h1 h2 h
    obtain ⟨N1, rfl⟩ : ∃ m, N1 = m + 1 := ⟨N1 - 1, by omega⟩
    obtain ⟨N2, rfl⟩ : ∃ m, N2 = m + 1 := ⟨N2 - 1, by omega⟩
    have hn := h.1.1
    refine ⟨r, μ, by omega, ?_, ?_, h, MF_refl _, rfl⟩
    · rw [fB_mess_L4, B_n h, if_pos (nI_le (by omega) (by omega))]
    · rw [fM_mess_L4, h.1.2.2.1, if_pos (nI_le (by omega) (by omega))]
  | succ d ih =>
    intro i N1 N2 r μ hd hi h1 h2 h
    obtain ⟨N1, rfl⟩ : ∃ m, N1 = m + 1 := ⟨N1 - 1, by omega⟩
    obtain ⟨N2, rfl⟩ : ∃ m, N2 = m + 1 := ⟨N2 - 1, by omega⟩
    have hn := h.1.1
    rw [fB_mess_L4, fM_mess_L4, B_n h, h.1.2.2.1, if_neg (nI_ge (by omega) (by omega)), if_neg (nI_ge (by omega) (by omega)), bnd_s, bnd_s, nI_1]
    obtain ⟨r1, μ1, a0, a1, a2, a3, a4, a5⟩ := B_messI (σ := σ) (b := b) (R := R) (n := n) (x := x) (j := j) (fun (x1 : Int32) (x2 : Int32) => bnd (x2 + (1 : Int32)) fun v16 =>
        (fB_mess_L4 b σ kx N1) x1 v16) (fun (x1 : Int32) (x2 : Int32) (μ : MS) => bnd (x2 + (1 : Int32)) fun v22 =>
        (fM_mess_L4 km N2) x1 v22 μ) (p := i) (by omega) (n - (i + 1)) (i + 1) 10000 10000 r μ rfl (by omega) (by omega) (by omega) h
    rw [a1, a2, bnd_s, bnd_s, nI_1]
    obtain ⟨r', μ', b1, b2, b3, b4, b5, b6⟩ := ih (i + 1) N1 N2 r1 μ1 (by omega) (by omega) (by omega) (by omega) a3
    exact ⟨r', μ', by omega, b2, b3, b4, MF_trans a4 b5, by rw [b6, a5]⟩
theorem B_mess {σ : XS} {b : Nat} {μ : MS} {R : Option (List Int32)} {n x j : Nat} (h : BX σ b μ R n x j NoD) :
    ∃ r μ', r ≤ 196 ∧ fB_mess σ b = some (nI r) ∧ fM_mess μ = some (nI r, μ') ∧ BX σ b μ' R n x j NoD ∧ MF μ μ' ∧ μ' 1 = μ 1 := by
  have hn := h.1.1
  obtain ⟨r', μ', b1, b2, b3, b4⟩ := B_messO (σ := σ) (b := b) (R := R) (n := n) (x := x) (j := j) (fun (x1 : Int32) => some x1) (fun (x1 : Int32) (μ : MS) => some (x1, μ)) n 0 10000 10000 0 μ (by omega) (by omega) (by omega) (by omega) h
  exact ⟨r', μ', by omega, b2, b3, b4⟩
theorem B_climbL {σ : XS} {b : Nat} {R : Option (List Int32)} {n x j : Nat} (kx : Int32 → Option Int32) (km : Int32 → MS → Option (Int32 × MS)) : ∀ (d i N1 N2 : Nat) (v : Int32) (μ : MS), n - i = d → i ≤ 15 → d < N1 → d < N2 → BX σ b μ R n x j NoD →
    ∃ v' μ', fB_climbers_L4 b σ kx N1 v (nI (i + 1)) = kx v' ∧ fM_climbing_L4 km N2 v (nI i) μ = km v' μ' ∧ BX σ b μ' R n x j NoD ∧ MF μ μ' ∧ μ' 1 = μ 1 := by
  intro d
  induction d with
  | zero =>
    intro i N1 N2 v μ hd hi h1 h2 h
    obtain ⟨N1, rfl⟩ : ∃ m, N1 = m + 1 := ⟨N1 - 1, by omega⟩
    obtain ⟨N2, rfl⟩ : ∃ m, N2 = m + 1 := ⟨N2 - 1, by omega⟩
    have hn := h.1.1
    refine ⟨v, μ, ?_, ?_, h, MF_refl _, rfl⟩
    · rw [fB_climbers_L4, B_n h, if_pos (nI_le (by omega) (by omega))]
    · rw [fM_climbing_L4, nI_1, h.1.2.2.1, if_pos (nI_le (by omega) (by omega))]
  | succ d ih =>
    intro i N1 N2 v μ hd hi h1 h2 h
    obtain ⟨N1, rfl⟩ : ∃ m, N1 = m + 1 := ⟨N1 - 1, by omega⟩
    obtain ⟨N2, rfl⟩ : ∃ m, N2 = m + 1 := ⟨N2 - 1, by omega⟩
    have hn := h.1.1
    by_cases hin : i + 1 < n
    · obtain ⟨r, μ1, hr, a1, a2, a3, a4, a5⟩ := B_climbs h hin
      rw [fB_climbers_L4, fM_climbing_L4, nI_1 i, B_n h, h.1.2.2.1, if_neg (nI_ge (by omega) (by omega)), if_neg (nI_ge (by omega) (by omega)), a1, a2, ob_s, ob2_s]
      rcases hr with rfl | rfl
      · rw [if_pos rfl, if_pos rfl, bnd_s, bnd_s, bnd_s, nI_1, Int32.add_zero]
        obtain ⟨v', μ', b2, b3, b4, b5, b6⟩ := ih (i + 1) N1 N2 v μ1 (by omega) (by omega) (by omega) (by omega) a3
        exact ⟨v', μ', b2, b3, b4, MF_trans a4 b5, by rw [b6, a5]⟩
      · rw [if_neg (by decide), if_neg (by decide), bnd_s, bnd_s, bnd_s, bnd_s, nI_1]
        obtain ⟨v', μ', b2, b3, b4, b5, b6⟩ := ih (i + 1) N1 N2 (v + 1) μ1 (by omega) (by omega) (by omega) (by omega) a3
        exact ⟨v', μ', b2, b3, b4, MF_trans a4 b5, by rw [b6, a5]⟩
    · refine ⟨v, μ, ?_, ?_, h, MF_refl _, rfl⟩
      · rw [fB_climbers_L4, B_n h, if_pos (nI_le (by omega) (by omega))]
      · rw [fM_climbing_L4, nI_1, h.1.2.2.1, if_pos (nI_le (by omega) (by omega))]
theorem B_climbers {σ : XS} {b : Nat} {μ : MS} {R : Option (List Int32)} {n x j : Nat} (h : BX σ b μ R n x j NoD) :
    ∃ v μ', fB_climbers σ b = some v ∧ fM_climbing μ = some (v, μ') ∧ BX σ b μ' R n x j NoD ∧ MF μ μ' ∧ μ' 1 = μ 1 := by
  have hn := h.1.1
  exact B_climbL (σ := σ) (b := b) (R := R) (n := n) (x := x) (j := j) (fun (x1 : Int32) => some x1) (fun (x1 : Int32) (μ : MS) => some (x1, μ)) n 0 10000 10000 0 μ (by omega) (by omega) (by omega) (by omega) h
/-- the town at a place -/
def tA (s : Nat → Int32) (i : Nat) : Int32 := s (22 + 4 * (s (6 + i)).toNatClampNeg)
theorem M_townAt {σ : XS} {b : Nat} {μ : MS} {R : Option (List Int32)} {n x j : Nat} (h : BX σ b μ R n x j NoD) {i : Nat} (hi : i < n) : fM_townAt μ (nI i) = some (tA (μ 1) i) := by
  have hn := h.1.1
  obtain ⟨a, ha, ea⟩ := h.1.2.2.2.2.2.1 i hi
  unfold fM_townAt tA
  rw [pl 6, nI_add, ck_in (by omega) (by omega), clampI (by omega), ea, show (2 : Int32) = nI 2 from rfl, M_of _ (by omega), ob_s, clampI (by omega), show 20 + 4 * a + 2 = 22 + 4 * a by omega]
theorem X_starts {σ : XS} {b : Nat} {μ : MS} {R : Option (List Int32)} {n x j : Nat} (h : BX σ b μ R n x j NoD) {i : Nat} (hi : i + 1 < n) : fB_startsRow σ b (nI (i + 1)) = some (if tA (μ 1) (i + 1) = tA (μ 1) i then 0 else 1) := by
  have hn := h.1.1
  obtain ⟨a, ha, ea⟩ := h.1.2.2.2.2.2.1 i (by omega)
  obtain ⟨c, hc, ec⟩ := h.1.2.2.2.2.2.1 (i + 1) hi
  unfold fB_startsRow tA
  rw [if_neg (nI_ne0 (by omega) (by omega)), ck_in (by omega) (by omega), clampI (by omega), h.2.1.2.1 (i + 1) hi, ec, ck_in (by omega) (by omega), nI_pred, ck_in (by omega) (by omega), clampI (by omega), clampI (by omega), h.2.1.2.1 i (by omega), ea, ck_in (by omega) (by omega), clampI (by omega), (h.2.1.2.2.1 a ha).2.2.1, (h.2.1.2.2.1 c hc).2.2.1]
  by_cases hh : μ 1 (22 + 4 * c) = μ 1 (22 + 4 * a)
  · rw [if_pos hh, if_pos hh]
  · rw [if_neg hh, if_neg hh]
theorem B_layersL {σ : XS} {b : Nat} {μ : MS} {R : Option (List Int32)} {n x j : Nat} (h : BX σ b μ R n x j NoD) (kx km : Int32 → Option Int32) : ∀ (d i N1 N2 : Nat) (v : Int32), n - i = d → i ≤ 14 → d < N1 → d < N2 →
    ∃ v', fB_layers_L4 b σ kx N1 v (nI i) = kx v' ∧ fM_layers_L4 μ km N2 v (nI i) = km v' := by
  have hn := h.1.1
  intro d
  induction d with
  | zero =>
    intro i N1 N2 v hd hi h1 h2
    obtain ⟨N1, rfl⟩ : ∃ m, N1 = m + 1 := ⟨N1 - 1, by omega⟩
    obtain ⟨N2, rfl⟩ : ∃ m, N2 = m + 1 := ⟨N2 - 1, by omega⟩
    refine ⟨v, ?_, ?_⟩
    · rw [fB_layers_L4, B_n h, if_pos (nI_le (by omega) (by omega))]
    · rw [fM_layers_L4, h.1.2.2.1, if_pos (nI_le (by omega) (by omega))]
  | succ d ih =>
    intro i N1 N2 v hd hi h1 h2
    obtain ⟨N1, rfl⟩ : ∃ m, N1 = m + 1 := ⟨N1 - 1, by omega⟩
    obtain ⟨N2, rfl⟩ : ∃ m, N2 = m + 1 := ⟨N2 - 1, by omega⟩
    rw [fB_layers_L4, fM_layers_L4, B_n h, h.1.2.2.1, if_neg (nI_ge (by omega) (by omega)), if_neg (nI_ge (by omega) (by omega))]
    rcases i with _ | i
    · unfold fB_startsRow
      rw [if_pos nI_0, if_pos nI_0, ob_s, if_neg (by decide), bnd_s, bnd_s, bnd_s, bnd_s, nI_1]
      exact ih 1 N1 N2 (v + 1) (by omega) (by omega) (by omega) (by omega)
    · rw [X_starts h (by omega), ob_s, if_neg (nI_ne0 (by omega) (by omega)), nI_pred, M_townAt h (by omega), ob_s, M_townAt h (by omega), ob_s]
      by_cases hh : tA (μ 1) (i + 1) = tA (μ 1) i
      · rw [if_pos hh, if_pos rfl, if_pos hh, bnd_s, bnd_s, bnd_s, nI_1, Int32.add_zero]
        exact ih (i + 1 + 1) N1 N2 v (by omega) (by omega) (by omega) (by omega)
      · rw [if_neg hh, if_neg (by decide), if_neg hh, bnd_s, bnd_s, bnd_s, bnd_s, nI_1]
        exact ih (i + 1 + 1) N1 N2 (v + 1) (by omega) (by omega) (by omega) (by omega)
theorem B_layers {σ : XS} {b : Nat} {μ : MS} {R : Option (List Int32)} {n x j : Nat} (h : BX σ b μ R n x j NoD) : ∃ v, fB_layers σ b = some v ∧ fM_layers μ = some v := by
  have hn := h.1.1
  exact B_layersL h (fun (x1 : Int32) => some x1) (fun (x1 : Int32) => some x1) n 0 10000 10000 0 (by omega) (by omega) (by omega) (by omega)
theorem B_thickL {σ : XS} {b : Nat} {μ : MS} {R : Option (List Int32)} {n x j : Nat} (h : BX σ b μ R n x j NoD) (kx km : Int32 → Option Int32) : ∀ (d i N1 N2 : Nat) (v : Int32), n - i = d → i ≤ 14 → d < N1 → d < N2 →
    ∃ v', fB_thickOfAll_L4 b σ kx N1 v (nI i) = kx v' ∧ fM_thickOfAll_L4 μ km N2 v (nI i) = km v' := by
  have hn := h.1.1
  intro d
  induction d with
  | zero =>
    intro i N1 N2 v hd hi h1 h2
    obtain ⟨N1, rfl⟩ : ∃ m, N1 = m + 1 := ⟨N1 - 1, by omega⟩
    obtain ⟨N2, rfl⟩ : ∃ m, N2 = m + 1 := ⟨N2 - 1, by omega⟩
    refine ⟨v, ?_, ?_⟩
    · rw [fB_thickOfAll_L4, B_n h, if_pos (nI_le (by omega) (by omega))]
    · rw [fM_thickOfAll_L4, h.1.2.2.1, if_pos (nI_le (by omega) (by omega))]
  | succ d ih =>
    intro i N1 N2 v hd hi h1 h2
    obtain ⟨N1, rfl⟩ : ∃ m, N1 = m + 1 := ⟨N1 - 1, by omega⟩
    obtain ⟨N2, rfl⟩ : ∃ m, N2 = m + 1 := ⟨N2 - 1, by omega⟩
    rw [fB_thickOfAll_L4, fM_thickOfAll_L4, B_n h, h.1.2.2.1, if_neg (nI_ge (by omega) (by omega)), if_neg (nI_ge (by omega) (by omega)), ck_in (by omega) (by omega), show fM_of μ (nI i) (1 : Int32) = some (μ 1 (20 + 4 * i + 1)) from M_of μ (w := 1) (by omega), ob_s, bnd_s, bnd_s, bnd_s, bnd_s, nI_1, clampI (by omega), (h.2.1.2.2.1 i (by omega)).2.1, show 20 + 4 * i + 1 = 21 + 4 * i by omega]
    exact ih (i + 1) N1 N2 _ (by omega) (by omega) (by omega) (by omega)
theorem B_thickOfAll {σ : XS} {b : Nat} {μ : MS} {R : Option (List Int32)} {n x j : Nat} (h : BX σ b μ R n x j NoD) : ∃ v, fB_thickOfAll σ b = some v ∧ fM_thickOfAll μ = some v := by
  have hn := h.1.1
  exact B_thickL h (fun (x1 : Int32) => some x1) (fun (x1 : Int32) => some x1) n 0 10000 10000 0 (by omega) (by omega) (by omega) (by omega)
theorem B_thickOnTop {σ : XS} {b : Nat} {μ : MS} {R : Option (List Int32)} {n x j : Nat} (h : BX σ b μ R n x j NoD) : ∃ v, fB_thickOnTop σ b = some v ∧ fM_thickOnTop μ = some v := by
  have hn := h.1.1
  unfold fB_thickOnTop fM_thickOnTop
  rw [B_n h, h.1.2.2.1]
  rcases Nat.eq_zero_or_pos n with h0 | h0
  · subst h0
    exact ⟨0, by rw [if_pos nI_0], by rw [if_pos nI_0]⟩
  · obtain ⟨a, ha, ea⟩ := h.1.2.2.2.2.2.1 0 h0
    rw [if_neg (nI_ne0 h0 (by omega)), if_neg (nI_ne0 h0 (by omega)), h.2.1.2.1 0 h0, show μ 1 6 = nI a from ea, ck_in (by omega) (by omega), clampI (by omega), (h.2.1.2.2.1 a ha).2.1, show fM_of μ (nI a) (1 : Int32) = some (μ 1 (20 + 4 * a + 1)) from M_of μ (w := 1) (by omega), ob_s, show 20 + 4 * a + 1 = 21 + 4 * a by omega]
    exact ⟨_, rfl, rfl⟩
theorem B_placeL {σ : XS} {b : Nat} {μ : MS} {R : Option (List Int32)} {n x j : Nat} (h : BX σ b μ R n x j NoD) (kx : Option Int32) (km : Int32 → Option Int32) {k : Nat} (hk : k < n) : ∀ (d i N1 N2 : Nat), n - i = d → i ≤ 14 → d < N1 → d < N2 → (∃ q, i ≤ q ∧ q < n ∧ μ 1 (6 + q) = nI k) →
    ∃ p, p < n ∧ μ 1 (6 + p) = nI k ∧ fB_placeOf_L2 b σ kx N1 (nI k) (nI i) = some (nI p) ∧ fM_placeOf_L2 μ km N2 (nI k) (nI i) = km (nI p) := by
  have hn := h.1.1
  intro d
  induction d with
  | zero =>
    intro i N1 N2 hd hi h1 h2 hq
    obtain ⟨q, q1, q2, _⟩ := hq
    omega
  | succ d ih =>
    intro i N1 N2 hd hi h1 h2 hq
    obtain ⟨N1, rfl⟩ : ∃ m, N1 = m + 1 := ⟨N1 - 1, by omega⟩
    obtain ⟨N2, rfl⟩ : ∃ m, N2 = m + 1 := ⟨N2 - 1, by omega⟩
    rw [fB_placeOf_L2, fM_placeOf_L2, B_n h, if_neg (nI_ge (by omega) (by omega)), ck_in (by omega) (by omega), pl 6, nI_add, ck_in (by omega) (by omega), clampI (by omega), clampI (by omega), h.2.1.2.1 i (by omega)]
    by_cases hh : μ 1 (6 + i) = nI k
    · rw [if_pos hh, if_pos hh]
      exact ⟨i, by omega, hh, rfl, rfl⟩
    · rw [if_neg hh, if_neg hh, bnd_s, bnd_s, nI_1]
      refine ih (i + 1) N1 N2 (by omega) (by omega) (by omega) (by omega) ?_
      obtain ⟨q, q1, q2, q3⟩ := hq
      refine ⟨q, ?_, q2, q3⟩
      have : q ≠ i := fun e => hh (by rw [← e]; exact q3)
      omega
theorem B_placeOf {σ : XS} {b : Nat} {μ : MS} {R : Option (List Int32)} {n x j : Nat} (h : BX σ b μ R n x j NoD) {k : Nat} (hk : k < n) : ∃ p, p < n ∧ μ 1 (6 + p) = nI k ∧ fB_placeOf σ b (nI k) = some (nI p) ∧ fM_placeOf μ (nI k) = some (nI p) := by
  have hn := h.1.1
  obtain ⟨i, hi, e⟩ := h.1.2.2.2.2.2.2.1 k hk
  exact B_placeL h (some (-1000000005 : Int32)) (fun (x2 : Int32) => some x2) hk n 0 10000 10000 (by omega) (by omega) (by omega) (by omega) ⟨i, by omega, hi, e⟩
