/-! a jolt -/
def gripV (kd : Int32) : Int32 := if kd = 1 then 0 else if kd = 2 then 10 else if kd = 3 then 4 else if kd = 4 then 20 else if kd = 5 then 1 else 2
theorem X_grips (σ : XS) (kd : Int32) : fK_grips σ kd = some (gripV kd) := by
  unfold fK_grips gripV
  rw [bnd_s]
  by_cases h1 : kd = 1
  · rw [if_pos h1, if_pos h1]
  · rw [if_neg h1, if_neg h1]
    by_cases h2 : kd = 2
    · rw [if_pos h2, if_pos h2]; rfl
    · rw [if_neg h2, if_neg h2]
      by_cases h3 : kd = 3
      · rw [if_pos h3, if_pos h3]; rfl
      · rw [if_neg h3, if_neg h3]
        by_cases h4 : kd = 4
        · rw [if_pos h4, if_pos h4]; rfl
        · rw [if_neg h4, if_neg h4]
          by_cases h5 : kd = 5
          · rw [if_pos h5, if_pos h5]; rfl
          · rw [if_neg h5, if_neg h5]
theorem M_grips (μ : MS) {k : Nat} (hk : k < 14) : fM_grips μ (nI k) = some (gripV (μ 1 (20 + 4 * k))) := by
  unfold fM_grips gripV
  rw [show fM_of μ (nI k) (0 : Int32) = some (μ 1 (20 + 4 * k + 0)) from M_of μ (w := 0) (by omega), ob_s, Nat.add_zero]
  generalize μ 1 (20 + 4 * k) = kd
  by_cases h1 : kd = 1
  · rw [if_pos h1, if_pos h1]
  · rw [if_neg h1, if_neg h1]
    by_cases h2 : kd = 2
    · rw [if_pos h2, if_pos h2]
    · rw [if_neg h2, if_neg h2]
      by_cases h3 : kd = 3
      · rw [if_pos h3, if_pos h3]
      · rw [if_neg h3, if_neg h3]
        by_cases h4 : kd = 4
        · rw [if_pos h4, if_pos h4]
        · rw [if_neg h4, if_neg h4]
          by_cases h5 : kd = 5
          · rw [if_pos h5, if_pos h5]
          · rw [if_neg h5, if_neg h5]
theorem BX_mu {σ : XS} {b : Nat} {μ μ' : MS} {R : Option (List Int32)} {n x j : Nat} {D : Nat → Prop} (h : BX σ b μ R n x j D) (h1 : μ' 1 = μ 1) (h2 : RM μ' R) : BX σ b μ' R n x j D := by
  unfold BX
  rw [h1]
  exact ⟨h.1, h.2.1, h.2.2.1, h2⟩
/-- a rise, asked of the model -/
theorem B_rises {σ : XS} {b : Nat} {μ : MS} {R : Option (List Int32)} {n x j : Nat} (h : BX σ b μ R n x j NoD) {k : Nat} (hk : k < n) :
    ∃ μ', fM_rises μ (nI k) = some (xi σ (30 + 6 * b + 4) k, μ') ∧ BX σ b μ' R n x j NoD ∧ MF μ μ' ∧ μ' 1 = μ 1 := by
  obtain ⟨⟨w1, w2, w3, w4, w5, w6, w7, w8⟩, ⟨g2, g3, g4, g5⟩, h6, h7⟩ := h
  obtain ⟨kd, th, tn, mv, a1, a2, a3, a4, a5, a6, a7, a8⟩ := w8 k hk
  obtain ⟨μ', c1, c2, c3⟩ := M_rises h7 (k := k) (th := th) (tn := tn) (mv := mv) (by omega) (by omega) (by omega) (by omega) a6 a7 a8
  have e1 : μ' 1 = μ 1 := c3 1 (by decide) (by decide) (by decide) (by decide)
  refine ⟨μ', ?_, BX_mu ⟨⟨w1, w2, w3, w4, w5, w6, w7, w8⟩, ⟨g2, g3, g4, g5⟩, h6, h7⟩ e1 c2, ⟨fun c _ q2 q3 q4 q5 => c3 c q2 q3 q4 q5, by rw [e1], fun m _ => by rw [e1]⟩, e1⟩
  rw [c1, g5 k hk (fun z => z), a6, a7, a8]
theorem B_climbs {σ : XS} {b : Nat} {μ : MS} {R : Option (List Int32)} {n x j : Nat} (h : BX σ b μ R n x j NoD) {i : Nat} (hi : i + 1 < n) :
    ∃ r μ', (r = 0 ∨ r = 1) ∧ fB_climbs σ b (nI (i + 1)) = some r ∧ fM_climbs μ (nI i) = some (r, μ') ∧ BX σ b μ' R n x j NoD ∧ MF μ μ' ∧ μ' 1 = μ 1 := by
  have hn := h.1.1
  obtain ⟨a, ha, ea⟩ := h.1.2.2.2.2.2.1 i (by omega)
  obtain ⟨c, hc, ec⟩ := h.1.2.2.2.2.2.1 (i + 1) hi
  obtain ⟨μ1, p1, p2, p3, p4⟩ := B_rises h hc
  obtain ⟨μ2, q1, q2, q3, q4⟩ := B_rises p2 ha
  unfold fB_climbs fM_climbs
  rw [nI_pred, ck_in (by omega) (by omega), bnd_s, ck_in (by omega) (by omega), bnd_s, clampI (by omega), clampI (by omega), h.2.1.2.1 i (by omega), h.2.1.2.1 (i + 1) hi, ea, ec, ck_in (by omega) (by omega), ck_in (by omega) (by omega), ck_in (by omega) (by omega), X_grips, ob_s, ck_in (by omega) (by omega), X_grips, ob_s, clampI (by omega), clampI (by omega)]
  rw [pl 6, nI_add, ck_in (by omega) (by omega), bnd_s, nI_1, ck_in (by omega) (by omega), bnd_s, clampI (by omega), clampI (by omega), ea, show 6 + i + 1 = 6 + (i + 1) by omega, ec, p1, ob2_s, q1, ob2_s, M_grips μ2 (by omega), ob_s, M_grips μ2 (by omega), ob_s, q4, p4, (h.2.1.2.2.1 a ha).1, (h.2.1.2.2.1 c hc).1]
  by_cases hh : xi σ (30 + 6 * b + 4) c - xi σ (30 + 6 * b + 4) a ≤ gripV (μ 1 (20 + 4 * c)) + gripV (μ 1 (20 + 4 * a))
  · rw [if_pos hh]
    exact ⟨0, μ2, Or.inl rfl, rfl, by rw [if_pos hh], q2, MF_trans p3 q3, by rw [q4, p4]⟩
  · rw [if_neg hh]
    exact ⟨1, μ2, Or.inr rfl, rfl, by rw [if_neg hh], q2, MF_trans p3 q3, by rw [q4, p4]⟩
theorem M_sets (μ : MS) {k w : Nat} (h : 20 + 4 * k + w < 3076) (v : Int32) : fM_sets μ (nI k) (nI w) v = some (up2 μ 1 (20 + 4 * k + w) v) := by
  unfold fM_sets
  rw [pl 20, pl 4, pk_mul, nI_add, nI_add, ck_in h (by omega), bnd_s, clampI (by omega)]
theorem up2_comm (μ : MS) {c i k : Nat} (v w : Int32) (h : i ≠ k) : up2 (up2 μ c i v) c k w = up2 (up2 μ c k w) c i v := by
  funext d
  by_cases hd : d = c
  · subst hd
    rw [up2_s, up2_s, up2_s, up2_s]
    funext m
    unfold upd
    by_cases e1 : m = k
    · rw [if_pos e1, if_neg (by omega), if_pos e1]
    · rw [if_neg e1, if_neg e1]
  · rw [up2_n _ _ _ hd, up2_n _ _ _ hd, up2_n _ _ _ hd, up2_n _ _ _ hd]
theorem B_joltL {b : Nat} {R : Option (List Int32)} {n j : Nat} (kx : XS → Option XS) (km : MS → Option MS) : ∀ (d i N1 N2 : Nat) (σ : XS) (μ : MS), n - i ≤ d → i ≤ 15 → d < N1 → d < N2 → BX σ b μ R n i j NoD →
    ∃ σ' μ', fB_joltOnce_L7 b kx N1 (nI i) σ = kx σ' ∧ fM_goesOn_L9 km N2 (nI i) μ = km μ' ∧ BX σ' b μ' R n 16 j NoD ∧ XF σ b σ' ∧ MF μ μ' := by
  intro d
  induction d with
  | zero =>
    intro i N1 N2 σ μ hd hi h1 h2 h
    obtain ⟨N1, rfl⟩ : ∃ m, N1 = m + 1 := ⟨N1 - 1, by omega⟩
    obtain ⟨N2, rfl⟩ : ∃ m, N2 = m + 1 := ⟨N2 - 1, by omega⟩
    refine ⟨σ, μ, ?_, ?_, BX_slack h (by omega) (by omega), XF_refl _ _, MF_refl _⟩
    · rw [fB_joltOnce_L7, nI_1, h.2.1.1.1, h.1.2.2.1, if_pos (nI_le (by omega) (by omega))]
    · rw [fM_goesOn_L9, nI_1, h.1.2.2.1, if_pos (nI_le (by omega) (by omega))]
  | succ d ih =>
    intro i N1 N2 σ μ hd hi h1 h2 h
    obtain ⟨N1, rfl⟩ : ∃ m, N1 = m + 1 := ⟨N1 - 1, by omega⟩
    obtain ⟨N2, rfl⟩ : ∃ m, N2 = m + 1 := ⟨N2 - 1, by omega⟩
    have hn := h.1.1
    by_cases hin : i + 1 < n
    · rw [fB_joltOnce_L7, fM_goesOn_L9, nI_1, h.2.1.1.1, h.1.2.2.1, if_neg (nI_ge hin (by omega)), if_neg (nI_ge hin (by omega))]
      obtain ⟨r, μ6, hr, a1, a2, a3, a4, a5⟩ := B_climbs h hin
      rw [a1, a2, ob_s, ob2_s]
      rcases hr with rfl | rfl
      · rw [if_pos rfl, if_pos rfl, bnd_s, bnd_s, show nI i + 2 = nI (i + 2) from nI_add i 2]
        obtain ⟨σ', μ', b1, b2, b3, b4, b5⟩ := ih (i + 2) N1 N2 σ μ6 (by omega) (by omega) (by omega) (by omega) (BX_slack a3 (by omega) (by omega))
        exact ⟨σ', μ', b1, b2, b3, b4, MF_trans a4 b5⟩
      · rw [if_neg (by decide), if_neg (by decide)]
        obtain ⟨σ10, μ11, b1, b2, ⟨b3, b4, b5⟩, b6, b7, b8⟩ := B_swap a3 (a := i) (c := i + 1) (by omega) hin
        rw [b1, b2, ob_s, ob_s, bnd_s]
        obtain ⟨c3, c4, c5⟩ := B_scal b3 (p := 8) (w := 3) (Or.inr (Or.inl ⟨rfl, rfl⟩)) (μ11 1 3 + 1) (fun e => absurd e (by decide))
        rw [b3.2.1.1.2.2.1]
        generalize hσ11 : xu σ10 (1 + b) 8 (μ11 1 3 + 1) = σ11 at c3 c4
        generalize hμa : up2 μ11 1 3 (μ11 1 3 + 1) = μa at c3 c5
        obtain ⟨a, ha, ea⟩ := c3.1.2.2.2.2.2.1 i (by omega)
        obtain ⟨c, hc, ec⟩ := c3.1.2.2.2.2.2.1 (i + 1) hin
        obtain ⟨_, _, _, mva, _, _, _, gm, _, _, _, em⟩ := c3.1.2.2.2.2.2.2.2 a ha
        obtain ⟨d3, d4, d5⟩ := B_data c3 ha (w := 3) (by omega) (v := mva + 1) (x' := i + 1) (by omega) (by omega) ⟨fun e => absurd e (by decide), fun e => absurd e (by decide), fun e => absurd e (by decide), fun _ => by omega⟩
        generalize hσ15 : xu σ11 (30 + 6 * b + 3) a (nI (mva + 1)) = σ15 at d3 d4
        generalize hμb : up2 μa 1 (20 + 4 * a + 3) (nI (mva + 1)) = μb at d3 d5
        obtain ⟨_, _, _, mvc, _, _, _, gn, _, _, _, en⟩ := d3.1.2.2.2.2.2.2.2 c hc
        obtain ⟨e3, e4, e5⟩ := B_data d3 hc (w := 3) (by omega) (v := mvc + 1) (x' := i + 2) (by omega) (by omega) ⟨fun e => absurd e (by decide), fun e => absurd e (by decide), fun e => absurd e (by decide), fun _ => by omega⟩
        generalize hσ20 : xu σ15 (30 + 6 * b + 3) c (nI (mvc + 1)) = σ20 at e3 e4
        generalize hμc : up2 μb 1 (20 + 4 * c + 3) (nI (mvc + 1)) = μc at e3 e5
        obtain ⟨σ25, f1, f2, f3'⟩ := B_weigh e3 ha
        obtain ⟨σ28, k1, k2, k3⟩ := B_weigh f2 hc
        have o1 : xi σ11 (30 + 6 * b + 5) i = nI a := by rw [c3.2.1.2.1 i (by omega)]; exact ea
        have o2 : xi σ15 (30 + 6 * b + 5) (i + 1) = nI c := by rw [← hσ15, xi_un _ _ _ (by omega), c3.2.1.2.1 (i + 1) hin]; exact ec
        have o3 : xi σ20 (30 + 6 * b + 5) i = nI a := by rw [← hσ20, xi_un _ _ _ (by omega), ← hσ15, xi_un _ _ _ (by omega)]; exact o1
        have o4 : xi σ25 (30 + 6 * b + 5) (i + 1) = nI c := by rw [f2.2.1.2.1 (i + 1) hin, ← e3.2.1.2.1 (i + 1) hin, ← hσ20, xi_un _ _ _ (by omega)]; exact o2
        have m1 : xi σ11 (30 + 6 * b + 3) a = nI mva := by rw [(c3.2.1.2.2.1 a ha).2.2.2]; exact em
        have m2 : xi σ15 (30 + 6 * b + 3) c = nI mvc := by rw [(d3.2.1.2.2.1 c hc).2.2.2]; exact en
        rw [bnd_s, ck_in (by omega) (by omega), clampI (by omega), o1, ck_in (by omega) (by omega), ck_in (by omega) (by omega), bnd_s, clampI (by omega), m1, nI_1, hσ15, ck_in (by omega) (by omega), clampI (by omega), o2, ck_in (by omega) (by omega), ck_in (by omega) (by omega), clampI (by omega), m2, nI_1, hσ20, ck_in (by omega) (by omega), o3, f1, ob_s, ck_in (by omega) (by omega), o4, k1, ob_s, bnd_s, show nI i + 2 = nI (i + 2) from nI_add i 2]
        have n1 : μ11 1 (6 + i) = nI a := by rw [← ea, ← hμa, up2_s, pk_un (by omega)]
        have n2 : μ11 1 (23 + 4 * a) = nI mva := by rw [← em, ← hμa, up2_s, pk_un (by omega)]
        have n3 : (up2 μ11 1 (20 + 4 * a + 3) (nI (mva + 1))) 1 (6 + (i + 1)) = nI c := by rw [← ec, ← hμa, up2_s, up2_s, pk_un (by omega), pk_un (by omega)]
        have n4 : (up2 μ11 1 (20 + 4 * a + 3) (nI (mva + 1))) 1 (20 + 4 * c + 3) = nI mvc := by rw [← en, ← hμb, ← hμa, up2_comm _ _ _ (by omega), up2_s (up2 μ11 1 (20 + 4 * a + 3) (nI (mva + 1))), pk_un (by omega)]; congr 1; omega
        have n5 : (up2 (up2 μ11 1 (20 + 4 * a + 3) (nI (mva + 1))) 1 (20 + 4 * c + 3) (nI (mvc + 1))) 1 3 = μ11 1 3 := by rw [up2_s, pk_un (by omega), up2_s, pk_un (by omega)]
        have n6 : up2 (up2 (up2 μ11 1 (20 + 4 * a + 3) (nI (mva + 1))) 1 (20 + 4 * c + 3) (nI (mvc + 1))) 1 3 (μ11 1 3 + 1) = μc := by rw [← hμc, ← hμb, ← hμa, up2_comm (up2 μ11 1 (20 + 4 * a + 3) (nI (mva + 1))) _ _ (show 20 + 4 * c + 3 ≠ 3 by omega), up2_comm μ11 _ _ (show 20 + 4 * a + 3 ≠ 3 by omega)]
        rw [show (3 : Int32) = nI 3 from rfl, pl 6, nI_add, ck_in (by omega) (by omega), ck_in (by omega) (by omega), clampI (by omega), n1, M_of _ (by omega), ob_s, M_sets _ (by omega), ob_s, show 20 + 4 * a + 3 = 23 + 4 * a by omega, n2, nI_1, ← show 20 + 4 * a + 3 = 23 + 4 * a by omega, nI_1, ck_in (by omega) (by omega), ck_in (by omega) (by omega), clampI (by omega), show 6 + i + 1 = 6 + (i + 1) by omega, n3, M_of _ (by omega), ob_s, M_sets _ (by omega), ob_s, n4, nI_1, bnd_s, n5, n6, bnd_s]
        obtain ⟨σ', μ', z1, z2, z3, z4, z5⟩ := ih (i + 2) N1 N2 σ28 μc (by omega) (by omega) (by omega) (by omega) (BX_mono k2 (fun q hq => by
          rcases hq with ⟨⟨(h | h) | h, h2⟩, h3⟩
          · exact h
          · exact h2 h
          · exact h3 h))
        exact ⟨σ', μ', z1, z2, z3, XF_trans b4 (XF_trans c4 (XF_trans d4 (XF_trans e4 (XF_trans f3' (XF_trans k3 z4))))), MF_trans a4 (MF_trans b5 (MF_trans c5 (MF_trans d5 (MF_trans e5 z5))))⟩
    · refine ⟨σ, μ, ?_, ?_, BX_slack h (by omega) (by omega), XF_refl _ _, MF_refl _⟩
      · rw [fB_joltOnce_L7, nI_1, h.2.1.1.1, h.1.2.2.1, if_pos (nI_le (by omega) (by omega))]
      · rw [fM_goesOn_L9, nI_1, h.1.2.2.1, if_pos (nI_le (by omega) (by omega))]
theorem B_jolt1 {σ : XS} {b : Nat} {μ : MS} {R : Option (List Int32)} {n j : Nat} (h : BX σ b μ R n 16 j NoD) (hj : j < 20000) :
    ∃ μ', fM_goesOn_J158 μ = some μ' ∧ (fun (σ : XS) => bnd (xu σ (1 + b) 9 ((xi σ (1 + b) 9) + (1 : Int32))) fun σ32 => some σ32) σ = some (xu σ (1 + b) 9 (nI (j + 1))) ∧ BX (xu σ (1 + b) 9 (nI (j + 1))) b μ' R n 0 (j + 1) NoD ∧ XF σ b (xu σ (1 + b) 9 (nI (j + 1))) ∧ MF μ μ' := by
  unfold fM_goesOn_J158
  rw [bnd_s, h.1.2.2.2.1, nI_1]
  refine ⟨_, rfl, ?_, B_jolt h (by omega) hj⟩
  show bnd (xu σ (1 + b) 9 ((xi σ (1 + b) 9) + (1 : Int32))) (fun σ32 => some σ32) = _
  rw [bnd_s, h.2.1.1.2.2.2.1, h.1.2.2.2.1, nI_1]
theorem B_joltOnce {σ : XS} {b : Nat} {μ : MS} {R : Option (List Int32)} {n j : Nat} (h : BX σ b μ R n 0 j NoD) (hj : j < 20000) :
    ∃ σ' μ', fB_joltOnce σ b = some σ' ∧ fM_goesOn μ = some μ' ∧ BX σ' b μ' R n 0 (j + 1) NoD ∧ XF σ b σ' ∧ MF μ μ' := by
  have hn := h.1.1
  unfold fB_joltOnce fM_goesOn
  rw [h.2.1.1.2.2.2.1, h.1.2.2.2.1, show (2 : Int32) = nI 2 from rfl, pk_rem (by omega) (by omega) (by omega), bnd_s, bnd_s]
  obtain ⟨σ1, μ1, a1, a2, a3, a4, a5⟩ := B_joltL (b := b) (R := R) (n := n) (j := j) (fun (σ : XS) => if (xi σ (1 + b) 0) ≤ 0 then (
      bnd (xu σ (1 + b) 9 ((xi σ (1 + b) 9) + (1 : Int32))) fun σ32 =>
      some σ32)
    else (
      ob2 (fB_draw σ b) fun r35 σ36 =>
      if (xi σ36 (1 + b) 7) ≤ (r35 - r35 / (100 : Int32) * (100 : Int32)) then (
        bnd (xu σ36 (1 + b) 9 ((xi σ36 (1 + b) 9) + (1 : Int32))) fun σ38 =>
        some σ38)
      else (
        ob2 (fB_draw σ36 b) fun r41 σ42 =>
        nz (xi σ42 (1 + b) 0) <|
        ob (fB_move σ42 b (r41 - r41 / (xi σ42 (1 + b) 0) * (xi σ42 (1 + b) 0)) (0 : Int32)) fun σ45 =>
        bnd (xu σ45 (1 + b) 9 ((xi σ45 (1 + b) 9) + (1 : Int32))) fun σ46 =>
        some σ46))) (fun (μ : MS) => if (μ 1 0) ≤ 0 then (
      fM_goesOn_J158 μ)
    else (
      ob2 (fM_drawn μ) fun r32 μ33 =>
      if (μ33 1 4) ≤ (r32 - r32 / (100 : Int32) * (100 : Int32)) then (
        fM_goesOn_J158 μ33)
      else (
        ob2 (fM_drawn μ33) fun r36 μ37 =>
        nz (μ37 1 0) <|
        ob (fM_goesTo μ37 (r36 - r36 / (μ37 1 0) * (μ37 1 0)) (0 : Int32)) fun μ40 =>
        fM_goesOn_J158 μ40))) n (j % 2) 10000 10000 σ μ (by omega) (by omega) (by omega) (by omega) (BX_slack h (by omega) (by omega))
  rw [a1, a2]
  have e1 : xi σ1 (1 + b) 0 = nI n := by rw [a3.2.1.1.1]; exact a3.1.2.2.1
  rw [e1, a3.1.2.2.1]
  rcases Nat.eq_zero_or_pos n with hn0 | hn0
  · subst hn0
    rw [if_pos (by decide), if_pos (by decide)]
    obtain ⟨μ', b1, b2, b3, b4, b5⟩ := B_jolt1 a3 hj
    exact ⟨_, μ', b2, b1, b3, XF_trans a4 b4, MF_trans a5 b5⟩
  · rw [if_neg (nI_nle hn0 (by omega)), if_neg (nI_nle hn0 (by omega))]
    obtain ⟨r, σ2, μ2, hr, c1, c2, c3, c4, c5⟩ := B_draw a3
    rw [c1, c2, ob2_s, ob2_s, c3.2.1.1.2.1]
    by_cases hb : μ2 1 4 ≤ nI r - nI r / 100 * 100
    · rw [if_pos hb, if_pos hb]
      obtain ⟨μ', b1, b2, b3, b4, b5⟩ := B_jolt1 c3 hj
      exact ⟨_, μ', b2, b1, b3, XF_trans a4 (XF_trans c4 b4), MF_trans a5 (MF_trans c5 b5)⟩
    · rw [if_neg hb, if_neg hb]
      obtain ⟨r2, σ3, μ3, hr2, d1, d2, d3, d4, d5⟩ := B_draw c3
      have e3 : xi σ3 (1 + b) 0 = nI n := by rw [d3.2.1.1.1]; exact d3.1.2.2.1
      rw [d1, d2, ob2_s, ob2_s, e3, d3.1.2.2.1, nz_s (nI_ne0 hn0 (by omega)), nz_s (nI_ne0 hn0 (by omega)), pk_rem (by omega) hn0 (by omega)]
      obtain ⟨σ4, μ4, f1, f2, f3, f4, f5⟩ := B_move d3 (a := r2 % n) (c := 0) (Nat.mod_lt _ hn0) hn0
      rw [show (0 : Int32) = nI 0 from rfl, f1, f2, ob_s, ob_s]
      obtain ⟨μ', b1, b2, b3, b4, b5⟩ := B_jolt1 f3 hj
      exact ⟨_, μ', b2, b1, b3, XF_trans a4 (XF_trans c4 (XF_trans d4 (XF_trans f4 b4))), MF_trans a5 (MF_trans c5 (MF_trans d5 (MF_trans f5 b5)))⟩
/-- many jolts -/
theorem B_ride {b : Nat} {R : Option (List Int32)} {n q : Nat} (kx : XS → Option XS) (km : MS → Option MS) (hq : q < 2 ^ 30) : ∀ (d i N1 N2 j : Nat) (σ : XS) (μ : MS), q - i = d → d < N1 → d < N2 → i ≤ q → j + d ≤ 20000 → BX σ b μ R n 0 j NoD →
    ∃ σ' μ', fB_ride_L2 b kx N1 (nI q) (nI i) σ = kx σ' ∧ fM_goesOnMany_L2 km N2 (nI q) (nI i) μ = km μ' ∧ BX σ' b μ' R n 0 (j + d) NoD ∧ XF σ b σ' ∧ MF μ μ' := by
  intro d
  induction d with
  | zero =>
    intro i N1 N2 j σ μ hd h1 h2 hi hj h
    obtain ⟨N1, rfl⟩ : ∃ m, N1 = m + 1 := ⟨N1 - 1, by omega⟩
    obtain ⟨N2, rfl⟩ : ∃ m, N2 = m + 1 := ⟨N2 - 1, by omega⟩
    refine ⟨σ, μ, ?_, ?_, h, XF_refl _ _, MF_refl _⟩
    · rw [fB_ride_L2, if_pos (nI_le (by omega) (by omega))]
    · rw [fM_goesOnMany_L2, if_pos (nI_le (by omega) (by omega))]
  | succ d ih =>
    intro i N1 N2 j σ μ hd h1 h2 hi hj h
    obtain ⟨N1, rfl⟩ : ∃ m, N1 = m + 1 := ⟨N1 - 1, by omega⟩
    obtain ⟨N2, rfl⟩ : ∃ m, N2 = m + 1 := ⟨N2 - 1, by omega⟩
    obtain ⟨σ1, μ1, a1, a2, a3, a4, a5⟩ := B_joltOnce h (by omega)
    rw [fB_ride_L2, fM_goesOnMany_L2, if_neg (nI_ge (by omega) (by omega)), if_neg (nI_ge (by omega) (by omega)), a1, a2, ob_s, ob_s, bnd_s, bnd_s, nI_1]
    obtain ⟨σ', μ', b1, b2, b3, b4, b5⟩ := ih (i + 1) N1 N2 (j + 1) σ1 μ1 (by omega) (by omega) (by omega) (by omega) (by omega) a3
    exact ⟨σ', μ', b1, b2, by rw [show j + (d + 1) = j + 1 + d by omega]; exact b3, XF_trans a4 b4, MF_trans a5 b5⟩
/-- the whole bag turned over -/
theorem B_turnL {b : Nat} {R : Option (List Int32)} {n x j : Nat} (kx : XS → Option XS) (km : MS → Option MS) : ∀ (d i N1 N2 : Nat) (σ : XS) (μ : MS), n / 2 - i = d → i ≤ 14 → d < N1 → d < N2 → BX σ b μ R n x j NoD →
    ∃ σ' μ', fB_turnOver_L2 b kx N1 (nI i) σ = kx σ' ∧ fM_turnsOver_L2 km N2 (nI i) μ = km μ' ∧ BX σ' b μ' R n x j NoD ∧ XF σ b σ' ∧ MF μ μ' := by
  intro d
  induction d with
  | zero =>
    intro i N1 N2 σ μ hd hi h1 h2 h
    obtain ⟨N1, rfl⟩ : ∃ m, N1 = m + 1 := ⟨N1 - 1, by omega⟩
    obtain ⟨N2, rfl⟩ : ∃ m, N2 = m + 1 := ⟨N2 - 1, by omega⟩
    have hn := h.1.1
    refine ⟨σ, μ, ?_, ?_, h, XF_refl _ _, MF_refl _⟩
    · rw [fB_turnOver_L2, h.2.1.1.1, h.1.2.2.1, show (2 : Int32) = nI 2 from rfl, pk_div (by omega) (by omega) (by omega), if_pos (nI_le (by omega) (by omega))]
    · rw [fM_turnsOver_L2, h.1.2.2.1, show (2 : Int32) = nI 2 from rfl, pk_div (by omega) (by omega) (by omega), if_pos (nI_le (by omega) (by omega))]
  | succ d ih =>
    intro i N1 N2 σ μ hd hi h1 h2 h
    obtain ⟨N1, rfl⟩ : ∃ m, N1 = m + 1 := ⟨N1 - 1, by omega⟩
    obtain ⟨N2, rfl⟩ : ∃ m, N2 = m + 1 := ⟨N2 - 1, by omega⟩
    have hn := h.1.1
    obtain ⟨σ1, μ1, a1, a2, ⟨a3, a4, a5⟩, _⟩ := B_swap h (a := i) (c := n - 1 - i) (by omega) (by omega)
    rw [fB_turnOver_L2, fM_turnsOver_L2, h.2.1.1.1, h.1.2.2.1, show (2 : Int32) = nI 2 from rfl, pk_div (by omega) (by omega) (by omega), if_neg (nI_ge (by omega) (by omega)), if_neg (nI_ge (by omega) (by omega)), show nI n - 1 - nI i = nI (n - 1 - i) by rw [show (1 : Int32) = nI 1 from rfl, pk_sub (by omega), pk_sub (by omega)], a1, a2, ob_s, ob_s, bnd_s, bnd_s, nI_1]
    obtain ⟨σ', μ', b1, b2, b3, b4, b5⟩ := ih (i + 1) N1 N2 σ1 μ1 (by omega) (by omega) (by omega) (by omega) a3
    exact ⟨σ', μ', b1, b2, b3, XF_trans a4 b4, MF_trans a5 b5⟩
theorem B_turn {σ : XS} {b : Nat} {μ : MS} {R : Option (List Int32)} {n x j : Nat} (h : BX σ b μ R n x j NoD) :
    ∃ σ' μ', fB_turnOver σ b = some σ' ∧ fM_turnsOver μ = some μ' ∧ BX σ' b μ' R n x j NoD ∧ XF σ b σ' ∧ MF μ μ' := by
  have hn := h.1.1
  unfold fB_turnOver fM_turnsOver
  obtain ⟨σ', μ', b1, b2, b3⟩ := B_turnL (b := b) (R := R) (n := n) (x := x) (j := j) (fun (σ : XS) => some σ) (fun (μ : MS) => some μ) (n / 2) 0 10000 10000 σ μ (by omega) (by omega) (by omega) (by omega) h
  exact ⟨σ', μ', b1, b2, b3⟩
