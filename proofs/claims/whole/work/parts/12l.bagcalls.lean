/-! the calls on the bag -/
theorem up2_id {μ : MS} {c i : Nat} {v : Int32} (h : μ c i = v) : up2 μ c i v = μ := by
  funext d
  by_cases hd : d = c
  · subst hd
    rw [up2_s]
    funext m
    unfold upd
    by_cases e : m = i
    · rw [if_pos e, e, h]
    · rw [if_neg e]
  · rw [up2_n _ _ _ hd]
theorem M_becomes (μ : MS) {q : Nat} (h : q < 3076) (v : Int32) : fM_becomes μ (nI q) v = some (μ 1 q, up2 μ 1 q v) := by
  unfold fM_becomes
  rw [ck_in h (by omega), bnd_s, ck_in h (by omega), bnd_s, clampI (by omega)]
theorem B_become {σ : XS} {b : Nat} {μ : MS} {R : Option (List Int32)} {n x j : Nat} (h : BX σ b μ R n x j NoD) {k : Nat} (hk : k < n) {kd th tn : Nat} (h1 : kd ≤ 5) (h2 : 1 ≤ th ∧ th ≤ 99) (h3 : tn ≤ 9) :
    ∃ σ', fB_become σ b (nI k) (nI kd) (nI th) (nI tn) = some σ' ∧ BX σ' b (up2 (up2 (up2 μ 1 (20 + 4 * k + 0) (nI kd)) 1 (20 + 4 * k + 1) (nI th)) 1 (20 + 4 * k + 2) (nI tn)) R n x j NoD ∧ XF σ b σ' ∧ MF μ (up2 (up2 (up2 μ 1 (20 + 4 * k + 0) (nI kd)) 1 (20 + 4 * k + 1) (nI th)) 1 (20 + 4 * k + 2) (nI tn)) := by
  have hn := h.1.1
  have hx := h.1.2.1.2
  obtain ⟨a1, a2, a3⟩ := B_data h hk (w := 0) (by omega) (v := kd) (x' := x) (by omega) hx ⟨fun _ => h1, fun e => absurd e (by decide), fun e => absurd e (by decide), fun e => absurd e (by decide)⟩
  obtain ⟨b1, b2, b3⟩ := B_data a1 hk (w := 1) (by omega) (v := th) (x' := x) (by omega) hx ⟨fun e => absurd e (by decide), fun _ => h2, fun e => absurd e (by decide), fun e => absurd e (by decide)⟩
  obtain ⟨c1, c2, c3⟩ := B_data b1 hk (w := 2) (by omega) (v := tn) (x' := x) (by omega) hx ⟨fun e => absurd e (by decide), fun e => absurd e (by decide), fun _ => h3, fun e => absurd e (by decide)⟩
  obtain ⟨σ', d1, d2, d3⟩ := B_weigh c1 hk
  refine ⟨σ', ?_, BX_mono d2 (fun q hq => ?_), XF_trans a2 (XF_trans b2 (XF_trans c2 d3)), MF_trans a3 (MF_trans b3 c3)⟩
  · unfold fB_become
    rw [ck_in (by omega) (by omega), bnd_s, ck_in (by omega) (by omega), bnd_s, ck_in (by omega) (by omega), bnd_s, clampI (by omega), d1, ob_s]
  · rcases hq with ⟨((h | h) | h) | h, h2⟩
    · exact h
    · exact h2 h
    · exact h2 h
    · exact h2 h
/-- one datum becomes another -/
theorem B_set {σ : XS} {b : Nat} {μ : MS} {R : Option (List Int32)} {n x j : Nat} (h : BX σ b μ R n x j NoD) {k : Nat} (hk : k < n) {w v : Nat} (hw : w < 3) (hv : (w = 0 → v ≤ 5) ∧ (w = 1 → 1 ≤ v ∧ v ≤ 99) ∧ (w = 2 → v ≤ 9)) :
    ∃ σ', fB_become σ b (nI k) (if w = 0 then nI v else xi σ (30 + 6 * b + 0) k) (if w = 1 then nI v else xi σ (30 + 6 * b + 1) k) (if w = 2 then nI v else xi σ (30 + 6 * b + 2) k) = some σ' ∧ BX σ' b (up2 μ 1 (20 + 4 * k + w) (nI v)) R n x j NoD ∧ XF σ b σ' ∧ MF μ (up2 μ 1 (20 + 4 * k + w) (nI v)) := by
  obtain ⟨kd, th, tn, mv, g1, g2, g3, g4, g5, g6, g7, g8⟩ := h.1.2.2.2.2.2.2.2 k hk
  obtain ⟨q0, q1, q2, q3⟩ := h.2.1.2.2.1 k hk
  rw [q0, q1, q2, g5, g6, g7]
  have hw3 : w = 0 ∨ w = 1 ∨ w = 2 := by omega
  rcases hw3 with rfl | rfl | rfl
  · obtain ⟨σ', a1, a2, a3, a4⟩ := B_become h hk (kd := v) (th := th) (tn := tn) (hv.1 rfl) g2 g3
    have e1 : (up2 μ 1 (20 + 4 * k + 0) (nI v)) 1 (20 + 4 * k + 1) = nI th := by rw [up2_s, pk_un (by omega), show 20 + 4 * k + 1 = 21 + 4 * k by omega]; exact g6
    rw [up2_id e1] at a2 a4
    have e2 : (up2 μ 1 (20 + 4 * k + 0) (nI v)) 1 (20 + 4 * k + 2) = nI tn := by rw [up2_s, pk_un (by omega), show 20 + 4 * k + 2 = 22 + 4 * k by omega]; exact g7
    rw [up2_id e2] at a2 a4
    exact ⟨σ', a1, a2, a3, a4⟩
  · obtain ⟨σ', a1, a2, a3, a4⟩ := B_become h hk (kd := kd) (th := v) (tn := tn) g1 (hv.2.1 rfl) g3
    have e1 : μ 1 (20 + 4 * k + 0) = nI kd := g5
    rw [up2_id e1] at a2 a4
    have e2 : (up2 μ 1 (20 + 4 * k + 1) (nI v)) 1 (20 + 4 * k + 2) = nI tn := by rw [up2_s, pk_un (by omega), show 20 + 4 * k + 2 = 22 + 4 * k by omega]; exact g7
    rw [up2_id e2] at a2 a4
    exact ⟨σ', a1, a2, a3, a4⟩
  · obtain ⟨σ', a1, a2, a3, a4⟩ := B_become h hk (kd := kd) (th := th) (tn := v) g1 g2 (hv.2.2 rfl)
    have e1 : μ 1 (20 + 4 * k + 0) = nI kd := g5
    rw [up2_id e1] at a2 a4
    have e2 : μ 1 (20 + 4 * k + 1) = nI th := by rw [show 20 + 4 * k + 1 = 21 + 4 * k by omega]; exact g6
    rw [up2_id e2] at a2 a4
    exact ⟨σ', a1, a2, a3, a4⟩
theorem L_turns : Ls_turns Re := by
  intro σ μ x1 x2 hRe
  obtain ⟨T, n, j, hT, hj, hB, hI⟩ := id hRe
  have hn := hB.1.1
  unfold fX_turns fM_turns
  rcases B_one hB x1 with ⟨k, hk, rfl, a1, a2⟩ | ⟨a1, a2⟩
  · rw [a1, a2, ob_s, ob_s, i1, i1, X_kind, ob_s, M_in μ x2 (a := 0) (b := 5) rfl rfl, ob_s]
    by_cases h1 : 0 ≤ x2.toInt ∧ x2.toInt ≤ 5
    · obtain ⟨v, v1, v2, rfl⟩ := rng (a := 0) (b := 5) h1
      obtain ⟨σ', b1, b2, b3, b4⟩ := B_set hB hk (w := 0) (v := v) (by omega) ⟨fun _ => v2, fun e => absurd e (by decide), fun e => absurd e (by decide)⟩
      rw [ite1 h1, ite1 h1, ck_in (by omega) (by omega), bnd_s, ck_in (by omega) (by omega), ck_in (by omega) (by omega), clampI (by omega), pl 20, pl 4, pk_mul, nI_add, M_becomes μ (by omega), ob2_s, (hB.2.1.2.2.1 k hk).1]
      rw [show fB_become σ 0 (nI k) (nI v) (xi σ (30 + 6 * 0 + 1) k) (xi σ (30 + 6 * 0 + 2) k) = some σ' from b1, ob_s]
      exact ⟨_, σ', _, rfl, rfl, Re_bag hT hB hI b2 hj b3 b4⟩
    · rw [ite0 h1, ite0 h1]; exact ⟨_, σ, μ, rfl, rfl, hRe⟩
  · rw [a1, a2, ob_s, ob_s, i0, i0]
    exact ⟨_, σ, μ, rfl, rfl, hRe⟩
theorem L_set : Ls_set Re := by
  intro σ μ x1 x2 x3 hRe
  obtain ⟨T, n, j, hT, hj, hB, hI⟩ := id hRe
  have hn := hB.1.1
  unfold fX_set fM_set
  rcases B_one hB x1 with ⟨k, hk, rfl, a1, a2⟩ | ⟨a1, a2⟩
  · rw [a1, a2, ob_s, ob_s, i1, i1, ck_in (by omega) (by omega), bnd_s, ck_in (by omega) (by omega), bnd_s, clampI (by omega), M_in μ x2 (a := 1) (b := 2) rfl rfl, ob_s]
    obtain ⟨q0, q1, q2, q3⟩ := hB.2.1.2.2.1 k hk
    by_cases h1 : x2 = 1
    · rw [ite1 (by rw [h1]; decide), if_pos h1, if_pos h1]
      unfold fM_set_J32
      rw [if_pos h1]
      unfold fM_set_J46
      rw [X_thick, ob_s, M_in μ x3 (a := 1) (b := 99) rfl rfl, ob_s]
      by_cases h2 : 1 ≤ x3.toInt ∧ x3.toInt ≤ 99
      · obtain ⟨v, v1, v2, rfl⟩ := rng (a := 1) (b := 99) h2
        obtain ⟨σ', b1, b2, b3, b4⟩ := B_set hB hk (w := 1) (v := v) (by omega) ⟨fun e => absurd e (by decide), fun _ => ⟨v1, v2⟩, fun e => absurd e (by decide)⟩
        rw [ite1 h2, ite1 h2, ck_in (by omega) (by omega), h1, pl 20, pl 4, pk_mul, nI_add, show (1 : Int32) = nI 1 from rfl, nI_add, M_becomes μ (by omega), ob2_s, q1]
        rw [show fB_become σ 0 (nI k) (xi σ (30 + 6 * 0 + 0) k) (nI v) (xi σ (30 + 6 * 0 + 2) k) = some σ' from b1, ob_s]
        exact ⟨_, σ', _, rfl, by rw [show 20 + 4 * k + 1 = 21 + 4 * k by omega], by rw [← show 20 + 4 * k + 1 = 21 + 4 * k by omega]; exact Re_bag hT hB hI b2 hj b3 b4⟩
      · rw [ite0 h2, ite0 h2]
        unfold fX_set_J71
        rw [if_neg (by rw [h1]; decide)]
        exact ⟨_, σ, μ, rfl, rfl, hRe⟩
    · rw [if_neg h1]
      unfold fX_set_J71
      by_cases h3 : x2 = 2
      · rw [if_pos h3, ite1 (by rw [h3]; decide), if_neg h1]
        unfold fM_set_J32
        rw [if_neg h1]
        unfold fM_set_J46
        rw [X_town, ob_s, M_in μ x3 (a := 0) (b := 9) rfl rfl, ob_s]
        by_cases h2 : 0 ≤ x3.toInt ∧ x3.toInt ≤ 9
        · obtain ⟨v, v1, v2, rfl⟩ := rng (a := 0) (b := 9) h2
          obtain ⟨σ', b1, b2, b3, b4⟩ := B_set hB hk (w := 2) (v := v) (by omega) ⟨fun e => absurd e (by decide), fun e => absurd e (by decide), fun _ => v2⟩
          rw [ite1 h2, ite1 h2, ck_in (by omega) (by omega), clampI (by omega), h3, pl 20, pl 4, pk_mul, nI_add, show (2 : Int32) = nI 2 from rfl, nI_add, M_becomes μ (by omega), ob2_s]
          rw [show fB_become σ 0 (nI k) (xi σ (30 + 6 * 0 + 0) k) (xi σ (30 + 6 * 0 + 1) k) (nI v) = some σ' from b1, ob_s, q2]
          exact ⟨_, σ', _, rfl, by rw [show 20 + 4 * k + 2 = 22 + 4 * k by omega], by rw [← show 20 + 4 * k + 2 = 22 + 4 * k by omega]; exact Re_bag hT hB hI b2 hj b3 b4⟩
        · rw [ite0 h2, ite0 h2]
          exact ⟨_, σ, μ, rfl, rfl, hRe⟩
      · have h4 : ¬ (1 ≤ x2.toInt ∧ x2.toInt ≤ 2) := fun h => by
          obtain ⟨v, v1, v2, rfl⟩ := rng (a := 1) (b := 2) h
          have : v = 1 ∨ v = 2 := by omega
          rcases this with rfl | rfl
          · exact h1 rfl
          · exact h3 rfl
        rw [if_neg h3, ite0 h4]
        exact ⟨_, σ, μ, rfl, rfl, hRe⟩
  · rw [a1, a2, ob_s, ob_s, i0, i0]
    exact ⟨_, σ, μ, rfl, rfl, hRe⟩
theorem L_puts : Ls_puts Re := by
  intro σ μ x1 x2 hRe
  obtain ⟨T, n, j, hT, hj, hB, hI⟩ := id hRe
  unfold fX_puts fM_puts
  rcases B_one hB x1 with ⟨k, hk, rfl, a1, a2⟩ | ⟨a1, a2⟩
  · rw [a1, a2, ob_s, ob_s, i1, i1]
    rcases B_one hB x2 with ⟨q, hq, rfl, b1, b2⟩ | ⟨b1, b2⟩
    · obtain ⟨p, p1, p2, p3, p4⟩ := B_placeOf hB hk
      obtain ⟨σ', μ', c1, c2, c3, c4, c5⟩ := B_move hB p1 hq
      rw [b1, b2, ob_s, ob_s, i1, i1, p3, p4, ob_s, ob_s, c1, c2, ob_s, ob_s]
      exact ⟨_, σ', μ', rfl, rfl, Re_bag hT hB hI c3 hj c4 c5⟩
    · rw [b1, b2, ob_s, ob_s, i0, i0]
      exact ⟨_, σ, μ, rfl, rfl, hRe⟩
  · rw [a1, a2, ob_s, ob_s, i0, i0]
    exact ⟨_, σ, μ, rfl, rfl, hRe⟩
theorem L_at : Ls_at Re := by
  intro σ μ x1 hRe
  obtain ⟨T, n, j, hT, hj, hB, hI⟩ := id hRe
  have hn := hB.1.1
  unfold fX_at fM_at
  rcases B_one hB x1 with ⟨k, hk, rfl, a1, a2⟩ | ⟨a1, a2⟩
  · rw [a1, a2, ob_s, ob_s, i1, i1, ck_in (by omega) (by omega), clampI (by omega), hB.2.1.2.1 k hk, pl 6, nI_add, ck_in (by omega) (by omega), clampI (by omega)]
    exact ⟨_, rfl, rfl⟩
  · rw [a1, a2, ob_s, ob_s, i0, i0]
    exact ⟨_, rfl, rfl⟩
theorem L_halt : Ls_halt Re := by
  intro σ μ hRe
  obtain ⟨T, n, j, hT, hj, hB, hI⟩ := id hRe
  obtain ⟨σ', μ', c1, c2, c3, c4, c5⟩ := B_turn hB
  unfold fX_halt fM_halt
  rw [c1, c2, ob_s, ob_s, B_n c3, c3.1.2.2.1]
  exact ⟨_, σ', μ', rfl, rfl, Re_bag hT hB hI c3 hj c4 c5⟩
theorem L_bump : Ls_bump Re := by
  intro σ μ x1 hRe
  obtain ⟨T, n, j, hT, hj, hB, hI⟩ := id hRe
  unfold fX_bump fM_bump
  rw [X_in σ x1 (a := 0) (b := 100) rfl rfl, ob_s, M_in μ x1 (a := 0) (b := 100) rfl rfl, ob_s]
  by_cases h1 : 0 ≤ x1.toInt ∧ x1.toInt ≤ 100
  · obtain ⟨v, v1, v2, rfl⟩ := rng (a := 0) (b := 100) h1
    obtain ⟨c3, c4, c5⟩ := B_scal hB (p := 7) (w := 4) (Or.inl ⟨rfl, rfl⟩) (nI v) (fun _ => ⟨v, v2, rfl⟩)
    rw [ite1 h1, ite1 h1, bnd_s, bnd_s, show (4 : Int32) = nI 4 from rfl, M_becomes μ (by omega), ob2_s, hB.2.1.1.2.1]
    exact ⟨_, _, _, rfl, rfl, Re_bag hT hB hI c3 hj c4 c5⟩
  · rw [ite0 h1, ite0 h1]
    exact ⟨_, σ, μ, rfl, rfl, hRe⟩
theorem L_seed : Ls_seed Re := by
  intro σ μ x1 hRe
  obtain ⟨T, n, j, hT, hj, hB, hI⟩ := id hRe
  unfold fX_seed fM_seed
  obtain ⟨c3, c4, c5⟩ := B_scal hB (p := 10) (w := 5) (Or.inr (Or.inr ⟨rfl, rfl⟩)) x1 (fun e => absurd e (by decide))
  rw [bnd_s, bnd_s, show (5 : Int32) = nI 5 from rfl, M_becomes μ (by omega), ob2_s, hB.2.1.1.2.2.2.2]
  exact ⟨_, _, _, rfl, rfl, Re_bag hT hB hI c3 hj c4 c5⟩
theorem L_bag : Ls_bag Re := by
  intro σ μ x1 hRe
  obtain ⟨T, n, j, hT, hj, hB, hI⟩ := id hRe
  unfold fX_bag fM_bag
  by_cases h0 : x1 = 0
  · obtain ⟨r, μ', c0, c1, c2, c3, c4, c5⟩ := B_mess hB
    rw [if_pos h0, if_pos h0, c1, c2, ob_s, ob2_s]
    exact ⟨_, μ', rfl, rfl, Re_bag hT hB hI c3 hj (XF_refl _ _) c4⟩
  rw [if_neg h0, if_neg h0]
  by_cases h1 : x1 = 1
  · obtain ⟨r, c1, c2⟩ := B_layers hB
    rw [if_pos h1, if_pos h1, c1, c2, ob_s, ob_s]
    exact ⟨_, μ, rfl, rfl, hRe⟩
  rw [if_neg h1, if_neg h1]
  by_cases h2 : x1 = 2
  · rw [if_pos h2, if_pos h2, hB.2.1.1.2.2.1]
    exact ⟨_, μ, rfl, rfl, hRe⟩
  rw [if_neg h2, if_neg h2]
  by_cases h3 : x1 = 3
  · obtain ⟨r, μ', c1, c2, c3, c4, c5⟩ := B_climbers hB
    rw [if_pos h3, if_pos h3, c1, c2, ob_s, ob2_s]
    exact ⟨_, μ', rfl, rfl, Re_bag hT hB hI c3 hj (XF_refl _ _) c4⟩
  rw [if_neg h3, if_neg h3]
  by_cases h4 : x1 = 4
  · obtain ⟨r, c1, c2⟩ := B_thickOfAll hB
    rw [if_pos h4, if_pos h4, c1, c2, ob_s, ob_s]
    exact ⟨_, μ, rfl, rfl, hRe⟩
  rw [if_neg h4, if_neg h4]
  exact ⟨_, μ, rfl, rfl, hRe⟩
theorem minI {a b : Nat} (ha : a < 2 ^ 31) (hb : b < 2 ^ 31) : (if nI a < nI b then nI a else nI b) = nI (min a b) := by
  by_cases h : a < b
  · rw [if_pos ((nI_ltI ha hb).mpr h), Nat.min_eq_left (by omega)]
  · rw [if_neg (fun e => h ((nI_ltI ha hb).mp e)), Nat.min_eq_right (by omega)]
theorem B_dealL {R : Option (List Int32)} {j q : Nat} (kx : Int32 → XS → Option (Int32 × XS)) (km : Int32 → MS → Option (Int32 × MS)) (y : Nat) (hy : y ≤ 14) : ∀ (d i N1 N2 n : Nat) (σ : XS) (μ : MS), q - i = d → i ≤ q → q ≤ y → (q = y ∨ n + d = 14) → n + d ≤ 14 → d < N1 → d < N2 → BX σ 0 μ R n 0 j NoD →
    ∃ σ' μ' n', fX_deal_L30 kx N1 (nI q) (nI i) σ = kx (nI q) σ' ∧ fM_deal_L17 km N2 (nI y) (nI i) μ = km (nI q) μ' ∧ BX σ' 0 μ' R n' 0 j NoD ∧ XF σ 0 σ' ∧ MF μ μ' := by
  intro d
  induction d with
  | zero =>
    intro i N1 N2 n σ μ hd hi hq hqy hnd h1 h2 h
    obtain ⟨N1, rfl⟩ : ∃ m, N1 = m + 1 := ⟨N1 - 1, by omega⟩
    obtain ⟨N2, rfl⟩ : ∃ m, N2 = m + 1 := ⟨N2 - 1, by omega⟩
    have hiq : i = q := by omega
    subst hiq
    refine ⟨σ, μ, n, ?_, ?_, h, XF_refl _ _, MF_refl _⟩
    · rw [fX_deal_L30, if_pos (nI_le (by omega) (by omega))]
    · rw [fM_deal_L17]
      rcases hqy with e | e
      · rw [if_pos (nI_le (by omega) (by omega))]
      · by_cases hy2 : y ≤ i
        · rw [if_pos (nI_le hy2 (by omega))]
        · rw [if_neg (nI_ge (by omega) (by omega)), h.1.2.2.1, show (14 : Int32) = nI 14 from rfl, if_pos (nI_le (by omega) (by omega))]
  | succ d ih =>
    intro i N1 N2 n σ μ hd hi hq hqy hnd h1 h2 h
    obtain ⟨N1, rfl⟩ : ∃ m, N1 = m + 1 := ⟨N1 - 1, by omega⟩
    obtain ⟨N2, rfl⟩ : ∃ m, N2 = m + 1 := ⟨N2 - 1, by omega⟩
    obtain ⟨r1, σ1, μ1, hr1, a1, a2, a3, a4, a5⟩ := B_draw h
    obtain ⟨r2, σ2, μ2, hr2, b1, b2, b3, b4, b5⟩ := B_draw a3
    obtain ⟨r3, σ3, μ3, hr3, c1, c2, c3, c4, c5⟩ := B_draw b3
    obtain ⟨σ4, μ4, d1, d2, d3, d4, d5⟩ := B_add c3 (kd := r1 % 6) (th := 1 + r2 % 99) (tn := r3 % 10) (by omega) (by omega) (by omega) (by omega)
    rw [fX_deal_L30, if_neg (nI_ge (by omega) (by omega)), a1, ob2_s, show (6 : Int32) = nI 6 from rfl, pk_rem (by omega) (by omega) (by omega), bnd_s, b1, ob2_s, show (99 : Int32) = nI 99 from rfl, pk_rem (by omega) (by omega) (by omega), show (1 : Int32) + nI (r2 % 99) = nI (1 + r2 % 99) from nI_add 1 _, bnd_s, c1, ob2_s, show (10 : Int32) = nI 10 from rfl, pk_rem (by omega) (by omega) (by omega), bnd_s, d1, ob2_s, bnd_s, nI_1]
    rw [fM_deal_L17, if_neg (nI_ge (by omega) (by omega)), h.1.2.2.1, show (14 : Int32) = nI 14 from rfl, if_neg (nI_ge (by omega) (by omega)), a2, ob2_s, show (6 : Int32) = nI 6 from rfl, pk_rem (by omega) (by omega) (by omega), bnd_s, b2, ob2_s, show (99 : Int32) = nI 99 from rfl, pk_rem (by omega) (by omega) (by omega), show (1 : Int32) + nI (r2 % 99) = nI (1 + r2 % 99) from nI_add 1 _, bnd_s, c2, ob2_s, show (10 : Int32) = nI 10 from rfl, pk_rem (by omega) (by omega) (by omega), d2, ob_s, bnd_s, nI_1]
    obtain ⟨σ', μ', n', e1, e2, e3, e4, e5⟩ := ih (i + 1) N1 N2 (n + 1) σ4 μ4 (by omega) (by omega) hq (by omega) (by omega) (by omega) (by omega) d3
    exact ⟨σ', μ', n', e1, e2, e3, XF_trans a4 (XF_trans b4 (XF_trans c4 (XF_trans d4 e4))), MF_trans a5 (MF_trans b5 (MF_trans c5 (MF_trans d5 e5)))⟩
theorem L_deal : Ls_deal Re := by
  intro σ μ x1 hRe
  obtain ⟨T, n, j, hT, hj, hB, hI⟩ := id hRe
  have hn := hB.1.1
  unfold fX_deal fM_deal
  rw [X_in σ x1 (a := 1) (b := 14) rfl rfl, ob_s, M_in μ x1 (a := 1) (b := 14) rfl rfl, ob_s]
  by_cases h1 : 1 ≤ x1.toInt ∧ x1.toInt ≤ 14
  · obtain ⟨y, v1, v2, rfl⟩ := rng (a := 1) (b := 14) h1
    rw [ite1 h1, ite1 h1, B_n hB, show (14 : Int32) = nI 14 from rfl, pk_sub hn, minI (by omega) (by omega), bnd_s]
    obtain ⟨σ', μ', n', e1, e2, e3, e4, e5⟩ := B_dealL (R := lastT T 0) (j := j) (q := min (14 - n) y) (fun (x2 : Int32) (σ : XS) => some (x2, σ)) (fun (x2 : Int32) (μ : MS) => some (x2, μ)) y v2 (min (14 - n) y) 0 10000 10000 n σ μ (by omega) (by omega) (by omega) (by omega) (by omega) (by omega) (by omega) hB
    exact ⟨_, σ', μ', e1, e2, Re_bag hT hB hI e3 hj e4 e5⟩
  · rw [ite0 h1, ite0 h1]
    exact ⟨_, σ, μ, rfl, rfl, hRe⟩
theorem B_joltsL {R : Option (List Int32)} {n q y : Nat} (kx : XS → Option XS) (km : Int32 → MS → Option (Int32 × MS)) (v : Int32) (hy : y ≤ 100) : ∀ (d i N1 N2 j : Nat) (σ : XS) (μ : MS), q - i = d → i ≤ q → q ≤ y → (q = y ∨ j + d = 9999) → j + d ≤ 9999 → d < N1 → d < N2 → BX σ 0 μ R n 0 j NoD →
    ∃ σ' μ', fB_ride_L2 0 kx N1 (nI q) (nI i) σ = kx σ' ∧ fM_jolts_L24 km N2 (nI y) v (nI i) μ = km v μ' ∧ BX σ' 0 μ' R n 0 (j + d) NoD ∧ XF σ 0 σ' ∧ MF μ μ' := by
  intro d
  induction d with
  | zero =>
    intro i N1 N2 j σ μ hd hi hq hqy hnd h1 h2 h
    obtain ⟨N1, rfl⟩ : ∃ m, N1 = m + 1 := ⟨N1 - 1, by omega⟩
    obtain ⟨N2, rfl⟩ : ∃ m, N2 = m + 1 := ⟨N2 - 1, by omega⟩
    have hiq : i = q := by omega
    subst hiq
    refine ⟨σ, μ, ?_, ?_, h, XF_refl _ _, MF_refl _⟩
    · rw [fB_ride_L2, if_pos (nI_le (by omega) (by omega))]
    · rw [fM_jolts_L24]
      rcases hqy with e | e
      · rw [if_pos (nI_le (by omega) (by omega))]
      · by_cases hy2 : y ≤ i
        · rw [if_pos (nI_le hy2 (by omega))]
        · rw [if_neg (nI_ge (by omega) (by omega)), h.1.2.2.2.1, show (9999 : Int32) = nI 9999 from rfl, if_pos (nI_le (by omega) (by omega))]
  | succ d ih =>
    intro i N1 N2 j σ μ hd hi hq hqy hnd h1 h2 h
    obtain ⟨N1, rfl⟩ : ∃ m, N1 = m + 1 := ⟨N1 - 1, by omega⟩
    obtain ⟨N2, rfl⟩ : ∃ m, N2 = m + 1 := ⟨N2 - 1, by omega⟩
    obtain ⟨σ1, μ1, a1, a2, a3, a4, a5⟩ := B_joltOnce h (by omega)
    rw [fB_ride_L2, if_neg (nI_ge (by omega) (by omega)), a1, ob_s, bnd_s, nI_1]
    rw [fM_jolts_L24, if_neg (nI_ge (by omega) (by omega)), h.1.2.2.2.1, show (9999 : Int32) = nI 9999 from rfl, if_neg (nI_ge (by omega) (by omega)), a2, ob_s, bnd_s, nI_1]
    obtain ⟨σ', μ', e1, e2, e3, e4, e5⟩ := ih (i + 1) N1 N2 (j + 1) σ1 μ1 (by omega) (by omega) hq (by omega) (by omega) (by omega) (by omega) a3
    exact ⟨σ', μ', e1, e2, by rw [show j + (d + 1) = j + 1 + d by omega]; exact e3, XF_trans a4 e4, MF_trans a5 e5⟩
theorem L_jolts : Ls_jolts Re := by
  intro σ μ x1 hRe
  obtain ⟨T, n, j, hT, hj, hB, hI⟩ := id hRe
  unfold fX_jolts fM_jolts
  rw [X_in σ x1 (a := 1) (b := 100) rfl rfl, ob_s, M_in μ x1 (a := 1) (b := 100) rfl rfl, ob_s]
  by_cases h1 : 1 ≤ x1.toInt ∧ x1.toInt ≤ 100
  · obtain ⟨y, v1, v2, rfl⟩ := rng (a := 1) (b := 100) h1
    rw [ite1 h1, ite1 h1, bnd_s, bnd_s, hB.2.1.1.2.2.2.1, hB.1.2.2.2.1, show (9999 : Int32) = nI 9999 from rfl, pk_sub hj.1, minI (by omega) (by omega)]
    unfold fB_ride
    obtain ⟨σ', μ', e1, e2, e3, e4, e5⟩ := B_joltsL (R := lastT T 0) (n := n) (q := min (9999 - j) y) (y := y) (fun (σ : XS) => some σ) (fun (x2 : Int32) (μ : MS) => some (((μ 1 3) - x2), μ)) (μ 1 3) v2 (min (9999 - j) y) 0 10000 10000 j σ μ (by omega) (by omega) (by omega) (by omega) (by omega) (by omega) (by omega) hB
    rw [show (0 : Int32) = nI 0 from rfl, e1, e2, ob_s, e3.2.1.1.2.2.1, hB.2.1.1.2.2.1]
    exact ⟨_, σ', μ', rfl, rfl, Re_bag hT hB hI e3 ⟨by omega, hj.2⟩ e4 e5⟩
  · rw [ite0 h1, ite0 h1]
    exact ⟨_, σ, μ, rfl, rfl, hRe⟩
