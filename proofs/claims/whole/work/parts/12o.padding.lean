/-! padding and halts -/
def dist (a b : Nat) : Nat := if b ≤ a then a - b else b - a
theorem M_off (μ : MS) {a b : Nat} (ha : a < 2 ^ 30) (hb : b < 2 ^ 30) : fM_off μ (nI a) (nI b) = some (nI (dist a b)) := by
  unfold fM_off dist
  by_cases h : b ≤ a
  · rw [if_pos (nI_le h (by omega)), if_pos h, pk_sub h]
  · rw [if_neg (nI_ge (by omega) (by omega)), if_neg h, pk_sub (by omega)]
theorem X_abs {a b : Nat} (ha : a < 2 ^ 30) (hb : b < 2 ^ 30) : (if 0 ≤ nI a - nI b then nI a - nI b else 0 - (nI a - nI b)) = nI (dist a b) := by
  unfold dist
  by_cases h : b ≤ a
  · rw [if_pos h, pk_sub h, if_pos (nI_pos' (by omega))]
  · rw [if_neg h, if_neg (by rw [le_iff, pk_sub_toInt ha hb]; have : (0 : Int32).toInt = 0 := rfl; omega), Int32.zero_sub, Int32.neg_sub, pk_sub (by omega)]
theorem B_padL {σ0 : XS} {μ0 : MS} {R : Option (List Int32)} {n j : Nat} (h0 : BX σ0 0 μ0 R n 0 j NoD) {k p q th : Nat} (hk : k < n) (hp : p < n) (hq : q ≤ 40) (hj : j + 40 ≤ 20000) (ht : 1 ≤ th ∧ th ≤ 99) : ∀ (d i N1 N2 : Nat) (σ : XS) (μ : MS), 100 - th - i = d → i ≤ 100 - th → d < N1 → d + 1 < N2 → XGk σ0 σ → Tk μ0 μ → μ 1 = μ0 1 → RM μ R →
    ∃ r σ' μ', fX_padding_L54 (fun (σ : XS) => some ((-1000000005 : Int32), σ)) N1 (nI k) (nI p) (nI q) (nI th) (nI i) σ = some (r, σ') ∧ fM_padding_L54 (fun (x5 : Int32) (μ : MS) => ob (fM_orNone μ x5) fun r37 =>
            some (r37, μ)) N2 (nI k) (nI p) (nI q) (nI th) (-1 : Int32) (nI i) μ = some (r, μ') ∧ XGk σ0 σ' ∧ Tk μ0 μ' ∧ μ' 1 = μ0 1 ∧ RM μ' R := by
  have hn := h0.1.1
  intro d
  induction d with
  | zero =>
    intro i N1 N2 σ μ hd hi h1 h2 hX hM e1 hR
    obtain ⟨N1, rfl⟩ : ∃ m, N1 = m + 1 := ⟨N1 - 1, by omega⟩
    obtain ⟨N2, rfl⟩ : ∃ m, N2 = m + 1 := ⟨N2 - 1, by omega⟩
    refine ⟨-1000000005, σ, μ, ?_, ?_, hX, hM, e1, hR⟩
    · rw [fX_padding_L54, show (99 : Int32) - nI th = nI (99 - th) from pk_sub (a := 99) (by omega), if_pos (nI_lt (by omega) (by omega))]
    · rw [fM_padding_L54, nI_add, if_pos (show (99 : Int32) < nI (th + i) from nI_lt (a := 99) (by omega) (by omega))]
      unfold fM_orNone
      rw [if_neg (show ¬ (0 : Int32) ≤ -1 by decide), ob_s]
  | succ d ih =>
    intro i N1 N2 σ μ hd hi h1 h2 hX hM e1 hR
    obtain ⟨N1, rfl⟩ : ∃ m, N1 = m + 1 := ⟨N1 - 1, by omega⟩
    obtain ⟨N2, rfl⟩ : ∃ m, N2 = m + 1 := ⟨N2 - 1, by omega⟩
    have b0 : BX σ 0 μ R n 0 j NoD := BX_xg h0 hX e1 hR
    obtain ⟨σ1, a1, a2, a3, a4, a5⟩ := B_becomeAs (b := 2) (p := 0) (by decide) (by decide) (by decide) b0
    obtain ⟨σ2, c1, c2, c3, c4⟩ := B_set a2 hk (w := 1) (v := th + i) (by omega) ⟨fun e => absurd e (by decide), fun _ => by omega, fun e => absurd e (by decide)⟩
    obtain ⟨σ3, μ3, d1, d2, d3, d4, d5⟩ := B_ride (b := 2) (R := R) (n := n) (q := q) (fun (σ : XS) => some σ) (fun (μ : MS) => some μ) (by omega) q 0 10000 10000 j σ2 _ (by omega) (by omega) (by omega) (by omega) (by omega) c2
    obtain ⟨u, u1, u2, u3, u4⟩ := B_placeOf d3 hk
    obtain ⟨w, w1, w2, w3, w4⟩ := B_placeOf d3 hp
    have k0 : xi σ1 (30 + 6 * 0 + 0) k = xi σ1 (30 + 6 * 2 + 0) k := by rw [a3 (30 + 6 * 0 + 0) (by omega) (by omega), (b0.2.1.2.2.1 k hk).1, (a2.2.1.2.2.1 k hk).1]
    have k2 : xi σ1 (30 + 6 * 0 + 2) k = xi σ1 (30 + 6 * 2 + 2) k := by rw [a3 (30 + 6 * 0 + 2) (by omega) (by omega), (b0.2.1.2.2.1 k hk).2.2.1, (a2.2.1.2.2.1 k hk).2.2.1]
    obtain ⟨μ4, f1, f2, f3, f4⟩ := M_laysBack (Tk_mf (Tk_mf hM c4) d5) d3.2.2.2
    have hX3 : XGk σ0 σ3 := XGk_xf2 (XGk_xf2 (XGk_as (Or.inl rfl) hX a3 a4 a5) c3) d4
    rw [fX_padding_L54, show (99 : Int32) - nI th = nI (99 - th) from pk_sub (a := 99) (by omega), if_neg (nI_nlt (by omega) (by omega)), a1, ob_s, ck_in (by omega) (by omega), ck_in (by omega) (by omega), clampI (by omega), nI_add, k0, k2, show fB_become σ1 2 (nI k) (xi σ1 (30 + 6 * 2 + 0) k) (nI (th + i)) (xi σ1 (30 + 6 * 2 + 2) k) = some σ2 from c1, ob_s]
    unfold fB_ride
    rw [show fB_ride_L2 2 _ 10000 (nI q) (0 : Int32) σ2 = _ from d1, ob_s, u3, ob_s, w3, ob_s, X_abs (by omega) (by omega)]
    rw [fM_padding_L54, nI_add, if_neg (show ¬ (99 : Int32) < nI (th + i) from nI_nlt (a := 99) (by omega) (by omega)), if_neg (show ¬ (0 : Int32) ≤ -1 by decide), show fM_sets μ (nI k) (1 : Int32) (nI (th + i)) = _ from M_sets μ (w := 1) (by omega) _, ob_s]
    unfold fM_goesOnMany
    rw [show fM_goesOnMany_L2 _ 10000 (nI q) (0 : Int32) _ = _ from d2, ob_s, u4, ob_s, w4, ob_s, M_off _ (by omega) (by omega), ob_s, f1, ob_s, ob_s, bnd_s, bnd_s, bnd_s, nI_1]
    by_cases hh : nI (dist u w) = 1
    · rw [if_pos hh, if_pos hh]
      refine ⟨_, σ3, μ4, rfl, ?_, hX3, f3, f2, f4⟩
      obtain ⟨N2, rfl⟩ : ∃ m, N2 = m + 1 := ⟨N2 - 1, by omega⟩
      rw [fM_padding_L54]
      by_cases h3 : (99 : Int32) < nI th + nI (i + 1)
      · rw [if_pos h3, M_orNone _ (by omega), ob_s]
      · rw [if_neg h3, if_pos (nI_pos' (by omega)), M_orNone _ (by omega), ob_s]
    · rw [if_neg hh, if_neg hh]
      exact ih (i + 1) N1 N2 σ3 μ4 (by omega) (by omega) (by omega) (by omega) hX3 f3 f2 f4
theorem L_padding : Ls_padding Re := by
  intro σ μ x1 x2 x3 hRe
  obtain ⟨T, n, j, hT, hj, hB, hI⟩ := id hRe
  have hn := hB.1.1
  unfold fX_padding fM_padding
  rcases B_one hB x1 with ⟨k, hk, rfl, a1, a2⟩ | ⟨a1, a2⟩
  · rw [a1, a2, ob_s, ob_s, i1, i1]
    rcases B_one hB x2 with ⟨p, hp, rfl, b1, b2⟩ | ⟨b1, b2⟩
    · rw [b1, b2, ob_s, ob_s, i1, i1]
      by_cases hkp : nI k = nI p
      · rw [if_pos hkp, if_pos hkp]; exact ⟨_, σ, μ, rfl, rfl, hRe⟩
      · rw [if_neg hkp, if_neg hkp, X_in σ x3 (a := 0) (b := 40) rfl rfl, ob_s, M_in μ x3 (a := 0) (b := 40) rfl rfl, ob_s]
        by_cases h3 : 0 ≤ x3.toInt ∧ x3.toInt ≤ 40
        · obtain ⟨q, q1, q2, rfl⟩ := rng (a := 0) (b := 40) h3
          obtain ⟨μ1, c1, c2, c3⟩ := M_laysBy (μ := μ)
          obtain ⟨kd, th, tn, mv, g1, g2, g3, g4, g5, g6, g7, g8⟩ := hB.1.2.2.2.2.2.2.2 k hk
          obtain ⟨r, σ', μ', d1, d2, d3, d4, d5, d6⟩ := B_padL hB hk hp q2 (by omega) g2 (100 - th) 0 10000 10000 σ μ1 (by omega) (by omega) (by omega) (by omega) (XGk_refl σ) c2 (c3 1 (by decide)) (RM_lays c3 hB.2.2.2)
          rw [ite1 h3, ite1 h3, ck_in (by omega) (by omega), bnd_s, clampI (by omega), (hB.2.1.2.2.1 k hk).2.1, g6, c1, ob_s, show fM_of μ1 (nI k) (1 : Int32) = some (μ1 1 (20 + 4 * k + 1)) from M_of μ1 (w := 1) (by omega), ob_s, c3 1 (by decide), show 20 + 4 * k + 1 = 21 + 4 * k by omega, g6]
          exact ⟨r, σ', μ', d1, d2, Re_think hT hB hI hj d3 d4.1 d5 d6⟩
        · rw [ite0 h3, ite0 h3]; exact ⟨_, σ, μ, rfl, rfl, hRe⟩
    · rw [b1, b2, ob_s, ob_s, i0, i0]
      exact ⟨_, σ, μ, rfl, rfl, hRe⟩
  · rw [a1, a2, ob_s, ob_s, i0, i0]
    exact ⟨_, σ, μ, rfl, rfl, hRe⟩
/-! i times goesOn -/
def itM : Nat → MS → Option MS
  | 0, μ => some μ
  | k + 1, μ => ob (fM_goesOn μ) (fun ν => itM k ν)
theorem itM_snoc : ∀ (k : Nat) (μ : MS), itM (k + 1) μ = ob (itM k μ) (fun ν => fM_goesOn ν) := by
  intro k
  induction k with
  | zero =>
    intro μ
    rw [itM, itM]
    cases h : fM_goesOn μ with
    | none => show (none : Option MS) = ob (some μ) _; rw [ob_s, h]
    | some ν => rw [ob_s, ob_s, itM, h]
  | succ k ih =>
    intro μ
    rw [itM, itM]
    cases h : fM_goesOn μ with
    | none => rfl
    | some ν => rw [ob_s, ob_s]; exact ih ν
theorem many_it {q : Nat} (hq : q < 2 ^ 30) : ∀ (d i N : Nat) (μ : MS), q - i = d → i ≤ q → d < N → fM_goesOnMany_L2 (fun (μ : MS) => some μ) N (nI q) (nI i) μ = itM d μ := by
  intro d
  induction d with
  | zero =>
    intro i N μ hd hi hN
    obtain ⟨N, rfl⟩ : ∃ m, N = m + 1 := ⟨N - 1, by omega⟩
    rw [fM_goesOnMany_L2, if_pos (nI_le (by omega) (by omega)), itM]
  | succ d ih =>
    intro i N μ hd hi hN
    obtain ⟨N, rfl⟩ : ∃ m, N = m + 1 := ⟨N - 1, by omega⟩
    rw [fM_goesOnMany_L2, if_neg (nI_ge (by omega) (by omega)), itM]
    cases h : fM_goesOn μ with
    | none => rfl
    | some ν => rw [ob_s, ob_s, bnd_s, nI_1]; exact ih (i + 1) N ν (by omega) (by omega) (by omega)
theorem M_many (μ : MS) {q : Nat} (hq : q < 10000) : fM_goesOnMany μ (nI q) = itM q μ := many_it (by omega) q 0 10000 μ (by omega) (by omega) hq
theorem B_it {b : Nat} {R : Option (List Int32)} {n : Nat} : ∀ (q j : Nat) (σ : XS) (μ ν : MS), BX σ b μ R n 0 j NoD → BX σ b ν R n 0 j NoD → j + q ≤ 20000 → ∃ σ' μ' ν', itM q μ = some μ' ∧ itM q ν = some ν' ∧ BX σ' b μ' R n 0 (j + q) NoD ∧ BX σ' b ν' R n 0 (j + q) NoD ∧ MF μ μ' ∧ MF ν ν' := by
  intro q
  induction q with
  | zero => intro j σ μ ν h1 h2 _; exact ⟨σ, μ, ν, rfl, rfl, h1, h2, MF_refl _, MF_refl _⟩
  | succ q ih =>
    intro j σ μ ν h1 h2 hj
    obtain ⟨σ1, μ1, a1, a2, a3, a4, a5⟩ := B_joltOnce h1 (by omega)
    obtain ⟨σ2, ν1, b1, b2, b3, b4, b5⟩ := B_joltOnce h2 (by omega)
    have e : σ2 = σ1 := by rw [a1] at b1; exact (Option.some.inj b1).symm
    rw [e] at b3
    obtain ⟨σ', μ', ν', c1, c2, c3, c4, c5, c6⟩ := ih (j + 1) σ1 μ1 ν1 a3 b3 (by omega)
    exact ⟨σ', μ', ν', by rw [itM, a2, ob_s]; exact c1, by rw [itM, b2, ob_s]; exact c2, by rw [show j + (q + 1) = j + 1 + q by omega]; exact c3, by rw [show j + (q + 1) = j + 1 + q by omega]; exact c4, MF_trans a5 c5, MF_trans b5 c6⟩
theorem BX_tr {σ σ2 : XS} {b : Nat} {μ ν : MS} {R : Option (List Int32)} {n x j : Nat} (h1 : BX σ b μ R n x j NoD) (h2 : BX σ b ν R n x j NoD) (h3 : BX σ2 b ν R n x j NoD) : BX σ2 b μ R n x j NoD := by
  obtain ⟨a1, ⟨a2, a3, a4, a5⟩, a6, a7⟩ := h1
  obtain ⟨b1, ⟨b2, b3, b4, b5⟩, b6, b7⟩ := h2
  obtain ⟨c1, ⟨c2, c3, c4, c5⟩, c6, c7⟩ := h3
  have dt : ∀ k, k < n → μ 1 (20 + 4 * k) = ν 1 (20 + 4 * k) ∧ μ 1 (21 + 4 * k) = ν 1 (21 + 4 * k) ∧ μ 1 (22 + 4 * k) = ν 1 (22 + 4 * k) ∧ μ 1 (23 + 4 * k) = ν 1 (23 + 4 * k) := fun k hk => ⟨by rw [← (a4 k hk).1, (b4 k hk).1], by rw [← (a4 k hk).2.1, (b4 k hk).2.1], by rw [← (a4 k hk).2.2.1, (b4 k hk).2.2.1], by rw [← (a4 k hk).2.2.2, (b4 k hk).2.2.2]⟩
  refine ⟨a1, ⟨⟨?_, ?_, ?_, ?_, ?_⟩, fun i hi => ?_, fun k hk => ?_, fun k hk hD => ?_⟩, c6, a7⟩
  · rw [c2.1, ← b2.1, a2.1]
  · rw [c2.2.1, ← b2.2.1, a2.2.1]
  · rw [c2.2.2.1, ← b2.2.2.1, a2.2.2.1]
  · rw [c2.2.2.2.1, ← b2.2.2.2.1, a2.2.2.2.1]
  · rw [c2.2.2.2.2, ← b2.2.2.2.2, a2.2.2.2.2]
  · rw [c3 i hi, ← b3 i hi, a3 i hi]
  · rw [(dt k hk).1, (dt k hk).2.1, (dt k hk).2.2.1, (dt k hk).2.2.2]; exact c4 k hk
  · rw [(dt k hk).1, (dt k hk).2.1, (dt k hk).2.2.1, (dt k hk).2.2.2]; exact c5 k hk hD
theorem BX_off {σ σ' : XS} {b : Nat} {μ : MS} {R : Option (List Int32)} {n x j : Nat} (h : BX σ b μ R n x j NoD) (h1 : xi σ' (1 + b) = xi σ (1 + b)) (h2 : ∀ w, w < 6 → xi σ' (30 + 6 * b + w) = xi σ (30 + 6 * b + w)) (h3 : xr σ' b = xr σ b) (hk : Kw σ σ') : BX σ' b μ R n x j NoD := ⟨h.1, XB_fr h1 h2 h.2.1, RX_fr h3 hk h.2.2.1, h.2.2.2⟩
