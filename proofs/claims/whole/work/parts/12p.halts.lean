/-! halts -/
theorem B_haltsL {σ0 σb : XS} {μ0 μ8 : MS} {R : Option (List Int32)} {n j y : Nat} (hb : BX σb 2 μ8 R n 0 j NoD) (h8 : μ8 1 = μ0 1) (hy : y ≤ 40) (hj : j + 80 ≤ 20000) (kx : Int32 → Int32 → Int32 → XS → Option (Int32 × XS)) (km : Int32 → Int32 → Int32 → MS → Option (Int32 × MS)) (x2 : Int32) :
    ∀ (d i N1 N2 : Nat) (σ : XS) (μ ν : MS) (a3 a4 b3 b4 : Int32), y + 1 - i = d → i ≤ y + 1 → d < N1 → d < N2 → XGk σ0 σ → Tk μ0 μ → μ 1 = μ0 1 → RM μ R → itM i μ8 = some ν → BX σ 2 ν R n 0 (j + i) NoD →
      ((i = 0 ∧ b3 = -1) ∨ (0 < i ∧ a3 = b3 ∧ a4 = b4 ∧ ∃ q, q ≤ 40 ∧ b3 = nI q)) →
      ∃ c3 c4 σ' μ', fX_halts_L35 kx N1 (nI y) x2 a3 a4 (nI i) σ = kx x2 c3 c4 σ' ∧ fM_halts_L37 km N2 (nI y) x2 b3 b4 (nI i) μ = km x2 c3 c4 μ' ∧ XGk σ0 σ' ∧ Tk μ0 μ' ∧ μ' 1 = μ0 1 ∧ RM μ' R := by
  intro d
  induction d with
  | zero =>
    intro i N1 N2 σ μ ν a3 a4 b3 b4 hd hi h1 h2 hX hM e1 hR hit hB hc
    obtain ⟨N1, rfl⟩ : ∃ m, N1 = m + 1 := ⟨N1 - 1, by omega⟩
    obtain ⟨N2, rfl⟩ : ∃ m, N2 = m + 1 := ⟨N2 - 1, by omega⟩
    rcases hc with ⟨c1, _⟩ | ⟨c1, c2, c3, _⟩
    · omega
    · refine ⟨b3, b4, σ, μ, ?_, ?_, hX, hM, e1, hR⟩
      · rw [fX_halts_L35, if_pos (nI_lt (by omega) (by omega)), c2, c3]
      · rw [fM_halts_L37, if_pos (nI_lt (by omega) (by omega))]
  | succ d ih =>
    intro i N1 N2 σ μ ν a3 a4 b3 b4 hd hi h1 h2 hX hM e1 hR hit hB hc
    obtain ⟨N1, rfl⟩ : ∃ m, N1 = m + 1 := ⟨N1 - 1, by omega⟩
    obtain ⟨N2, rfl⟩ : ∃ m, N2 = m + 1 := ⟨N2 - 1, by omega⟩
    have hbm : BX σb 2 μ R n 0 j NoD := BX_mu hb (by rw [e1, h8]) hR
    obtain ⟨σ', μ1, ν', p1, p2, p3, p4, p5, p6⟩ := B_it i j σb μ μ8 hbm hb (by omega)
    have eν : ν' = ν := by rw [hit] at p2; exact (Option.some.inj p2).symm
    rw [eν] at p4
    have hB1 : BX σ 2 μ1 R n 0 (j + i) NoD := BX_tr p3 p4 hB
    obtain ⟨σ1, q1, q2, q3, q4, q5⟩ := B_becomeAs (b := 3) (p := 2) (by decide) (by decide) (by decide) hB1
    obtain ⟨σ2, μ2, r1, r2, r3, r4, r5⟩ := B_turn q2
    obtain ⟨σ3, μ3, s1, s2, s3, s4, s5⟩ := B_ride (b := 3) (R := R) (n := n) (q := y - i) (fun (σ : XS) => some σ) (fun (μ : MS) => some μ) (by omega) (y - i) 0 10000 10000 (j + i) σ2 μ2 (by omega) (by omega) (by omega) (by omega) (by omega) r3
    obtain ⟨m, μ4, t0, t1, t2, t3, t4, t5⟩ := B_mess s3
    obtain ⟨μ5, f1, f2, f3, f4⟩ := M_laysBack (Tk_mf (Tk_mf (Tk_mf (Tk_mf hM p5) r5) s5) t4) t3.2.2.2
    have hB2 : BX σ3 2 ν R n 0 (j + i) NoD := by
      refine BX_off hB ?_ (fun w hw => ?_) ?_ (Kw_trans q5 (Kw_trans r4.2.2 s4.2.2))
      · rw [s4.1 (1 + 2) (by omega) (by omega), r4.1 (1 + 2) (by omega) (by omega), q3 (1 + 2) (by omega) (by omega)]
      · rw [s4.1 (30 + 6 * 2 + w) (by omega) (by omega), r4.1 (30 + 6 * 2 + w) (by omega) (by omega), q3 (30 + 6 * 2 + w) (by omega) (by omega)]
      · rw [s4.2.1, r4.2.1, q4 2 (by decide)]
    obtain ⟨σ4, ν4, g1, g2, g3, g4, g5⟩ := B_joltOnce hB2 (by omega)
    have hX4 : XGk σ0 σ4 := XGk_xf2 (XGk_xf3 (XGk_xf3 (XGk_as (Or.inr rfl) hX q3 q4 q5) r4) s4) g4
    have hit2 : itM (i + 1) μ8 = some ν4 := by rw [itM_snoc, hit, ob_s]; exact g2
    rw [fX_halts_L35, if_neg (nI_nlt (by omega) (by omega)), q1, ob_s, r1, ob_s, pk_sub (show i ≤ y by omega)]
    unfold fB_ride
    rw [show fB_ride_L2 3 _ 10000 (nI (y - i)) (0 : Int32) σ2 = _ from s1, ob_s, t1, ob_s]
    unfold fX_halts_J91
    rw [g1, ob_s, ob_s, bnd_s, bnd_s, nI_1]
    rw [fM_halts_L37, if_neg (nI_nlt (by omega) (by omega)), M_many μ (by omega), p1, ob_s, r2, ob_s, pk_sub (show i ≤ y by omega)]
    unfold fM_goesOnMany
    rw [show fM_goesOnMany_L2 _ 10000 (nI (y - i)) (0 : Int32) μ2 = _ from s2, ob_s, t2, ob2_s, f1, ob_s, bnd_s, bnd_s, nI_1]
    have k1 : y + 1 - (i + 1) = d := by clear hc; omega
    have k2 : i + 1 ≤ y + 1 := by clear hc; omega
    have k3 : d < N1 := by clear hc; omega
    have k4 : d < N2 := by clear hc; omega
    have k5 : BX σ4 2 ν4 R n 0 (j + (i + 1)) NoD := by rw [show j + (i + 1) = j + i + 1 by omega]; exact g3
    have nx := fun (a3 a4 b3 b4 : Int32) => ih (i + 1) N1 N2 σ4 μ5 ν4 a3 a4 b3 b4 k1 k2 k3 k4 hX4 f3 f2 f4 hit2 k5
    rcases hc with ⟨c1, c2⟩ | ⟨c1, c2, c3, q, c4, c5⟩
    · rw [c2, if_pos (show nI i = 0 by rw [c1]; rfl), if_pos (show (-1 : Int32) < 0 by decide)]
      exact nx _ _ _ _ (Or.inr ⟨by omega, rfl, rfl, i, by omega, rfl⟩)
    · have ne : ¬ nI i = 0 := fun e => by have := (nI_eq (a := i) (b := 0) (by omega) (by omega)).mp e; omega
      rw [c2, c3, c5, if_neg ne, if_neg (nI_pos (by omega))]
      by_cases hh : b4 ≤ nI m
      · rw [if_pos hh, if_pos hh]
        exact nx _ _ _ _ (Or.inr ⟨by omega, rfl, rfl, q, c4, rfl⟩)
      · rw [if_neg hh, if_neg hh]
        exact nx _ _ _ _ (Or.inr ⟨by omega, rfl, rfl, i, by omega, rfl⟩)
theorem L_halts : Ls_halts Re := by
  intro σ μ x1 x2 hRe
  obtain ⟨T, n, j, hT, hj, hB, hI⟩ := id hRe
  have hn := hB.1.1
  unfold fX_halts fM_halts
  rw [X_in σ x1 (a := 0) (b := 40) rfl rfl, ob_s, M_in μ x1 (a := 0) (b := 40) rfl rfl, ob_s, X_in σ x2 (a := 0) (b := 1) rfl rfl, ob_s, M_in μ x2 (a := 0) (b := 1) rfl rfl, ob_s]
  by_cases h1 : 0 ≤ x1.toInt ∧ x1.toInt ≤ 40
  · rw [ite1 h1, ite1 h1]
    by_cases h2 : 0 ≤ x2.toInt ∧ x2.toInt ≤ 1
    · obtain ⟨y, y1, y2, rfl⟩ := rng (a := 0) (b := 40) h1
      obtain ⟨σ1, μ1, μ2, a1, a2, a3, a4, a5, a6⟩ := B_think hB (q := 0) (by omega) (by omega)
      have e : μ2 = μ1 := by
        rw [M_many μ1 (by omega), itM] at a3
        exact (Option.some.inj a3).symm
      rw [e] at a4 a6
      obtain ⟨μ1', l1, l2, l3⟩ := M_laysBy (μ := μ)
      have e2 : μ1' = μ1 := by rw [a2] at l1; exact (Option.some.inj l1).symm
      rw [e2] at l3
      obtain ⟨c3, c4, σ', μ', b1, b2, b3, b4, b5, b6⟩ := B_haltsL (σ0 := σ) (μ0 := μ) (y := y) a4 (l3 1 (by decide)) y2 (by omega) (fun (x2 : Int32) (x3 : Int32) (x4 : Int32) (σ : XS) => if x2 = 0 then (
          some (x3, σ))
        else (
          some (x4, σ))) (fun (x2 : Int32) (x3 : Int32) (x4 : Int32) (μ : MS) => if x2 = 0 then (
          some (x3, μ))
        else (
          some (x4, μ))) x2 (y + 1) 0 10000 10000 σ1 μ1 μ1 0 0 (-1) 0 (by omega) (by omega) (by omega) (by omega) a5 a6 (l3 1 (by decide)) a4.2.2.2 rfl a4 (Or.inl ⟨rfl, rfl⟩)
      rw [ite1 h2, ite1 h2, show fX_think σ (0 : Int32) = some σ1 from a1, a2, ob_s, ob_s, show fX_halts_L35 _ 10000 (nI y) x2 (0 : Int32) (0 : Int32) (0 : Int32) σ1 = _ from b1, show fM_halts_L37 _ 10000 (nI y) x2 (-1 : Int32) (0 : Int32) (0 : Int32) μ1 = _ from b2]
      by_cases hx : x2 = 0
      · rw [if_pos hx, if_pos hx]
        exact ⟨c3, σ', μ', rfl, rfl, Re_think hT hB hI hj b3 b4.1 b5 b6⟩
      · rw [if_neg hx, if_neg hx]
        exact ⟨c4, σ', μ', rfl, rfl, Re_think hT hB hI hj b3 b4.1 b5 b6⟩
    · rw [ite0 h2, ite0 h2]; exact ⟨_, σ, μ, rfl, rfl, hRe⟩
  · rw [ite0 h1, ite0 h1]; exact ⟨_, σ, μ, rfl, rfl, hRe⟩
