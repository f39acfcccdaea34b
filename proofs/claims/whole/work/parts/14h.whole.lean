/-! TEXT: a whole text -/
def lA (n : Nat) : Nat := if n < 14 then 80 + 200 * n else 2876
theorem T_parse {σ : XS} {μ : MS} {B : Nat → Nat} {L n : Nat} (hB : TB σ μ B L) (hn : n ≤ 14) (h11 : μ 1 1 = nI n) :
    ∃ r σ' q μ', fR_isText σ = some (r, σ') ∧ fM_parse μ = some (q, μ') ∧ (∀ c, c ≠ 5 → c ≠ 6 → c ≠ 55 → xi σ' c = xi σ c) ∧ σ'.2 = σ.2 ∧ (∀ c, c ≠ 0 → c ≠ 1 → μ' c = μ c) ∧ (∀ f, (f < 17 ∨ 27 < f) → μ' 0 f = μ 0 f) ∧ μ' 0 17 = 0 ∧ (∀ m, m < lA n → μ' 1 m = μ 1 m) ∧
      ((r = 0 ∧ q = -1 ∧ xi σ' 5 3 = μ' 0 18) ∨ (r = 1 ∧ ∃ k cs, q = nI k ∧ WfT k (nops cs) cs ∧ cs.length ≤ 93 ∧ xi σ' 6 1 = nI k ∧ xi σ' 6 2 = nI (nops cs) ∧ xi σ' 6 4 = nI cs.length ∧ μ' 0 25 = nI cs.length ∧ μ' 0 27 = nI (nops cs) ∧
        ∀ i, i < cs.length → xi σ' 55 i = cs.getD i 0 ∧ μ' 1 (lA n + 2 * i) = dcW (cs.getD i 0) ∧ μ' 1 (lA n + 2 * i + 1) = dcV k (cs.getD i 0))) := by
  have hA : lA n ≤ 2876 := by unfold lA; split <;> omega
  unfold fR_isText fT_rewind fM_parse
  rw [bnd_s, bnd_s, bnd_s, bnd_s, bnd_s, bnd_s, bnd_s, bnd_s, bnd_s, bnd_s, bnd_s, bnd_s]
  -- the class's start
  obtain ⟨σ9, e9⟩ : ∃ s, s = xu (xu (xu (xu (xu (xu σ 6 2 0) 6 4 0) 6 5 0) 6 6 0) 5 2 3) 5 4 0 := ⟨_, rfl⟩
  have x0 : ∀ c, c ≠ 5 → c ≠ 6 → xi σ9 c = xi σ c := fun c c1 c2 => by rw [e9, xi_un _ _ _ c1, xi_un _ _ _ c1, xi_un _ _ _ c2, xi_un _ _ _ c2, xi_un _ _ _ c2, xi_un _ _ _ c2]
  have x51 : xi σ9 5 1 = xi σ 5 1 := by rw [e9, xi_u, pk_un (by decide), xi_u, pk_un (by decide), xi_un _ _ _ (by decide), xi_un _ _ _ (by decide), xi_un _ _ _ (by decide), xi_un _ _ _ (by decide)]
  have x52 : xi σ9 5 2 = nI 3 := by rw [e9, xi_u, pk_un (by decide), xi_u, pk_us]; rfl
  have x54 : xi σ9 5 4 = nI 0 := by rw [e9, xi_u, pk_us]; rfl
  have x6 : ∀ f, (f = 2 ∨ f = 4 ∨ f = 5 ∨ f = 6) → xi σ9 6 f = 0 := fun f hf => by
    rw [e9, xi_un _ _ _ (by decide), xi_un _ _ _ (by decide)]
    rcases hf with rfl | rfl | rfl | rfl
    · rw [xi_u, pk_un (by decide), xi_u, pk_un (by decide), xi_u, pk_un (by decide), xi_u, pk_us]
    · rw [xi_u, pk_un (by decide), xi_u, pk_un (by decide), xi_u, pk_us]
    · rw [xi_u, pk_un (by decide), xi_u, pk_us]
    · rw [xi_u, pk_us]
  have x2' : σ9.2 = σ.2 := by rw [e9]; rfl
  rw [← e9]
  -- the model's start
  obtain ⟨μ9, f9⟩ : ∃ s, s = up2 (up2 (up2 (up2 (up2 (up2 μ 0 19 0) 0 20 3) 0 23 0) 0 24 0) 0 25 0) 0 27 0 := ⟨_, rfl⟩
  have y0 : ∀ c, c ≠ 0 → μ9 c = μ c := fun c c1 => by rw [f9, up2_n _ _ _ c1, up2_n _ _ _ c1, up2_n _ _ _ c1, up2_n _ _ _ c1, up2_n _ _ _ c1, up2_n _ _ _ c1]
  have y1 : ∀ f, (f < 19 ∨ 27 < f) → μ9 0 f = μ 0 f := fun f hf => by rw [f9, up2_s, pk_un (by omega), up2_s, pk_un (by omega), up2_s, pk_un (by omega), up2_s, pk_un (by omega), up2_s, pk_un (by omega), up2_s, pk_un (by omega)]
  have y19 : μ9 0 19 = nI 0 := by rw [f9, up2_s, pk_un (by decide), up2_s, pk_un (by decide), up2_s, pk_un (by decide), up2_s, pk_un (by decide), up2_s, pk_un (by decide), up2_s, pk_us]; rfl
  have y20 : μ9 0 20 = nI 3 := by rw [f9, up2_s, pk_un (by decide), up2_s, pk_un (by decide), up2_s, pk_un (by decide), up2_s, pk_un (by decide), up2_s, pk_us]; rfl
  have y23 : μ9 0 23 = 0 := by rw [f9, up2_s, pk_un (by decide), up2_s, pk_un (by decide), up2_s, pk_un (by decide), up2_s, pk_us]
  have y24 : μ9 0 24 = 0 := by rw [f9, up2_s, pk_un (by decide), up2_s, pk_un (by decide), up2_s, pk_us]
  have y25 : μ9 0 25 = 0 := by rw [f9, up2_s, pk_un (by decide), up2_s, pk_us]
  have y27 : μ9 0 27 = 0 := by rw [f9, up2_s, pk_us]
  rw [← f9]
  clear e9 f9
  have hJ : (if (14 : Int32) ≤ μ9 1 1 then fM_parse_J60 (2876 : Int32) μ9 else ob (fM_textAt μ9 (μ9 1 1)) fun r33 => fM_parse_J60 (r33 + (4 : Int32)) μ9) = fM_parse_J60 (nI (lA n)) μ9 := by
    rw [y0 1 (by decide), h11]
    unfold lA
    by_cases h : n < 14
    · rw [if_neg (show ¬ (14 : Int32) ≤ nI n from nI_ge (b := 14) h (by omega)), M_textAt, ob_s, if_pos h, show (4 : Int32) = nI 4 from rfl, nI_add, show 76 + 200 * n + 4 = 80 + 200 * n by omega]
    · rw [if_pos (show (14 : Int32) ≤ nI n from nI_le (a := 14) (by omega) (by omega)), if_neg h]; rfl
  rw [hJ]
  unfold fM_parse_J60
  rw [bnd_s]
  obtain ⟨μ10, f10⟩ : ∃ s, s = up2 μ9 0 26 (nI (lA n)) := ⟨_, rfl⟩
  have z0 : ∀ c, c ≠ 0 → μ10 c = μ c := fun c c1 => by rw [f10, up2_n _ _ _ c1]; exact y0 c c1
  have z1 : ∀ f, f ≠ 26 → μ10 0 f = μ9 0 f := fun f hf => by rw [f10, up2_s, pk_un hf]
  have z26 : μ10 0 26 = nI (lA n) := by rw [f10, up2_s, pk_us]
  rw [← f10]
  clear f10
  have hB9 : TB σ9 μ10 B L := TB_fr hB x51 (x0 54 (by decide) (by decide)) (by rw [z1 17 (by decide), y1 17 (by omega)]) (z0 17 (by decide))
  obtain ⟨σ1, μ1, st, en, so, a1, a2, a3, a4, a5⟩ := T_next hB9 x54 (by rw [z1 19 (by decide)]; exact y19) (by omega) x52 (by rw [z1 20 (by decide)]; exact y20) (Or.inr (Or.inr rfl)) (fun h => absurd rfl h)
  rw [a1, a2, ob_s, ob_s, ob_s]
  have hB1 := TB_nf hB9 a3
  rcases T_key hB1 a4 with ⟨k, k1, k2, k3, k4, k5⟩ | ⟨k2, k3⟩
  · -- a key
    rw [k2, k3, ob_s, if_neg (nI_pos (by omega))]
    unfold fM_parse_J81
    rw [if_neg (show ¬ (1 : Int32) = 0 by decide)]
    have m20 : μ1 0 20 = nI so := by rw [k4]; exact (TS_1 a4).2.1.mp k4
    have hT1 := a4
    obtain ⟨t1, t2, t3, t4, t5, t6, t7, t8⟩ := a4
    have hB2 : TB (xu σ1 6 1 (nI k)) μ1 B L := TB_fr hB1 (by rw [xi_un _ _ _ (by decide)]) (xi_un _ _ _ (by decide)) rfl rfl
    obtain ⟨σ2, μ2, st2, en2, so2, b1, b2, b3, b4, b5⟩ := T_next hB2 (by rw [xi_un _ _ _ (by decide)]; exact t3) t4 t7 (by rw [xi_un _ _ _ (by decide)]; exact t5) m20 (Or.inl k4) (fun _ => by omega)
    rw [b1, b2, ob_s, ob_s, ob2_s, i1]
    have q6 : ∀ f, f ≠ 1 → xi σ2 6 f = xi σ9 6 f := fun f hf => by rw [b3.1 6 (by decide), xi_u, pk_un hf, a3.1 6 (by decide)]
    have q61 : xi σ2 6 1 = nI k := by rw [b3.1 6 (by decide), xi_u, pk_us]
    have qm : ∀ f, 22 < f → f ≠ 26 → μ2 0 f = μ9 0 f := fun f h1 h2 => by rw [b3.2.2.2.2 f (by omega), a3.2.2.2.2 f (by omega), z1 f h2]
    have q26 : μ2 0 26 = nI (lA n) := by rw [b3.2.2.2.2 26 (by omega), a3.2.2.2.2 26 (by omega), z26]
    have hPR : PR σ2 μ2 B L st2 en2 so2 0 0 k (lA n) [] 0 := ⟨TB_nf hB2 b3, b4, ⟨q61, k1⟩, ⟨by rw [q6 5 (by decide)]; exact x6 5 (by omega), by rw [qm 23 (by omega) (by omega)]; exact y23⟩, ⟨by rw [q6 6 (by decide)]; exact x6 6 (by omega), by rw [qm 24 (by omega) (by omega)]; exact y24⟩, ⟨by rw [q6 4 (by decide)]; exact x6 4 (by omega), by rw [qm 25 (by omega) (by omega)]; exact y25⟩, ⟨by rw [q6 2 (by decide)]; exact x6 2 (by omega), by rw [qm 27 (by omega) (by omega)]; exact y27⟩, ⟨q26, hA⟩, fun i hi => absurd hi (by simp)⟩
    obtain ⟨r, σ3, μ3, c1, c2, c3, c4⟩ := (S_all (B := B) (L := L) (A := lA n) k1 16 0 0 (by omega) (by omega) (by omega)).2 120 80 (by omega) (by omega) σ2 μ2 st2 en2 so2 [] 0 hPR (by simp; omega)
    have fx : ∀ c, c ≠ 5 → c ≠ 6 → c ≠ 55 → xi σ3 c = xi σ c := fun c h1 h2 h3 => by rw [c4.1 c h1 h2 h3, b3.1 c h1, xi_un _ _ _ h2, a3.1 c h1, x0 c h1 h2]
    have fx2 : σ3.2 = σ.2 := by rw [c4.2.1, b3.2.2.1]; show σ1.2 = _; rw [a3.2.2.1, x2']
    have fm : ∀ v : Int32, (∀ c, c ≠ 0 → c ≠ 1 → (up2 μ3 0 17 v) c = μ c) := fun v c h1 h2 => by rw [up2_n _ _ _ h1, c4.2.2.1 c h1 h2, b3.2.2.2.1 c h1, a3.2.2.2.1 c h1, z0 c h1]
    have fm0 : ∀ v : Int32, ∀ f, (f < 17 ∨ 27 < f) → (up2 μ3 0 17 v) 0 f = μ 0 f := fun v f hf => by rw [up2_s, pk_un (by omega), c4.2.2.2.1 f (by omega), b3.2.2.2.2 f (by omega), a3.2.2.2.2 f (by omega), z1 f (by omega), y1 f (by omega)]
    have fm1 : ∀ v : Int32, ∀ m, m < lA n → (up2 μ3 0 17 v) 1 m = μ 1 m := fun v m hm => by rw [up2_n _ _ _ (by decide), c4.2.2.2.2 m hm, b3.2.2.2.1 1 (by decide), a3.2.2.2.1 1 (by decide), z0 1 (by decide)]
    unfold gR_isChain
    rw [show gR 120 0 σ2 (0 : Int32) = some (r, σ3) from c1, ob2_s, show gM 80 0 μ2 (nI k) = some (r, μ3) from c2, ob2_s]
    unfold fM_parse_J109 fM_parse_J110 fM_parse_J111
    rw [bnd_s, bnd_s]
    rcases c3 with ⟨rfl, c3⟩ | ⟨rfl, ds, st3, en3, so3', d1, d2, d3, d4⟩
    · rw [i0, i0, i0]
      exact ⟨0, σ3, -1, up2 μ3 0 17 0, rfl, rfl, fx, fx2, fm 0, fm0 0, by rw [up2_s, pk_us], fm1 0, Or.inl ⟨rfl, rfl, by rw [up2_s, pk_un (by decide)]; exact c3⟩⟩
    · have hs := TS_1 d1.2.1
      have hq := (PR_st d1).2
      rw [i1, i1, d1.2.1.2.2.2.2.1]
      by_cases e : so3' = 0
      · rw [if_pos (by rw [e]; rfl), if_pos (hs.2.2.mp e), i1]
        have hno : nops ds ≤ ds.length := nops_le ds
        rw [List.nil_append, Nat.zero_add] at d1
        obtain ⟨g1, g2, g3, g4, g5, g6, g7, g8, g9⟩ := d1
        refine ⟨1, σ3, nI k, up2 μ3 0 17 0, rfl, rfl, fx, fx2, fm 0, fm0 0, by rw [up2_s, pk_us], fm1 0, Or.inr ⟨rfl, k, ds, rfl, ⟨k1, by omega, by omega, d2 0, rfl, d3⟩, by omega, g3.1, g7.1, g6.1, by rw [up2_s, pk_un (by decide)]; exact g6.2, by rw [up2_s, pk_un (by decide)]; exact g7.2, fun i hi => ?_⟩⟩
        rw [up2_n _ _ _ (by decide)]
        exact g9 i hi
      · rw [if_neg (show ¬ nI so3' = (0 : Int32) from fun z => e (nI_inj (b := 0) (by have := hs.1; omega) (by omega) z)), if_neg (fun z => e (hs.2.2.mpr z)), i0]
        exact ⟨0, σ3, -1, up2 μ3 0 17 0, rfl, rfl, fx, fx2, fm 0, fm0 0, by rw [up2_s, pk_us], fm1 0, Or.inl ⟨rfl, rfl, by rw [up2_s, pk_un (by decide)]; exact (PR_st d1).1⟩⟩
  · -- no key
    rw [k2, k3, ob_s, ob2_s, i0, if_pos (by decide)]
    unfold fM_parse_J81 fM_parse_J111
    rw [i0, bnd_s, i0]
    refine ⟨0, σ1, -1, up2 μ1 0 17 0, rfl, rfl, fun c h1 h2 h3 => by rw [a3.1 c h1, x0 c h1 h2], by rw [a3.2.2.1, x2'], fun c h1 h2 => by rw [up2_n _ _ _ h1, a3.2.2.2.1 c h1, z0 c h1], fun f hf => by rw [up2_s, pk_un (by omega), a3.2.2.2.2 f (by omega), z1 f (by omega), y1 f (by omega)], by rw [up2_s, pk_us], fun m hm => by rw [up2_n _ _ _ (by decide), a3.2.2.2.1 1 (by decide), z0 1 (by decide)], Or.inl ⟨rfl, rfl, ?_⟩⟩
    rw [up2_s, pk_un (by decide), a4.1, a4.2.1]
