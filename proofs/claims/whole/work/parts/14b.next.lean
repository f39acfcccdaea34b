/-! TEXT: the next token -/
def TS (σ : XS) (μ : MS) (B : Nat → Nat) (L st en so : Nat) : Prop :=
  xi σ 5 3 = nI st ∧ μ 0 18 = nI st ∧ xi σ 5 4 = nI en ∧ μ 0 19 = nI en ∧ xi σ 5 2 = nI so ∧ st ≤ en ∧ en ≤ L ∧
  ((so = 0 ∧ μ 0 20 = 0) ∨
   (so = 1 ∧ μ 0 20 = 1 ∧ st < en ∧ μ 0 22 = (if en = st + 1 then nI (B st) else 0)) ∨
   (so = 2 ∧ st < en ∧ (∀ i, st ≤ i → i < en → so3 (B i) = 2) ∧ ((en - st ≤ 4 ∧ μ 0 20 = 2 ∧ μ 0 21 = nI (nv B st (en - st))) ∨ (4 < en - st ∧ μ 0 20 = 4))) ∨
   (so = 3 ∧ μ 0 20 = 3 ∧ en = st + 1 ∧ μ 0 22 = nI (B st)) ∨
   (so = 4 ∧ μ 0 20 = 4))
def NF (σ σ' : XS) (μ μ' : MS) : Prop := (∀ c, c ≠ 5 → xi σ' c = xi σ c) ∧ xi σ' 5 1 = xi σ 5 1 ∧ σ'.2 = σ.2 ∧ (∀ c, c ≠ 0 → μ' c = μ c) ∧ ∀ f, (f < 18 ∨ 22 < f) → μ' 0 f = μ 0 f
theorem NF_refl (σ : XS) (μ : MS) : NF σ σ μ μ := ⟨fun _ _ => rfl, rfl, rfl, fun _ _ => rfl, fun _ _ => rfl⟩
theorem NF_x {σ σ' : XS} {μ μ' : MS} (h : NF σ σ' μ μ') {f : Nat} (hf : f ≠ 1) (v : Int32) : NF σ (xu σ' 5 f v) μ μ' := ⟨fun c hc => by rw [xi_un _ _ _ hc]; exact h.1 c hc, by rw [xi_u, pk_un (fun e => hf e.symm)]; exact h.2.1, h.2.2.1, h.2.2.2⟩
theorem NF_m {σ σ' : XS} {μ μ' : MS} (h : NF σ σ' μ μ') {f : Nat} (h1 : 18 ≤ f) (h2 : f ≤ 22) (v : Int32) : NF σ σ' μ (up2 μ' 0 f v) := ⟨h.1, h.2.1, h.2.2.1, fun c hc => by rw [up2_n _ _ _ hc]; exact h.2.2.2.1 c hc, fun g hg => by rw [up2_s, pk_un (by omega)]; exact h.2.2.2.2 g hg⟩
theorem TB_nf {σ σ' : XS} {μ μ' : MS} {B : Nat → Nat} {L : Nat} (h : TB σ μ B L) (g : NF σ σ' μ μ') : TB σ' μ' B L := TB_fr h g.2.1 (g.1 54 (by decide)) (g.2.2.2.2 17 (by omega)) (g.2.2.2.1 17 (by decide))
theorem nI_g {g : Nat} (h : g = 0 ∨ g = 1) : nI g = 0 ↔ g = 0 := by
  rcases h with rfl | rfl
  · exact ⟨fun _ => rfl, fun _ => rfl⟩
  · exact ⟨fun e => absurd e (by decide), fun e => absurd e (by decide)⟩
/-- not by defeq: the kernel would unfold the loops -/
theorem bnd_p {α β : Type} {v : α} {k : α → β} : bnd v k = k v := Eq.trans bnd_s (Eq.trans rfl rfl)
theorem X_run3 (kx : Int32 → Int32 → XS → Option XS) (x1 x2 : Int32) {N : Nat} (hN : 0 < N) {σ : XS} (e : xi σ 5 2 = nI 3) : fT_next_L121 kx N x1 x2 σ = kx x1 x2 σ := by
  obtain ⟨N, rfl⟩ : ∃ m, N = m + 1 := ⟨N - 1, by omega⟩
  rw [fT_next_L121, e, if_pos (show nI 3 = (3 : Int32) from rfl)]
theorem T_go {σ : XS} {μ : MS} {B : Nat → Nat} {L en g : Nat} (hB : TB σ μ B L) (e4 : xi σ 5 4 = nI en) (m19 : μ 0 19 = nI en) (hen : en ≤ L) (hg : g = 0 ∨ g = 1) :
    ∃ σ' μ' st' en' so', fT_next_J21 (nI g) σ = some σ' ∧ fM_nextToken_J28 (nI g) μ = some μ' ∧ NF σ σ' μ μ' ∧ TS σ' μ' B L st' en' so' ∧ en ≤ st' := by
  have hL := hB.1
  obtain ⟨p, p1, p2, p3, p4⟩ := T_sp (B := B) (L := L) (fun (x1 : Int32) (x2 : Int32) (σ : XS) => fT_next_J70 x1 x2 σ) (fun (x1 : Int32) (x2 : Int32) (μ : MS) => fM_nextToken_J72 x1 x2 μ) (nI g) (nI en) (L - en) en 10000 10000 (xu σ 5 3 (nI en)) μ rfl hen (by omega) (by omega) (TB_nf hB (NF_x (NF_refl σ μ) (by decide) _)) (by rw [xi_u, pk_us]) m19
  rw [xu_xu] at p3
  unfold fT_next_J21 fM_nextToken_J28
  rw [bnd_s, bnd_s, bnd_s, e4, m19, p3, p4]
  obtain ⟨y, hy, hy1, hy2⟩ : ∃ y : Nat, (y = 0 ∨ y = 1) ∧ (y = 1 ↔ g = 1 ∧ p = en) ∧ fM_nextToken_J72 (nI g) (nI en) (up2 μ 0 19 (nI p)) = fM_nextToken_J89 (nI y) (up2 μ 0 19 (nI p)) := by
    unfold fM_nextToken_J72 fM_nextToken_J88
    rcases hg with rfl | rfl
    · exact ⟨0, Or.inl rfl, by omega, by rw [if_pos (show nI 0 = (0 : Int32) from rfl)]; rfl⟩
    · rw [if_neg (show ¬ nI 1 = (0 : Int32) by decide), up2_s, pk_us]
      by_cases e : p = en
      · exact ⟨1, Or.inr rfl, by omega, by rw [if_pos (by rw [e])]; rfl⟩
      · exact ⟨0, Or.inl rfl, by omega, by rw [if_neg (fun z => e ((nI_eq (by omega) (by omega)).mp z).symm)]; rfl⟩
  rw [hy2]
  unfold fT_next_J70 fM_nextToken_J89
  have q3 : xi (xu σ 5 3 (nI p)) 5 3 = nI p := by rw [xi_u, pk_us]
  have r19 : (up2 μ 0 19 (nI p)) 0 19 = nI p := by rw [up2_s, pk_us]
  have nf : NF σ (xu (xu σ 5 3 (nI p)) 5 4 (nI p)) μ (up2 (up2 μ 0 19 (nI p)) 0 18 (nI p)) := NF_x (NF_m (NF_m (NF_x (NF_refl σ μ) (by decide) _) (by omega) (by omega) _) (by omega) (by omega) _) (by decide) _
  simp only [bnd_p, q3, r19]
  have s3 : xi (xu (xu σ 5 3 (nI p)) 5 4 (nI p)) 5 3 = nI p := by rw [xi_u, pk_un (by decide), xi_u, pk_us]
  have s4 : xi (xu (xu σ 5 3 (nI p)) 5 4 (nI p)) 5 4 = nI p := by rw [xi_u, pk_us]
  have t18 : (up2 (up2 μ 0 19 (nI p)) 0 18 (nI p)) 0 18 = nI p := by rw [up2_s, pk_us]
  have t19 : (up2 (up2 μ 0 19 (nI p)) 0 18 (nI p)) 0 19 = nI p := by rw [up2_s, pk_un (by decide), up2_s, pk_us]
  generalize xu (xu σ 5 3 (nI p)) 5 4 (nI p) = σa at *
  generalize up2 (up2 μ 0 19 (nI p)) 0 18 (nI p) = μa at *
  have hBa := TB_nf hB nf
  rw [s3, t18, hBa.2.1, hBa.2.2.1]
  by_cases hpL : p = L
  · rw [if_pos (by rw [hpL]), if_pos (by rw [hpL])]
    exact ⟨_, _, p, p, 0, rfl, rfl, NF_x (NF_m nf (by omega) (by omega) _) (by decide) _, ⟨by rw [xi_u, pk_un (by decide)]; exact s3, by rw [up2_s, pk_un (by decide)]; exact t18, by rw [xi_u, pk_un (by decide)]; exact s4, by rw [up2_s, pk_un (by decide)]; exact t19, by rw [xi_u, pk_us]; rfl, by omega, p2, Or.inl ⟨rfl, by rw [up2_s, pk_us]⟩⟩, p1⟩
  · have hpn : ¬ nI p = nI L := fun e => hpL ((nI_eq (by omega) (by omega)).mp e)
    obtain ⟨a1, a2, a3⟩ := hBa.2.2.2 p (by omega)
    rw [if_neg hpn, if_neg hpn, ck_in (by omega) (by omega), clampI (by omega), a1, X_sortOf σa a3, ob_s, xi_u, pk_un (by decide), s4, nI_1, M_letQ hBa (by omega), ob_s, M_digQ hBa (by omega), ob_s]
    have hso : so3 (B p) = 1 ∨ so3 (B p) = 2 ∨ so3 (B p) = 3 := by unfold so3; split <;> (try split) <;> omega
    have nfX : NF σ (xu (xu σa 5 2 (nI (so3 (B p)))) 5 4 (nI (p + 1))) μ μa := NF_x (NF_x nf (by decide) _) (by decide) _
    have x2 : xi (xu (xu σa 5 2 (nI (so3 (B p)))) 5 4 (nI (p + 1))) 5 2 = nI (so3 (B p)) := by rw [xi_u, pk_un (by decide), xi_u, pk_us]
    have x3 : xi (xu (xu σa 5 2 (nI (so3 (B p)))) 5 4 (nI (p + 1))) 5 3 = nI p := by rw [xi_u, pk_un (by decide), xi_u, pk_un (by decide)]; exact s3
    have x4 : xi (xu (xu σa 5 2 (nI (so3 (B p)))) 5 4 (nI (p + 1))) 5 4 = nI (p + 1) := by rw [xi_u, pk_us]
    generalize xu (xu σa 5 2 (nI (so3 (B p)))) 5 4 (nI (p + 1)) = σb at *
    have hBb := TB_nf hB nfX
    -- a run's end on the class's side, glued or not
    have glue : ∀ s e : Nat, s < 3 → so3 (B p) = s → ∃ σ', fT_next_J172 (nI g) (nI en) (xu σb 5 4 (nI e)) = some σ' ∧ NF σ σ' μ μa ∧ xi σ' 5 3 = nI p ∧ xi σ' 5 4 = nI e ∧ xi σ' 5 2 = nI (if y = 1 then 4 else s) := by
      intro s e hs hse
      have w2 : xi (xu σb 5 4 (nI e)) 5 2 = nI s := by rw [xi_u, pk_un (by decide), x2, hse]
      have w3 : xi (xu σb 5 4 (nI e)) 5 3 = nI p := by rw [xi_u, pk_un (by decide)]; exact x3
      have w4 : xi (xu σb 5 4 (nI e)) 5 4 = nI e := by rw [xi_u, pk_us]
      have wf : NF σ (xu σb 5 4 (nI e)) μ μa := NF_x nfX (by decide) _
      unfold fT_next_J172
      rw [w2, w3, if_neg (show ¬ nI s = (3 : Int32) from fun e => absurd ((nI_eq (a := s) (b := 3) (by omega) (by omega)).mp e) (by omega))]
      rcases hg with rfl | rfl
      · rw [if_pos (show nI 0 = (0 : Int32) from rfl)]
        exact ⟨_, rfl, wf, w3, w4, by rw [w2, if_neg (by omega)]⟩
      · rw [if_neg (show ¬ nI 1 = (0 : Int32) by decide)]
        by_cases hpe : p = en
        · rw [if_pos (by rw [hpe]), bnd_s]
          exact ⟨_, rfl, NF_x wf (by decide) _, by rw [xi_u, pk_un (by decide)]; exact w3, by rw [xi_u, pk_un (by decide)]; exact w4, by rw [xi_u, pk_us, if_pos (by omega)]; rfl⟩
        · rw [if_neg (fun z => hpe ((nI_eq (by omega) (by omega)).mp z))]
          exact ⟨_, rfl, wf, w3, w4, by rw [w2, if_neg (by omega)]⟩
    have hd : L - p = (L - (p + 1)) + 1 := by omega
    rcases hso with h1 | h1 | h1
    · -- a word
      obtain ⟨r1, r2, r3⟩ := runE_ge B L 1 (L - (p + 1)) (p + 1)
      rw [X_run (s := 1) (by omega) _ _ _ (L - (p + 1)) (p + 1) 10000 σb μa rfl (by omega) (by omega) hBb (by rw [x2, h1]) x4, ite1 ⟨by omega, h1⟩]
      rw [M_runL _ _ (L - p) p 10000 σb μa rfl (by omega) (by omega) hBb t19, hd, runE, if_pos h1]
      generalize runE B L 1 (L - (p + 1)) (p + 1) = e at *
      obtain ⟨σ', g1, g2, g3, g4, g5⟩ := glue 1 e (by omega) h1
      have fin : ∀ yv : Int32, ∃ μ', fM_nextToken_J162 yv (up2 μa 0 19 (nI e)) = some μ' ∧ NF σ σ' μ μ' ∧ μ' 0 18 = nI p ∧ μ' 0 19 = nI e ∧ μ' 0 20 = yv ∧ μ' 0 22 = (if e = p + 1 then nI (B p) else 0) := by
        intro yv
        unfold fM_nextToken_J162
        have nm : NF σ σ' μ (up2 (up2 μa 0 19 (nI e)) 0 20 yv) := NF_m (NF_m g2 (by omega) (by omega) _) (by omega) (by omega) _
        have v18 : (up2 (up2 μa 0 19 (nI e)) 0 20 yv) 0 18 = nI p := by rw [up2_s, pk_un (by decide), up2_s, pk_un (by decide)]; exact t18
        have v19 : (up2 (up2 μa 0 19 (nI e)) 0 20 yv) 0 19 = nI e := by rw [up2_s, pk_un (by decide), up2_s, pk_us]
        have v20 : (up2 (up2 μa 0 19 (nI e)) 0 20 yv) 0 20 = yv := by rw [up2_s, pk_us]
        have v17 : (up2 (up2 μa 0 19 (nI e)) 0 20 yv) 17 = μa 17 := by rw [up2_n _ _ _ (by decide), up2_n _ _ _ (by decide)]
        rw [bnd_s, v18, v19, pk_sub (by omega), bnd_s]
        generalize up2 (up2 μa 0 19 (nI e)) 0 20 yv = μb at *
        by_cases he : e = p + 1
        · rw [if_pos (show nI (e - p) = (1 : Int32) by rw [he, show p + 1 - p = 1 by omega]; rfl), ck_in (by omega) (by omega), clampI (by omega), v17, a2]
          exact ⟨_, rfl, NF_m nm (by omega) (by omega) _, by rw [up2_s, pk_un (by decide)]; exact v18, by rw [up2_s, pk_un (by decide)]; exact v19, by rw [up2_s, pk_un (by decide)]; exact v20, by rw [up2_s, pk_us, if_pos he]⟩
        · rw [if_neg (show ¬ nI (e - p) = (1 : Int32) from fun z => absurd ((nI_eq (a := e - p) (b := 1) (by omega) (by omega)).mp z) (by omega))]
          exact ⟨_, rfl, NF_m nm (by omega) (by omega) _, by rw [up2_s, pk_un (by decide)]; exact v18, by rw [up2_s, pk_un (by decide)]; exact v19, by rw [up2_s, pk_un (by decide)]; exact v20, by rw [up2_s, pk_us, if_neg he]⟩
      rcases hy with rfl | rfl
      · obtain ⟨μ', f1, f2, f3, f4, f5, f6⟩ := fin 1
        rw [if_pos (show nI 0 = (0 : Int32) from rfl), f1, g1]
        exact ⟨σ', μ', p, e, 1, rfl, rfl, f2, ⟨g3, f3, g4, f4, g5, by omega, by omega, Or.inr (Or.inl ⟨rfl, f5, by omega, f6⟩)⟩, p1⟩
      · obtain ⟨μ', f1, f2, f3, f4, f5, f6⟩ := fin 4
        rw [if_neg (show ¬ nI 1 = (0 : Int32) by decide), f1, g1]
        exact ⟨σ', μ', p, e, 4, rfl, rfl, f2, ⟨g3, f3, g4, f4, g5, by omega, by omega, Or.inr (Or.inr (Or.inr (Or.inr ⟨rfl, f5⟩)))⟩, p1⟩
    · -- digits
      obtain ⟨r1, r2, r3⟩ := runE_ge B L 2 (L - (p + 1)) (p + 1)
      rw [X_run (s := 2) (by omega) _ _ _ (L - (p + 1)) (p + 1) 10000 σb μa rfl (by omega) (by omega) hBb (by rw [x2, h1]) x4, ite0 (fun z => absurd z.2 (by omega)), ite1 ⟨by omega, h1⟩]
      rw [M_runD (p := p) _ _ (L - p) p 10000 σb (up2 μa 0 21 0) rfl (by omega) (by omega) (by omega) (TB_fr hBb rfl rfl (by rw [up2_s, pk_un (by decide)]) (up2_n _ _ _ (by decide))) (by rw [up2_s, pk_un (by decide)]; exact t18) (by rw [up2_s, pk_un (by decide)]; exact t19) (by rw [up2_s, pk_us, Nat.sub_self]; rfl), hd, runE, if_pos h1, up2_up]
      generalize runE B L 2 (L - (p + 1)) (p + 1) = e at *
      obtain ⟨σ', g1, g2, g3, g4, g5⟩ := glue 2 e (by omega) h1
      have nm : NF σ σ' μ (up2 (up2 μa 0 21 (nI (nv B p (min (e - p) 4)))) 0 19 (nI e)) := NF_m (NF_m g2 (by omega) (by omega) _) (by omega) (by omega) _
      have v18 : (up2 (up2 μa 0 21 (nI (nv B p (min (e - p) 4)))) 0 19 (nI e)) 0 18 = nI p := by rw [up2_s, pk_un (by decide), up2_s, pk_un (by decide)]; exact t18
      have v19 : (up2 (up2 μa 0 21 (nI (nv B p (min (e - p) 4)))) 0 19 (nI e)) 0 19 = nI e := by rw [up2_s, pk_us]
      have v21 : (up2 (up2 μa 0 21 (nI (nv B p (min (e - p) 4)))) 0 19 (nI e)) 0 21 = nI (nv B p (min (e - p) 4)) := by rw [up2_s, pk_un (by decide), up2_s, pk_us]
      generalize up2 (up2 μa 0 21 (nI (nv B p (min (e - p) 4)))) 0 19 (nI e) = μb at *
      rw [g1, v18, v19, pk_sub (by omega)]
      have dg : ∀ i, p ≤ i → i < e → so3 (B i) = 2 := fun i i1 i2 => by
        by_cases ei : i = p
        · rw [ei]; exact h1
        · exact r3 i (by omega) i2
      rcases hy with rfl | rfl
      · rw [if_pos (show nI 0 = (0 : Int32) from rfl)]
        by_cases h4 : e - p ≤ 4
        · rw [if_pos (show nI (e - p) ≤ (4 : Int32) from nI_le (b := 4) h4 (by omega))]
          exact ⟨σ', _, p, e, 2, rfl, rfl, NF_m nm (by omega) (by omega) _, ⟨g3, by rw [up2_s, pk_un (by decide)]; exact v18, g4, by rw [up2_s, pk_un (by decide)]; exact v19, g5, by omega, by omega, Or.inr (Or.inr (Or.inl ⟨rfl, by omega, dg, Or.inl ⟨h4, by rw [up2_s, pk_us], by rw [up2_s, pk_un (by decide), v21, show min (e - p) 4 = e - p by omega]⟩⟩))⟩, p1⟩
        · rw [if_neg (show ¬ nI (e - p) ≤ (4 : Int32) from nI_ge (a := 4) (by omega) (by omega))]
          exact ⟨σ', _, p, e, 2, rfl, rfl, NF_m nm (by omega) (by omega) _, ⟨g3, by rw [up2_s, pk_un (by decide)]; exact v18, g4, by rw [up2_s, pk_un (by decide)]; exact v19, g5, by omega, by omega, Or.inr (Or.inr (Or.inl ⟨rfl, by omega, dg, Or.inr ⟨by omega, by rw [up2_s, pk_us]⟩⟩))⟩, p1⟩
      · rw [if_neg (show ¬ nI 1 = (0 : Int32) by decide)]
        exact ⟨σ', _, p, e, 4, rfl, rfl, NF_m nm (by omega) (by omega) _, ⟨g3, by rw [up2_s, pk_un (by decide)]; exact v18, g4, by rw [up2_s, pk_un (by decide)]; exact v19, g5, by omega, by omega, Or.inr (Or.inr (Or.inr (Or.inr ⟨rfl, by rw [up2_s, pk_us]⟩)))⟩, p1⟩
    · -- a sign
      rw [ite0 (fun z => absurd z.2 (by omega)), ite0 (fun z => absurd z.2 (by omega)), X_run3 _ _ _ (by omega) (by rw [x2, h1])]
      have gx : fT_next_J172 (nI g) (nI en) σb = some σb := by
        unfold fT_next_J172
        rw [x2, h1, if_pos (show nI 3 = (3 : Int32) from rfl), ite_self]
      have w18 : (up2 μa 0 20 3) 0 18 = nI p := by rw [up2_s, pk_un (by decide)]; exact t18
      have w17 : (up2 μa 0 20 3) 17 = μa 17 := up2_n _ _ _ (by decide)
      have w19 : (up2 (up2 μa 0 20 3) 0 22 (nI (B p))) 0 19 = nI p := by rw [up2_s, pk_un (by decide), up2_s, pk_un (by decide)]; exact t19
      rw [gx, w18, ck_in (by omega) (by omega), clampI (by omega), w17, a2, w19, nI_1]
      refine ⟨σb, _, p, p + 1, 3, rfl, rfl, NF_m (NF_m (NF_m nfX (by omega) (by omega) _) (by omega) (by omega) _) (by omega) (by omega) _, ⟨x3, ?_, x4, by rw [up2_s, pk_us], by rw [x2, h1], by omega, by omega, Or.inr (Or.inr (Or.inr (Or.inl ⟨rfl, ?_, rfl, ?_⟩)))⟩, p1⟩
      · rw [up2_s, pk_un (by decide), up2_s, pk_un (by decide)]; exact w18
      · rw [up2_s, pk_un (by decide), up2_s, pk_un (by decide), up2_s, pk_us]
      · rw [up2_s, pk_un (by decide), up2_s, pk_us]
theorem T_next {σ : XS} {μ : MS} {B : Nat → Nat} {L en so : Nat} (hB : TB σ μ B L) (e4 : xi σ 5 4 = nI en) (m19 : μ 0 19 = nI en) (hen : en ≤ L) (e2 : xi σ 5 2 = nI so) (m20 : μ 0 20 = nI so) (hso : so = 1 ∨ so = 2 ∨ so = 3) (hp : so ≠ 3 → 0 < en) :
    ∃ σ' μ' st' en' so', fT_next σ = some σ' ∧ fM_nextToken μ = some μ' ∧ NF σ σ' μ μ' ∧ TS σ' μ' B L st' en' so' ∧ en ≤ st' := by
  have hL := hB.1
  unfold fT_next fM_nextToken fT_next_J16 fM_nextToken_J23 fM_nextToken_J27
  rw [e2, m19, m20]
  rcases hso with rfl | rfl | rfl
  · rw [if_pos (show nI 1 = (1 : Int32) from rfl), if_neg (nI_nle (hp (by decide)) (by omega)), if_pos (show nI 1 = (1 : Int32) from rfl)]
    exact T_go hB e4 m19 hen (Or.inr rfl)
  · rw [if_neg (show ¬ nI 2 = (1 : Int32) by decide), if_pos (show nI 2 = (2 : Int32) from rfl), if_neg (nI_nle (hp (by decide)) (by omega)), if_neg (show ¬ nI 2 = (1 : Int32) by decide), if_pos (show nI 2 = (2 : Int32) from rfl)]
    exact T_go hB e4 m19 hen (Or.inr rfl)
  · rw [if_neg (show ¬ nI 3 = (1 : Int32) by decide), if_neg (show ¬ nI 3 = (2 : Int32) by decide), if_neg (show ¬ nI 3 = (1 : Int32) by decide), if_neg (show ¬ nI 3 = (2 : Int32) by decide), ite_self]
    exact T_go hB e4 m19 hen (Or.inl rfl)
