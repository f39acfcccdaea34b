/-! a bag of the class and the model's row -/
def WL (s : Nat → Int32) (m k : Nat) : Prop := ∃ kd th tn mv : Nat, kd ≤ 5 ∧ (1 ≤ th ∧ th ≤ 99) ∧ tn ≤ 9 ∧ mv ≤ m ∧ s (20 + 4 * k) = nI kd ∧ s (21 + 4 * k) = nI th ∧ s (22 + 4 * k) = nI tn ∧ s (23 + 4 * k) = nI mv
def WB (s : Nat → Int32) (n x j : Nat) : Prop := n ≤ 14 ∧ (j ≤ 20000 ∧ x ≤ 20) ∧ s 0 = nI n ∧ s 2 = nI j ∧ (∃ p, p ≤ 100 ∧ s 4 = nI p) ∧ (∀ i, i < n → ∃ k, k < n ∧ s (6 + i) = nI k) ∧ (∀ k, k < n → ∃ i, i < n ∧ s (6 + i) = nI k) ∧ ∀ k, k < n → WL s (16 * j + x) k
def XB (σ : XS) (b : Nat) (s : Nat → Int32) (R : Option (List Int32)) (n : Nat) (D : Nat → Prop) : Prop :=
  (xi σ (1 + b) 0 = s 0 ∧ xi σ (1 + b) 7 = s 4 ∧ xi σ (1 + b) 8 = s 3 ∧ xi σ (1 + b) 9 = s 2 ∧ xi σ (1 + b) 10 = s 5) ∧ (∀ i, i < n → xi σ (30 + 6 * b + 5) i = s (6 + i)) ∧
  (∀ k, k < n → xi σ (30 + 6 * b + 0) k = s (20 + 4 * k) ∧ xi σ (30 + 6 * b + 1) k = s (21 + 4 * k) ∧ xi σ (30 + 6 * b + 2) k = s (22 + 4 * k) ∧ xi σ (30 + 6 * b + 3) k = s (23 + 4 * k)) ∧
  ∀ k, k < n → ¬ D k → xi σ (30 + 6 * b + 4) k = riseV R (s (20 + 4 * k)) (s (21 + 4 * k)) (s (22 + 4 * k)) (s (23 + 4 * k))
def RX (σ : XS) (b : Nat) (R : Option (List Int32)) : Prop := Apart σ ∧ match R with
  | none => xr σ b = none
  | some cs => ∃ a o, xr σ b = some a ∧ LawAt σ a 0 o cs ∧ WfT 0 o cs
def NoD : Nat → Prop := fun _ => False
def BX (σ : XS) (b : Nat) (μ : MS) (R : Option (List Int32)) (n x j : Nat) (D : Nat → Prop) : Prop := WB (μ 1) n x j ∧ XB σ b (μ 1) R n D ∧ RX σ b R ∧ RM μ R
def MF (μ μ' : MS) : Prop := (∀ c, c ≠ 1 → c ≠ 14 → c ≠ 15 → c ≠ 29 → c ≠ 30 → μ' c = μ c) ∧ μ' 1 1 = μ 1 1 ∧ ∀ m, 76 ≤ m → μ' 1 m = μ 1 m
def XF (σ : XS) (b : Nat) (σ' : XS) : Prop := (∀ c, c ≠ 1 + b → (c < 30 + 6 * b ∨ 36 + 6 * b ≤ c) → xi σ' c = xi σ c) ∧ xr σ' = xr σ ∧ Kw σ σ'
theorem MF_refl (μ : MS) : MF μ μ := ⟨fun _ _ _ _ _ _ => rfl, rfl, fun _ _ => rfl⟩
theorem XF_refl (σ : XS) (b : Nat) : XF σ b σ := ⟨fun _ _ _ => rfl, rfl, Kw_refl σ⟩
theorem MF_trans {a b c : MS} (h : MF a b) (g : MF b c) : MF a c := ⟨fun d h1 h2 h3 h4 h5 => by rw [g.1 d h1 h2 h3 h4 h5, h.1 d h1 h2 h3 h4 h5], by rw [g.2.1, h.2.1], fun m hm => by rw [g.2.2 m hm, h.2.2 m hm]⟩
theorem XF_trans {a b c : XS} {k : Nat} (h : XF a k b) (g : XF b k c) : XF a k c := ⟨fun d h1 h2 => by rw [g.1 d h1 h2, h.1 d h1 h2], by rw [g.2.1, h.2.1], Kw_trans h.2.2 g.2.2⟩
theorem RX_fr {σ σ' : XS} {b : Nat} {R : Option (List Int32)} (hr : xr σ' b = xr σ b) (hk : Kw σ σ') (h : RX σ b R) : RX σ' b R := by
  refine ⟨Apart_kw hk h.1, ?_⟩
  rcases R with _ | cs
  · show xr σ' b = none; rw [hr]; exact h.2
  · obtain ⟨a, o, h1, h2, h3⟩ := h.2
    exact ⟨a, o, by rw [hr]; exact h1, LawAt_kw hk h.1 h2, h3⟩
theorem TextAt_fr {s s' : Nat → Int32} {t k o : Nat} {cs : List Int32} (h : ∀ m, 76 ≤ m → s' m = s m) (g : TextAt s t k o cs) : TextAt s' t k o cs := by
  obtain ⟨h1, h2, h3, h4⟩ := g
  refine ⟨by rw [h _ (by omega)]; exact h1, by rw [h _ (by omega)]; exact h2, by rw [h _ (by omega)]; exact h3, fun i hi => ?_⟩
  rw [h _ (by omega), h _ (by omega)]; exact h4 i hi
theorem RM_fr {μ μ' : MS} {R : Option (List Int32)} (h0 : μ' 0 12 = μ 0 12) (h1 : ∀ m, 76 ≤ m → μ' 1 m = μ 1 m) (h2 : μ' 14 = μ 14) (h3 : μ' 15 = μ 15) (h : RM μ R) : RM μ' R := by
  rcases R with _ | cs
  · show μ' 0 12 < 0; rw [h0]; exact h
  · obtain ⟨o, t, a1, a2, a3, a4, a5⟩ := h
    exact ⟨o, t, a1, by rw [h0]; exact a2, TextAt_fr h1 a3, a4, by unfold CO; rw [h2, h3]; exact a5⟩
theorem heldv_id {j : Nat} (h : j ≤ 999) : heldv (nI j) = nI j := by
  unfold heldv
  rw [if_neg (nI_pos (by omega)), show (999 : Int32) = nI 999 from rfl, if_neg (nI_nlt h (by omega))]
theorem xi_u (σ : XS) (c i : Nat) (v : Int32) : xi (xu σ c i v) c = upd (xi σ c) i v := up2_s (xi σ) c i v
theorem xi_un (σ : XS) {c d : Nat} (i : Nat) (v : Int32) (h : d ≠ c) : xi (xu σ c i v) d = xi σ d := up2_n (xi σ) i v h
theorem kw_xu (σ : XS) (c i : Nat) (v : Int32) : Kw σ (xu σ c i v) := ⟨rfl, rfl, rfl, fun _ _ => rfl⟩
theorem X_weigh {σ : XS} {b : Nat} {R : Option (List Int32)} (h : RX σ b R) {k : Nat} (hk : k < 14) {th : Nat} (ht : th ≤ 999) (et : xi σ (30 + 6 * b + 1) k = nI th) :
    ∃ σ', fB_weigh σ b (nI k) = some σ' ∧ xi σ' = up2 (xi σ) (30 + 6 * b + 4) k (riseV R (xi σ (30 + 6 * b + 0) k) (xi σ (30 + 6 * b + 1) k) (xi σ (30 + 6 * b + 2) k) (xi σ (30 + 6 * b + 3) k)) ∧ xr σ' = xr σ ∧ Kw σ σ' := by
  unfold fB_weigh
  rcases R with _ | cs
  · have hn : xr σ b = none := h.2
    rw [hn]
    show ∃ σ', ck (nI k) 14 _ = some σ' ∧ _
    unfold fB_weigh_J41
    rw [ck_in hk (by omega), ck_in hk (by omega), clampI (by omega), X_held, ob_s, X_kR, ob_s, ck_in hk (by omega), bnd_s, et, heldv_id ht]
    exact ⟨_, rfl, rfl, rfl, kw_xu _ _ _ _⟩
  · obtain ⟨a, o, h1, h2, h3⟩ := h.2
    rw [h1]
    show ∃ σ', ck (nI k) 14 _ = some σ' ∧ _
    rw [ck_in hk (by omega), ck_in hk (by omega), ck_in hk (by omega), lk_s h2.1, clampI (by omega)]
    obtain ⟨σ', a1, a2, a3, a4⟩ := X_gives σ (xi σ (30 + 6 * b + 1) k) (xi σ (30 + 6 * b + 2) k) (xi σ (30 + 6 * b + 3) k) h2 h3 h.1
    rw [a1, ob2_s]
    unfold fB_weigh_J41
    rw [ck_in hk (by omega), clampI (by omega), X_held, ob_s, X_kR, ob_s, ck_in hk (by omega), bnd_s]
    refine ⟨_, rfl, ?_, a3, Kw_trans a4 (kw_xu _ _ _ _)⟩
    show up2 (xi σ') _ _ _ = _
    rw [a2]
    rfl
theorem BX_mono {σ : XS} {b : Nat} {μ : MS} {R : Option (List Int32)} {n x j : Nat} {D D' : Nat → Prop} (h : BX σ b μ R n x j D) (hD : ∀ k, D k → D' k) : BX σ b μ R n x j D' := by
  obtain ⟨h1, ⟨h2, h3, h4, h5⟩, h6⟩ := h
  exact ⟨h1, ⟨h2, h3, h4, fun k hk hn => h5 k hk (fun z => hn (hD k z))⟩, h6⟩
theorem WB_slack {s : Nat → Int32} {n x x' j : Nat} (h : WB s n x j) (hx : x ≤ x') (hx2 : x' ≤ 20) : WB s n x' j := by
  obtain ⟨h1, h2, h3, h4, h5, h6, h7, h8⟩ := h
  refine ⟨h1, ⟨h2.1, hx2⟩, h3, h4, h5, h6, h7, fun k hk => ?_⟩
  obtain ⟨kd, th, tn, mv, g1, g2, g3, g4, g5⟩ := h8 k hk
  exact ⟨kd, th, tn, mv, g1, g2, g3, by omega, g5⟩
theorem BX_slack {σ : XS} {b : Nat} {μ : MS} {R : Option (List Int32)} {n x x' j : Nat} {D : Nat → Prop} (h : BX σ b μ R n x j D) (hx : x ≤ x') (hx2 : x' ≤ 20) : BX σ b μ R n x' j D := ⟨WB_slack h.1 hx hx2, h.2⟩
/-- one letter's rise is right again -/
theorem B_weigh {σ : XS} {b : Nat} {μ : MS} {R : Option (List Int32)} {n x j : Nat} {D : Nat → Prop} (h : BX σ b μ R n x j D) {k : Nat} (hk : k < n) :
    ∃ σ', fB_weigh σ b (nI k) = some σ' ∧ BX σ' b μ R n x j (fun i => D i ∧ i ≠ k) ∧ XF σ b σ' := by
  obtain ⟨h1, ⟨h2, h3, h4, h5⟩, h6, h7⟩ := h
  obtain ⟨kd, th, tn, mv, g1, g2, g3, g4, g5, g6, g7, g8⟩ := h1.2.2.2.2.2.2.2 k hk
  have hn := h1.1
  obtain ⟨e0, e1, e2, e3⟩ := h4 k hk
  obtain ⟨σ', a1, a2, a3, a4⟩ := X_weigh h6 (k := k) (by omega) (th := th) (by omega) (by rw [e1]; exact g6)
  refine ⟨σ', a1, ⟨h1, ⟨?_, ?_, ?_, ?_⟩, RX_fr (by rw [a3]) a4 h6, h7⟩, ⟨fun c c1 c2 => ?_, a3, a4⟩⟩
  · rw [a2, up2_n _ _ _ (by omega)]; exact h2
  · rw [a2, up2_n _ _ _ (by omega)]; exact h3
  · rw [a2, up2_n _ _ _ (by omega), up2_n _ _ _ (by omega), up2_n _ _ _ (by omega), up2_n _ _ _ (by omega)]; exact h4
  · intro i hi hD
    rw [a2, up2_s]
    unfold upd
    by_cases hik : i = k
    · rw [if_pos hik, hik, e0, e1, e2, e3]
    · rw [if_neg hik]
      exact h5 i hi (fun z => hD ⟨z, hik⟩)
  · rw [a2, up2_n _ _ _ (by omega)]
/-- one datum of one letter -/
theorem B_data {σ : XS} {b : Nat} {μ : MS} {R : Option (List Int32)} {n x x' j : Nat} {D : Nat → Prop} (h : BX σ b μ R n x j D) {k : Nat} (hk : k < n) {w : Nat} (hw : w < 4) {v : Nat} (hx : x ≤ x') (hx2 : x' ≤ 20)
    (hv : (w = 0 → v ≤ 5) ∧ (w = 1 → 1 ≤ v ∧ v ≤ 99) ∧ (w = 2 → v ≤ 9) ∧ (w = 3 → v ≤ 16 * j + x')) :
    BX (xu σ (30 + 6 * b + w) k (nI v)) b (up2 μ 1 (20 + 4 * k + w) (nI v)) R n x' j (fun i => D i ∨ i = k) ∧ XF σ b (xu σ (30 + 6 * b + w) k (nI v)) ∧ MF μ (up2 μ 1 (20 + 4 * k + w) (nI v)) := by
  have h0 := h
  obtain ⟨⟨w1, w2, w3, w4, w5, w6, w7, w8⟩, ⟨h2, h3, h4, h5⟩, h6, h7⟩ := BX_slack h hx hx2
  have mf : MF μ (up2 μ 1 (20 + 4 * k + w) (nI v)) := ⟨fun c c1 _ _ _ _ => up2_n _ _ _ c1, by rw [up2_s]; exact pk_un (by omega), fun m hm => by rw [up2_s]; exact pk_un (by omega)⟩
  have xf : XF σ b (xu σ (30 + 6 * b + w) k (nI v)) := ⟨fun c c1 c2 => xi_un _ _ _ (by omega), rfl, kw_xu _ _ _ _⟩
  refine ⟨⟨⟨w1, w2, ?_, ?_, ?_, ?_, ?_, ?_⟩, ⟨?_, ?_, ?_, ?_⟩, RX_fr rfl (kw_xu _ _ _ _) h6, RM_fr (by rw [up2_n _ _ _ (by decide)]) mf.2.2 (up2_n _ _ _ (by decide)) (up2_n _ _ _ (by decide)) h7⟩, xf, mf⟩
  · rw [up2_s, pk_un (by omega)]; exact w3
  · rw [up2_s, pk_un (by omega)]; exact w4
  · rw [up2_s, pk_un (by omega)]; exact w5
  · intro i hi; rw [up2_s, pk_un (by omega)]; exact w6 i hi
  · intro i hi
    obtain ⟨q, hq, e⟩ := w7 i hi
    exact ⟨q, hq, by rw [up2_s, pk_un (by omega)]; exact e⟩
  · intro i hi
    obtain ⟨kd, th, tn, mv, g1, g2, g3, g4, g5, g6, g7, g8⟩ := w8 i hi
    unfold WL
    rw [up2_s]
    by_cases hik : i = k
    · subst hik
      have hw4 : w = 0 ∨ w = 1 ∨ w = 2 ∨ w = 3 := by omega
      rcases hw4 with rfl | rfl | rfl | rfl
      · exact ⟨v, th, tn, mv, hv.1 rfl, g2, g3, g4, pk_us, by rw [pk_un (by omega)]; exact g6, by rw [pk_un (by omega)]; exact g7, by rw [pk_un (by omega)]; exact g8⟩
      · exact ⟨kd, v, tn, mv, g1, hv.2.1 rfl, g3, g4, by rw [pk_un (by omega)]; exact g5, by rw [show 21 + 4 * i = 20 + 4 * i + 1 by omega]; exact pk_us, by rw [pk_un (by omega)]; exact g7, by rw [pk_un (by omega)]; exact g8⟩
      · exact ⟨kd, th, v, mv, g1, g2, hv.2.2.1 rfl, g4, by rw [pk_un (by omega)]; exact g5, by rw [pk_un (by omega)]; exact g6, by rw [show 22 + 4 * i = 20 + 4 * i + 2 by omega]; exact pk_us, by rw [pk_un (by omega)]; exact g8⟩
      · exact ⟨kd, th, tn, v, g1, g2, g3, hv.2.2.2 rfl, by rw [pk_un (by omega)]; exact g5, by rw [pk_un (by omega)]; exact g6, by rw [pk_un (by omega)]; exact g7, by rw [show 23 + 4 * i = 20 + 4 * i + 3 by omega]; exact pk_us⟩
    · exact ⟨kd, th, tn, mv, g1, g2, g3, g4, by rw [pk_un (by omega)]; exact g5, by rw [pk_un (by omega)]; exact g6, by rw [pk_un (by omega)]; exact g7, by rw [pk_un (by omega)]; exact g8⟩
  · rw [xi_un _ _ _ (by omega), up2_s, pk_un (by omega), pk_un (by omega), pk_un (by omega), pk_un (by omega), pk_un (by omega)]; exact h2
  · intro i hi
    rw [xi_un _ _ _ (by omega), up2_s, pk_un (by omega)]; exact h3 i hi
  · intro i hi
    have hX : ∀ w', w' < 4 → xi (xu σ (30 + 6 * b + w) k (nI v)) (30 + 6 * b + w') i = if w' = w ∧ i = k then nI v else xi σ (30 + 6 * b + w') i := by
      intro w' hw'
      by_cases e : w' = w
      · subst e
        rw [xi_u]
        unfold upd
        by_cases e2 : i = k
        · rw [if_pos e2, if_pos ⟨rfl, e2⟩]
        · rw [if_neg e2, if_neg (fun z => e2 z.2)]
      · rw [xi_un _ _ _ (by omega), if_neg (fun z => e z.1)]
    have hM : ∀ w', w' < 4 → (up2 μ 1 (20 + 4 * k + w) (nI v)) 1 (20 + 4 * i + w') = if w' = w ∧ i = k then nI v else μ 1 (20 + 4 * i + w') := by
      intro w' hw'
      rw [up2_s]
      unfold upd
      by_cases e : w' = w ∧ i = k
      · rw [if_pos e, if_pos (by omega)]
      · rw [if_neg e, if_neg (by omega)]
    obtain ⟨q0, q1, q2, q3⟩ := h4 i hi
    refine ⟨?_, ?_, ?_, ?_⟩
    · rw [hX 0 (by omega), show 20 + 4 * i = 20 + 4 * i + 0 by omega, hM 0 (by omega), q0]; rfl
    · rw [hX 1 (by omega), show 21 + 4 * i = 20 + 4 * i + 1 by omega, hM 1 (by omega), q1, show 21 + 4 * i = 20 + 4 * i + 1 by omega]
    · rw [hX 2 (by omega), show 22 + 4 * i = 20 + 4 * i + 2 by omega, hM 2 (by omega), q2, show 22 + 4 * i = 20 + 4 * i + 2 by omega]
    · rw [hX 3 (by omega), show 23 + 4 * i = 20 + 4 * i + 3 by omega, hM 3 (by omega), q3, show 23 + 4 * i = 20 + 4 * i + 3 by omega]
  · intro i hi hD
    have hik : i ≠ k := fun z => hD (Or.inr z)
    rw [xi_un _ _ _ (by omega), up2_s, pk_un (by omega), pk_un (by omega), pk_un (by omega), pk_un (by omega)]
    exact h5 i hi (fun z => hD (Or.inl z))
