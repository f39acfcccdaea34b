/-! TEXT: the call -/
theorem TextAt_lt {s s' : Nat → Int32} {t k o N : Nat} {cs : List Int32} (e : ∀ m, 76 ≤ m → m < 76 + 200 * N → s' m = s m) (ht : t < N) (hl : cs.length ≤ 96) (g : TextAt s t k o cs) : TextAt s' t k o cs := by
  obtain ⟨h1, h2, h3, h4⟩ := g
  refine ⟨by rw [e _ (by omega) (by omega)]; exact h1, by rw [e _ (by omega) (by omega)]; exact h2, by rw [e _ (by omega) (by omega)]; exact h3, fun i hi => ?_⟩
  rw [e _ (by omega) (by omega), e _ (by omega) (by omega)]
  exact h4 i hi
theorem getElem_lt {α : Type} {T : List α} {t : Nat} {p : α} (h : T[t]? = some p) : t < T.length := by
  rcases Nat.lt_or_ge t T.length with z | z
  · exact z
  · rw [List.getElem?_eq_none z] at h; cases h
theorem WB_ne {s s' : Nat → Int32} {n x j : Nat} (e : ∀ m, m < 76 → m ≠ 1 → s' m = s m) (h : WB s n x j) : WB s' n x j := by
  obtain ⟨h1, h2, h3, h4, h5, h6, h7, h8⟩ := h
  refine ⟨h1, h2, by rw [e 0 (by omega) (by omega)]; exact h3, by rw [e 2 (by omega) (by omega)]; exact h4, by rw [e 4 (by omega) (by omega)]; exact h5, fun i hi => by rw [e _ (by omega) (by omega)]; exact h6 i hi, fun k hk => ?_, fun k hk => ?_⟩
  · obtain ⟨i, hi, ei⟩ := h7 k hk
    exact ⟨i, hi, by rw [e _ (by omega) (by omega)]; exact ei⟩
  · unfold WL
    rw [e _ (by omega) (by omega), e _ (by omega) (by omega), e _ (by omega) (by omega), e _ (by omega) (by omega)]
    exact h8 k hk
theorem XB_ne {σ : XS} {b : Nat} {s s' : Nat → Int32} {R R' : Option (List Int32)} {n : Nat} {D D' : Nat → Prop} (hn : n ≤ 14) (e : ∀ m, m < 76 → m ≠ 1 → s' m = s m) (hD : ∀ k, k < n → ¬ D' k → R' = R ∧ ¬ D k) (h : XB σ b s R n D) : XB σ b s' R' n D' := by
  obtain ⟨h1, h2, h3, h4⟩ := h
  refine ⟨by rw [e 0 (by omega) (by omega), e 4 (by omega) (by omega), e 3 (by omega) (by omega), e 2 (by omega) (by omega), e 5 (by omega) (by omega)]; exact h1, fun i hi => by rw [e _ (by omega) (by omega)]; exact h2 i hi, fun k hk => ?_, fun k hk hd => ?_⟩
  · rw [e _ (by omega) (by omega), e _ (by omega) (by omega), e _ (by omega) (by omega), e _ (by omega) (by omega)]; exact h3 k hk
  · obtain ⟨z1, z2⟩ := hD k hk hd
    rw [e _ (by omega) (by omega), e _ (by omega) (by omega), e _ (by omega) (by omega), e _ (by omega) (by omega), z1]; exact h4 k hk z2
/-- the tape was read, and no text came -/
theorem Re_tape {σ σ' : XS} {μ μ' : MS} {T : List (Nat × Nat × List Int32)} {n j : Nat} (hT : MT (μ 1) T ∧ xi σ 0 6 = nI T.length ∧ XT σ T) (hj : j ≤ 9999 ∧ RF μ T.length) (hB : BX σ 0 μ (lastT T 0) n 0 j NoD) (h : RIm σ μ T ∧ RSh σ μ ∧ RSl σ μ ∧ RTp σ μ ∧ RWt σ μ)
    (fx : ∀ c, c ≠ 5 → c ≠ 6 → c ≠ 55 → xi σ' c = xi σ c) (x51 : xi σ' 5 1 = nI 0) (fx2 : σ'.2 = σ.2) (fm : ∀ c, c ≠ 0 → c ≠ 1 → μ' c = μ c) (fm0 : ∀ f, (f < 17 ∨ 27 < f) → μ' 0 f = μ 0 f) (m17 : μ' 0 17 = nI 0) (fm1 : ∀ m, m < lA T.length → μ' 1 m = μ 1 m) : Re σ' μ' := by
  obtain ⟨r1, r2, r3, r4, r5⟩ := h
  have hN := hT.1.2.1
  have hA : 76 + 200 * T.length ≤ lA T.length := by unfold lA; split <;> omega
  have hn := hB.1.1
  have kw : Kw σ σ' := by unfold Kw xl xL xq xw; rw [fx2]; exact ⟨rfl, rfl, rfl, fun _ _ => rfl⟩
  have xr' : xr σ' = xr σ := by unfold xr; rw [fx2]
  have hMT : MT (μ' 1) T := ⟨by rw [fm1 1 (by omega)]; exact hT.1.1, hN, fun t p hp => ⟨TextAt_lt (fun m _ h2 => fm1 m (by omega)) (getElem_lt hp) (hT.1.2.2 t p hp).2.2.2.1 (hT.1.2.2 t p hp).1, (hT.1.2.2 t p hp).2⟩⟩
  have hRM : RM μ' (lastT T 0) := by
    have h0 := hB.2.2.2
    have hF := hj.2
    cases hl : lastT T 0 with
    | none =>
      rw [hl] at h0
      show μ' 0 12 < 0
      rw [fm0 12 (by omega)]; exact h0
    | some cs =>
      rw [hl] at h0
      obtain ⟨o, t, a1, a2, a3, a4, a5⟩ := h0
      have ht : t < T.length := by
        rcases hF with z | ⟨t', z1, z2⟩
        · rw [a2] at z; exact absurd z (nI_pos (by omega))
        · rw [a2] at z2
          have := (nI_eq (a := t) (b := t') (by omega) (by omega)).mp z2
          omega
      exact ⟨o, t, a1, by rw [fm0 12 (by omega)]; exact a2, TextAt_lt (fun m _ h2 => fm1 m (by omega)) ht a4.2.2.1 a3, a4, by unfold CO; rw [fm 14 (by decide) (by decide), fm 15 (by decide) (by decide)]; exact a5⟩
  have hB' : BX σ' 0 μ' (lastT T 0) n 0 j NoD := ⟨WB_eq (fun m hm => fm1 m (by omega)) hB.1, XB_eq hn (fun m hm => fm1 m (by omega)) (XB_fr (fx _ (by omega) (by omega) (by omega)) (fun w hw => fx _ (by omega) (by omega) (by omega)) hB.2.1), RX_fr (by rw [xr']) kw hB.2.2.1, hRM⟩
  have z0 : xi σ' 0 = xi σ 0 := fx 0 (by decide) (by decide) (by decide)
  refine ⟨T, n, j, ⟨hMT, by rw [z0]; exact hT.2.1, XT_kw kw hB.2.2.1.1 hT.2.2⟩, ⟨hj.1, RF_fr (fm0 12 (by omega)) hj.2⟩, hB', ?_, ?_, ?_, ?_, ?_⟩
  · exact RIm_fr z0 (fx 2 (by decide) (by decide) (by decide)) (fun w hw => fx _ (by omega) (by omega) (by omega)) (by rw [xr']) kw (fm0 3 (by omega)) (fm 2 (by decide) (by decide)) r1
  · intro k hk
    rw [fx (10 + k) (by omega) (by omega) (by omega), fx (60 + k) (by omega) (by omega) (by omega), fm 5 (by decide) (by decide), fm 6 (by decide) (by decide), fm 7 (by decide) (by decide)]
    exact r2 k hk
  · intro k hk
    rw [fx (20 + k) (by omega) (by omega) (by omega), fx (10 + (4 + k)) (by omega) (by omega) (by omega), fx (60 + (4 + k)) (by omega) (by omega) (by omega), fm 8 (by decide) (by decide), fm 9 (by decide) (by decide), fm 10 (by decide) (by decide), fm 11 (by decide) (by decide), fm 12 (by decide) (by decide)]
    exact r3 k hk
  · refine ⟨⟨0, by omega, x51, m17⟩, ?_⟩
    rw [fx 54 (by decide) (by decide) (by decide), fm 17 (by decide) (by decide)]
    exact r4.2
  · unfold RWt
    rw [z0, fx 56 (by decide) (by decide) (by decide), fm0 32 (by omega), fm 32 (by decide) (by decide)]
    exact r5
theorem lastT_app : ∀ (T : List (Nat × Nat × List Int32)) (p : Nat × Nat × List Int32) (k : Nat), lastT (T ++ [p]) k = if p.1 = k then some p.2.2 else lastT T k := by
  intro T
  induction T with
  | nil =>
    intro p k
    show (match lastT [] k with
      | some cs => some cs
      | none => if p.1 = k then some p.2.2 else none) = _
    rfl
  | cons q T ih =>
    intro p k
    show (match lastT (T ++ [p]) k with
      | some cs => some cs
      | none => if q.1 = k then some q.2.2 else none) = _
    rw [ih p k]
    by_cases h : p.1 = k
    · rw [if_pos h, if_pos h]
    · rw [if_neg h, if_neg h]; rfl
/-! a new law in the pool -/
theorem LawAt_ext {σ σ' : XS} (h : ∀ x, x ∈ xL σ → x ∈ xL σ' ∧ xq σ' x = xq σ x ∧ xw σ' x = xw σ x) {a k o : Nat} {cs : List Int32} (g : LawAt σ a k o cs) : LawAt σ' a k o cs := by
  obtain ⟨h1, h2, h3, ⟨h4, h5, h6⟩, h7, h8⟩ := g
  obtain ⟨a1, a2, a3⟩ := h a h1.1
  obtain ⟨c1, c2, c3⟩ := h _ h4.1
  obtain ⟨t1, t2, t3⟩ := h _ h7.1
  unfold LawAt
  rw [a2, a3, c2, c3, t2]
  exact ⟨⟨a1, h1.2⟩, h2, h3, ⟨⟨c1, h4.2⟩, h5, h6⟩, ⟨t1, h7.2⟩, h8⟩
theorem new_old {σ : XS} {a c t x : Nat} (hf : frs (xL σ) a c t) (hx : x ∈ xL σ) : x ∈ xL (xnew σ a c t) ∧ xq (xnew σ a c t) x = xq σ x ∧ xw (xnew σ a c t) x = xw σ x := by
  obtain ⟨f1, f2, f3, f4, f5, f6⟩ := hf
  have n1 : x ≠ a := fun e => f1 (by rw [← e]; exact hx)
  have n2 : x ≠ c := fun e => f2 (by rw [← e]; exact hx)
  have n3 : x ≠ t := fun e => f3 (by rw [← e]; exact hx)
  refine ⟨List.mem_append_left _ hx, ?_, ?_⟩
  · funext k
    show (if x = a then _ else if x = c then _ else if x = t then _ else xq σ x k) = _
    rw [if_neg n1, if_neg n2, if_neg n3]
  · funext k
    show (if x = a then _ else if x = c then _ else if x = t then _ else xw σ x k) = _
    rw [if_neg n1, if_neg n2, if_neg n3]
theorem new_mem {σ : XS} {a c t : Nat} : a ∈ xL (xnew σ a c t) ∧ c ∈ xL (xnew σ a c t) ∧ t ∈ xL (xnew σ a c t) := ⟨List.mem_append_right _ (by simp), List.mem_append_right _ (by simp), List.mem_append_right _ (by simp)⟩
theorem new_cases {σ : XS} {a c t x : Nat} (h : x ∈ xL (xnew σ a c t)) : x ∈ xL σ ∨ x = a ∨ x = c ∨ x = t := by
  rcases List.mem_append.mp (show x ∈ xL σ ++ [a, c, t] from h) with h | h
  · exact Or.inl h
  · simp only [List.mem_cons, List.not_mem_nil, or_false] at h
    exact Or.inr h
theorem new_q {σ : XS} {a c t : Nat} (hf : frs (xL σ) a c t) : xq (xnew σ a c t) a 0 = c ∧ xq (xnew σ a c t) a 1 = t ∧ xq (xnew σ a c t) a 3 = 0 ∧ xq (xnew σ a c t) c 3 = 1 ∧ xq (xnew σ a c t) t 3 = 1 ∧ xq (xnew σ a c t) c 2 = (xi σ 6 4).toNatClampNeg ∧ xq (xnew σ a c t) t 2 = (xi σ 6 2).toNatClampNeg := by
  obtain ⟨f1, f2, f3, f4, f5, f6⟩ := hf
  have e : ∀ b k, xq (xnew σ a c t) b k = if b = a then (if k = 0 then c else if k = 1 then t else 0) else if b = c then (if k = 2 then (xi σ 6 4).toNatClampNeg else if k = 3 then 1 else 0) else if b = t then (if k = 2 then (xi σ 6 2).toNatClampNeg else if k = 3 then 1 else 0) else xq σ b k := fun _ _ => rfl
  refine ⟨?_, ?_, ?_, ?_, ?_, ?_, ?_⟩
  · rw [e, if_pos rfl, if_pos rfl]
  · rw [e, if_pos rfl, if_neg (by decide), if_pos rfl]
  · rw [e, if_pos rfl, if_neg (by decide), if_neg (by decide)]
  · rw [e, if_neg (fun z => f4 z.symm), if_pos rfl, if_neg (by decide), if_pos rfl]
  · rw [e, if_neg (fun z => f5 z.symm), if_neg (fun z => f6 z.symm), if_pos rfl, if_neg (by decide), if_pos rfl]
  · rw [e, if_neg (fun z => f4 z.symm), if_pos rfl, if_pos rfl]
  · rw [e, if_neg (fun z => f5 z.symm), if_neg (fun z => f6 z.symm), if_pos rfl, if_pos rfl]
theorem new_apart {σ : XS} {a c t : Nat} (hf : frs (xL σ) a c t) (hA : Apart σ) : Apart (xnew σ a c t) := by
  obtain ⟨q0, q1, q3, qc, qt, _, _⟩ := new_q hf
  obtain ⟨m1, m2, m3⟩ := new_mem (σ := σ) (a := a) (c := c) (t := t)
  have hf0 := hf
  obtain ⟨f1, f2, f3, f4, f5, f6⟩ := hf
  -- who puts a pile where
  have stk : ∀ x, isStk (xnew σ a c t) x → x = t ∨ (x ∈ xL σ ∧ isStk σ x) := by
    intro x hx
    obtain ⟨y, ⟨y1, y2⟩, y3, y4⟩ := hx
    rcases new_cases y1 with z | z | z | z
    · obtain ⟨z1, z2, z3⟩ := new_old hf0 z
      rw [z2] at y2 y3
      have hy := hA y ⟨z, y2⟩
      rw [y3] at hy
      obtain ⟨w1, w2, w3⟩ := new_old hf0 hy.2.2
      rw [w2] at y4
      exact Or.inr ⟨hy.2.2, y, ⟨z, y2⟩, y3, y4⟩
    · rw [z, q1] at y3; exact Or.inl y3.symm
    · rw [z, qc] at y2; exact absurd y2 (by decide)
    · rw [z, qt] at y2; exact absurd y2 (by decide)
  intro x hx
  rcases new_cases hx.1 with z | z | z | z
  · obtain ⟨z1, z2, z3⟩ := new_old hf0 z
    have hx2 := hx.2
    rw [z2] at hx2 ⊢
    obtain ⟨g1, g2, g3⟩ := hA x ⟨z, hx2⟩
    refine ⟨fun w => ?_, (new_old hf0 g2).1, (new_old hf0 g3).1⟩
    rcases stk _ w with w | w
    · exact f3 (by rw [← w]; exact g2)
    · exact g1 w.2
  · rw [z, q0, q1]
    refine ⟨fun w => ?_, m2, m3⟩
    rcases stk _ w with w | w
    · exact f6 w
    · exact f2 w.1
  · have := hx.2; rw [z, qc] at this; exact absurd this (by decide)
  · have := hx.2; rw [z, qt] at this; exact absurd this (by decide)
theorem new_law {σ : XS} {a c t k o : Nat} {cs : List Int32} (hf : frs (xL σ) a c t) (h1 : xi σ 6 1 = nI k) (h2 : xi σ 6 2 = nI o) (ho : o ≤ 96) (h4 : xi σ 6 4 = nI cs.length) (hl : cs.length ≤ 96) (h5 : ∀ i, i < cs.length → xi σ 55 i = cs.getD i 0) : LawAt (xnew σ a c t) a k o cs := by
  obtain ⟨q0, q1, q3, qc, qt, qc2, qt2⟩ := new_q hf
  obtain ⟨m1, m2, m3⟩ := new_mem (σ := σ) (a := a) (c := c) (t := t)
  obtain ⟨f1, f2, f3, f4, f5, f6⟩ := hf
  have e : ∀ b k, xw (xnew σ a c t) b k = if b = a then (if k = 0 then xi σ 6 1 else if k = 1 then xi σ 6 2 else 0) else if b = c then va_cpy (xi σ 55) (fun _ => 0) 0 0 (xi σ 6 4).toNatClampNeg k else if b = t then 0 else xw σ b k := fun _ _ => rfl
  unfold LawAt
  rw [q0, q1, qc, qt, qc2, qt2, h4, h2, clampI (by omega), clampI (by omega)]
  refine ⟨⟨m1, q3⟩, ?_, ?_, ⟨⟨m2, by decide⟩, rfl, fun i hi => ?_⟩, ⟨m3, by decide⟩, rfl⟩
  · rw [e, if_pos rfl, if_pos rfl]; exact h1
  · rw [e, if_pos rfl, if_neg (by decide), if_pos rfl]; exact h2
  · rw [e, if_neg (fun z => f4 z.symm), if_pos rfl, h4, clampI (by omega), pk_cpy_in (by omega) (by omega), Nat.zero_add, Nat.sub_zero]
    exact h5 i hi
/-! a bag obeys -/
theorem X_obeyL {μ : MS} {R : Option (List Int32)} {n j p : Nat} (kx : XS → Option XS) : ∀ (d i N : Nat) (σ : XS), n - i = d → i ≤ n → d < N → BX σ 0 μ R n 0 j (fun q => i ≤ q) → ∃ σ', fB_obey_L7 0 p kx N (nI i) σ = kx σ' ∧ BX σ' 0 μ R n 0 j NoD ∧ XF σ 0 σ' := by
  intro d
  induction d with
  | zero =>
    intro i N σ hd hi hN hB
    obtain ⟨N, rfl⟩ : ∃ m, N = m + 1 := ⟨N - 1, by omega⟩
    have hn := hB.1.1
    refine ⟨σ, ?_, ⟨hB.1, XB_ne hn (fun _ _ _ => rfl) (fun k hk _ => ⟨rfl, by omega⟩) hB.2.1, hB.2.2⟩, XF_refl σ 0⟩
    rw [fB_obey_L7, B_n hB, if_pos (nI_le (by omega) (by omega))]
  | succ d ih =>
    intro i N σ hd hi hN hB
    obtain ⟨N, rfl⟩ : ∃ m, N = m + 1 := ⟨N - 1, by omega⟩
    have hn := hB.1.1
    obtain ⟨σ1, a1, a2, a3⟩ := B_weigh hB (k := i) (by omega)
    obtain ⟨σ', b1, b2, b3⟩ := ih (i + 1) N σ1 (by omega) (by omega) (by omega) (BX_mono a2 (fun q hq => by have := hq.1; have := hq.2; omega))
    refine ⟨σ', ?_, b2, XF_trans a3 b3⟩
    rw [fB_obey_L7, B_n hB, if_neg (nI_ge (by omega) (by omega)), a1, ob_s, bnd_s, nI_1]
    exact b1
