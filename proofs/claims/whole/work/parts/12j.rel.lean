/-! the relation of the class's cells and the model's -/
def lastT : List (Nat × Nat × List Int32) → Nat → Option (List Int32)
  | [], _ => none
  | p :: T, k => match lastT T k with
    | some cs => some cs
    | none => if p.1 = k then some p.2.2 else none
def MT (s : Nat → Int32) (T : List (Nat × Nat × List Int32)) : Prop := s 1 = nI T.length ∧ T.length ≤ 14 ∧ ∀ (t : Nat) (p : Nat × Nat × List Int32), T[t]? = some p → TextAt s t p.1 p.2.1 p.2.2 ∧ WfT p.1 p.2.1 p.2.2
def XT (σ : XS) (T : List (Nat × Nat × List Int32)) : Prop := ∀ (t : Nat) (p : Nat × Nat × List Int32), T[t]? = some p → ∃ a, xl σ t = some a ∧ LawAt σ a p.1 p.2.1 p.2.2
/-- a number that a sheet may hold -/
def okV (v : Int32) : Prop := v = -1000000005 ∨ (-99999 ≤ v.toInt ∧ v.toInt ≤ 99999)
def worthV (kd th : Int32) : Int32 := if kd = 1 then th + 7 else if kd = 2 then 99 - th else if kd = 3 then 2 * (th + 7) else if kd = 4 then 93 - th else if kd = 5 then 2 else th
def RSh (σ : XS) (μ : MS) : Prop := ∀ k, k < 4 → xi σ (10 + k) 0 = μ 5 k ∧ xi σ (10 + k) 1 = μ 6 k ∧ (∀ i, i < 24 → xi σ (60 + k) i = μ 7 (24 * k + i) ∧ okV (μ 7 (24 * k + i))) ∧ (μ 5 k = -1 ∨ μ 5 k = 0 ∨ μ 5 k = 1) ∧ ∃ q, q ≤ 24 ∧ μ 6 k = nI q
def RSl (σ : XS) (μ : MS) : Prop := ∀ j, j < 5 → xi σ (20 + j) 0 = μ 8 j ∧ (μ 8 j = 1 → xi σ (20 + j) 1 = μ 9 j ∧ μ 10 j = worthV (xi σ (20 + j) 1) (xi σ (20 + j) 2)) ∧
  (μ 8 j = 2 → xi σ (10 + (4 + j)) 1 = μ 11 j ∧ (∃ q, q ≤ 24 ∧ μ 11 j = nI q) ∧ ∀ i, i < 24 → xi σ (60 + (4 + j)) i = μ 12 (24 * j + i)) ∧ (μ 8 j = 3 → xi σ (20 + j) 3 = μ 9 j)
def RTp (σ : XS) (μ : MS) : Prop := (∃ L, L ≤ 96 ∧ xi σ 5 1 = nI L ∧ μ 0 17 = nI L) ∧ ∀ i, i < 96 → xi σ 54 i = μ 17 i ∧ ∃ q, q < 256 ∧ μ 17 i = nI q
def RWt (σ : XS) (μ : MS) : Prop := ∃ w, w ≤ 60 ∧ xi σ 0 13 = nI w ∧ μ 0 32 = nI w ∧ ∀ i, i < w → xi σ 56 i = μ 32 i
def RIm (σ : XS) (μ : MS) (T : List (Nat × Nat × List Int32)) : Prop := xi σ 0 4 = μ 0 3 ∧ (μ 0 3 = 0 ∨ (μ 0 3 = 1 ∧ ∃ q n j, q ≤ T.length ∧ MT (μ 2) (T.take q) ∧ xi σ 0 7 = nI q ∧ j ≤ 9999 ∧ WB (μ 2) n 0 j ∧ XB σ 1 (μ 2) (lastT (T.take q) 0) n NoD ∧ RX σ 1 (lastT (T.take q) 0)))
/-- the text that counts for rises is one of those that there are -/
def RF (μ : MS) (N : Nat) : Prop := μ 0 12 < 0 ∨ ∃ t, t < N ∧ μ 0 12 = nI t
theorem RF_fr {μ μ' : MS} {N : Nat} (h : μ' 0 12 = μ 0 12) (g : RF μ N) : RF μ' N := by unfold RF; rw [h]; exact g
def Re (σ : XS) (μ : MS) : Prop := ∃ (T : List (Nat × Nat × List Int32)) (n j : Nat), (MT (μ 1) T ∧ xi σ 0 6 = nI T.length ∧ XT σ T) ∧ (j ≤ 9999 ∧ RF μ T.length) ∧ BX σ 0 μ (lastT T 0) n 0 j NoD ∧ RIm σ μ T ∧ RSh σ μ ∧ RSl σ μ ∧ RTp σ μ ∧ RWt σ μ
/-! frames -/
def XO (σ σ' : XS) : Prop := (∀ c, c ≠ 1 → c ≠ 2 → c ≠ 3 → c ≠ 4 → (c < 30 ∨ 54 ≤ c) → xi σ' c = xi σ c)
def MO (μ μ' : MS) : Prop := ∀ c, c ≠ 0 → c ≠ 1 → c ≠ 2 → c ≠ 14 → c ≠ 15 → c ≠ 16 → c ≠ 29 → c ≠ 30 → μ' c = μ c
theorem RSh_fr {σ σ' : XS} {μ μ' : MS} (hX : XO σ σ') (hM : MO μ μ') (h : RSh σ μ) : RSh σ' μ' := by
  intro k hk
  rw [hX (10 + k) (by omega) (by omega) (by omega) (by omega) (by omega), hX (60 + k) (by omega) (by omega) (by omega) (by omega) (by omega), hM 5 (by omega) (by omega) (by omega) (by omega) (by omega) (by omega) (by omega) (by omega), hM 6 (by omega) (by omega) (by omega) (by omega) (by omega) (by omega) (by omega) (by omega), hM 7 (by omega) (by omega) (by omega) (by omega) (by omega) (by omega) (by omega) (by omega)]
  exact h k hk
theorem RSl_fr {σ σ' : XS} {μ μ' : MS} (hX : XO σ σ') (hM : MO μ μ') (h : RSl σ μ) : RSl σ' μ' := by
  intro k hk
  rw [hX (20 + k) (by omega) (by omega) (by omega) (by omega) (by omega), hX (10 + (4 + k)) (by omega) (by omega) (by omega) (by omega) (by omega), hX (60 + (4 + k)) (by omega) (by omega) (by omega) (by omega) (by omega), hM 8 (by omega) (by omega) (by omega) (by omega) (by omega) (by omega) (by omega) (by omega), hM 9 (by omega) (by omega) (by omega) (by omega) (by omega) (by omega) (by omega) (by omega), hM 10 (by omega) (by omega) (by omega) (by omega) (by omega) (by omega) (by omega) (by omega), hM 11 (by omega) (by omega) (by omega) (by omega) (by omega) (by omega) (by omega) (by omega), hM 12 (by omega) (by omega) (by omega) (by omega) (by omega) (by omega) (by omega) (by omega)]
  exact h k hk
theorem RTp_fr {σ σ' : XS} {μ μ' : MS} (hX : XO σ σ') (hM : MO μ μ') (h0 : μ' 0 17 = μ 0 17) (h : RTp σ μ) : RTp σ' μ' := by
  unfold RTp
  rw [hX 5 (by omega) (by omega) (by omega) (by omega) (by omega), hX 54 (by omega) (by omega) (by omega) (by omega) (by omega), h0, hM 17 (by omega) (by omega) (by omega) (by omega) (by omega) (by omega) (by omega) (by omega)]
  exact h
theorem RWt_fr {σ σ' : XS} {μ μ' : MS} (hX : XO σ σ') (hM : MO μ μ') (h0 : μ' 0 32 = μ 0 32) (h : RWt σ μ) : RWt σ' μ' := by
  unfold RWt
  rw [hX 0 (by omega) (by omega) (by omega) (by omega) (by omega), hX 56 (by omega) (by omega) (by omega) (by omega) (by omega), h0, hM 32 (by omega) (by omega) (by omega) (by omega) (by omega) (by omega) (by omega) (by omega)]
  exact h
theorem XT_kw {σ σ' : XS} {T : List (Nat × Nat × List Int32)} (hk : Kw σ σ') (hA : Apart σ) (h : XT σ T) : XT σ' T := by
  intro t p ht
  obtain ⟨a, h1, h2⟩ := h t p ht
  exact ⟨a, by rw [hk.1]; exact h1, LawAt_kw hk hA h2⟩
theorem XB_fr {σ σ' : XS} {b : Nat} {s : Nat → Int32} {R : Option (List Int32)} {n : Nat} {D : Nat → Prop} (h1 : xi σ' (1 + b) = xi σ (1 + b)) (h2 : ∀ w, w < 6 → xi σ' (30 + 6 * b + w) = xi σ (30 + 6 * b + w)) (h : XB σ b s R n D) : XB σ' b s R n D := by
  unfold XB
  rw [h1, h2 5 (by omega), h2 0 (by omega), h2 1 (by omega), h2 2 (by omega), h2 3 (by omega), h2 4 (by omega)]
  exact h
theorem RIm_fr {σ σ' : XS} {μ μ' : MS} {T : List (Nat × Nat × List Int32)} (h0 : xi σ' 0 = xi σ 0) (h1 : xi σ' 2 = xi σ 2) (h2 : ∀ w, w < 6 → xi σ' (36 + w) = xi σ (36 + w)) (h3 : xr σ' 1 = xr σ 1) (hk : Kw σ σ') (m0 : μ' 0 3 = μ 0 3) (m2 : μ' 2 = μ 2) (h : RIm σ μ T) : RIm σ' μ' T := by
  obtain ⟨a1, a2⟩ := h
  refine ⟨by rw [h0, m0]; exact a1, ?_⟩
  rcases a2 with a2 | ⟨a2, q, n, j, b1, b2, b3, b4, b5, b6, b7⟩
  · exact Or.inl (by rw [m0]; exact a2)
  · exact Or.inr ⟨by rw [m0]; exact a2, q, n, j, b1, by rw [m2]; exact b2, by rw [h0]; exact b3, b4, by rw [m2]; exact b5, by rw [m2]; exact XB_fr h1 h2 b6, RX_fr h3 hk b7⟩
theorem MT_fr {s s' : Nat → Int32} {T : List (Nat × Nat × List Int32)} (h1 : s' 1 = s 1) (h : ∀ m, 76 ≤ m → s' m = s m) (g : MT s T) : MT s' T := ⟨by rw [h1]; exact g.1, g.2.1, fun t p hp => ⟨TextAt_fr h (g.2.2 t p hp).1, (g.2.2 t p hp).2⟩⟩
/-- the bag has changed, and nothing else -/
theorem Re_bag {σ σ' : XS} {μ μ' : MS} {T : List (Nat × Nat × List Int32)} {n n' j j' : Nat} (hT : MT (μ 1) T ∧ xi σ 0 6 = nI T.length ∧ XT σ T) (hB : BX σ 0 μ (lastT T 0) n 0 j NoD) (h : RIm σ μ T ∧ RSh σ μ ∧ RSl σ μ ∧ RTp σ μ ∧ RWt σ μ)
    (hB' : BX σ' 0 μ' (lastT T 0) n' 0 j' NoD) (hj : j' ≤ 9999 ∧ RF μ T.length) (xf : XF σ 0 σ') (mf : MF μ μ') : Re σ' μ' := by
  obtain ⟨r1, r2, r3, r4, r5⟩ := h
  have hX : XO σ σ' := fun c c1 c2 c3 c4 c5 => xf.1 c (by omega) (by omega)
  have hM : MO μ μ' := fun c c0 c1 c2 c3 c4 c5 c6 c7 => mf.1 c (by omega) (by omega) (by omega) (by omega) (by omega)
  have m0 : μ' 0 = μ 0 := mf.1 0 (by omega) (by omega) (by omega) (by omega) (by omega)
  refine ⟨T, n', j', ⟨MT_fr mf.2.1 mf.2.2 hT.1, by rw [xf.1 0 (by omega) (by omega)]; exact hT.2.1, XT_kw xf.2.2 hB.2.2.1.1 hT.2.2⟩, ⟨hj.1, RF_fr (by rw [m0]) hj.2⟩, hB', ?_, RSh_fr hX hM r2, RSl_fr hX hM r3, RTp_fr hX hM (by rw [m0]) r4, RWt_fr hX hM (by rw [m0]) r5⟩
  exact RIm_fr (xf.1 0 (by omega) (by omega)) (xf.1 2 (by omega) (by omega)) (fun w hw => xf.1 (36 + w) (by omega) (by omega)) (by rw [xf.2.1]) xf.2.2 (by rw [m0]) (mf.1 2 (by omega) (by omega) (by omega) (by omega) (by omega)) r1
