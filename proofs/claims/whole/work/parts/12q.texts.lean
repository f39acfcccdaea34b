/-! which text counts -/
def Best (T : List (Nat × Nat × List Int32)) (k i : Nat) (x : Option Nat) : Prop := match x with
  | none => ∀ t p, t < i → T[t]? = some p → p.1 ≠ k
  | some t => t < i ∧ (∃ p, T[t]? = some p ∧ p.1 = k) ∧ ∀ t' p, t < t' → t' < i → T[t']? = some p → p.1 ≠ k
def bI (x : Option Nat) (e : Int32) : Int32 := match x with
  | none => e
  | some t => nI t
theorem M_countsL {μ : MS} {T : List (Nat × Nat × List Int32)} (hT : MT (μ 1) T) {k : Nat} (hk : k ≤ 2) (km : Int32 → Option Int32) : ∀ (d i N : Nat) (x : Option Nat), T.length - i = d → i ≤ T.length → d < N → Best T k i x →
    ∃ x', Best T k T.length x' ∧ fM_counts_L4 μ km N (nI k) (bI x (-1)) (nI i) = km (bI x' (-1)) := by
  intro d
  induction d with
  | zero =>
    intro i N x hd hi hN hB
    obtain ⟨N, rfl⟩ : ∃ m, N = m + 1 := ⟨N - 1, by omega⟩
    have e : i = T.length := by omega
    subst e
    have := hT.2.1
    exact ⟨x, hB, by rw [fM_counts_L4, hT.1, if_pos (nI_le (by omega) (by omega))]⟩
  | succ d ih =>
    intro i N x hd hi hN hB
    obtain ⟨N, rfl⟩ : ∃ m, N = m + 1 := ⟨N - 1, by omega⟩
    have h14 := hT.2.1
    have hil : i < T.length := by omega
    have hp : T[i]? = some T[i] := List.getElem?_eq_getElem hil
    obtain ⟨⟨t1, _⟩, w1, _⟩ := hT.2.2 i _ hp
    rw [fM_counts_L4, hT.1, if_neg (nI_ge (by omega) (by omega)), M_textAt, ob_s, ck_in (by omega) (by omega), clampI (by omega), t1, bnd_s, bnd_s, nI_1]
    by_cases hh : T[i].1 = k
    · rw [if_pos (by rw [hh])]
      refine ih (i + 1) N (some i) (by omega) (by omega) (by omega) ⟨by omega, ⟨_, hp, hh⟩, fun t' p h1 h2 => by omega⟩
    · rw [if_neg (fun e => hh (by rw [nI_eq (by omega) (by omega)] at e; exact e))]
      refine ih (i + 1) N x (by omega) (by omega) (by omega) ?_
      rcases x with _ | t
      · intro t p ht hp'
        by_cases e : t = i
        · subst e
          rw [hp] at hp'
          rw [← Option.some.inj hp']
          exact hh
        · exact hB t p (by omega) hp'
      · obtain ⟨b1, b2, b3⟩ := hB
        refine ⟨by omega, b2, fun t' p h1 h2 hp' => ?_⟩
        by_cases e : t' = i
        · subst e
          rw [hp] at hp'
          rw [← Option.some.inj hp']
          exact hh
        · exact b3 t' p h1 (by omega) hp'
theorem M_counts {μ : MS} {T : List (Nat × Nat × List Int32)} (hT : MT (μ 1) T) {k : Nat} (hk : k ≤ 2) : ∃ x, Best T k T.length x ∧ fM_counts μ (nI k) = some (bI x (-1)) := by
  have h14 := hT.2.1
  exact M_countsL hT hk (fun (x2 : Int32) => some x2) T.length 0 10000 none (by omega) (by omega) (by omega) (fun t p h => by omega)
theorem Best_eq {T : List (Nat × Nat × List Int32)} {k : Nat} {x y : Option Nat} (hx : Best T k T.length x) (hy : Best T k T.length y) : x = y := by
  rcases x with _ | t <;> rcases y with _ | u
  · rfl
  · obtain ⟨b1, ⟨p, b2, b3⟩, _⟩ := hy
    exact absurd b3 (hx u p b1 b2)
  · obtain ⟨b1, ⟨p, b2, b3⟩, _⟩ := hx
    exact absurd b3 (hy t p b1 b2)
  · obtain ⟨b1, ⟨p, b2, b3⟩, b4⟩ := hx
    obtain ⟨c1, ⟨q, c2, c3⟩, c4⟩ := hy
    by_cases h1 : t < u
    · exact absurd c3 (b4 u q h1 c1 c2)
    · by_cases h2 : u < t
      · exact absurd b3 (c4 t p h2 b1 b2)
      · rw [show t = u by omega]
theorem X_lastL {σ : XS} {T : List (Nat × Nat × List Int32)} (hl : T.length ≤ 14) (hW : ∀ (t : Nat) (p : Nat × Nat × List Int32), T[t]? = some p → p.1 ≤ 2) (hT : XT σ T) {k : Nat} (hk : k ≤ 2) : ∀ (i N : Nat), i ≤ T.length → i < N → (∀ t p, i ≤ t → T[t]? = some p → p.1 ≠ k) →
    ∃ x, Best T k T.length x ∧ fX_lastTextOf_L7 σ (some (-1000000005 : Int32)) N (nI k) (nI i - nI 1) = some (bI x (-1000000005)) := by
  intro i
  induction i with
  | zero =>
    intro N hi hN hB
    obtain ⟨N, rfl⟩ : ∃ m, N = m + 1 := ⟨N - 1, by omega⟩
    exact ⟨none, fun t p _ hp => hB t p (by omega) hp, by rw [fX_lastTextOf_L7, if_pos (by decide)]; rfl⟩
  | succ i ih =>
    intro N hi hN hB
    obtain ⟨N, rfl⟩ : ∃ m, N = m + 1 := ⟨N - 1, by omega⟩
    have hil : i < T.length := by omega
    have hp : T[i]? = some T[i] := List.getElem?_eq_getElem hil
    obtain ⟨a, a1, a2⟩ := hT i _ hp
    have h2 := hW i _ hp
    rw [fX_lastTextOf_L7, pk_sub (by omega), show i + 1 - 1 = i by omega, if_neg (nI_pos (by omega)), ck_in (by omega) (by omega), clampI (by omega), a1]
    show ∃ x, _ ∧ ck (nI i) 14 (lk σ a _) = _
    rw [ck_in (by omega) (by omega), lk_s a2.1, a2.2.1, bnd_s, show nI i + -1 = nI i - nI 1 from (Int32.sub_eq_add_neg (a := nI i) (b := nI 1)).symm]
    by_cases hh : T[i].1 = k
    · rw [if_pos (by rw [hh])]
      exact ⟨some i, ⟨hil, ⟨_, hp, hh⟩, fun t' p h1 _ h3 => hB t' p (by omega) h3⟩, rfl⟩
    · rw [if_neg (fun e => hh (by rw [nI_eq (by omega) (by omega)] at e; exact e))]
      refine ih N (by omega) (by omega) (fun t p ht hp' => ?_)
      by_cases e : t = i
      · subst e
        rw [hp] at hp'
        rw [← Option.some.inj hp']
        exact hh
      · exact hB t p (by omega) hp'
theorem X_last {σ : XS} {T : List (Nat × Nat × List Int32)} (hl : T.length ≤ 14) (hW : ∀ (t : Nat) (p : Nat × Nat × List Int32), T[t]? = some p → p.1 ≤ 2) (h6 : xi σ 0 6 = nI T.length) (hT : XT σ T) {k : Nat} (hk : k ≤ 2) :
    ∃ x, Best T k T.length x ∧ fX_lastTextOf σ (nI k) = some (bI x (-1000000005)) := by
  unfold fX_lastTextOf
  rw [bnd_s, h6]
  exact X_lastL hl hW hT hk T.length 10000 (by omega) (by omega) (fun t p ht hp => by
    rw [List.getElem?_eq_none ht] at hp; cases hp)
theorem Best_last : ∀ (T : List (Nat × Nat × List Int32)) (k : Nat) (x : Option Nat), Best T k T.length x → match x with
  | none => lastT T k = none
  | some t => ∃ p, T[t]? = some p ∧ p.1 = k ∧ lastT T k = some p.2.2 := by
  intro T
  induction T with
  | nil =>
    intro k x h
    rcases x with _ | t
    · rfl
    · exact absurd h.1 (by simp)
  | cons q T ih =>
    intro k x h
    rcases x with _ | t
    · have hn : lastT T k = none := ih k none (fun t p ht hp => h (t + 1) p (by simp; omega) (by simpa using hp))
      show (match lastT T k with | some cs => some cs | none => if q.1 = k then some q.2.2 else none) = none
      rw [hn]
      show (if q.1 = k then some q.2.2 else none) = none
      rw [if_neg (h 0 q (by simp) rfl)]
    · obtain ⟨b1, ⟨p, b2, b3⟩, b4⟩ := h
      rcases t with _ | t
      · have hn : lastT T k = none := ih k none (fun t p ht hp => b4 (t + 1) p (by omega) (by simp; omega) (by simpa using hp))
        refine ⟨p, b2, b3, ?_⟩
        have : q = p := by simpa using b2
        subst this
        show (match lastT T k with | some cs => some cs | none => if q.1 = k then some q.2.2 else none) = _
        rw [hn]
        show (if q.1 = k then some q.2.2 else none) = _
        rw [if_pos b3]
      · obtain ⟨p', c1, c2, c3⟩ := ih k (some t) ⟨by simp at b1; omega, ⟨p, by simpa using b2, b3⟩, fun t' p'' h1 h2 h3 => b4 (t' + 1) p'' (by omega) (by simp; omega) (by simpa using h3)⟩
        refine ⟨p', by simpa using c1, c2, ?_⟩
        show (match lastT T k with | some cs => some cs | none => if q.1 = k then some q.2.2 else none) = _
        rw [c3]
theorem MT_W {s : Nat → Int32} {T : List (Nat × Nat × List Int32)} (h : MT s T) : ∀ (t : Nat) (p : Nat × Nat × List Int32), T[t]? = some p → p.1 ≤ 2 := fun t p hp => (h.2.2 t p hp).2.1
theorem L_why : Ls_why Re := by
  intro σ μ x1 hRe
  obtain ⟨T, n, j, hT, hj, hB, hI⟩ := id hRe
  have h14 := hT.1.2.1
  unfold fX_why fM_why
  rw [X_in σ x1 (a := 0) (b := 2) rfl rfl, ob_s, M_in μ x1 (a := 0) (b := 2) rfl rfl, ob_s]
  by_cases h1 : 0 ≤ x1.toInt ∧ x1.toInt ≤ 2
  · obtain ⟨k, k1, k2, rfl⟩ := rng (a := 0) (b := 2) h1
    obtain ⟨x, a1, a2⟩ := M_counts hT.1 k2
    obtain ⟨y, b1, b2⟩ := X_last h14 (MT_W hT.1) hT.2.1 hT.2.2 k2
    have e := Best_eq a1 b1
    subst e
    rw [ite1 h1, ite1 h1, a2, b2, ob_s, ob_s]
    rcases x with _ | t
    · refine ⟨-1000000005, rfl, ?_⟩
      show ob (fM_orNone μ (-1)) _ = _
      unfold fM_orNone
      rw [if_neg (show ¬ (0 : Int32) ≤ -1 by decide), ob_s]
    · refine ⟨nI t, rfl, ?_⟩
      show ob (fM_orNone μ (nI t)) _ = _
      rw [M_orNone μ (by have := a1.1; omega), ob_s]
  · rw [ite0 h1, ite0 h1]; exact ⟨_, rfl, rfl⟩
theorem X_lawOf {σ : XS} {T : List (Nat × Nat × List Int32)} (hl : T.length ≤ 14) (hW : ∀ (t : Nat) (p : Nat × Nat × List Int32), T[t]? = some p → p.1 ≤ 2) (h6 : xi σ 0 6 = nI T.length) (hT : XT σ T) {k : Nat} (hk : k ≤ 2) {x : Option Nat} (hx : Best T k T.length x) :
    match x with
    | none => fX_lawOf σ (nI k) = some none
    | some t => ∃ a p, T[t]? = some p ∧ p.1 = k ∧ LawAt σ a p.1 p.2.1 p.2.2 ∧ fX_lawOf σ (nI k) = some (some a) := by
  obtain ⟨y, b1, b2⟩ := X_last hl hW h6 hT hk
  have e := Best_eq hx b1
  subst e
  rcases x with _ | t
  · show fX_lawOf σ (nI k) = _
    unfold fX_lawOf
    rw [b2, ob_s]
    exact if_pos rfl
  · obtain ⟨p, p1, p2⟩ := hx.2.1
    obtain ⟨a, a1, a2⟩ := hT t p p1
    refine ⟨a, p, p1, p2, a2, ?_⟩
    have ht := hx.1
    unfold fX_lawOf
    rw [show bI (some t) (-1000000005) = nI t from rfl] at b2
    rw [b2, ob_s]
    show (if nI t = (-1000000005 : Int32) then _ else _) = _
    rw [if_neg (fun e => by have := congrArg Int32.toInt e; rw [nI_toInt (by omega)] at this; have : (-1000000005 : Int32).toInt = -1000000005 := rfl; omega), ck_in (by omega) (by omega), clampI (by omega), a1]
theorem BX_law {σ σ' : XS} {μ μ' : MS} {R : Option (List Int32)} {n x j : Nat} (h : BX σ 0 μ R n x j NoD) (e1 : xi σ' = xi σ) (e2 : xr σ' = xr σ) (e3 : Kw σ σ') (m : ∀ c, c ≠ 29 → c ≠ 30 → μ' c = μ c) : BX σ' 0 μ' R n x j NoD ∧ XF σ 0 σ' ∧ MF μ μ' := by
  refine ⟨⟨by rw [m 1 (by decide) (by decide)]; exact h.1, by rw [m 1 (by decide) (by decide)]; exact XB_fr (by rw [e1]) (fun w _ => by rw [e1]) h.2.1, RX_fr (by rw [e2]) e3 h.2.2.1, RM_fr (by rw [m 0 (by decide) (by decide)]) (fun q _ => by rw [m 1 (by decide) (by decide)]) (m 14 (by decide) (by decide)) (m 15 (by decide) (by decide)) h.2.2.2⟩, ⟨fun c _ _ => by rw [e1], e2, e3⟩, ⟨fun c _ _ _ c4 c5 => m c c4 c5, by rw [m 1 (by decide) (by decide)], fun q _ => by rw [m 1 (by decide) (by decide)]⟩⟩
theorem L_fee : Ls_fee Re := by
  intro σ μ hRe
  obtain ⟨T, n, j, hT, hj, hB, hI⟩ := id hRe
  have h14 := hT.1.2.1
  obtain ⟨x, a1, a2⟩ := M_counts hT.1 (k := 1) (by omega)
  have hL := X_lawOf h14 (MT_W hT.1) hT.2.1 hT.2.2 (k := 1) (by omega) a1
  obtain ⟨r, μ6, b0, b1, b2, b3, b4, b5⟩ := B_mess hB
  unfold fX_fee fM_fee
  rw [b1, ob_s, show (1 : Int32) = nI 1 from rfl, a2, ob_s, b2, ob2_s, ob2_s]
  rcases x with _ | t
  · rw [show fX_lawOf σ (nI 1) = some none from hL, ob_s, if_neg (show ¬ (0 : Int32) ≤ bI none (-1) by decide)]
    exact ⟨_, σ, μ6, rfl, rfl, Re_bag hT hB hI b3 hj (XF_refl _ _) b4⟩
  · obtain ⟨a, p, p1, p2, p3, p4⟩ := hL
    obtain ⟨hTt, hWt⟩ := hT.1.2.2 t p p1
    have ht := a1.1
    obtain ⟨k, o, cs⟩ := p
    have hk : k = 1 := p2
    subst hk
    have hTt : TextAt (μ 1) t 1 o cs := hTt
    have hWt : WfT 1 o cs := hWt
    have p3 : LawAt σ a 1 o cs := p3
    obtain ⟨σ', c1, c2, c3, c4⟩ := X_gives σ (nI r) (xi σ (1 + 0) 9) 0 p3 hWt hB.2.2.1.1
    rw [p4, ob_s]
    show ∃ q σ' μ', lk σ a _ = _ ∧ _
    rw [lk_s p3.1, c1, ob2_s, show bI (some t) (-1) = nI t from rfl, if_pos (nI_pos' (by omega)), bnd_s, bnd_s]
    have hnm : ∀ c ∈ cs, ¬ c < -3 → c < 0 → (up2 (up2 μ6 29 109 (nI r)) 29 106 ((up2 μ6 29 109 (nI r)) 1 2)) 29 (dcV 1 c).toNatClampNeg = evN (f3 (nI r) (xi σ (1 + 0) 9) 0) c := by
      intro c hc g1 g2
      unfold dcV evN
      rw [if_neg g1, if_pos g2, if_pos g2]
      by_cases g3 : c = -1
      · rw [if_pos g3, if_pos g3]; rfl
      · rw [if_neg g3, if_neg g3]
        by_cases g4 : c = -2
        · rw [if_pos g4, if_pos g4]
          show (up2 μ6 29 109 (nI r)) 1 2 = xi σ (1 + 0) 9
          rw [up2_n _ _ _ (by decide), b5, hB.2.1.1.2.2.2.1]
        · exfalso
          have h3 := hWt.2.2.2.2.2 c hc
          rcases h3 with h3 | h3
          · cases h3
          · apply h3
            apply Int32.toInt_inj.mp
            have q1 : ¬ c.toInt = -1 := fun e => g3 (Int32.toInt_inj.mp e)
            have q2 : ¬ c.toInt = -2 := fun e => g4 (Int32.toInt_inj.mp e)
            rw [lt_iff] at g1 g2
            have z1 : (-3 : Int32).toInt = -3 := rfl
            have z2 : (0 : Int32).toInt = 0 := rfl
            omega
    obtain ⟨μ', d1, d2⟩ := M_worked (f3 (nI r) (xi σ (1 + 0) 9) 0) (up2 (up2 μ6 29 109 (nI r)) 29 106 ((up2 μ6 29 109 (nI r)) 1 2)) (t := t) (k := 1) (o := o) (cs := cs) (by omega) (by show TextAt (μ6 1) t 1 o cs; rw [b5]; exact hTt) hWt hnm
    rw [d1, ob2_s]
    obtain ⟨f1, f2, f3'⟩ := BX_law (σ' := σ') (μ' := μ') b3 c2 c3 c4 (fun c h29 h30 => by rw [d2 c h30, up2_n _ _ _ h29, up2_n _ _ _ h29])
    exact ⟨_, σ', μ', rfl, rfl, Re_bag hT hB hI f1 hj f2 (MF_trans b4 f3')⟩
theorem L_fine : Ls_fine Re := by
  intro σ μ x1 hRe
  obtain ⟨T, n, j, hT, hj, hB, hI⟩ := id hRe
  have h14 := hT.1.2.1
  have hn := hB.1.1
  obtain ⟨x, a1, a2⟩ := M_counts hT.1 (k := 2) (by omega)
  have hL := X_lawOf h14 (MT_W hT.1) hT.2.1 hT.2.2 (k := 2) (by omega) a1
  unfold fX_fine fM_fine
  rcases B_one hB x1 with ⟨q, hq, rfl, e1, e2⟩ | ⟨e1, e2⟩
  · obtain ⟨pl', l1, l2, l3, l4⟩ := B_placeOf hB hq
    rw [e1, e2, ob_s, ob_s, i1, i1, l3, ob_s, show fX_lawOf σ (2 : Int32) = fX_lawOf σ (nI 2) from rfl, show fM_counts μ (2 : Int32) = _ from a2, ob_s]
    rcases x with _ | t
    · rw [show fX_lawOf σ (nI 2) = some none from hL, ob_s, if_neg (show ¬ (0 : Int32) ≤ bI none (-1) by decide), l4, ob_s]
      exact ⟨_, σ, μ, rfl, rfl, hRe⟩
    · obtain ⟨a, p, p1, p2, p3, p4⟩ := hL
      obtain ⟨hTt, hWt⟩ := hT.1.2.2 t p p1
      have ht := a1.1
      obtain ⟨k, o, cs⟩ := p
      have hk : k = 2 := p2
      subst hk
      have hTt : TextAt (μ 1) t 2 o cs := hTt
      have hWt : WfT 2 o cs := hWt
      have p3 : LawAt σ a 2 o cs := p3
      obtain ⟨σ', c1, c2, c3, c4⟩ := X_gives σ (xi σ (30 + 6 * 0 + 1) q) (nI pl') 0 p3 hWt hB.2.2.1.1
      rw [p4, ob_s]
      show ∃ q' σ' μ', ck (nI q) 14 _ = _ ∧ _
      have g8 : ∀ v, (up2 μ 29 116 v) 1 = μ 1 := fun v => up2_n _ _ _ (by decide)
      have l5 : ∀ v, fM_placeOf (up2 μ 29 116 v) (nI q) = some (nI pl') := fun v => by
        have hB2 : BX σ 0 (up2 μ 29 116 v) (lastT T 0) n 0 j NoD := BX_mu hB (g8 v) (RM_fr (by rw [up2_n _ _ _ (by decide)]) (fun m _ => by rw [g8]) (up2_n _ _ _ (by decide)) (up2_n _ _ _ (by decide)) hB.2.2.2)
        obtain ⟨pw, m1, m2, m3, m4⟩ := B_placeOf hB2 hq
        rw [l3] at m3
        rw [m4, Option.some.inj m3]
      rw [ck_in (by omega) (by omega), clampI (by omega), lk_s p3.1, c1, ob2_s, show bI (some t) (-1) = nI t from rfl, if_pos (nI_pos' (by omega)), show fM_of μ (nI q) (1 : Int32) = some (μ 1 (20 + 4 * q + 1)) from M_of μ (w := 1) (by omega), ob_s, bnd_s, l5, ob_s, bnd_s]
      have hnm : ∀ c ∈ cs, ¬ c < -3 → c < 0 → (up2 (up2 μ 29 116 (μ 1 (20 + 4 * q + 1))) 29 112 (nI pl')) 29 (dcV 2 c).toNatClampNeg = evN (f3 (xi σ (30 + 6 * 0 + 1) q) (nI pl') 0) c := by
        intro c hc g1 g2
        unfold dcV evN
        rw [if_neg g1, if_pos g2, if_pos g2]
        by_cases g3 : c = -1
        · rw [if_pos g3, if_pos g3]
          show μ 1 (20 + 4 * q + 1) = xi σ (30 + 6 * 0 + 1) q
          rw [(hB.2.1.2.2.1 q hq).2.1, show 20 + 4 * q + 1 = 21 + 4 * q by omega]
        · rw [if_neg g3, if_neg g3]
          by_cases g4 : c = -2
          · rw [if_pos g4, if_pos g4]; rfl
          · exfalso
            have h3 := hWt.2.2.2.2.2 c hc
            rcases h3 with h3 | h3
            · cases h3
            · apply h3
              apply Int32.toInt_inj.mp
              have q1 : ¬ c.toInt = -1 := fun e => g3 (Int32.toInt_inj.mp e)
              have q2 : ¬ c.toInt = -2 := fun e => g4 (Int32.toInt_inj.mp e)
              rw [lt_iff] at g1 g2
              have z1 : (-3 : Int32).toInt = -3 := rfl
              have z2 : (0 : Int32).toInt = 0 := rfl
              omega
      obtain ⟨μ', d1, d2⟩ := M_worked (f3 (xi σ (30 + 6 * 0 + 1) q) (nI pl') 0) (up2 (up2 μ 29 116 (μ 1 (20 + 4 * q + 1))) 29 112 (nI pl')) (t := t) (k := 2) (o := o) (cs := cs) (by omega) hTt hWt hnm
      rw [d1, ob2_s]
      obtain ⟨f1, f2, f3'⟩ := BX_law (σ' := σ') (μ' := μ') hB c2 c3 c4 (fun c h29 h30 => by rw [d2 c h30, up2_n _ _ _ h29, up2_n _ _ _ h29])
      exact ⟨_, σ', μ', rfl, rfl, Re_bag hT hB hI f1 hj f2 f3'⟩
  · rw [e1, e2, ob_s, ob_s, i0, i0]
    exact ⟨_, σ, μ, rfl, rfl, hRe⟩
theorem oc_e {α : Type} {n : Option α} {f : Nat → Option α} {a : Nat} : oc (some a) n f = f a := rfl
theorem L_textTold : Ls_textTold Re := by
  intro σ μ x1 x2 hRe
  obtain ⟨T, n, j, hT, hj, hB, hI⟩ := id hRe
  have h14 := hT.1.2.1
  unfold fX_textTold fM_textTold fM_isText
  have e1 : (nI T.length - 1).toInt = (T.length : Int) - 1 := by rw [show (1 : Int32) = nI 1 from rfl, pk_sub_toInt (by omega) (by omega)]; rfl
  rw [hT.2.1, hT.1.1, X_in σ x1 (a := 0) (b := (T.length : Int) - 1) rfl e1, ob_s, M_in μ x1 (a := 0) (b := (T.length : Int) - 1) rfl (by rw [w64]; exact e1), ob_s, zb_s, ob_s]
  by_cases h1 : 0 ≤ x1.toInt ∧ x1.toInt ≤ (T.length : Int) - 1
  · rw [ite1 h1, ite1 h1, X_in σ x2 (a := 0) (b := 1) rfl rfl, ob_s, M_in μ x2 (a := 0) (b := 1) rfl rfl, ob_s]
    by_cases h2 : 0 ≤ x2.toInt ∧ x2.toInt ≤ 1
    · obtain ⟨t, t1, t2, rfl⟩ := rng (x := x1) (a := 0) (b := T.length - 1) (by omega)
      rw [nI_toInt (by omega)] at h1
      have hp : T[t]? = some T[t] := List.getElem?_eq_getElem (by omega)
      obtain ⟨a, a1, a2⟩ := hT.2.2 t _ hp
      obtain ⟨⟨c1, c2, _⟩, _⟩ := hT.1.2.2 t _ hp
      obtain ⟨y, y1, y2, rfl⟩ := rng (a := 0) (b := 1) h2
      rw [ite1 h2, ite1 h2, M_textAt, ob_s, nI_add, ck_in (a := t) (n := 14) (by omega) (by omega), clampI (n := t) (by omega), a1, oc_e]
      have hy : y = 0 ∨ y = 1 := by omega
      rcases hy with rfl | rfl
      · rw [if_pos nI_0, lk_s a2.1, a2.2.1, Nat.add_zero, clampI (by omega), c1, ck_in (by omega) (by omega)]
        exact ⟨_, rfl, rfl⟩
      · rw [if_neg (show ¬ nI 1 = 0 by decide), lk_s a2.1, a2.2.2.1, show 76 + 200 * t + 1 = 77 + 200 * t by omega, clampI (by omega), c2, ck_in (by omega) (by omega)]
        exact ⟨_, rfl, rfl⟩
    · rw [ite0 h2, ite0 h2]; exact ⟨_, rfl, rfl⟩
  · rw [ite0 h1, ite0 h1]; exact ⟨_, rfl, rfl⟩
