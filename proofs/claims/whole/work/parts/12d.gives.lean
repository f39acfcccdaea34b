/-! the class's laws: address a, key k, o operands, codes cs -/
def LawAt (σ : XS) (a k o : Nat) (cs : List Int32) : Prop :=
  (a ∈ xL σ ∧ xq σ a 3 = 0) ∧ xw σ a 0 = nI k ∧ xw σ a 1 = nI o ∧
  ((xq σ a 0 ∈ xL σ ∧ ¬ xq σ (xq σ a 0) 3 = 0) ∧ xq σ (xq σ a 0) 2 = cs.length ∧ ∀ i, i < cs.length → xw σ (xq σ a 0) i = cs.getD i 0) ∧
  ((xq σ a 1 ∈ xL σ ∧ ¬ xq σ (xq σ a 1) 3 = 0) ∧ xq σ (xq σ a 1) 2 = o)
/-- a place where a law puts its pile -/
def isStk (σ : XS) (c : Nat) : Prop := ∃ a, (a ∈ xL σ ∧ xq σ a 3 = 0) ∧ xq σ a 1 = c ∧ ¬ xq σ c 3 = 0
/-- piles lie apart from codes -/
def Apart (σ : XS) : Prop := ∀ a, (a ∈ xL σ ∧ xq σ a 3 = 0) → ¬ isStk σ (xq σ a 0) ∧ xq σ a 0 ∈ xL σ ∧ xq σ a 1 ∈ xL σ
/-- all but piles is kept in the pool -/
def Kw (σ σ' : XS) : Prop := xl σ' = xl σ ∧ xL σ' = xL σ ∧ xq σ' = xq σ ∧ ∀ c, ¬ isStk σ c → xw σ' c = xw σ c
theorem Kw_refl (σ : XS) : Kw σ σ := ⟨rfl, rfl, rfl, fun _ _ => rfl⟩
theorem isStk_eq {σ σ' : XS} (h : Kw σ σ') (c : Nat) : isStk σ' c ↔ isStk σ c := by
  obtain ⟨h1, h2, h3, h4⟩ := h
  unfold isStk
  rw [h2, h3]
theorem Kw_trans {a b c : XS} (h : Kw a b) (g : Kw b c) : Kw a c := by
  refine ⟨by rw [g.1, h.1], by rw [g.2.1, h.2.1], by rw [g.2.2.1, h.2.2.1], fun d hd => ?_⟩
  rw [g.2.2.2 d (fun z => hd ((isStk_eq h d).mp z)), h.2.2.2 d hd]
theorem Apart_kw {σ σ' : XS} (h : Kw σ σ') (g : Apart σ) : Apart σ' := by
  intro a ha
  rw [isStk_eq h]
  rw [h.2.1, h.2.2.1] at ha
  rw [h.2.1, h.2.2.1]
  exact g a ha
theorem not_stk {σ : XS} {a : Nat} (h : xq σ a 3 = 0) : ¬ isStk σ a := fun ⟨_, _, _, z⟩ => z h
theorem LawAt_kw {σ σ' : XS} {a k o : Nat} {cs : List Int32} (hk : Kw σ σ') (hA : Apart σ) (h : LawAt σ a k o cs) : LawAt σ' a k o cs := by
  obtain ⟨h1, h2, h3, ⟨h4, h5, h6⟩, h7, h8⟩ := h
  unfold LawAt
  rw [hk.2.1, hk.2.2.1, hk.2.2.2 a (not_stk h1.2), hk.2.2.2 _ (hA a h1).1]
  exact ⟨h1, h2, h3, ⟨h4, h5, h6⟩, h7, h8⟩
theorem lk_s {α : Type} {σ : XS} {a : Nat} {k : Option α} (h : a ∈ xL σ ∧ xq σ a 3 = 0) : lk σ a k = k := by unfold lk; rw [if_pos h]
theorem la_s {α : Type} {σ : XS} {a : Nat} {k : Option α} (h : a ∈ xL σ ∧ ¬ xq σ a 3 = 0) : la σ a k = k := by unfold la; rw [if_pos h]
theorem xw_u (σ : XS) (a j : Nat) (v : Int32) : xw (xuw σ a j v) a = upd (xw σ a) j v := by show up2 (xw σ) a j v a = _; exact up2_s (xw σ) a j v
theorem xw_un (σ : XS) {a b : Nat} (j : Nat) (v : Int32) (h : b ≠ a) : xw (xuw σ a j v) b = xw σ b := up2_n (xw σ) j v h
theorem kw_xuw (σ : XS) {a j : Nat} {v : Int32} (h : isStk σ a) : Kw σ (xuw σ a j v) := ⟨rfl, rfl, rfl, fun c hc => xw_un σ j v (fun e => hc (by rw [e]; exact h))⟩
def f3 (x y z : Int32) : Nat → Int32 := fun i => if i = 0 then x else if i = 1 then y else z
theorem X_givesL (k174 : Int32 → XS → Option (Int32 × XS)) (x1 x2 x3 : Int32) (aw t o : Nat) (cs0 : List Int32) (hlen : cs0.length ≤ 96) (e : Nat) (ho : o ≤ 96) :
    ∀ (cs : List Int32) (i d n : Nat) (σ : XS), cs0.drop i = cs → i + cs.length = cs0.length → d + nops cs ≤ o → dpF cs d = some e → cs.length < n →
      LawAt σ aw 0 o cs0 ∨ LawAt σ aw 1 o cs0 ∨ LawAt σ aw 2 o cs0 → xq σ aw 1 = t → Apart σ →
      ∃ σ', fL_gives_L6 aw k174 n x1 x2 x3 (nI d) (nI i) σ = k174 (nI e) σ' ∧ xi σ' = xi σ ∧ xr σ' = xr σ ∧ Kw σ σ' ∧ xw σ' t = evF (f3 x1 x2 x3) cs d (xw σ t) := by
  intro cs
  induction cs with
  | nil =>
    intro i d n σ hdr hil hdi hdp hn hL ht hA
    obtain ⟨n, rfl⟩ : ∃ m, n = m + 1 := ⟨n - 1, by simp at hn; omega⟩
    obtain ⟨k, hL⟩ : ∃ k, LawAt σ aw k o cs0 := by rcases hL with h | h | h <;> exact ⟨_, h⟩
    obtain ⟨h1, h2, h3, ⟨h4, h5, h6⟩, h7, h8⟩ := hL
    obtain rfl : d = e := Option.some.inj hdp
    refine ⟨σ, ?_, rfl, rfl, Kw_refl σ, rfl⟩
    rw [fL_gives_L6, lk_s h1, la_s h4, h5, show Int32.ofNat cs0.length = nI cs0.length from rfl]
    rw [if_pos (nI_le (by simp at hil; omega) (by omega))]
  | cons c cs ih =>
    intro i d n σ hdr hil hdi hdp hn hL0 ht hA
    obtain ⟨n, rfl⟩ : ∃ m, n = m + 1 := ⟨n - 1, by simp at hn; omega⟩
    have hL1 : ∀ σ', Kw σ σ' → LawAt σ' aw 0 o cs0 ∨ LawAt σ' aw 1 o cs0 ∨ LawAt σ' aw 2 o cs0 := fun σ' hk => by
      rcases hL0 with h | h | h
      · exact Or.inl (LawAt_kw hk hA h)
      · exact Or.inr (Or.inl (LawAt_kw hk hA h))
      · exact Or.inr (Or.inr (LawAt_kw hk hA h))
    obtain ⟨k, hL⟩ : ∃ k, LawAt σ aw k o cs0 := by rcases hL0 with h | h | h <;> exact ⟨_, h⟩
    obtain ⟨h1, h2, h3, ⟨h4, h5, h6⟩, h7, h8⟩ := hL
    rw [List.length_cons] at hil hn
    rw [nops] at hdi
    have hi : i < cs0.length := by omega
    have hc : cs0.getD i 0 = c := by
      have h1 : cs0[i]? = some c := by
        have := congrArg List.head? hdr
        rw [List.head?_drop] at this
        exact this
      rw [List.getD_eq_getElem?_getD, h1]; rfl
    have hdr2 : cs0.drop (i + 1) = cs := by rw [← List.drop_drop, hdr]; rfl
    have hst : isStk σ t := ⟨aw, h1, ht, by rw [← ht]; exact h7.2⟩
    rw [fL_gives_L6, lk_s h1, la_s h4, h5, show Int32.ofNat cs0.length = nI cs0.length from rfl, if_neg (nI_ge (by omega) (by omega)), lk_s h1, la_s h4, ck_in (by omega) (by omega), bnd_s, clampI (by omega), h6 i hi, hc]
    rw [ht] at h7 h8 ⊢
    rw [h8]
    rw [dpF] at hdp
    rw [evF]
    unfold ev1
    have key : ∀ (d2 : Nat) (j : Nat) (v : Int32), d2 + nops cs ≤ o → dpF cs d2 = some e →
      ∃ σ', fL_gives_L6 aw k174 n x1 x2 x3 (nI d2) (nI (i + 1)) (xuw σ t j v) = k174 (nI e) σ' ∧ xi σ' = xi σ ∧ xr σ' = xr σ ∧ Kw σ σ' ∧ xw σ' t = evF (f3 x1 x2 x3) cs d2 (upd (xw σ t) j v) := by
      intro d2 j v g1 g2
      have hk : Kw σ (xuw σ t j v) := kw_xuw σ hst
      obtain ⟨σ', a1, a2, a3, a4, a5⟩ := ih (i + 1) d2 n (xuw σ t j v) hdr2 (by omega) g1 g2 (by omega) (hL1 _ hk) ht (Apart_kw hk hA)
      exact ⟨σ', a1, a2, a3, Kw_trans hk a4, by rw [a5, xw_u]⟩
    by_cases g1 : c < -3
    · rw [if_pos g1] at hdp hdi ⊢
      simp only [if_pos g1]
      by_cases g2 : c = -33
      · rw [if_pos g2] at hdp ⊢
        simp only [if_pos g2]
        by_cases g3 : 1 ≤ d
        · rw [if_pos g3] at hdp
          have e3 : nI d - 1 = nI (d - 1) := pk_sub (b := 1) g3
          rw [if_neg (show ¬ nI d ≤ 0 from nI_ge (a := 0) (by omega) (by omega)), lk_s h1, lk_s h1, la_s h7, e3, ck_in (by omega) (by omega), clampI (by omega)]
          by_cases g4 : xw σ t (d - 1) = 0
          · rw [if_pos g4, if_pos g4, la_s h7, ck_in (by omega) (by omega), bnd_s, bnd_s, nI_1]
            exact key d (d - 1) 1 (by omega) hdp
          · rw [if_neg g4, if_neg g4, la_s h7, ck_in (by omega) (by omega), bnd_s, bnd_s, nI_1]
            exact key d (d - 1) 0 (by omega) hdp
        · rw [if_neg g3] at hdp; cases hdp
      · rw [if_neg g2] at hdp ⊢
        simp only [if_neg g2]
        by_cases g3 : 2 ≤ d ∧ (-c = 38 ∨ -c = 42 ∨ -c = 43 ∨ -c = 45 ∨ -c = 47 ∨ -c = 60 ∨ -c = 61 ∨ -c = 62 ∨ -c = 124)
        · rw [if_pos g3] at hdp
          obtain ⟨d, rfl⟩ : ∃ d', d = d' + 2 := ⟨d - 2, by omega⟩
          have e3 : nI (d + 1) - 1 = nI d := pk_sub (a := d + 1) (b := 1) (by omega)
          rw [if_neg (show ¬ nI (d + 2) ≤ 1 from nI_ge (a := 1) (by omega) (by omega)), bnd_s, show nI (d + 2) + (-1) = nI (d + 1) from pk_m1 (d + 1), lk_s h1, lk_s h1, la_s h7, e3, ck_in (by omega) (by omega), lk_s h1, la_s h7, ck_in (by omega) (by omega), X_joined σ g3.2, ob_s, la_s h7, ck_in (by omega) (by omega), clampI (by omega), clampI (by omega), bnd_s, bnd_s, nI_1]
          exact key (d + 1) d (jv (-c) (xw σ t d) (xw σ t (d + 1))) (by omega) hdp
        · rw [if_neg g3] at hdp; cases hdp
    · rw [if_neg g1] at hdp hdi ⊢
      simp only [if_neg g1]
      rw [lk_s h1, la_s h7, show Int32.ofNat o = nI o from rfl, if_neg (nI_ge (by omega) (by omega)), lk_s h1]
      have fin : ∀ v : Int32, v = evN (f3 x1 x2 x3) c → ∃ σ', fL_gives_L6 aw k174 n x1 x2 x3 (nI (d + 1)) (nI (i + 1)) (xuw σ t d v) = k174 (nI e) σ' ∧ xi σ' = xi σ ∧ xr σ' = xr σ ∧ Kw σ σ' ∧ xw σ' t = evF (f3 x1 x2 x3) cs (d + 1) (upd (xw σ t) d (evN (f3 x1 x2 x3) c)) := fun v hv => by
        have := key (d + 1) d v (by omega) hdp
        rw [hv] at this
        rw [hv]
        exact this
      unfold evN at fin ⊢
      by_cases g2 : c < 0
      · rw [if_pos g2] at fin ⊢
        by_cases g3 : c = -1
        · rw [if_pos g3] at fin ⊢
          rw [la_s h7, ck_in (by omega) (by omega), bnd_s, bnd_s, bnd_s, clampI (by omega), nI_1, nI_1]
          rw [if_pos g2, if_pos g3]
          exact fin x1 rfl
        · rw [if_neg g3] at fin ⊢
          by_cases g4 : c = -2
          · rw [if_pos g4] at fin ⊢
            rw [la_s h7, ck_in (by omega) (by omega), bnd_s, bnd_s, bnd_s, clampI (by omega), nI_1, nI_1]
            rw [if_pos g2, if_neg g3, if_pos g4]
            exact fin x2 rfl
          · rw [if_neg g4] at fin ⊢
            rw [la_s h7, ck_in (by omega) (by omega), bnd_s, bnd_s, bnd_s, clampI (by omega), nI_1, nI_1]
            rw [if_pos g2, if_neg g3, if_neg g4]
            exact fin x3 rfl
      · rw [if_neg g2] at fin ⊢
        rw [la_s h7, ck_in (by omega) (by omega), bnd_s, bnd_s, bnd_s, clampI (by omega), nI_1, nI_1]
        rw [if_neg g2]
        exact fin c rfl
theorem X_gives (σ : XS) (x1 x2 x3 : Int32) {a k o : Nat} {cs : List Int32} (hL : LawAt σ a k o cs) (hw : WfT k o cs) (hA : Apart σ) :
    ∃ σ', fL_gives σ a x1 x2 x3 = some (evV (f3 x1 x2 x3) cs, σ') ∧ xi σ' = xi σ ∧ xr σ' = xr σ ∧ Kw σ σ' := by
  obtain ⟨w1, w2, w3, w4, w5, w6⟩ := hw
  have hL3 : LawAt σ a 0 o cs ∨ LawAt σ a 1 o cs ∨ LawAt σ a 2 o cs := by
    have hk : k = 0 ∨ k = 1 ∨ k = 2 := by omega
    rcases hk with rfl | rfl | rfl
    · exact Or.inl hL
    · exact Or.inr (Or.inl hL)
    · exact Or.inr (Or.inr hL)
  obtain ⟨h1, h2, h3, ⟨h4, h5, h6⟩, h7, h8⟩ := hL
  obtain ⟨σ', a1, a2, a3, a4, a5⟩ := X_givesL (fun (x4 : Int32) (σ : XS) => if x4 ≤ 0 then some ((0 : Int32), σ) else lk σ a <| la σ (xq σ a 1) <| ck (0 : Int32) (xq σ (xq σ a 1) 2) <| some ((xw σ (xq σ a 1) ((0 : Int32)).toNatClampNeg), σ)) x1 x2 x3 a (xq σ a 1) o cs w3 1 w2 cs 0 0 10000 σ rfl (by omega) (by omega) w4 (by omega) hL3 rfl hA
  refine ⟨σ', ?_, a2, a3, a4⟩
  have o1 : 1 ≤ o := by
    rcases cs with _ | ⟨c, cs⟩
    · cases w4
    · rw [dpF] at w4
      rw [nops] at w5
      by_cases g : c < -3
      · rw [if_pos g] at w4
        by_cases g2 : c = -33
        · rw [if_pos g2, if_neg (by omega)] at w4; cases w4
        · rw [if_neg g2, if_neg (by omega)] at w4; cases w4
      · rw [if_neg g] at w5; omega
  unfold fL_gives
  rw [show fL_gives_L6 a _ 10000 x1 x2 x3 (0 : Int32) (0 : Int32) σ = _ from a1]
  show (if nI 1 ≤ 0 then _ else lk σ' a _) = _
  rw [if_neg (show ¬ nI 1 ≤ 0 by decide)]
  rw [lk_s (by rw [a4.2.1, a4.2.2.1]; exact h1), a4.2.2.1, la_s (by rw [a4.2.1, a4.2.2.1]; exact h7), h8, show (0 : Int32) = nI 0 from rfl, ck_in (by omega) (by omega), clampI (by omega), a5, evV_of w4]
