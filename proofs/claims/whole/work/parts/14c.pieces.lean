/-! TEXT: the reader's relation and its small steps -/
def PR (σ : XS) (μ : MS) (B : Nat → Nat) (L st en so b t k A : Nat) (cs : List Int32) (o : Nat) : Prop :=
  TB σ μ B L ∧ TS σ μ B L st en so ∧ (xi σ 6 1 = nI k ∧ k ≤ 2) ∧ (xi σ 6 5 = nI b ∧ μ 0 23 = nI b) ∧ (xi σ 6 6 = nI t ∧ μ 0 24 = nI t) ∧
  (xi σ 6 4 = nI cs.length ∧ μ 0 25 = nI cs.length) ∧ (xi σ 6 2 = nI o ∧ μ 0 27 = nI o) ∧ (μ 0 26 = nI A ∧ A ≤ 2876) ∧
  ∀ i, i < cs.length → xi σ 55 i = cs.getD i 0 ∧ μ 1 (A + 2 * i) = dcW (cs.getD i 0) ∧ μ 1 (A + 2 * i + 1) = dcV k (cs.getD i 0)
def PF (σ σ' : XS) (μ μ' : MS) (A : Nat) : Prop := (∀ c, c ≠ 5 → c ≠ 6 → c ≠ 55 → xi σ' c = xi σ c) ∧ σ'.2 = σ.2 ∧ (∀ c, c ≠ 0 → c ≠ 1 → μ' c = μ c) ∧ (∀ f, (f < 18 ∨ 27 < f) → μ' 0 f = μ 0 f) ∧ ∀ m, m < A → μ' 1 m = μ 1 m
theorem PF_refl (σ : XS) (μ : MS) (A : Nat) : PF σ σ μ μ A := ⟨fun _ _ _ _ => rfl, rfl, fun _ _ _ => rfl, fun _ _ => rfl, fun _ _ => rfl⟩
theorem PF_trans {a b c : XS} {x y z : MS} {A : Nat} (h : PF a b x y A) (g : PF b c y z A) : PF a c x z A := ⟨fun d h1 h2 h3 => by rw [g.1 d h1 h2 h3, h.1 d h1 h2 h3], by rw [g.2.1, h.2.1], fun d h1 h2 => by rw [g.2.2.1 d h1 h2, h.2.2.1 d h1 h2], fun f hf => by rw [g.2.2.2.1 f hf, h.2.2.2.1 f hf], fun m hm => by rw [g.2.2.2.2 m hm, h.2.2.2.2 m hm]⟩
theorem PF_nf {σ σ' : XS} {μ μ' : MS} {A : Nat} (h : NF σ σ' μ μ') : PF σ σ' μ μ' A := ⟨fun c h1 _ _ => h.1 c h1, h.2.2.1, fun c h1 _ => h.2.2.2.1 c h1, fun f hf => h.2.2.2.2 f (by omega), fun m _ => by rw [h.2.2.2.1 1 (by decide)]⟩
theorem TS_fr {σ σ' : XS} {μ μ' : MS} {B : Nat → Nat} {L st en so : Nat} (h : TS σ μ B L st en so) (h1 : xi σ' 5 = xi σ 5) (h2 : ∀ f, 18 ≤ f → f ≤ 22 → μ' 0 f = μ 0 f) : TS σ' μ' B L st en so := by
  unfold TS
  rw [h1, h2 18 (by omega) (by omega), h2 19 (by omega) (by omega), h2 20 (by omega) (by omega), h2 21 (by omega) (by omega), h2 22 (by omega) (by omega)]
  exact h
/-- brackets, nots and operands counted anew -/
theorem PR_cnt {σ σ' : XS} {μ μ' : MS} {B : Nat → Nat} {L st en so b t k A b' t' o' : Nat} {cs : List Int32} {o : Nat} (h : PR σ μ B L st en so b t k A cs o) (x : ∀ c, c ≠ 6 → xi σ' c = xi σ c) (x1 : xi σ' 6 1 = xi σ 6 1) (x4 : xi σ' 6 4 = xi σ 6 4) (m : ∀ c, c ≠ 0 → μ' c = μ c) (m0 : ∀ f, f ≠ 23 → f ≠ 24 → f ≠ 27 → μ' 0 f = μ 0 f)
    (hb : xi σ' 6 5 = nI b' ∧ μ' 0 23 = nI b') (ht : xi σ' 6 6 = nI t' ∧ μ' 0 24 = nI t') (ho : xi σ' 6 2 = nI o' ∧ μ' 0 27 = nI o') : PR σ' μ' B L st en so b' t' k A cs o' := by
  obtain ⟨h1, h2, h3, h4, h5, h6, h7, h8, h9⟩ := h
  refine ⟨TB_fr h1 (by rw [x 5 (by decide)]) (x 54 (by decide)) (m0 17 (by decide) (by decide) (by decide)) (m 17 (by decide)), TS_fr h2 (x 5 (by decide)) (fun f f1 f2 => m0 f (by omega) (by omega) (by omega)), by rw [x1]; exact h3, hb, ht, by rw [x4, m0 25 (by decide) (by decide) (by decide)]; exact h6, ho, by rw [m0 26 (by decide) (by decide) (by decide)]; exact h8, ?_⟩
  rw [x 55 (by decide), m 1 (by decide)]
  exact h9
theorem PR_b {σ : XS} {μ : MS} {B : Nat → Nat} {L st en so b t k A : Nat} {cs : List Int32} {o : Nat} (h : PR σ μ B L st en so b t k A cs o) (b' : Nat) : PR (xu σ 6 5 (nI b')) (up2 μ 0 23 (nI b')) B L st en so b' t k A cs o ∧ PF σ (xu σ 6 5 (nI b')) μ (up2 μ 0 23 (nI b')) A := by
  refine ⟨PR_cnt h (fun c hc => xi_un _ _ _ hc) (by rw [xi_u, pk_un (by decide)]) (by rw [xi_u, pk_un (by decide)]) (fun c hc => up2_n _ _ _ hc) (fun f f1 _ _ => by rw [up2_s, pk_un f1]) ⟨by rw [xi_u, pk_us], by rw [up2_s, pk_us]⟩ ⟨by rw [xi_u, pk_un (by decide)]; exact h.2.2.2.2.1.1, by rw [up2_s, pk_un (by decide)]; exact h.2.2.2.2.1.2⟩ ⟨by rw [xi_u, pk_un (by decide)]; exact h.2.2.2.2.2.2.1.1, by rw [up2_s, pk_un (by decide)]; exact h.2.2.2.2.2.2.1.2⟩, ⟨fun c _ h2 _ => xi_un _ _ _ h2, rfl, fun c h1 _ => up2_n _ _ _ h1, fun f hf => by rw [up2_s, pk_un (by omega)], fun m _ => by rw [up2_n _ _ _ (by decide)]⟩⟩
theorem PR_t {σ : XS} {μ : MS} {B : Nat → Nat} {L st en so b t k A : Nat} {cs : List Int32} {o : Nat} (h : PR σ μ B L st en so b t k A cs o) (t' : Nat) : PR (xu σ 6 6 (nI t')) (up2 μ 0 24 (nI t')) B L st en so b t' k A cs o ∧ PF σ (xu σ 6 6 (nI t')) μ (up2 μ 0 24 (nI t')) A := by
  refine ⟨PR_cnt h (fun c hc => xi_un _ _ _ hc) (by rw [xi_u, pk_un (by decide)]) (by rw [xi_u, pk_un (by decide)]) (fun c hc => up2_n _ _ _ hc) (fun f _ f1 _ => by rw [up2_s, pk_un f1]) ⟨by rw [xi_u, pk_un (by decide)]; exact h.2.2.2.1.1, by rw [up2_s, pk_un (by decide)]; exact h.2.2.2.1.2⟩ ⟨by rw [xi_u, pk_us], by rw [up2_s, pk_us]⟩ ⟨by rw [xi_u, pk_un (by decide)]; exact h.2.2.2.2.2.2.1.1, by rw [up2_s, pk_un (by decide)]; exact h.2.2.2.2.2.2.1.2⟩, ⟨fun c _ h2 _ => xi_un _ _ _ h2, rfl, fun c h1 _ => up2_n _ _ _ h1, fun f hf => by rw [up2_s, pk_un (by omega)], fun m _ => by rw [up2_n _ _ _ (by decide)]⟩⟩
theorem PR_o {σ : XS} {μ : MS} {B : Nat → Nat} {L st en so b t k A : Nat} {cs : List Int32} {o : Nat} (h : PR σ μ B L st en so b t k A cs o) (o' : Nat) : PR (xu σ 6 2 (nI o')) (up2 μ 0 27 (nI o')) B L st en so b t k A cs o' ∧ PF σ (xu σ 6 2 (nI o')) μ (up2 μ 0 27 (nI o')) A := by
  refine ⟨PR_cnt h (fun c hc => xi_un _ _ _ hc) (by rw [xi_u, pk_un (by decide)]) (by rw [xi_u, pk_un (by decide)]) (fun c hc => up2_n _ _ _ hc) (fun f _ _ f1 => by rw [up2_s, pk_un f1]) ⟨by rw [xi_u, pk_un (by decide)]; exact h.2.2.2.1.1, by rw [up2_s, pk_un (by decide)]; exact h.2.2.2.1.2⟩ ⟨by rw [xi_u, pk_un (by decide)]; exact h.2.2.2.2.1.1, by rw [up2_s, pk_un (by decide)]; exact h.2.2.2.2.1.2⟩ ⟨by rw [xi_u, pk_us], by rw [up2_s, pk_us]⟩, ⟨fun c _ h2 _ => xi_un _ _ _ h2, rfl, fun c h1 _ => up2_n _ _ _ h1, fun f hf => by rw [up2_s, pk_un (by omega)], fun m _ => by rw [up2_n _ _ _ (by decide)]⟩⟩
theorem getD_app1 (cs : List Int32) (c : Int32) {i : Nat} (h : i < cs.length) : (cs ++ [c]).getD i 0 = cs.getD i 0 := by
  rw [List.getD_eq_getElem?_getD, List.getD_eq_getElem?_getD, List.getElem?_append_left h]
theorem getD_app2 (cs : List Int32) (c : Int32) : (cs ++ [c]).getD cs.length 0 = c := by
  rw [List.getD_eq_getElem?_getD, List.getElem?_append_right (Nat.le_refl _), Nat.sub_self]; rfl
/-- one code more -/
theorem P_put {σ : XS} {μ : MS} {B : Nat → Nat} {L st en so b t k A : Nat} {cs : List Int32} {o : Nat} (h : PR σ μ B L st en so b t k A cs o) (hl : cs.length < 96) (c : Int32) {w v : Int32} (hw : w = dcW c) (hv : v = dcV k c) :
    ∃ σ' μ', fR_put σ c = some σ' ∧ fM_step μ w v = some μ' ∧ PR σ' μ' B L st en so b t k A (cs ++ [c]) o ∧ PF σ σ' μ μ' A := by
  obtain ⟨h1, h2, h3, h4, h5, h6, h7, h8, h9⟩ := h
  have hA := h8.2
  have hX : fR_put σ c = some (xu (xu σ 55 cs.length c) 6 4 (nI (cs.length + 1))) := by
    unfold fR_put
    rw [h6.1, show (96 : Int32) = nI 96 from rfl, if_neg (nI_ge hl (by omega)), ck_in (by omega) (by omega), bnd_s, clampI (by omega), bnd_s, xi_un _ _ _ (by decide), h6.1, nI_1]
  have i1 : ((μ 0 26) + ((2 : Int32) * (μ 0 25))) = nI (A + 2 * cs.length) := by rw [h8.1, h6.2, show (2 : Int32) = nI 2 from rfl, pk_mul, nI_add]
  have hM : fM_step μ w v = some (up2 (up2 (up2 μ 1 (A + 2 * cs.length) w) 1 (A + 2 * cs.length + 1) v) 0 25 (nI (cs.length + 1))) := by
    unfold fM_step
    rw [i1, ck_in (by omega) (by omega), bnd_s, clampI (by omega), up2_n _ _ _ (by decide), i1, nI_1, ck_in (by omega) (by omega), bnd_s, clampI (by omega), bnd_s, up2_n _ _ _ (by decide), up2_n _ _ _ (by decide), h6.2, nI_1]
  refine ⟨_, _, hX, hM, ⟨?_, ?_, ?_, ?_, ?_, ?_, ?_, ?_, ?_⟩, ?_⟩
  · refine TB_fr h1 ?_ ?_ ?_ ?_
    · rw [xi_un _ _ _ (by decide), xi_un _ _ _ (by decide)]
    · rw [xi_un _ _ _ (by decide), xi_un _ _ _ (by decide)]
    · rw [up2_s, pk_un (by decide), up2_n _ _ _ (by decide), up2_n _ _ _ (by decide)]
    · rw [up2_n _ _ _ (by decide), up2_n _ _ _ (by decide), up2_n _ _ _ (by decide)]
  · refine TS_fr h2 ?_ (fun f f1 f2 => ?_)
    · rw [xi_un _ _ _ (by decide), xi_un _ _ _ (by decide)]
    · rw [up2_s, pk_un (by omega), up2_n _ _ _ (by decide), up2_n _ _ _ (by decide)]
  · rw [xi_u, pk_un (by decide), xi_un _ _ _ (by decide)]; exact h3
  · rw [xi_u, pk_un (by decide), xi_un _ _ _ (by decide), up2_s, pk_un (by decide), up2_n _ _ _ (by decide), up2_n _ _ _ (by decide)]; exact h4
  · rw [xi_u, pk_un (by decide), xi_un _ _ _ (by decide), up2_s, pk_un (by decide), up2_n _ _ _ (by decide), up2_n _ _ _ (by decide)]; exact h5
  · rw [xi_u, pk_us, up2_s, pk_us, List.length_append]; exact ⟨rfl, rfl⟩
  · rw [xi_u, pk_un (by decide), xi_un _ _ _ (by decide), up2_s, pk_un (by decide), up2_n _ _ _ (by decide), up2_n _ _ _ (by decide)]; exact h7
  · rw [up2_s, pk_un (by decide), up2_n _ _ _ (by decide), up2_n _ _ _ (by decide)]; exact h8
  · intro i hi
    rw [List.length_append, List.length_singleton] at hi
    rw [xi_un _ _ _ (by decide), xi_u, up2_n _ _ _ (by decide), up2_s, up2_s]
    by_cases e : i = cs.length
    · rw [e, getD_app2, pk_us, pk_us, pk_un (by omega), pk_us]
      exact ⟨rfl, hw, hv⟩
    · rw [getD_app1 cs c (by omega), pk_un e, pk_un (by omega), pk_un (by omega), pk_un (by omega), pk_un (by omega)]
      exact h9 i (by omega)
  · refine ⟨fun d d1 d2 d3 => by rw [xi_un _ _ _ d2, xi_un _ _ _ d3], rfl, fun d d1 d2 => by rw [up2_n _ _ _ d1, up2_n _ _ _ d2, up2_n _ _ _ d2], fun f hf => by rw [up2_s, pk_un (by omega), up2_n _ _ _ (by decide), up2_n _ _ _ (by decide)], fun m hm => by rw [up2_n _ _ _ (by decide), up2_s, pk_un (by omega), up2_s, pk_un (by omega)]⟩
/-- the next token -/
theorem P_next {σ : XS} {μ : MS} {B : Nat → Nat} {L st en so b t k A : Nat} {cs : List Int32} {o : Nat} (h : PR σ μ B L st en so b t k A cs o) (hs : (so = 1 ∨ so = 2 ∨ so = 3) ∧ μ 0 20 = nI so) :
    ∃ σ' μ' st' en' so', fT_next σ = some σ' ∧ fM_nextToken μ = some μ' ∧ PR σ' μ' B L st' en' so' b t k A cs o ∧ PF σ σ' μ μ' A ∧ st + 1 ≤ st' := by
  obtain ⟨h1, h2, h3, h4, h5, h6, h7, h8, h9⟩ := h
  have h2' := h2
  obtain ⟨t1, t2, t3, t4, t5, t6, t7, t8⟩ := h2
  have hlt : st < en := by
    rcases hs.1 with rfl | rfl | rfl
    · rcases t8 with z | z | z | z | z <;> omega
    · rcases t8 with z | z | z | z | z <;> omega
    · rcases t8 with z | z | z | z | z <;> omega
  obtain ⟨σ', μ', st', en', so', a1, a2, a3, a4, a5⟩ := T_next h1 t3 t4 t7 t5 hs.2 hs.1 (fun _ => by omega)
  refine ⟨σ', μ', st', en', so', a1, a2, ⟨TB_nf h1 a3, a4, ?_, ?_, ?_, ?_, ?_, ?_, ?_⟩, PF_nf a3, by omega⟩
  · rw [a3.1 6 (by decide)]; exact h3
  · rw [a3.1 6 (by decide), a3.2.2.2.2 23 (by omega)]; exact h4
  · rw [a3.1 6 (by decide), a3.2.2.2.2 24 (by omega)]; exact h5
  · rw [a3.1 6 (by decide), a3.2.2.2.2 25 (by omega)]; exact h6
  · rw [a3.1 6 (by decide), a3.2.2.2.2 27 (by omega)]; exact h7
  · rw [a3.2.2.2.2 26 (by omega)]; exact h8
  · rw [a3.1 55 (by decide), a3.2.2.2.1 1 (by decide)]; exact h9
/-- the sign that stands now, or 0 -/
theorem P_sign {σ : XS} {μ : MS} {B : Nat → Nat} {L st en so b t k A : Nat} {cs : List Int32} {o : Nat} (h : PR σ μ B L st en so b t k A cs o) :
    ∃ sg : Int32, fT_sign σ = some sg ∧ (∀ c : Int32, ¬ c = 0 → fM_isSign μ c = some (if sg = c then 1 else 0)) ∧ (¬ sg = 0 → so = 3 ∧ μ 0 20 = nI 3 ∧ μ 0 22 = sg) ∧ (so = 3 → sg = nI (B st)) := by
  obtain ⟨h1, ⟨t1, t2, t3, t4, t5, t6, t7, t8⟩, _⟩ := h
  have hL := h1.1
  unfold fT_sign fM_isSign
  have no : ∀ (s : Nat) (z : Int32), so = s → s ≠ 3 → s < 5 → μ 0 20 = z → ¬ z = 3 → ∃ sg : Int32, (if xi σ 5 2 = 3 then ck (xi σ 5 3) 96 (some (xi σ 54 (xi σ 5 3).toNatClampNeg)) else some 0) = some sg ∧ (∀ c : Int32, ¬ c = 0 → (if μ 0 20 = 3 then (if μ 0 22 = c then some (1 : Int32) else some 0) else some 0) = some (if sg = c then 1 else 0)) ∧ (¬ sg = 0 → so = 3 ∧ μ 0 20 = nI 3 ∧ μ 0 22 = sg) ∧ (so = 3 → sg = nI (B st)) := by
    intro s z e1 e2 e3 e4 e5
    refine ⟨0, ?_, fun c hc => ?_, fun e => absurd rfl e, fun e => absurd e (by omega)⟩
    · rw [t5, e1, if_neg (show ¬ nI s = (3 : Int32) from fun e => e2 ((nI_eq (a := s) (b := 3) (by omega) (by omega)).mp e))]
    · rw [e4, if_neg e5, if_neg (fun e => hc e.symm)]
  rcases t8 with z | z | z | z | z
  · exact no 0 0 z.1 (by omega) (by omega) z.2 (by decide)
  · exact no 1 1 z.1 (by omega) (by omega) z.2.1 (by decide)
  · rcases z.2.2.2 with y | y
    · exact no 2 2 z.1 (by omega) (by omega) y.2.1 (by decide)
    · exact no 2 4 z.1 (by omega) (by omega) y.2 (by decide)
  · obtain ⟨z1, z2, z3, z4⟩ := z
    refine ⟨nI (B st), ?_, fun c hc => ?_, fun _ => ⟨z1, z2, z4⟩, fun _ => rfl⟩
    · rw [t5, z1, if_pos (show nI 3 = (3 : Int32) from rfl), t1, ck_in (by omega) (by omega), clampI (by omega), (h1.2.2.2 st (by omega)).1]
    · rw [z2, if_pos rfl, z4]
      by_cases e : nI (B st) = c
      · rw [if_pos e, if_pos e]
      · rw [if_neg e, if_neg e]
  · exact no 4 4 z.1 (by omega) (by omega) z.2 (by decide)
/-! what a part of a text does on both sides -/
def OKr (σ' : XS) (μ' : MS) (B : Nat → Nat) (L st b t k A : Nat) (cs : List Int32) (o : Nat) (r : Int32) : Prop :=
  (r = 0 ∧ xi σ' 5 3 = μ' 0 18) ∨ (r = 1 ∧ ∃ ds st' en' so', PR σ' μ' B L st' en' so' b t k A (cs ++ ds) (o + nops ds) ∧ (∀ d, dpF ds d = some (d + 1)) ∧ (∀ c ∈ ds, k = 0 ∨ c ≠ -3) ∧ ds.length + st ≤ st')
def Sub (B : Nat → Nat) (L b t k A : Nat) (FX : XS → Option (Int32 × XS)) (FM : MS → Option (Int32 × MS)) : Prop := ∀ σ μ st en so cs o, PR σ μ B L st en so b t k A cs o → cs.length + 3 ≤ st →
  ∃ r σ' μ', FX σ = some (r, σ') ∧ FM μ = some (r, μ') ∧ OKr σ' μ' B L st b t k A cs o r ∧ PF σ σ' μ μ' A
theorem PR_st {σ : XS} {μ : MS} {B : Nat → Nat} {L st en so b t k A : Nat} {cs : List Int32} {o : Nat} (h : PR σ μ B L st en so b t k A cs o) : xi σ 5 3 = μ 0 18 ∧ st ≤ 96 := ⟨by rw [h.2.1.1, h.2.1.2.1], by have := h.1.1; have := h.2.1.2.2.2.2.2.1; have := h.2.1.2.2.2.2.2.2.1; omega⟩
/-- an operand -/
theorem P_opd {σ : XS} {μ : MS} {B : Nat → Nat} {L st en so b t k A : Nat} {cs : List Int32} {o : Nat} (h : PR σ μ B L st en so b t k A cs o) (hl : cs.length + 3 ≤ st) (hs : (so = 1 ∨ so = 2 ∨ so = 3) ∧ μ 0 20 = nI so) (c : Int32) {w v : Int32} (hw : w = dcW c) (hv : v = dcV k c) (hc : ¬ c < -3) (hk : k = 0 ∨ c ≠ -3) :
    ∃ σ' μ', fR_isOperand σ c = some (1, σ') ∧ (ob (fM_step μ w v) fun μ49 => bnd (up2 μ49 0 27 ((μ49 0 27) + (1 : Int32))) fun μ50 => ob (fM_nextToken μ50) fun μ53 => some ((1 : Int32), μ53)) = some (1, μ') ∧ OKr σ' μ' B L st b t k A cs o 1 ∧ PF σ σ' μ μ' A := by
  obtain ⟨q1, q2⟩ := PR_st h
  obtain ⟨σ1, μ1, a1, a2, a3, a4⟩ := P_put h (by omega) c hw hv
  obtain ⟨b1, b2⟩ := PR_o a3 (o + 1)
  obtain ⟨σ3, μ3, st', en', so', c1, c2, c3, c4, c5⟩ := P_next b1 ⟨hs.1, by
    have e := b1.2.1.2.2.2.2.2.2.2
    have e0 := h.2.1.2.2.2.2.2.2.2
    rw [up2_s, pk_un (by decide)]
    have f1 := a3.2.1.2.2.2.2.2.2.2
    rcases hs.1 with rfl | rfl | rfl
    · rcases f1 with z | z | z | z | z
      · omega
      · exact z.2.1
      · omega
      · omega
      · omega
    · rcases f1 with z | z | z | z | z
      · omega
      · omega
      · rcases z.2.2.2 with y | y
        · exact y.2.1
        · rcases e0 with z' | z' | z' | z' | z'
          · omega
          · omega
          · rcases z'.2.2.2 with y' | y'
            · omega
            · rw [hs.2] at y'; exact absurd y'.2 (by decide)
          · omega
          · omega
      · omega
      · omega
    · rcases f1 with z | z | z | z | z
      · omega
      · omega
      · omega
      · exact z.2.1
      · omega⟩
  have o1 : xi σ1 6 2 + (1 : Int32) = nI (o + 1) := by rw [a3.2.2.2.2.2.2.1.1, nI_1]
  have o2 : μ1 0 27 + (1 : Int32) = nI (o + 1) := by rw [a3.2.2.2.2.2.2.1.2, nI_1]
  refine ⟨σ3, μ3, ?_, ?_, Or.inr ⟨rfl, [c], st', en', so', ?_, fun d => ?_, fun x hx => ?_, ?_⟩, PF_trans a4 (PF_trans b2 c4)⟩
  · unfold fR_isOperand
    rw [a1, ob_s, bnd_s, o1, c1, ob_s]
  · rw [a2, ob_s, bnd_s, o2, c2, ob_s]
  · have e : nops [c] = 1 := by rw [nops, nops, if_neg hc]
    rw [e]; exact c3
  · rw [dpF, if_neg hc, dpF]
  · rw [List.mem_singleton.mp hx]; exact hk
  · show 1 + st ≤ st'; omega
