/-! TEXT: the levels -/
/-- one sign and what stands behind it -/
theorem P_more {σ : XS} {μ : MS} {B : Nat → Nat} {L st en so b t k A l st0 : Nat} {cs ds : List Int32} {o : Nat} (h : PR σ μ B L st en so b t k A (cs ++ ds) (o + nops ds)) (hl : (cs ++ ds).length + 3 ≤ st) (hdp : ∀ d, dpF ds d = some (d + 1)) (hnm : ∀ c ∈ ds, k = 0 ∨ c ≠ -3) (hst : ds.length + st0 ≤ st)
    {sg : Int32} (hlv : l ≤ 4) (hsg : lvI sg = nI l) (hs3 : so = 3) {FX : XS → Option (Int32 × XS)} {FM : MS → Option (Int32 × MS)} (hs : Sub B L b t k A FX FM) :
    ∃ σ1 μ1 r σ2 μ2, fT_next σ = some σ1 ∧ fM_nextToken μ = some μ1 ∧ FX σ1 = some (r, σ2) ∧ FM μ1 = some (r, μ2) ∧ PF σ σ2 μ μ2 A ∧
      ((r = 0 ∧ xi σ2 5 3 = μ2 0 18) ∨ (r = 1 ∧ ∃ σ3 μ3 es st' en' so', fR_put σ2 (-sg) = some σ3 ∧ fM_step μ2 2 sg = some μ3 ∧ PF σ σ3 μ μ3 A ∧ PR σ3 μ3 B L st' en' so' b t k A (cs ++ es) (o + nops es) ∧ (cs ++ es).length + 3 ≤ st' ∧ (∀ d, dpF es d = some (d + 1)) ∧ (∀ c ∈ es, k = 0 ∨ c ≠ -3) ∧ es.length + st0 ≤ st' ∧ st + 1 ≤ st')) := by
  have hJ := lv_J hlv hsg
  obtain ⟨j1, j2, j3, j4, j5, j6, j7⟩ := J_dc k hJ
  obtain ⟨σ1, μ1, st1, en1, so1, a1, a2, a3, a4, a5⟩ := P_next h ⟨Or.inr (Or.inr hs3), by rw [hs3]; exact (PR_20 h hs3).1⟩
  obtain ⟨r, σ2, μ2, b1, b2, b3, b4⟩ := hs σ1 μ1 st1 en1 so1 (cs ++ ds) (o + nops ds) a3 (by omega)
  have F := PF_trans a4 b4
  refine ⟨σ1, μ1, r, σ2, μ2, a1, a2, b1, b2, F, ?_⟩
  rcases b3 with b3 | ⟨rfl, es, st2, en2, so2, d1, d2, d3, d4⟩
  · exact Or.inl b3
  · have hq := (PR_st d1).2
    obtain ⟨σ3, μ3, f1, f2, f3, f4⟩ := P_put d1 (by rw [List.length_append]; omega) (-sg) (w := 2) (v := sg) j1 j2
    have el : (cs ++ (ds ++ (es ++ [-sg]))) = cs ++ ds ++ es ++ [-sg] := by simp only [List.append_assoc]
    rw [List.length_append] at hl
    refine Or.inr ⟨rfl, σ3, μ3, ds ++ (es ++ [-sg]), st2, en2, so2, f1, f2, PF_trans F f4, ?_, ?_, fun d => dp_sign hJ hdp d2 d, fun c hc => ?_, ?_, by omega⟩
    · rw [el, nops_app, nops_app, nops_sign j3, Nat.add_zero, ← Nat.add_assoc]; exact f3
    · simp only [List.length_append, List.length_singleton]; omega
    · rcases List.mem_append.mp hc with hc | hc
      · exact hnm c hc
      · rcases List.mem_append.mp hc with hc | hc
        · exact d3 c hc
        · rw [List.mem_singleton.mp hc]; exact Or.inr j6
    · simp only [List.length_append, List.length_singleton]; omega
theorem nI_inj {a b : Nat} (ha : a < 1000) (hb : b < 1000) (h : nI a = nI b) : a = b := (nI_eq (by omega) (by omega)).mp h
/-- a loop over signs of one level -/
theorem P_loop {B : Nat → Nat} {L b t k A l : Nat} (hl4 : l ≤ 4) {FC : XS → Int32 → Option (Int32 × XS)} (FQ : XS → Option (Int32 × XS)) {FM : MS → Int32 → Option (Int32 × MS)} (hs : Sub B L b t k A (fun σ => FC σ (nI (l + 1))) (fun μ => FM μ (nI k))) (LP : Nat → MS → Option (Int32 × MS))
    (hLP : ∀ (n : Nat) (μ : MS) (sg : Int32), (∀ c : Int32, ¬ c = 0 → fM_isSign μ c = some (if sg = c then 1 else 0)) → (¬ sg = 0 → μ 0 22 = sg) → LP (n + 1) μ = if lvI sg = nI l then (ob (fM_nextToken μ) fun μ9 => ob2 (FM μ9 (nI k)) fun r11 μ12 => if r11 = 0 then some ((0 : Int32), μ12) else ob (fM_step μ12 (2 : Int32) sg) fun μ15 => LP n μ15) else some ((1 : Int32), μ)) {st0 : Nat} {cs : List Int32} {o : Nat} :
    ∀ (N i : Nat) (σ : XS) (μ : MS) (st en so : Nat) (ds : List Int32), 97 - st ≤ N → i ≤ st → PR σ μ B L st en so b t k A (cs ++ ds) (o + nops ds) → (cs ++ ds).length + 3 ≤ st → (∀ d, dpF ds d = some (d + 1)) → (∀ c ∈ ds, k = 0 ∨ c ≠ -3) → ds.length + st0 ≤ st →
      ∃ r σ' μ', fR_isChain_L36 FC FQ (fun (σ : XS) => some ((1 : Int32), σ)) N (nI l) (nI 96) (nI i) σ = some (r, σ') ∧ LP N μ = some (r, μ') ∧ OKr σ' μ' B L st0 b t k A cs o r ∧ PF σ σ' μ μ' A := by
  intro N
  induction N with
  | zero => intro i σ μ st en so ds h1 _ h _ _ _ _; have := (PR_st h).2; omega
  | succ N ih =>
    intro i σ μ st en so ds h1 hi h hl hdp hnm hst
    have hq := (PR_st h).2
    obtain ⟨sg, s1, s2, s3, s4⟩ := P_sign h
    rw [hLP N μ sg s2 (fun z => (s3 z).2.2), fR_isChain_L36]
    by_cases e : lvI sg = nI l
    · obtain ⟨_, _, _, _, _, _, j7⟩ := J_dc k (lv_J hl4 e)
      have hs3 := (s3 j7).1
      have hen := (PR_20 h hs3).2
      have hL := h.1.1
      have hen2 := h.2.1.2.2.2.2.2.2.1
      obtain ⟨σ1, μ1, r, σ2, μ2, a1, a2, a3, a4, a5, a6⟩ := P_more h hl hdp hnm hst hl4 e hs3 hs
      rw [if_neg (nI_ge (by omega) (by omega)), s1, ob_s, X_lv, ob_s, if_pos e, if_pos e, ob_s, a1, a2, ob_s, ob_s, nI_1, show FC σ1 (nI (l + 1)) = some (r, σ2) from a3, ob2_s, show FM μ1 (nI k) = some (r, μ2) from a4, ob2_s]
      rcases a6 with ⟨rfl, a6⟩ | ⟨rfl, σ3, μ3, es, st', en', so', b1, b2, b3, b4, b5, b6, b7, b8, b9⟩
      · rw [i0, i0]
        exact ⟨0, σ2, μ2, rfl, rfl, Or.inl ⟨rfl, a6⟩, a5⟩
      · rw [i1, i1, b1, b2, ob_s, ob_s, bnd_s, nI_1]
        obtain ⟨r, σ', μ', c1, c2, c3, c4⟩ := ih (i + 1) σ3 μ3 st' en' so' es (by omega) (by omega) b4 b5 b6 b7 b8
        exact ⟨r, σ', μ', c1, c2, c3, PF_trans b3 c4⟩
    · rw [s1, ob_s, X_lv, ob_s, if_neg e, if_neg e, ite_self]
      exact ⟨1, σ, μ, rfl, rfl, Or.inr ⟨rfl, ds, st, en, so, h, hdp, hnm, hst⟩, PF_refl σ μ A⟩
theorem P_chainG {B : Nat → Nat} {L b t k A l : Nat} (hl4 : l ≤ 4) (hl2 : l ≠ 2) {FC : XS → Int32 → Option (Int32 × XS)} (FQ : XS → Option (Int32 × XS)) {FM : MS → Int32 → Option (Int32 × MS)} (hs : Sub B L b t k A (fun σ => FC σ (nI (l + 1))) (fun μ => FM μ (nI k))) (LP : Nat → MS → Option (Int32 × MS))
    (hLP : ∀ (n : Nat) (μ : MS) (sg : Int32), (∀ c : Int32, ¬ c = 0 → fM_isSign μ c = some (if sg = c then 1 else 0)) → (¬ sg = 0 → μ 0 22 = sg) → LP (n + 1) μ = if lvI sg = nI l then (ob (fM_nextToken μ) fun μ9 => ob2 (FM μ9 (nI k)) fun r11 μ12 => if r11 = 0 then some ((0 : Int32), μ12) else ob (fM_step μ12 (2 : Int32) sg) fun μ15 => LP n μ15) else some ((1 : Int32), μ)) :
    Sub B L b t k A (fun σ => fR_isChain FC FQ σ (nI l)) (fun μ => ob2 (FM μ (nI k)) fun r2 μ3 => if r2 = 0 then some ((0 : Int32), μ3) else LP 10000 μ3) := by
  intro σ μ st en so cs o h hl
  obtain ⟨r, σ1, μ1, a1, a2, a3, a4⟩ := hs σ μ st en so cs o h hl
  show ∃ r σ' μ', fR_isChain FC FQ σ (nI l) = some (r, σ') ∧ (ob2 (FM μ (nI k)) fun r2 μ3 => if r2 = 0 then some ((0 : Int32), μ3) else LP 10000 μ3) = some (r, μ') ∧ _
  unfold fR_isChain fR_isChain_J33
  rw [if_pos (show nI l ≤ (4 : Int32) from nI_le (b := 4) hl4 (by omega)), nI_1, show FC σ (nI (l + 1)) = some (r, σ1) from a1, ob2_s, show FM μ (nI k) = some (r, μ1) from a2, ob2_s]
  rcases a3 with ⟨rfl, a3⟩ | ⟨rfl, ds, st', en', so', b1, b2, b3, b4⟩
  · rw [i0, i0]
    exact ⟨0, σ1, μ1, rfl, rfl, Or.inl ⟨rfl, a3⟩, a4⟩
  · rw [i1, i1, if_neg (show ¬ nI l = (2 : Int32) from fun e => hl2 (nI_inj (b := 2) (by omega) (by omega) e))]
    obtain ⟨r, σ', μ', c1, c2, c3, c4⟩ := P_loop (st0 := st) (cs := cs) (o := o) hl4 FQ hs LP hLP 10000 0 σ1 μ1 st' en' so' ds (by omega) (by omega) b1 (by rw [List.length_append]; omega) b2 b3 b4
    exact ⟨r, σ', μ', c1, c2, c3, PF_trans a4 c4⟩
theorem L36_end {FC : XS → Int32 → Option (Int32 × XS)} (FQ : XS → Option (Int32 × XS)) (kx : XS → Option (Int32 × XS)) {N : Nat} (hN : 0 < N) (x1 : Int32) (σ : XS) : fR_isChain_L36 FC FQ kx N x1 1 1 σ = kx σ := by
  obtain ⟨N, rfl⟩ : ∃ m, N = m + 1 := ⟨N - 1, by omega⟩
  rw [fR_isChain_L36, if_pos (by decide)]
theorem L36_go {FC : XS → Int32 → Option (Int32 × XS)} (FQ : XS → Option (Int32 × XS)) (kx : XS → Option (Int32 × XS)) {N : Nat} (hN : 1 < N) {σ : XS} {sg : Int32} (hs : fT_sign σ = some sg) : fR_isChain_L36 FC FQ kx N (nI 2) 1 0 σ = if lvI sg = nI 2 then (ob (fT_next σ) fun σ16 => ob2 (FC σ16 (nI 3)) fun r18 σ19 => if r18 = 0 then some ((0 : Int32), σ19) else ob (fR_put σ19 (-sg)) fun σ22 => kx σ22) else kx σ := by
  obtain ⟨N, rfl⟩ : ∃ m, N = m + 1 := ⟨N - 1, by omega⟩
  rw [fR_isChain_L36, if_neg (by decide), hs, ob_s, X_lv, ob_s]
  by_cases e : lvI sg = nI 2
  · rw [if_pos e, if_pos e, ob_s, nI_1]
    congr 1
    funext σ16
    congr 1
    funext r18 σ19
    by_cases h : r18 = 0
    · rw [if_pos h, if_pos h]
    · rw [if_neg h, if_neg h]
      congr 1
      funext σ22
      rw [bnd_s, show (0 : Int32) + 1 = 1 by decide, L36_end FQ kx (by omega)]
  · rw [if_neg e, if_neg e]
theorem P_test {B : Nat → Nat} {L b t k A : Nat} {FC : XS → Int32 → Option (Int32 × XS)} (FQ : XS → Option (Int32 × XS)) {FM : MS → Int32 → Option (Int32 × MS)} (hs : Sub B L b t k A (fun σ => FC σ (nI 3)) (fun μ => FM μ (nI k))) : Sub B L b t k A (fun σ => fR_isChain FC FQ σ (nI 2)) (fun μ => fM_test FM μ (nI k)) := by
  intro σ μ st en so cs o h hl
  obtain ⟨r, σ1, μ1, a1, a2, a3, a4⟩ := hs σ μ st en so cs o h hl
  show ∃ r σ' μ', fR_isChain FC FQ σ (nI 2) = some (r, σ') ∧ fM_test FM μ (nI k) = some (r, μ') ∧ _
  unfold fR_isChain fR_isChain_J33 fM_test
  rw [if_pos (show nI 2 ≤ (4 : Int32) by decide), nI_1, show FC σ (nI (2 + 1)) = some (r, σ1) from a1, ob2_s, show FM μ (nI k) = some (r, μ1) from a2, ob2_s]
  rcases a3 with ⟨rfl, a3⟩ | ⟨rfl, ds, st', en', so', b1, b2, b3, b4⟩
  · rw [i0, i0]
    exact ⟨0, σ1, μ1, rfl, rfl, Or.inl ⟨rfl, a3⟩, a4⟩
  · obtain ⟨sg, s1, s2, s3, s4⟩ := P_sign b1
    rw [i1, i1, if_pos (show nI 2 = (2 : Int32) from rfl), L36_go FQ _ (by omega) s1]
    have hT : (ob (fM_isSign μ1 (60 : Int32)) fun r6 =>
    if r6 = 0 then (
      ob (fM_isSign μ1 (61 : Int32)) fun r19 =>
      if r19 = 0 then (
        ob (fM_isSign μ1 (62 : Int32)) fun r22 =>
        if r22 = 0 then (
          some ((1 : Int32), μ1))
        else (
          fM_test_J37 FM (nI k) μ1))
      else (
        fM_test_J37 FM (nI k) μ1))
    else (
      fM_test_J37 FM (nI k) μ1)) = if lvI sg = nI 2 then fM_test_J37 FM (nI k) μ1 else some ((1 : Int32), μ1) := by
      rw [s2 60 (by decide), s2 61 (by decide), s2 62 (by decide), ob_s, ob_s, ob_s]
      by_cases e1 : sg = 60
      · rw [ite1 e1, if_pos ((lv2 sg).mpr (Or.inl e1))]
      · rw [ite0 e1]
        by_cases e2 : sg = 61
        · rw [ite1 e2, if_pos ((lv2 sg).mpr (Or.inr (Or.inl e2)))]
        · rw [ite0 e2]
          by_cases e3 : sg = 62
          · rw [ite1 e3, if_pos ((lv2 sg).mpr (Or.inr (Or.inr e3)))]
          · rw [ite0 e3, if_neg (fun z => by rcases (lv2 sg).mp z with z | z | z; exact e1 z; exact e2 z; exact e3 z)]
    rw [hT]
    by_cases e : lvI sg = nI 2
    · obtain ⟨_, _, _, _, _, _, j7⟩ := J_dc k (lv_J (l := 2) (by omega) e)
      obtain ⟨q1, q2, q3⟩ := s3 j7
      obtain ⟨σ3, μ3, r, σ4, μ4, c1, c2, c3, c4, c5, c6⟩ := P_more (st0 := st) b1 (by rw [List.length_append]; omega) b2 b3 b4 (l := 2) (by omega) e q1 hs
      unfold fM_test_J37
      rw [if_pos e, if_pos e, bnd_s, q3, c1, c2, ob_s, ob_s, show FC σ3 (nI 3) = some (r, σ4) from c3, ob2_s, show FM μ3 (nI k) = some (r, μ4) from c4, ob2_s]
      rcases c6 with ⟨rfl, c6⟩ | ⟨rfl, σ5, μ5, es, st2, en2, so2, d1, d2, d3, d4, d5, d6, d7, d8, d9⟩
      · rw [i0, i0]
        exact ⟨0, σ4, μ4, rfl, rfl, Or.inl ⟨rfl, c6⟩, PF_trans a4 c5⟩
      · rw [i1, i1, d1, d2, ob_s, ob_s]
        exact ⟨1, σ5, μ5, rfl, rfl, Or.inr ⟨rfl, es, st2, en2, so2, d4, d6, d7, d8⟩, PF_trans a4 d3⟩
    · rw [if_neg e, if_neg e]
      exact ⟨1, σ1, μ1, rfl, rfl, Or.inr ⟨rfl, ds, st', en', so', b1, b2, b3, b4⟩, a4⟩
/-! the model's loops, one shape -/
theorem LP_either (FM : MS → Int32 → Option (Int32 × MS)) (x : Int32) (n : Nat) (μ : MS) (sg : Int32) (h1 : ∀ c : Int32, ¬ c = 0 → fM_isSign μ c = some (if sg = c then 1 else 0)) : fM_either_L10 FM (fun (μ : MS) => some ((1 : Int32), μ)) (n + 1) x μ = if lvI sg = nI 0 then (ob (fM_nextToken μ) fun μ9 => ob2 (FM μ9 x) fun r11 μ12 => if r11 = 0 then some ((0 : Int32), μ12) else ob (fM_step μ12 (2 : Int32) sg) fun μ15 => fM_either_L10 FM (fun (μ : MS) => some ((1 : Int32), μ)) n x μ15) else some ((1 : Int32), μ) := by
  rw [fM_either_L10, h1 124 (by decide), ob_s]
  by_cases e : sg = 124
  · rw [ite1 e, if_pos ((lv0 sg).mpr e), e]
  · rw [ite0 e, if_neg (fun z => e ((lv0 sg).mp z))]
theorem LP_both (FM : MS → Int32 → Option (Int32 × MS)) (x : Int32) (n : Nat) (μ : MS) (sg : Int32) (h1 : ∀ c : Int32, ¬ c = 0 → fM_isSign μ c = some (if sg = c then 1 else 0)) : fM_both_L10 FM (fun (μ : MS) => some ((1 : Int32), μ)) (n + 1) x μ = if lvI sg = nI 1 then (ob (fM_nextToken μ) fun μ9 => ob2 (FM μ9 x) fun r11 μ12 => if r11 = 0 then some ((0 : Int32), μ12) else ob (fM_step μ12 (2 : Int32) sg) fun μ15 => fM_both_L10 FM (fun (μ : MS) => some ((1 : Int32), μ)) n x μ15) else some ((1 : Int32), μ) := by
  rw [fM_both_L10, h1 38 (by decide), ob_s]
  by_cases e : sg = 38
  · rw [ite1 e, if_pos ((lv1 sg).mpr e), e]
  · rw [ite0 e, if_neg (fun z => e ((lv1 sg).mp z))]
theorem LP_sum (FM : MS → Int32 → Option (Int32 × MS)) (x : Int32) (n : Nat) (μ : MS) (sg : Int32) (h1 : ∀ c : Int32, ¬ c = 0 → fM_isSign μ c = some (if sg = c then 1 else 0)) (h2 : ¬ sg = 0 → μ 0 22 = sg) : fM_sum_L10 FM (fun (μ : MS) => some ((1 : Int32), μ)) (n + 1) x μ = if lvI sg = nI 3 then (ob (fM_nextToken μ) fun μ9 => ob2 (FM μ9 x) fun r11 μ12 => if r11 = 0 then some ((0 : Int32), μ12) else ob (fM_step μ12 (2 : Int32) sg) fun μ15 => fM_sum_L10 FM (fun (μ : MS) => some ((1 : Int32), μ)) n x μ15) else some ((1 : Int32), μ) := by
  rw [fM_sum_L10, h1 43 (by decide), ob_s, h1 45 (by decide), ob_s]
  unfold fM_sum_J28
  by_cases e : sg = 43
  · rw [ite1 e, if_pos ((lv3 sg).mpr (Or.inl e)), bnd_s, h2 (by rw [e]; decide)]
  · rw [ite0 e]
    by_cases e2 : sg = 45
    · rw [ite1 e2, if_pos ((lv3 sg).mpr (Or.inr e2)), bnd_s, h2 (by rw [e2]; decide)]
    · rw [ite0 e2, if_neg (fun z => by rcases (lv3 sg).mp z with z | z; exact e z; exact e2 z)]
theorem LP_term (FM : MS → Int32 → Option (Int32 × MS)) (x : Int32) (n : Nat) (μ : MS) (sg : Int32) (h1 : ∀ c : Int32, ¬ c = 0 → fM_isSign μ c = some (if sg = c then 1 else 0)) (h2 : ¬ sg = 0 → μ 0 22 = sg) : fM_term_L10 FM (fun (μ : MS) => some ((1 : Int32), μ)) (n + 1) x μ = if lvI sg = nI 4 then (ob (fM_nextToken μ) fun μ9 => ob2 (FM μ9 x) fun r11 μ12 => if r11 = 0 then some ((0 : Int32), μ12) else ob (fM_step μ12 (2 : Int32) sg) fun μ15 => fM_term_L10 FM (fun (μ : MS) => some ((1 : Int32), μ)) n x μ15) else some ((1 : Int32), μ) := by
  rw [fM_term_L10, h1 42 (by decide), ob_s, h1 47 (by decide), ob_s]
  unfold fM_term_J28
  by_cases e : sg = 42
  · rw [ite1 e, if_pos ((lv4 sg).mpr (Or.inl e)), bnd_s, h2 (by rw [e]; decide)]
  · rw [ite0 e]
    by_cases e2 : sg = 47
    · rw [ite1 e2, if_pos ((lv4 sg).mpr (Or.inr e2)), bnd_s, h2 (by rw [e2]; decide)]
    · rw [ite0 e2, if_neg (fun z => by rcases (lv4 sg).mp z with z | z; exact e z; exact e2 z)]
/-! all levels, by what may still be opened -/
def PieceS (B : Nat → Nat) (L b t k A : Nat) : Prop := ∀ dX dM, 8 * (8 - b) + 2 * (8 - t) + 2 ≤ dX → 6 * (8 - b) + (8 - t) + 1 ≤ dM → Sub B L b t k A (fun σ => gR dX 1 σ 0) (fun μ => gM dM 5 μ (nI k))
def ChainS (B : Nat → Nat) (L b t k A l : Nat) : Prop := ∀ dX dM, 8 * (8 - b) + 2 * (8 - t) + (8 - l) ≤ dX → 6 * (8 - b) + (8 - t) + (6 - l) ≤ dM → Sub B L b t k A (fun σ => gR dX 0 σ (nI l)) (fun μ => gM dM l μ (nI k))
theorem Sub_eq {B : Nat → Nat} {L b t k A : Nat} {FX GX : XS → Option (Int32 × XS)} {FM GM : MS → Option (Int32 × MS)} (h : Sub B L b t k A FX FM) (e1 : ∀ σ, GX σ = FX σ) (e2 : ∀ μ, GM μ = FM μ) : Sub B L b t k A GX GM := by
  intro σ μ st en so cs o h1 h2
  obtain ⟨r, σ', μ', a1, a2, a3⟩ := h σ μ st en so cs o h1 h2
  exact ⟨r, σ', μ', by rw [e1]; exact a1, by rw [e2]; exact a2, a3⟩
theorem S_piece {B : Nat → Nat} {L b t k A : Nat} (hk : k ≤ 2) (hb8 : b ≤ 8) (ht8 : t ≤ 8) (hC : b < 8 → ChainS B L (b + 1) t k A 0) (hP : t < 8 → PieceS B L b (t + 1) k A) : PieceS B L b t k A := by
  intro dX dM h1 h2
  obtain ⟨dX, rfl⟩ : ∃ m, dX = m + 2 := ⟨dX - 2, by omega⟩
  obtain ⟨dM, rfl⟩ : ∃ m, dM = m + 1 := ⟨dM - 1, by omega⟩
  refine Sub_eq (P_piece (FP := fun z => gR dX 1 z 0) (FC := gR dX 0) (FE := gM dM 0) (FPm := gM dM 5) (FN := fun z => gR (dX + 1) 2 z 0) (FB := fun z => gR (dX + 1) 3 z 0) hk hb8 ht8 (fun hb => ?_) (fun ht => ?_) (fun σ => ?_) (fun σ => ?_)) (fun σ => ?_) (fun μ => ?_)
  · exact hC hb dX dM (by omega) (by omega)
  · exact hP ht dX dM (by omega) (by omega)
  · show gR (dX + 1) 2 σ 0 = _
    rw [gR]
  · show gR (dX + 1) 3 σ 0 = _
    rw [gR]
  · show gR (dX + 1 + 1) 1 σ 0 = _
    rw [gR]
  · show gM (dM + 1) 5 μ (nI k) = _
    rw [gM]
theorem S_levels {B : Nat → Nat} {L b t k A : Nat} (hP : PieceS B L b t k A) : ChainS B L b t k A 0 := by
  have h5 : ∀ dX dM, 8 * (8 - b) + 2 * (8 - t) + 3 ≤ dX → 6 * (8 - b) + (8 - t) + 1 ≤ dM → Sub B L b t k A (fun σ => gR dX 0 σ (nI 5)) (fun μ => gM dM 5 μ (nI k)) := by
    intro dX dM h1 h2
    obtain ⟨dX, rfl⟩ : ∃ m, dX = m + 1 := ⟨dX - 1, by omega⟩
    intro σ μ st en so cs o g1 g2
    obtain ⟨r, σ', μ', a1, a2, a3, a4⟩ := hP dX dM (by omega) h2 σ μ st en so cs o g1 g2
    refine ⟨r, σ', μ', ?_, a2, a3, a4⟩
    show gR (dX + 1) 0 σ (nI 5) = _
    rw [gR]
    unfold fR_isChain
    rw [if_neg (show ¬ nI 5 ≤ (4 : Int32) by decide), a1, ob2_s]
    rcases a3 with z | z
    · rw [z.1, zb0]
    · rw [z.1, zb1]
  have h4 : ChainS B L b t k A 4 := by
    intro dX dM h1 h2
    obtain ⟨dX, rfl⟩ : ∃ m, dX = m + 1 := ⟨dX - 1, by omega⟩
    obtain ⟨dM, rfl⟩ : ∃ m, dM = m + 1 := ⟨dM - 1, by omega⟩
    refine Sub_eq (P_chainG (l := 4) (by omega) (by omega) (FC := gR dX 0) (fun z => gR dX 1 z 0) (FM := gM dM 5) (h5 dX dM (by omega) (by omega)) (fun n μ => fM_term_L10 (gM dM 5) (fun (μ : MS) => some ((1 : Int32), μ)) n (nI k) μ) (fun n μ sg g1 g2 => LP_term _ _ _ _ _ g1 g2)) (fun σ => ?_) (fun μ => ?_)
    · show gR (dX + 1) 0 σ (nI 4) = _
      rw [gR]
    · show gM (dM + 1) 4 μ (nI k) = _
      rw [gM, fM_term]
  have h3 : ChainS B L b t k A 3 := by
    intro dX dM h1 h2
    obtain ⟨dX, rfl⟩ : ∃ m, dX = m + 1 := ⟨dX - 1, by omega⟩
    obtain ⟨dM, rfl⟩ : ∃ m, dM = m + 1 := ⟨dM - 1, by omega⟩
    refine Sub_eq (P_chainG (l := 3) (by omega) (by omega) (FC := gR dX 0) (fun z => gR dX 1 z 0) (FM := gM dM 4) (h4 dX dM (by omega) (by omega)) (fun n μ => fM_sum_L10 (gM dM 4) (fun (μ : MS) => some ((1 : Int32), μ)) n (nI k) μ) (fun n μ sg g1 g2 => LP_sum _ _ _ _ _ g1 g2)) (fun σ => ?_) (fun μ => ?_)
    · show gR (dX + 1) 0 σ (nI 3) = _
      rw [gR]
    · show gM (dM + 1) 3 μ (nI k) = _
      rw [gM, fM_sum]
  have h2' : ChainS B L b t k A 2 := by
    intro dX dM h1 h2
    obtain ⟨dX, rfl⟩ : ∃ m, dX = m + 1 := ⟨dX - 1, by omega⟩
    obtain ⟨dM, rfl⟩ : ∃ m, dM = m + 1 := ⟨dM - 1, by omega⟩
    refine Sub_eq (P_test (FC := gR dX 0) (fun z => gR dX 1 z 0) (FM := gM dM 3) (h3 dX dM (by omega) (by omega))) (fun σ => ?_) (fun μ => ?_)
    · show gR (dX + 1) 0 σ (nI 2) = _
      rw [gR]
    · show gM (dM + 1) 2 μ (nI k) = _
      rw [gM]
  have h1' : ChainS B L b t k A 1 := by
    intro dX dM h1 h2
    obtain ⟨dX, rfl⟩ : ∃ m, dX = m + 1 := ⟨dX - 1, by omega⟩
    obtain ⟨dM, rfl⟩ : ∃ m, dM = m + 1 := ⟨dM - 1, by omega⟩
    refine Sub_eq (P_chainG (l := 1) (by omega) (by omega) (FC := gR dX 0) (fun z => gR dX 1 z 0) (FM := gM dM 2) (h2' dX dM (by omega) (by omega)) (fun n μ => fM_both_L10 (gM dM 2) (fun (μ : MS) => some ((1 : Int32), μ)) n (nI k) μ) (fun n μ sg g1 g2 => LP_both _ _ _ _ _ g1)) (fun σ => ?_) (fun μ => ?_)
    · show gR (dX + 1) 0 σ (nI 1) = _
      rw [gR]
    · show gM (dM + 1) 1 μ (nI k) = _
      rw [gM, fM_both]
  intro dX dM h1 h2
  obtain ⟨dX, rfl⟩ : ∃ m, dX = m + 1 := ⟨dX - 1, by omega⟩
  obtain ⟨dM, rfl⟩ : ∃ m, dM = m + 1 := ⟨dM - 1, by omega⟩
  refine Sub_eq (P_chainG (l := 0) (by omega) (by omega) (FC := gR dX 0) (fun z => gR dX 1 z 0) (FM := gM dM 1) (h1' dX dM (by omega) (by omega)) (fun n μ => fM_either_L10 (gM dM 1) (fun (μ : MS) => some ((1 : Int32), μ)) n (nI k) μ) (fun n μ sg g1 g2 => LP_either _ _ _ _ _ g1)) (fun σ => ?_) (fun μ => ?_)
  · show gR (dX + 1) 0 σ (nI 0) = _
    rw [gR]
  · show gM (dM + 1) 0 μ (nI k) = _
    rw [gM, fM_either]
theorem S_all {B : Nat → Nat} {L k A : Nat} (hk : k ≤ 2) : ∀ (m b t : Nat), b ≤ 8 → t ≤ 8 → (8 - b) + (8 - t) ≤ m → PieceS B L b t k A ∧ ChainS B L b t k A 0 := by
  intro m
  induction m with
  | zero =>
    intro b t hb ht h
    have hP := S_piece (B := B) (L := L) (A := A) hk hb ht (fun z => absurd z (by omega)) (fun z => absurd z (by omega))
    exact ⟨hP, S_levels hP⟩
  | succ m ih =>
    intro b t hb ht h
    have hP := S_piece (B := B) (L := L) (A := A) hk hb ht (fun z => (ih (b + 1) t (by omega) ht (by omega)).2) (fun z => (ih b (t + 1) hb (by omega) (by omega)).1)
    exact ⟨hP, S_levels hP⟩
