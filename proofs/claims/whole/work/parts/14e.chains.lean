/-! TEXT: pieces and chains -/
def lvI (x : Int32) : Int32 := if x = 38 then 1 else if x = 42 then 4 else if x = 43 then 3 else if x = 45 then 3 else if x = 47 then 4 else if x = 60 then 2 else if x = 61 then 2 else if x = 62 then 2 else if x = 124 then 0 else -1
theorem X_lv (σ : XS) (x : Int32) : fR_levelOf σ x = some (lvI x) := by
  unfold fR_levelOf lvI
  by_cases h38 : x = 38
  · rw [if_pos h38, if_pos h38]
  · rw [if_neg h38, if_neg h38]
    by_cases h42 : x = 42
    · rw [if_pos h42, if_pos h42]
    · rw [if_neg h42, if_neg h42]
      by_cases h43 : x = 43
      · rw [if_pos h43, if_pos h43]
      · rw [if_neg h43, if_neg h43]
        by_cases h45 : x = 45
        · rw [if_pos h45, if_pos h45]
        · rw [if_neg h45, if_neg h45]
          by_cases h47 : x = 47
          · rw [if_pos h47, if_pos h47]
          · rw [if_neg h47, if_neg h47]
            by_cases h60 : x = 60
            · rw [if_pos h60, if_pos h60]
            · rw [if_neg h60, if_neg h60]
              by_cases h61 : x = 61
              · rw [if_pos h61, if_pos h61]
              · rw [if_neg h61, if_neg h61]
                by_cases h62 : x = 62
                · rw [if_pos h62, if_pos h62]
                · rw [if_neg h62, if_neg h62]
                  by_cases h124 : x = 124
                  · rw [if_pos h124, if_pos h124]
                  · rw [if_neg h124, if_neg h124]
theorem lv_cases (x : Int32) : x = 38 ∨ x = 42 ∨ x = 43 ∨ x = 45 ∨ x = 47 ∨ x = 60 ∨ x = 61 ∨ x = 62 ∨ x = 124 ∨ (lvI x = -1 ∧ ¬ x = 38 ∧ ¬ x = 42 ∧ ¬ x = 43 ∧ ¬ x = 45 ∧ ¬ x = 47 ∧ ¬ x = 60 ∧ ¬ x = 61 ∧ ¬ x = 62 ∧ ¬ x = 124) := by
  by_cases h38 : x = 38
  · exact Or.inl h38
  · skip
    by_cases h42 : x = 42
    · exact Or.inr (Or.inl h42)
    · skip
      by_cases h43 : x = 43
      · exact Or.inr (Or.inr (Or.inl h43))
      · skip
        by_cases h45 : x = 45
        · exact Or.inr (Or.inr (Or.inr (Or.inl h45)))
        · skip
          by_cases h47 : x = 47
          · exact Or.inr (Or.inr (Or.inr (Or.inr (Or.inl h47))))
          · skip
            by_cases h60 : x = 60
            · exact Or.inr (Or.inr (Or.inr (Or.inr (Or.inr (Or.inl h60)))))
            · skip
              by_cases h61 : x = 61
              · exact Or.inr (Or.inr (Or.inr (Or.inr (Or.inr (Or.inr (Or.inl h61))))))
              · skip
                by_cases h62 : x = 62
                · exact Or.inr (Or.inr (Or.inr (Or.inr (Or.inr (Or.inr (Or.inr (Or.inl h62)))))))
                · skip
                  by_cases h124 : x = 124
                  · exact Or.inr (Or.inr (Or.inr (Or.inr (Or.inr (Or.inr (Or.inr (Or.inr (Or.inl h124))))))))
                  · skip
                    refine Or.inr (Or.inr (Or.inr (Or.inr (Or.inr (Or.inr (Or.inr (Or.inr (Or.inr (⟨?_, h38, h42, h43, h45, h47, h60, h61, h62, h124⟩)))))))))
                    unfold lvI
                    rw [if_neg h38, if_neg h42, if_neg h43, if_neg h45, if_neg h47, if_neg h60, if_neg h61, if_neg h62, if_neg h124]
theorem lv0 (x : Int32) : (lvI x = nI 0) ↔ (x = 124) := by
  rcases lv_cases x with rfl | rfl | rfl | rfl | rfl | rfl | rfl | rfl | rfl | ⟨h, n38, n42, n43, n45, n47, n60, n61, n62, n124⟩
  all_goals first | decide | skip
  rw [h]
  constructor
  · intro e; exact absurd e (by decide)
  · intro e
    exact absurd e n124
theorem lv1 (x : Int32) : (lvI x = nI 1) ↔ (x = 38) := by
  rcases lv_cases x with rfl | rfl | rfl | rfl | rfl | rfl | rfl | rfl | rfl | ⟨h, n38, n42, n43, n45, n47, n60, n61, n62, n124⟩
  all_goals first | decide | skip
  rw [h]
  constructor
  · intro e; exact absurd e (by decide)
  · intro e
    exact absurd e n38
theorem lv2 (x : Int32) : (lvI x = nI 2) ↔ (x = 60 ∨ x = 61 ∨ x = 62) := by
  rcases lv_cases x with rfl | rfl | rfl | rfl | rfl | rfl | rfl | rfl | rfl | ⟨h, n38, n42, n43, n45, n47, n60, n61, n62, n124⟩
  all_goals first | decide | skip
  rw [h]
  constructor
  · intro e; exact absurd e (by decide)
  · intro e
    rcases e with e | e | e
    · exact absurd e n60
    · exact absurd e n61
    · exact absurd e n62
theorem lv3 (x : Int32) : (lvI x = nI 3) ↔ (x = 43 ∨ x = 45) := by
  rcases lv_cases x with rfl | rfl | rfl | rfl | rfl | rfl | rfl | rfl | rfl | ⟨h, n38, n42, n43, n45, n47, n60, n61, n62, n124⟩
  all_goals first | decide | skip
  rw [h]
  constructor
  · intro e; exact absurd e (by decide)
  · intro e
    rcases e with e | e
    · exact absurd e n43
    · exact absurd e n45
theorem lv4 (x : Int32) : (lvI x = nI 4) ↔ (x = 42 ∨ x = 47) := by
  rcases lv_cases x with rfl | rfl | rfl | rfl | rfl | rfl | rfl | rfl | rfl | ⟨h, n38, n42, n43, n45, n47, n60, n61, n62, n124⟩
  all_goals first | decide | skip
  rw [h]
  constructor
  · intro e; exact absurd e (by decide)
  · intro e
    rcases e with e | e
    · exact absurd e n42
    · exact absurd e n47
theorem lv_J {x : Int32} {l : Nat} (hl : l ≤ 4) (h0 : lvI x = nI l) : isJ x := by
  unfold isJ
  rcases lv_cases x with rfl | rfl | rfl | rfl | rfl | rfl | rfl | rfl | rfl | ⟨h, n38, n42, n43, n45, n47, n60, n61, n62, n124⟩
  all_goals first | decide | skip
  exfalso
  rw [h] at h0
  have := congrArg Int32.toInt h0
  rw [nI_toInt (by omega)] at this
  have e : (-1 : Int32).toInt = -1 := rfl
  omega
theorem J_dc {x : Int32} (k : Nat) (h : isJ x) : (2 : Int32) = dcW (-x) ∧ x = dcV k (-x) ∧ (-x < -3) ∧ ¬ (-x = -33) ∧ (- -x = 38 ∨ - -x = 42 ∨ - -x = 43 ∨ - -x = 45 ∨ - -x = 47 ∨ - -x = 60 ∨ - -x = 61 ∨ - -x = 62 ∨ - -x = 124) ∧ (-x ≠ -3) ∧ ¬ x = 0 := by
  have e : ∀ y : Int32, y < -3 → dcV k y = -y := fun y hy => by unfold dcV; rw [if_pos hy]
  rcases h with rfl | rfl | rfl | rfl | rfl | rfl | rfl | rfl | rfl <;> exact ⟨by decide, by rw [e _ (by decide)]; decide, by decide, by decide, by decide, by decide, by decide⟩
theorem dp_sign {x : Int32} (h : isJ x) {ds es : List Int32} (h1 : ∀ d, dpF ds d = some (d + 1)) (h2 : ∀ d, dpF es d = some (d + 1)) (d : Nat) : dpF (ds ++ (es ++ [-x])) d = some (d + 1) := by
  obtain ⟨a1, a2, a3, a4, a5, a6, a7⟩ := J_dc 0 h
  rw [dpF_app (fun _ => 0) ds _ d (d + 1) (h1 d), dpF_app (fun _ => 0) es _ (d + 1) (d + 1 + 1) (h2 (d + 1)), dpF, if_pos a3, if_neg a4, if_pos ⟨by omega, a5⟩, dpF]
  rfl
theorem nops_sign {x : Int32} (h : x < -3) : nops [x] = 0 := by rw [nops, nops, if_pos h]
theorem zb0 {α : Type} {k : Option α} : zb 0 k = k := by unfold zb; rw [if_pos (Or.inl rfl)]
theorem zb1 {α : Type} {k : Option α} : zb 1 k = k := by unfold zb; rw [if_pos (Or.inr rfl)]
/-- no sign that opens: both say no -/
theorem M_none {μ : MS} {sg : Int32} (hM : ∀ c : Int32, ¬ c = 0 → fM_isSign μ c = some (if sg = c then 1 else 0)) (h33 : ¬ sg = 33 ∨ (8 : Int32) ≤ μ 0 24) (h40 : ¬ sg = 40 ∨ μ 0 23 = 8) (FE FP : MS → Int32 → Option (Int32 × MS)) (x : Int32) : fM_part0_J84 FE FP x μ = some (0, μ) := by
  have h2 : fM_part0_J145 FE FP x μ = some (0, μ) := by
    unfold fM_part0_J145
    rw [hM 40 (by decide), ob_s]
    by_cases e : sg = 40
    · rw [ite1 e, if_pos (h40.resolve_left (fun z => z e))]
    · rw [ite0 e]
  unfold fM_part0_J84
  rw [hM 33 (by decide), ob_s]
  by_cases e : sg = 33
  · rw [ite1 e, if_pos (h33.resolve_left (fun z => z e)), h2]
  · rw [ite0 e, h2]
theorem PR_20 {σ : XS} {μ : MS} {B : Nat → Nat} {L st en so b t k A : Nat} {cs : List Int32} {o : Nat} (h : PR σ μ B L st en so b t k A cs o) (hs : so = 3) : μ 0 20 = nI 3 ∧ en = st + 1 := by
  rcases h.2.1.2.2.2.2.2.2.2 with z | z | z | z | z
  · omega
  · omega
  · omega
  · exact ⟨z.2.1, z.2.2.1⟩
  · omega
theorem P_not {σ : XS} {μ : MS} {B : Nat → Nat} {L st en so b t k A : Nat} {cs : List Int32} {o : Nat} (h : PR σ μ B L st en so b t k A cs o) (hl : cs.length + 3 ≤ st) (hs : so = 3) (ht : t < 8) {FP : XS → Option (Int32 × XS)} {FPm : MS → Int32 → Option (Int32 × MS)} (hP : Sub B L b (t + 1) k A FP (fun μ => FPm μ (nI k))) :
    ∃ r σ' μ', fR_isNot FP σ = some (r, σ') ∧ (bnd (up2 μ 0 24 ((μ 0 24) + (1 : Int32))) fun μ26 =>
      ob (fM_nextToken μ26) fun μ29 =>
      ob2 (FPm μ29 (nI k)) fun r31 μ32 =>
      if r31 = 0 then (
        some ((0 : Int32), μ32))
      else (
        bnd (up2 μ32 0 24 ((μ32 0 24) - (1 : Int32))) fun μ34 =>
        ob (fM_step μ34 (2 : Int32) (33 : Int32)) fun μ37 =>
        some ((1 : Int32), μ37))) = some (r, μ') ∧ OKr σ' μ' B L st b t k A cs o r ∧ PF σ σ' μ μ' A := by
  obtain ⟨a1, a2⟩ := PR_t h (t + 1)
  obtain ⟨σ2, μ2, st1, en1, so1, b1, b2, b3, b4, b5⟩ := P_next a1 ⟨Or.inr (Or.inr hs), by rw [hs]; exact (PR_20 a1 hs).1⟩
  obtain ⟨r, σ3, μ3, c1, c2, c3, c4⟩ := hP σ2 μ2 st1 en1 so1 cs o b3 (by omega)
  have F := PF_trans a2 (PF_trans b4 c4)
  unfold fR_isNot
  rw [h.2.2.2.2.1.1, h.2.2.2.2.1.2, if_neg (show ¬ nI t = (8 : Int32) from fun e => absurd ((nI_eq (a := t) (b := 8) (by omega) (by omega)).mp e) (by omega)), nI_1, bnd_s, bnd_s, b1, b2, ob_s, ob_s, c1, ob2_s, show FPm μ2 (nI k) = some (r, μ3) from c2, ob2_s]
  rcases c3 with ⟨rfl, c3⟩ | ⟨rfl, ds, st2, en2, so2, d1, d2, d3, d4⟩
  · rw [i0, i0]
    exact ⟨0, σ3, μ3, rfl, rfl, Or.inl ⟨rfl, c3⟩, F⟩
  · rw [i1, i1, d1.2.2.2.2.1.1, d1.2.2.2.2.1.2, nI_pred, bnd_s, bnd_s]
    obtain ⟨e1, e2⟩ := PR_t d1 t
    have hq := (PR_st d1).2
    have hv : (33 : Int32) = dcV k (-33) := by unfold dcV; rw [if_pos (by decide)]; decide
    obtain ⟨σ5, μ5, f1, f2, f3, f4⟩ := P_put e1 (by rw [List.length_append]; omega) (-33) (w := 2) (v := 33) (by decide) hv
    rw [f1, f2, ob_s, ob_s]
    refine ⟨1, σ5, μ5, rfl, rfl, Or.inr ⟨rfl, ds ++ [-33], st2, en2, so2, ?_, fun d => ?_, fun c hc => ?_, ?_⟩, PF_trans F (PF_trans e2 f4)⟩
    · rw [nops_app, nops_sign (by decide), Nat.add_zero, ← List.append_assoc]; exact f3
    · rw [dpF_app (fun _ => 0) ds _ d (d + 1) (d2 d), dpF, if_pos (by decide), if_pos rfl, if_pos (by omega), dpF]
    · rcases List.mem_append.mp hc with hc | hc
      · exact d3 c hc
      · rw [List.mem_singleton.mp hc]; exact Or.inr (by decide)
    · rw [List.length_append, List.length_singleton]; omega
theorem P_bracket {σ : XS} {μ : MS} {B : Nat → Nat} {L st en so b t k A : Nat} {cs : List Int32} {o : Nat} (h : PR σ μ B L st en so b t k A cs o) (hl : cs.length + 3 ≤ st) (hs : so = 3) (hsg : fT_sign σ = some 40) (hb : b < 8) {FC : XS → Int32 → Option (Int32 × XS)} {FE : MS → Int32 → Option (Int32 × MS)} (hC : Sub B L (b + 1) t k A (fun σ => FC σ 0) (fun μ => FE μ (nI k))) :
    ∃ r σ' μ', fR_isBracket FC σ = some (r, σ') ∧ (bnd (up2 μ 0 23 ((μ 0 23) + (1 : Int32))) fun μ10 =>
      ob (fM_nextToken μ10) fun μ13 =>
      ob2 (FE μ13 (nI k)) fun r15 μ16 =>
      if r15 = 0 then (
        some ((0 : Int32), μ16))
      else (
        ob (fM_isSign μ16 (41 : Int32)) fun r19 =>
        if r19 = 0 then (
          some ((0 : Int32), μ16))
        else (
          bnd (up2 μ16 0 23 ((μ16 0 23) - (1 : Int32))) fun μ21 =>
          ob (fM_nextToken μ21) fun μ24 =>
          some ((1 : Int32), μ24)))) = some (r, μ') ∧ OKr σ' μ' B L st b t k A cs o r ∧ PF σ σ' μ μ' A := by
  obtain ⟨a1, a2⟩ := PR_b h (b + 1)
  obtain ⟨σ2, μ2, st1, en1, so1, b1, b2, b3, b4, b5⟩ := P_next a1 ⟨Or.inr (Or.inr hs), by rw [hs]; exact (PR_20 a1 hs).1⟩
  obtain ⟨r, σ3, μ3, c1, c2, c3, c4⟩ := hC σ2 μ2 st1 en1 so1 cs o b3 (by omega)
  have F := PF_trans a2 (PF_trans b4 c4)
  unfold fR_isBracket
  rw [hsg, ob_s, if_pos rfl, h.2.2.2.1.1, h.2.2.2.1.2, if_neg (show ¬ nI b = (8 : Int32) from fun e => absurd ((nI_eq (a := b) (b := 8) (by omega) (by omega)).mp e) (by omega)), nI_1, bnd_s, bnd_s, b1, b2, ob_s, ob_s, show FC σ2 (0 : Int32) = some (r, σ3) from c1, ob2_s, show FE μ2 (nI k) = some (r, μ3) from c2, ob2_s]
  rcases c3 with ⟨rfl, c3⟩ | ⟨rfl, ds, st2, en2, so2, d1, d2, d3, d4⟩
  · rw [i0, i0]
    exact ⟨0, σ3, μ3, rfl, rfl, Or.inl ⟨rfl, c3⟩, F⟩
  · obtain ⟨sg, s1, s2, s3, s4⟩ := P_sign d1
    rw [i1, i1, s1, ob_s, s2 41 (by decide), ob_s]
    by_cases e : sg = 41
    · obtain ⟨q1, q2, q3⟩ := s3 (by rw [e]; decide)
      obtain ⟨e1, e2⟩ := PR_b d1 b
      obtain ⟨σ5, μ5, st3, en3, so3, f1, f2, f3, f4, f5⟩ := P_next e1 ⟨Or.inr (Or.inr q1), by rw [q1]; exact (PR_20 e1 q1).1⟩
      rw [if_pos e, ite1 e, d1.2.2.2.1.1, d1.2.2.2.1.2, nI_pred, bnd_s, bnd_s, f1, f2, ob_s, ob_s]
      exact ⟨1, σ5, μ5, rfl, rfl, Or.inr ⟨rfl, ds, st3, en3, so3, f3, d2, d3, by omega⟩, PF_trans F (PF_trans e2 f4)⟩
    · rw [if_neg e, ite0 e]
      exact ⟨0, σ3, μ3, rfl, rfl, Or.inl ⟨rfl, (PR_st d1).1⟩, F⟩
theorem P_piece {B : Nat → Nat} {L b t k A : Nat} (hk : k ≤ 2) (hb8 : b ≤ 8) (ht8 : t ≤ 8) {FP FN FB : XS → Option (Int32 × XS)} {FC : XS → Int32 → Option (Int32 × XS)} {FE FPm : MS → Int32 → Option (Int32 × MS)} (hC : b < 8 → Sub B L (b + 1) t k A (fun σ => FC σ 0) (fun μ => FE μ (nI k))) (hP : t < 8 → Sub B L b (t + 1) k A FP (fun μ => FPm μ (nI k))) (hFN : ∀ σ, FN σ = fR_isNot FP σ) (hFB : ∀ σ, FB σ = fR_isBracket FC σ) :
    Sub B L b t k A (fun σ => fR_isPiece FN FB σ) (fun μ => fM_part0 FE FPm μ (nI k)) := by
  intro σ μ st en so cs o h hl
  obtain ⟨sg, s1, s2, s3, s4⟩ := P_sign h
  have h0 := h
  obtain ⟨h1, ⟨t1, t2, t3, t4, t5, t6, t7, t8⟩, h3, h4, h5, _⟩ := h
  have hL := h1.1
  show ∃ r σ' μ', fR_isPiece FN FB σ = some (r, σ') ∧ fM_part0 FE FPm μ (nI k) = some (r, μ') ∧ _
  have no : ¬ (so = 1 ∨ so = 2) → so < 5 → sg = 0 → ¬ μ 0 20 = 2 → ¬ μ 0 20 = 1 → ∃ r σ' μ', fR_isPiece FN FB σ = some (r, σ') ∧ fM_part0 FE FPm μ (nI k) = some (r, μ') ∧ OKr σ' μ' B L st b t k A cs o r ∧ PF σ σ' μ μ' A := by
    intro n1 n2 n3 n4 n5
    refine ⟨0, σ, μ, ?_, ?_, Or.inl ⟨rfl, (PR_st h0).1⟩, PF_refl σ μ A⟩
    · unfold fR_isPiece
      rw [t5, if_neg (show ¬ nI so = (2 : Int32) from fun e => absurd ((nI_eq (a := so) (b := 2) (by omega) (by omega)).mp e) (by omega)), if_neg (show ¬ nI so = (1 : Int32) from fun e => absurd ((nI_eq (a := so) (b := 1) (by omega) (by omega)).mp e) (by omega)), s1, ob_s, n3, if_neg (by decide), hFB]
      unfold fR_isBracket
      rw [s1, ob_s, n3, if_neg (by decide), ob2_s, zb0]
    · unfold fM_part0
      rw [if_neg n4, if_neg n5, M_none s2 (Or.inl (by rw [n3]; decide)) (Or.inl (by rw [n3]; decide))]
  have sg0 : ¬ so = 3 → sg = 0 := fun e => Decidable.byContradiction (fun z => e (s3 z).1)
  rcases t8 with z | z | z | z | z
  · exact no (by omega) (by omega) (sg0 (by omega)) (by rw [z.2]; decide) (by rw [z.2]; decide)
  · -- a word
    obtain ⟨z1, z2, z3, z4⟩ := z
    subst z1
    have hbt := (h1.2.2.2 st (by omega)).2.2
    unfold fR_isPiece fM_part0 fR_isName
    rw [t5, if_neg (show ¬ nI 1 = (2 : Int32) by decide), if_pos (show nI 1 = (1 : Int32) from rfl), z2, if_neg (show ¬ (1 : Int32) = 2 by decide), if_pos rfl, h3.1, X_namesOf σ hk, ob_s]
    unfold gd6
    rw [if_pos (by omega), t1, ck_in (by omega) (by omega), clampI (by omega), (h1.2.2.2 st (by omega)).1, X_index σ hk hbt, ob2_s, t3, t1, pk_sub t6, M_none s2 (Or.inl (by rw [sg0 (by omega)]; decide)) (Or.inl (by rw [sg0 (by omega)]; decide))]
    by_cases e1 : en = st + 1
    · rw [if_pos e1] at z4
      rw [if_pos (show nI (en - st) = (1 : Int32) by rw [e1, show st + 1 - st = 1 by omega]; rfl), z4]
      have hN := M_isName μ hk hbt
      unfold nixB at hN
      unfold nixI
      cases hx : nix k (B st) with
      | none =>
        rw [hx] at hN
        rw [hN]
        show ∃ r σ' μ', ob2 (if (-1 : Int32) < 0 then _ else _) _ = _ ∧ _
        rw [if_pos (by decide), ob2_s, zb0, ob_s, i0, ite_self]
        exact ⟨0, σ, μ, rfl, rfl, Or.inl ⟨rfl, (PR_st h0).1⟩, PF_refl σ μ A⟩
      | some i =>
        rw [hx] at hN
        rw [hN]
        obtain ⟨n1, n2, n3, n4⟩ := nix_spec hk hx
        obtain ⟨d1, d2, d3, d4⟩ := dc_name hk hx
        obtain ⟨σ', μ', a1, a2, a3, a4⟩ := P_opd (w := 1) (v := nI (B st)) h0 hl ⟨Or.inl rfl, z2⟩ ((-1 : Int32) - nI i) d1 d2 d3 d4
        show ∃ r σ' μ', ob2 (if nI i < 0 then _ else _) _ = _ ∧ _
        rw [if_neg (nI_pos (by omega)), a1, ob2_s, i1, ob2_s, zb1, if_neg (nI_ne0 (by omega) (by omega)), ob_s, i1, a2]
        exact ⟨1, σ', μ', rfl, rfl, a3, a4⟩
    · rw [if_neg e1] at z4
      rw [if_neg (show ¬ nI (en - st) = (1 : Int32) from fun e => absurd ((nI_eq (a := en - st) (b := 1) (by omega) (by omega)).mp e) (by omega)), ob2_s, zb0, z4, if_pos rfl]
      exact ⟨0, σ, μ, rfl, rfl, Or.inl ⟨rfl, (PR_st h0).1⟩, PF_refl σ μ A⟩
  · -- digits
    obtain ⟨z1, z2, z3, z4⟩ := z
    subst z1
    unfold fR_isPiece fM_part0
    rw [t5, if_pos (show nI 2 = (2 : Int32) from rfl)]
    rcases z4 with ⟨y1, y2, y3⟩ | ⟨y1, y2⟩
    · obtain ⟨σ', μ', a1, a2, a3, a4⟩ := P_number h0 hl rfl y1
      rw [a1, ob2_s, zb1, y2, if_pos rfl, a2]
      exact ⟨1, σ', μ', rfl, rfl, a3, a4⟩
    · unfold fR_isNumber
      rw [t3, t1, pk_sub t6, if_pos (show (4 : Int32) < nI (en - st) from nI_lt (a := 4) y1 (by omega)), ob2_s, zb0, y2, if_neg (by decide), if_neg (by decide), M_none s2 (Or.inl (by rw [sg0 (by omega)]; decide)) (Or.inl (by rw [sg0 (by omega)]; decide))]
      exact ⟨0, σ, μ, rfl, rfl, Or.inl ⟨rfl, (PR_st h0).1⟩, PF_refl σ μ A⟩
  · -- a sign
    obtain ⟨z1, z2, z3, z4⟩ := z
    subst z1
    unfold fR_isPiece fM_part0
    rw [t5, if_neg (show ¬ nI 3 = (2 : Int32) by decide), if_neg (show ¬ nI 3 = (1 : Int32) by decide), s1, ob_s, z2, if_neg (show ¬ (3 : Int32) = 2 by decide), if_neg (show ¬ (3 : Int32) = 1 by decide)]
    by_cases e33 : sg = 33
    · rw [if_pos e33]
      by_cases ht : t = 8
      · subst ht
        rw [hFN]
        unfold fR_isNot
        rw [h5.1, if_pos (show nI 8 = (8 : Int32) from rfl), ob2_s, zb0, M_none s2 (Or.inr (by rw [h5.2]; decide)) (Or.inl (by rw [e33]; decide))]
        exact ⟨0, σ, μ, rfl, rfl, Or.inl ⟨rfl, (PR_st h0).1⟩, PF_refl σ μ A⟩
      · obtain ⟨r, σ', μ', a1, a2, a3, a4⟩ := P_not h0 hl rfl (by omega) (hP (by omega))
        have hr : ∀ w : XS, zb r (some (r, w)) = some (r, w) := fun w => by
          rcases a3 with z | z
          · rw [z.1, zb0]
          · rw [z.1, zb1]
        unfold fM_part0_J84
        rw [hFN, a1, ob2_s, hr, s2 33 (by decide), ob_s, ite1 e33, if_neg (show ¬ (8 : Int32) ≤ μ 0 24 by rw [h5.2]; exact nI_ge (b := 8) (by omega) (by omega)), a2]
        exact ⟨r, σ', μ', rfl, rfl, a3, a4⟩
    · rw [if_neg e33]
      by_cases e40 : sg = 40
      · by_cases hb : b = 8
        · subst hb
          rw [hFB]
          unfold fR_isBracket
          rw [s1, ob_s, if_pos e40, h4.1, if_pos (show nI 8 = (8 : Int32) from rfl), ob2_s, zb0, M_none s2 (Or.inl e33) (Or.inr (by rw [h4.2]; rfl))]
          exact ⟨0, σ, μ, rfl, rfl, Or.inl ⟨rfl, (PR_st h0).1⟩, PF_refl σ μ A⟩
        · obtain ⟨r, σ', μ', a1, a2, a3, a4⟩ := P_bracket h0 hl rfl (by rw [s1, e40]) (by omega) (hC (by omega))
          have hr : ∀ w : XS, zb r (some (r, w)) = some (r, w) := fun w => by
            rcases a3 with z | z
            · rw [z.1, zb0]
            · rw [z.1, zb1]
          unfold fM_part0_J84 fM_part0_J145
          rw [hFB, a1, ob2_s, hr, s2 33 (by decide), ob_s, ite0 e33, s2 40 (by decide), ob_s, ite1 e40, if_neg (show ¬ μ 0 23 = (8 : Int32) by rw [h4.2]; exact fun e => absurd ((nI_eq (a := b) (b := 8) (by omega) (by omega)).mp e) (by omega)), a2]
          exact ⟨r, σ', μ', rfl, rfl, a3, a4⟩
      · rw [hFB]
        unfold fR_isBracket
        rw [s1, ob_s, if_neg e40, ob2_s, zb0, M_none s2 (Or.inl e33) (Or.inl e40)]
        exact ⟨0, σ, μ, rfl, rfl, Or.inl ⟨rfl, (PR_st h0).1⟩, PF_refl σ μ A⟩
  · exact no (by omega) (by omega) (sg0 (by omega)) (by rw [z.2]; decide) (by rw [z.2]; decide)
