/-! letters -/
theorem M_in (μ : MS) (x : Int32) {lo hi : Int64} {a b : Int} (ha : lo.toInt = a) (hb : hi.toInt = b) : fM_isIn μ x.toInt64 lo hi = some (if a ≤ x.toInt ∧ x.toInt ≤ b then 1 else 0) := by rw [M_isIn, ha, hb]
theorem X_in (σ : XS) (x : Int32) {lo hi : Int32} {a b : Int} (ha : lo.toInt = a) (hb : hi.toInt = b) : fX_isWithin σ x lo hi = some (if a ≤ x.toInt ∧ x.toInt ≤ b then 1 else 0) := by rw [X_isWithin, ha, hb]
theorem X_kind (σ : XS) (x : Int32) : fX_isKind σ x = some (if 0 ≤ x.toInt ∧ x.toInt ≤ 5 then 1 else 0) := by
  unfold fX_isKind
  rw [X_in σ x (a := 0) (b := 5) rfl rfl, ob_s, zb_s]
theorem X_thick (σ : XS) (x : Int32) : fX_isThick σ x = some (if 1 ≤ x.toInt ∧ x.toInt ≤ 99 then 1 else 0) := by
  unfold fX_isThick
  rw [X_in σ x (a := 1) (b := 99) rfl rfl, ob_s, zb_s]
theorem X_town (σ : XS) (x : Int32) : fX_isTown σ x = some (if 0 ≤ x.toInt ∧ x.toInt ≤ 9 then 1 else 0) := by
  unfold fX_isTown
  rw [X_in σ x (a := 0) (b := 9) rfl rfl, ob_s, zb_s]
theorem ite1 {c : Prop} [Decidable c] (h : c) {α : Type} {a b : α} : (if (if c then (1 : Int32) else 0) = 0 then a else b) = b := by rw [if_pos h, if_neg (by decide)]
theorem ite0 {c : Prop} [Decidable c] (h : ¬ c) {α : Type} {a b : α} : (if (if c then (1 : Int32) else 0) = 0 then a else b) = a := by rw [if_neg h, if_pos rfl]
theorem i1 {α : Type} {a b : α} : (if (1 : Int32) = 0 then a else b) = b := if_neg (by decide)
theorem i0 {α : Type} {a b : α} : (if (0 : Int32) = 0 then a else b) = a := if_pos rfl
theorem rng {x : Int32} {a b : Nat} (h : (a : Int) ≤ x.toInt ∧ x.toInt ≤ (b : Int)) : ∃ q : Nat, a ≤ q ∧ q ≤ b ∧ x = nI q := by
  obtain ⟨q, hq, rfl⟩ := nI_of (x := x) (by rw [lt_iff]; have : (0 : Int32).toInt = 0 := rfl; omega)
  rw [nI_toInt hq] at h
  exact ⟨q, by omega, by omega, rfl⟩
/-- a letter's number: on both sides it is one, or it isn't -/
theorem B_one {σ : XS} {b : Nat} {μ : MS} {R : Option (List Int32)} {n x j : Nat} {D : Nat → Prop} (h : BX σ b μ R n x j D) (y : Int32) :
    (∃ k, k < n ∧ y = nI k ∧ fB_has σ b y = some 1 ∧ fM_isOne μ y = some 1) ∨ (fB_has σ b y = some 0 ∧ fM_isOne μ y = some 0) := by
  have hn := h.1.1
  have hm : fM_isOne μ y = some (if 0 ≤ y.toInt ∧ y.toInt ≤ (n : Int) - 1 then 1 else 0) := by
    unfold fM_isOne
    rw [h.1.2.2.1, M_in μ y (a := 0) (b := (n : Int) - 1) rfl (by rw [w64, show (1 : Int32) = nI 1 from rfl, pk_sub_toInt (by omega) (by omega)]; rfl), ob_s, zb_s]
  rcases pk_ix y (n := n) (by omega) with h1 | h1 | ⟨k, hk, rfl⟩
  · right
    refine ⟨?_, ?_⟩
    · unfold fB_has; rw [if_pos h1]
    · rw [hm, if_neg]
      rw [lt_iff] at h1
      have : (0 : Int32).toInt = 0 := rfl
      omega
  · right
    have h2 : (n : Int) ≤ y.toInt := by rw [le_iff, nI_toInt (by omega)] at h1; exact h1
    refine ⟨?_, ?_⟩
    · unfold fB_has
      rw [if_neg (by rw [lt_iff]; have : (0 : Int32).toInt = 0 := rfl; omega), B_n h, if_pos h1]
    · rw [hm, if_neg (by omega)]
  · left
    refine ⟨k, hk, rfl, X_has hn (B_n h) hk, ?_⟩
    rw [hm, nI_toInt (by omega), if_pos (by omega)]
theorem B_add {σ : XS} {b : Nat} {μ : MS} {R : Option (List Int32)} {n x j : Nat} (h : BX σ b μ R n x j NoD) (hn : n < 14) {kd th tn : Nat} (h1 : kd ≤ 5) (h2 : 1 ≤ th ∧ th ≤ 99) (h3 : tn ≤ 9) :
    ∃ σ' μ', fB_add σ b (nI kd) (nI th) (nI tn) = some (nI n, σ') ∧ fM_comes μ (nI kd) (nI th) (nI tn) = some μ' ∧ BX σ' b μ' R (n + 1) x j NoD ∧ XF σ b σ' ∧ MF μ μ' := by
  have h0 := h
  obtain ⟨⟨w1, w2, w3, w4, w5, w6, w7, w8⟩, ⟨g2, g3, g4, g5⟩, h6, h7⟩ := h
  have hM : fM_comes μ (nI kd) (nI th) (nI tn) = some (up2 (up2 (up2 (up2 (up2 (up2 μ 1 (6 + n) (nI n)) 1 0 (nI (n + 1))) 1 (20 + 4 * n + 0) (nI kd)) 1 (20 + 4 * n + 1) (nI th)) 1 (20 + 4 * n + 2) (nI tn)) 1 (20 + 4 * n + 3) 0) := by
    unfold fM_comes
    rw [bnd_s, w3, pl 6, nI_add, ck_in (by omega) (by omega), bnd_s, bnd_s, clampI (by omega), up2_s, pk_un (by omega), w3, nI_1, show (0 : Int32) = nI 0 from rfl, show (1 : Int32) = nI 1 from rfl, show (2 : Int32) = nI 2 from rfl, show (3 : Int32) = nI 3 from rfl, M_sets _ (by omega), ob_s, M_sets _ (by omega), ob_s, M_sets _ (by omega), ob_s, M_sets _ (by omega), ob_s]
  generalize hμ : up2 (up2 (up2 (up2 (up2 (up2 μ 1 (6 + n) (nI n)) 1 0 (nI (n + 1))) 1 (20 + 4 * n + 0) (nI kd)) 1 (20 + 4 * n + 1) (nI th)) 1 (20 + 4 * n + 2) (nI tn)) 1 (20 + 4 * n + 3) 0 = μ' at hM
  have rd : ∀ m, μ' 1 m = if m = 20 + 4 * n + 3 then 0 else if m = 20 + 4 * n + 2 then nI tn else if m = 20 + 4 * n + 1 then nI th else if m = 20 + 4 * n + 0 then nI kd else if m = 0 then nI (n + 1) else if m = 6 + n then nI n else μ 1 m := fun m => by
    rw [← hμ]
    simp only [up2_s, upd]
  have rn : ∀ c, c ≠ 1 → μ' c = μ c := fun c hc => by rw [← hμ, up2_n _ _ _ hc, up2_n _ _ _ hc, up2_n _ _ _ hc, up2_n _ _ _ hc, up2_n _ _ _ hc, up2_n _ _ _ hc]
  have mf : MF μ μ' := ⟨fun c c1 _ _ _ _ => rn c c1, by rw [rd, if_neg (by omega), if_neg (by omega), if_neg (by omega), if_neg (by omega), if_neg (by omega), if_neg (by omega)], fun m hm => by rw [rd, if_neg (by omega), if_neg (by omega), if_neg (by omega), if_neg (by omega), if_neg (by omega), if_neg (by omega)]⟩
  have od : ∀ i, i < n → μ' 1 (6 + i) = μ 1 (6 + i) := fun i hi => by rw [rd, if_neg (by omega), if_neg (by omega), if_neg (by omega), if_neg (by omega), if_neg (by omega), if_neg (by omega)]
  have sc : ∀ m, 1 ≤ m → m < 6 → μ' 1 m = μ 1 m := fun m h1 h2 => by rw [rd, if_neg (by omega), if_neg (by omega), if_neg (by omega), if_neg (by omega), if_neg (by omega), if_neg (by omega)]
  have on : μ' 1 (6 + n) = nI n := by rw [rd, if_neg (by omega), if_neg (by omega), if_neg (by omega), if_neg (by omega), if_neg (by omega), if_pos rfl]
  have n0 : μ' 1 0 = nI (n + 1) := by rw [rd, if_neg (by omega), if_neg (by omega), if_neg (by omega), if_neg (by omega), if_pos rfl]
  have d0 : μ' 1 (20 + 4 * n) = nI kd := by rw [rd, if_neg (by omega), if_neg (by omega), if_neg (by omega), if_pos (by omega)]
  have d1 : μ' 1 (21 + 4 * n) = nI th := by rw [rd, if_neg (by omega), if_neg (by omega), if_pos (by omega)]
  have d2 : μ' 1 (22 + 4 * n) = nI tn := by rw [rd, if_neg (by omega), if_pos (by omega)]
  have d3 : μ' 1 (23 + 4 * n) = 0 := by rw [rd, if_pos (by omega)]
  have dk : ∀ m k, k < n → 20 + 4 * k ≤ m → m ≤ 23 + 4 * k → μ' 1 m = μ 1 m := fun m k hk e1 e2 => by rw [rd, if_neg (by omega), if_neg (by omega), if_neg (by omega), if_neg (by omega), if_neg (by omega), if_neg (by omega)]
  generalize hσ : xu (xu (xu (xu (xu (xu σ (1 + b) 0 (nI (n + 1))) (30 + 6 * b + 5) n (nI n)) (30 + 6 * b + 3) n 0) (30 + 6 * b + 0) n (nI kd)) (30 + 6 * b + 1) n (nI th)) (30 + 6 * b + 2) n (nI tn) = σ7
  have xc : ∀ c, c ≠ 1 + b → (c < 30 + 6 * b ∨ 36 + 6 * b ≤ c) → xi σ7 c = xi σ c := fun c c1 c2 => by rw [← hσ, xi_un _ _ _ (by omega), xi_un _ _ _ (by omega), xi_un _ _ _ (by omega), xi_un _ _ _ (by omega), xi_un _ _ _ (by omega), xi_un _ _ _ (by omega)]
  have x1 : xi σ7 (1 + b) = upd (xi σ (1 + b)) 0 (nI (n + 1)) := by rw [← hσ, xi_un _ _ _ (by omega), xi_un _ _ _ (by omega), xi_un _ _ _ (by omega), xi_un _ _ _ (by omega), xi_un _ _ _ (by omega), xi_u]
  have x5 : xi σ7 (30 + 6 * b + 5) = upd (xi σ (30 + 6 * b + 5)) n (nI n) := by rw [← hσ, xi_un _ _ _ (by omega), xi_un _ _ _ (by omega), xi_un _ _ _ (by omega), xi_un _ _ _ (by omega), xi_u, xi_un _ _ _ (by omega)]
  have x3 : xi σ7 (30 + 6 * b + 3) = upd (xi σ (30 + 6 * b + 3)) n 0 := by rw [← hσ, xi_un _ _ _ (by omega), xi_un _ _ _ (by omega), xi_un _ _ _ (by omega), xi_u, xi_un _ _ _ (by omega), xi_un _ _ _ (by omega)]
  have x0 : xi σ7 (30 + 6 * b + 0) = upd (xi σ (30 + 6 * b + 0)) n (nI kd) := by rw [← hσ, xi_un _ _ _ (by omega), xi_un _ _ _ (by omega), xi_u, xi_un _ _ _ (by omega), xi_un _ _ _ (by omega), xi_un _ _ _ (by omega)]
  have x1' : xi σ7 (30 + 6 * b + 1) = upd (xi σ (30 + 6 * b + 1)) n (nI th) := by rw [← hσ, xi_un _ _ _ (by omega), xi_u, xi_un _ _ _ (by omega), xi_un _ _ _ (by omega), xi_un _ _ _ (by omega), xi_un _ _ _ (by omega)]
  have x2 : xi σ7 (30 + 6 * b + 2) = upd (xi σ (30 + 6 * b + 2)) n (nI tn) := by rw [← hσ, xi_u, xi_un _ _ _ (by omega), xi_un _ _ _ (by omega), xi_un _ _ _ (by omega), xi_un _ _ _ (by omega), xi_un _ _ _ (by omega)]
  have x4 : xi σ7 (30 + 6 * b + 4) = xi σ (30 + 6 * b + 4) := by rw [← hσ, xi_un _ _ _ (by omega), xi_un _ _ _ (by omega), xi_un _ _ _ (by omega), xi_un _ _ _ (by omega), xi_un _ _ _ (by omega), xi_un _ _ _ (by omega)]
  have kw : Kw σ σ7 := by rw [← hσ]; exact ⟨rfl, rfl, rfl, fun _ _ => rfl⟩
  have xr7 : xr σ7 = xr σ := by rw [← hσ]; rfl
  have xf : XF σ b σ7 := ⟨xc, xr7, kw⟩
  have bx : BX σ7 b μ' R (n + 1) x j (fun i => i = n) := by
    refine ⟨⟨by omega, w2, n0, by rw [sc 2 (by omega) (by omega)]; exact w4, by rw [sc 4 (by omega) (by omega)]; exact w5, fun i hi => ?_, fun k hk => ?_, fun k hk => ?_⟩, ⟨?_, fun i hi => ?_, fun k hk => ?_, fun k hk hD => ?_⟩, RX_fr (by rw [xr7]) kw h6, RM_fr (by rw [rn 0 (by decide)]) mf.2.2 (rn 14 (by decide)) (rn 15 (by decide)) h7⟩
    · by_cases e : i = n
      · exact ⟨n, by omega, by rw [e]; exact on⟩
      · obtain ⟨k, hk, ek⟩ := w6 i (by omega)
        exact ⟨k, by omega, by rw [od i (by omega)]; exact ek⟩
    · by_cases e : k = n
      · exact ⟨n, by omega, by rw [e]; exact on⟩
      · obtain ⟨i, hi, ei⟩ := w7 k (by omega)
        exact ⟨i, by omega, by rw [od i hi]; exact ei⟩
    · by_cases e : k = n
      · subst e
        exact ⟨kd, th, tn, 0, h1, h2, h3, by omega, d0, d1, d2, d3⟩
      · obtain ⟨a, b', c, d, q1, q2, q3, q4, q5, q6, q7, q8⟩ := w8 k (by omega)
        exact ⟨a, b', c, d, q1, q2, q3, q4, by rw [dk _ k (by omega) (by omega) (by omega)]; exact q5, by rw [dk _ k (by omega) (by omega) (by omega)]; exact q6, by rw [dk _ k (by omega) (by omega) (by omega)]; exact q7, by rw [dk _ k (by omega) (by omega) (by omega)]; exact q8⟩
    · rw [x1, n0, sc 4 (by omega) (by omega), sc 3 (by omega) (by omega), sc 2 (by omega) (by omega), sc 5 (by omega) (by omega), pk_us, pk_un (by omega), pk_un (by omega), pk_un (by omega), pk_un (by omega)]
      exact ⟨rfl, g2.2⟩
    · rw [x5]
      by_cases e : i = n
      · rw [e, pk_us, on]
      · rw [pk_un e, od i (by omega)]; exact g3 i (by omega)
    · rw [x0, x1', x2, x3]
      by_cases e : k = n
      · rw [e, pk_us, pk_us, pk_us, pk_us, d0, d1, d2, d3]; exact ⟨rfl, rfl, rfl, rfl⟩
      · rw [pk_un e, pk_un e, pk_un e, pk_un e, dk _ k (by omega) (by omega) (by omega), dk (21 + 4 * k) k (by omega) (by omega) (by omega), dk (22 + 4 * k) k (by omega) (by omega) (by omega), dk (23 + 4 * k) k (by omega) (by omega) (by omega)]
        exact g4 k (by omega)
    · rw [x4, dk _ k (by omega) (by omega) (by omega), dk (21 + 4 * k) k (by omega) (by omega) (by omega), dk (22 + 4 * k) k (by omega) (by omega) (by omega), dk (23 + 4 * k) k (by omega) (by omega) (by omega)]
      exact g5 k (by omega) (fun z => z)
  obtain ⟨σ', a1, a2, a3⟩ := B_weigh bx (k := n) (by omega)
  refine ⟨σ', μ', ?_, hM, BX_mono a2 (fun k hk => hk.2 hk.1), XF_trans xf a3, mf⟩
  unfold fB_add fB_become
  rw [B_n h0, show (14 : Int32) = nI 14 from rfl, if_neg (fun e => by rw [nI_eq (by omega) (by omega)] at e; omega), bnd_s, bnd_s, ck_in hn (by omega), bnd_s, ck_in hn (by omega), bnd_s, ck_in hn (by omega), bnd_s, ck_in hn (by omega), bnd_s, ck_in hn (by omega), bnd_s, clampI (by omega), nI_1, hσ, a1, ob_s, ob_s]
theorem L_letter : Ls_letter Re := by
  intro σ μ x1 x2 x3 hRe
  obtain ⟨T, n, j, hT, hj, hB, hI⟩ := id hRe
  have hn := hB.1.1
  unfold fX_letter fM_letter
  rw [X_kind, M_in μ x1 (a := 0) (b := 5) rfl rfl, X_thick, M_in μ x2 (a := 1) (b := 99) rfl rfl, X_town, M_in μ x3 (a := 0) (b := 9) rfl rfl, ob_s, ob_s, ob_s, ob_s, ob_s, ob_s, B_n hB, hB.1.2.2.1]
  by_cases h1 : 0 ≤ x1.toInt ∧ x1.toInt ≤ 5
  · rw [ite1 h1, ite1 h1]
    by_cases h2 : 1 ≤ x2.toInt ∧ x2.toInt ≤ 99
    · rw [ite1 h2, ite1 h2]
      by_cases h3 : 0 ≤ x3.toInt ∧ x3.toInt ≤ 9
      · rw [ite1 h3, ite1 h3]
        by_cases h4 : n = 14
        · subst h4
          exact ⟨_, σ, μ, if_pos rfl, if_pos rfl, hRe⟩
        · obtain ⟨a, a1, a2, rfl⟩ := rng (a := 0) (b := 5) h1
          obtain ⟨b, b1, b2, rfl⟩ := rng (a := 1) (b := 99) h2
          obtain ⟨c, c1, c2, rfl⟩ := rng (a := 0) (b := 9) h3
          obtain ⟨σ', μ', e1, e2, e3, e4, e5⟩ := B_add hB (by omega) a2 ⟨b1, b2⟩ c2
          have e6 : ¬ nI n = 14 := fun e => h4 (by rw [show (14 : Int32) = nI 14 from rfl, nI_eq (by omega) (by omega)] at e; exact e)
          rw [if_neg e6, if_neg e6, e1, e2, ob2_s, ob_s, e3.1.2.2.1, nI_pred]
          exact ⟨_, σ', μ', rfl, rfl, Re_bag hT hB hI e3 hj e4 e5⟩
      · rw [ite0 h3, ite0 h3]
        exact ⟨_, σ, μ, rfl, rfl, hRe⟩
    · rw [ite0 h2, ite0 h2]
      exact ⟨_, σ, μ, rfl, rfl, hRe⟩
  · rw [ite0 h1, ite0 h1]
    exact ⟨_, σ, μ, rfl, rfl, hRe⟩
theorem X_worth (σ : XS) (kd th : Int32) : fK_worth σ kd th = some (worthV kd th) := by
  unfold fK_worth worthV
  rw [bnd_s, bnd_s]
  by_cases h1 : kd = 1
  · rw [if_pos h1, if_pos h1]
  · rw [if_neg h1, if_neg h1]
    by_cases h2 : kd = 2
    · rw [if_pos h2, if_pos h2]
    · rw [if_neg h2, if_neg h2]
      by_cases h3 : kd = 3
      · rw [if_pos h3, if_pos h3]
      · rw [if_neg h3, if_neg h3]
        by_cases h4 : kd = 4
        · rw [if_pos h4, if_pos h4, Int32.sub_sub, Int32.add_comm, ← Int32.sub_sub]; rfl
        · rw [if_neg h4, if_neg h4]
          by_cases h5 : kd = 5
          · rw [if_pos h5, if_pos h5]
          · rw [if_neg h5, if_neg h5]
theorem M_worth (μ : MS) {k : Nat} (hk : k < 14) : fM_worth μ (nI k) = some (worthV (μ 1 (20 + 4 * k)) (μ 1 (21 + 4 * k))) := by
  unfold fM_worth worthV
  rw [show fM_of μ (nI k) (1 : Int32) = some (μ 1 (20 + 4 * k + 1)) from M_of μ (w := 1) (by omega), ob_s, show fM_of μ (nI k) (0 : Int32) = some (μ 1 (20 + 4 * k + 0)) from M_of μ (w := 0) (by omega), ob_s, Nat.add_zero, show 20 + 4 * k + 1 = 21 + 4 * k by omega]
  generalize μ 1 (20 + 4 * k) = kd
  generalize μ 1 (21 + 4 * k) = th
  by_cases h1 : kd = 1
  · rw [if_pos h1, if_pos h1]
  · rw [if_neg h1, if_neg h1]
    by_cases h2 : kd = 2
    · rw [if_pos h2, if_pos h2]
    · rw [if_neg h2, if_neg h2]
      by_cases h3 : kd = 3
      · rw [if_pos h3, if_pos h3]
      · rw [if_neg h3, if_neg h3]
        by_cases h4 : kd = 4
        · rw [if_pos h4, if_pos h4]
        · rw [if_neg h4, if_neg h4]
          by_cases h5 : kd = 5
          · rw [if_pos h5, if_pos h5]
          · rw [if_neg h5, if_neg h5]
theorem L_told : Ls_told Re := by
  intro σ μ x1 x2 hRe
  obtain ⟨T, n, j, hT, hj, hB, hI⟩ := id hRe
  have hn := hB.1.1
  unfold fX_told fM_told
  rcases B_one hB x1 with ⟨k, hk, rfl, a1, a2⟩ | ⟨a1, a2⟩
  · rw [a1, a2, ob_s, ob_s, i1, i1]
    obtain ⟨q0, q1, q2, q3⟩ := hB.2.1.2.2.1 k hk
    have hof : ∀ w : Nat, w < 4 → fM_of μ (nI k) (nI w) = some (μ 1 (20 + 4 * k + w)) := fun w hw => M_of μ (by omega)
    by_cases h0 : x2 = 0
    · rw [if_pos h0, if_pos h0, ck_in (by omega) (by omega), clampI (by omega), h0, show (0 : Int32) = nI 0 from rfl, hof 0 (by omega), ob_s, q0]
      exact ⟨_, μ, rfl, rfl, hRe⟩
    rw [if_neg h0, if_neg h0]
    by_cases h1 : x2 = 1
    · rw [if_pos h1, if_pos h1, ck_in (by omega) (by omega), clampI (by omega), h1, show (1 : Int32) = nI 1 from rfl, hof 1 (by omega), ob_s, q1, show 20 + 4 * k + 1 = 21 + 4 * k by omega]
      exact ⟨_, μ, rfl, rfl, hRe⟩
    rw [if_neg h1, if_neg h1]
    by_cases h2 : x2 = 2
    · rw [if_pos h2, if_pos h2, ck_in (by omega) (by omega), clampI (by omega), h2, show (2 : Int32) = nI 2 from rfl, hof 2 (by omega), ob_s, q2, show 20 + 4 * k + 2 = 22 + 4 * k by omega]
      exact ⟨_, μ, rfl, rfl, hRe⟩
    rw [if_neg h2, if_neg h2]
    by_cases h3 : x2 = 3
    · obtain ⟨p, p1, p2, p3, p4⟩ := B_placeOf hB hk
      rw [if_pos h3, if_pos h3, p3, p4, ob_s, ob_s]
      exact ⟨_, μ, rfl, rfl, hRe⟩
    rw [if_neg h3, if_neg h3]
    by_cases h4 : x2 = 4
    · rw [if_pos h4, if_pos h4, ck_in (by omega) (by omega), clampI (by omega), show (3 : Int32) = nI 3 from rfl, hof 3 (by omega), ob_s, q3, show 20 + 4 * k + 3 = 23 + 4 * k by omega]
      exact ⟨_, μ, rfl, rfl, hRe⟩
    rw [if_neg h4, if_neg h4]
    by_cases h5 : x2 = 5
    · obtain ⟨μ', p1, p2, p3, p4⟩ := B_rises hB hk
      rw [if_pos h5, if_pos h5, p1, ob2_s, ck_in (by omega) (by omega), clampI (by omega)]
      exact ⟨_, μ', rfl, rfl, Re_bag hT hB hI p2 hj (XF_refl _ _) p3⟩
    rw [if_neg h5, if_neg h5]
    by_cases h6 : x2 = 6
    · rw [if_pos h6, if_pos h6, ck_in (by omega) (by omega), clampI (by omega), X_grips, ob_s, M_grips μ (by omega), ob_s, q0]
      exact ⟨_, μ, rfl, rfl, hRe⟩
    rw [if_neg h6, if_neg h6]
    by_cases h7 : x2 = 7
    · rw [if_pos h7, if_pos h7, ck_in (by omega) (by omega), ck_in (by omega) (by omega), clampI (by omega), X_worth, ob_s, M_worth μ (by omega), ob_s, q0, q1]
      exact ⟨_, μ, rfl, rfl, hRe⟩
    rw [if_neg h7, if_neg h7]
    exact ⟨_, μ, rfl, rfl, hRe⟩
  · rw [a1, a2, ob_s, ob_s, i0, i0]
    exact ⟨_, μ, rfl, rfl, hRe⟩
theorem isOf_eq (σ : XS) (μ : MS) (a b : Int32) : ∃ r, fK_isOf σ a b = some r ∧ fM_isOf μ a b = some r := by
  unfold fK_isOf fM_isOf
  by_cases h : a = b
  · rw [if_pos h, if_pos h.symm]
    exact ⟨_, rfl, rfl⟩
  · rw [if_neg h, if_neg (fun e => h e.symm)]
    unfold fK_isOf_J19 fM_isOf_J19
    generalize hz : (if b = 0 then some (1 : Int32) else _) = z
    have hr : ∃ r, z = some r := by
      by_cases h1 : b = 0
      · rw [if_pos h1] at hz; exact ⟨1, hz.symm⟩
      · rw [if_neg h1] at hz
        by_cases h2 : b = 1
        · rw [if_pos h2] at hz
          by_cases h3 : a = 3
          · rw [if_pos h3] at hz; exact ⟨1, hz.symm⟩
          · rw [if_neg h3, if_neg (by rw [h2]; decide)] at hz
            exact ⟨0, hz.symm⟩
        · rw [if_neg h2] at hz
          by_cases h3 : b = 2
          · rw [if_pos h3] at hz
            by_cases h4 : a = 4
            · rw [if_pos h4] at hz; exact ⟨1, hz.symm⟩
            · rw [if_neg h4] at hz; exact ⟨0, hz.symm⟩
          · rw [if_neg h3] at hz; exact ⟨0, hz.symm⟩
    obtain ⟨r, hr⟩ := hr
    exact ⟨r, hr, hr⟩
theorem L_as : Ls_as Re := by
  intro σ μ x1 x2 hRe
  obtain ⟨T, n, j, hT, hj, hB, hI⟩ := id hRe
  have hn := hB.1.1
  unfold fX_as fM_as
  rcases B_one hB x1 with ⟨k, hk, rfl, a1, a2⟩ | ⟨a1, a2⟩
  · rw [a1, a2, ob_s, ob_s, i1, i1, X_kind, ob_s, M_in μ x2 (a := 0) (b := 5) rfl rfl, ob_s]
    by_cases h1 : 0 ≤ x2.toInt ∧ x2.toInt ≤ 5
    · obtain ⟨q0, q1, q2, q3⟩ := hB.2.1.2.2.1 k hk
      obtain ⟨r, r1, r2⟩ := isOf_eq σ μ (μ 1 (20 + 4 * k)) x2
      rw [ite1 h1, ite1 h1, ck_in (by omega) (by omega), ck_in (by omega) (by omega), clampI (by omega), q0, r1, ob_s, show (0 : Int32) = nI 0 from rfl, M_of μ (by omega), ob_s, show 20 + 4 * k + 0 = 20 + 4 * k from rfl, r2, ob_s]
      by_cases h2 : r = nI 0
      · rw [if_pos h2, if_pos h2]; exact ⟨_, rfl, rfl⟩
      · rw [if_neg h2, if_neg h2, q1, show (1 : Int32) = nI 1 from rfl, M_of μ (by omega), ob_s, show 20 + 4 * k + 1 = 21 + 4 * k by omega]; exact ⟨_, rfl, rfl⟩
    · rw [ite0 h1, ite0 h1]; exact ⟨_, rfl, rfl⟩
  · rw [a1, a2, ob_s, ob_s, i0, i0]
    exact ⟨_, rfl, rfl⟩
