/-! a text in the model's row: number t, key k, o operands, codes cs -/
def nmC (k i : Nat) : Int32 := if k = 0 then (if i = 0 then 116 else if i = 1 then 100 else 109) else if k = 1 then (if i = 0 then 109 else 106) else (if i = 0 then 116 else 112)
def dcW (c : Int32) : Int32 := if c < -3 then 2 else if c < 0 then 1 else 0
def dcV (k : Nat) (c : Int32) : Int32 := if c < -3 then -c else if c < 0 then (if c = -1 then nmC k 0 else if c = -2 then nmC k 1 else nmC k 2) else c
def TextAt (s : Nat → Int32) (t k o : Nat) (cs : List Int32) : Prop :=
  s (76 + 200 * t) = nI k ∧ s (77 + 200 * t) = nI o ∧ s (78 + 200 * t) = nI cs.length ∧ ∀ i, i < cs.length → s (80 + 200 * t + 2 * i) = dcW (cs.getD i 0) ∧ s (81 + 200 * t + 2 * i) = dcV k (cs.getD i 0)
/-- a text that is one -/
def WfT (k o : Nat) (cs : List Int32) : Prop := k ≤ 2 ∧ o ≤ 96 ∧ cs.length ≤ 96 ∧ dpF cs 0 = some 1 ∧ nops cs = o ∧ (∀ c ∈ cs, k = 0 ∨ c ≠ -3)
theorem up2_s (μ : MS) (c i : Nat) (v : Int32) : up2 μ c i v c = upd (μ c) i v := by unfold up2; rw [if_pos rfl]
theorem up2_n (μ : MS) {c d : Nat} (i : Nat) (v : Int32) (h : d ≠ c) : up2 μ c i v d = μ d := by unfold up2; rw [if_neg h]
theorem M_textAt (μ : MS) (t : Nat) : fM_textAt μ (nI t) = some (nI (76 + 200 * t)) := by
  unfold fM_textAt
  rw [pl 76, pl 200, pk_mul, nI_add]
theorem clampI {n : Nat} (h : n < 2 ^ 31) : (nI n).toNatClampNeg = n := nI_clamp h
theorem dcW_cases (c : Int32) : (c < -3 ∧ dcW c = 2) ∨ (¬ c < -3 ∧ c < 0 ∧ dcW c = 1) ∨ (¬ c < -3 ∧ ¬ c < 0 ∧ dcW c = 0) := by
  unfold dcW
  by_cases h1 : c < -3
  · exact Or.inl ⟨h1, if_pos h1⟩
  · by_cases h2 : c < 0
    · exact Or.inr (Or.inl ⟨h1, h2, by rw [if_neg h1, if_pos h2]⟩)
    · exact Or.inr (Or.inr ⟨h1, h2, by rw [if_neg h1, if_neg h2]⟩)
theorem nmC_in (k i : Nat) : ∃ j : Nat, j < 128 ∧ nmC k i = nI j := by
  unfold nmC
  split
  · split
    · exact ⟨116, by omega, rfl⟩
    · split
      · exact ⟨100, by omega, rfl⟩
      · exact ⟨109, by omega, rfl⟩
  · split
    · split
      · exact ⟨109, by omega, rfl⟩
      · exact ⟨106, by omega, rfl⟩
    · split
      · exact ⟨116, by omega, rfl⟩
      · exact ⟨112, by omega, rfl⟩
theorem neg_ne {c : Int32} (h : ¬ c = -33) : ¬ (-c = 33) := fun e => h (by rw [← Int32.neg_neg (a := c), e])
theorem pk_m1' (n : Nat) : nI (n + 1) + -nI 1 = nI n := pk_m1 n
/-- the model's loop over a text's steps -/
theorem M_workedL (k165 : MS → Option (Int32 × MS)) (f : Nat → Int32) (t k : Nat) (ht : t < 14) (cs0 : List Int32) (hlen : cs0.length ≤ 96) (e : Nat) :
    ∀ (cs : List Int32) (i d n : Nat) (μ : MS), cs0.drop i = cs → i + cs.length = cs0.length → d ≤ i → dpF cs d = some e → cs.length < n →
      (∀ j, j < cs0.length → μ 1 (80 + 200 * t + 2 * j) = dcW (cs0.getD j 0) ∧ μ 1 (81 + 200 * t + 2 * j) = dcV k (cs0.getD j 0)) →
      (∀ c ∈ cs, ¬ c < -3 → c < 0 → μ 29 (dcV k c).toNatClampNeg = evN f c) →
      ∃ μ', fM_worked_L34 k165 n (nI d) (nI (80 + 200 * t + 2 * cs0.length)) (nI (80 + 200 * t + 2 * i)) μ = k165 μ' ∧ (∀ c, c ≠ 30 → μ' c = μ c) ∧ μ' 30 = evF f cs d (μ 30) := by
  intro cs
  induction cs with
  | nil =>
    intro i d n μ hdr hil hdi hdp hn hst hnm
    obtain ⟨n, rfl⟩ : ∃ m, n = m + 1 := ⟨n - 1, by simp at hn; omega⟩
    refine ⟨μ, ?_, fun c _ => rfl, rfl⟩
    rw [fM_worked_L34, if_pos (nI_le (by simp at hil; omega) (by omega))]
  | cons c cs ih =>
    intro i d n μ hdr hil hdi hdp hn hst hnm
    obtain ⟨n, rfl⟩ : ∃ m, n = m + 1 := ⟨n - 1, by simp at hn; omega⟩
    rw [List.length_cons] at hil hn
    have hi : i < cs0.length := by omega
    have hc : cs0.getD i 0 = c := by
      have h1 : cs0[i]? = some c := by
        have := congrArg List.head? hdr
        rw [List.head?_drop] at this
        exact this
      rw [List.getD_eq_getElem?_getD, h1]; rfl
    have hdr2 : cs0.drop (i + 1) = cs := by rw [← List.drop_drop, hdr]; rfl
    obtain ⟨hw, hv⟩ := hst i hi
    rw [hc] at hw hv
    rw [fM_worked_L34, if_neg (nI_ge (by omega) (by omega)), ck_in (by omega) (by omega), bnd_s, clampI (by omega), hw, pl 1, nI_add, ck_in (by omega) (by omega), bnd_s, clampI (by omega), show 80 + 200 * t + 2 * i + 1 = 81 + 200 * t + 2 * i by omega, hv]
    rw [dpF] at hdp
    rw [evF]
    unfold ev1
    have e2 : nI (80 + 200 * t + 2 * i) + nI 2 = nI (80 + 200 * t + 2 * (i + 1)) := by rw [nI_add]; congr 1
    rcases dcW_cases c with ⟨h1, hW⟩ | ⟨h1, h2, hW⟩ | ⟨h1, h2, hW⟩
    · rw [hW, if_pos rfl]
      rw [if_pos h1] at hdp
      simp only [if_pos h1]
      have hV : dcV k c = -c := by unfold dcV; rw [if_pos h1]
      by_cases h2 : c = -33
      · rw [if_pos h2] at hdp
        simp only [if_pos h2]
        by_cases h3 : 1 ≤ d
        · rw [if_pos h3] at hdp
          rw [hV, h2, if_pos (show -(-33 : Int32) = 33 by decide), pk_sub h3, ck_in (by omega) (by omega), clampI (by omega), ck_in (by omega) (by omega), ck_in (by omega) (by omega)]
          have key : ∀ v : Int32, ∃ μ', fM_worked_L34 k165 n (nI d) (nI (80 + 200 * t + 2 * cs0.length)) (nI (80 + 200 * t + 2 * (i + 1))) (up2 μ 30 (d - 1) v) = k165 μ' ∧ (∀ c, c ≠ 30 → μ' c = μ c) ∧ μ' 30 = evF f cs d (upd (μ 30) (d - 1) v) := fun v => by
            obtain ⟨μ', a1, a2, a3⟩ := ih (i + 1) d n (up2 μ 30 (d - 1) v) hdr2 (by omega) (by omega) hdp (by omega) (fun j hj => by rw [up2_n _ _ _ (by decide)]; exact hst j hj) (fun c2 h4 h5 h6 => by rw [up2_n _ _ _ (by decide)]; exact hnm c2 (List.mem_cons_of_mem _ h4) h5 h6)
            exact ⟨μ', a1, fun c2 h4 => by rw [a2 c2 h4, up2_n _ _ _ h4], by rw [a3, up2_s]⟩
          by_cases h4 : μ 30 (d - 1) = 0
          · rw [if_pos h4, if_pos h4, bnd_s, bnd_s, pl 2, e2]
            exact key 1
          · rw [if_neg h4, if_neg h4, bnd_s, bnd_s, pl 2, e2]
            exact key 0
        · rw [if_neg h3] at hdp; cases hdp
      · rw [if_neg h2] at hdp
        simp only [if_neg h2]
        by_cases h3 : 2 ≤ d ∧ (-c = 38 ∨ -c = 42 ∨ -c = 43 ∨ -c = 45 ∨ -c = 47 ∨ -c = 60 ∨ -c = 61 ∨ -c = 62 ∨ -c = 124)
        · rw [if_pos h3] at hdp
          obtain ⟨d, rfl⟩ : ∃ d', d = d' + 2 := ⟨d - 2, by omega⟩
          rw [hV, if_neg (neg_ne h2), bnd_s, pk_m1', pk_sub (by omega), ck_in (by omega) (by omega), ck_in (by omega) (by omega), M_joined μ h3.2, ob_s, clampI (by omega), clampI (by omega), ck_in (by omega) (by omega), bnd_s, bnd_s, pl 2, e2]
          obtain ⟨μ', a1, a2, a3⟩ := ih (i + 1) (d + 1) n (up2 μ 30 (d + 1 - 1) (jv (-c) (μ 30 (d + 1 - 1)) (μ 30 (d + 1)))) hdr2 (by omega) (by omega) hdp (by omega) (fun j hj => by rw [up2_n _ _ _ (by decide)]; exact hst j hj) (fun c2 h4 h5 h6 => by rw [up2_n _ _ _ (by decide)]; exact hnm c2 (List.mem_cons_of_mem _ h4) h5 h6)
          exact ⟨μ', a1, fun c2 h4 => by rw [a2 c2 h4, up2_n _ _ _ h4], by rw [a3, up2_s]; rfl⟩
        · rw [if_neg h3] at hdp; cases hdp
    · rw [hW, if_neg (by decide), if_neg (by decide)]
      rw [if_neg h1] at hdp
      simp only [if_neg h1]
      have hV : ∃ j : Nat, j < 128 ∧ dcV k c = nI j := by
        unfold dcV
        rw [if_neg h1, if_pos h2]
        split
        · exact nmC_in k 0
        · split
          · exact nmC_in k 1
          · exact nmC_in k 2
      obtain ⟨jv2, hj1, hj2⟩ := hV
      have hn2 := hnm c List.mem_cons_self h1 h2
      rw [hj2, ck_in hj1 (by omega), ck_in (by omega) (by omega), bnd_s, bnd_s, bnd_s, clampI (by omega), nI_add, pl 2, e2]
      rw [hj2] at hn2
      rw [hn2]
      obtain ⟨μ', a1, a2, a3⟩ := ih (i + 1) (d + 1) n (up2 μ 30 d (evN f c)) hdr2 (by omega) (by omega) hdp (by omega) (fun j hj => by rw [up2_n _ _ _ (by decide)]; exact hst j hj) (fun c2 h4 h5 h6 => by rw [up2_n _ _ _ (by decide)]; exact hnm c2 (List.mem_cons_of_mem _ h4) h5 h6)
      exact ⟨μ', a1, fun c2 h4 => by rw [a2 c2 h4, up2_n _ _ _ h4], by rw [a3, up2_s]⟩
    · rw [hW, if_neg (by decide), if_pos rfl]
      rw [if_neg h1] at hdp
      simp only [if_neg h1]
      have hV : dcV k c = evN f c := by unfold dcV evN; rw [if_neg h1, if_neg h2, if_neg h2]
      rw [hV, ck_in (by omega) (by omega), bnd_s, bnd_s, bnd_s, clampI (by omega), nI_add, pl 2, e2]
      obtain ⟨μ', a1, a2, a3⟩ := ih (i + 1) (d + 1) n (up2 μ 30 d (evN f c)) hdr2 (by omega) (by omega) hdp (by omega) (fun j hj => by rw [up2_n _ _ _ (by decide)]; exact hst j hj) (fun c2 h4 h5 h6 => by rw [up2_n _ _ _ (by decide)]; exact hnm c2 (List.mem_cons_of_mem _ h4) h5 h6)
      exact ⟨μ', a1, fun c2 h4 => by rw [a2 c2 h4, up2_n _ _ _ h4], by rw [a3, up2_s]⟩
theorem M_worked (f : Nat → Int32) (μ : MS) {t k o : Nat} {cs : List Int32} (ht : t < 14) (hT : TextAt (μ 1) t k o cs) (hw : WfT k o cs) (hnm : ∀ c ∈ cs, ¬ c < -3 → c < 0 → μ 29 (dcV k c).toNatClampNeg = evN f c) :
    ∃ μ', fM_worked μ (nI t) = some (evV f cs, μ') ∧ ∀ c, c ≠ 30 → μ' c = μ c := by
  obtain ⟨t1, t2, t3, t4⟩ := hT
  obtain ⟨w1, w2, w3, w4, w5, w6⟩ := hw
  unfold fM_worked
  rw [M_textAt, ob_s, ob_s, pl 2, nI_add, ck_in (by omega) (by omega), clampI (by omega), show 76 + 200 * t + 2 = 78 + 200 * t by omega, t3, bnd_s, ob_s, bnd_s, pl 4, nI_add, pk_mul, nI_add, show 76 + 200 * t + 4 + 2 * cs.length = 80 + 200 * t + 2 * cs.length by omega, show 76 + 200 * t + 4 = 80 + 200 * t + 2 * 0 by omega, show (0 : Int32) = nI 0 from rfl]
  obtain ⟨μ', a1, a2, a3⟩ := M_workedL (fun μ => some ((μ 30 0), μ)) f t k ht cs w3 1 cs 0 0 10000 μ rfl (by omega) (by omega) w4 (by omega) t4 hnm
  refine ⟨μ', ?_, a2⟩
  rw [a1, a3, evV_of w4]
