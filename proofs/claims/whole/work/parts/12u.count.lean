/-! towns counted -/
def bcV (x0 : Int32) : Int32 :=
  let v1 := x0 - (((x0).toUInt32 >>> (((1 : Int32)).toUInt32 &&& Int32.toUInt32 31)).toInt32 &&& (1431655765 : Int32))
  let v3 := (v1 &&& (858993459 : Int32)) + (((v1).toUInt32 >>> (((2 : Int32)).toUInt32 &&& Int32.toUInt32 31)).toInt32 &&& (858993459 : Int32))
  let v5 := (v3 + ((v3).toUInt32 >>> (((4 : Int32)).toUInt32 &&& Int32.toUInt32 31)).toInt32) &&& (252645135 : Int32)
  let v7 := v5 + ((v5).toUInt32 >>> (((8 : Int32)).toUInt32 &&& Int32.toUInt32 31)).toInt32
  let v9 := v7 + ((v7).toUInt32 >>> (((16 : Int32)).toUInt32 &&& Int32.toUInt32 31)).toInt32
  v9 &&& (63 : Int32)
theorem X_bits (σ : XS) (x : Int32) : fJ_bitCount_0f7a4 σ x = some (bcV x) := rfl
theorem tc_all : ∀ m : Fin 1024, ∀ t : Fin 10, (m.val ||| 2 ^ t.val) < 1024 ∧ (nI m.val ||| ((1 : Int32) <<< (nI t.val &&& 31))) = nI (m.val ||| 2 ^ t.val) ∧
    bcV (nI (m.val ||| 2 ^ t.val)) = bcV (nI m.val) + (if ((nI m.val >>> (nI t.val &&& 31)) &&& (1 : Int32)) = 0 then 1 else 0) := by decide +kernel
theorem B_townsL {σ : XS} {b : Nat} {μ : MS} {R : Option (List Int32)} {n x j : Nat} (h : BX σ b μ R n x j NoD) (kx km : Int32 → Option Int32) : ∀ (d i N1 N2 m : Nat), n - i = d → i ≤ 14 → d < N1 → d < N2 → m < 1024 →
    ∃ m', fB_townCount_L4 b σ kx N1 (nI m) (nI i) = kx (nI m') ∧ fM_manyTowns_L6 μ km N2 (nI m) (bcV (nI m)) (nI i) = km (bcV (nI m')) := by
  have hn := h.1.1
  intro d
  induction d with
  | zero =>
    intro i N1 N2 m hd hi h1 h2 hm
    obtain ⟨N1, rfl⟩ : ∃ m, N1 = m + 1 := ⟨N1 - 1, by omega⟩
    obtain ⟨N2, rfl⟩ : ∃ m, N2 = m + 1 := ⟨N2 - 1, by omega⟩
    refine ⟨m, ?_, ?_⟩
    · rw [fB_townCount_L4, B_n h, if_pos (nI_le (by omega) (by omega))]
    · rw [fM_manyTowns_L6, h.1.2.2.1, if_pos (nI_le (by omega) (by omega))]
  | succ d ih =>
    intro i N1 N2 m hd hi h1 h2 hm
    obtain ⟨N1, rfl⟩ : ∃ m, N1 = m + 1 := ⟨N1 - 1, by omega⟩
    obtain ⟨N2, rfl⟩ : ∃ m, N2 = m + 1 := ⟨N2 - 1, by omega⟩
    obtain ⟨kd, th, tn, mv, g1, g2, g3, g4, g5, g6, g7, g8⟩ := h.1.2.2.2.2.2.2.2 i (by omega)
    obtain ⟨t1, t2, t3⟩ := tc_all ⟨m, hm⟩ ⟨tn, by omega⟩
    have t1 : m ||| 2 ^ tn < 1024 := t1
    have t2 : nI m ||| ((1 : Int32) <<< (nI tn &&& 31)) = nI (m ||| 2 ^ tn) := t2
    have t3 : bcV (nI (m ||| 2 ^ tn)) = bcV (nI m) + (if ((nI m >>> (nI tn &&& 31)) &&& (1 : Int32)) = 0 then 1 else 0) := t3
    have eof : fM_of μ (nI i) (2 : Int32) = some (nI tn) := by
      rw [show fM_of μ (nI i) (2 : Int32) = some (μ 1 (20 + 4 * i + 2)) from M_of μ (w := 2) (by omega), show 20 + 4 * i + 2 = 22 + 4 * i by omega, g7]
    have nx := ih (i + 1) N1 N2 (m ||| 2 ^ tn) (by omega) (by omega) (by omega) (by omega) t1
    rw [fB_townCount_L4, B_n h, if_neg (nI_ge (by omega) (by omega)), ck_in (by omega) (by omega), clampI (by omega), (h.2.1.2.2.1 i (by omega)).2.2.1, g7, bnd_s, bnd_s, t2, nI_1]
    rw [fM_manyTowns_L6, h.1.2.2.1, if_neg (nI_ge (by omega) (by omega)), eof, ob_s]
    unfold fM_manyTowns_J35
    rw [eof]
    simp only [bnd_s, ob_s, nI_1, t2]
    by_cases e : ((nI m >>> (nI tn &&& 31)) &&& (1 : Int32)) = 0
    · rw [if_pos e] at t3 ⊢
      rw [t3] at nx
      exact nx
    · rw [if_neg e] at t3 ⊢
      rw [t3] at nx
      exact nx
theorem L_count : Ls_count Re := by
  intro σ μ x1 hRe
  obtain ⟨T, n, j, hT, hj, hB, hI, hSh, hSl, ⟨⟨L, l1, l2, l3⟩, hTp⟩, w, w1, w2, w3, w4⟩ := id hRe
  have hn := hB.1.1
  unfold fX_count fM_count
  by_cases h0 : x1 = 0
  · rw [if_pos h0, if_pos h0, B_n hB, hB.1.2.2.1]; exact ⟨_, rfl, rfl⟩
  rw [if_neg h0, if_neg h0]
  by_cases h1 : x1 = 1
  · rw [if_pos h1, if_pos h1, hB.2.1.1.2.2.2.1]; exact ⟨_, rfl, rfl⟩
  rw [if_neg h1, if_neg h1]
  by_cases h2 : x1 = 2
  · rw [if_pos h2, if_pos h2, hB.2.1.1.2.1]; exact ⟨_, rfl, rfl⟩
  rw [if_neg h2, if_neg h2]
  by_cases h3 : x1 = 3
  · obtain ⟨m, a1, a2⟩ := B_townsL hB (fun (x1 : Int32) => ob (fJ_bitCount_0f7a4 σ x1) fun r8 => some r8) (fun (x2 : Int32) => some x2) n 0 10000 10000 0 (by omega) (by omega) (by omega) (by omega) (by omega)
    rw [if_pos h3, if_pos h3]
    unfold fB_townCount fM_manyTowns
    rw [show fB_townCount_L4 0 σ _ 10000 (0 : Int32) (0 : Int32) = _ from a1, X_bits, ob_s, ob_s, show fM_manyTowns_L6 μ _ 10000 (0 : Int32) (0 : Int32) (0 : Int32) = _ from a2, ob_s]
    exact ⟨_, rfl, rfl⟩
  rw [if_neg h3, if_neg h3]
  by_cases h4 : x1 = 4
  · rw [if_pos h4, if_pos h4, hT.2.1, hT.1.1]; exact ⟨_, rfl, rfl⟩
  rw [if_neg h4, if_neg h4]
  by_cases h5 : x1 = 5
  · rw [if_pos h5, if_pos h5, w2, w3]; exact ⟨_, rfl, rfl⟩
  rw [if_neg h5, if_neg h5]
  by_cases h6 : x1 = 6
  · rw [if_pos h6, if_pos h6, l2, l3]; exact ⟨_, rfl, rfl⟩
  rw [if_neg h6, if_neg h6]
  by_cases h7 : x1 = 7
  · rw [if_pos h7, if_pos h7, hB.2.1.1.2.2.2.2]; exact ⟨_, rfl, rfl⟩
  rw [if_neg h7, if_neg h7]
  exact ⟨_, rfl, rfl⟩
