def sTm : Nat → Term := (fun i => match i with
      | 0 => Term.string "RoadSorted$Reader" 60
      | 1 => Term.string "RoadSorted$Reader" 66
      | 2 => Term.string "RoadSorted$Reader" 68
      | 3 => Term.string "RoadSorted$Law" 23
      | 4 => Term.string "RoadSorted$Law" 25
      | _ => Term.string "RoadSorted$Law" 27)
theorem flat_in {w : Cond} (i : Nat) (h : (flatC (Jvm.Cond.and given_1 narrow_1))[i]? = some w) : w ∈ flatC (Jvm.Cond.and given_1 narrow_1) := List.mem_of_getElem? h
theorem tbl_in {w : Cond} (i : Nat) (h : tables_1[i]? = some w) : w ∈ lw_tbl := List.mem_append_right _ (List.mem_of_getElem? h)
theorem xNF_in : ∀ q ∈ xNF, Cond.fieldLinkNest q.1 q.2.1 q.2.2.1 q.2.2.2.1 q.2.2.2.2.1 q.2.2.2.2.2 ∈ lw_tbl := by
  intro q hq
  simp only [xNF, List.mem_cons, List.not_mem_nil, or_false] at hq
  rcases hq with rfl | rfl | rfl | rfl | rfl | rfl | rfl | rfl | rfl | rfl | rfl | rfl | rfl | rfl | rfl | rfl | rfl | rfl | rfl | rfl | rfl | rfl | rfl | rfl | rfl | rfl | rfl
  · exact tbl_in 34 (by decide +kernel)
  · exact tbl_in 36 (by decide +kernel)
  · exact tbl_in 38 (by decide +kernel)
  · exact tbl_in 40 (by decide +kernel)
  · exact tbl_in 42 (by decide +kernel)
  · exact tbl_in 44 (by decide +kernel)
  · exact tbl_in 46 (by decide +kernel)
  · exact tbl_in 48 (by decide +kernel)
  · exact tbl_in 50 (by decide +kernel)
  · exact tbl_in 52 (by decide +kernel)
  · exact tbl_in 54 (by decide +kernel)
  · exact tbl_in 91 (by decide +kernel)
  · exact tbl_in 93 (by decide +kernel)
  · exact tbl_in 95 (by decide +kernel)
  · exact tbl_in 97 (by decide +kernel)
  · exact tbl_in 98 (by decide +kernel)
  · exact tbl_in 100 (by decide +kernel)
  · exact tbl_in 150 (by decide +kernel)
  · exact tbl_in 152 (by decide +kernel)
  · exact tbl_in 154 (by decide +kernel)
  · exact tbl_in 170 (by decide +kernel)
  · exact tbl_in 172 (by decide +kernel)
  · exact tbl_in 174 (by decide +kernel)
  · exact tbl_in 176 (by decide +kernel)
  · exact tbl_in 178 (by decide +kernel)
  · exact tbl_in 712 (by decide +kernel)
  · exact tbl_in 714 (by decide +kernel)
theorem xNM_in : ∀ q ∈ xNM, Cond.methodLinkNest q.1 q.2.1 q.2.2.1 q.2.2.2 ∈ lw_tbl := by
  intro q hq
  simp only [xNM, List.mem_cons, List.not_mem_nil, or_false] at hq
  rcases hq with rfl | rfl | rfl | rfl | rfl | rfl
  · exact tbl_in 29 (by decide +kernel)
  · exact tbl_in 86 (by decide +kernel)
  · exact tbl_in 145 (by decide +kernel)
  · exact tbl_in 163 (by decide +kernel)
  · exact tbl_in 168 (by decide +kernel)
  · exact tbl_in 271 (by decide +kernel)
set_option maxRecDepth 100000 in
theorem whole_env {s : State} {b : Nat} (hts : ∀ w ∈ lw_tbl, w.before #[Value.ref b] s = true) (hgv : (Jvm.Cond.and given_1 narrow_1).before #[Value.ref b] s = true) : ∃ (ak av : Nat → Nat), ∀ (G : XG), xaK G = ak → xaV G = av → xE G (fun q : Nat => s.heap.size ≤ q) s s.heap := by
  have hs := flat_of_before _ hgv
  have hA : ∀ a : Nat, a < s.heap.size → ¬ (fun q : Nat => s.heap.size ≤ q) a := fun a h => Nat.not_le.mpr h
  obtain ⟨ak, av, hS, hT⟩ := vk_Sof (args := #[Value.ref b]) (s := s) (N := 6) (tm := sTm) (len := xSl) (byt := xSb) (A := (fun q : Nat => s.heap.size ≤ q))
    (fun i h => match i, h with
      | 0, _ => by decide
      | 1, _ => by decide
      | 2, _ => by decide
      | 3, _ => by decide
      | 4, _ => by decide
      | 5, _ => by decide
      | k + 6, h => absurd h (by omega))
    (fun i h => match i, h with
      | 0, _ => hs _ (flat_in 33 (by decide +kernel))
      | 1, _ => hs _ (flat_in 41 (by decide +kernel))
      | 2, _ => hs _ (flat_in 49 (by decide +kernel))
      | 3, _ => hs _ (flat_in 59 (by decide +kernel))
      | 4, _ => hs _ (flat_in 69 (by decide +kernel))
      | 5, _ => hs _ (flat_in 79 (by decide +kernel))
      | k + 6, h => absurd h (by omega))
    (fun i h => match i, h with
      | 0, _ => hs _ (flat_in 34 (by decide +kernel))
      | 1, _ => hs _ (flat_in 42 (by decide +kernel))
      | 2, _ => hs _ (flat_in 50 (by decide +kernel))
      | 3, _ => hs _ (flat_in 60 (by decide +kernel))
      | 4, _ => hs _ (flat_in 70 (by decide +kernel))
      | 5, _ => hs _ (flat_in 80 (by decide +kernel))
      | k + 6, h => absurd h (by omega))
    (fun i h => match i, h with
      | 0, _ => hs _ (flat_in 35 (by decide +kernel))
      | 1, _ => hs _ (flat_in 43 (by decide +kernel))
      | 2, _ => hs _ (flat_in 51 (by decide +kernel))
      | 3, _ => hs _ (flat_in 61 (by decide +kernel))
      | 4, _ => hs _ (flat_in 71 (by decide +kernel))
      | 5, _ => hs _ (flat_in 81 (by decide +kernel))
      | k + 6, h => absurd h (by omega))
    (fun i h => match i, h with
      | 0, _ => hs _ (flat_in 36 (by decide +kernel))
      | 1, _ => hs _ (flat_in 44 (by decide +kernel))
      | 2, _ => hs _ (flat_in 52 (by decide +kernel))
      | 3, _ => hs _ (flat_in 62 (by decide +kernel))
      | 4, _ => hs _ (flat_in 72 (by decide +kernel))
      | 5, _ => hs _ (flat_in 82 (by decide +kernel))
      | k + 6, h => absurd h (by omega))
    (fun i h => match i, h with
      | 0, _ => (fun j hj => match j, hj with
        | 0, _ => hs _ (flat_in 37 (by decide +kernel))
        | 1, _ => hs _ (flat_in 38 (by decide +kernel))
        | 2, _ => hs _ (flat_in 39 (by decide +kernel))
        | 3, _ => hs _ (flat_in 40 (by decide +kernel))
        | k + 4, h => absurd h (by show ¬ k + 4 < 4; omega))
      | 1, _ => (fun j hj => match j, hj with
        | 0, _ => hs _ (flat_in 45 (by decide +kernel))
        | 1, _ => hs _ (flat_in 46 (by decide +kernel))
        | 2, _ => hs _ (flat_in 47 (by decide +kernel))
        | k + 3, h => absurd h (by show ¬ k + 3 < 3; omega))
      | 2, _ => (fun j hj => match j, hj with
        | 0, _ => hs _ (flat_in 53 (by decide +kernel))
        | 1, _ => hs _ (flat_in 54 (by decide +kernel))
        | 2, _ => hs _ (flat_in 55 (by decide +kernel))
        | 3, _ => hs _ (flat_in 56 (by decide +kernel))
        | k + 4, h => absurd h (by show ¬ k + 4 < 4; omega))
      | 3, _ => (fun j hj => match j, hj with
        | 0, _ => hs _ (flat_in 63 (by decide +kernel))
        | 1, _ => hs _ (flat_in 64 (by decide +kernel))
        | 2, _ => hs _ (flat_in 65 (by decide +kernel))
        | k + 3, h => absurd h (by show ¬ k + 3 < 3; omega))
      | 4, _ => (fun j hj => match j, hj with
        | 0, _ => hs _ (flat_in 73 (by decide +kernel))
        | 1, _ => hs _ (flat_in 74 (by decide +kernel))
        | k + 2, h => absurd h (by show ¬ k + 2 < 2; omega))
      | 5, _ => (fun j hj => match j, hj with
        | 0, _ => hs _ (flat_in 83 (by decide +kernel))
        | 1, _ => hs _ (flat_in 84 (by decide +kernel))
        | k + 2, h => absurd h (by show ¬ k + 2 < 2; omega))
      | k + 6, h => absurd h (by omega))
    (fun i j hi hj hn => match i, j, hi, hj, hn with
      | 0, 0, _, _, hn => absurd rfl hn
      | 0, 1, _, _, hn => Or.inl (hs _ (flat_in 48 (by decide +kernel)))
      | 0, 2, _, _, hn => Or.inl (hs _ (flat_in 57 (by decide +kernel)))
      | 0, 3, _, _, hn => Or.inl (hs _ (flat_in 66 (by decide +kernel)))
      | 0, 4, _, _, hn => Or.inl (hs _ (flat_in 75 (by decide +kernel)))
      | 0, 5, _, _, hn => Or.inl (hs _ (flat_in 85 (by decide +kernel)))
      | 1, 0, _, _, hn => Or.inr (hs _ (flat_in 48 (by decide +kernel)))
      | 1, 1, _, _, hn => absurd rfl hn
      | 1, 2, _, _, hn => Or.inl (hs _ (flat_in 58 (by decide +kernel)))
      | 1, 3, _, _, hn => Or.inl (hs _ (flat_in 67 (by decide +kernel)))
      | 1, 4, _, _, hn => Or.inl (hs _ (flat_in 76 (by decide +kernel)))
      | 1, 5, _, _, hn => Or.inl (hs _ (flat_in 86 (by decide +kernel)))
      | 2, 0, _, _, hn => Or.inr (hs _ (flat_in 57 (by decide +kernel)))
      | 2, 1, _, _, hn => Or.inr (hs _ (flat_in 58 (by decide +kernel)))
      | 2, 2, _, _, hn => absurd rfl hn
      | 2, 3, _, _, hn => Or.inl (hs _ (flat_in 68 (by decide +kernel)))
      | 2, 4, _, _, hn => Or.inl (hs _ (flat_in 77 (by decide +kernel)))
      | 2, 5, _, _, hn => Or.inl (hs _ (flat_in 87 (by decide +kernel)))
      | 3, 0, _, _, hn => Or.inr (hs _ (flat_in 66 (by decide +kernel)))
      | 3, 1, _, _, hn => Or.inr (hs _ (flat_in 67 (by decide +kernel)))
      | 3, 2, _, _, hn => Or.inr (hs _ (flat_in 68 (by decide +kernel)))
      | 3, 3, _, _, hn => absurd rfl hn
      | 3, 4, _, _, hn => Or.inl (hs _ (flat_in 78 (by decide +kernel)))
      | 3, 5, _, _, hn => Or.inl (hs _ (flat_in 88 (by decide +kernel)))
      | 4, 0, _, _, hn => Or.inr (hs _ (flat_in 75 (by decide +kernel)))
      | 4, 1, _, _, hn => Or.inr (hs _ (flat_in 76 (by decide +kernel)))
      | 4, 2, _, _, hn => Or.inr (hs _ (flat_in 77 (by decide +kernel)))
      | 4, 3, _, _, hn => Or.inr (hs _ (flat_in 78 (by decide +kernel)))
      | 4, 4, _, _, hn => absurd rfl hn
      | 4, 5, _, _, hn => Or.inl (hs _ (flat_in 89 (by decide +kernel)))
      | 5, 0, _, _, hn => Or.inr (hs _ (flat_in 85 (by decide +kernel)))
      | 5, 1, _, _, hn => Or.inr (hs _ (flat_in 86 (by decide +kernel)))
      | 5, 2, _, _, hn => Or.inr (hs _ (flat_in 87 (by decide +kernel)))
      | 5, 3, _, _, hn => Or.inr (hs _ (flat_in 88 (by decide +kernel)))
      | 5, 4, _, _, hn => Or.inr (hs _ (flat_in 89 (by decide +kernel)))
      | 5, 5, _, _, hn => absurd rfl hn
      | k + 6, _, h, _, _ => absurd h (by omega)
      | 0, k + 6, _, h, _ => absurd h (by omega)
      | 1, k + 6, _, h, _ => absurd h (by omega)
      | 2, k + 6, _, h, _ => absurd h (by omega)
      | 3, k + 6, _, h, _ => absurd h (by omega)
      | 4, k + 6, _, h, _ => absurd h (by omega)
      | 5, k + 6, _, h, _ => absurd h (by omega)) hA
  refine ⟨ak, av, fun G hk hv => ?_⟩
  refine ⟨fun q hq => va_Nw.of rfl (hts _ (xNF_in q hq)), fun q hq => va_Nw.of rfl (hts _ (xNM_in q hq)), by rw [hk, hv]; exact hS, fun k q hq => ?_, ?_, ?_⟩
  · rw [hk]
    match k, hq with
    | 0, hq => cases hq; exact vk_R.of (hts _ (tbl_in 529 (by decide +kernel))) (hT 0 (by decide))
    | 1, hq => cases hq; exact vk_R.of (hts _ (tbl_in 582 (by decide +kernel))) (hT 1 (by decide))
    | 2, hq => cases hq; exact vk_R.of (hts _ (tbl_in 583 (by decide +kernel))) (hT 2 (by decide))
    | 3, hq => cases hq; exact vk_R.of (hts _ (tbl_in 616 (by decide +kernel))) (hT 3 (by decide))
    | 4, hq => cases hq; exact vk_R.of (hts _ (tbl_in 617 (by decide +kernel))) (hT 4 (by decide))
    | 5, hq => cases hq; exact vk_R.of (hts _ (tbl_in 618 (by decide +kernel))) (hT 5 (by decide))
    | k + 6, hq => cases hq
  · exact va_Zof (hts _ (tbl_in 543 (by decide +kernel))) (hts _ (tbl_in 12 (by decide +kernel))) (va_eqi (hs _ (flat_in 4 (by decide +kernel)))) hA
  · exact va_Zqof (hts _ (tbl_in 559 (by decide +kernel))) (hts _ (tbl_in 14 (by decide +kernel))) (hs _ (flat_in 5 (by decide +kernel))) hA
set_option maxHeartbeats 4000000 in
set_option maxRecDepth 100000 in
/-- THE LAW, from its entry, over a relation that holds at the start and that every call keeps -/
theorem start_of {Re : XS → MS → Prop} (h0 : Re σi μi) (hSt_letter : Ls_letter Re) (hSt_told : Ls_told Re) (hSt_as : Ls_as Re) (hSt_turns : Ls_turns Re) (hSt_set : Ls_set Re) (hSt_puts : Ls_puts Re) (hSt_at : Ls_at Re) (hSt_halt : Ls_halt Re) (hSt_bump : Ls_bump Re) (hSt_deal : Ls_deal Re) (hSt_seed : Ls_seed Re) (hSt_jolts : Ls_jolts Re) (hSt_bag : Ls_bag Re) (hSt_behind : Ls_behind Re) (hSt_rests : Ls_rests Re) (hSt_padding : Ls_padding Re) (hSt_stays : Ls_stays Re) (hSt_bundle : Ls_bundle Re) (hSt_halts : Ls_halts Re) (hSt_miles : Ls_miles Re) (hSt_fee : Ls_fee Re) (hSt_fine : Ls_fine Re) (hSt_feed : Ls_feed Re) (hSt_trim : Ls_trim Re) (hSt_text : Ls_text Re) (hSt_textTold : Ls_textTold Re) (hSt_why : Ls_why Re) (hSt_sheet : Ls_sheet Re) (hSt_mark : Ls_mark Re) (hSt_pour : Ls_pour Re) (hSt_reads : Ls_reads Re) (hSt_copy : Ls_copy Re) (hSt_lay : Ls_lay Re) (hSt_ask : Ls_ask Re) (hSt_item : Ls_item Re) (hSt_rest : Ls_rest Re) (hSt_tell : Ls_tell Re) (hSt_check : Ls_check Re) (hSt_keep : Ls_keep Re) (hSt_back : Ls_back Re) (hSt_count : Ls_count Re) {p : Program} {e : Env} {s : State} {m : MethodId} {below : List Frame} {meth : Method} {c : Code} (l : Launch) {b L : Nat} {xs : Nat → Int32} (hL : L ≤ 3072) (C0 : lw_At p s m meth c b L xs) : W p l e room_1 s m #[Value.ref b] below meth c s.heap [] 0 0 (lw_Z below #[Value.ref b] s) (entryFrame m ([Value.ref b] : List Value).toArray 4) := by
  obtain ⟨hx, hb, hr, hml, hown, hts0, hX, hbl, hlocks, hgv⟩ := C0
  have hts : ∀ w ∈ Tw, w.before #[Value.ref b] s = true := fun w hw => hts0 w (List.mem_filter.mp hw).1
  have hC : jC p s m #[Value.ref b] meth c cL_law 4 RL := ⟨⟨hx, hb, hml, hown, hts⟩, hlocks⟩
  have hb : c.code = cL_law := hb
  have hA : ∀ q : Nat, s.heap.size ≤ q → (fun q : Nat => s.heap.size ≤ q) q := fun _ h => h
  obtain ⟨c0, iS0, hKn0⟩ := u_known (C := RX0) (T := TX0) (N := 12) (n := 12) hts wyX0 (hts _ wiX0)
  obtain ⟨c1, iS1, hKn1⟩ := u_known (C := RX2) (T := TX2) (N := 4) (n := 4) hts wyX2 (hts _ wiX2)
  obtain ⟨c2, iS2, hKn2⟩ := u_known (C := RX3) (T := TX3) (N := 7) (n := 7) hts wyX3 (hts _ wiX3)
  obtain ⟨c3, iS3, hKn3⟩ := u_known (C := RX4) (T := TX4) (N := 3) (n := 3) hts wyX4 (hts _ wiX4)
  obtain ⟨c4, iS4, hKn4⟩ := u_known (C := RX5) (T := TX5) (N := 5) (n := 5) hts wyX5 (hts _ wiX5)
  obtain ⟨c5, iS5, hKn5⟩ := u_known (C := RX6) (T := TX6) (N := 5) (n := 5) hts wyX6 (hts _ wiX6)
  obtain ⟨c6, iS6, hKn6⟩ := u_known (C := RX7) (T := TX7) (N := 14) (n := 14) hts wyX7 (hts _ wiX7)
  obtain ⟨c7, iS7, hKn7⟩ := u_known (C := RX8) (T := TX8) (N := 34) (n := 34) hts wyX8 (hts _ wiX8)
  obtain ⟨D, hKc⟩ : ∃ (D : va_G), ∀ (k : Nat) (q : vw_C), vwCl[k]? = some q → u_Kn s q.1 q.2.1 q.2.2 (D.1 k) (D.2 k) := by
    refine ⟨(fun k => if k = 0 then c0 else if k = 1 then c1 else if k = 2 then c2 else if k = 3 then c3 else if k = 4 then c4 else if k = 5 then c5 else if k = 6 then c6 else c7, fun k => if k = 0 then iS0 else if k = 1 then iS1 else if k = 2 then iS2 else if k = 3 then iS3 else if k = 4 then iS4 else if k = 5 then iS5 else if k = 6 then iS6 else iS7), ?_⟩
    intro k q hq
    match k, hq with
    | 0, hq => cases hq; exact hKn0
    | 1, hq => cases hq; exact hKn1
    | 2, hq => cases hq; exact hKn2
    | 3, hq => cases hq; exact hKn3
    | 4, hq => cases hq; exact hKn4
    | 5, hq => cases hq; exact hKn5
    | 6, hq => cases hq; exact hKn6
    | 7, hq => cases hq; exact hKn7
    | k + 8, hq => simp [vwCl] at hq
  obtain ⟨cI, kA, comp, hc1, hc2, hc3⟩ := Cond.arrayClass_spec (show (Cond.arrayClass .int).holds #[Value.ref b] s none s [] = true from hts _ wa_int)
  have hK : va_K D vwCl [(cI, .int)] s := ⟨hKc, fun k q hk => by
    match k, hk with
    | 0, hk => cases hk; exact ⟨fun n z => ⟨fun k h => (by cases h), kA, hc2, comp, hc3⟩, hc1⟩
    | k + 1, hk => simp at hk⟩
  have hN : eN s := ⟨fun q hq => va_Nw.of rfl (hts0 _ (xNM_in q hq)), va_AO.of (hts0 _ (tbl_in 83 (by decide +kernel))), va_AO.of (hts0 _ (tbl_in 141 (by decide +kernel))), va_AO.of (hts0 _ (tbl_in 143 (by decide +kernel)))⟩
  obtain ⟨ak, av, hEnv⟩ := whole_env hts0 hgv
  have hS : va_S (fun q : Nat => s.heap.size ≤ q) s.heap s.heap [] := va_S.rf
  have hP : va_P D vwCl [] s.heap := fun k q h => by simp at h
  have hD : va_D (fun q : Nat => s.heap.size ≤ q) [] := ⟨fun i j p q h => by simp at h, fun k q h => by simp at h⟩
  have hl := lv_entry ([.ref b]) (n := 4) (Nat.le_of_ble_eq_true rfl)
  rw [lg_entry_eq]
  generalize (lg_sl ([.ref b]) ++ List.replicate (4 - (lg_sl ([.ref b])).length) Slot.unset).toArray = ls at hl ⊢
  have hl : lv_has ls 4 [(0, .ref b)] := hl
  refine va_new (ci := 6) (fs := [.null, .null, .null, .null, .int 0, .null, .int 0, .int 0, .null, .null, .null, .null, .null, .int 0]) (C := RX7) (T := TX7) (N := 14) hx hb hts wyX7 tyX7 tyX7_ok hown (hts _ wlL_7) (hts _ wiX7) (hts _ wzX7) hK hP hD hS hA rfl (fun j hj => by rcases (show j = 0 ∨ j = 1 ∨ j = 2 ∨ j = 3 ∨ j = 4 ∨ j = 5 ∨ j = 6 ∨ j = 7 ∨ j = 8 ∨ j = 9 ∨ j = 10 ∨ j = 11 ∨ j = 12 ∨ j = 13 by omega) with rfl | rfl | rfl | rfl | rfl | rfl | rfl | rfl | rfl | rfl | rfl | rfl | rfl | rfl <;> rfl) (by show _ ≤ 600000; omega) (by show _ ≤ 7302250; omega) dL_law_0 (fun qx H1 hP hD hS => ?_)
  have hP : va_P D vwCl [(qx, .inr (6, [.null, .null, .null, .null, .int 0, .null, .int 0, .int 0, .null, .null, .null, .null, .null, .int 0]))] H1 := hP
  have hD : va_D (fun q : Nat => s.heap.size ≤ q) [(qx, .inr (6, [.null, .null, .null, .null, .int 0, .null, .int 0, .int 0, .null, .null, .null, .null, .null, .int 0]))] := hD
  refine W.widen (k := 100) (n := 2000) (Nat.le_of_ble_eq_true rfl) (Nat.le_of_ble_eq_true rfl) ?_
  refine lv_dup hx hb dL_law_3 rfl ?_
  have hFc := va_free (wc := [(qx, .inr (6, [.null, .null, .null, .null, .int 0, .null, .int 0, .int 0, .null, .null, .null, .null, .null, .int 0]))]) hD hS hA [0] rfl
  refine va_callv (va_runI (As := []) (rest := [.ref qx]) hC.1 (eX7_init l D cI qx ak av H1.size) (cwI 0 hts (gC wnX7_init.2.2) rfl rfl rfl (hts _ wnX7_init.2.1) (hts _ wmL_9) (hts _ wnX7_init.1) rfl hdX7_init ⟨Nat.le_of_ble_eq_true rfl, Nat.le_of_ble_eq_true rfl⟩) ⟨e_blind, fun U hU hW => ⟨rfl, by rw [hU], by rw [hU]; exact hP, va_K.moved hW.alike hK, hD.weaken (fun _ _ _ _ => trivial), eN_warm hW hN⟩⟩ rfl rfl hl.1 rfl (lv_room (Nat.le_of_ble_eq_true rfl)) dL_law_4 ⟨Nat.le_of_ble_eq_true rfl, Nat.le_of_ble_eq_true rfl⟩) hS (fun q _ h => hFc q h) hFc (fun u t H2 locs2 ht hvm hw hB hz1 hk1 hS => ?_)
  obtain ⟨G, gD, gK, gA, gk, gv, hP2, hK2, hD2⟩ := hB
  rw [ht] at hP2
  have hK2 := va_K.moved hvm.symm hK2
  subst gD; subst gK; subst gA
  have hE := hEnv G gk gv
  have hPx := hP2
  have hDx : va_D (fun q : Nat => s.heap.size ≤ q) (xW G σi) := hD2.weaken (fun _ q _ h => hFc _ h)
  have hP := hPx
  have hD := hDx
  have hK := hK2
  refine W.widen (k := 200) (n := 3000) (Nat.le_of_ble_eq_true rfl) (Nat.le_of_ble_eq_true rfl) ?_
  refine lv_astore_n (lv' := [(1, .ref (xA G 0)), (0, .ref b)]) hx hb dL_law_7 rfl hl (by decide) rfl (fun ls hl => ?_)
  refine va_new (ci := 7) (fs := [.null, .null, .null, .int 0, .null, .null, .null, .null, .null, .null, .null, .null, .int 0, .null, .null, .null, .null, .int 0, .int 0, .int 0, .int 0, .int 0, .int 0, .int 0, .int 0, .int 0, .int 0, .int 0, .null, .null, .null, .null, .int 0, .null]) (C := RX8) (T := TX8) (N := 34) hx hb hts wyX8 tyX8 tyX8_ok hown (hts _ wlL_10) (hts _ wiX8) (hts _ wzX8) hK hP hD hS hA rfl (fun j hj => by rcases (show j = 0 ∨ j = 1 ∨ j = 2 ∨ j = 3 ∨ j = 4 ∨ j = 5 ∨ j = 6 ∨ j = 7 ∨ j = 8 ∨ j = 9 ∨ j = 10 ∨ j = 11 ∨ j = 12 ∨ j = 13 ∨ j = 14 ∨ j = 15 ∨ j = 16 ∨ j = 17 ∨ j = 18 ∨ j = 19 ∨ j = 20 ∨ j = 21 ∨ j = 22 ∨ j = 23 ∨ j = 24 ∨ j = 25 ∨ j = 26 ∨ j = 27 ∨ j = 28 ∨ j = 29 ∨ j = 30 ∨ j = 31 ∨ j = 32 ∨ j = 33 by omega) with rfl | rfl | rfl | rfl | rfl | rfl | rfl | rfl | rfl | rfl | rfl | rfl | rfl | rfl | rfl | rfl | rfl | rfl | rfl | rfl | rfl | rfl | rfl | rfl | rfl | rfl | rfl | rfl | rfl | rfl | rfl | rfl | rfl | rfl <;> rfl) (by show _ ≤ 600000; omega) (by show _ ≤ 7302250; omega) dL_law_8 (fun qm H3 hP hD hS => ?_)
  refine W.widen (k := 300) (n := 4000) (Nat.le_of_ble_eq_true rfl) (Nat.le_of_ble_eq_true rfl) ?_
  refine lv_dup hx hb dL_law_11 rfl ?_
  have hPm : va_P (xD G) vwCl [(qm, .inr (7, [.null, .null, .null, .int 0, .null, .null, .null, .null, .null, .null, .null, .null, .int 0, .null, .null, .null, .null, .int 0, .int 0, .int 0, .int 0, .int 0, .int 0, .int 0, .int 0, .int 0, .int 0, .int 0, .null, .null, .null, .null, .int 0, .null]))] H3 := hP.sub [60] rfl
  have hDm : va_D (fun q : Nat => s.heap.size ≤ q) [(qm, .inr (7, [.null, .null, .null, .int 0, .null, .null, .null, .null, .null, .null, .null, .null, .int 0, .null, .null, .null, .null, .int 0, .int 0, .int 0, .int 0, .int 0, .int 0, .int 0, .int 0, .int 0, .int 0, .int 0, .null, .null, .null, .null, .int 0, .null]))] := hD.sub [60] (by decide) rfl
  have hKm : va_K (xD G) vwCl [(xK G 0, .int)] s := hK.sub [0] rfl
  have hFm : ∀ q, va_A [(qm, .inr (7, [.null, .null, .null, .int 0, .null, .null, .null, .null, .null, .null, .null, .null, .int 0, .null, .null, .null, .null, .int 0, .int 0, .int 0, .int 0, .int 0, .int 0, .int 0, .int 0, .int 0, .int 0, .int 0, .null, .null, .null, .null, .int 0, .null]))] H3.size q → (fun q : Nat => s.heap.size ≤ q) q := va_free hD hS hA [60] rfl
  have hPx3 : va_P (xD G) vwCl (xW G σi) H3 := fun k q hq => hP k q (by rw [List.getElem?_append_left (List.getElem?_eq_some_iff.mp hq).1]; exact hq)
  have hne : ∀ (k : Nat) (q : Nat × va_E), (xW G σi)[k]? = some q → q.1 ≠ qm := fun k q hq e => by
    have hlt := (List.getElem?_eq_some_iff.mp hq).1
    have h1 := hD.1 k 60 q (qm, .inr (7, [.null, .null, .null, .int 0, .null, .null, .null, .null, .null, .null, .null, .null, .int 0, .null, .null, .null, .null, .int 0, .int 0, .int 0, .int 0, .int 0, .int 0, .int 0, .int 0, .int 0, .int 0, .int 0, .null, .null, .null, .null, .int 0, .null])) (by rw [List.getElem?_append_left hlt]; exact hq) rfl e
    have h2 : (xW G σi).length = 60 := rfl
    omega
  refine va_callv (va_runI (As := []) (rest := [.ref qm]) hC.1 (eX8_init l (xD G) (xK G 0) qm H3.size) (cwI 0 hts (gC wnX8_init.2.2) rfl rfl rfl (hts _ wnX8_init.2.1) (hts _ wmL_12) (hts _ wnX8_init.1) rfl hdX8_init ⟨Nat.le_of_ble_eq_true rfl, Nat.le_of_ble_eq_true rfl⟩) ⟨e_blind, fun U hU hW => ⟨rfl, by rw [hU], by rw [hU]; exact hPm, va_K.moved hW.alike hKm, hDm.weaken (fun _ _ _ _ => trivial), eN_warm hW hN⟩⟩ rfl rfl hl.1 rfl (lv_room (Nat.le_of_ble_eq_true rfl)) dL_law_12 ⟨Nat.le_of_ble_eq_true rfl, Nat.le_of_ble_eq_true rfl⟩) hS (fun q _ h => hFm q h) hFm (fun u t4 H4 locs4 ht4 hvm4 hw4 hB4 hz4 hk4 hS => ?_)
  obtain ⟨B, hB0, hP4, hK4, hD4⟩ := hB4
  rw [ht4] at hP4
  subst hB0
  have hH : lH G B s (fun q : Nat => s.heap.size ≤ q) σi μi H4 locs4 := by
    refine ⟨⟨hPx3.kept (fun k q hq => hk4 q.1 (hPx3 k q hq).lt (fun h => ?_)), hDx, hS, hA, hK2, hE⟩, ⟨hP4, hD4.weaken (fun _ q _ h => hFm _ h), hS, hA, hKm⟩, fun i j x y hx hy e => ?_⟩
    · rcases h with ⟨k2, e2, h2⟩ | h2
      · match k2, h2 with
        | 0, h2 => exact hne k q hq (congrArg (fun z => (Option.getD z (0, .inr (0, []))).1) h2).symm
        | k2 + 1, h2 => cases h2
      · have := (hPx3 k q hq).lt
        omega
    · rcases hD4.2 j y hy with ⟨k2, e2, h2⟩ | h2
      · match k2, h2 with
        | 0, h2 =>
          have h3 : B 0 = y.1 := (congrArg (fun z => (Option.getD z (0, .inr (0, []))).1) h2)
          exact hne i x hx (e.trans h3.symm)
        | k2 + 1, h2 => cases h2
      · have := (hPx3 i x hx).lt
        omega
  refine W.widen (k := 400) (n := 30000) (Nat.le_of_ble_eq_true rfl) (Nat.le_of_ble_eq_true rfl) ?_
  refine lv_astore_n (lv' := [(2, .ref (B 0)), (1, .ref (xA G 0)), (0, .ref b)]) hx hb dL_law_15 rfl hl (by decide) rfl (fun ls hl => ?_)
  refine lv_iconst (v := 0) hx hb dL_law_16 (by decide) ?_
  refine lv_istore_n (lv' := [(3, .int 0), (2, .ref (B 0)), (1, .ref (xA G 0)), (0, .ref b)]) hx hb dL_law_17 rfl hl (by decide) rfl (fun ls hl => ?_)
  exact law_loop hL hC hX hbl hr hSt_letter hSt_told hSt_as hSt_turns hSt_set hSt_puts hSt_at hSt_halt hSt_bump hSt_deal hSt_seed hSt_jolts hSt_bag hSt_behind hSt_rests hSt_padding hSt_stays hSt_bundle hSt_halts hSt_miles hSt_fee hSt_fine hSt_feed hSt_trim hSt_text hSt_textTold hSt_why hSt_sheet hSt_mark hSt_pour hSt_reads hSt_copy hSt_lay hSt_ask hSt_item hSt_rest hSt_tell hSt_check hSt_keep hSt_back hSt_count 513 0 0 nI_0.symm (Nat.zero_le L) (by omega) σi μi h0 400 30000 (by omega) (by omega) H4 locs4 ls hH (lv_sub hl [3, 2, 1, 0] rfl)
