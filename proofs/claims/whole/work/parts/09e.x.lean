def rmR_isText : Room := { frames := 141, cells := 0, slots := 0, locals := 5224 }
theorem hdX3_isText : yX3_isText.cls = RX3 ∧ yX3_isText.cls ≠ "java/lang/invoke/MethodHandle" ∧ yX3_isText.cls ≠ "java/lang/invoke/VarHandle" ∧ (parseMethodDescriptor yX3_isText.desc).map (fun d => d.parameters.length) = some 0 := by decide +kernel

def fR_isText (σ0 : XS) : Option (Int32 × XS) :=
  bnd (xu σ0 6 2 (0 : Int32)) fun σ1 =>
  bnd (xu σ1 6 4 (0 : Int32)) fun σ3 =>
  bnd (xu σ3 6 5 (0 : Int32)) fun σ5 =>
  bnd (xu σ5 6 6 (0 : Int32)) fun σ7 =>
  ob (fT_rewind σ7) fun σ10 =>
  ob2 (fR_isKey σ10) fun r12 σ13 =>
  if r12 = 0 then (
    some ((0 : Int32), σ13))
  else (
    ob2 (gR_isChain 120 σ13 (0 : Int32)) fun r16 σ17 =>
    if r16 = 0 then (
      some ((0 : Int32), σ17))
    else (
      if (xi σ17 5 2) = 0 then (
        some ((1 : Int32), σ17))
      else (
        some ((0 : Int32), σ17))))

set_option maxHeartbeats 4000000 in
set_option maxRecDepth 100000 in
theorem cR_isText (l : Launch) (G : XG) (σ0 : XS) {r : Int32} {σr : XS} (h : fR_isText σ0 = some (r, σr)) : ∀ sz, Met l yX3_isText (Cond.code yX3_isText cX3_isText 1 (some .boolean) :: Tw) rmR_isText (xP G σ0 sz [.ref (xA G 7)]) (xQi G σ0 sz σr r) 0 0 (va_A (xW G σ0) sz) := by
  intro sz
  refine Met.ofW (cc := cX3_isText) (maxL := 1) (ret := (some .boolean)) (by decide) rfl ?_
  intro p e s m args below meth c s₁ Bd hml hv
  obtain ⟨hC, hr⟩ := jC_of Bd hml
  obtain ⟨rfl, rfl, hH⟩ := x_enter hv
  have hC : jC p s m _ meth c cX3_isText 1 RX3 := hC
  have hx := hC.1.1
  have hb := hC.1.2.1
  have hown := hC.1.2.2.2.1
  have hts := hC.1.2.2.2.2
  have hl := lv_entry ([.ref (xA G 7)]) (n := 1) (Nat.le_of_ble_eq_true rfl)
  rw [lg_entry_eq]
  generalize (lg_sl ([.ref (xA G 7)]) ++ List.replicate (1 - (lg_sl ([.ref (xA G 7)])).length) Slot.unset).toArray = ls at hl ⊢
  have hl : lv_has ls 1 [(0, .ref (xA G 7))] := hl
  unfold fR_isText at h
  refine W_nm (fun H locs eH eL => ?_)
  have hH : xH G s (va_A (xW G σ0) s.heap.size) σ0 H locs := by rw [eH, eL]; exact hH
  show W p l e rmR_isText s m _ below meth c H locs 0 0 _ (F0 m 0 ls [])
  refine lv_aload_n hx hb dX3_isText_0 rfl (lv_at hl 0 rfl) ?_
  refine lv_iconst (v := 0) hx hb dX3_isText_1 (by decide) ?_
  obtain ⟨σ1, e2, h⟩ := bnd_some h
  refine x_put (C := RX3) (T := TX3) (N := 7) (ty := .int) (v := .int (0 : Int32)) hC hH (xe_R G σ0) rfl wyX3 tyX3_ok nmX3 2 (by decide) wfX3_15 rfl rfl (by decide +kernel) rfl rfl (Nat.le_of_ble_eq_true rfl) e2 (xs_R_2 G σ0 _) dX3_isText_2 (fun H locs hH => ?_)
  refine lv_aload_n hx hb dX3_isText_5 rfl (lv_at hl 0 rfl) ?_
  refine lv_iconst (v := 0) hx hb dX3_isText_6 (by decide) ?_
  obtain ⟨σ3, e4, h⟩ := bnd_some h
  refine x_put (C := RX3) (T := TX3) (N := 7) (ty := .int) (v := .int (0 : Int32)) hC hH (xe_R G σ1) rfl wyX3 tyX3_ok nmX3 4 (by decide) wfX3_24 rfl rfl (by decide +kernel) rfl rfl (Nat.le_of_ble_eq_true rfl) e4 (xs_R_4 G σ1 _) dX3_isText_7 (fun H locs hH => ?_)
  refine lv_aload_n hx hb dX3_isText_10 rfl (lv_at hl 0 rfl) ?_
  refine lv_iconst (v := 0) hx hb dX3_isText_11 (by decide) ?_
  obtain ⟨σ5, e6, h⟩ := bnd_some h
  refine x_put (C := RX3) (T := TX3) (N := 7) (ty := .int) (v := .int (0 : Int32)) hC hH (xe_R G σ3) rfl wyX3 tyX3_ok nmX3 5 (by decide) wfX3_27 rfl rfl (by decide +kernel) rfl rfl (Nat.le_of_ble_eq_true rfl) e6 (xs_R_5 G σ3 _) dX3_isText_12 (fun H locs hH => ?_)
  refine lv_aload_n hx hb dX3_isText_15 rfl (lv_at hl 0 rfl) ?_
  refine lv_iconst (v := 0) hx hb dX3_isText_16 (by decide) ?_
  obtain ⟨σ7, e8, h⟩ := bnd_some h
  refine x_put (C := RX3) (T := TX3) (N := 7) (ty := .int) (v := .int (0 : Int32)) hC hH (xe_R G σ5) rfl wyX3 tyX3_ok nmX3 6 (by decide) wfX3_30 rfl rfl (by decide +kernel) rfl rfl (Nat.le_of_ble_eq_true rfl) e8 (xs_R_6 G σ5 _) dX3_isText_17 (fun H locs hH => ?_)
  refine lv_aload_n hx hb dX3_isText_20 rfl (lv_at hl 0 rfl) ?_
  refine x_get (C := RX3) (T := TX3) (N := 7) (v := .ref (xA G 6)) hC hH (xe_R G σ7) rfl wyX3 0 (by decide) wfX3_33 rfl rfl dX3_isText_21 ?_
  obtain ⟨σ10, h9, h⟩ := ob_some h
  refine x_callv (vw := (RX6, TX6, 5)) (As := []) (rest := []) (cT_rewind l G σ7  h9) hC hH hl (xe_T G σ7) rfl (cwV 0 hts (gV wmX3_37 wvX6_rewind) rfl rfl rfl hdX6_rewind ⟨Nat.le_of_ble_eq_true rfl, Nat.le_of_ble_eq_true rfl⟩) rfl rfl (Nat.le_of_ble_eq_true rfl) ⟨Nat.zero_le _, Nat.zero_le _⟩ dX3_isText_24 (fun H locs hH => ?_)
  refine lv_aload_n hx hb dX3_isText_27 rfl (lv_at hl 0 rfl) ?_
  obtain ⟨r12, σ13, h11, h⟩ := ob2_some h
  refine x_calli (vw := (RX3, TX3, 7)) (As := []) (rest := []) (cR_isKey l G σ10  h11) hC hH hl (xe_R G σ10) rfl (cwV 0 hts (gV wmX3_40 wvX3_isKey) rfl rfl rfl hdX3_isKey ⟨Nat.le_of_ble_eq_true rfl, Nat.le_of_ble_eq_true rfl⟩) rfl rfl (Nat.le_of_ble_eq_true rfl) ⟨Nat.zero_le _, Nat.zero_le _⟩ dX3_isText_28 (fun H locs hH => ?_)
  refine lv_if_eq (tgt := 56) hx hb dX3_isText_31 (by decide) (fun c14 => ?_) (fun c14 => ?_)
  · have h := ite_t c14 h
    refine lv_iconst (v := 0) hx hb dX3_isText_56 (by decide) ?_
    obtain ⟨rfl, rfl⟩ := some_i2 h
    exact x_iret (v := 0) hC hH hr (by decide) dX3_isText_57
  · have h := ite_f c14 h
    refine lv_aload_n hx hb dX3_isText_34 rfl (lv_at hl 0 rfl) ?_
    refine lv_iconst (v := 0) hx hb dX3_isText_35 (by decide) ?_
    obtain ⟨r16, σ17, h15, h⟩ := ob2_some h
    refine x_calli (vw := (RX3, TX3, 7)) (As := [.int (0 : Int32)]) (rest := []) (cGR_isChain l G 120 σ13 (0 : Int32) h15) hC hH hl (xe_R G σ13) rfl (cwV 1 hts (gV wmX3_44 wvX3_isChain) rfl rfl rfl hdX3_isChain ⟨Nat.le_of_ble_eq_true rfl, Nat.le_of_ble_eq_true rfl⟩) rfl rfl (Nat.le_of_ble_eq_true rfl) ⟨Nat.zero_le _, Nat.zero_le _⟩ dX3_isText_36 (fun H locs hH => ?_)
    refine lv_if_eq (tgt := 56) hx hb dX3_isText_39 (by decide) (fun c18 => ?_) (fun c18 => ?_)
    · have h := ite_t c18 h
      refine lv_iconst (v := 0) hx hb dX3_isText_56 (by decide) ?_
      obtain ⟨rfl, rfl⟩ := some_i2 h
      exact x_iret (v := 0) hC hH hr (by decide) dX3_isText_57
    · have h := ite_f c18 h
      refine lv_aload_n hx hb dX3_isText_42 rfl (lv_at hl 0 rfl) ?_
      refine x_get (C := RX3) (T := TX3) (N := 7) (v := .ref (xA G 6)) hC hH (xe_R G σ17) rfl wyX3 0 (by decide) wfX3_33 rfl rfl dX3_isText_43 ?_
      refine x_getN (C := RX6) (T := TX6) (N := 5) (v := .int (xi σ17 5 2)) (host := "RoadSorted") hC hH (xe_T G σ17) rfl wyX6 2 (by decide) (by decide +kernel) rfl rfl dX3_isText_46 ?_
      refine lv_if_ne (tgt := 56) hx hb dX3_isText_49 (by decide) (fun c19 => ?_) (fun c19 => ?_)
      · have h := ite_f c19 h
        refine lv_iconst (v := 0) hx hb dX3_isText_56 (by decide) ?_
        obtain ⟨rfl, rfl⟩ := some_i2 h
        exact x_iret (v := 0) hC hH hr (by decide) dX3_isText_57
      · have h := ite_t c19 h
        refine lv_iconst (v := 1) hx hb dX3_isText_52 (by decide) ?_
        refine lv_goto (tgt := 57) hx hb dX3_isText_53 (by decide) ?_
        obtain ⟨rfl, rfl⟩ := some_i2 h
        exact x_iret (v := 1) hC hH hr (by decide) dX3_isText_57
