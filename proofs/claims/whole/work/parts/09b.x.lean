def rmX_isWithin : Room := { frames := 0, cells := 0, slots := 0, locals := 0 }
theorem hdX7_isWithin : yX7_isWithin.cls ≠ "java/lang/invoke/MethodHandle" ∧ yX7_isWithin.cls ≠ "java/lang/invoke/VarHandle" ∧ (parseMethodDescriptor yX7_isWithin.desc).map (fun d => d.parameters.length) = some 3 := by decide +kernel

def fX_isWithin (σ0 : XS) (x0 : Int32) (x1 : Int32) (x2 : Int32) : Option (Int32) :=
  if x0 < x1 then (
    some (0 : Int32))
  else (
    if x2 < x0 then (
      some (0 : Int32))
    else (
      some (1 : Int32)))

set_option maxHeartbeats 4000000 in
set_option maxRecDepth 100000 in
theorem cX_isWithin (l : Launch) (G : XG) (σ0 : XS) (x0 : Int32) (x1 : Int32) (x2 : Int32) {r : Int32} (h : fX_isWithin σ0 x0 x1 x2 = some r) : ∀ sz, Met l yX7_isWithin (Cond.code yX7_isWithin cX7_isWithin 3 (some .boolean) :: Tw) rmX_isWithin (xP G σ0 sz [.int x0, .int x1, .int x2]) (xQi G σ0 sz σ0 r) 0 0 (va_A (xW G σ0) sz) := by
  intro sz
  refine Met.ofW (cc := cX7_isWithin) (maxL := 3) (ret := (some .boolean)) (by decide) rfl ?_
  intro p e s m args below meth c s₁ Bd hml hv
  obtain ⟨hC, hr⟩ := jC_of Bd hml
  obtain ⟨rfl, rfl, hH⟩ := x_enter hv
  have hC : jC p s m _ meth c cX7_isWithin 3 RX7 := hC
  have hx := hC.1.1
  have hb := hC.1.2.1
  have hown := hC.1.2.2.2.1
  have hts := hC.1.2.2.2.2
  have hl := lv_entry ([.int x0, .int x1, .int x2]) (n := 3) (Nat.le_of_ble_eq_true rfl)
  rw [lg_entry_eq]
  generalize (lg_sl ([.int x0, .int x1, .int x2]) ++ List.replicate (3 - (lg_sl ([.int x0, .int x1, .int x2])).length) Slot.unset).toArray = ls at hl ⊢
  have hl : lv_has ls 3 [(0, .int x0), (1, .int x1), (2, .int x2)] := hl
  unfold fX_isWithin at h
  refine W_nm (fun H locs eH eL => ?_)
  have hH : xH G s (va_A (xW G σ0) s.heap.size) σ0 H locs := by rw [eH, eL]; exact hH
  show W p l e rmX_isWithin s m _ below meth c H locs 0 0 _ (F0 m 0 ls [])
  refine lv_iload_n hx hb dX7_isWithin_0 rfl (lv_at hl 0 rfl) ?_
  refine lv_iload_n hx hb dX7_isWithin_1 rfl (lv_at hl 1 rfl) ?_
  refine lv_icmp_lt (tgt := 14) hx hb dX7_isWithin_2 (by decide) (fun c1 => ?_) (fun c1 => ?_)
  · have h := ite_t c1 h
    refine lv_iconst (v := 0) hx hb dX7_isWithin_14 (by decide) ?_
    obtain rfl := some_i1 h
    exact x_iret (v := 0) hC hH hr (by decide) dX7_isWithin_15
  · have h := ite_f c1 h
    refine lv_iload_n hx hb dX7_isWithin_5 rfl (lv_at hl 0 rfl) ?_
    refine lv_iload_n hx hb dX7_isWithin_6 rfl (lv_at hl 2 rfl) ?_
    refine lv_icmp_gt (tgt := 14) hx hb dX7_isWithin_7 (by decide) (fun c2 => ?_) (fun c2 => ?_)
    · have h := ite_t c2 h
      refine lv_iconst (v := 0) hx hb dX7_isWithin_14 (by decide) ?_
      obtain rfl := some_i1 h
      exact x_iret (v := 0) hC hH hr (by decide) dX7_isWithin_15
    · have h := ite_f c2 h
      refine lv_iconst (v := 1) hx hb dX7_isWithin_10 (by decide) ?_
      refine lv_goto (tgt := 15) hx hb dX7_isWithin_11 (by decide) ?_
      obtain rfl := some_i1 h
      exact x_iret (v := 1) hC hH hr (by decide) dX7_isWithin_15

def rmX_isKind : Room := { frames := 1, cells := 0, slots := 0, locals := 22 }
theorem hdX7_isKind : yX7_isKind.cls ≠ "java/lang/invoke/MethodHandle" ∧ yX7_isKind.cls ≠ "java/lang/invoke/VarHandle" ∧ (parseMethodDescriptor yX7_isKind.desc).map (fun d => d.parameters.length) = some 1 := by decide +kernel

def fX_isKind (σ0 : XS) (x0 : Int32) : Option (Int32) :=
  ob (fX_isWithin σ0 x0 (0 : Int32) (5 : Int32)) fun r2 =>
  zb r2 <|
  some r2

set_option maxHeartbeats 4000000 in
set_option maxRecDepth 100000 in
theorem cX_isKind (l : Launch) (G : XG) (σ0 : XS) (x0 : Int32) {r : Int32} (h : fX_isKind σ0 x0 = some r) : ∀ sz, Met l yX7_isKind (Cond.code yX7_isKind cX7_isKind 1 (some .boolean) :: Tw) rmX_isKind (xP G σ0 sz [.int x0]) (xQi G σ0 sz σ0 r) 0 0 (va_A (xW G σ0) sz) := by
  intro sz
  refine Met.ofW (cc := cX7_isKind) (maxL := 1) (ret := (some .boolean)) (by decide) rfl ?_
  intro p e s m args below meth c s₁ Bd hml hv
  obtain ⟨hC, hr⟩ := jC_of Bd hml
  obtain ⟨rfl, rfl, hH⟩ := x_enter hv
  have hC : jC p s m _ meth c cX7_isKind 1 RX7 := hC
  have hx := hC.1.1
  have hb := hC.1.2.1
  have hown := hC.1.2.2.2.1
  have hts := hC.1.2.2.2.2
  have hl := lv_entry ([.int x0]) (n := 1) (Nat.le_of_ble_eq_true rfl)
  rw [lg_entry_eq]
  generalize (lg_sl ([.int x0]) ++ List.replicate (1 - (lg_sl ([.int x0])).length) Slot.unset).toArray = ls at hl ⊢
  have hl : lv_has ls 1 [(0, .int x0)] := hl
  unfold fX_isKind at h
  refine W_nm (fun H locs eH eL => ?_)
  have hH : xH G s (va_A (xW G σ0) s.heap.size) σ0 H locs := by rw [eH, eL]; exact hH
  show W p l e rmX_isKind s m _ below meth c H locs 0 0 _ (F0 m 0 ls [])
  refine lv_iload_n hx hb dX7_isKind_0 rfl (lv_at hl 0 rfl) ?_
  refine lv_iconst (v := 0) hx hb dX7_isKind_1 (by decide) ?_
  refine lv_iconst (v := 5) hx hb dX7_isKind_2 (by decide) ?_
  obtain ⟨r2, h1, h⟩ := ob_some h
  refine x_calls (As := [.int x0, .int (0 : Int32), .int (5 : Int32)]) (rest := []) (cX_isWithin l G σ0 x0 (0 : Int32) (5 : Int32)  h1) hC hH hl (va_cwS 3 hts (gS wmX7_148 wsX7_isWithin) rfl rfl rfl hdX7_isWithin ⟨Nat.le_of_ble_eq_true rfl, Nat.le_of_ble_eq_true rfl⟩) rfl rfl (Nat.le_of_ble_eq_true rfl) ⟨Nat.zero_le _, Nat.zero_le _⟩ dX7_isKind_3 (fun H locs hH => ?_)
  obtain ⟨z3, h⟩ := zb_some h
  obtain rfl := some_i1 h
  exact x_iret hC hH hr z3 dX7_isKind_6

def rmX_isThick : Room := { frames := 1, cells := 0, slots := 0, locals := 22 }
theorem hdX7_isThick : yX7_isThick.cls ≠ "java/lang/invoke/MethodHandle" ∧ yX7_isThick.cls ≠ "java/lang/invoke/VarHandle" ∧ (parseMethodDescriptor yX7_isThick.desc).map (fun d => d.parameters.length) = some 1 := by decide +kernel

def fX_isThick (σ0 : XS) (x0 : Int32) : Option (Int32) :=
  ob (fX_isWithin σ0 x0 (1 : Int32) (99 : Int32)) fun r2 =>
  zb r2 <|
  some r2

set_option maxHeartbeats 4000000 in
set_option maxRecDepth 100000 in
theorem cX_isThick (l : Launch) (G : XG) (σ0 : XS) (x0 : Int32) {r : Int32} (h : fX_isThick σ0 x0 = some r) : ∀ sz, Met l yX7_isThick (Cond.code yX7_isThick cX7_isThick 1 (some .boolean) :: Tw) rmX_isThick (xP G σ0 sz [.int x0]) (xQi G σ0 sz σ0 r) 0 0 (va_A (xW G σ0) sz) := by
  intro sz
  refine Met.ofW (cc := cX7_isThick) (maxL := 1) (ret := (some .boolean)) (by decide) rfl ?_
  intro p e s m args below meth c s₁ Bd hml hv
  obtain ⟨hC, hr⟩ := jC_of Bd hml
  obtain ⟨rfl, rfl, hH⟩ := x_enter hv
  have hC : jC p s m _ meth c cX7_isThick 1 RX7 := hC
  have hx := hC.1.1
  have hb := hC.1.2.1
  have hown := hC.1.2.2.2.1
  have hts := hC.1.2.2.2.2
  have hl := lv_entry ([.int x0]) (n := 1) (Nat.le_of_ble_eq_true rfl)
  rw [lg_entry_eq]
  generalize (lg_sl ([.int x0]) ++ List.replicate (1 - (lg_sl ([.int x0])).length) Slot.unset).toArray = ls at hl ⊢
  have hl : lv_has ls 1 [(0, .int x0)] := hl
  unfold fX_isThick at h
  refine W_nm (fun H locs eH eL => ?_)
  have hH : xH G s (va_A (xW G σ0) s.heap.size) σ0 H locs := by rw [eH, eL]; exact hH
  show W p l e rmX_isThick s m _ below meth c H locs 0 0 _ (F0 m 0 ls [])
  refine lv_iload_n hx hb dX7_isThick_0 rfl (lv_at hl 0 rfl) ?_
  refine lv_iconst (v := 1) hx hb dX7_isThick_1 (by decide) ?_
  refine lv_bipush (v := 99) hx hb dX7_isThick_2 (by decide) ?_
  obtain ⟨r2, h1, h⟩ := ob_some h
  refine x_calls (As := [.int x0, .int (1 : Int32), .int (99 : Int32)]) (rest := []) (cX_isWithin l G σ0 x0 (1 : Int32) (99 : Int32)  h1) hC hH hl (va_cwS 3 hts (gS wmX7_148 wsX7_isWithin) rfl rfl rfl hdX7_isWithin ⟨Nat.le_of_ble_eq_true rfl, Nat.le_of_ble_eq_true rfl⟩) rfl rfl (Nat.le_of_ble_eq_true rfl) ⟨Nat.zero_le _, Nat.zero_le _⟩ dX7_isThick_4 (fun H locs hH => ?_)
  obtain ⟨z3, h⟩ := zb_some h
  obtain rfl := some_i1 h
  exact x_iret hC hH hr z3 dX7_isThick_7

def rmX_isTown : Room := { frames := 1, cells := 0, slots := 0, locals := 22 }
theorem hdX7_isTown : yX7_isTown.cls ≠ "java/lang/invoke/MethodHandle" ∧ yX7_isTown.cls ≠ "java/lang/invoke/VarHandle" ∧ (parseMethodDescriptor yX7_isTown.desc).map (fun d => d.parameters.length) = some 1 := by decide +kernel

def fX_isTown (σ0 : XS) (x0 : Int32) : Option (Int32) :=
  ob (fX_isWithin σ0 x0 (0 : Int32) (9 : Int32)) fun r2 =>
  zb r2 <|
  some r2

set_option maxHeartbeats 4000000 in
set_option maxRecDepth 100000 in
theorem cX_isTown (l : Launch) (G : XG) (σ0 : XS) (x0 : Int32) {r : Int32} (h : fX_isTown σ0 x0 = some r) : ∀ sz, Met l yX7_isTown (Cond.code yX7_isTown cX7_isTown 1 (some .boolean) :: Tw) rmX_isTown (xP G σ0 sz [.int x0]) (xQi G σ0 sz σ0 r) 0 0 (va_A (xW G σ0) sz) := by
  intro sz
  refine Met.ofW (cc := cX7_isTown) (maxL := 1) (ret := (some .boolean)) (by decide) rfl ?_
  intro p e s m args below meth c s₁ Bd hml hv
  obtain ⟨hC, hr⟩ := jC_of Bd hml
  obtain ⟨rfl, rfl, hH⟩ := x_enter hv
  have hC : jC p s m _ meth c cX7_isTown 1 RX7 := hC
  have hx := hC.1.1
  have hb := hC.1.2.1
  have hown := hC.1.2.2.2.1
  have hts := hC.1.2.2.2.2
  have hl := lv_entry ([.int x0]) (n := 1) (Nat.le_of_ble_eq_true rfl)
  rw [lg_entry_eq]
  generalize (lg_sl ([.int x0]) ++ List.replicate (1 - (lg_sl ([.int x0])).length) Slot.unset).toArray = ls at hl ⊢
  have hl : lv_has ls 1 [(0, .int x0)] := hl
  unfold fX_isTown at h
  refine W_nm (fun H locs eH eL => ?_)
  have hH : xH G s (va_A (xW G σ0) s.heap.size) σ0 H locs := by rw [eH, eL]; exact hH
  show W p l e rmX_isTown s m _ below meth c H locs 0 0 _ (F0 m 0 ls [])
  refine lv_iload_n hx hb dX7_isTown_0 rfl (lv_at hl 0 rfl) ?_
  refine lv_iconst (v := 0) hx hb dX7_isTown_1 (by decide) ?_
  refine lv_bipush (v := 9) hx hb dX7_isTown_2 (by decide) ?_
  obtain ⟨r2, h1, h⟩ := ob_some h
  refine x_calls (As := [.int x0, .int (0 : Int32), .int (9 : Int32)]) (rest := []) (cX_isWithin l G σ0 x0 (0 : Int32) (9 : Int32)  h1) hC hH hl (va_cwS 3 hts (gS wmX7_148 wsX7_isWithin) rfl rfl rfl hdX7_isWithin ⟨Nat.le_of_ble_eq_true rfl, Nat.le_of_ble_eq_true rfl⟩) rfl rfl (Nat.le_of_ble_eq_true rfl) ⟨Nat.zero_le _, Nat.zero_le _⟩ dX7_isTown_4 (fun H locs hH => ?_)
  obtain ⟨z3, h⟩ := zb_some h
  obtain rfl := some_i1 h
  exact x_iret hC hH hr z3 dX7_isTown_7

def rmX_letter : Room := { frames := 5, cells := 0, slots := 0, locals := 132 }
theorem hdX7_letter : yX7_letter.cls = RX7 ∧ yX7_letter.cls ≠ "java/lang/invoke/MethodHandle" ∧ yX7_letter.cls ≠ "java/lang/invoke/VarHandle" ∧ (parseMethodDescriptor yX7_letter.desc).map (fun d => d.parameters.length) = some 3 := by decide +kernel

def fX_letter (σ0 : XS) (x1 : Int32) (x2 : Int32) (x3 : Int32) : Option (Int32 × XS) :=
  ob (fX_isKind σ0 x1) fun r2 =>
  if r2 = 0 then (
    some ((-1000000001 : Int32), σ0))
  else (
    ob (fX_isThick σ0 x2) fun r5 =>
    if r5 = 0 then (
      some ((-1000000001 : Int32), σ0))
    else (
      ob (fX_isTown σ0 x3) fun r8 =>
      if r8 = 0 then (
        some ((-1000000001 : Int32), σ0))
      else (
        if (xi σ0 (1 + 0) 0) = (14 : Int32) then (
          some ((-1000000003 : Int32), σ0))
        else (
          ob2 (fB_add σ0 0 x1 x2 x3) fun r12 σ13 =>
          some (r12, σ13)))))

set_option maxHeartbeats 4000000 in
set_option maxRecDepth 100000 in
theorem cX_letter (l : Launch) (G : XG) (σ0 : XS) (x1 : Int32) (x2 : Int32) (x3 : Int32) {r : Int32} {σr : XS} (h : fX_letter σ0 x1 x2 x3 = some (r, σr)) : ∀ sz, Met l yX7_letter (Cond.code yX7_letter cX7_letter 4 (some .int) :: Tw) rmX_letter (xP G σ0 sz [.ref (xA G 0), .int x1, .int x2, .int x3]) (xQi G σ0 sz σr r) 0 0 (va_A (xW G σ0) sz) := by
  intro sz
  refine Met.ofW (cc := cX7_letter) (maxL := 4) (ret := (some .int)) (by decide) rfl ?_
  intro p e s m args below meth c s₁ Bd hml hv
  obtain ⟨hC, hr⟩ := jC_of Bd hml
  obtain ⟨rfl, rfl, hH⟩ := x_enter hv
  have hC : jC p s m _ meth c cX7_letter 4 RX7 := hC
  have hx := hC.1.1
  have hb := hC.1.2.1
  have hown := hC.1.2.2.2.1
  have hts := hC.1.2.2.2.2
  have hl := lv_entry ([.ref (xA G 0), .int x1, .int x2, .int x3]) (n := 4) (Nat.le_of_ble_eq_true rfl)
  rw [lg_entry_eq]
  generalize (lg_sl ([.ref (xA G 0), .int x1, .int x2, .int x3]) ++ List.replicate (4 - (lg_sl ([.ref (xA G 0), .int x1, .int x2, .int x3])).length) Slot.unset).toArray = ls at hl ⊢
  have hl : lv_has ls 4 [(0, .ref (xA G 0)), (1, .int x1), (2, .int x2), (3, .int x3)] := hl
  unfold fX_letter at h
  refine W_nm (fun H locs eH eL => ?_)
  have hH : xH G s (va_A (xW G σ0) s.heap.size) σ0 H locs := by rw [eH, eL]; exact hH
  show W p l e rmX_letter s m _ below meth c H locs 0 0 _ (F0 m 0 ls [])
  refine lv_iload_n hx hb dX7_letter_0 rfl (lv_at hl 1 rfl) ?_
  obtain ⟨r2, h1, h⟩ := ob_some h
  refine x_calls (As := [.int x1]) (rest := []) (cX_isKind l G σ0 x1  h1) hC hH hl (va_cwS 1 hts (gS wmX7_79 wsX7_isKind) rfl rfl rfl hdX7_isKind ⟨Nat.le_of_ble_eq_true rfl, Nat.le_of_ble_eq_true rfl⟩) rfl rfl (Nat.le_of_ble_eq_true rfl) ⟨Nat.zero_le _, Nat.zero_le _⟩ dX7_letter_1 (fun H locs hH => ?_)
  refine lv_if_eq (tgt := 21) hx hb dX7_letter_4 (by decide) (fun c3 => ?_) (fun c3 => ?_)
  · have h := ite_t c3 h
    refine lv_ldc (v := -1000000001) hx hb hown (hts _ wkX7_89) dX7_letter_21 ?_
    obtain ⟨rfl, rfl⟩ := some_i2 h
    exact x_iret (v := -1000000001) hC hH hr rfl dX7_letter_23
  · have h := ite_f c3 h
    refine lv_iload_n hx hb dX7_letter_7 rfl (lv_at hl 2 rfl) ?_
    obtain ⟨r5, h4, h⟩ := ob_some h
    refine x_calls (As := [.int x2]) (rest := []) (cX_isThick l G σ0 x2  h4) hC hH hl (va_cwS 1 hts (gS wmX7_83 wsX7_isThick) rfl rfl rfl hdX7_isThick ⟨Nat.le_of_ble_eq_true rfl, Nat.le_of_ble_eq_true rfl⟩) rfl rfl (Nat.le_of_ble_eq_true rfl) ⟨Nat.zero_le _, Nat.zero_le _⟩ dX7_letter_8 (fun H locs hH => ?_)
    refine lv_if_eq (tgt := 21) hx hb dX7_letter_11 (by decide) (fun c6 => ?_) (fun c6 => ?_)
    · have h := ite_t c6 h
      refine lv_ldc (v := -1000000001) hx hb hown (hts _ wkX7_89) dX7_letter_21 ?_
      obtain ⟨rfl, rfl⟩ := some_i2 h
      exact x_iret (v := -1000000001) hC hH hr rfl dX7_letter_23
    · have h := ite_f c6 h
      refine lv_iload_n hx hb dX7_letter_14 rfl (lv_at hl 3 rfl) ?_
      obtain ⟨r8, h7, h⟩ := ob_some h
      refine x_calls (As := [.int x3]) (rest := []) (cX_isTown l G σ0 x3  h7) hC hH hl (va_cwS 1 hts (gS wmX7_86 wsX7_isTown) rfl rfl rfl hdX7_isTown ⟨Nat.le_of_ble_eq_true rfl, Nat.le_of_ble_eq_true rfl⟩) rfl rfl (Nat.le_of_ble_eq_true rfl) ⟨Nat.zero_le _, Nat.zero_le _⟩ dX7_letter_15 (fun H locs hH => ?_)
      refine lv_if_ne (tgt := 24) hx hb dX7_letter_18 (by decide) (fun c9 => ?_) (fun c9 => ?_)
      · have h := ite_f c9 h
        refine lv_aload_n hx hb dX7_letter_24 rfl (lv_at hl 0 rfl) ?_
        refine x_get (C := RX7) (T := TX7) (N := 14) (v := .ref (xA G (1 + 0))) hC hH (xe_X G σ0) rfl wyX7 0 (by decide) wfX7_10 rfl rfl dX7_letter_25 ?_
        refine x_getN (C := RX0) (T := TX0) (N := 12) (v := .int (xi σ0 (1 + 0) 0)) (host := "RoadSorted") hC hH (xe_B G σ0 (by decide)) rfl wyX0 0 (by decide) (by decide +kernel) rfl rfl dX7_letter_28 ?_
        refine lv_bipush (v := 14) hx hb dX7_letter_31 (by decide) ?_
        refine lv_icmp_ne (tgt := 39) hx hb dX7_letter_33 (by decide) (fun c10 => ?_) (fun c10 => ?_)
        · have h := ite_f c10 h
          refine lv_aload_n hx hb dX7_letter_39 rfl (lv_at hl 0 rfl) ?_
          refine x_get (C := RX7) (T := TX7) (N := 14) (v := .ref (xA G (1 + 0))) hC hH (xe_X G σ0) rfl wyX7 0 (by decide) wfX7_10 rfl rfl dX7_letter_40 ?_
          refine lv_iload_n hx hb dX7_letter_43 rfl (lv_at hl 1 rfl) ?_
          refine lv_iload_n hx hb dX7_letter_44 rfl (lv_at hl 2 rfl) ?_
          refine lv_iload_n hx hb dX7_letter_45 rfl (lv_at hl 3 rfl) ?_
          obtain ⟨r12, σ13, h11, h⟩ := ob2_some h
          refine x_calli (vw := (RX0, TX0, 12)) (As := [.int x1, .int x2, .int x3]) (rest := []) (cB_add l G σ0 0 x1 x2 x3 (by decide) h11) hC hH hl (xe_B G σ0 (by decide)) rfl (cwV 3 hts (gV wmX7_94 wvX0_add) rfl rfl rfl hdX0_add ⟨Nat.le_of_ble_eq_true rfl, Nat.le_of_ble_eq_true rfl⟩) rfl rfl (Nat.le_of_ble_eq_true rfl) ⟨Nat.zero_le _, Nat.zero_le _⟩ dX7_letter_46 (fun H locs hH => ?_)
          obtain ⟨rfl, rfl⟩ := some_i2 h
          exact x_iret hC hH hr rfl dX7_letter_49
        · have h := ite_t c10 h
          refine lv_ldc (v := -1000000003) hx hb hown (hts _ wkX7_93) dX7_letter_36 ?_
          obtain ⟨rfl, rfl⟩ := some_i2 h
          exact x_iret (v := -1000000003) hC hH hr rfl dX7_letter_38
      · have h := ite_t c9 h
        refine lv_ldc (v := -1000000001) hx hb hown (hts _ wkX7_89) dX7_letter_21 ?_
        obtain ⟨rfl, rfl⟩ := some_i2 h
        exact x_iret (v := -1000000001) hC hH hr rfl dX7_letter_23

def rmX_told : Room := { frames := 1, cells := 0, slots := 0, locals := 23 }
theorem hdX7_told : yX7_told.cls = RX7 ∧ yX7_told.cls ≠ "java/lang/invoke/MethodHandle" ∧ yX7_told.cls ≠ "java/lang/invoke/VarHandle" ∧ (parseMethodDescriptor yX7_told.desc).map (fun d => d.parameters.length) = some 2 := by decide +kernel

def fX_told (σ0 : XS) (x1 : Int32) (x2 : Int32) : Option (Int32) :=
  ob (fB_has σ0 0 x1) fun r2 =>
  if r2 = 0 then (
    some (-1000000001 : Int32))
  else (
    if x2 = (0 : Int32) then (
      ck x1 (14) <|
      some (xi σ0 (30 + 6 * 0 + 0) (x1).toNatClampNeg))
    else if x2 = (1 : Int32) then (
      ck x1 (14) <|
      some (xi σ0 (30 + 6 * 0 + 1) (x1).toNatClampNeg))
    else if x2 = (2 : Int32) then (
      ck x1 (14) <|
      some (xi σ0 (30 + 6 * 0 + 2) (x1).toNatClampNeg))
    else if x2 = (3 : Int32) then (
      ob (fB_placeOf σ0 0 x1) fun r12 =>
      some r12)
    else if x2 = (4 : Int32) then (
      ck x1 (14) <|
      some (xi σ0 (30 + 6 * 0 + 3) (x1).toNatClampNeg))
    else if x2 = (5 : Int32) then (
      ck x1 (14) <|
      some (xi σ0 (30 + 6 * 0 + 4) (x1).toNatClampNeg))
    else if x2 = (6 : Int32) then (
      ck x1 (14) <|
      ob (fK_grips σ0 (xi σ0 (30 + 6 * 0 + 0) (x1).toNatClampNeg)) fun r20 =>
      some r20)
    else if x2 = (7 : Int32) then (
      ck x1 (14) <|
      ck x1 (14) <|
      ob (fK_worth σ0 (xi σ0 (30 + 6 * 0 + 0) (x1).toNatClampNeg) (xi σ0 (30 + 6 * 0 + 1) (x1).toNatClampNeg)) fun r25 =>
      some r25)
    else (
      some (-1000000001 : Int32)))

set_option maxHeartbeats 4000000 in
set_option maxRecDepth 100000 in
theorem cX_told (l : Launch) (G : XG) (σ0 : XS) (x1 : Int32) (x2 : Int32) {r : Int32} (h : fX_told σ0 x1 x2 = some r) : ∀ sz, Met l yX7_told (Cond.code yX7_told cX7_told 3 (some .int) :: Tw) rmX_told (xP G σ0 sz [.ref (xA G 0), .int x1, .int x2]) (xQi G σ0 sz σ0 r) 0 0 (va_A (xW G σ0) sz) := by
  intro sz
  refine Met.ofW (cc := cX7_told) (maxL := 3) (ret := (some .int)) (by decide) rfl ?_
  intro p e s m args below meth c s₁ Bd hml hv
  obtain ⟨hC, hr⟩ := jC_of Bd hml
  obtain ⟨rfl, rfl, hH⟩ := x_enter hv
  have hC : jC p s m _ meth c cX7_told 3 RX7 := hC
  have hx := hC.1.1
  have hb := hC.1.2.1
  have hown := hC.1.2.2.2.1
  have hts := hC.1.2.2.2.2
  have hl := lv_entry ([.ref (xA G 0), .int x1, .int x2]) (n := 3) (Nat.le_of_ble_eq_true rfl)
  rw [lg_entry_eq]
  generalize (lg_sl ([.ref (xA G 0), .int x1, .int x2]) ++ List.replicate (3 - (lg_sl ([.ref (xA G 0), .int x1, .int x2])).length) Slot.unset).toArray = ls at hl ⊢
  have hl : lv_has ls 3 [(0, .ref (xA G 0)), (1, .int x1), (2, .int x2)] := hl
  unfold fX_told at h
  refine W_nm (fun H locs eH eL => ?_)
  have hH : xH G s (va_A (xW G σ0) s.heap.size) σ0 H locs := by rw [eH, eL]; exact hH
  show W p l e rmX_told s m _ below meth c H locs 0 0 _ (F0 m 0 ls [])
  refine lv_aload_n hx hb dX7_told_0 rfl (lv_at hl 0 rfl) ?_
  refine x_get (C := RX7) (T := TX7) (N := 14) (v := .ref (xA G (1 + 0))) hC hH (xe_X G σ0) rfl wyX7 0 (by decide) wfX7_10 rfl rfl dX7_told_1 ?_
  refine lv_iload_n hx hb dX7_told_4 rfl (lv_at hl 1 rfl) ?_
  obtain ⟨r2, h1, h⟩ := ob_some h
  refine x_calli (vw := (RX0, TX0, 12)) (As := [.int x1]) (rest := []) (cB_has l G σ0 0 x1 (by decide) h1) hC hH hl (xe_B G σ0 (by decide)) rfl (cwV 1 hts (gV wmX7_98 wvX0_has) rfl rfl rfl hdX0_has ⟨Nat.le_of_ble_eq_true rfl, Nat.le_of_ble_eq_true rfl⟩) rfl rfl (Nat.le_of_ble_eq_true rfl) ⟨Nat.zero_le _, Nat.zero_le _⟩ dX7_told_5 (fun H locs hH => ?_)
  refine lv_if_ne (tgt := 14) hx hb dX7_told_8 (by decide) (fun c3 => ?_) (fun c3 => ?_)
  · have h := ite_f c3 h
    refine lv_iload_n hx hb dX7_told_14 rfl (lv_at hl 2 rfl) ?_
    by_cases c4 : x2 = (0 : Int32)
    · have h := ite_t c4 h
      refine lv_tsw (tgt := 60) (off := 45) hx hb (0) c4 dX7_told_15 (by decide) (by decide) (by decide) (by decide) ?_
      refine lv_aload_n hx hb dX7_told_60 rfl (lv_at hl 0 rfl) ?_
      refine x_get (C := RX7) (T := TX7) (N := 14) (v := .ref (xA G (1 + 0))) hC hH (xe_X G σ0) rfl wyX7 0 (by decide) wfX7_10 rfl rfl dX7_told_61 ?_
      refine x_getN (C := RX0) (T := TX0) (N := 12) (v := .ref (xA G (100 + (30 + 6 * 0 + 0)))) (host := "RoadSorted") hC hH (xe_B G σ0 (by decide)) rfl wyX0 1 (by decide) (by decide +kernel) rfl rfl dX7_told_64 ?_
      refine lv_iload_n hx hb dX7_told_67 rfl (lv_at hl 1 rfl) ?_
      obtain ⟨i5, h⟩ := ck_some h
      refine x_ald hC hH (d := (30 + 6 * 0 + 0)) (xIs_b (by decide) (by decide)) (xLen_b (by decide) (by decide)) rfl i5 dX7_told_68 ?_
      obtain rfl := some_i1 h
      exact x_iret hC hH hr rfl dX7_told_69
    · have h := ite_f c4 h
      by_cases c6 : x2 = (1 : Int32)
      · have h := ite_t c6 h
        refine lv_tsw (tgt := 70) (off := 55) hx hb (1) c6 dX7_told_15 (by decide) (by decide) (by decide) (by decide) ?_
        refine lv_aload_n hx hb dX7_told_70 rfl (lv_at hl 0 rfl) ?_
        refine x_get (C := RX7) (T := TX7) (N := 14) (v := .ref (xA G (1 + 0))) hC hH (xe_X G σ0) rfl wyX7 0 (by decide) wfX7_10 rfl rfl dX7_told_71 ?_
        refine x_getN (C := RX0) (T := TX0) (N := 12) (v := .ref (xA G (100 + (30 + 6 * 0 + 1)))) (host := "RoadSorted") hC hH (xe_B G σ0 (by decide)) rfl wyX0 2 (by decide) (by decide +kernel) rfl rfl dX7_told_74 ?_
        refine lv_iload_n hx hb dX7_told_77 rfl (lv_at hl 1 rfl) ?_
        obtain ⟨i7, h⟩ := ck_some h
        refine x_ald hC hH (d := (30 + 6 * 0 + 1)) (xIs_b (by decide) (by decide)) (xLen_b (by decide) (by decide)) rfl i7 dX7_told_78 ?_
        obtain rfl := some_i1 h
        exact x_iret hC hH hr rfl dX7_told_79
      · have h := ite_f c6 h
        by_cases c8 : x2 = (2 : Int32)
        · have h := ite_t c8 h
          refine lv_tsw (tgt := 80) (off := 65) hx hb (2) c8 dX7_told_15 (by decide) (by decide) (by decide) (by decide) ?_
          refine lv_aload_n hx hb dX7_told_80 rfl (lv_at hl 0 rfl) ?_
          refine x_get (C := RX7) (T := TX7) (N := 14) (v := .ref (xA G (1 + 0))) hC hH (xe_X G σ0) rfl wyX7 0 (by decide) wfX7_10 rfl rfl dX7_told_81 ?_
          refine x_getN (C := RX0) (T := TX0) (N := 12) (v := .ref (xA G (100 + (30 + 6 * 0 + 2)))) (host := "RoadSorted") hC hH (xe_B G σ0 (by decide)) rfl wyX0 3 (by decide) (by decide +kernel) rfl rfl dX7_told_84 ?_
          refine lv_iload_n hx hb dX7_told_87 rfl (lv_at hl 1 rfl) ?_
          obtain ⟨i9, h⟩ := ck_some h
          refine x_ald hC hH (d := (30 + 6 * 0 + 2)) (xIs_b (by decide) (by decide)) (xLen_b (by decide) (by decide)) rfl i9 dX7_told_88 ?_
          obtain rfl := some_i1 h
          exact x_iret hC hH hr rfl dX7_told_89
        · have h := ite_f c8 h
          by_cases c10 : x2 = (3 : Int32)
          · have h := ite_t c10 h
            refine lv_tsw (tgt := 90) (off := 75) hx hb (3) c10 dX7_told_15 (by decide) (by decide) (by decide) (by decide) ?_
            refine lv_aload_n hx hb dX7_told_90 rfl (lv_at hl 0 rfl) ?_
            refine x_get (C := RX7) (T := TX7) (N := 14) (v := .ref (xA G (1 + 0))) hC hH (xe_X G σ0) rfl wyX7 0 (by decide) wfX7_10 rfl rfl dX7_told_91 ?_
            refine lv_iload_n hx hb dX7_told_94 rfl (lv_at hl 1 rfl) ?_
            obtain ⟨r12, h11, h⟩ := ob_some h
            refine x_calli (vw := (RX0, TX0, 12)) (As := [.int x1]) (rest := []) (cB_placeOf l G σ0 0 x1 (by decide) h11) hC hH hl (xe_B G σ0 (by decide)) rfl (cwV 1 hts (gV wmX7_110 wvX0_placeOf) rfl rfl rfl hdX0_placeOf ⟨Nat.le_of_ble_eq_true rfl, Nat.le_of_ble_eq_true rfl⟩) rfl rfl (Nat.le_of_ble_eq_true rfl) ⟨Nat.zero_le _, Nat.zero_le _⟩ dX7_told_95 (fun H locs hH => ?_)
            obtain rfl := some_i1 h
            exact x_iret hC hH hr rfl dX7_told_98
          · have h := ite_f c10 h
            by_cases c13 : x2 = (4 : Int32)
            · have h := ite_t c13 h
              refine lv_tsw (tgt := 99) (off := 84) hx hb (4) c13 dX7_told_15 (by decide) (by decide) (by decide) (by decide) ?_
              refine lv_aload_n hx hb dX7_told_99 rfl (lv_at hl 0 rfl) ?_
              refine x_get (C := RX7) (T := TX7) (N := 14) (v := .ref (xA G (1 + 0))) hC hH (xe_X G σ0) rfl wyX7 0 (by decide) wfX7_10 rfl rfl dX7_told_100 ?_
              refine x_getN (C := RX0) (T := TX0) (N := 12) (v := .ref (xA G (100 + (30 + 6 * 0 + 3)))) (host := "RoadSorted") hC hH (xe_B G σ0 (by decide)) rfl wyX0 4 (by decide) (by decide +kernel) rfl rfl dX7_told_103 ?_
              refine lv_iload_n hx hb dX7_told_106 rfl (lv_at hl 1 rfl) ?_
              obtain ⟨i14, h⟩ := ck_some h
              refine x_ald hC hH (d := (30 + 6 * 0 + 3)) (xIs_b (by decide) (by decide)) (xLen_b (by decide) (by decide)) rfl i14 dX7_told_107 ?_
              obtain rfl := some_i1 h
              exact x_iret hC hH hr rfl dX7_told_108
            · have h := ite_f c13 h
              by_cases c15 : x2 = (5 : Int32)
              · have h := ite_t c15 h
                refine lv_tsw (tgt := 109) (off := 94) hx hb (5) c15 dX7_told_15 (by decide) (by decide) (by decide) (by decide) ?_
                refine lv_aload_n hx hb dX7_told_109 rfl (lv_at hl 0 rfl) ?_
                refine x_get (C := RX7) (T := TX7) (N := 14) (v := .ref (xA G (1 + 0))) hC hH (xe_X G σ0) rfl wyX7 0 (by decide) wfX7_10 rfl rfl dX7_told_110 ?_
                refine x_getN (C := RX0) (T := TX0) (N := 12) (v := .ref (xA G (100 + (30 + 6 * 0 + 4)))) (host := "RoadSorted") hC hH (xe_B G σ0 (by decide)) rfl wyX0 5 (by decide) (by decide +kernel) rfl rfl dX7_told_113 ?_
                refine lv_iload_n hx hb dX7_told_116 rfl (lv_at hl 1 rfl) ?_
                obtain ⟨i16, h⟩ := ck_some h
                refine x_ald hC hH (d := (30 + 6 * 0 + 4)) (xIs_b (by decide) (by decide)) (xLen_b (by decide) (by decide)) rfl i16 dX7_told_117 ?_
                obtain rfl := some_i1 h
                exact x_iret hC hH hr rfl dX7_told_118
              · have h := ite_f c15 h
                by_cases c17 : x2 = (6 : Int32)
                · have h := ite_t c17 h
                  refine lv_tsw (tgt := 119) (off := 104) hx hb (6) c17 dX7_told_15 (by decide) (by decide) (by decide) (by decide) ?_
                  refine lv_aload_n hx hb dX7_told_119 rfl (lv_at hl 0 rfl) ?_
                  refine x_get (C := RX7) (T := TX7) (N := 14) (v := .ref (xA G (1 + 0))) hC hH (xe_X G σ0) rfl wyX7 0 (by decide) wfX7_10 rfl rfl dX7_told_120 ?_
                  refine x_getN (C := RX0) (T := TX0) (N := 12) (v := .ref (xA G (100 + (30 + 6 * 0 + 0)))) (host := "RoadSorted") hC hH (xe_B G σ0 (by decide)) rfl wyX0 1 (by decide) (by decide +kernel) rfl rfl dX7_told_123 ?_
                  refine lv_iload_n hx hb dX7_told_126 rfl (lv_at hl 1 rfl) ?_
                  obtain ⟨i18, h⟩ := ck_some h
                  refine x_ald hC hH (d := (30 + 6 * 0 + 0)) (xIs_b (by decide) (by decide)) (xLen_b (by decide) (by decide)) rfl i18 dX7_told_127 ?_
                  obtain ⟨r20, h19, h⟩ := ob_some h
                  refine x_calls (As := [.int (xi σ0 (30 + 6 * 0 + 0) (x1).toNatClampNeg)]) (rest := []) (cK_grips l G σ0 (xi σ0 (30 + 6 * 0 + 0) (x1).toNatClampNeg)  h19) hC hH hl (va_cwS 1 hts (gS wmX7_120 wsX1_grips) rfl rfl rfl hdX1_grips ⟨Nat.le_of_ble_eq_true rfl, Nat.le_of_ble_eq_true rfl⟩) rfl rfl (Nat.le_of_ble_eq_true rfl) ⟨Nat.zero_le _, Nat.zero_le _⟩ dX7_told_128 (fun H locs hH => ?_)
                  obtain rfl := some_i1 h
                  exact x_iret hC hH hr rfl dX7_told_131
                · have h := ite_f c17 h
                  by_cases c21 : x2 = (7 : Int32)
                  · have h := ite_t c21 h
                    refine lv_tsw (tgt := 132) (off := 117) hx hb (7) c21 dX7_told_15 (by decide) (by decide) (by decide) (by decide) ?_
                    refine lv_aload_n hx hb dX7_told_132 rfl (lv_at hl 0 rfl) ?_
                    refine x_get (C := RX7) (T := TX7) (N := 14) (v := .ref (xA G (1 + 0))) hC hH (xe_X G σ0) rfl wyX7 0 (by decide) wfX7_10 rfl rfl dX7_told_133 ?_
                    refine x_getN (C := RX0) (T := TX0) (N := 12) (v := .ref (xA G (100 + (30 + 6 * 0 + 0)))) (host := "RoadSorted") hC hH (xe_B G σ0 (by decide)) rfl wyX0 1 (by decide) (by decide +kernel) rfl rfl dX7_told_136 ?_
                    refine lv_iload_n hx hb dX7_told_139 rfl (lv_at hl 1 rfl) ?_
                    obtain ⟨i22, h⟩ := ck_some h
                    refine x_ald hC hH (d := (30 + 6 * 0 + 0)) (xIs_b (by decide) (by decide)) (xLen_b (by decide) (by decide)) rfl i22 dX7_told_140 ?_
                    refine lv_aload_n hx hb dX7_told_141 rfl (lv_at hl 0 rfl) ?_
                    refine x_get (C := RX7) (T := TX7) (N := 14) (v := .ref (xA G (1 + 0))) hC hH (xe_X G σ0) rfl wyX7 0 (by decide) wfX7_10 rfl rfl dX7_told_142 ?_
                    refine x_getN (C := RX0) (T := TX0) (N := 12) (v := .ref (xA G (100 + (30 + 6 * 0 + 1)))) (host := "RoadSorted") hC hH (xe_B G σ0 (by decide)) rfl wyX0 2 (by decide) (by decide +kernel) rfl rfl dX7_told_145 ?_
                    refine lv_iload_n hx hb dX7_told_148 rfl (lv_at hl 1 rfl) ?_
                    obtain ⟨i23, h⟩ := ck_some h
                    refine x_ald hC hH (d := (30 + 6 * 0 + 1)) (xIs_b (by decide) (by decide)) (xLen_b (by decide) (by decide)) rfl i23 dX7_told_149 ?_
                    obtain ⟨r25, h24, h⟩ := ob_some h
                    refine x_calls (As := [.int (xi σ0 (30 + 6 * 0 + 0) (x1).toNatClampNeg), .int (xi σ0 (30 + 6 * 0 + 1) (x1).toNatClampNeg)]) (rest := []) (cK_worth l G σ0 (xi σ0 (30 + 6 * 0 + 0) (x1).toNatClampNeg) (xi σ0 (30 + 6 * 0 + 1) (x1).toNatClampNeg)  h24) hC hH hl (va_cwS 2 hts (gS wmX7_125 wsX1_worth) rfl rfl rfl hdX1_worth ⟨Nat.le_of_ble_eq_true rfl, Nat.le_of_ble_eq_true rfl⟩) rfl rfl (Nat.le_of_ble_eq_true rfl) ⟨Nat.zero_le _, Nat.zero_le _⟩ dX7_told_150 (fun H locs hH => ?_)
                    obtain rfl := some_i1 h
                    exact x_iret hC hH hr rfl dX7_told_153
                  · have h := ite_f c21 h
                    refine lv_tswd (tgt := 154) hx hb [0, 1, 2, 3, 4, 5, 6, 7] (by simp only [List.mem_cons, List.not_mem_nil, or_false]; intro z hz; rcases hz with rfl | rfl | rfl | rfl | rfl | rfl | rfl | rfl <;> first | exact i32ne c4 (by decide) | exact i32ne c6 (by decide) | exact i32ne c8 (by decide) | exact i32ne c10 (by decide) | exact i32ne c13 (by decide) | exact i32ne c15 (by decide) | exact i32ne c17 (by decide) | exact i32ne c21 (by decide)) dX7_told_15 (by decide) (by decide) (by decide) ?_
                    refine lv_ldc (v := -1000000001) hx hb hown (hts _ wkX7_89) dX7_told_154 ?_
                    obtain rfl := some_i1 h
                    exact x_iret (v := -1000000001) hC hH hr rfl dX7_told_156
  · have h := ite_t c3 h
    refine lv_ldc (v := -1000000001) hx hb hown (hts _ wkX7_89) dX7_told_11 ?_
    obtain rfl := some_i1 h
    exact x_iret (v := -1000000001) hC hH hr rfl dX7_told_13

def rmX_as : Room := { frames := 2, cells := 0, slots := 0, locals := 42 }
theorem hdX7_as : yX7_as.cls = RX7 ∧ yX7_as.cls ≠ "java/lang/invoke/MethodHandle" ∧ yX7_as.cls ≠ "java/lang/invoke/VarHandle" ∧ (parseMethodDescriptor yX7_as.desc).map (fun d => d.parameters.length) = some 2 := by decide +kernel

def fX_as (σ0 : XS) (x1 : Int32) (x2 : Int32) : Option (Int32) :=
  ob (fB_has σ0 0 x1) fun r2 =>
  if r2 = 0 then (
    some (-1000000001 : Int32))
  else (
    ob (fX_isKind σ0 x2) fun r5 =>
    if r5 = 0 then (
      some (-1000000001 : Int32))
    else (
      ck x1 (14) <|
      ob (fK_isOf σ0 (xi σ0 (30 + 6 * 0 + 0) (x1).toNatClampNeg) x2) fun r9 =>
      if r9 = 0 then (
        some (-1000000012 : Int32))
      else (
        ck x1 (14) <|
        some (xi σ0 (30 + 6 * 0 + 1) (x1).toNatClampNeg))))

set_option maxHeartbeats 4000000 in
set_option maxRecDepth 100000 in
theorem cX_as (l : Launch) (G : XG) (σ0 : XS) (x1 : Int32) (x2 : Int32) {r : Int32} (h : fX_as σ0 x1 x2 = some r) : ∀ sz, Met l yX7_as (Cond.code yX7_as cX7_as 3 (some .int) :: Tw) rmX_as (xP G σ0 sz [.ref (xA G 0), .int x1, .int x2]) (xQi G σ0 sz σ0 r) 0 0 (va_A (xW G σ0) sz) := by
  intro sz
  refine Met.ofW (cc := cX7_as) (maxL := 3) (ret := (some .int)) (by decide) rfl ?_
  intro p e s m args below meth c s₁ Bd hml hv
  obtain ⟨hC, hr⟩ := jC_of Bd hml
  obtain ⟨rfl, rfl, hH⟩ := x_enter hv
  have hC : jC p s m _ meth c cX7_as 3 RX7 := hC
  have hx := hC.1.1
  have hb := hC.1.2.1
  have hown := hC.1.2.2.2.1
  have hts := hC.1.2.2.2.2
  have hl := lv_entry ([.ref (xA G 0), .int x1, .int x2]) (n := 3) (Nat.le_of_ble_eq_true rfl)
  rw [lg_entry_eq]
  generalize (lg_sl ([.ref (xA G 0), .int x1, .int x2]) ++ List.replicate (3 - (lg_sl ([.ref (xA G 0), .int x1, .int x2])).length) Slot.unset).toArray = ls at hl ⊢
  have hl : lv_has ls 3 [(0, .ref (xA G 0)), (1, .int x1), (2, .int x2)] := hl
  unfold fX_as at h
  refine W_nm (fun H locs eH eL => ?_)
  have hH : xH G s (va_A (xW G σ0) s.heap.size) σ0 H locs := by rw [eH, eL]; exact hH
  show W p l e rmX_as s m _ below meth c H locs 0 0 _ (F0 m 0 ls [])
  refine lv_aload_n hx hb dX7_as_0 rfl (lv_at hl 0 rfl) ?_
  refine x_get (C := RX7) (T := TX7) (N := 14) (v := .ref (xA G (1 + 0))) hC hH (xe_X G σ0) rfl wyX7 0 (by decide) wfX7_10 rfl rfl dX7_as_1 ?_
  refine lv_iload_n hx hb dX7_as_4 rfl (lv_at hl 1 rfl) ?_
  obtain ⟨r2, h1, h⟩ := ob_some h
  refine x_calli (vw := (RX0, TX0, 12)) (As := [.int x1]) (rest := []) (cB_has l G σ0 0 x1 (by decide) h1) hC hH hl (xe_B G σ0 (by decide)) rfl (cwV 1 hts (gV wmX7_98 wvX0_has) rfl rfl rfl hdX0_has ⟨Nat.le_of_ble_eq_true rfl, Nat.le_of_ble_eq_true rfl⟩) rfl rfl (Nat.le_of_ble_eq_true rfl) ⟨Nat.zero_le _, Nat.zero_le _⟩ dX7_as_5 (fun H locs hH => ?_)
  refine lv_if_eq (tgt := 18) hx hb dX7_as_8 (by decide) (fun c3 => ?_) (fun c3 => ?_)
  · have h := ite_t c3 h
    refine lv_ldc (v := -1000000001) hx hb hown (hts _ wkX7_89) dX7_as_18 ?_
    obtain rfl := some_i1 h
    exact x_iret (v := -1000000001) hC hH hr rfl dX7_as_20
  · have h := ite_f c3 h
    refine lv_iload_n hx hb dX7_as_11 rfl (lv_at hl 2 rfl) ?_
    obtain ⟨r5, h4, h⟩ := ob_some h
    refine x_calls (As := [.int x2]) (rest := []) (cX_isKind l G σ0 x2  h4) hC hH hl (va_cwS 1 hts (gS wmX7_79 wsX7_isKind) rfl rfl rfl hdX7_isKind ⟨Nat.le_of_ble_eq_true rfl, Nat.le_of_ble_eq_true rfl⟩) rfl rfl (Nat.le_of_ble_eq_true rfl) ⟨Nat.zero_le _, Nat.zero_le _⟩ dX7_as_12 (fun H locs hH => ?_)
    refine lv_if_ne (tgt := 21) hx hb dX7_as_15 (by decide) (fun c6 => ?_) (fun c6 => ?_)
    · have h := ite_f c6 h
      refine lv_aload_n hx hb dX7_as_21 rfl (lv_at hl 0 rfl) ?_
      refine x_get (C := RX7) (T := TX7) (N := 14) (v := .ref (xA G (1 + 0))) hC hH (xe_X G σ0) rfl wyX7 0 (by decide) wfX7_10 rfl rfl dX7_as_22 ?_
      refine x_getN (C := RX0) (T := TX0) (N := 12) (v := .ref (xA G (100 + (30 + 6 * 0 + 0)))) (host := "RoadSorted") hC hH (xe_B G σ0 (by decide)) rfl wyX0 1 (by decide) (by decide +kernel) rfl rfl dX7_as_25 ?_
      refine lv_iload_n hx hb dX7_as_28 rfl (lv_at hl 1 rfl) ?_
      obtain ⟨i7, h⟩ := ck_some h
      refine x_ald hC hH (d := (30 + 6 * 0 + 0)) (xIs_b (by decide) (by decide)) (xLen_b (by decide) (by decide)) rfl i7 dX7_as_29 ?_
      refine lv_iload_n hx hb dX7_as_30 rfl (lv_at hl 2 rfl) ?_
      obtain ⟨r9, h8, h⟩ := ob_some h
      refine x_calls (As := [.int (xi σ0 (30 + 6 * 0 + 0) (x1).toNatClampNeg), .int x2]) (rest := []) (cK_isOf l G σ0 (xi σ0 (30 + 6 * 0 + 0) (x1).toNatClampNeg) x2  h8) hC hH hl (va_cwS 2 hts (gS wmX7_129 wsX1_isOf) rfl rfl rfl hdX1_isOf ⟨Nat.le_of_ble_eq_true rfl, Nat.le_of_ble_eq_true rfl⟩) rfl rfl (Nat.le_of_ble_eq_true rfl) ⟨Nat.zero_le _, Nat.zero_le _⟩ dX7_as_31 (fun H locs hH => ?_)
      refine lv_if_eq (tgt := 49) hx hb dX7_as_34 (by decide) (fun c10 => ?_) (fun c10 => ?_)
      · have h := ite_t c10 h
        refine lv_ldc (v := -1000000012) hx hb hown (hts _ wkX7_133) dX7_as_49 ?_
        obtain rfl := some_i1 h
        exact x_iret (v := -1000000012) hC hH hr rfl dX7_as_51
      · have h := ite_f c10 h
        refine lv_aload_n hx hb dX7_as_37 rfl (lv_at hl 0 rfl) ?_
        refine x_get (C := RX7) (T := TX7) (N := 14) (v := .ref (xA G (1 + 0))) hC hH (xe_X G σ0) rfl wyX7 0 (by decide) wfX7_10 rfl rfl dX7_as_38 ?_
        refine x_getN (C := RX0) (T := TX0) (N := 12) (v := .ref (xA G (100 + (30 + 6 * 0 + 1)))) (host := "RoadSorted") hC hH (xe_B G σ0 (by decide)) rfl wyX0 2 (by decide) (by decide +kernel) rfl rfl dX7_as_41 ?_
        refine lv_iload_n hx hb dX7_as_44 rfl (lv_at hl 1 rfl) ?_
        obtain ⟨i11, h⟩ := ck_some h
        refine x_ald hC hH (d := (30 + 6 * 0 + 1)) (xIs_b (by decide) (by decide)) (xLen_b (by decide) (by decide)) rfl i11 dX7_as_45 ?_
        refine lv_goto (tgt := 51) hx hb dX7_as_46 (by decide) ?_
        obtain rfl := some_i1 h
        exact x_iret hC hH hr rfl dX7_as_51
    · have h := ite_t c6 h
      refine lv_ldc (v := -1000000001) hx hb hown (hts _ wkX7_89) dX7_as_18 ?_
      obtain rfl := some_i1 h
      exact x_iret (v := -1000000001) hC hH hr rfl dX7_as_20

def rmX_turns : Room := { frames := 4, cells := 0, slots := 0, locals := 108 }
theorem hdX7_turns : yX7_turns.cls = RX7 ∧ yX7_turns.cls ≠ "java/lang/invoke/MethodHandle" ∧ yX7_turns.cls ≠ "java/lang/invoke/VarHandle" ∧ (parseMethodDescriptor yX7_turns.desc).map (fun d => d.parameters.length) = some 2 := by decide +kernel

def fX_turns (σ0 : XS) (x1 : Int32) (x2 : Int32) : Option (Int32 × XS) :=
  ob (fB_has σ0 0 x1) fun r2 =>
  if r2 = 0 then (
    some ((-1000000001 : Int32), σ0))
  else (
    ob (fX_isKind σ0 x2) fun r5 =>
    if r5 = 0 then (
      some ((-1000000001 : Int32), σ0))
    else (
      ck x1 (14) <|
      bnd (xi σ0 (30 + 6 * 0 + 0) (x1).toNatClampNeg) fun v8 =>
      ck x1 (14) <|
      ck x1 (14) <|
      ob (fB_become σ0 0 x1 x2 (xi σ0 (30 + 6 * 0 + 1) (x1).toNatClampNeg) (xi σ0 (30 + 6 * 0 + 2) (x1).toNatClampNeg)) fun σ13 =>
      some (v8, σ13)))

set_option maxHeartbeats 4000000 in
set_option maxRecDepth 100000 in
theorem cX_turns (l : Launch) (G : XG) (σ0 : XS) (x1 : Int32) (x2 : Int32) {r : Int32} {σr : XS} (h : fX_turns σ0 x1 x2 = some (r, σr)) : ∀ sz, Met l yX7_turns (Cond.code yX7_turns cX7_turns 4 (some .int) :: Tw) rmX_turns (xP G σ0 sz [.ref (xA G 0), .int x1, .int x2]) (xQi G σ0 sz σr r) 0 0 (va_A (xW G σ0) sz) := by
  intro sz
  refine Met.ofW (cc := cX7_turns) (maxL := 4) (ret := (some .int)) (by decide) rfl ?_
  intro p e s m args below meth c s₁ Bd hml hv
  obtain ⟨hC, hr⟩ := jC_of Bd hml
  obtain ⟨rfl, rfl, hH⟩ := x_enter hv
  have hC : jC p s m _ meth c cX7_turns 4 RX7 := hC
  have hx := hC.1.1
  have hb := hC.1.2.1
  have hown := hC.1.2.2.2.1
  have hts := hC.1.2.2.2.2
  have hl := lv_entry ([.ref (xA G 0), .int x1, .int x2]) (n := 4) (Nat.le_of_ble_eq_true rfl)
  rw [lg_entry_eq]
  generalize (lg_sl ([.ref (xA G 0), .int x1, .int x2]) ++ List.replicate (4 - (lg_sl ([.ref (xA G 0), .int x1, .int x2])).length) Slot.unset).toArray = ls at hl ⊢
  have hl : lv_has ls 4 [(0, .ref (xA G 0)), (1, .int x1), (2, .int x2)] := hl
  unfold fX_turns at h
  refine W_nm (fun H locs eH eL => ?_)
  have hH : xH G s (va_A (xW G σ0) s.heap.size) σ0 H locs := by rw [eH, eL]; exact hH
  show W p l e rmX_turns s m _ below meth c H locs 0 0 _ (F0 m 0 ls [])
  refine lv_aload_n hx hb dX7_turns_0 rfl (lv_at hl 0 rfl) ?_
  refine x_get (C := RX7) (T := TX7) (N := 14) (v := .ref (xA G (1 + 0))) hC hH (xe_X G σ0) rfl wyX7 0 (by decide) wfX7_10 rfl rfl dX7_turns_1 ?_
  refine lv_iload_n hx hb dX7_turns_4 rfl (lv_at hl 1 rfl) ?_
  obtain ⟨r2, h1, h⟩ := ob_some h
  refine x_calli (vw := (RX0, TX0, 12)) (As := [.int x1]) (rest := []) (cB_has l G σ0 0 x1 (by decide) h1) hC hH hl (xe_B G σ0 (by decide)) rfl (cwV 1 hts (gV wmX7_98 wvX0_has) rfl rfl rfl hdX0_has ⟨Nat.le_of_ble_eq_true rfl, Nat.le_of_ble_eq_true rfl⟩) rfl rfl (Nat.le_of_ble_eq_true rfl) ⟨Nat.zero_le _, Nat.zero_le _⟩ dX7_turns_5 (fun H locs hH => ?_)
  refine lv_if_eq (tgt := 18) hx hb dX7_turns_8 (by decide) (fun c3 => ?_) (fun c3 => ?_)
  · have h := ite_t c3 h
    refine lv_ldc (v := -1000000001) hx hb hown (hts _ wkX7_89) dX7_turns_18 ?_
    obtain ⟨rfl, rfl⟩ := some_i2 h
    exact x_iret (v := -1000000001) hC hH hr rfl dX7_turns_20
  · have h := ite_f c3 h
    refine lv_iload_n hx hb dX7_turns_11 rfl (lv_at hl 2 rfl) ?_
    obtain ⟨r5, h4, h⟩ := ob_some h
    refine x_calls (As := [.int x2]) (rest := []) (cX_isKind l G σ0 x2  h4) hC hH hl (va_cwS 1 hts (gS wmX7_79 wsX7_isKind) rfl rfl rfl hdX7_isKind ⟨Nat.le_of_ble_eq_true rfl, Nat.le_of_ble_eq_true rfl⟩) rfl rfl (Nat.le_of_ble_eq_true rfl) ⟨Nat.zero_le _, Nat.zero_le _⟩ dX7_turns_12 (fun H locs hH => ?_)
    refine lv_if_ne (tgt := 21) hx hb dX7_turns_15 (by decide) (fun c6 => ?_) (fun c6 => ?_)
    · have h := ite_f c6 h
      refine lv_aload_n hx hb dX7_turns_21 rfl (lv_at hl 0 rfl) ?_
      refine x_get (C := RX7) (T := TX7) (N := 14) (v := .ref (xA G (1 + 0))) hC hH (xe_X G σ0) rfl wyX7 0 (by decide) wfX7_10 rfl rfl dX7_turns_22 ?_
      refine x_getN (C := RX0) (T := TX0) (N := 12) (v := .ref (xA G (100 + (30 + 6 * 0 + 0)))) (host := "RoadSorted") hC hH (xe_B G σ0 (by decide)) rfl wyX0 1 (by decide) (by decide +kernel) rfl rfl dX7_turns_25 ?_
      refine lv_iload_n hx hb dX7_turns_28 rfl (lv_at hl 1 rfl) ?_
      obtain ⟨i7, h⟩ := ck_some h
      refine x_ald hC hH (d := (30 + 6 * 0 + 0)) (xIs_b (by decide) (by decide)) (xLen_b (by decide) (by decide)) rfl i7 dX7_turns_29 ?_
      obtain ⟨v8, e9, h⟩ := bnd_some h
      refine lv_tope e9 ?_
      refine lv_istore_n (lv' := [(3, .int v8), (0, .ref (xA G 0)), (1, .int x1), (2, .int x2)]) hx hb dX7_turns_30 rfl hl (by decide) rfl (fun ls hl => ?_)
      refine lv_aload_n hx hb dX7_turns_31 rfl (lv_at hl 1 rfl) ?_
      refine x_get (C := RX7) (T := TX7) (N := 14) (v := .ref (xA G (1 + 0))) hC hH (xe_X G σ0) rfl wyX7 0 (by decide) wfX7_10 rfl rfl dX7_turns_32 ?_
      refine lv_iload_n hx hb dX7_turns_35 rfl (lv_at hl 2 rfl) ?_
      refine lv_iload_n hx hb dX7_turns_36 rfl (lv_at hl 3 rfl) ?_
      refine lv_aload_n hx hb dX7_turns_37 rfl (lv_at hl 1 rfl) ?_
      refine x_get (C := RX7) (T := TX7) (N := 14) (v := .ref (xA G (1 + 0))) hC hH (xe_X G σ0) rfl wyX7 0 (by decide) wfX7_10 rfl rfl dX7_turns_38 ?_
      refine x_getN (C := RX0) (T := TX0) (N := 12) (v := .ref (xA G (100 + (30 + 6 * 0 + 1)))) (host := "RoadSorted") hC hH (xe_B G σ0 (by decide)) rfl wyX0 2 (by decide) (by decide +kernel) rfl rfl dX7_turns_41 ?_
      refine lv_iload_n hx hb dX7_turns_44 rfl (lv_at hl 2 rfl) ?_
      obtain ⟨i10, h⟩ := ck_some h
      refine x_ald hC hH (d := (30 + 6 * 0 + 1)) (xIs_b (by decide) (by decide)) (xLen_b (by decide) (by decide)) rfl i10 dX7_turns_45 ?_
      refine lv_aload_n hx hb dX7_turns_46 rfl (lv_at hl 1 rfl) ?_
      refine x_get (C := RX7) (T := TX7) (N := 14) (v := .ref (xA G (1 + 0))) hC hH (xe_X G σ0) rfl wyX7 0 (by decide) wfX7_10 rfl rfl dX7_turns_47 ?_
      refine x_getN (C := RX0) (T := TX0) (N := 12) (v := .ref (xA G (100 + (30 + 6 * 0 + 2)))) (host := "RoadSorted") hC hH (xe_B G σ0 (by decide)) rfl wyX0 3 (by decide) (by decide +kernel) rfl rfl dX7_turns_50 ?_
      refine lv_iload_n hx hb dX7_turns_53 rfl (lv_at hl 2 rfl) ?_
      obtain ⟨i11, h⟩ := ck_some h
      refine x_ald hC hH (d := (30 + 6 * 0 + 2)) (xIs_b (by decide) (by decide)) (xLen_b (by decide) (by decide)) rfl i11 dX7_turns_54 ?_
      obtain ⟨σ13, h12, h⟩ := ob_some h
      refine x_callv (vw := (RX0, TX0, 12)) (As := [.int x1, .int x2, .int (xi σ0 (30 + 6 * 0 + 1) (x1).toNatClampNeg), .int (xi σ0 (30 + 6 * 0 + 2) (x1).toNatClampNeg)]) (rest := []) (cB_become l G σ0 0 x1 x2 (xi σ0 (30 + 6 * 0 + 1) (x1).toNatClampNeg) (xi σ0 (30 + 6 * 0 + 2) (x1).toNatClampNeg) (by decide) h12) hC hH hl (xe_B G σ0 (by decide)) rfl (cwV 4 hts (gV wmX7_134 wvX0_become) rfl rfl rfl hdX0_become ⟨Nat.le_of_ble_eq_true rfl, Nat.le_of_ble_eq_true rfl⟩) rfl rfl (Nat.le_of_ble_eq_true rfl) ⟨Nat.zero_le _, Nat.zero_le _⟩ dX7_turns_55 (fun H locs hH => ?_)
      refine lv_iload_n hx hb dX7_turns_58 rfl (lv_at hl 0 rfl) ?_
      obtain ⟨rfl, rfl⟩ := some_i2 h
      exact x_iret hC hH hr rfl dX7_turns_59
    · have h := ite_t c6 h
      refine lv_ldc (v := -1000000001) hx hb hown (hts _ wkX7_89) dX7_turns_18 ?_
      obtain ⟨rfl, rfl⟩ := some_i2 h
      exact x_iret (v := -1000000001) hC hH hr rfl dX7_turns_20

def rmX_set : Room := { frames := 4, cells := 0, slots := 0, locals := 108 }
theorem hdX7_set : yX7_set.cls = RX7 ∧ yX7_set.cls ≠ "java/lang/invoke/MethodHandle" ∧ yX7_set.cls ≠ "java/lang/invoke/VarHandle" ∧ (parseMethodDescriptor yX7_set.desc).map (fun d => d.parameters.length) = some 3 := by decide +kernel

def fX_set_J71 (x1 : Int32) (x2 : Int32) (x3 : Int32) (x4 : Int32) (x5 : Int32) (σ : XS) : Option (Int32 × XS) :=
  if x2 = (2 : Int32) then (
    ob (fX_isTown σ x3) fun r13 =>
    if r13 = 0 then (
      some ((-1000000001 : Int32), σ))
    else (
      ck x1 (14) <|
      ob (fB_become σ 0 x1 (xi σ (30 + 6 * 0 + 0) (x1).toNatClampNeg) x4 x3) fun σ17 =>
      some (x5, σ17)))
  else (
    some ((-1000000001 : Int32), σ))

set_option maxHeartbeats 4000000 in
set_option maxRecDepth 100000 in
theorem wX_set_J71 {p : Program} {l : Launch} {e : Env} {s : State} {m : MethodId} {args : Array Value} {below : List Frame} {meth : Method} {c : Code} {G : XG} {σ0 : XS} {r : Int32} {σr : XS} (hC : jC p s m args meth c cX7_set 6 RX7) (hr : meth.sig.returnType = some .int) (x1 : Int32) (x2 : Int32) (x3 : Int32) (x4 : Int32) (x5 : Int32) (σ : XS) (H : Heap) (locs : List Loc) (ls : Array Slot) (hH : xH G s (va_A (xW G σ0) s.heap.size) σ H locs) (hl : lv_has ls 6 [(0, .ref (xA G 0)), (1, .int x1), (2, .int x2), (3, .int x3), (4, .int x4), (5, .int x5)]) (h : fX_set_J71 x1 x2 x3 x4 x5 σ = some (r, σr)) : W p l e rmX_set s m args below meth c H locs 0 0 (MQ below (xQi G σ0 s.heap.size σr r) args s 0 0 (va_A (xW G σ0) s.heap.size)) (F0 m 71 ls []) := by
  have hx := hC.1.1
  have hb := hC.1.2.1
  have hown := hC.1.2.2.2.1
  have hts := hC.1.2.2.2.2
  unfold fX_set_J71 at h
  refine lv_iload_n hx hb dX7_set_71 rfl (lv_at hl 2 rfl) ?_
  refine lv_iconst (v := 2) hx hb dX7_set_72 (by decide) ?_
  refine lv_icmp_ne (tgt := 106) hx hb dX7_set_73 (by decide) (fun c11 => ?_) (fun c11 => ?_)
  · have h := ite_f c11 h
    refine lv_ldc (v := -1000000001) hx hb hown (hts _ wkX7_89) dX7_set_106 ?_
    obtain ⟨rfl, rfl⟩ := some_i2 h
    exact x_iret (v := -1000000001) hC hH hr rfl dX7_set_108
  · have h := ite_t c11 h
    refine lv_iload_n hx hb dX7_set_76 rfl (lv_at hl 3 rfl) ?_
    obtain ⟨r13, h12, h⟩ := ob_some h
    refine x_calls (As := [.int x3]) (rest := []) (cX_isTown l G σ x3  h12) hC hH hl (va_cwS 1 hts (gS wmX7_86 wsX7_isTown) rfl rfl rfl hdX7_isTown ⟨Nat.le_of_ble_eq_true rfl, Nat.le_of_ble_eq_true rfl⟩) rfl rfl (Nat.le_of_ble_eq_true rfl) ⟨Nat.zero_le _, Nat.zero_le _⟩ dX7_set_77 (fun H locs hH => ?_)
    refine lv_if_eq (tgt := 106) hx hb dX7_set_80 (by decide) (fun c14 => ?_) (fun c14 => ?_)
    · have h := ite_t c14 h
      refine lv_ldc (v := -1000000001) hx hb hown (hts _ wkX7_89) dX7_set_106 ?_
      obtain ⟨rfl, rfl⟩ := some_i2 h
      exact x_iret (v := -1000000001) hC hH hr rfl dX7_set_108
    · have h := ite_f c14 h
      refine lv_aload_n hx hb dX7_set_83 rfl (lv_at hl 0 rfl) ?_
      refine x_get (C := RX7) (T := TX7) (N := 14) (v := .ref (xA G (1 + 0))) hC hH (xe_X G σ) rfl wyX7 0 (by decide) wfX7_10 rfl rfl dX7_set_84 ?_
      refine lv_iload_n hx hb dX7_set_87 rfl (lv_at hl 1 rfl) ?_
      refine lv_aload_n hx hb dX7_set_88 rfl (lv_at hl 0 rfl) ?_
      refine x_get (C := RX7) (T := TX7) (N := 14) (v := .ref (xA G (1 + 0))) hC hH (xe_X G σ) rfl wyX7 0 (by decide) wfX7_10 rfl rfl dX7_set_89 ?_
      refine x_getN (C := RX0) (T := TX0) (N := 12) (v := .ref (xA G (100 + (30 + 6 * 0 + 0)))) (host := "RoadSorted") hC hH (xe_B G σ (by decide)) rfl wyX0 1 (by decide) (by decide +kernel) rfl rfl dX7_set_92 ?_
      refine lv_iload_n hx hb dX7_set_95 rfl (lv_at hl 1 rfl) ?_
      obtain ⟨i15, h⟩ := ck_some h
      refine x_ald hC hH (d := (30 + 6 * 0 + 0)) (xIs_b (by decide) (by decide)) (xLen_b (by decide) (by decide)) rfl i15 dX7_set_96 ?_
      refine lv_iload hx hb dX7_set_97 (lv_at hl 4 rfl) ?_
      refine lv_iload_n hx hb dX7_set_99 rfl (lv_at hl 3 rfl) ?_
      obtain ⟨σ17, h16, h⟩ := ob_some h
      refine x_callv (vw := (RX0, TX0, 12)) (As := [.int x1, .int (xi σ (30 + 6 * 0 + 0) (x1).toNatClampNeg), .int x4, .int x3]) (rest := []) (cB_become l G σ 0 x1 (xi σ (30 + 6 * 0 + 0) (x1).toNatClampNeg) x4 x3 (by decide) h16) hC hH hl (xe_B G σ (by decide)) rfl (cwV 4 hts (gV wmX7_134 wvX0_become) rfl rfl rfl hdX0_become ⟨Nat.le_of_ble_eq_true rfl, Nat.le_of_ble_eq_true rfl⟩) rfl rfl (Nat.le_of_ble_eq_true rfl) ⟨Nat.zero_le _, Nat.zero_le _⟩ dX7_set_100 (fun H locs hH => ?_)
      refine lv_iload hx hb dX7_set_103 (lv_at hl 5 rfl) ?_
      obtain ⟨rfl, rfl⟩ := some_i2 h
      exact x_iret hC hH hr rfl dX7_set_105

def fX_set (σ0 : XS) (x1 : Int32) (x2 : Int32) (x3 : Int32) : Option (Int32 × XS) :=
  ob (fB_has σ0 0 x1) fun r2 =>
  if r2 = 0 then (
    some ((-1000000001 : Int32), σ0))
  else (
    ck x1 (14) <|
    bnd (xi σ0 (30 + 6 * 0 + 1) (x1).toNatClampNeg) fun v5 =>
    ck x1 (14) <|
    bnd (xi σ0 (30 + 6 * 0 + 2) (x1).toNatClampNeg) fun v8 =>
    if x2 = (1 : Int32) then (
      ob (fX_isThick σ0 x3) fun r19 =>
      if r19 = 0 then (
        fX_set_J71 x1 x2 x3 v5 v8 σ0)
      else (
        ck x1 (14) <|
        ob (fB_become σ0 0 x1 (xi σ0 (30 + 6 * 0 + 0) (x1).toNatClampNeg) x3 v8) fun σ23 =>
        some (v5, σ23)))
    else (
      fX_set_J71 x1 x2 x3 v5 v8 σ0))

set_option maxHeartbeats 4000000 in
set_option maxRecDepth 100000 in
theorem cX_set (l : Launch) (G : XG) (σ0 : XS) (x1 : Int32) (x2 : Int32) (x3 : Int32) {r : Int32} {σr : XS} (h : fX_set σ0 x1 x2 x3 = some (r, σr)) : ∀ sz, Met l yX7_set (Cond.code yX7_set cX7_set 6 (some .int) :: Tw) rmX_set (xP G σ0 sz [.ref (xA G 0), .int x1, .int x2, .int x3]) (xQi G σ0 sz σr r) 0 0 (va_A (xW G σ0) sz) := by
  intro sz
  refine Met.ofW (cc := cX7_set) (maxL := 6) (ret := (some .int)) (by decide) rfl ?_
  intro p e s m args below meth c s₁ Bd hml hv
  obtain ⟨hC, hr⟩ := jC_of Bd hml
  obtain ⟨rfl, rfl, hH⟩ := x_enter hv
  have hC : jC p s m _ meth c cX7_set 6 RX7 := hC
  have hx := hC.1.1
  have hb := hC.1.2.1
  have hown := hC.1.2.2.2.1
  have hts := hC.1.2.2.2.2
  have hl := lv_entry ([.ref (xA G 0), .int x1, .int x2, .int x3]) (n := 6) (Nat.le_of_ble_eq_true rfl)
  rw [lg_entry_eq]
  generalize (lg_sl ([.ref (xA G 0), .int x1, .int x2, .int x3]) ++ List.replicate (6 - (lg_sl ([.ref (xA G 0), .int x1, .int x2, .int x3])).length) Slot.unset).toArray = ls at hl ⊢
  have hl : lv_has ls 6 [(0, .ref (xA G 0)), (1, .int x1), (2, .int x2), (3, .int x3)] := hl
  unfold fX_set at h
  refine W_nm (fun H locs eH eL => ?_)
  have hH : xH G s (va_A (xW G σ0) s.heap.size) σ0 H locs := by rw [eH, eL]; exact hH
  show W p l e rmX_set s m _ below meth c H locs 0 0 _ (F0 m 0 ls [])
  refine lv_aload_n hx hb dX7_set_0 rfl (lv_at hl 0 rfl) ?_
  refine x_get (C := RX7) (T := TX7) (N := 14) (v := .ref (xA G (1 + 0))) hC hH (xe_X G σ0) rfl wyX7 0 (by decide) wfX7_10 rfl rfl dX7_set_1 ?_
  refine lv_iload_n hx hb dX7_set_4 rfl (lv_at hl 1 rfl) ?_
  obtain ⟨r2, h1, h⟩ := ob_some h
  refine x_calli (vw := (RX0, TX0, 12)) (As := [.int x1]) (rest := []) (cB_has l G σ0 0 x1 (by decide) h1) hC hH hl (xe_B G σ0 (by decide)) rfl (cwV 1 hts (gV wmX7_98 wvX0_has) rfl rfl rfl hdX0_has ⟨Nat.le_of_ble_eq_true rfl, Nat.le_of_ble_eq_true rfl⟩) rfl rfl (Nat.le_of_ble_eq_true rfl) ⟨Nat.zero_le _, Nat.zero_le _⟩ dX7_set_5 (fun H locs hH => ?_)
  refine lv_if_ne (tgt := 14) hx hb dX7_set_8 (by decide) (fun c3 => ?_) (fun c3 => ?_)
  · have h := ite_f c3 h
    refine lv_aload_n hx hb dX7_set_14 rfl (lv_at hl 0 rfl) ?_
    refine x_get (C := RX7) (T := TX7) (N := 14) (v := .ref (xA G (1 + 0))) hC hH (xe_X G σ0) rfl wyX7 0 (by decide) wfX7_10 rfl rfl dX7_set_15 ?_
    refine x_getN (C := RX0) (T := TX0) (N := 12) (v := .ref (xA G (100 + (30 + 6 * 0 + 1)))) (host := "RoadSorted") hC hH (xe_B G σ0 (by decide)) rfl wyX0 2 (by decide) (by decide +kernel) rfl rfl dX7_set_18 ?_
    refine lv_iload_n hx hb dX7_set_21 rfl (lv_at hl 1 rfl) ?_
    obtain ⟨i4, h⟩ := ck_some h
    refine x_ald hC hH (d := (30 + 6 * 0 + 1)) (xIs_b (by decide) (by decide)) (xLen_b (by decide) (by decide)) rfl i4 dX7_set_22 ?_
    obtain ⟨v5, e6, h⟩ := bnd_some h
    refine lv_tope e6 ?_
    refine lv_istore (lv' := [(4, .int v5), (0, .ref (xA G 0)), (1, .int x1), (2, .int x2), (3, .int x3)]) hx hb dX7_set_23 hl (by decide) rfl (fun ls hl => ?_)
    refine lv_aload_n hx hb dX7_set_25 rfl (lv_at hl 1 rfl) ?_
    refine x_get (C := RX7) (T := TX7) (N := 14) (v := .ref (xA G (1 + 0))) hC hH (xe_X G σ0) rfl wyX7 0 (by decide) wfX7_10 rfl rfl dX7_set_26 ?_
    refine x_getN (C := RX0) (T := TX0) (N := 12) (v := .ref (xA G (100 + (30 + 6 * 0 + 2)))) (host := "RoadSorted") hC hH (xe_B G σ0 (by decide)) rfl wyX0 3 (by decide) (by decide +kernel) rfl rfl dX7_set_29 ?_
    refine lv_iload_n hx hb dX7_set_32 rfl (lv_at hl 2 rfl) ?_
    obtain ⟨i7, h⟩ := ck_some h
    refine x_ald hC hH (d := (30 + 6 * 0 + 2)) (xIs_b (by decide) (by decide)) (xLen_b (by decide) (by decide)) rfl i7 dX7_set_33 ?_
    obtain ⟨v8, e9, h⟩ := bnd_some h
    refine lv_tope e9 ?_
    refine lv_istore (lv' := [(5, .int v8), (4, .int v5), (0, .ref (xA G 0)), (1, .int x1), (2, .int x2), (3, .int x3)]) hx hb dX7_set_34 hl (by decide) rfl (fun ls hl => ?_)
    refine lv_iload_n hx hb dX7_set_36 rfl (lv_at hl 4 rfl) ?_
    refine lv_iconst (v := 1) hx hb dX7_set_37 (by decide) ?_
    refine lv_icmp_ne (tgt := 71) hx hb dX7_set_38 (by decide) (fun c10 => ?_) (fun c10 => ?_)
    · have h := ite_f c10 h
      exact wX_set_J71 hC hr  x1 x2 x3 v5 v8 σ0 H locs ls  hH (lv_sub hl [2, 3, 4, 5, 1, 0] rfl) h
    · have h := ite_t c10 h
      refine lv_iload_n hx hb dX7_set_41 rfl (lv_at hl 5 rfl) ?_
      obtain ⟨r19, h18, h⟩ := ob_some h
      refine x_calls (As := [.int x3]) (rest := []) (cX_isThick l G σ0 x3  h18) hC hH hl (va_cwS 1 hts (gS wmX7_83 wsX7_isThick) rfl rfl rfl hdX7_isThick ⟨Nat.le_of_ble_eq_true rfl, Nat.le_of_ble_eq_true rfl⟩) rfl rfl (Nat.le_of_ble_eq_true rfl) ⟨Nat.zero_le _, Nat.zero_le _⟩ dX7_set_42 (fun H locs hH => ?_)
      refine lv_if_eq (tgt := 71) hx hb dX7_set_45 (by decide) (fun c20 => ?_) (fun c20 => ?_)
      · have h := ite_t c20 h
        exact wX_set_J71 hC hr  x1 x2 x3 v5 v8 σ0 H locs ls  hH (lv_sub hl [2, 3, 4, 5, 1, 0] rfl) h
      · have h := ite_f c20 h
        refine lv_aload_n hx hb dX7_set_48 rfl (lv_at hl 2 rfl) ?_
        refine x_get (C := RX7) (T := TX7) (N := 14) (v := .ref (xA G (1 + 0))) hC hH (xe_X G σ0) rfl wyX7 0 (by decide) wfX7_10 rfl rfl dX7_set_49 ?_
        refine lv_iload_n hx hb dX7_set_52 rfl (lv_at hl 3 rfl) ?_
        refine lv_aload_n hx hb dX7_set_53 rfl (lv_at hl 2 rfl) ?_
        refine x_get (C := RX7) (T := TX7) (N := 14) (v := .ref (xA G (1 + 0))) hC hH (xe_X G σ0) rfl wyX7 0 (by decide) wfX7_10 rfl rfl dX7_set_54 ?_
        refine x_getN (C := RX0) (T := TX0) (N := 12) (v := .ref (xA G (100 + (30 + 6 * 0 + 0)))) (host := "RoadSorted") hC hH (xe_B G σ0 (by decide)) rfl wyX0 1 (by decide) (by decide +kernel) rfl rfl dX7_set_57 ?_
        refine lv_iload_n hx hb dX7_set_60 rfl (lv_at hl 3 rfl) ?_
        obtain ⟨i21, h⟩ := ck_some h
        refine x_ald hC hH (d := (30 + 6 * 0 + 0)) (xIs_b (by decide) (by decide)) (xLen_b (by decide) (by decide)) rfl i21 dX7_set_61 ?_
        refine lv_iload_n hx hb dX7_set_62 rfl (lv_at hl 5 rfl) ?_
        refine lv_iload hx hb dX7_set_63 (lv_at hl 0 rfl) ?_
        obtain ⟨σ23, h22, h⟩ := ob_some h
        refine x_callv (vw := (RX0, TX0, 12)) (As := [.int x1, .int (xi σ0 (30 + 6 * 0 + 0) (x1).toNatClampNeg), .int x3, .int v8]) (rest := []) (cB_become l G σ0 0 x1 (xi σ0 (30 + 6 * 0 + 0) (x1).toNatClampNeg) x3 v8 (by decide) h22) hC hH hl (xe_B G σ0 (by decide)) rfl (cwV 4 hts (gV wmX7_134 wvX0_become) rfl rfl rfl hdX0_become ⟨Nat.le_of_ble_eq_true rfl, Nat.le_of_ble_eq_true rfl⟩) rfl rfl (Nat.le_of_ble_eq_true rfl) ⟨Nat.zero_le _, Nat.zero_le _⟩ dX7_set_65 (fun H locs hH => ?_)
        refine lv_iload hx hb dX7_set_68 (lv_at hl 1 rfl) ?_
        obtain ⟨rfl, rfl⟩ := some_i2 h
        exact x_iret hC hH hr rfl dX7_set_70
  · have h := ite_t c3 h
    refine lv_ldc (v := -1000000001) hx hb hown (hts _ wkX7_89) dX7_set_11 ?_
    obtain ⟨rfl, rfl⟩ := some_i2 h
    exact x_iret (v := -1000000001) hC hH hr rfl dX7_set_13

def rmX_puts : Room := { frames := 2, cells := 0, slots := 0, locals := 45 }
theorem hdX7_puts : yX7_puts.cls = RX7 ∧ yX7_puts.cls ≠ "java/lang/invoke/MethodHandle" ∧ yX7_puts.cls ≠ "java/lang/invoke/VarHandle" ∧ (parseMethodDescriptor yX7_puts.desc).map (fun d => d.parameters.length) = some 2 := by decide +kernel

def fX_puts (σ0 : XS) (x1 : Int32) (x2 : Int32) : Option (Int32 × XS) :=
  ob (fB_has σ0 0 x1) fun r2 =>
  if r2 = 0 then (
    some ((-1000000001 : Int32), σ0))
  else (
    ob (fB_has σ0 0 x2) fun r5 =>
    if r5 = 0 then (
      some ((-1000000001 : Int32), σ0))
    else (
      ob (fB_placeOf σ0 0 x1) fun r8 =>
      ob (fB_move σ0 0 r8 x2) fun σ10 =>
      some (r8, σ10)))

set_option maxHeartbeats 4000000 in
set_option maxRecDepth 100000 in
theorem cX_puts (l : Launch) (G : XG) (σ0 : XS) (x1 : Int32) (x2 : Int32) {r : Int32} {σr : XS} (h : fX_puts σ0 x1 x2 = some (r, σr)) : ∀ sz, Met l yX7_puts (Cond.code yX7_puts cX7_puts 4 (some .int) :: Tw) rmX_puts (xP G σ0 sz [.ref (xA G 0), .int x1, .int x2]) (xQi G σ0 sz σr r) 0 0 (va_A (xW G σ0) sz) := by
  intro sz
  refine Met.ofW (cc := cX7_puts) (maxL := 4) (ret := (some .int)) (by decide) rfl ?_
  intro p e s m args below meth c s₁ Bd hml hv
  obtain ⟨hC, hr⟩ := jC_of Bd hml
  obtain ⟨rfl, rfl, hH⟩ := x_enter hv
  have hC : jC p s m _ meth c cX7_puts 4 RX7 := hC
  have hx := hC.1.1
  have hb := hC.1.2.1
  have hown := hC.1.2.2.2.1
  have hts := hC.1.2.2.2.2
  have hl := lv_entry ([.ref (xA G 0), .int x1, .int x2]) (n := 4) (Nat.le_of_ble_eq_true rfl)
  rw [lg_entry_eq]
  generalize (lg_sl ([.ref (xA G 0), .int x1, .int x2]) ++ List.replicate (4 - (lg_sl ([.ref (xA G 0), .int x1, .int x2])).length) Slot.unset).toArray = ls at hl ⊢
  have hl : lv_has ls 4 [(0, .ref (xA G 0)), (1, .int x1), (2, .int x2)] := hl
  unfold fX_puts at h
  refine W_nm (fun H locs eH eL => ?_)
  have hH : xH G s (va_A (xW G σ0) s.heap.size) σ0 H locs := by rw [eH, eL]; exact hH
  show W p l e rmX_puts s m _ below meth c H locs 0 0 _ (F0 m 0 ls [])
  refine lv_aload_n hx hb dX7_puts_0 rfl (lv_at hl 0 rfl) ?_
  refine x_get (C := RX7) (T := TX7) (N := 14) (v := .ref (xA G (1 + 0))) hC hH (xe_X G σ0) rfl wyX7 0 (by decide) wfX7_10 rfl rfl dX7_puts_1 ?_
  refine lv_iload_n hx hb dX7_puts_4 rfl (lv_at hl 1 rfl) ?_
  obtain ⟨r2, h1, h⟩ := ob_some h
  refine x_calli (vw := (RX0, TX0, 12)) (As := [.int x1]) (rest := []) (cB_has l G σ0 0 x1 (by decide) h1) hC hH hl (xe_B G σ0 (by decide)) rfl (cwV 1 hts (gV wmX7_98 wvX0_has) rfl rfl rfl hdX0_has ⟨Nat.le_of_ble_eq_true rfl, Nat.le_of_ble_eq_true rfl⟩) rfl rfl (Nat.le_of_ble_eq_true rfl) ⟨Nat.zero_le _, Nat.zero_le _⟩ dX7_puts_5 (fun H locs hH => ?_)
  refine lv_if_eq (tgt := 22) hx hb dX7_puts_8 (by decide) (fun c3 => ?_) (fun c3 => ?_)
  · have h := ite_t c3 h
    refine lv_ldc (v := -1000000001) hx hb hown (hts _ wkX7_89) dX7_puts_22 ?_
    obtain ⟨rfl, rfl⟩ := some_i2 h
    exact x_iret (v := -1000000001) hC hH hr rfl dX7_puts_24
  · have h := ite_f c3 h
    refine lv_aload_n hx hb dX7_puts_11 rfl (lv_at hl 0 rfl) ?_
    refine x_get (C := RX7) (T := TX7) (N := 14) (v := .ref (xA G (1 + 0))) hC hH (xe_X G σ0) rfl wyX7 0 (by decide) wfX7_10 rfl rfl dX7_puts_12 ?_
    refine lv_iload_n hx hb dX7_puts_15 rfl (lv_at hl 2 rfl) ?_
    obtain ⟨r5, h4, h⟩ := ob_some h
    refine x_calli (vw := (RX0, TX0, 12)) (As := [.int x2]) (rest := []) (cB_has l G σ0 0 x2 (by decide) h4) hC hH hl (xe_B G σ0 (by decide)) rfl (cwV 1 hts (gV wmX7_98 wvX0_has) rfl rfl rfl hdX0_has ⟨Nat.le_of_ble_eq_true rfl, Nat.le_of_ble_eq_true rfl⟩) rfl rfl (Nat.le_of_ble_eq_true rfl) ⟨Nat.zero_le _, Nat.zero_le _⟩ dX7_puts_16 (fun H locs hH => ?_)
    refine lv_if_ne (tgt := 25) hx hb dX7_puts_19 (by decide) (fun c6 => ?_) (fun c6 => ?_)
    · have h := ite_f c6 h
      refine lv_aload_n hx hb dX7_puts_25 rfl (lv_at hl 0 rfl) ?_
      refine x_get (C := RX7) (T := TX7) (N := 14) (v := .ref (xA G (1 + 0))) hC hH (xe_X G σ0) rfl wyX7 0 (by decide) wfX7_10 rfl rfl dX7_puts_26 ?_
      refine lv_iload_n hx hb dX7_puts_29 rfl (lv_at hl 1 rfl) ?_
      obtain ⟨r8, h7, h⟩ := ob_some h
      refine x_calli (vw := (RX0, TX0, 12)) (As := [.int x1]) (rest := []) (cB_placeOf l G σ0 0 x1 (by decide) h7) hC hH hl (xe_B G σ0 (by decide)) rfl (cwV 1 hts (gV wmX7_110 wvX0_placeOf) rfl rfl rfl hdX0_placeOf ⟨Nat.le_of_ble_eq_true rfl, Nat.le_of_ble_eq_true rfl⟩) rfl rfl (Nat.le_of_ble_eq_true rfl) ⟨Nat.zero_le _, Nat.zero_le _⟩ dX7_puts_30 (fun H locs hH => ?_)
      refine lv_istore_n (lv' := [(3, .int r8), (0, .ref (xA G 0)), (1, .int x1), (2, .int x2)]) hx hb dX7_puts_33 rfl hl (by decide) rfl (fun ls hl => ?_)
      refine lv_aload_n hx hb dX7_puts_34 rfl (lv_at hl 1 rfl) ?_
      refine x_get (C := RX7) (T := TX7) (N := 14) (v := .ref (xA G (1 + 0))) hC hH (xe_X G σ0) rfl wyX7 0 (by decide) wfX7_10 rfl rfl dX7_puts_35 ?_
      refine lv_iload_n hx hb dX7_puts_38 rfl (lv_at hl 0 rfl) ?_
      refine lv_iload_n hx hb dX7_puts_39 rfl (lv_at hl 3 rfl) ?_
      obtain ⟨σ10, h9, h⟩ := ob_some h
      refine x_callv (vw := (RX0, TX0, 12)) (As := [.int r8, .int x2]) (rest := []) (cB_move l G σ0 0 r8 x2 (by decide) h9) hC hH hl (xe_B G σ0 (by decide)) rfl (cwV 2 hts (gV wmX7_138 wvX0_move) rfl rfl rfl hdX0_move ⟨Nat.le_of_ble_eq_true rfl, Nat.le_of_ble_eq_true rfl⟩) rfl rfl (Nat.le_of_ble_eq_true rfl) ⟨Nat.zero_le _, Nat.zero_le _⟩ dX7_puts_40 (fun H locs hH => ?_)
      refine lv_iload_n hx hb dX7_puts_43 rfl (lv_at hl 0 rfl) ?_
      obtain ⟨rfl, rfl⟩ := some_i2 h
      exact x_iret hC hH hr rfl dX7_puts_44
    · have h := ite_t c6 h
      refine lv_ldc (v := -1000000001) hx hb hown (hts _ wkX7_89) dX7_puts_22 ?_
      obtain ⟨rfl, rfl⟩ := some_i2 h
      exact x_iret (v := -1000000001) hC hH hr rfl dX7_puts_24

def rmX_at : Room := { frames := 1, cells := 0, slots := 0, locals := 21 }
theorem hdX7_at : yX7_at.cls = RX7 ∧ yX7_at.cls ≠ "java/lang/invoke/MethodHandle" ∧ yX7_at.cls ≠ "java/lang/invoke/VarHandle" ∧ (parseMethodDescriptor yX7_at.desc).map (fun d => d.parameters.length) = some 1 := by decide +kernel

def fX_at (σ0 : XS) (x1 : Int32) : Option (Int32) :=
  ob (fB_has σ0 0 x1) fun r2 =>
  if r2 = 0 then (
    some (-1000000001 : Int32))
  else (
    ck x1 (14) <|
    some (xi σ0 (30 + 6 * 0 + 5) (x1).toNatClampNeg))

set_option maxHeartbeats 4000000 in
set_option maxRecDepth 100000 in
theorem cX_at (l : Launch) (G : XG) (σ0 : XS) (x1 : Int32) {r : Int32} (h : fX_at σ0 x1 = some r) : ∀ sz, Met l yX7_at (Cond.code yX7_at cX7_at 2 (some .int) :: Tw) rmX_at (xP G σ0 sz [.ref (xA G 0), .int x1]) (xQi G σ0 sz σ0 r) 0 0 (va_A (xW G σ0) sz) := by
  intro sz
  refine Met.ofW (cc := cX7_at) (maxL := 2) (ret := (some .int)) (by decide) rfl ?_
  intro p e s m args below meth c s₁ Bd hml hv
  obtain ⟨hC, hr⟩ := jC_of Bd hml
  obtain ⟨rfl, rfl, hH⟩ := x_enter hv
  have hC : jC p s m _ meth c cX7_at 2 RX7 := hC
  have hx := hC.1.1
  have hb := hC.1.2.1
  have hown := hC.1.2.2.2.1
  have hts := hC.1.2.2.2.2
  have hl := lv_entry ([.ref (xA G 0), .int x1]) (n := 2) (Nat.le_of_ble_eq_true rfl)
  rw [lg_entry_eq]
  generalize (lg_sl ([.ref (xA G 0), .int x1]) ++ List.replicate (2 - (lg_sl ([.ref (xA G 0), .int x1])).length) Slot.unset).toArray = ls at hl ⊢
  have hl : lv_has ls 2 [(0, .ref (xA G 0)), (1, .int x1)] := hl
  unfold fX_at at h
  refine W_nm (fun H locs eH eL => ?_)
  have hH : xH G s (va_A (xW G σ0) s.heap.size) σ0 H locs := by rw [eH, eL]; exact hH
  show W p l e rmX_at s m _ below meth c H locs 0 0 _ (F0 m 0 ls [])
  refine lv_aload_n hx hb dX7_at_0 rfl (lv_at hl 0 rfl) ?_
  refine x_get (C := RX7) (T := TX7) (N := 14) (v := .ref (xA G (1 + 0))) hC hH (xe_X G σ0) rfl wyX7 0 (by decide) wfX7_10 rfl rfl dX7_at_1 ?_
  refine lv_iload_n hx hb dX7_at_4 rfl (lv_at hl 1 rfl) ?_
  obtain ⟨r2, h1, h⟩ := ob_some h
  refine x_calli (vw := (RX0, TX0, 12)) (As := [.int x1]) (rest := []) (cB_has l G σ0 0 x1 (by decide) h1) hC hH hl (xe_B G σ0 (by decide)) rfl (cwV 1 hts (gV wmX7_98 wvX0_has) rfl rfl rfl hdX0_has ⟨Nat.le_of_ble_eq_true rfl, Nat.le_of_ble_eq_true rfl⟩) rfl rfl (Nat.le_of_ble_eq_true rfl) ⟨Nat.zero_le _, Nat.zero_le _⟩ dX7_at_5 (fun H locs hH => ?_)
  refine lv_if_eq (tgt := 23) hx hb dX7_at_8 (by decide) (fun c3 => ?_) (fun c3 => ?_)
  · have h := ite_t c3 h
    refine lv_ldc (v := -1000000001) hx hb hown (hts _ wkX7_89) dX7_at_23 ?_
    obtain rfl := some_i1 h
    exact x_iret (v := -1000000001) hC hH hr rfl dX7_at_25
  · have h := ite_f c3 h
    refine lv_aload_n hx hb dX7_at_11 rfl (lv_at hl 0 rfl) ?_
    refine x_get (C := RX7) (T := TX7) (N := 14) (v := .ref (xA G (1 + 0))) hC hH (xe_X G σ0) rfl wyX7 0 (by decide) wfX7_10 rfl rfl dX7_at_12 ?_
    refine x_getN (C := RX0) (T := TX0) (N := 12) (v := .ref (xA G (100 + (30 + 6 * 0 + 5)))) (host := "RoadSorted") hC hH (xe_B G σ0 (by decide)) rfl wyX0 6 (by decide) (by decide +kernel) rfl rfl dX7_at_15 ?_
    refine lv_iload_n hx hb dX7_at_18 rfl (lv_at hl 1 rfl) ?_
    obtain ⟨i4, h⟩ := ck_some h
    refine x_ald hC hH (d := (30 + 6 * 0 + 5)) (xIs_b (by decide) (by decide)) (xLen_b (by decide) (by decide)) rfl i4 dX7_at_19 ?_
    refine lv_goto (tgt := 25) hx hb dX7_at_20 (by decide) ?_
    obtain rfl := some_i1 h
    exact x_iret hC hH hr rfl dX7_at_25

def rmX_halt : Room := { frames := 2, cells := 0, slots := 0, locals := 44 }
theorem hdX7_halt : yX7_halt.cls = RX7 ∧ yX7_halt.cls ≠ "java/lang/invoke/MethodHandle" ∧ yX7_halt.cls ≠ "java/lang/invoke/VarHandle" ∧ (parseMethodDescriptor yX7_halt.desc).map (fun d => d.parameters.length) = some 0 := by decide +kernel

def fX_halt (σ0 : XS) : Option (Int32 × XS) :=
  ob (fB_turnOver σ0 0) fun σ2 =>
  some ((xi σ2 (1 + 0) 0), σ2)

set_option maxHeartbeats 4000000 in
set_option maxRecDepth 100000 in
theorem cX_halt (l : Launch) (G : XG) (σ0 : XS) {r : Int32} {σr : XS} (h : fX_halt σ0 = some (r, σr)) : ∀ sz, Met l yX7_halt (Cond.code yX7_halt cX7_halt 1 (some .int) :: Tw) rmX_halt (xP G σ0 sz [.ref (xA G 0)]) (xQi G σ0 sz σr r) 0 0 (va_A (xW G σ0) sz) := by
  intro sz
  refine Met.ofW (cc := cX7_halt) (maxL := 1) (ret := (some .int)) (by decide) rfl ?_
  intro p e s m args below meth c s₁ Bd hml hv
  obtain ⟨hC, hr⟩ := jC_of Bd hml
  obtain ⟨rfl, rfl, hH⟩ := x_enter hv
  have hC : jC p s m _ meth c cX7_halt 1 RX7 := hC
  have hx := hC.1.1
  have hb := hC.1.2.1
  have hown := hC.1.2.2.2.1
  have hts := hC.1.2.2.2.2
  have hl := lv_entry ([.ref (xA G 0)]) (n := 1) (Nat.le_of_ble_eq_true rfl)
  rw [lg_entry_eq]
  generalize (lg_sl ([.ref (xA G 0)]) ++ List.replicate (1 - (lg_sl ([.ref (xA G 0)])).length) Slot.unset).toArray = ls at hl ⊢
  have hl : lv_has ls 1 [(0, .ref (xA G 0))] := hl
  unfold fX_halt at h
  refine W_nm (fun H locs eH eL => ?_)
  have hH : xH G s (va_A (xW G σ0) s.heap.size) σ0 H locs := by rw [eH, eL]; exact hH
  show W p l e rmX_halt s m _ below meth c H locs 0 0 _ (F0 m 0 ls [])
  refine lv_aload_n hx hb dX7_halt_0 rfl (lv_at hl 0 rfl) ?_
  refine x_get (C := RX7) (T := TX7) (N := 14) (v := .ref (xA G (1 + 0))) hC hH (xe_X G σ0) rfl wyX7 0 (by decide) wfX7_10 rfl rfl dX7_halt_1 ?_
  obtain ⟨σ2, h1, h⟩ := ob_some h
  refine x_callv (vw := (RX0, TX0, 12)) (As := []) (rest := []) (cB_turnOver l G σ0 0 (by decide) h1) hC hH hl (xe_B G σ0 (by decide)) rfl (cwV 0 hts (gV wmX7_145 wvX0_turnOver) rfl rfl rfl hdX0_turnOver ⟨Nat.le_of_ble_eq_true rfl, Nat.le_of_ble_eq_true rfl⟩) rfl rfl (Nat.le_of_ble_eq_true rfl) ⟨Nat.zero_le _, Nat.zero_le _⟩ dX7_halt_4 (fun H locs hH => ?_)
  refine lv_aload_n hx hb dX7_halt_7 rfl (lv_at hl 0 rfl) ?_
  refine x_get (C := RX7) (T := TX7) (N := 14) (v := .ref (xA G (1 + 0))) hC hH (xe_X G σ2) rfl wyX7 0 (by decide) wfX7_10 rfl rfl dX7_halt_8 ?_
  refine x_getN (C := RX0) (T := TX0) (N := 12) (v := .int (xi σ2 (1 + 0) 0)) (host := "RoadSorted") hC hH (xe_B G σ2 (by decide)) rfl wyX0 0 (by decide) (by decide +kernel) rfl rfl dX7_halt_11 ?_
  obtain ⟨rfl, rfl⟩ := some_i2 h
  exact x_iret hC hH hr rfl dX7_halt_14

def rmX_bump : Room := { frames := 1, cells := 0, slots := 0, locals := 22 }
theorem hdX7_bump : yX7_bump.cls = RX7 ∧ yX7_bump.cls ≠ "java/lang/invoke/MethodHandle" ∧ yX7_bump.cls ≠ "java/lang/invoke/VarHandle" ∧ (parseMethodDescriptor yX7_bump.desc).map (fun d => d.parameters.length) = some 1 := by decide +kernel

def fX_bump (σ0 : XS) (x1 : Int32) : Option (Int32 × XS) :=
  ob (fX_isWithin σ0 x1 (0 : Int32) (100 : Int32)) fun r2 =>
  if r2 = 0 then (
    some ((-1000000001 : Int32), σ0))
  else (
    bnd (xi σ0 (1 + 0) 7) fun v4 =>
    bnd (xu σ0 (1 + 0) 7 x1) fun σ6 =>
    some (v4, σ6))

set_option maxHeartbeats 4000000 in
set_option maxRecDepth 100000 in
theorem cX_bump (l : Launch) (G : XG) (σ0 : XS) (x1 : Int32) {r : Int32} {σr : XS} (h : fX_bump σ0 x1 = some (r, σr)) : ∀ sz, Met l yX7_bump (Cond.code yX7_bump cX7_bump 3 (some .int) :: Tw) rmX_bump (xP G σ0 sz [.ref (xA G 0), .int x1]) (xQi G σ0 sz σr r) 0 0 (va_A (xW G σ0) sz) := by
  intro sz
  refine Met.ofW (cc := cX7_bump) (maxL := 3) (ret := (some .int)) (by decide) rfl ?_
  intro p e s m args below meth c s₁ Bd hml hv
  obtain ⟨hC, hr⟩ := jC_of Bd hml
  obtain ⟨rfl, rfl, hH⟩ := x_enter hv
  have hC : jC p s m _ meth c cX7_bump 3 RX7 := hC
  have hx := hC.1.1
  have hb := hC.1.2.1
  have hown := hC.1.2.2.2.1
  have hts := hC.1.2.2.2.2
  have hl := lv_entry ([.ref (xA G 0), .int x1]) (n := 3) (Nat.le_of_ble_eq_true rfl)
  rw [lg_entry_eq]
  generalize (lg_sl ([.ref (xA G 0), .int x1]) ++ List.replicate (3 - (lg_sl ([.ref (xA G 0), .int x1])).length) Slot.unset).toArray = ls at hl ⊢
  have hl : lv_has ls 3 [(0, .ref (xA G 0)), (1, .int x1)] := hl
  unfold fX_bump at h
  refine W_nm (fun H locs eH eL => ?_)
  have hH : xH G s (va_A (xW G σ0) s.heap.size) σ0 H locs := by rw [eH, eL]; exact hH
  show W p l e rmX_bump s m _ below meth c H locs 0 0 _ (F0 m 0 ls [])
  refine lv_iload_n hx hb dX7_bump_0 rfl (lv_at hl 1 rfl) ?_
  refine lv_iconst (v := 0) hx hb dX7_bump_1 (by decide) ?_
  refine lv_bipush (v := 100) hx hb dX7_bump_2 (by decide) ?_
  obtain ⟨r2, h1, h⟩ := ob_some h
  refine x_calls (As := [.int x1, .int (0 : Int32), .int (100 : Int32)]) (rest := []) (cX_isWithin l G σ0 x1 (0 : Int32) (100 : Int32)  h1) hC hH hl (va_cwS 3 hts (gS wmX7_148 wsX7_isWithin) rfl rfl rfl hdX7_isWithin ⟨Nat.le_of_ble_eq_true rfl, Nat.le_of_ble_eq_true rfl⟩) rfl rfl (Nat.le_of_ble_eq_true rfl) ⟨Nat.zero_le _, Nat.zero_le _⟩ dX7_bump_4 (fun H locs hH => ?_)
  refine lv_if_ne (tgt := 13) hx hb dX7_bump_7 (by decide) (fun c3 => ?_) (fun c3 => ?_)
  · have h := ite_f c3 h
    refine lv_aload_n hx hb dX7_bump_13 rfl (lv_at hl 0 rfl) ?_
    refine x_get (C := RX7) (T := TX7) (N := 14) (v := .ref (xA G (1 + 0))) hC hH (xe_X G σ0) rfl wyX7 0 (by decide) wfX7_10 rfl rfl dX7_bump_14 ?_
    refine x_getN (C := RX0) (T := TX0) (N := 12) (v := .int (xi σ0 (1 + 0) 7)) (host := "RoadSorted") hC hH (xe_B G σ0 (by decide)) rfl wyX0 7 (by decide) (by decide +kernel) rfl rfl dX7_bump_17 ?_
    obtain ⟨v4, e5, h⟩ := bnd_some h
    refine lv_tope e5 ?_
    refine lv_istore_n (lv' := [(2, .int v4), (0, .ref (xA G 0)), (1, .int x1)]) hx hb dX7_bump_20 rfl hl (by decide) rfl (fun ls hl => ?_)
    refine lv_aload_n hx hb dX7_bump_21 rfl (lv_at hl 1 rfl) ?_
    refine x_get (C := RX7) (T := TX7) (N := 14) (v := .ref (xA G (1 + 0))) hC hH (xe_X G σ0) rfl wyX7 0 (by decide) wfX7_10 rfl rfl dX7_bump_22 ?_
    refine lv_iload_n hx hb dX7_bump_25 rfl (lv_at hl 2 rfl) ?_
    obtain ⟨σ6, e7, h⟩ := bnd_some h
    refine x_putN (C := RX0) (T := TX0) (N := 12) (ty := .int) (v := .int x1) (host := "RoadSorted") hC hH (xe_B G σ0 (by decide)) rfl wyX0 tyX0_ok nmX0 7 (by decide) (by decide +kernel) rfl rfl (by decide +kernel) rfl rfl (Nat.le_of_ble_eq_true rfl) e7 (xs_B_7 G σ0 (by decide) _) dX7_bump_26 (fun H locs hH => ?_)
    refine lv_iload_n hx hb dX7_bump_29 rfl (lv_at hl 0 rfl) ?_
    obtain ⟨rfl, rfl⟩ := some_i2 h
    exact x_iret hC hH hr rfl dX7_bump_30
  · have h := ite_t c3 h
    refine lv_ldc (v := -1000000001) hx hb hown (hts _ wkX7_89) dX7_bump_10 ?_
    obtain ⟨rfl, rfl⟩ := some_i2 h
    exact x_iret (v := -1000000001) hC hH hr rfl dX7_bump_12

def rmX_deal : Room := { frames := 5, cells := 0, slots := 0, locals := 132 }
theorem hdX7_deal : yX7_deal.cls = RX7 ∧ yX7_deal.cls ≠ "java/lang/invoke/MethodHandle" ∧ yX7_deal.cls ≠ "java/lang/invoke/VarHandle" ∧ (parseMethodDescriptor yX7_deal.desc).map (fun d => d.parameters.length) = some 1 := by decide +kernel

def fX_deal_L30 (k93 : Int32 → XS → Option (Int32 × XS)) : Nat → Int32 → Int32 → XS → Option (Int32 × XS)
  | 0, _, _, _ => none
  | n + 1, x2, x3, σ =>
    if x2 ≤ x3 then (
      k93 x2 σ)
    else (
      ob2 (fB_draw σ 0) fun r8 σ9 =>
      bnd (r8 - r8 / (6 : Int32) * (6 : Int32)) fun v10 =>
      ob2 (fB_draw σ9 0) fun r13 σ14 =>
      bnd ((1 : Int32) + (r13 - r13 / (99 : Int32) * (99 : Int32))) fun v15 =>
      ob2 (fB_draw σ14 0) fun r18 σ19 =>
      bnd (r18 - r18 / (10 : Int32) * (10 : Int32)) fun v20 =>
      ob2 (fB_add σ19 0 v10 v15 v20) fun r23 σ24 =>
      bnd (x3 + (1 : Int32)) fun v25 =>
      (fX_deal_L30 k93 n) x2 v25 σ24)

set_option maxHeartbeats 4000000 in
set_option maxRecDepth 100000 in
theorem wX_deal_L30 {p : Program} {l : Launch} {e : Env} {s : State} {m : MethodId} {args : Array Value} {below : List Frame} {meth : Method} {c : Code} {G : XG} {σ0 : XS} {r : Int32} {σr : XS} (hC : jC p s m args meth c cX7_deal 7 RX7) (hr : meth.sig.returnType = some .int) {k93 : Int32 → XS → Option (Int32 × XS)} (hk93 : ∀ (x2 : Int32) (σ : XS) (H : Heap) (locs : List Loc) (ls : Array Slot), xH G s (va_A (xW G σ0) s.heap.size) σ H locs → lv_has ls 7 [(2, .int x2)] → k93 x2 σ = some (r, σr) → W p l e rmX_deal s m args below meth c H locs 0 0 (MQ below (xQi G σ0 s.heap.size σr r) args s 0 0 (va_A (xW G σ0) s.heap.size)) (F0 m 93 ls [])) : ∀ (n : Nat) (x2 : Int32) (x3 : Int32) (σ : XS) (H : Heap) (locs : List Loc) (ls : Array Slot), xH G s (va_A (xW G σ0) s.heap.size) σ H locs → lv_has ls 7 [(0, .ref (xA G 0)), (2, .int x2), (3, .int x3)] → fX_deal_L30 k93 n x2 x3 σ = some (r, σr) → W p l e rmX_deal s m args below meth c H locs 0 0 (MQ below (xQi G σ0 s.heap.size σr r) args s 0 0 (va_A (xW G σ0) s.heap.size)) (F0 m 30 ls []) := by
  have hx := hC.1.1
  have hb := hC.1.2.1
  have hown := hC.1.2.2.2.1
  have hts := hC.1.2.2.2.2
  intro n
  induction n with
  | zero =>
    intro x2 x3 σ H locs ls  hH hl h
    rw [fX_deal_L30] at h
    cases h
  | succ n ih =>
    intro x2 x3 σ H locs ls  hH hl h
    rw [fX_deal_L30] at h
    refine lv_iload_n hx hb dX7_deal_30 rfl (lv_at hl 2 rfl) ?_
    refine lv_iload_n hx hb dX7_deal_31 rfl (lv_at hl 1 rfl) ?_
    refine lv_icmp_ge (tgt := 93) hx hb dX7_deal_32 (by decide) (fun c6 => ?_) (fun c6 => ?_)
    · have h := ite_t c6 h
      exact hk93 x2 σ H locs ls  hH (lv_sub hl [1] rfl) h
    · have h := ite_f c6 h
      refine lv_aload_n hx hb dX7_deal_35 rfl (lv_at hl 0 rfl) ?_
      refine x_get (C := RX7) (T := TX7) (N := 14) (v := .ref (xA G (1 + 0))) hC hH (xe_X G σ) rfl wyX7 0 (by decide) wfX7_10 rfl rfl dX7_deal_36 ?_
      obtain ⟨r8, σ9, h7, h⟩ := ob2_some h
      refine x_calli (vw := (RX0, TX0, 12)) (As := []) (rest := []) (cB_draw l G σ 0 (by decide) h7) hC hH hl (xe_B G σ (by decide)) rfl (cwV 0 hts (gV wmX7_160 wvX0_draw) rfl rfl rfl hdX0_draw ⟨Nat.le_of_ble_eq_true rfl, Nat.le_of_ble_eq_true rfl⟩) rfl rfl (Nat.le_of_ble_eq_true rfl) ⟨Nat.zero_le _, Nat.zero_le _⟩ dX7_deal_39 (fun H locs hH => ?_)
      refine lv_bipush (v := 6) hx hb dX7_deal_42 (by decide) ?_
      refine lv_irem hx hb dX7_deal_44 (by decide) ?_
      obtain ⟨v10, e11, h⟩ := bnd_some h
      refine lv_tope e11 ?_
      refine lv_istore (lv' := [(4, .int v10), (0, .ref (xA G 0)), (2, .int x2), (3, .int x3)]) hx hb dX7_deal_45 hl (by decide) rfl (fun ls hl => ?_)
      refine lv_iconst (v := 1) hx hb dX7_deal_47 (by decide) ?_
      refine lv_aload_n hx hb dX7_deal_48 rfl (lv_at hl 1 rfl) ?_
      refine x_get (C := RX7) (T := TX7) (N := 14) (v := .ref (xA G (1 + 0))) hC hH (xe_X G σ9) rfl wyX7 0 (by decide) wfX7_10 rfl rfl dX7_deal_49 ?_
      obtain ⟨r13, σ14, h12, h⟩ := ob2_some h
      refine x_calli (vw := (RX0, TX0, 12)) (As := []) (rest := [.int (1 : Int32)]) (cB_draw l G σ9 0 (by decide) h12) hC hH hl (xe_B G σ9 (by decide)) rfl (cwV 0 hts (gV wmX7_160 wvX0_draw) rfl rfl rfl hdX0_draw ⟨Nat.le_of_ble_eq_true rfl, Nat.le_of_ble_eq_true rfl⟩) rfl rfl (Nat.le_of_ble_eq_true rfl) ⟨Nat.zero_le _, Nat.zero_le _⟩ dX7_deal_52 (fun H locs hH => ?_)
      refine lv_bipush (v := 99) hx hb dX7_deal_55 (by decide) ?_
      refine lv_irem hx hb dX7_deal_57 (by decide) ?_
      refine lv_iadd hx hb dX7_deal_58 ?_
      obtain ⟨v15, e16, h⟩ := bnd_some h
      refine lv_tope e16 ?_
      refine lv_istore (lv' := [(5, .int v15), (4, .int v10), (0, .ref (xA G 0)), (2, .int x2), (3, .int x3)]) hx hb dX7_deal_59 hl (by decide) rfl (fun ls hl => ?_)
      refine lv_aload_n hx hb dX7_deal_61 rfl (lv_at hl 2 rfl) ?_
      refine x_get (C := RX7) (T := TX7) (N := 14) (v := .ref (xA G (1 + 0))) hC hH (xe_X G σ14) rfl wyX7 0 (by decide) wfX7_10 rfl rfl dX7_deal_62 ?_
      obtain ⟨r18, σ19, h17, h⟩ := ob2_some h
      refine x_calli (vw := (RX0, TX0, 12)) (As := []) (rest := []) (cB_draw l G σ14 0 (by decide) h17) hC hH hl (xe_B G σ14 (by decide)) rfl (cwV 0 hts (gV wmX7_160 wvX0_draw) rfl rfl rfl hdX0_draw ⟨Nat.le_of_ble_eq_true rfl, Nat.le_of_ble_eq_true rfl⟩) rfl rfl (Nat.le_of_ble_eq_true rfl) ⟨Nat.zero_le _, Nat.zero_le _⟩ dX7_deal_65 (fun H locs hH => ?_)
      refine lv_bipush (v := 10) hx hb dX7_deal_68 (by decide) ?_
      refine lv_irem hx hb dX7_deal_70 (by decide) ?_
      obtain ⟨v20, e21, h⟩ := bnd_some h
      refine lv_tope e21 ?_
      refine lv_istore (lv' := [(6, .int v20), (5, .int v15), (4, .int v10), (0, .ref (xA G 0)), (2, .int x2), (3, .int x3)]) hx hb dX7_deal_71 hl (by decide) rfl (fun ls hl => ?_)
      refine lv_aload_n hx hb dX7_deal_73 rfl (lv_at hl 3 rfl) ?_
      refine x_get (C := RX7) (T := TX7) (N := 14) (v := .ref (xA G (1 + 0))) hC hH (xe_X G σ19) rfl wyX7 0 (by decide) wfX7_10 rfl rfl dX7_deal_74 ?_
      refine lv_iload hx hb dX7_deal_77 (lv_at hl 2 rfl) ?_
      refine lv_iload hx hb dX7_deal_79 (lv_at hl 1 rfl) ?_
      refine lv_iload hx hb dX7_deal_81 (lv_at hl 0 rfl) ?_
      obtain ⟨r23, σ24, h22, h⟩ := ob2_some h
      refine x_calli (vw := (RX0, TX0, 12)) (As := [.int v10, .int v15, .int v20]) (rest := []) (cB_add l G σ19 0 v10 v15 v20 (by decide) h22) hC hH hl (xe_B G σ19 (by decide)) rfl (cwV 3 hts (gV wmX7_94 wvX0_add) rfl rfl rfl hdX0_add ⟨Nat.le_of_ble_eq_true rfl, Nat.le_of_ble_eq_true rfl⟩) rfl rfl (Nat.le_of_ble_eq_true rfl) ⟨Nat.zero_le _, Nat.zero_le _⟩ dX7_deal_83 (fun H locs hH => ?_)
      refine lv_pop hx hb dX7_deal_86 rfl ?_
      obtain ⟨v25, e26, h⟩ := bnd_some h
      refine lv_iinc (v := v25) (lv' := [(3, .int v25), (6, .int v20), (5, .int v15), (4, .int v10), (0, .ref (xA G 0)), (2, .int x2)]) hx hb dX7_deal_87 hl (k := 5) rfl (by rw [e26]; rfl) (by decide) rfl (fun ls hl => ?_)
      refine lv_goto (tgt := 30) hx hb dX7_deal_90 (by decide) ?_
      exact ih x2 v25 σ24 H locs ls  hH (lv_sub hl [4, 5, 0] rfl) h

def fX_deal (σ0 : XS) (x1 : Int32) : Option (Int32 × XS) :=
  ob (fX_isWithin σ0 x1 (1 : Int32) (14 : Int32)) fun r2 =>
  if r2 = 0 then (
    some ((-1000000001 : Int32), σ0))
  else (
    bnd (if ((14 : Int32) - (xi σ0 (1 + 0) 0)) < x1 then ((14 : Int32) - (xi σ0 (1 + 0) 0)) else x1) fun v4 =>
    fX_deal_L30 (fun (x2 : Int32) (σ : XS) => some (x2, σ)) 10000 v4 (0 : Int32) σ0)

set_option maxHeartbeats 4000000 in
set_option maxRecDepth 100000 in
theorem cX_deal (l : Launch) (G : XG) (σ0 : XS) (x1 : Int32) {r : Int32} {σr : XS} (h : fX_deal σ0 x1 = some (r, σr)) : ∀ sz, Met l yX7_deal (Cond.code yX7_deal cX7_deal 7 (some .int) :: Tw) rmX_deal (xP G σ0 sz [.ref (xA G 0), .int x1]) (xQi G σ0 sz σr r) 0 0 (va_A (xW G σ0) sz) := by
  intro sz
  refine Met.ofW (cc := cX7_deal) (maxL := 7) (ret := (some .int)) (by decide) rfl ?_
  intro p e s m args below meth c s₁ Bd hml hv
  obtain ⟨hC, hr⟩ := jC_of Bd hml
  obtain ⟨rfl, rfl, hH⟩ := x_enter hv
  have hC : jC p s m _ meth c cX7_deal 7 RX7 := hC
  have hx := hC.1.1
  have hb := hC.1.2.1
  have hown := hC.1.2.2.2.1
  have hts := hC.1.2.2.2.2
  have hl := lv_entry ([.ref (xA G 0), .int x1]) (n := 7) (Nat.le_of_ble_eq_true rfl)
  rw [lg_entry_eq]
  generalize (lg_sl ([.ref (xA G 0), .int x1]) ++ List.replicate (7 - (lg_sl ([.ref (xA G 0), .int x1])).length) Slot.unset).toArray = ls at hl ⊢
  have hl : lv_has ls 7 [(0, .ref (xA G 0)), (1, .int x1)] := hl
  unfold fX_deal at h
  refine W_nm (fun H locs eH eL => ?_)
  have hH : xH G s (va_A (xW G σ0) s.heap.size) σ0 H locs := by rw [eH, eL]; exact hH
  show W p l e rmX_deal s m _ below meth c H locs 0 0 _ (F0 m 0 ls [])
  refine lv_iload_n hx hb dX7_deal_0 rfl (lv_at hl 1 rfl) ?_
  refine lv_iconst (v := 1) hx hb dX7_deal_1 (by decide) ?_
  refine lv_bipush (v := 14) hx hb dX7_deal_2 (by decide) ?_
  obtain ⟨r2, h1, h⟩ := ob_some h
  refine x_calls (As := [.int x1, .int (1 : Int32), .int (14 : Int32)]) (rest := []) (cX_isWithin l G σ0 x1 (1 : Int32) (14 : Int32)  h1) hC hH hl (va_cwS 3 hts (gS wmX7_148 wsX7_isWithin) rfl rfl rfl hdX7_isWithin ⟨Nat.le_of_ble_eq_true rfl, Nat.le_of_ble_eq_true rfl⟩) rfl rfl (Nat.le_of_ble_eq_true rfl) ⟨Nat.zero_le _, Nat.zero_le _⟩ dX7_deal_4 (fun H locs hH => ?_)
  refine lv_if_ne (tgt := 13) hx hb dX7_deal_7 (by decide) (fun c3 => ?_) (fun c3 => ?_)
  · have h := ite_f c3 h
    refine lv_iload_n hx hb dX7_deal_13 rfl (lv_at hl 1 rfl) ?_
    refine lv_bipush (v := 14) hx hb dX7_deal_14 (by decide) ?_
    refine lv_aload_n hx hb dX7_deal_16 rfl (lv_at hl 0 rfl) ?_
    refine x_get (C := RX7) (T := TX7) (N := 14) (v := .ref (xA G (1 + 0))) hC hH (xe_X G σ0) rfl wyX7 0 (by decide) wfX7_10 rfl rfl dX7_deal_17 ?_
    refine x_getN (C := RX0) (T := TX0) (N := 12) (v := .int (xi σ0 (1 + 0) 0)) (host := "RoadSorted") hC hH (xe_B G σ0 (by decide)) rfl wyX0 0 (by decide) (by decide +kernel) rfl rfl dX7_deal_20 ?_
    refine lv_isub hx hb dX7_deal_23 ?_
    refine va_mmin hx hb (hC.1.2.2.1.trans hl.1.symm) hown (hts _ wmX7_155) (hts _ wMa_min.1) (hts _ wMa_min.2.1) (hts _ wMa_min.2.2) (Nat.le_of_ble_eq_true rfl) (Nat.le_of_ble_eq_true rfl) (Nat.zero_le _) (Nat.zero_le _) dX7_deal_24 ?_
    obtain ⟨v4, e5, h⟩ := bnd_some h
    refine lv_tope e5 ?_
    refine lv_istore_n (lv' := [(2, .int v4), (0, .ref (xA G 0)), (1, .int x1)]) hx hb dX7_deal_27 rfl hl (by decide) rfl (fun ls hl => ?_)
    refine lv_iconst (v := 0) hx hb dX7_deal_28 (by decide) ?_
    refine lv_istore_n (lv' := [(3, .int (0 : Int32)), (2, .int v4), (0, .ref (xA G 0)), (1, .int x1)]) hx hb dX7_deal_29 rfl hl (by decide) rfl (fun ls hl => ?_)
    refine wX_deal_L30 hC hr  ?_ 10000 v4 (0 : Int32) σ0 H locs ls  hH (lv_sub hl [2, 1, 0] rfl) h
    intro x2 σ H locs ls  hH hl h
    refine lv_iload_n hx hb dX7_deal_93 rfl (lv_at hl 0 rfl) ?_
    obtain ⟨rfl, rfl⟩ := some_i2 h
    exact x_iret hC hH hr rfl dX7_deal_94
  · have h := ite_t c3 h
    refine lv_ldc (v := -1000000001) hx hb hown (hts _ wkX7_89) dX7_deal_10 ?_
    obtain ⟨rfl, rfl⟩ := some_i2 h
    exact x_iret (v := -1000000001) hC hH hr rfl dX7_deal_12

def rmX_seed : Room := { frames := 0, cells := 0, slots := 0, locals := 0 }
theorem hdX7_seed : yX7_seed.cls = RX7 ∧ yX7_seed.cls ≠ "java/lang/invoke/MethodHandle" ∧ yX7_seed.cls ≠ "java/lang/invoke/VarHandle" ∧ (parseMethodDescriptor yX7_seed.desc).map (fun d => d.parameters.length) = some 1 := by decide +kernel

def fX_seed (σ0 : XS) (x1 : Int32) : Option (Int32 × XS) :=
  bnd (xi σ0 (1 + 0) 10) fun v1 =>
  bnd (xu σ0 (1 + 0) 10 x1) fun σ3 =>
  some (v1, σ3)

set_option maxHeartbeats 4000000 in
set_option maxRecDepth 100000 in
theorem cX_seed (l : Launch) (G : XG) (σ0 : XS) (x1 : Int32) {r : Int32} {σr : XS} (h : fX_seed σ0 x1 = some (r, σr)) : ∀ sz, Met l yX7_seed (Cond.code yX7_seed cX7_seed 3 (some .int) :: Tw) rmX_seed (xP G σ0 sz [.ref (xA G 0), .int x1]) (xQi G σ0 sz σr r) 0 0 (va_A (xW G σ0) sz) := by
  intro sz
  refine Met.ofW (cc := cX7_seed) (maxL := 3) (ret := (some .int)) (by decide) rfl ?_
  intro p e s m args below meth c s₁ Bd hml hv
  obtain ⟨hC, hr⟩ := jC_of Bd hml
  obtain ⟨rfl, rfl, hH⟩ := x_enter hv
  have hC : jC p s m _ meth c cX7_seed 3 RX7 := hC
  have hx := hC.1.1
  have hb := hC.1.2.1
  have hown := hC.1.2.2.2.1
  have hts := hC.1.2.2.2.2
  have hl := lv_entry ([.ref (xA G 0), .int x1]) (n := 3) (Nat.le_of_ble_eq_true rfl)
  rw [lg_entry_eq]
  generalize (lg_sl ([.ref (xA G 0), .int x1]) ++ List.replicate (3 - (lg_sl ([.ref (xA G 0), .int x1])).length) Slot.unset).toArray = ls at hl ⊢
  have hl : lv_has ls 3 [(0, .ref (xA G 0)), (1, .int x1)] := hl
  unfold fX_seed at h
  refine W_nm (fun H locs eH eL => ?_)
  have hH : xH G s (va_A (xW G σ0) s.heap.size) σ0 H locs := by rw [eH, eL]; exact hH
  show W p l e rmX_seed s m _ below meth c H locs 0 0 _ (F0 m 0 ls [])
  refine lv_aload_n hx hb dX7_seed_0 rfl (lv_at hl 0 rfl) ?_
  refine x_get (C := RX7) (T := TX7) (N := 14) (v := .ref (xA G (1 + 0))) hC hH (xe_X G σ0) rfl wyX7 0 (by decide) wfX7_10 rfl rfl dX7_seed_1 ?_
  refine x_getN (C := RX0) (T := TX0) (N := 12) (v := .int (xi σ0 (1 + 0) 10)) (host := "RoadSorted") hC hH (xe_B G σ0 (by decide)) rfl wyX0 10 (by decide) (by decide +kernel) rfl rfl dX7_seed_4 ?_
  obtain ⟨v1, e2, h⟩ := bnd_some h
  refine lv_tope e2 ?_
  refine lv_istore_n (lv' := [(2, .int v1), (0, .ref (xA G 0)), (1, .int x1)]) hx hb dX7_seed_7 rfl hl (by decide) rfl (fun ls hl => ?_)
  refine lv_aload_n hx hb dX7_seed_8 rfl (lv_at hl 1 rfl) ?_
  refine x_get (C := RX7) (T := TX7) (N := 14) (v := .ref (xA G (1 + 0))) hC hH (xe_X G σ0) rfl wyX7 0 (by decide) wfX7_10 rfl rfl dX7_seed_9 ?_
  refine lv_iload_n hx hb dX7_seed_12 rfl (lv_at hl 2 rfl) ?_
  obtain ⟨σ3, e4, h⟩ := bnd_some h
  refine x_putN (C := RX0) (T := TX0) (N := 12) (ty := .int) (v := .int x1) (host := "RoadSorted") hC hH (xe_B G σ0 (by decide)) rfl wyX0 tyX0_ok nmX0 10 (by decide) (by decide +kernel) rfl rfl (by decide +kernel) rfl rfl (Nat.le_of_ble_eq_true rfl) e4 (xs_B_10 G σ0 (by decide) _) dX7_seed_13 (fun H locs hH => ?_)
  refine lv_iload_n hx hb dX7_seed_16 rfl (lv_at hl 0 rfl) ?_
  obtain ⟨rfl, rfl⟩ := some_i2 h
  exact x_iret hC hH hr rfl dX7_seed_17

def rmX_jolts : Room := { frames := 5, cells := 0, slots := 0, locals := 127 }
theorem hdX7_jolts : yX7_jolts.cls = RX7 ∧ yX7_jolts.cls ≠ "java/lang/invoke/MethodHandle" ∧ yX7_jolts.cls ≠ "java/lang/invoke/VarHandle" ∧ (parseMethodDescriptor yX7_jolts.desc).map (fun d => d.parameters.length) = some 1 := by decide +kernel

def fX_jolts (σ0 : XS) (x1 : Int32) : Option (Int32 × XS) :=
  ob (fX_isWithin σ0 x1 (1 : Int32) (100 : Int32)) fun r2 =>
  if r2 = 0 then (
    some ((-1000000001 : Int32), σ0))
  else (
    bnd (xi σ0 (1 + 0) 8) fun v4 =>
    ob (fB_ride σ0 0 (if ((9999 : Int32) - (xi σ0 (1 + 0) 9)) < x1 then ((9999 : Int32) - (xi σ0 (1 + 0) 9)) else x1)) fun σ7 =>
    some (((xi σ7 (1 + 0) 8) - v4), σ7))

set_option maxHeartbeats 4000000 in
set_option maxRecDepth 100000 in
theorem cX_jolts (l : Launch) (G : XG) (σ0 : XS) (x1 : Int32) {r : Int32} {σr : XS} (h : fX_jolts σ0 x1 = some (r, σr)) : ∀ sz, Met l yX7_jolts (Cond.code yX7_jolts cX7_jolts 3 (some .int) :: Tw) rmX_jolts (xP G σ0 sz [.ref (xA G 0), .int x1]) (xQi G σ0 sz σr r) 0 0 (va_A (xW G σ0) sz) := by
  intro sz
  refine Met.ofW (cc := cX7_jolts) (maxL := 3) (ret := (some .int)) (by decide) rfl ?_
  intro p e s m args below meth c s₁ Bd hml hv
  obtain ⟨hC, hr⟩ := jC_of Bd hml
  obtain ⟨rfl, rfl, hH⟩ := x_enter hv
  have hC : jC p s m _ meth c cX7_jolts 3 RX7 := hC
  have hx := hC.1.1
  have hb := hC.1.2.1
  have hown := hC.1.2.2.2.1
  have hts := hC.1.2.2.2.2
  have hl := lv_entry ([.ref (xA G 0), .int x1]) (n := 3) (Nat.le_of_ble_eq_true rfl)
  rw [lg_entry_eq]
  generalize (lg_sl ([.ref (xA G 0), .int x1]) ++ List.replicate (3 - (lg_sl ([.ref (xA G 0), .int x1])).length) Slot.unset).toArray = ls at hl ⊢
  have hl : lv_has ls 3 [(0, .ref (xA G 0)), (1, .int x1)] := hl
  unfold fX_jolts at h
  refine W_nm (fun H locs eH eL => ?_)
  have hH : xH G s (va_A (xW G σ0) s.heap.size) σ0 H locs := by rw [eH, eL]; exact hH
  show W p l e rmX_jolts s m _ below meth c H locs 0 0 _ (F0 m 0 ls [])
  refine lv_iload_n hx hb dX7_jolts_0 rfl (lv_at hl 1 rfl) ?_
  refine lv_iconst (v := 1) hx hb dX7_jolts_1 (by decide) ?_
  refine lv_bipush (v := 100) hx hb dX7_jolts_2 (by decide) ?_
  obtain ⟨r2, h1, h⟩ := ob_some h
  refine x_calls (As := [.int x1, .int (1 : Int32), .int (100 : Int32)]) (rest := []) (cX_isWithin l G σ0 x1 (1 : Int32) (100 : Int32)  h1) hC hH hl (va_cwS 3 hts (gS wmX7_148 wsX7_isWithin) rfl rfl rfl hdX7_isWithin ⟨Nat.le_of_ble_eq_true rfl, Nat.le_of_ble_eq_true rfl⟩) rfl rfl (Nat.le_of_ble_eq_true rfl) ⟨Nat.zero_le _, Nat.zero_le _⟩ dX7_jolts_4 (fun H locs hH => ?_)
  refine lv_if_ne (tgt := 13) hx hb dX7_jolts_7 (by decide) (fun c3 => ?_) (fun c3 => ?_)
  · have h := ite_f c3 h
    refine lv_aload_n hx hb dX7_jolts_13 rfl (lv_at hl 0 rfl) ?_
    refine x_get (C := RX7) (T := TX7) (N := 14) (v := .ref (xA G (1 + 0))) hC hH (xe_X G σ0) rfl wyX7 0 (by decide) wfX7_10 rfl rfl dX7_jolts_14 ?_
    refine x_getN (C := RX0) (T := TX0) (N := 12) (v := .int (xi σ0 (1 + 0) 8)) (host := "RoadSorted") hC hH (xe_B G σ0 (by decide)) rfl wyX0 8 (by decide) (by decide +kernel) rfl rfl dX7_jolts_17 ?_
    obtain ⟨v4, e5, h⟩ := bnd_some h
    refine lv_tope e5 ?_
    refine lv_istore_n (lv' := [(2, .int v4), (0, .ref (xA G 0)), (1, .int x1)]) hx hb dX7_jolts_20 rfl hl (by decide) rfl (fun ls hl => ?_)
    refine lv_aload_n hx hb dX7_jolts_21 rfl (lv_at hl 1 rfl) ?_
    refine x_get (C := RX7) (T := TX7) (N := 14) (v := .ref (xA G (1 + 0))) hC hH (xe_X G σ0) rfl wyX7 0 (by decide) wfX7_10 rfl rfl dX7_jolts_22 ?_
    refine lv_iload_n hx hb dX7_jolts_25 rfl (lv_at hl 2 rfl) ?_
    refine lv_sipush (v := 9999) hx hb dX7_jolts_26 (by decide) ?_
    refine lv_aload_n hx hb dX7_jolts_29 rfl (lv_at hl 1 rfl) ?_
    refine x_get (C := RX7) (T := TX7) (N := 14) (v := .ref (xA G (1 + 0))) hC hH (xe_X G σ0) rfl wyX7 0 (by decide) wfX7_10 rfl rfl dX7_jolts_30 ?_
    refine x_getN (C := RX0) (T := TX0) (N := 12) (v := .int (xi σ0 (1 + 0) 9)) (host := "RoadSorted") hC hH (xe_B G σ0 (by decide)) rfl wyX0 9 (by decide) (by decide +kernel) rfl rfl dX7_jolts_33 ?_
    refine lv_isub hx hb dX7_jolts_36 ?_
    refine va_mmin hx hb (hC.1.2.2.1.trans hl.1.symm) hown (hts _ wmX7_155) (hts _ wMa_min.1) (hts _ wMa_min.2.1) (hts _ wMa_min.2.2) (Nat.le_of_ble_eq_true rfl) (Nat.le_of_ble_eq_true rfl) (Nat.zero_le _) (Nat.zero_le _) dX7_jolts_37 ?_
    obtain ⟨σ7, h6, h⟩ := ob_some h
    refine x_callv (vw := (RX0, TX0, 12)) (As := [.int (if ((9999 : Int32) - (xi σ0 (1 + 0) 9)) < x1 then ((9999 : Int32) - (xi σ0 (1 + 0) 9)) else x1)]) (rest := []) (cB_ride l G σ0 0 (if ((9999 : Int32) - (xi σ0 (1 + 0) 9)) < x1 then ((9999 : Int32) - (xi σ0 (1 + 0) 9)) else x1) (by decide) h6) hC hH hl (xe_B G σ0 (by decide)) rfl (cwV 1 hts (gV wmX7_173 wvX0_ride) rfl rfl rfl hdX0_ride ⟨Nat.le_of_ble_eq_true rfl, Nat.le_of_ble_eq_true rfl⟩) rfl rfl (Nat.le_of_ble_eq_true rfl) ⟨Nat.zero_le _, Nat.zero_le _⟩ dX7_jolts_40 (fun H locs hH => ?_)
    refine lv_aload_n hx hb dX7_jolts_43 rfl (lv_at hl 1 rfl) ?_
    refine x_get (C := RX7) (T := TX7) (N := 14) (v := .ref (xA G (1 + 0))) hC hH (xe_X G σ7) rfl wyX7 0 (by decide) wfX7_10 rfl rfl dX7_jolts_44 ?_
    refine x_getN (C := RX0) (T := TX0) (N := 12) (v := .int (xi σ7 (1 + 0) 8)) (host := "RoadSorted") hC hH (xe_B G σ7 (by decide)) rfl wyX0 8 (by decide) (by decide +kernel) rfl rfl dX7_jolts_47 ?_
    refine lv_iload_n hx hb dX7_jolts_50 rfl (lv_at hl 0 rfl) ?_
    refine lv_isub hx hb dX7_jolts_51 ?_
    obtain ⟨rfl, rfl⟩ := some_i2 h
    exact x_iret hC hH hr rfl dX7_jolts_52
  · have h := ite_t c3 h
    refine lv_ldc (v := -1000000001) hx hb hown (hts _ wkX7_89) dX7_jolts_10 ?_
    obtain ⟨rfl, rfl⟩ := some_i2 h
    exact x_iret (v := -1000000001) hC hH hr rfl dX7_jolts_12

def rmX_bag : Room := { frames := 3, cells := 0, slots := 0, locals := 68 }
theorem hdX7_bag : yX7_bag.cls = RX7 ∧ yX7_bag.cls ≠ "java/lang/invoke/MethodHandle" ∧ yX7_bag.cls ≠ "java/lang/invoke/VarHandle" ∧ (parseMethodDescriptor yX7_bag.desc).map (fun d => d.parameters.length) = some 1 := by decide +kernel

def fX_bag (σ0 : XS) (x1 : Int32) : Option (Int32) :=
  if x1 = (0 : Int32) then (
    ob (fB_mess σ0 0) fun r3 =>
    some r3)
  else if x1 = (1 : Int32) then (
    ob (fB_layers σ0 0) fun r6 =>
    some r6)
  else if x1 = (2 : Int32) then (
    some (xi σ0 (1 + 0) 8))
  else if x1 = (3 : Int32) then (
    ob (fB_climbers σ0 0) fun r10 =>
    some r10)
  else if x1 = (4 : Int32) then (
    ob (fB_thickOfAll σ0 0) fun r13 =>
    some r13)
  else (
    some (-1000000001 : Int32))

set_option maxHeartbeats 4000000 in
set_option maxRecDepth 100000 in
theorem cX_bag (l : Launch) (G : XG) (σ0 : XS) (x1 : Int32) {r : Int32} (h : fX_bag σ0 x1 = some r) : ∀ sz, Met l yX7_bag (Cond.code yX7_bag cX7_bag 2 (some .int) :: Tw) rmX_bag (xP G σ0 sz [.ref (xA G 0), .int x1]) (xQi G σ0 sz σ0 r) 0 0 (va_A (xW G σ0) sz) := by
  intro sz
  refine Met.ofW (cc := cX7_bag) (maxL := 2) (ret := (some .int)) (by decide) rfl ?_
  intro p e s m args below meth c s₁ Bd hml hv
  obtain ⟨hC, hr⟩ := jC_of Bd hml
  obtain ⟨rfl, rfl, hH⟩ := x_enter hv
  have hC : jC p s m _ meth c cX7_bag 2 RX7 := hC
  have hx := hC.1.1
  have hb := hC.1.2.1
  have hown := hC.1.2.2.2.1
  have hts := hC.1.2.2.2.2
  have hl := lv_entry ([.ref (xA G 0), .int x1]) (n := 2) (Nat.le_of_ble_eq_true rfl)
  rw [lg_entry_eq]
  generalize (lg_sl ([.ref (xA G 0), .int x1]) ++ List.replicate (2 - (lg_sl ([.ref (xA G 0), .int x1])).length) Slot.unset).toArray = ls at hl ⊢
  have hl : lv_has ls 2 [(0, .ref (xA G 0)), (1, .int x1)] := hl
  unfold fX_bag at h
  refine W_nm (fun H locs eH eL => ?_)
  have hH : xH G s (va_A (xW G σ0) s.heap.size) σ0 H locs := by rw [eH, eL]; exact hH
  show W p l e rmX_bag s m _ below meth c H locs 0 0 _ (F0 m 0 ls [])
  refine lv_iload_n hx hb dX7_bag_0 rfl (lv_at hl 1 rfl) ?_
  by_cases c1 : x1 = (0 : Int32)
  · have h := ite_t c1 h
    refine lv_tsw (tgt := 36) (off := 35) hx hb (0) c1 dX7_bag_1 (by decide) (by decide) (by decide) (by decide) ?_
    refine lv_aload_n hx hb dX7_bag_36 rfl (lv_at hl 0 rfl) ?_
    refine x_get (C := RX7) (T := TX7) (N := 14) (v := .ref (xA G (1 + 0))) hC hH (xe_X G σ0) rfl wyX7 0 (by decide) wfX7_10 rfl rfl dX7_bag_37 ?_
    obtain ⟨r3, h2, h⟩ := ob_some h
    refine x_calli (vw := (RX0, TX0, 12)) (As := []) (rest := []) (cB_mess l G σ0 0 (by decide) h2) hC hH hl (xe_B G σ0 (by decide)) rfl (cwV 0 hts (gV wmX7_177 wvX0_mess) rfl rfl rfl hdX0_mess ⟨Nat.le_of_ble_eq_true rfl, Nat.le_of_ble_eq_true rfl⟩) rfl rfl (Nat.le_of_ble_eq_true rfl) ⟨Nat.zero_le _, Nat.zero_le _⟩ dX7_bag_40 (fun H locs hH => ?_)
    obtain rfl := some_i1 h
    exact x_iret hC hH hr rfl dX7_bag_43
  · have h := ite_f c1 h
    by_cases c4 : x1 = (1 : Int32)
    · have h := ite_t c4 h
      refine lv_tsw (tgt := 44) (off := 43) hx hb (1) c4 dX7_bag_1 (by decide) (by decide) (by decide) (by decide) ?_
      refine lv_aload_n hx hb dX7_bag_44 rfl (lv_at hl 0 rfl) ?_
      refine x_get (C := RX7) (T := TX7) (N := 14) (v := .ref (xA G (1 + 0))) hC hH (xe_X G σ0) rfl wyX7 0 (by decide) wfX7_10 rfl rfl dX7_bag_45 ?_
      obtain ⟨r6, h5, h⟩ := ob_some h
      refine x_calli (vw := (RX0, TX0, 12)) (As := []) (rest := []) (cB_layers l G σ0 0 (by decide) h5) hC hH hl (xe_B G σ0 (by decide)) rfl (cwV 0 hts (gV wmX7_180 wvX0_layers) rfl rfl rfl hdX0_layers ⟨Nat.le_of_ble_eq_true rfl, Nat.le_of_ble_eq_true rfl⟩) rfl rfl (Nat.le_of_ble_eq_true rfl) ⟨Nat.zero_le _, Nat.zero_le _⟩ dX7_bag_48 (fun H locs hH => ?_)
      obtain rfl := some_i1 h
      exact x_iret hC hH hr rfl dX7_bag_51
    · have h := ite_f c4 h
      by_cases c7 : x1 = (2 : Int32)
      · have h := ite_t c7 h
        refine lv_tsw (tgt := 52) (off := 51) hx hb (2) c7 dX7_bag_1 (by decide) (by decide) (by decide) (by decide) ?_
        refine lv_aload_n hx hb dX7_bag_52 rfl (lv_at hl 0 rfl) ?_
        refine x_get (C := RX7) (T := TX7) (N := 14) (v := .ref (xA G (1 + 0))) hC hH (xe_X G σ0) rfl wyX7 0 (by decide) wfX7_10 rfl rfl dX7_bag_53 ?_
        refine x_getN (C := RX0) (T := TX0) (N := 12) (v := .int (xi σ0 (1 + 0) 8)) (host := "RoadSorted") hC hH (xe_B G σ0 (by decide)) rfl wyX0 8 (by decide) (by decide +kernel) rfl rfl dX7_bag_56 ?_
        obtain rfl := some_i1 h
        exact x_iret hC hH hr rfl dX7_bag_59
      · have h := ite_f c7 h
        by_cases c8 : x1 = (3 : Int32)
        · have h := ite_t c8 h
          refine lv_tsw (tgt := 60) (off := 59) hx hb (3) c8 dX7_bag_1 (by decide) (by decide) (by decide) (by decide) ?_
          refine lv_aload_n hx hb dX7_bag_60 rfl (lv_at hl 0 rfl) ?_
          refine x_get (C := RX7) (T := TX7) (N := 14) (v := .ref (xA G (1 + 0))) hC hH (xe_X G σ0) rfl wyX7 0 (by decide) wfX7_10 rfl rfl dX7_bag_61 ?_
          obtain ⟨r10, h9, h⟩ := ob_some h
          refine x_calli (vw := (RX0, TX0, 12)) (As := []) (rest := []) (cB_climbers l G σ0 0 (by decide) h9) hC hH hl (xe_B G σ0 (by decide)) rfl (cwV 0 hts (gV wmX7_183 wvX0_climbers) rfl rfl rfl hdX0_climbers ⟨Nat.le_of_ble_eq_true rfl, Nat.le_of_ble_eq_true rfl⟩) rfl rfl (Nat.le_of_ble_eq_true rfl) ⟨Nat.zero_le _, Nat.zero_le _⟩ dX7_bag_64 (fun H locs hH => ?_)
          obtain rfl := some_i1 h
          exact x_iret hC hH hr rfl dX7_bag_67
        · have h := ite_f c8 h
          by_cases c11 : x1 = (4 : Int32)
          · have h := ite_t c11 h
            refine lv_tsw (tgt := 68) (off := 67) hx hb (4) c11 dX7_bag_1 (by decide) (by decide) (by decide) (by decide) ?_
            refine lv_aload_n hx hb dX7_bag_68 rfl (lv_at hl 0 rfl) ?_
            refine x_get (C := RX7) (T := TX7) (N := 14) (v := .ref (xA G (1 + 0))) hC hH (xe_X G σ0) rfl wyX7 0 (by decide) wfX7_10 rfl rfl dX7_bag_69 ?_
            obtain ⟨r13, h12, h⟩ := ob_some h
            refine x_calli (vw := (RX0, TX0, 12)) (As := []) (rest := []) (cB_thickOfAll l G σ0 0 (by decide) h12) hC hH hl (xe_B G σ0 (by decide)) rfl (cwV 0 hts (gV wmX7_186 wvX0_thickOfAll) rfl rfl rfl hdX0_thickOfAll ⟨Nat.le_of_ble_eq_true rfl, Nat.le_of_ble_eq_true rfl⟩) rfl rfl (Nat.le_of_ble_eq_true rfl) ⟨Nat.zero_le _, Nat.zero_le _⟩ dX7_bag_72 (fun H locs hH => ?_)
            obtain rfl := some_i1 h
            exact x_iret hC hH hr rfl dX7_bag_75
          · have h := ite_f c11 h
            refine lv_tswd (tgt := 76) hx hb [0, 1, 2, 3, 4] (by simp only [List.mem_cons, List.not_mem_nil, or_false]; intro z hz; rcases hz with rfl | rfl | rfl | rfl | rfl <;> first | exact i32ne c1 (by decide) | exact i32ne c4 (by decide) | exact i32ne c7 (by decide) | exact i32ne c8 (by decide) | exact i32ne c11 (by decide)) dX7_bag_1 (by decide) (by decide) (by decide) ?_
            refine lv_ldc (v := -1000000001) hx hb hown (hts _ wkX7_89) dX7_bag_76 ?_
            obtain rfl := some_i1 h
            exact x_iret (v := -1000000001) hC hH hr rfl dX7_bag_78

def rmX_think : Room := { frames := 5, cells := 0, slots := 0, locals := 127 }
theorem hdX7_think : yX7_think.cls = RX7 ∧ yX7_think.cls ≠ "java/lang/invoke/MethodHandle" ∧ yX7_think.cls ≠ "java/lang/invoke/VarHandle" ∧ (parseMethodDescriptor yX7_think.desc).map (fun d => d.parameters.length) = some 1 := by decide +kernel

def fX_think (σ0 : XS) (x1 : Int32) : Option (XS) :=
  ob (fB_becomeAs σ0 2 0) fun σ2 =>
  ob (fB_ride σ2 2 x1) fun σ4 =>
  some σ4

set_option maxHeartbeats 4000000 in
set_option maxRecDepth 100000 in
theorem cX_think (l : Launch) (G : XG) (σ0 : XS) (x1 : Int32) {σr : XS} (h : fX_think σ0 x1 = some σr) : ∀ sz, Met l yX7_think (Cond.code yX7_think cX7_think 2 none :: Tw) rmX_think (xP G σ0 sz [.ref (xA G 0), .int x1]) (xQv G σ0 sz σr) 0 0 (va_A (xW G σ0) sz) := by
  intro sz
  refine Met.ofW (cc := cX7_think) (maxL := 2) (ret := (none)) (by decide) rfl ?_
  intro p e s m args below meth c s₁ Bd hml hv
  obtain ⟨hC, hr⟩ := jC_of Bd hml
  obtain ⟨rfl, rfl, hH⟩ := x_enter hv
  have hC : jC p s m _ meth c cX7_think 2 RX7 := hC
  have hx := hC.1.1
  have hb := hC.1.2.1
  have hown := hC.1.2.2.2.1
  have hts := hC.1.2.2.2.2
  have hl := lv_entry ([.ref (xA G 0), .int x1]) (n := 2) (Nat.le_of_ble_eq_true rfl)
  rw [lg_entry_eq]
  generalize (lg_sl ([.ref (xA G 0), .int x1]) ++ List.replicate (2 - (lg_sl ([.ref (xA G 0), .int x1])).length) Slot.unset).toArray = ls at hl ⊢
  have hl : lv_has ls 2 [(0, .ref (xA G 0)), (1, .int x1)] := hl
  unfold fX_think at h
  refine W_nm (fun H locs eH eL => ?_)
  have hH : xH G s (va_A (xW G σ0) s.heap.size) σ0 H locs := by rw [eH, eL]; exact hH
  show W p l e rmX_think s m _ below meth c H locs 0 0 _ (F0 m 0 ls [])
  refine lv_aload_n hx hb dX7_think_0 rfl (lv_at hl 0 rfl) ?_
  refine x_get (C := RX7) (T := TX7) (N := 14) (v := .ref (xA G (1 + 2))) hC hH (xe_X G σ0) rfl wyX7 2 (by decide) wfX7_19 rfl rfl dX7_think_1 ?_
  refine lv_aload_n hx hb dX7_think_4 rfl (lv_at hl 0 rfl) ?_
  refine x_get (C := RX7) (T := TX7) (N := 14) (v := .ref (xA G (1 + 0))) hC hH (xe_X G σ0) rfl wyX7 0 (by decide) wfX7_10 rfl rfl dX7_think_5 ?_
  obtain ⟨σ2, h1, h⟩ := ob_some h
  refine x_callv (vw := (RX0, TX0, 12)) (As := [.ref (xA G (1 + 0))]) (rest := []) (cB_becomeAs l G σ0 2 0 (by decide) (by decide) h1) hC hH hl (xe_B G σ0 (by decide)) rfl (cwV 1 hts (gV wmX7_196 wvX0_becomeAs) rfl rfl rfl hdX0_becomeAs ⟨Nat.le_of_ble_eq_true rfl, Nat.le_of_ble_eq_true rfl⟩) rfl rfl (Nat.le_of_ble_eq_true rfl) ⟨Nat.zero_le _, Nat.zero_le _⟩ dX7_think_8 (fun H locs hH => ?_)
  refine lv_aload_n hx hb dX7_think_11 rfl (lv_at hl 0 rfl) ?_
  refine x_get (C := RX7) (T := TX7) (N := 14) (v := .ref (xA G (1 + 2))) hC hH (xe_X G σ2) rfl wyX7 2 (by decide) wfX7_19 rfl rfl dX7_think_12 ?_
  refine lv_iload_n hx hb dX7_think_15 rfl (lv_at hl 1 rfl) ?_
  obtain ⟨σ4, h3, h⟩ := ob_some h
  refine x_callv (vw := (RX0, TX0, 12)) (As := [.int x1]) (rest := []) (cB_ride l G σ2 2 x1 (by decide) h3) hC hH hl (xe_B G σ2 (by decide)) rfl (cwV 1 hts (gV wmX7_173 wvX0_ride) rfl rfl rfl hdX0_ride ⟨Nat.le_of_ble_eq_true rfl, Nat.le_of_ble_eq_true rfl⟩) rfl rfl (Nat.le_of_ble_eq_true rfl) ⟨Nat.zero_le _, Nat.zero_le _⟩ dX7_think_16 (fun H locs hH => ?_)
  obtain rfl := some_i1 h
  exact x_vret hC hH hr dX7_think_19

def rmX_behind : Room := { frames := 6, cells := 0, slots := 0, locals := 148 }
theorem hdX7_behind : yX7_behind.cls = RX7 ∧ yX7_behind.cls ≠ "java/lang/invoke/MethodHandle" ∧ yX7_behind.cls ≠ "java/lang/invoke/VarHandle" ∧ (parseMethodDescriptor yX7_behind.desc).map (fun d => d.parameters.length) = some 2 := by decide +kernel

def fX_behind (σ0 : XS) (x1 : Int32) (x2 : Int32) : Option (Int32 × XS) :=
  ob (fX_isWithin σ0 x1 (0 : Int32) (100 : Int32)) fun r2 =>
  if r2 = 0 then (
    some ((-1000000001 : Int32), σ0))
  else (
    ob (fX_isWithin σ0 x2 (0 : Int32) ((1 : Int32) + (xi σ0 (1 + 0) 0))) fun r5 =>
    if r5 = 0 then (
      some ((-1000000001 : Int32), σ0))
    else (
      ob (fX_think σ0 x1) fun σ8 =>
      if x2 = (0 : Int32) then (
        ob (fB_mess σ8 2) fun r11 =>
        some (r11, σ8))
      else if x2 = (1 : Int32) then (
        some ((xi σ8 (1 + 2) 8), σ8))
      else (
        ck (x2 - (2 : Int32)) (14) <|
        some ((xi σ8 (30 + 6 * 2 + 5) ((x2 - (2 : Int32))).toNatClampNeg), σ8))))

set_option maxHeartbeats 4000000 in
set_option maxRecDepth 100000 in
theorem cX_behind (l : Launch) (G : XG) (σ0 : XS) (x1 : Int32) (x2 : Int32) {r : Int32} {σr : XS} (h : fX_behind σ0 x1 x2 = some (r, σr)) : ∀ sz, Met l yX7_behind (Cond.code yX7_behind cX7_behind 3 (some .int) :: Tw) rmX_behind (xP G σ0 sz [.ref (xA G 0), .int x1, .int x2]) (xQi G σ0 sz σr r) 0 0 (va_A (xW G σ0) sz) := by
  intro sz
  refine Met.ofW (cc := cX7_behind) (maxL := 3) (ret := (some .int)) (by decide) rfl ?_
  intro p e s m args below meth c s₁ Bd hml hv
  obtain ⟨hC, hr⟩ := jC_of Bd hml
  obtain ⟨rfl, rfl, hH⟩ := x_enter hv
  have hC : jC p s m _ meth c cX7_behind 3 RX7 := hC
  have hx := hC.1.1
  have hb := hC.1.2.1
  have hown := hC.1.2.2.2.1
  have hts := hC.1.2.2.2.2
  have hl := lv_entry ([.ref (xA G 0), .int x1, .int x2]) (n := 3) (Nat.le_of_ble_eq_true rfl)
  rw [lg_entry_eq]
  generalize (lg_sl ([.ref (xA G 0), .int x1, .int x2]) ++ List.replicate (3 - (lg_sl ([.ref (xA G 0), .int x1, .int x2])).length) Slot.unset).toArray = ls at hl ⊢
  have hl : lv_has ls 3 [(0, .ref (xA G 0)), (1, .int x1), (2, .int x2)] := hl
  unfold fX_behind at h
  refine W_nm (fun H locs eH eL => ?_)
  have hH : xH G s (va_A (xW G σ0) s.heap.size) σ0 H locs := by rw [eH, eL]; exact hH
  show W p l e rmX_behind s m _ below meth c H locs 0 0 _ (F0 m 0 ls [])
  refine lv_iload_n hx hb dX7_behind_0 rfl (lv_at hl 1 rfl) ?_
  refine lv_iconst (v := 0) hx hb dX7_behind_1 (by decide) ?_
  refine lv_bipush (v := 100) hx hb dX7_behind_2 (by decide) ?_
  obtain ⟨r2, h1, h⟩ := ob_some h
  refine x_calls (As := [.int x1, .int (0 : Int32), .int (100 : Int32)]) (rest := []) (cX_isWithin l G σ0 x1 (0 : Int32) (100 : Int32)  h1) hC hH hl (va_cwS 3 hts (gS wmX7_148 wsX7_isWithin) rfl rfl rfl hdX7_isWithin ⟨Nat.le_of_ble_eq_true rfl, Nat.le_of_ble_eq_true rfl⟩) rfl rfl (Nat.le_of_ble_eq_true rfl) ⟨Nat.zero_le _, Nat.zero_le _⟩ dX7_behind_4 (fun H locs hH => ?_)
  refine lv_if_eq (tgt := 27) hx hb dX7_behind_7 (by decide) (fun c3 => ?_) (fun c3 => ?_)
  · have h := ite_t c3 h
    refine lv_ldc (v := -1000000001) hx hb hown (hts _ wkX7_89) dX7_behind_27 ?_
    obtain ⟨rfl, rfl⟩ := some_i2 h
    exact x_iret (v := -1000000001) hC hH hr rfl dX7_behind_29
  · have h := ite_f c3 h
    refine lv_iload_n hx hb dX7_behind_10 rfl (lv_at hl 2 rfl) ?_
    refine lv_iconst (v := 0) hx hb dX7_behind_11 (by decide) ?_
    refine lv_iconst (v := 1) hx hb dX7_behind_12 (by decide) ?_
    refine lv_aload_n hx hb dX7_behind_13 rfl (lv_at hl 0 rfl) ?_
    refine x_get (C := RX7) (T := TX7) (N := 14) (v := .ref (xA G (1 + 0))) hC hH (xe_X G σ0) rfl wyX7 0 (by decide) wfX7_10 rfl rfl dX7_behind_14 ?_
    refine x_getN (C := RX0) (T := TX0) (N := 12) (v := .int (xi σ0 (1 + 0) 0)) (host := "RoadSorted") hC hH (xe_B G σ0 (by decide)) rfl wyX0 0 (by decide) (by decide +kernel) rfl rfl dX7_behind_17 ?_
    refine lv_iadd hx hb dX7_behind_20 ?_
    obtain ⟨r5, h4, h⟩ := ob_some h
    refine x_calls (As := [.int x2, .int (0 : Int32), .int ((1 : Int32) + (xi σ0 (1 + 0) 0))]) (rest := []) (cX_isWithin l G σ0 x2 (0 : Int32) ((1 : Int32) + (xi σ0 (1 + 0) 0))  h4) hC hH hl (va_cwS 3 hts (gS wmX7_148 wsX7_isWithin) rfl rfl rfl hdX7_isWithin ⟨Nat.le_of_ble_eq_true rfl, Nat.le_of_ble_eq_true rfl⟩) rfl rfl (Nat.le_of_ble_eq_true rfl) ⟨Nat.zero_le _, Nat.zero_le _⟩ dX7_behind_21 (fun H locs hH => ?_)
    refine lv_if_ne (tgt := 30) hx hb dX7_behind_24 (by decide) (fun c6 => ?_) (fun c6 => ?_)
    · have h := ite_f c6 h
      refine lv_aload_n hx hb dX7_behind_30 rfl (lv_at hl 0 rfl) ?_
      refine lv_iload_n hx hb dX7_behind_31 rfl (lv_at hl 1 rfl) ?_
      obtain ⟨σ8, h7, h⟩ := ob_some h
      refine x_callv (vw := (RX7, TX7, 14)) (As := [.int x1]) (rest := []) (cX_think l G σ0 x1  h7) hC hH hl (xe_X G σ0) rfl (cwV 1 hts (gV wmX7_189 wvX7_think) rfl rfl rfl hdX7_think ⟨Nat.le_of_ble_eq_true rfl, Nat.le_of_ble_eq_true rfl⟩) rfl rfl (Nat.le_of_ble_eq_true rfl) ⟨Nat.zero_le _, Nat.zero_le _⟩ dX7_behind_32 (fun H locs hH => ?_)
      refine lv_iload_n hx hb dX7_behind_35 rfl (lv_at hl 2 rfl) ?_
      by_cases c9 : x2 = (0 : Int32)
      · have h := ite_t c9 h
        refine lv_lsw (tgt := 64) (off := 28) hx hb (0) c9 dX7_behind_36 (by decide) (by decide) (by decide) ?_
        refine lv_aload_n hx hb dX7_behind_64 rfl (lv_at hl 0 rfl) ?_
        refine x_get (C := RX7) (T := TX7) (N := 14) (v := .ref (xA G (1 + 2))) hC hH (xe_X G σ8) rfl wyX7 2 (by decide) wfX7_19 rfl rfl dX7_behind_65 ?_
        obtain ⟨r11, h10, h⟩ := ob_some h
        refine x_calli (vw := (RX0, TX0, 12)) (As := []) (rest := []) (cB_mess l G σ8 2 (by decide) h10) hC hH hl (xe_B G σ8 (by decide)) rfl (cwV 0 hts (gV wmX7_177 wvX0_mess) rfl rfl rfl hdX0_mess ⟨Nat.le_of_ble_eq_true rfl, Nat.le_of_ble_eq_true rfl⟩) rfl rfl (Nat.le_of_ble_eq_true rfl) ⟨Nat.zero_le _, Nat.zero_le _⟩ dX7_behind_68 (fun H locs hH => ?_)
        obtain ⟨rfl, rfl⟩ := some_i2 h
        exact x_iret hC hH hr rfl dX7_behind_71
      · have h := ite_f c9 h
        by_cases c12 : x2 = (1 : Int32)
        · have h := ite_t c12 h
          refine lv_lsw (tgt := 72) (off := 36) hx hb (1) c12 dX7_behind_36 (by decide) (by decide) (by decide) ?_
          refine lv_aload_n hx hb dX7_behind_72 rfl (lv_at hl 0 rfl) ?_
          refine x_get (C := RX7) (T := TX7) (N := 14) (v := .ref (xA G (1 + 2))) hC hH (xe_X G σ8) rfl wyX7 2 (by decide) wfX7_19 rfl rfl dX7_behind_73 ?_
          refine x_getN (C := RX0) (T := TX0) (N := 12) (v := .int (xi σ8 (1 + 2) 8)) (host := "RoadSorted") hC hH (xe_B G σ8 (by decide)) rfl wyX0 8 (by decide) (by decide +kernel) rfl rfl dX7_behind_76 ?_
          obtain ⟨rfl, rfl⟩ := some_i2 h
          exact x_iret hC hH hr rfl dX7_behind_79
        · have h := ite_f c12 h
          refine lv_lookup (tgt := 80) (off := 44) hx hb dX7_behind_36 (by decide) ((lv_osw c9 (by decide)).trans ((lv_osw c12 (by decide)).trans rfl)) (by decide) ?_
          refine lv_aload_n hx hb dX7_behind_80 rfl (lv_at hl 0 rfl) ?_
          refine x_get (C := RX7) (T := TX7) (N := 14) (v := .ref (xA G (1 + 2))) hC hH (xe_X G σ8) rfl wyX7 2 (by decide) wfX7_19 rfl rfl dX7_behind_81 ?_
          refine x_getN (C := RX0) (T := TX0) (N := 12) (v := .ref (xA G (100 + (30 + 6 * 2 + 5)))) (host := "RoadSorted") hC hH (xe_B G σ8 (by decide)) rfl wyX0 6 (by decide) (by decide +kernel) rfl rfl dX7_behind_84 ?_
          refine lv_iload_n hx hb dX7_behind_87 rfl (lv_at hl 2 rfl) ?_
          refine lv_iconst (v := 2) hx hb dX7_behind_88 (by decide) ?_
          refine lv_isub hx hb dX7_behind_89 ?_
          obtain ⟨i13, h⟩ := ck_some h
          refine x_ald hC hH (d := (30 + 6 * 2 + 5)) (xIs_b (by decide) (by decide)) (xLen_b (by decide) (by decide)) rfl i13 dX7_behind_90 ?_
          obtain ⟨rfl, rfl⟩ := some_i2 h
          exact x_iret hC hH hr rfl dX7_behind_91
    · have h := ite_t c6 h
      refine lv_ldc (v := -1000000001) hx hb hown (hts _ wkX7_89) dX7_behind_27 ?_
      obtain ⟨rfl, rfl⟩ := some_i2 h
      exact x_iret (v := -1000000001) hC hH hr rfl dX7_behind_29

def rmX_rests : Room := { frames := 6, cells := 0, slots := 0, locals := 148 }
theorem hdX7_rests : yX7_rests.cls = RX7 ∧ yX7_rests.cls ≠ "java/lang/invoke/MethodHandle" ∧ yX7_rests.cls ≠ "java/lang/invoke/VarHandle" ∧ (parseMethodDescriptor yX7_rests.desc).map (fun d => d.parameters.length) = some 0 := by decide +kernel

def fX_rests_L7 (k39 : XS → Option (Int32 × XS)) : Nat → Int32 → XS → Option (Int32 × XS)
  | 0, _, _ => none
  | n + 1, x1, σ =>
    if (300 : Int32) < x1 then (
      k39 σ)
    else (
      ob (fB_climbers σ 2) fun r5 =>
      if r5 = 0 then (
        some (x1, σ))
      else (
        ob (fB_joltOnce σ 2) fun σ8 =>
        bnd (x1 + (1 : Int32)) fun v9 =>
        (fX_rests_L7 k39 n) v9 σ8))

set_option maxHeartbeats 4000000 in
set_option maxRecDepth 100000 in
theorem wX_rests_L7 {p : Program} {l : Launch} {e : Env} {s : State} {m : MethodId} {args : Array Value} {below : List Frame} {meth : Method} {c : Code} {G : XG} {σ0 : XS} {r : Int32} {σr : XS} (hC : jC p s m args meth c cX7_rests 2 RX7) (hr : meth.sig.returnType = some .int) {k39 : XS → Option (Int32 × XS)} (hk39 : ∀ (σ : XS) (H : Heap) (locs : List Loc) (ls : Array Slot), xH G s (va_A (xW G σ0) s.heap.size) σ H locs → lv_has ls 2 [] → k39 σ = some (r, σr) → W p l e rmX_rests s m args below meth c H locs 0 0 (MQ below (xQi G σ0 s.heap.size σr r) args s 0 0 (va_A (xW G σ0) s.heap.size)) (F0 m 39 ls [])) : ∀ (n : Nat) (x1 : Int32) (σ : XS) (H : Heap) (locs : List Loc) (ls : Array Slot), xH G s (va_A (xW G σ0) s.heap.size) σ H locs → lv_has ls 2 [(0, .ref (xA G 0)), (1, .int x1)] → fX_rests_L7 k39 n x1 σ = some (r, σr) → W p l e rmX_rests s m args below meth c H locs 0 0 (MQ below (xQi G σ0 s.heap.size σr r) args s 0 0 (va_A (xW G σ0) s.heap.size)) (F0 m 7 ls []) := by
  have hx := hC.1.1
  have hb := hC.1.2.1
  have hown := hC.1.2.2.2.1
  have hts := hC.1.2.2.2.2
  intro n
  induction n with
  | zero =>
    intro x1 σ H locs ls  hH hl h
    rw [fX_rests_L7] at h
    cases h
  | succ n ih =>
    intro x1 σ H locs ls  hH hl h
    rw [fX_rests_L7] at h
    refine lv_iload_n hx hb dX7_rests_7 rfl (lv_at hl 1 rfl) ?_
    refine lv_sipush (v := 300) hx hb dX7_rests_8 (by decide) ?_
    refine lv_icmp_gt (tgt := 39) hx hb dX7_rests_11 (by decide) (fun c3 => ?_) (fun c3 => ?_)
    · have h := ite_t c3 h
      exact hk39 σ H locs ls  hH (lv_sub hl [] rfl) h
    · have h := ite_f c3 h
      refine lv_aload_n hx hb dX7_rests_14 rfl (lv_at hl 0 rfl) ?_
      refine x_get (C := RX7) (T := TX7) (N := 14) (v := .ref (xA G (1 + 2))) hC hH (xe_X G σ) rfl wyX7 2 (by decide) wfX7_19 rfl rfl dX7_rests_15 ?_
      obtain ⟨r5, h4, h⟩ := ob_some h
      refine x_calli (vw := (RX0, TX0, 12)) (As := []) (rest := []) (cB_climbers l G σ 2 (by decide) h4) hC hH hl (xe_B G σ (by decide)) rfl (cwV 0 hts (gV wmX7_183 wvX0_climbers) rfl rfl rfl hdX0_climbers ⟨Nat.le_of_ble_eq_true rfl, Nat.le_of_ble_eq_true rfl⟩) rfl rfl (Nat.le_of_ble_eq_true rfl) ⟨Nat.zero_le _, Nat.zero_le _⟩ dX7_rests_18 (fun H locs hH => ?_)
      refine lv_if_ne (tgt := 26) hx hb dX7_rests_21 (by decide) (fun c6 => ?_) (fun c6 => ?_)
      · have h := ite_f c6 h
        refine lv_aload_n hx hb dX7_rests_26 rfl (lv_at hl 0 rfl) ?_
        refine x_get (C := RX7) (T := TX7) (N := 14) (v := .ref (xA G (1 + 2))) hC hH (xe_X G σ) rfl wyX7 2 (by decide) wfX7_19 rfl rfl dX7_rests_27 ?_
        obtain ⟨σ8, h7, h⟩ := ob_some h
        refine x_callv (vw := (RX0, TX0, 12)) (As := []) (rest := []) (cB_joltOnce l G σ 2 (by decide) h7) hC hH hl (xe_B G σ (by decide)) rfl (cwV 0 hts (gV wmX7_192 wvX0_joltOnce) rfl rfl rfl hdX0_joltOnce ⟨Nat.le_of_ble_eq_true rfl, Nat.le_of_ble_eq_true rfl⟩) rfl rfl (Nat.le_of_ble_eq_true rfl) ⟨Nat.zero_le _, Nat.zero_le _⟩ dX7_rests_30 (fun H locs hH => ?_)
        obtain ⟨v9, e10, h⟩ := bnd_some h
        refine lv_iinc (v := v9) (lv' := [(1, .int v9), (0, .ref (xA G 0))]) hx hb dX7_rests_33 hl (k := 1) rfl (by rw [e10]; rfl) (by decide) rfl (fun ls hl => ?_)
        refine lv_goto (tgt := 7) hx hb dX7_rests_36 (by decide) ?_
        exact ih v9 σ8 H locs ls  hH (lv_sub hl [1, 0] rfl) h
      · have h := ite_t c6 h
        refine lv_iload_n hx hb dX7_rests_24 rfl (lv_at hl 1 rfl) ?_
        obtain ⟨rfl, rfl⟩ := some_i2 h
        exact x_iret hC hH hr rfl dX7_rests_25

def fX_rests (σ0 : XS) : Option (Int32 × XS) :=
  ob (fX_think σ0 (0 : Int32)) fun σ2 =>
  fX_rests_L7 (fun (σ : XS) => some ((-1000000005 : Int32), σ)) 10000 (0 : Int32) σ2

set_option maxHeartbeats 4000000 in
set_option maxRecDepth 100000 in
theorem cX_rests (l : Launch) (G : XG) (σ0 : XS) {r : Int32} {σr : XS} (h : fX_rests σ0 = some (r, σr)) : ∀ sz, Met l yX7_rests (Cond.code yX7_rests cX7_rests 2 (some .int) :: Tw) rmX_rests (xP G σ0 sz [.ref (xA G 0)]) (xQi G σ0 sz σr r) 0 0 (va_A (xW G σ0) sz) := by
  intro sz
  refine Met.ofW (cc := cX7_rests) (maxL := 2) (ret := (some .int)) (by decide) rfl ?_
  intro p e s m args below meth c s₁ Bd hml hv
  obtain ⟨hC, hr⟩ := jC_of Bd hml
  obtain ⟨rfl, rfl, hH⟩ := x_enter hv
  have hC : jC p s m _ meth c cX7_rests 2 RX7 := hC
  have hx := hC.1.1
  have hb := hC.1.2.1
  have hown := hC.1.2.2.2.1
  have hts := hC.1.2.2.2.2
  have hl := lv_entry ([.ref (xA G 0)]) (n := 2) (Nat.le_of_ble_eq_true rfl)
  rw [lg_entry_eq]
  generalize (lg_sl ([.ref (xA G 0)]) ++ List.replicate (2 - (lg_sl ([.ref (xA G 0)])).length) Slot.unset).toArray = ls at hl ⊢
  have hl : lv_has ls 2 [(0, .ref (xA G 0))] := hl
  unfold fX_rests at h
  refine W_nm (fun H locs eH eL => ?_)
  have hH : xH G s (va_A (xW G σ0) s.heap.size) σ0 H locs := by rw [eH, eL]; exact hH
  show W p l e rmX_rests s m _ below meth c H locs 0 0 _ (F0 m 0 ls [])
  refine lv_aload_n hx hb dX7_rests_0 rfl (lv_at hl 0 rfl) ?_
  refine lv_iconst (v := 0) hx hb dX7_rests_1 (by decide) ?_
  obtain ⟨σ2, h1, h⟩ := ob_some h
  refine x_callv (vw := (RX7, TX7, 14)) (As := [.int (0 : Int32)]) (rest := []) (cX_think l G σ0 (0 : Int32)  h1) hC hH hl (xe_X G σ0) rfl (cwV 1 hts (gV wmX7_189 wvX7_think) rfl rfl rfl hdX7_think ⟨Nat.le_of_ble_eq_true rfl, Nat.le_of_ble_eq_true rfl⟩) rfl rfl (Nat.le_of_ble_eq_true rfl) ⟨Nat.zero_le _, Nat.zero_le _⟩ dX7_rests_2 (fun H locs hH => ?_)
  refine lv_iconst (v := 0) hx hb dX7_rests_5 (by decide) ?_
  refine lv_istore_n (lv' := [(1, .int (0 : Int32)), (0, .ref (xA G 0))]) hx hb dX7_rests_6 rfl hl (by decide) rfl (fun ls hl => ?_)
  refine wX_rests_L7 hC hr  ?_ 10000 (0 : Int32) σ2 H locs ls  hH (lv_sub hl [1, 0] rfl) h
  intro σ H locs ls  hH hl h
  refine lv_ldc (v := -1000000005) hx hb hown (hts _ wkX7_195) dX7_rests_39 ?_
  obtain ⟨rfl, rfl⟩ := some_i2 h
  exact x_iret (v := -1000000005) hC hH hr rfl dX7_rests_41

def rmX_padding : Room := { frames := 5, cells := 0, slots := 0, locals := 127 }
theorem hdX7_padding : yX7_padding.cls = RX7 ∧ yX7_padding.cls ≠ "java/lang/invoke/MethodHandle" ∧ yX7_padding.cls ≠ "java/lang/invoke/VarHandle" ∧ (parseMethodDescriptor yX7_padding.desc).map (fun d => d.parameters.length) = some 3 := by decide +kernel

def fX_padding_L54 (k147 : XS → Option (Int32 × XS)) : Nat → Int32 → Int32 → Int32 → Int32 → Int32 → XS → Option (Int32 × XS)
  | 0, _, _, _, _, _, _ => none
  | n + 1, x1, x2, x3, x4, x5, σ =>
    if ((99 : Int32) - x4) < x5 then (
      k147 σ)
    else (
      ob (fB_becomeAs σ 2 0) fun σ16 =>
      ck x1 (14) <|
      ck x1 (14) <|
      ob (fB_become σ16 2 x1 (xi σ16 (30 + 6 * 0 + 0) (x1).toNatClampNeg) (x4 + x5) (xi σ16 (30 + 6 * 0 + 2) (x1).toNatClampNeg)) fun σ20 =>
      ob (fB_ride σ20 2 x3) fun σ22 =>
      ob (fB_placeOf σ22 2 x1) fun r24 =>
      ob (fB_placeOf σ22 2 x2) fun r26 =>
      if (if 0 ≤ (r24 - r26) then (r24 - r26) else 0 - (r24 - r26)) = (1 : Int32) then (
        some (x5, σ22))
      else (
        bnd (x5 + (1 : Int32)) fun v28 =>
        (fX_padding_L54 k147 n) x1 x2 x3 x4 v28 σ22))

set_option maxHeartbeats 4000000 in
set_option maxRecDepth 100000 in
theorem wX_padding_L54 {p : Program} {l : Launch} {e : Env} {s : State} {m : MethodId} {args : Array Value} {below : List Frame} {meth : Method} {c : Code} {G : XG} {σ0 : XS} {r : Int32} {σr : XS} (hC : jC p s m args meth c cX7_padding 6 RX7) (hr : meth.sig.returnType = some .int) {k147 : XS → Option (Int32 × XS)} (hk147 : ∀ (σ : XS) (H : Heap) (locs : List Loc) (ls : Array Slot), xH G s (va_A (xW G σ0) s.heap.size) σ H locs → lv_has ls 6 [] → k147 σ = some (r, σr) → W p l e rmX_padding s m args below meth c H locs 0 0 (MQ below (xQi G σ0 s.heap.size σr r) args s 0 0 (va_A (xW G σ0) s.heap.size)) (F0 m 147 ls [])) : ∀ (n : Nat) (x1 : Int32) (x2 : Int32) (x3 : Int32) (x4 : Int32) (x5 : Int32) (σ : XS) (H : Heap) (locs : List Loc) (ls : Array Slot), xH G s (va_A (xW G σ0) s.heap.size) σ H locs → lv_has ls 6 [(0, .ref (xA G 0)), (1, .int x1), (2, .int x2), (3, .int x3), (4, .int x4), (5, .int x5)] → fX_padding_L54 k147 n x1 x2 x3 x4 x5 σ = some (r, σr) → W p l e rmX_padding s m args below meth c H locs 0 0 (MQ below (xQi G σ0 s.heap.size σr r) args s 0 0 (va_A (xW G σ0) s.heap.size)) (F0 m 54 ls []) := by
  have hx := hC.1.1
  have hb := hC.1.2.1
  have hown := hC.1.2.2.2.1
  have hts := hC.1.2.2.2.2
  intro n
  induction n with
  | zero =>
    intro x1 x2 x3 x4 x5 σ H locs ls  hH hl h
    rw [fX_padding_L54] at h
    cases h
  | succ n ih =>
    intro x1 x2 x3 x4 x5 σ H locs ls  hH hl h
    rw [fX_padding_L54] at h
    refine lv_iload hx hb dX7_padding_54 (lv_at hl 5 rfl) ?_
    refine lv_bipush (v := 99) hx hb dX7_padding_56 (by decide) ?_
    refine lv_iload hx hb dX7_padding_58 (lv_at hl 4 rfl) ?_
    refine lv_isub hx hb dX7_padding_60 ?_
    refine lv_icmp_gt (tgt := 147) hx hb dX7_padding_61 (by decide) (fun c14 => ?_) (fun c14 => ?_)
    · have h := ite_t c14 h
      exact hk147 σ H locs ls  hH (lv_sub hl [] rfl) h
    · have h := ite_f c14 h
      refine lv_aload_n hx hb dX7_padding_64 rfl (lv_at hl 0 rfl) ?_
      refine x_get (C := RX7) (T := TX7) (N := 14) (v := .ref (xA G (1 + 2))) hC hH (xe_X G σ) rfl wyX7 2 (by decide) wfX7_19 rfl rfl dX7_padding_65 ?_
      refine lv_aload_n hx hb dX7_padding_68 rfl (lv_at hl 0 rfl) ?_
      refine x_get (C := RX7) (T := TX7) (N := 14) (v := .ref (xA G (1 + 0))) hC hH (xe_X G σ) rfl wyX7 0 (by decide) wfX7_10 rfl rfl dX7_padding_69 ?_
      obtain ⟨σ16, h15, h⟩ := ob_some h
      refine x_callv (vw := (RX0, TX0, 12)) (As := [.ref (xA G (1 + 0))]) (rest := []) (cB_becomeAs l G σ 2 0 (by decide) (by decide) h15) hC hH hl (xe_B G σ (by decide)) rfl (cwV 1 hts (gV wmX7_196 wvX0_becomeAs) rfl rfl rfl hdX0_becomeAs ⟨Nat.le_of_ble_eq_true rfl, Nat.le_of_ble_eq_true rfl⟩) rfl rfl (Nat.le_of_ble_eq_true rfl) ⟨Nat.zero_le _, Nat.zero_le _⟩ dX7_padding_72 (fun H locs hH => ?_)
      refine lv_aload_n hx hb dX7_padding_75 rfl (lv_at hl 0 rfl) ?_
      refine x_get (C := RX7) (T := TX7) (N := 14) (v := .ref (xA G (1 + 2))) hC hH (xe_X G σ16) rfl wyX7 2 (by decide) wfX7_19 rfl rfl dX7_padding_76 ?_
      refine lv_iload_n hx hb dX7_padding_79 rfl (lv_at hl 1 rfl) ?_
      refine lv_aload_n hx hb dX7_padding_80 rfl (lv_at hl 0 rfl) ?_
      refine x_get (C := RX7) (T := TX7) (N := 14) (v := .ref (xA G (1 + 0))) hC hH (xe_X G σ16) rfl wyX7 0 (by decide) wfX7_10 rfl rfl dX7_padding_81 ?_
      refine x_getN (C := RX0) (T := TX0) (N := 12) (v := .ref (xA G (100 + (30 + 6 * 0 + 0)))) (host := "RoadSorted") hC hH (xe_B G σ16 (by decide)) rfl wyX0 1 (by decide) (by decide +kernel) rfl rfl dX7_padding_84 ?_
      refine lv_iload_n hx hb dX7_padding_87 rfl (lv_at hl 1 rfl) ?_
      obtain ⟨i17, h⟩ := ck_some h
      refine x_ald hC hH (d := (30 + 6 * 0 + 0)) (xIs_b (by decide) (by decide)) (xLen_b (by decide) (by decide)) rfl i17 dX7_padding_88 ?_
      refine lv_iload hx hb dX7_padding_89 (lv_at hl 4 rfl) ?_
      refine lv_iload hx hb dX7_padding_91 (lv_at hl 5 rfl) ?_
      refine lv_iadd hx hb dX7_padding_93 ?_
      refine lv_aload_n hx hb dX7_padding_94 rfl (lv_at hl 0 rfl) ?_
      refine x_get (C := RX7) (T := TX7) (N := 14) (v := .ref (xA G (1 + 0))) hC hH (xe_X G σ16) rfl wyX7 0 (by decide) wfX7_10 rfl rfl dX7_padding_95 ?_
      refine x_getN (C := RX0) (T := TX0) (N := 12) (v := .ref (xA G (100 + (30 + 6 * 0 + 2)))) (host := "RoadSorted") hC hH (xe_B G σ16 (by decide)) rfl wyX0 3 (by decide) (by decide +kernel) rfl rfl dX7_padding_98 ?_
      refine lv_iload_n hx hb dX7_padding_101 rfl (lv_at hl 1 rfl) ?_
      obtain ⟨i18, h⟩ := ck_some h
      refine x_ald hC hH (d := (30 + 6 * 0 + 2)) (xIs_b (by decide) (by decide)) (xLen_b (by decide) (by decide)) rfl i18 dX7_padding_102 ?_
      obtain ⟨σ20, h19, h⟩ := ob_some h
      refine x_callv (vw := (RX0, TX0, 12)) (As := [.int x1, .int (xi σ16 (30 + 6 * 0 + 0) (x1).toNatClampNeg), .int (x4 + x5), .int (xi σ16 (30 + 6 * 0 + 2) (x1).toNatClampNeg)]) (rest := []) (cB_become l G σ16 2 x1 (xi σ16 (30 + 6 * 0 + 0) (x1).toNatClampNeg) (x4 + x5) (xi σ16 (30 + 6 * 0 + 2) (x1).toNatClampNeg) (by decide) h19) hC hH hl (xe_B G σ16 (by decide)) rfl (cwV 4 hts (gV wmX7_134 wvX0_become) rfl rfl rfl hdX0_become ⟨Nat.le_of_ble_eq_true rfl, Nat.le_of_ble_eq_true rfl⟩) rfl rfl (Nat.le_of_ble_eq_true rfl) ⟨Nat.zero_le _, Nat.zero_le _⟩ dX7_padding_103 (fun H locs hH => ?_)
      refine lv_aload_n hx hb dX7_padding_106 rfl (lv_at hl 0 rfl) ?_
      refine x_get (C := RX7) (T := TX7) (N := 14) (v := .ref (xA G (1 + 2))) hC hH (xe_X G σ20) rfl wyX7 2 (by decide) wfX7_19 rfl rfl dX7_padding_107 ?_
      refine lv_iload_n hx hb dX7_padding_110 rfl (lv_at hl 3 rfl) ?_
      obtain ⟨σ22, h21, h⟩ := ob_some h
      refine x_callv (vw := (RX0, TX0, 12)) (As := [.int x3]) (rest := []) (cB_ride l G σ20 2 x3 (by decide) h21) hC hH hl (xe_B G σ20 (by decide)) rfl (cwV 1 hts (gV wmX7_173 wvX0_ride) rfl rfl rfl hdX0_ride ⟨Nat.le_of_ble_eq_true rfl, Nat.le_of_ble_eq_true rfl⟩) rfl rfl (Nat.le_of_ble_eq_true rfl) ⟨Nat.zero_le _, Nat.zero_le _⟩ dX7_padding_111 (fun H locs hH => ?_)
      refine lv_aload_n hx hb dX7_padding_114 rfl (lv_at hl 0 rfl) ?_
      refine x_get (C := RX7) (T := TX7) (N := 14) (v := .ref (xA G (1 + 2))) hC hH (xe_X G σ22) rfl wyX7 2 (by decide) wfX7_19 rfl rfl dX7_padding_115 ?_
      refine lv_iload_n hx hb dX7_padding_118 rfl (lv_at hl 1 rfl) ?_
      obtain ⟨r24, h23, h⟩ := ob_some h
      refine x_calli (vw := (RX0, TX0, 12)) (As := [.int x1]) (rest := []) (cB_placeOf l G σ22 2 x1 (by decide) h23) hC hH hl (xe_B G σ22 (by decide)) rfl (cwV 1 hts (gV wmX7_110 wvX0_placeOf) rfl rfl rfl hdX0_placeOf ⟨Nat.le_of_ble_eq_true rfl, Nat.le_of_ble_eq_true rfl⟩) rfl rfl (Nat.le_of_ble_eq_true rfl) ⟨Nat.zero_le _, Nat.zero_le _⟩ dX7_padding_119 (fun H locs hH => ?_)
      refine lv_aload_n hx hb dX7_padding_122 rfl (lv_at hl 0 rfl) ?_
      refine x_get (C := RX7) (T := TX7) (N := 14) (v := .ref (xA G (1 + 2))) hC hH (xe_X G σ22) rfl wyX7 2 (by decide) wfX7_19 rfl rfl dX7_padding_123 ?_
      refine lv_iload_n hx hb dX7_padding_126 rfl (lv_at hl 2 rfl) ?_
      obtain ⟨r26, h25, h⟩ := ob_some h
      refine x_calli (vw := (RX0, TX0, 12)) (As := [.int x2]) (rest := [.int r24]) (cB_placeOf l G σ22 2 x2 (by decide) h25) hC hH hl (xe_B G σ22 (by decide)) rfl (cwV 1 hts (gV wmX7_110 wvX0_placeOf) rfl rfl rfl hdX0_placeOf ⟨Nat.le_of_ble_eq_true rfl, Nat.le_of_ble_eq_true rfl⟩) rfl rfl (Nat.le_of_ble_eq_true rfl) ⟨Nat.zero_le _, Nat.zero_le _⟩ dX7_padding_127 (fun H locs hH => ?_)
      refine lv_isub hx hb dX7_padding_130 ?_
      refine va_mabs hx hb (hC.1.2.2.1.trans hl.1.symm) hown (hts _ wmX7_200) (hts _ wMa_abs.1) (hts _ wMa_abs.2.1) (hts _ wMa_abs.2.2) (Nat.le_of_ble_eq_true rfl) (Nat.le_of_ble_eq_true rfl) (Nat.zero_le _) (Nat.zero_le _) dX7_padding_131 ?_
      refine lv_iconst (v := 1) hx hb dX7_padding_134 (by decide) ?_
      refine lv_icmp_ne (tgt := 141) hx hb dX7_padding_135 (by decide) (fun c27 => ?_) (fun c27 => ?_)
      · have h := ite_f c27 h
        obtain ⟨v28, e29, h⟩ := bnd_some h
        refine lv_iinc (v := v28) (lv' := [(5, .int v28), (0, .ref (xA G 0)), (1, .int x1), (2, .int x2), (3, .int x3), (4, .int x4)]) hx hb dX7_padding_141 hl (k := 5) rfl (by rw [e29]; rfl) (by decide) rfl (fun ls hl => ?_)
        refine lv_goto (tgt := 54) hx hb dX7_padding_144 (by decide) ?_
        exact ih x1 x2 x3 x4 v28 σ22 H locs ls  hH (lv_sub hl [1, 2, 3, 4, 5, 0] rfl) h
      · have h := ite_t c27 h
        refine lv_iload hx hb dX7_padding_138 (lv_at hl 5 rfl) ?_
        obtain ⟨rfl, rfl⟩ := some_i2 h
        exact x_iret hC hH hr rfl dX7_padding_140

def fX_padding (σ0 : XS) (x1 : Int32) (x2 : Int32) (x3 : Int32) : Option (Int32 × XS) :=
  ob (fB_has σ0 0 x1) fun r2 =>
  if r2 = 0 then (
    some ((-1000000001 : Int32), σ0))
  else (
    ob (fB_has σ0 0 x2) fun r5 =>
    if r5 = 0 then (
      some ((-1000000001 : Int32), σ0))
    else (
      if x1 = x2 then (
        some ((-1000000001 : Int32), σ0))
      else (
        ob (fX_isWithin σ0 x3 (0 : Int32) (40 : Int32)) fun r9 =>
        if r9 = 0 then (
          some ((-1000000001 : Int32), σ0))
        else (
          ck x1 (14) <|
          bnd (xi σ0 (30 + 6 * 0 + 1) (x1).toNatClampNeg) fun v12 =>
          fX_padding_L54 (fun (σ : XS) => some ((-1000000005 : Int32), σ)) 10000 x1 x2 x3 v12 (0 : Int32) σ0))))

set_option maxHeartbeats 4000000 in
set_option maxRecDepth 100000 in
theorem cX_padding (l : Launch) (G : XG) (σ0 : XS) (x1 : Int32) (x2 : Int32) (x3 : Int32) {r : Int32} {σr : XS} (h : fX_padding σ0 x1 x2 x3 = some (r, σr)) : ∀ sz, Met l yX7_padding (Cond.code yX7_padding cX7_padding 6 (some .int) :: Tw) rmX_padding (xP G σ0 sz [.ref (xA G 0), .int x1, .int x2, .int x3]) (xQi G σ0 sz σr r) 0 0 (va_A (xW G σ0) sz) := by
  intro sz
  refine Met.ofW (cc := cX7_padding) (maxL := 6) (ret := (some .int)) (by decide) rfl ?_
  intro p e s m args below meth c s₁ Bd hml hv
  obtain ⟨hC, hr⟩ := jC_of Bd hml
  obtain ⟨rfl, rfl, hH⟩ := x_enter hv
  have hC : jC p s m _ meth c cX7_padding 6 RX7 := hC
  have hx := hC.1.1
  have hb := hC.1.2.1
  have hown := hC.1.2.2.2.1
  have hts := hC.1.2.2.2.2
  have hl := lv_entry ([.ref (xA G 0), .int x1, .int x2, .int x3]) (n := 6) (Nat.le_of_ble_eq_true rfl)
  rw [lg_entry_eq]
  generalize (lg_sl ([.ref (xA G 0), .int x1, .int x2, .int x3]) ++ List.replicate (6 - (lg_sl ([.ref (xA G 0), .int x1, .int x2, .int x3])).length) Slot.unset).toArray = ls at hl ⊢
  have hl : lv_has ls 6 [(0, .ref (xA G 0)), (1, .int x1), (2, .int x2), (3, .int x3)] := hl
  unfold fX_padding at h
  refine W_nm (fun H locs eH eL => ?_)
  have hH : xH G s (va_A (xW G σ0) s.heap.size) σ0 H locs := by rw [eH, eL]; exact hH
  show W p l e rmX_padding s m _ below meth c H locs 0 0 _ (F0 m 0 ls [])
  refine lv_aload_n hx hb dX7_padding_0 rfl (lv_at hl 0 rfl) ?_
  refine x_get (C := RX7) (T := TX7) (N := 14) (v := .ref (xA G (1 + 0))) hC hH (xe_X G σ0) rfl wyX7 0 (by decide) wfX7_10 rfl rfl dX7_padding_1 ?_
  refine lv_iload_n hx hb dX7_padding_4 rfl (lv_at hl 1 rfl) ?_
  obtain ⟨r2, h1, h⟩ := ob_some h
  refine x_calli (vw := (RX0, TX0, 12)) (As := [.int x1]) (rest := []) (cB_has l G σ0 0 x1 (by decide) h1) hC hH hl (xe_B G σ0 (by decide)) rfl (cwV 1 hts (gV wmX7_98 wvX0_has) rfl rfl rfl hdX0_has ⟨Nat.le_of_ble_eq_true rfl, Nat.le_of_ble_eq_true rfl⟩) rfl rfl (Nat.le_of_ble_eq_true rfl) ⟨Nat.zero_le _, Nat.zero_le _⟩ dX7_padding_5 (fun H locs hH => ?_)
  refine lv_if_eq (tgt := 37) hx hb dX7_padding_8 (by decide) (fun c3 => ?_) (fun c3 => ?_)
  · have h := ite_t c3 h
    refine lv_ldc (v := -1000000001) hx hb hown (hts _ wkX7_89) dX7_padding_37 ?_
    obtain ⟨rfl, rfl⟩ := some_i2 h
    exact x_iret (v := -1000000001) hC hH hr rfl dX7_padding_39
  · have h := ite_f c3 h
    refine lv_aload_n hx hb dX7_padding_11 rfl (lv_at hl 0 rfl) ?_
    refine x_get (C := RX7) (T := TX7) (N := 14) (v := .ref (xA G (1 + 0))) hC hH (xe_X G σ0) rfl wyX7 0 (by decide) wfX7_10 rfl rfl dX7_padding_12 ?_
    refine lv_iload_n hx hb dX7_padding_15 rfl (lv_at hl 2 rfl) ?_
    obtain ⟨r5, h4, h⟩ := ob_some h
    refine x_calli (vw := (RX0, TX0, 12)) (As := [.int x2]) (rest := []) (cB_has l G σ0 0 x2 (by decide) h4) hC hH hl (xe_B G σ0 (by decide)) rfl (cwV 1 hts (gV wmX7_98 wvX0_has) rfl rfl rfl hdX0_has ⟨Nat.le_of_ble_eq_true rfl, Nat.le_of_ble_eq_true rfl⟩) rfl rfl (Nat.le_of_ble_eq_true rfl) ⟨Nat.zero_le _, Nat.zero_le _⟩ dX7_padding_16 (fun H locs hH => ?_)
    refine lv_if_eq (tgt := 37) hx hb dX7_padding_19 (by decide) (fun c6 => ?_) (fun c6 => ?_)
    · have h := ite_t c6 h
      refine lv_ldc (v := -1000000001) hx hb hown (hts _ wkX7_89) dX7_padding_37 ?_
      obtain ⟨rfl, rfl⟩ := some_i2 h
      exact x_iret (v := -1000000001) hC hH hr rfl dX7_padding_39
    · have h := ite_f c6 h
      refine lv_iload_n hx hb dX7_padding_22 rfl (lv_at hl 1 rfl) ?_
      refine lv_iload_n hx hb dX7_padding_23 rfl (lv_at hl 2 rfl) ?_
      refine lv_icmp_eq (tgt := 37) hx hb dX7_padding_24 (by decide) (fun c7 => ?_) (fun c7 => ?_)
      · have h := ite_t c7 h
        refine lv_ldc (v := -1000000001) hx hb hown (hts _ wkX7_89) dX7_padding_37 ?_
        obtain ⟨rfl, rfl⟩ := some_i2 h
        exact x_iret (v := -1000000001) hC hH hr rfl dX7_padding_39
      · have h := ite_f c7 h
        refine lv_iload_n hx hb dX7_padding_27 rfl (lv_at hl 3 rfl) ?_
        refine lv_iconst (v := 0) hx hb dX7_padding_28 (by decide) ?_
        refine lv_bipush (v := 40) hx hb dX7_padding_29 (by decide) ?_
        obtain ⟨r9, h8, h⟩ := ob_some h
        refine x_calls (As := [.int x3, .int (0 : Int32), .int (40 : Int32)]) (rest := []) (cX_isWithin l G σ0 x3 (0 : Int32) (40 : Int32)  h8) hC hH hl (va_cwS 3 hts (gS wmX7_148 wsX7_isWithin) rfl rfl rfl hdX7_isWithin ⟨Nat.le_of_ble_eq_true rfl, Nat.le_of_ble_eq_true rfl⟩) rfl rfl (Nat.le_of_ble_eq_true rfl) ⟨Nat.zero_le _, Nat.zero_le _⟩ dX7_padding_31 (fun H locs hH => ?_)
        refine lv_if_ne (tgt := 40) hx hb dX7_padding_34 (by decide) (fun c10 => ?_) (fun c10 => ?_)
        · have h := ite_f c10 h
          refine lv_aload_n hx hb dX7_padding_40 rfl (lv_at hl 0 rfl) ?_
          refine x_get (C := RX7) (T := TX7) (N := 14) (v := .ref (xA G (1 + 0))) hC hH (xe_X G σ0) rfl wyX7 0 (by decide) wfX7_10 rfl rfl dX7_padding_41 ?_
          refine x_getN (C := RX0) (T := TX0) (N := 12) (v := .ref (xA G (100 + (30 + 6 * 0 + 1)))) (host := "RoadSorted") hC hH (xe_B G σ0 (by decide)) rfl wyX0 2 (by decide) (by decide +kernel) rfl rfl dX7_padding_44 ?_
          refine lv_iload_n hx hb dX7_padding_47 rfl (lv_at hl 1 rfl) ?_
          obtain ⟨i11, h⟩ := ck_some h
          refine x_ald hC hH (d := (30 + 6 * 0 + 1)) (xIs_b (by decide) (by decide)) (xLen_b (by decide) (by decide)) rfl i11 dX7_padding_48 ?_
          obtain ⟨v12, e13, h⟩ := bnd_some h
          refine lv_tope e13 ?_
          refine lv_istore (lv' := [(4, .int v12), (0, .ref (xA G 0)), (1, .int x1), (2, .int x2), (3, .int x3)]) hx hb dX7_padding_49 hl (by decide) rfl (fun ls hl => ?_)
          refine lv_iconst (v := 0) hx hb dX7_padding_51 (by decide) ?_
          refine lv_istore (lv' := [(5, .int (0 : Int32)), (4, .int v12), (0, .ref (xA G 0)), (1, .int x1), (2, .int x2), (3, .int x3)]) hx hb dX7_padding_52 hl (by decide) rfl (fun ls hl => ?_)
          refine wX_padding_L54 hC hr  ?_ 10000 x1 x2 x3 v12 (0 : Int32) σ0 H locs ls  hH (lv_sub hl [2, 3, 4, 5, 1, 0] rfl) h
          intro σ H locs ls  hH hl h
          refine lv_ldc (v := -1000000005) hx hb hown (hts _ wkX7_195) dX7_padding_147 ?_
          obtain ⟨rfl, rfl⟩ := some_i2 h
          exact x_iret (v := -1000000005) hC hH hr rfl dX7_padding_149
        · have h := ite_t c10 h
          refine lv_ldc (v := -1000000001) hx hb hown (hts _ wkX7_89) dX7_padding_37 ?_
          obtain ⟨rfl, rfl⟩ := some_i2 h
          exact x_iret (v := -1000000001) hC hH hr rfl dX7_padding_39

def rmX_stays : Room := { frames := 6, cells := 0, slots := 0, locals := 148 }
theorem hdX7_stays : yX7_stays.cls = RX7 ∧ yX7_stays.cls ≠ "java/lang/invoke/MethodHandle" ∧ yX7_stays.cls ≠ "java/lang/invoke/VarHandle" ∧ (parseMethodDescriptor yX7_stays.desc).map (fun d => d.parameters.length) = some 1 := by decide +kernel

def fX_stays_L22 (k74 : Int32 → XS → Option (Int32 × XS)) : Nat → Int32 → Int32 → XS → Option (Int32 × XS)
  | 0, _, _, _ => none
  | n + 1, x2, x3, σ =>
    if (xi σ (1 + 0) 0) ≤ x3 then (
      k74 x2 σ)
    else (
      ck x3 (14) <|
      ck x3 (14) <|
      if (xi σ (30 + 6 * 2 + 5) (x3).toNatClampNeg) = (xi σ (30 + 6 * 0 + 5) (x3).toNatClampNeg) then (
        ck x3 (14) <|
        bnd (x2 ||| ((1 : Int32) <<< ((xi σ (30 + 6 * 0 + 5) (x3).toNatClampNeg) &&& 31))) fun v13 =>
        bnd (x3 + (1 : Int32)) fun v15 =>
        (fX_stays_L22 k74 n) v13 v15 σ)
      else (
        bnd (x3 + (1 : Int32)) fun v10 =>
        (fX_stays_L22 k74 n) x2 v10 σ))

set_option maxHeartbeats 4000000 in
set_option maxRecDepth 100000 in
theorem wX_stays_L22 {p : Program} {l : Launch} {e : Env} {s : State} {m : MethodId} {args : Array Value} {below : List Frame} {meth : Method} {c : Code} {G : XG} {σ0 : XS} {r : Int32} {σr : XS} (hC : jC p s m args meth c cX7_stays 4 RX7) (hr : meth.sig.returnType = some .int) {k74 : Int32 → XS → Option (Int32 × XS)} (hk74 : ∀ (x2 : Int32) (σ : XS) (H : Heap) (locs : List Loc) (ls : Array Slot), xH G s (va_A (xW G σ0) s.heap.size) σ H locs → lv_has ls 4 [(2, .int x2)] → k74 x2 σ = some (r, σr) → W p l e rmX_stays s m args below meth c H locs 0 0 (MQ below (xQi G σ0 s.heap.size σr r) args s 0 0 (va_A (xW G σ0) s.heap.size)) (F0 m 74 ls [])) : ∀ (n : Nat) (x2 : Int32) (x3 : Int32) (σ : XS) (H : Heap) (locs : List Loc) (ls : Array Slot), xH G s (va_A (xW G σ0) s.heap.size) σ H locs → lv_has ls 4 [(0, .ref (xA G 0)), (2, .int x2), (3, .int x3)] → fX_stays_L22 k74 n x2 x3 σ = some (r, σr) → W p l e rmX_stays s m args below meth c H locs 0 0 (MQ below (xQi G σ0 s.heap.size σr r) args s 0 0 (va_A (xW G σ0) s.heap.size)) (F0 m 22 ls []) := by
  have hx := hC.1.1
  have hb := hC.1.2.1
  have hown := hC.1.2.2.2.1
  have hts := hC.1.2.2.2.2
  intro n
  induction n with
  | zero =>
    intro x2 x3 σ H locs ls  hH hl h
    rw [fX_stays_L22] at h
    cases h
  | succ n ih =>
    intro x2 x3 σ H locs ls  hH hl h
    rw [fX_stays_L22] at h
    refine lv_iload_n hx hb dX7_stays_22 rfl (lv_at hl 2 rfl) ?_
    refine lv_aload_n hx hb dX7_stays_23 rfl (lv_at hl 0 rfl) ?_
    refine x_get (C := RX7) (T := TX7) (N := 14) (v := .ref (xA G (1 + 0))) hC hH (xe_X G σ) rfl wyX7 0 (by decide) wfX7_10 rfl rfl dX7_stays_24 ?_
    refine x_getN (C := RX0) (T := TX0) (N := 12) (v := .int (xi σ (1 + 0) 0)) (host := "RoadSorted") hC hH (xe_B G σ (by decide)) rfl wyX0 0 (by decide) (by decide +kernel) rfl rfl dX7_stays_27 ?_
    refine lv_icmp_ge (tgt := 74) hx hb dX7_stays_30 (by decide) (fun c6 => ?_) (fun c6 => ?_)
    · have h := ite_t c6 h
      exact hk74 x2 σ H locs ls  hH (lv_sub hl [1] rfl) h
    · have h := ite_f c6 h
      refine lv_aload_n hx hb dX7_stays_33 rfl (lv_at hl 0 rfl) ?_
      refine x_get (C := RX7) (T := TX7) (N := 14) (v := .ref (xA G (1 + 2))) hC hH (xe_X G σ) rfl wyX7 2 (by decide) wfX7_19 rfl rfl dX7_stays_34 ?_
      refine x_getN (C := RX0) (T := TX0) (N := 12) (v := .ref (xA G (100 + (30 + 6 * 2 + 5)))) (host := "RoadSorted") hC hH (xe_B G σ (by decide)) rfl wyX0 6 (by decide) (by decide +kernel) rfl rfl dX7_stays_37 ?_
      refine lv_iload_n hx hb dX7_stays_40 rfl (lv_at hl 2 rfl) ?_
      obtain ⟨i7, h⟩ := ck_some h
      refine x_ald hC hH (d := (30 + 6 * 2 + 5)) (xIs_b (by decide) (by decide)) (xLen_b (by decide) (by decide)) rfl i7 dX7_stays_41 ?_
      refine lv_aload_n hx hb dX7_stays_42 rfl (lv_at hl 0 rfl) ?_
      refine x_get (C := RX7) (T := TX7) (N := 14) (v := .ref (xA G (1 + 0))) hC hH (xe_X G σ) rfl wyX7 0 (by decide) wfX7_10 rfl rfl dX7_stays_43 ?_
      refine x_getN (C := RX0) (T := TX0) (N := 12) (v := .ref (xA G (100 + (30 + 6 * 0 + 5)))) (host := "RoadSorted") hC hH (xe_B G σ (by decide)) rfl wyX0 6 (by decide) (by decide +kernel) rfl rfl dX7_stays_46 ?_
      refine lv_iload_n hx hb dX7_stays_49 rfl (lv_at hl 2 rfl) ?_
      obtain ⟨i8, h⟩ := ck_some h
      refine x_ald hC hH (d := (30 + 6 * 0 + 5)) (xIs_b (by decide) (by decide)) (xLen_b (by decide) (by decide)) rfl i8 dX7_stays_50 ?_
      refine lv_icmp_ne (tgt := 68) hx hb dX7_stays_51 (by decide) (fun c9 => ?_) (fun c9 => ?_)
      · have h := ite_f c9 h
        obtain ⟨v10, e11, h⟩ := bnd_some h
        refine lv_iinc (v := v10) (lv' := [(3, .int v10), (0, .ref (xA G 0)), (2, .int x2)]) hx hb dX7_stays_68 hl (k := 2) rfl (by rw [e11]; rfl) (by decide) rfl (fun ls hl => ?_)
        refine lv_goto (tgt := 22) hx hb dX7_stays_71 (by decide) ?_
        exact ih x2 v10 σ H locs ls  hH (lv_sub hl [1, 2, 0] rfl) h
      · have h := ite_t c9 h
        refine lv_iload_n hx hb dX7_stays_54 rfl (lv_at hl 1 rfl) ?_
        refine lv_iconst (v := 1) hx hb dX7_stays_55 (by decide) ?_
        refine lv_aload_n hx hb dX7_stays_56 rfl (lv_at hl 0 rfl) ?_
        refine x_get (C := RX7) (T := TX7) (N := 14) (v := .ref (xA G (1 + 0))) hC hH (xe_X G σ) rfl wyX7 0 (by decide) wfX7_10 rfl rfl dX7_stays_57 ?_
        refine x_getN (C := RX0) (T := TX0) (N := 12) (v := .ref (xA G (100 + (30 + 6 * 0 + 5)))) (host := "RoadSorted") hC hH (xe_B G σ (by decide)) rfl wyX0 6 (by decide) (by decide +kernel) rfl rfl dX7_stays_60 ?_
        refine lv_iload_n hx hb dX7_stays_63 rfl (lv_at hl 2 rfl) ?_
        obtain ⟨i12, h⟩ := ck_some h
        refine x_ald hC hH (d := (30 + 6 * 0 + 5)) (xIs_b (by decide) (by decide)) (xLen_b (by decide) (by decide)) rfl i12 dX7_stays_64 ?_
        refine lv_ishl hx hb dX7_stays_65 ?_
        refine lv_ior hx hb dX7_stays_66 ?_
        obtain ⟨v13, e14, h⟩ := bnd_some h
        refine lv_tope e14 ?_
        refine lv_istore_n (lv' := [(2, .int v13), (0, .ref (xA G 0)), (3, .int x3)]) hx hb dX7_stays_67 rfl hl (by decide) rfl (fun ls hl => ?_)
        obtain ⟨v15, e16, h⟩ := bnd_some h
        refine lv_iinc (v := v15) (lv' := [(3, .int v15), (2, .int v13), (0, .ref (xA G 0))]) hx hb dX7_stays_68 hl (k := 2) rfl (by rw [e16]; rfl) (by decide) rfl (fun ls hl => ?_)
        refine lv_goto (tgt := 22) hx hb dX7_stays_71 (by decide) ?_
        exact ih v13 v15 σ H locs ls  hH (lv_sub hl [2, 1, 0] rfl) h

def fX_stays (σ0 : XS) (x1 : Int32) : Option (Int32 × XS) :=
  ob (fX_isWithin σ0 x1 (0 : Int32) (100 : Int32)) fun r2 =>
  if r2 = 0 then (
    some ((-1000000001 : Int32), σ0))
  else (
    ob (fX_think σ0 x1) fun σ5 =>
    fX_stays_L22 (fun (x2 : Int32) (σ : XS) => some (x2, σ)) 10000 (0 : Int32) (0 : Int32) σ5)

set_option maxHeartbeats 4000000 in
set_option maxRecDepth 100000 in
theorem cX_stays (l : Launch) (G : XG) (σ0 : XS) (x1 : Int32) {r : Int32} {σr : XS} (h : fX_stays σ0 x1 = some (r, σr)) : ∀ sz, Met l yX7_stays (Cond.code yX7_stays cX7_stays 4 (some .int) :: Tw) rmX_stays (xP G σ0 sz [.ref (xA G 0), .int x1]) (xQi G σ0 sz σr r) 0 0 (va_A (xW G σ0) sz) := by
  intro sz
  refine Met.ofW (cc := cX7_stays) (maxL := 4) (ret := (some .int)) (by decide) rfl ?_
  intro p e s m args below meth c s₁ Bd hml hv
  obtain ⟨hC, hr⟩ := jC_of Bd hml
  obtain ⟨rfl, rfl, hH⟩ := x_enter hv
  have hC : jC p s m _ meth c cX7_stays 4 RX7 := hC
  have hx := hC.1.1
  have hb := hC.1.2.1
  have hown := hC.1.2.2.2.1
  have hts := hC.1.2.2.2.2
  have hl := lv_entry ([.ref (xA G 0), .int x1]) (n := 4) (Nat.le_of_ble_eq_true rfl)
  rw [lg_entry_eq]
  generalize (lg_sl ([.ref (xA G 0), .int x1]) ++ List.replicate (4 - (lg_sl ([.ref (xA G 0), .int x1])).length) Slot.unset).toArray = ls at hl ⊢
  have hl : lv_has ls 4 [(0, .ref (xA G 0)), (1, .int x1)] := hl
  unfold fX_stays at h
  refine W_nm (fun H locs eH eL => ?_)
  have hH : xH G s (va_A (xW G σ0) s.heap.size) σ0 H locs := by rw [eH, eL]; exact hH
  show W p l e rmX_stays s m _ below meth c H locs 0 0 _ (F0 m 0 ls [])
  refine lv_iload_n hx hb dX7_stays_0 rfl (lv_at hl 1 rfl) ?_
  refine lv_iconst (v := 0) hx hb dX7_stays_1 (by decide) ?_
  refine lv_bipush (v := 100) hx hb dX7_stays_2 (by decide) ?_
  obtain ⟨r2, h1, h⟩ := ob_some h
  refine x_calls (As := [.int x1, .int (0 : Int32), .int (100 : Int32)]) (rest := []) (cX_isWithin l G σ0 x1 (0 : Int32) (100 : Int32)  h1) hC hH hl (va_cwS 3 hts (gS wmX7_148 wsX7_isWithin) rfl rfl rfl hdX7_isWithin ⟨Nat.le_of_ble_eq_true rfl, Nat.le_of_ble_eq_true rfl⟩) rfl rfl (Nat.le_of_ble_eq_true rfl) ⟨Nat.zero_le _, Nat.zero_le _⟩ dX7_stays_4 (fun H locs hH => ?_)
  refine lv_if_ne (tgt := 13) hx hb dX7_stays_7 (by decide) (fun c3 => ?_) (fun c3 => ?_)
  · have h := ite_f c3 h
    refine lv_aload_n hx hb dX7_stays_13 rfl (lv_at hl 0 rfl) ?_
    refine lv_iload_n hx hb dX7_stays_14 rfl (lv_at hl 1 rfl) ?_
    obtain ⟨σ5, h4, h⟩ := ob_some h
    refine x_callv (vw := (RX7, TX7, 14)) (As := [.int x1]) (rest := []) (cX_think l G σ0 x1  h4) hC hH hl (xe_X G σ0) rfl (cwV 1 hts (gV wmX7_189 wvX7_think) rfl rfl rfl hdX7_think ⟨Nat.le_of_ble_eq_true rfl, Nat.le_of_ble_eq_true rfl⟩) rfl rfl (Nat.le_of_ble_eq_true rfl) ⟨Nat.zero_le _, Nat.zero_le _⟩ dX7_stays_15 (fun H locs hH => ?_)
    refine lv_iconst (v := 0) hx hb dX7_stays_18 (by decide) ?_
    refine lv_istore_n (lv' := [(2, .int (0 : Int32)), (0, .ref (xA G 0)), (1, .int x1)]) hx hb dX7_stays_19 rfl hl (by decide) rfl (fun ls hl => ?_)
    refine lv_iconst (v := 0) hx hb dX7_stays_20 (by decide) ?_
    refine lv_istore_n (lv' := [(3, .int (0 : Int32)), (2, .int (0 : Int32)), (0, .ref (xA G 0)), (1, .int x1)]) hx hb dX7_stays_21 rfl hl (by decide) rfl (fun ls hl => ?_)
    refine wX_stays_L22 hC hr  ?_ 10000 (0 : Int32) (0 : Int32) σ5 H locs ls  hH (lv_sub hl [2, 1, 0] rfl) h
    intro x2 σ H locs ls  hH hl h
    refine lv_iload_n hx hb dX7_stays_74 rfl (lv_at hl 0 rfl) ?_
    obtain ⟨rfl, rfl⟩ := some_i2 h
    exact x_iret hC hH hr rfl dX7_stays_75
  · have h := ite_t c3 h
    refine lv_ldc (v := -1000000001) hx hb hown (hts _ wkX7_89) dX7_stays_10 ?_
    obtain ⟨rfl, rfl⟩ := some_i2 h
    exact x_iret (v := -1000000001) hC hH hr rfl dX7_stays_12

def rmX_bundle : Room := { frames := 6, cells := 0, slots := 0, locals := 148 }
theorem hdX7_bundle : yX7_bundle.cls = RX7 ∧ yX7_bundle.cls ≠ "java/lang/invoke/MethodHandle" ∧ yX7_bundle.cls ≠ "java/lang/invoke/VarHandle" ∧ (parseMethodDescriptor yX7_bundle.desc).map (fun d => d.parameters.length) = some 2 := by decide +kernel

def fX_bundle (σ0 : XS) (x1 : Int32) (x2 : Int32) : Option (Int32 × XS) :=
  ob (fX_isTown σ0 x1) fun r2 =>
  if r2 = 0 then (
    some ((-1000000001 : Int32), σ0))
  else (
    ob (fX_isWithin σ0 x2 (0 : Int32) (100 : Int32)) fun r5 =>
    if r5 = 0 then (
      some ((-1000000001 : Int32), σ0))
    else (
      ob (fX_think σ0 x2) fun σ8 =>
      ob (fB_rowsOf σ8 2 x1) fun r10 =>
      if (1 : Int32) < r10 then (
        some ((0 : Int32), σ8))
      else (
        some ((1 : Int32), σ8))))

set_option maxHeartbeats 4000000 in
set_option maxRecDepth 100000 in
theorem cX_bundle (l : Launch) (G : XG) (σ0 : XS) (x1 : Int32) (x2 : Int32) {r : Int32} {σr : XS} (h : fX_bundle σ0 x1 x2 = some (r, σr)) : ∀ sz, Met l yX7_bundle (Cond.code yX7_bundle cX7_bundle 3 (some .int) :: Tw) rmX_bundle (xP G σ0 sz [.ref (xA G 0), .int x1, .int x2]) (xQi G σ0 sz σr r) 0 0 (va_A (xW G σ0) sz) := by
  intro sz
  refine Met.ofW (cc := cX7_bundle) (maxL := 3) (ret := (some .int)) (by decide) rfl ?_
  intro p e s m args below meth c s₁ Bd hml hv
  obtain ⟨hC, hr⟩ := jC_of Bd hml
  obtain ⟨rfl, rfl, hH⟩ := x_enter hv
  have hC : jC p s m _ meth c cX7_bundle 3 RX7 := hC
  have hx := hC.1.1
  have hb := hC.1.2.1
  have hown := hC.1.2.2.2.1
  have hts := hC.1.2.2.2.2
  have hl := lv_entry ([.ref (xA G 0), .int x1, .int x2]) (n := 3) (Nat.le_of_ble_eq_true rfl)
  rw [lg_entry_eq]
  generalize (lg_sl ([.ref (xA G 0), .int x1, .int x2]) ++ List.replicate (3 - (lg_sl ([.ref (xA G 0), .int x1, .int x2])).length) Slot.unset).toArray = ls at hl ⊢
  have hl : lv_has ls 3 [(0, .ref (xA G 0)), (1, .int x1), (2, .int x2)] := hl
  unfold fX_bundle at h
  refine W_nm (fun H locs eH eL => ?_)
  have hH : xH G s (va_A (xW G σ0) s.heap.size) σ0 H locs := by rw [eH, eL]; exact hH
  show W p l e rmX_bundle s m _ below meth c H locs 0 0 _ (F0 m 0 ls [])
  refine lv_iload_n hx hb dX7_bundle_0 rfl (lv_at hl 1 rfl) ?_
  obtain ⟨r2, h1, h⟩ := ob_some h
  refine x_calls (As := [.int x1]) (rest := []) (cX_isTown l G σ0 x1  h1) hC hH hl (va_cwS 1 hts (gS wmX7_86 wsX7_isTown) rfl rfl rfl hdX7_isTown ⟨Nat.le_of_ble_eq_true rfl, Nat.le_of_ble_eq_true rfl⟩) rfl rfl (Nat.le_of_ble_eq_true rfl) ⟨Nat.zero_le _, Nat.zero_le _⟩ dX7_bundle_1 (fun H locs hH => ?_)
  refine lv_if_eq (tgt := 17) hx hb dX7_bundle_4 (by decide) (fun c3 => ?_) (fun c3 => ?_)
  · have h := ite_t c3 h
    refine lv_ldc (v := -1000000001) hx hb hown (hts _ wkX7_89) dX7_bundle_17 ?_
    obtain ⟨rfl, rfl⟩ := some_i2 h
    exact x_iret (v := -1000000001) hC hH hr rfl dX7_bundle_19
  · have h := ite_f c3 h
    refine lv_iload_n hx hb dX7_bundle_7 rfl (lv_at hl 2 rfl) ?_
    refine lv_iconst (v := 0) hx hb dX7_bundle_8 (by decide) ?_
    refine lv_bipush (v := 100) hx hb dX7_bundle_9 (by decide) ?_
    obtain ⟨r5, h4, h⟩ := ob_some h
    refine x_calls (As := [.int x2, .int (0 : Int32), .int (100 : Int32)]) (rest := []) (cX_isWithin l G σ0 x2 (0 : Int32) (100 : Int32)  h4) hC hH hl (va_cwS 3 hts (gS wmX7_148 wsX7_isWithin) rfl rfl rfl hdX7_isWithin ⟨Nat.le_of_ble_eq_true rfl, Nat.le_of_ble_eq_true rfl⟩) rfl rfl (Nat.le_of_ble_eq_true rfl) ⟨Nat.zero_le _, Nat.zero_le _⟩ dX7_bundle_11 (fun H locs hH => ?_)
    refine lv_if_ne (tgt := 20) hx hb dX7_bundle_14 (by decide) (fun c6 => ?_) (fun c6 => ?_)
    · have h := ite_f c6 h
      refine lv_aload_n hx hb dX7_bundle_20 rfl (lv_at hl 0 rfl) ?_
      refine lv_iload_n hx hb dX7_bundle_21 rfl (lv_at hl 2 rfl) ?_
      obtain ⟨σ8, h7, h⟩ := ob_some h
      refine x_callv (vw := (RX7, TX7, 14)) (As := [.int x2]) (rest := []) (cX_think l G σ0 x2  h7) hC hH hl (xe_X G σ0) rfl (cwV 1 hts (gV wmX7_189 wvX7_think) rfl rfl rfl hdX7_think ⟨Nat.le_of_ble_eq_true rfl, Nat.le_of_ble_eq_true rfl⟩) rfl rfl (Nat.le_of_ble_eq_true rfl) ⟨Nat.zero_le _, Nat.zero_le _⟩ dX7_bundle_22 (fun H locs hH => ?_)
      refine lv_aload_n hx hb dX7_bundle_25 rfl (lv_at hl 0 rfl) ?_
      refine x_get (C := RX7) (T := TX7) (N := 14) (v := .ref (xA G (1 + 2))) hC hH (xe_X G σ8) rfl wyX7 2 (by decide) wfX7_19 rfl rfl dX7_bundle_26 ?_
      refine lv_iload_n hx hb dX7_bundle_29 rfl (lv_at hl 1 rfl) ?_
      obtain ⟨r10, h9, h⟩ := ob_some h
      refine x_calli (vw := (RX0, TX0, 12)) (As := [.int x1]) (rest := []) (cB_rowsOf l G σ8 2 x1 (by decide) h9) hC hH hl (xe_B G σ8 (by decide)) rfl (cwV 1 hts (gV wmX7_203 wvX0_rowsOf) rfl rfl rfl hdX0_rowsOf ⟨Nat.le_of_ble_eq_true rfl, Nat.le_of_ble_eq_true rfl⟩) rfl rfl (Nat.le_of_ble_eq_true rfl) ⟨Nat.zero_le _, Nat.zero_le _⟩ dX7_bundle_30 (fun H locs hH => ?_)
      refine lv_iconst (v := 1) hx hb dX7_bundle_33 (by decide) ?_
      refine lv_icmp_gt (tgt := 41) hx hb dX7_bundle_34 (by decide) (fun c11 => ?_) (fun c11 => ?_)
      · have h := ite_t c11 h
        refine lv_iconst (v := 0) hx hb dX7_bundle_41 (by decide) ?_
        obtain ⟨rfl, rfl⟩ := some_i2 h
        exact x_iret (v := 0) hC hH hr rfl dX7_bundle_42
      · have h := ite_f c11 h
        refine lv_iconst (v := 1) hx hb dX7_bundle_37 (by decide) ?_
        refine lv_goto (tgt := 42) hx hb dX7_bundle_38 (by decide) ?_
        obtain ⟨rfl, rfl⟩ := some_i2 h
        exact x_iret (v := 1) hC hH hr rfl dX7_bundle_42
    · have h := ite_t c6 h
      refine lv_ldc (v := -1000000001) hx hb hown (hts _ wkX7_89) dX7_bundle_17 ?_
      obtain ⟨rfl, rfl⟩ := some_i2 h
      exact x_iret (v := -1000000001) hC hH hr rfl dX7_bundle_19

def rmX_halts : Room := { frames := 6, cells := 0, slots := 0, locals := 148 }
theorem hdX7_halts : yX7_halts.cls = RX7 ∧ yX7_halts.cls ≠ "java/lang/invoke/MethodHandle" ∧ yX7_halts.cls ≠ "java/lang/invoke/VarHandle" ∧ (parseMethodDescriptor yX7_halts.desc).map (fun d => d.parameters.length) = some 2 := by decide +kernel

def fX_halts_J91 (k35 : Int32 → Int32 → Int32 → Int32 → Int32 → XS → Option (Int32 × XS)) (x1 : Int32) (x2 : Int32) (x5 : Int32) (x6 : Int32) (σ : XS) : Option (Int32 × XS) :=
  ob (fB_joltOnce σ 2) fun σ20 =>
  bnd (x5 + (1 : Int32)) fun v21 =>
  k35 x1 x2 x5 x6 v21 σ20

set_option maxHeartbeats 4000000 in
set_option maxRecDepth 100000 in
theorem wX_halts_J91 {p : Program} {l : Launch} {e : Env} {s : State} {m : MethodId} {args : Array Value} {below : List Frame} {meth : Method} {c : Code} {G : XG} {σ0 : XS} {r : Int32} {σr : XS} (hC : jC p s m args meth c cX7_halts 7 RX7) (hr : meth.sig.returnType = some .int) {k35 : Int32 → Int32 → Int32 → Int32 → Int32 → XS → Option (Int32 × XS)} (hk35 : ∀ (x1 : Int32) (x2 : Int32) (x3 : Int32) (x4 : Int32) (x5 : Int32) (σ : XS) (H : Heap) (locs : List Loc) (ls : Array Slot), xH G s (va_A (xW G σ0) s.heap.size) σ H locs → lv_has ls 7 [(0, .ref (xA G 0)), (1, .int x1), (2, .int x2), (3, .int x3), (4, .int x4), (5, .int x5)] → k35 x1 x2 x3 x4 x5 σ = some (r, σr) → W p l e rmX_halts s m args below meth c H locs 0 0 (MQ below (xQi G σ0 s.heap.size σr r) args s 0 0 (va_A (xW G σ0) s.heap.size)) (F0 m 35 ls [])) (x1 : Int32) (x2 : Int32) (x5 : Int32) (x6 : Int32) (σ : XS) (H : Heap) (locs : List Loc) (ls : Array Slot) (hH : xH G s (va_A (xW G σ0) s.heap.size) σ H locs) (hl : lv_has ls 7 [(0, .ref (xA G 0)), (1, .int x1), (2, .int x2), (5, .int x5), (6, .int x6)]) (h : fX_halts_J91 k35 x1 x2 x5 x6 σ = some (r, σr)) : W p l e rmX_halts s m args below meth c H locs 0 0 (MQ below (xQi G σ0 s.heap.size σr r) args s 0 0 (va_A (xW G σ0) s.heap.size)) (F0 m 91 ls []) := by
  have hx := hC.1.1
  have hb := hC.1.2.1
  have hown := hC.1.2.2.2.1
  have hts := hC.1.2.2.2.2
  unfold fX_halts_J91 at h
  refine lv_iload hx hb dX7_halts_91 (lv_at hl 3 rfl) ?_
  refine lv_istore_n (lv' := [(3, .int x5), (0, .ref (xA G 0)), (1, .int x1), (2, .int x2), (5, .int x5), (6, .int x6)]) hx hb dX7_halts_93 rfl hl (by decide) rfl (fun ls hl => ?_)
  refine lv_iload hx hb dX7_halts_94 (lv_at hl 5 rfl) ?_
  refine lv_istore (lv' := [(4, .int x6), (3, .int x5), (0, .ref (xA G 0)), (1, .int x1), (2, .int x2), (5, .int x5), (6, .int x6)]) hx hb dX7_halts_96 hl (by decide) rfl (fun ls hl => ?_)
  refine lv_aload_n hx hb dX7_halts_98 rfl (lv_at hl 2 rfl) ?_
  refine x_get (C := RX7) (T := TX7) (N := 14) (v := .ref (xA G (1 + 2))) hC hH (xe_X G σ) rfl wyX7 2 (by decide) wfX7_19 rfl rfl dX7_halts_99 ?_
  obtain ⟨σ20, h19, h⟩ := ob_some h
  refine x_callv (vw := (RX0, TX0, 12)) (As := []) (rest := []) (cB_joltOnce l G σ 2 (by decide) h19) hC hH hl (xe_B G σ (by decide)) rfl (cwV 0 hts (gV wmX7_192 wvX0_joltOnce) rfl rfl rfl hdX0_joltOnce ⟨Nat.le_of_ble_eq_true rfl, Nat.le_of_ble_eq_true rfl⟩) rfl rfl (Nat.le_of_ble_eq_true rfl) ⟨Nat.zero_le _, Nat.zero_le _⟩ dX7_halts_102 (fun H locs hH => ?_)
  obtain ⟨v21, e22, h⟩ := bnd_some h
  refine lv_iinc (v := v21) (lv' := [(5, .int v21), (4, .int x6), (3, .int x5), (0, .ref (xA G 0)), (1, .int x1), (2, .int x2), (6, .int x6)]) hx hb dX7_halts_105 hl (k := 5) rfl (by rw [e22]; rfl) (by decide) rfl (fun ls hl => ?_)
  refine lv_goto (tgt := 35) hx hb dX7_halts_108 (by decide) ?_
  exact hk35 x1 x2 x5 x6 v21 σ20 H locs ls  hH (lv_sub hl [3, 4, 5, 2, 1, 0] rfl) h

def fX_halts_L35 (k111 : Int32 → Int32 → Int32 → XS → Option (Int32 × XS)) : Nat → Int32 → Int32 → Int32 → Int32 → Int32 → XS → Option (Int32 × XS)
  | 0, _, _, _, _, _, _ => none
  | n + 1, x1, x2, x3, x4, x5, σ =>
    if x1 < x5 then (
      k111 x2 x3 x4 σ)
    else (
      ob (fB_becomeAs σ 3 2) fun σ11 =>
      ob (fB_turnOver σ11 3) fun σ13 =>
      ob (fB_ride σ13 3 (x1 - x5)) fun σ15 =>
      ob (fB_mess σ15 3) fun r17 =>
      if x5 = 0 then (
        fX_halts_J91 (fX_halts_L35 k111 n) x1 x2 x5 r17 σ15)
      else (
        if x4 ≤ r17 then (
          ob (fB_joltOnce σ15 2) fun σ25 =>
          bnd (x5 + (1 : Int32)) fun v26 =>
          (fX_halts_L35 k111 n) x1 x2 x3 x4 v26 σ25)
        else (
          fX_halts_J91 (fX_halts_L35 k111 n) x1 x2 x5 r17 σ15)))

set_option maxHeartbeats 4000000 in
set_option maxRecDepth 100000 in
theorem wX_halts_L35 {p : Program} {l : Launch} {e : Env} {s : State} {m : MethodId} {args : Array Value} {below : List Frame} {meth : Method} {c : Code} {G : XG} {σ0 : XS} {r : Int32} {σr : XS} (hC : jC p s m args meth c cX7_halts 7 RX7) (hr : meth.sig.returnType = some .int) {k111 : Int32 → Int32 → Int32 → XS → Option (Int32 × XS)} (hk111 : ∀ (x2 : Int32) (x3 : Int32) (x4 : Int32) (σ : XS) (H : Heap) (locs : List Loc) (ls : Array Slot), xH G s (va_A (xW G σ0) s.heap.size) σ H locs → lv_has ls 7 [(2, .int x2), (3, .int x3), (4, .int x4)] → k111 x2 x3 x4 σ = some (r, σr) → W p l e rmX_halts s m args below meth c H locs 0 0 (MQ below (xQi G σ0 s.heap.size σr r) args s 0 0 (va_A (xW G σ0) s.heap.size)) (F0 m 111 ls [])) : ∀ (n : Nat) (x1 : Int32) (x2 : Int32) (x3 : Int32) (x4 : Int32) (x5 : Int32) (σ : XS) (H : Heap) (locs : List Loc) (ls : Array Slot), xH G s (va_A (xW G σ0) s.heap.size) σ H locs → lv_has ls 7 [(0, .ref (xA G 0)), (1, .int x1), (2, .int x2), (3, .int x3), (4, .int x4), (5, .int x5)] → fX_halts_L35 k111 n x1 x2 x3 x4 x5 σ = some (r, σr) → W p l e rmX_halts s m args below meth c H locs 0 0 (MQ below (xQi G σ0 s.heap.size σr r) args s 0 0 (va_A (xW G σ0) s.heap.size)) (F0 m 35 ls []) := by
  have hx := hC.1.1
  have hb := hC.1.2.1
  have hown := hC.1.2.2.2.1
  have hts := hC.1.2.2.2.2
  intro n
  induction n with
  | zero =>
    intro x1 x2 x3 x4 x5 σ H locs ls  hH hl h
    rw [fX_halts_L35] at h
    cases h
  | succ n ih =>
    intro x1 x2 x3 x4 x5 σ H locs ls  hH hl h
    rw [fX_halts_L35] at h
    refine lv_iload hx hb dX7_halts_35 (lv_at hl 5 rfl) ?_
    refine lv_iload_n hx hb dX7_halts_37 rfl (lv_at hl 1 rfl) ?_
    refine lv_icmp_gt (tgt := 111) hx hb dX7_halts_38 (by decide) (fun c9 => ?_) (fun c9 => ?_)
    · have h := ite_t c9 h
      exact hk111 x2 x3 x4 σ H locs ls  hH (lv_sub hl [2, 3, 4] rfl) h
    · have h := ite_f c9 h
      refine lv_aload_n hx hb dX7_halts_41 rfl (lv_at hl 0 rfl) ?_
      refine x_get (C := RX7) (T := TX7) (N := 14) (v := .ref (xA G (1 + 3))) hC hH (xe_X G σ) rfl wyX7 3 (by decide) wfX7_22 rfl rfl dX7_halts_42 ?_
      refine lv_aload_n hx hb dX7_halts_45 rfl (lv_at hl 0 rfl) ?_
      refine x_get (C := RX7) (T := TX7) (N := 14) (v := .ref (xA G (1 + 2))) hC hH (xe_X G σ) rfl wyX7 2 (by decide) wfX7_19 rfl rfl dX7_halts_46 ?_
      obtain ⟨σ11, h10, h⟩ := ob_some h
      refine x_callv (vw := (RX0, TX0, 12)) (As := [.ref (xA G (1 + 2))]) (rest := []) (cB_becomeAs l G σ 3 2 (by decide) (by decide) h10) hC hH hl (xe_B G σ (by decide)) rfl (cwV 1 hts (gV wmX7_196 wvX0_becomeAs) rfl rfl rfl hdX0_becomeAs ⟨Nat.le_of_ble_eq_true rfl, Nat.le_of_ble_eq_true rfl⟩) rfl rfl (Nat.le_of_ble_eq_true rfl) ⟨Nat.zero_le _, Nat.zero_le _⟩ dX7_halts_49 (fun H locs hH => ?_)
      refine lv_aload_n hx hb dX7_halts_52 rfl (lv_at hl 0 rfl) ?_
      refine x_get (C := RX7) (T := TX7) (N := 14) (v := .ref (xA G (1 + 3))) hC hH (xe_X G σ11) rfl wyX7 3 (by decide) wfX7_22 rfl rfl dX7_halts_53 ?_
      obtain ⟨σ13, h12, h⟩ := ob_some h
      refine x_callv (vw := (RX0, TX0, 12)) (As := []) (rest := []) (cB_turnOver l G σ11 3 (by decide) h12) hC hH hl (xe_B G σ11 (by decide)) rfl (cwV 0 hts (gV wmX7_145 wvX0_turnOver) rfl rfl rfl hdX0_turnOver ⟨Nat.le_of_ble_eq_true rfl, Nat.le_of_ble_eq_true rfl⟩) rfl rfl (Nat.le_of_ble_eq_true rfl) ⟨Nat.zero_le _, Nat.zero_le _⟩ dX7_halts_56 (fun H locs hH => ?_)
      refine lv_aload_n hx hb dX7_halts_59 rfl (lv_at hl 0 rfl) ?_
      refine x_get (C := RX7) (T := TX7) (N := 14) (v := .ref (xA G (1 + 3))) hC hH (xe_X G σ13) rfl wyX7 3 (by decide) wfX7_22 rfl rfl dX7_halts_60 ?_
      refine lv_iload_n hx hb dX7_halts_63 rfl (lv_at hl 1 rfl) ?_
      refine lv_iload hx hb dX7_halts_64 (lv_at hl 5 rfl) ?_
      refine lv_isub hx hb dX7_halts_66 ?_
      obtain ⟨σ15, h14, h⟩ := ob_some h
      refine x_callv (vw := (RX0, TX0, 12)) (As := [.int (x1 - x5)]) (rest := []) (cB_ride l G σ13 3 (x1 - x5) (by decide) h14) hC hH hl (xe_B G σ13 (by decide)) rfl (cwV 1 hts (gV wmX7_173 wvX0_ride) rfl rfl rfl hdX0_ride ⟨Nat.le_of_ble_eq_true rfl, Nat.le_of_ble_eq_true rfl⟩) rfl rfl (Nat.le_of_ble_eq_true rfl) ⟨Nat.zero_le _, Nat.zero_le _⟩ dX7_halts_67 (fun H locs hH => ?_)
      refine lv_aload_n hx hb dX7_halts_70 rfl (lv_at hl 0 rfl) ?_
      refine x_get (C := RX7) (T := TX7) (N := 14) (v := .ref (xA G (1 + 3))) hC hH (xe_X G σ15) rfl wyX7 3 (by decide) wfX7_22 rfl rfl dX7_halts_71 ?_
      obtain ⟨r17, h16, h⟩ := ob_some h
      refine x_calli (vw := (RX0, TX0, 12)) (As := []) (rest := []) (cB_mess l G σ15 3 (by decide) h16) hC hH hl (xe_B G σ15 (by decide)) rfl (cwV 0 hts (gV wmX7_177 wvX0_mess) rfl rfl rfl hdX0_mess ⟨Nat.le_of_ble_eq_true rfl, Nat.le_of_ble_eq_true rfl⟩) rfl rfl (Nat.le_of_ble_eq_true rfl) ⟨Nat.zero_le _, Nat.zero_le _⟩ dX7_halts_74 (fun H locs hH => ?_)
      refine lv_istore (lv' := [(6, .int r17), (0, .ref (xA G 0)), (1, .int x1), (2, .int x2), (3, .int x3), (4, .int x4), (5, .int x5)]) hx hb dX7_halts_77 hl (by decide) rfl (fun ls hl => ?_)
      refine lv_iload hx hb dX7_halts_79 (lv_at hl 6 rfl) ?_
      refine lv_if_eq (tgt := 91) hx hb dX7_halts_81 (by decide) (fun c18 => ?_) (fun c18 => ?_)
      · have h := ite_t c18 h
        exact wX_halts_J91 hC hr ih x1 x2 x5 r17 σ15 H locs ls  hH (lv_sub hl [1, 2, 3, 6, 0] rfl) h
      · have h := ite_f c18 h
        refine lv_iload hx hb dX7_halts_84 (lv_at hl 0 rfl) ?_
        refine lv_iload hx hb dX7_halts_86 (lv_at hl 5 rfl) ?_
        refine lv_icmp_ge (tgt := 98) hx hb dX7_halts_88 (by decide) (fun c23 => ?_) (fun c23 => ?_)
        · have h := ite_t c23 h
          refine lv_aload_n hx hb dX7_halts_98 rfl (lv_at hl 1 rfl) ?_
          refine x_get (C := RX7) (T := TX7) (N := 14) (v := .ref (xA G (1 + 2))) hC hH (xe_X G σ15) rfl wyX7 2 (by decide) wfX7_19 rfl rfl dX7_halts_99 ?_
          obtain ⟨σ25, h24, h⟩ := ob_some h
          refine x_callv (vw := (RX0, TX0, 12)) (As := []) (rest := []) (cB_joltOnce l G σ15 2 (by decide) h24) hC hH hl (xe_B G σ15 (by decide)) rfl (cwV 0 hts (gV wmX7_192 wvX0_joltOnce) rfl rfl rfl hdX0_joltOnce ⟨Nat.le_of_ble_eq_true rfl, Nat.le_of_ble_eq_true rfl⟩) rfl rfl (Nat.le_of_ble_eq_true rfl) ⟨Nat.zero_le _, Nat.zero_le _⟩ dX7_halts_102 (fun H locs hH => ?_)
          obtain ⟨v26, e27, h⟩ := bnd_some h
          refine lv_iinc (v := v26) (lv' := [(5, .int v26), (6, .int r17), (0, .ref (xA G 0)), (1, .int x1), (2, .int x2), (3, .int x3), (4, .int x4)]) hx hb dX7_halts_105 hl (k := 6) rfl (by rw [e27]; rfl) (by decide) rfl (fun ls hl => ?_)
          refine lv_goto (tgt := 35) hx hb dX7_halts_108 (by decide) ?_
          exact ih x1 x2 x3 x4 v26 σ25 H locs ls  hH (lv_sub hl [2, 3, 4, 5, 6, 0] rfl) h
        · have h := ite_f c23 h
          exact wX_halts_J91 hC hr ih x1 x2 x5 r17 σ15 H locs ls  hH (lv_sub hl [1, 2, 3, 6, 0] rfl) h

def fX_halts (σ0 : XS) (x1 : Int32) (x2 : Int32) : Option (Int32 × XS) :=
  ob (fX_isWithin σ0 x1 (0 : Int32) (40 : Int32)) fun r2 =>
  if r2 = 0 then (
    some ((-1000000001 : Int32), σ0))
  else (
    ob (fX_isWithin σ0 x2 (0 : Int32) (1 : Int32)) fun r5 =>
    if r5 = 0 then (
      some ((-1000000001 : Int32), σ0))
    else (
      ob (fX_think σ0 (0 : Int32)) fun σ8 =>
      fX_halts_L35 (fun (x2 : Int32) (x3 : Int32) (x4 : Int32) (σ : XS) => if x2 = 0 then (
          some (x3, σ))
        else (
          some (x4, σ))) 10000 x1 x2 (0 : Int32) (0 : Int32) (0 : Int32) σ8))

set_option maxHeartbeats 4000000 in
set_option maxRecDepth 100000 in
theorem cX_halts (l : Launch) (G : XG) (σ0 : XS) (x1 : Int32) (x2 : Int32) {r : Int32} {σr : XS} (h : fX_halts σ0 x1 x2 = some (r, σr)) : ∀ sz, Met l yX7_halts (Cond.code yX7_halts cX7_halts 7 (some .int) :: Tw) rmX_halts (xP G σ0 sz [.ref (xA G 0), .int x1, .int x2]) (xQi G σ0 sz σr r) 0 0 (va_A (xW G σ0) sz) := by
  intro sz
  refine Met.ofW (cc := cX7_halts) (maxL := 7) (ret := (some .int)) (by decide) rfl ?_
  intro p e s m args below meth c s₁ Bd hml hv
  obtain ⟨hC, hr⟩ := jC_of Bd hml
  obtain ⟨rfl, rfl, hH⟩ := x_enter hv
  have hC : jC p s m _ meth c cX7_halts 7 RX7 := hC
  have hx := hC.1.1
  have hb := hC.1.2.1
  have hown := hC.1.2.2.2.1
  have hts := hC.1.2.2.2.2
  have hl := lv_entry ([.ref (xA G 0), .int x1, .int x2]) (n := 7) (Nat.le_of_ble_eq_true rfl)
  rw [lg_entry_eq]
  generalize (lg_sl ([.ref (xA G 0), .int x1, .int x2]) ++ List.replicate (7 - (lg_sl ([.ref (xA G 0), .int x1, .int x2])).length) Slot.unset).toArray = ls at hl ⊢
  have hl : lv_has ls 7 [(0, .ref (xA G 0)), (1, .int x1), (2, .int x2)] := hl
  unfold fX_halts at h
  refine W_nm (fun H locs eH eL => ?_)
  have hH : xH G s (va_A (xW G σ0) s.heap.size) σ0 H locs := by rw [eH, eL]; exact hH
  show W p l e rmX_halts s m _ below meth c H locs 0 0 _ (F0 m 0 ls [])
  refine lv_iload_n hx hb dX7_halts_0 rfl (lv_at hl 1 rfl) ?_
  refine lv_iconst (v := 0) hx hb dX7_halts_1 (by decide) ?_
  refine lv_bipush (v := 40) hx hb dX7_halts_2 (by decide) ?_
  obtain ⟨r2, h1, h⟩ := ob_some h
  refine x_calls (As := [.int x1, .int (0 : Int32), .int (40 : Int32)]) (rest := []) (cX_isWithin l G σ0 x1 (0 : Int32) (40 : Int32)  h1) hC hH hl (va_cwS 3 hts (gS wmX7_148 wsX7_isWithin) rfl rfl rfl hdX7_isWithin ⟨Nat.le_of_ble_eq_true rfl, Nat.le_of_ble_eq_true rfl⟩) rfl rfl (Nat.le_of_ble_eq_true rfl) ⟨Nat.zero_le _, Nat.zero_le _⟩ dX7_halts_4 (fun H locs hH => ?_)
  refine lv_if_eq (tgt := 19) hx hb dX7_halts_7 (by decide) (fun c3 => ?_) (fun c3 => ?_)
  · have h := ite_t c3 h
    refine lv_ldc (v := -1000000001) hx hb hown (hts _ wkX7_89) dX7_halts_19 ?_
    obtain ⟨rfl, rfl⟩ := some_i2 h
    exact x_iret (v := -1000000001) hC hH hr rfl dX7_halts_21
  · have h := ite_f c3 h
    refine lv_iload_n hx hb dX7_halts_10 rfl (lv_at hl 2 rfl) ?_
    refine lv_iconst (v := 0) hx hb dX7_halts_11 (by decide) ?_
    refine lv_iconst (v := 1) hx hb dX7_halts_12 (by decide) ?_
    obtain ⟨r5, h4, h⟩ := ob_some h
    refine x_calls (As := [.int x2, .int (0 : Int32), .int (1 : Int32)]) (rest := []) (cX_isWithin l G σ0 x2 (0 : Int32) (1 : Int32)  h4) hC hH hl (va_cwS 3 hts (gS wmX7_148 wsX7_isWithin) rfl rfl rfl hdX7_isWithin ⟨Nat.le_of_ble_eq_true rfl, Nat.le_of_ble_eq_true rfl⟩) rfl rfl (Nat.le_of_ble_eq_true rfl) ⟨Nat.zero_le _, Nat.zero_le _⟩ dX7_halts_13 (fun H locs hH => ?_)
    refine lv_if_ne (tgt := 22) hx hb dX7_halts_16 (by decide) (fun c6 => ?_) (fun c6 => ?_)
    · have h := ite_f c6 h
      refine lv_iconst (v := 0) hx hb dX7_halts_22 (by decide) ?_
      refine lv_istore_n (lv' := [(3, .int (0 : Int32)), (0, .ref (xA G 0)), (1, .int x1), (2, .int x2)]) hx hb dX7_halts_23 rfl hl (by decide) rfl (fun ls hl => ?_)
      refine lv_iconst (v := 0) hx hb dX7_halts_24 (by decide) ?_
      refine lv_istore (lv' := [(4, .int (0 : Int32)), (3, .int (0 : Int32)), (0, .ref (xA G 0)), (1, .int x1), (2, .int x2)]) hx hb dX7_halts_25 hl (by decide) rfl (fun ls hl => ?_)
      refine lv_aload_n hx hb dX7_halts_27 rfl (lv_at hl 2 rfl) ?_
      refine lv_iconst (v := 0) hx hb dX7_halts_28 (by decide) ?_
      obtain ⟨σ8, h7, h⟩ := ob_some h
      refine x_callv (vw := (RX7, TX7, 14)) (As := [.int (0 : Int32)]) (rest := []) (cX_think l G σ0 (0 : Int32)  h7) hC hH hl (xe_X G σ0) rfl (cwV 1 hts (gV wmX7_189 wvX7_think) rfl rfl rfl hdX7_think ⟨Nat.le_of_ble_eq_true rfl, Nat.le_of_ble_eq_true rfl⟩) rfl rfl (Nat.le_of_ble_eq_true rfl) ⟨Nat.zero_le _, Nat.zero_le _⟩ dX7_halts_29 (fun H locs hH => ?_)
      refine lv_iconst (v := 0) hx hb dX7_halts_32 (by decide) ?_
      refine lv_istore (lv' := [(5, .int (0 : Int32)), (4, .int (0 : Int32)), (3, .int (0 : Int32)), (0, .ref (xA G 0)), (1, .int x1), (2, .int x2)]) hx hb dX7_halts_33 hl (by decide) rfl (fun ls hl => ?_)
      refine wX_halts_L35 hC hr  ?_ 10000 x1 x2 (0 : Int32) (0 : Int32) (0 : Int32) σ8 H locs ls  hH (lv_sub hl [3, 4, 5, 2, 1, 0] rfl) h
      intro x2 x3 x4 σ H locs ls  hH hl h
      refine lv_iload_n hx hb dX7_halts_111 rfl (lv_at hl 0 rfl) ?_
      refine lv_if_ne (tgt := 119) hx hb dX7_halts_112 (by decide) (fun c28 => ?_) (fun c28 => ?_)
      · have h := ite_f c28 h
        refine lv_iload hx hb dX7_halts_119 (lv_at hl 2 rfl) ?_
        obtain ⟨rfl, rfl⟩ := some_i2 h
        exact x_iret hC hH hr rfl dX7_halts_121
      · have h := ite_t c28 h
        refine lv_iload_n hx hb dX7_halts_115 rfl (lv_at hl 1 rfl) ?_
        refine lv_goto (tgt := 121) hx hb dX7_halts_116 (by decide) ?_
        obtain ⟨rfl, rfl⟩ := some_i2 h
        exact x_iret hC hH hr rfl dX7_halts_121
    · have h := ite_t c6 h
      refine lv_ldc (v := -1000000001) hx hb hown (hts _ wkX7_89) dX7_halts_19 ?_
      obtain ⟨rfl, rfl⟩ := some_i2 h
      exact x_iret (v := -1000000001) hC hH hr rfl dX7_halts_21

def rmX_isSheet : Room := { frames := 1, cells := 0, slots := 0, locals := 22 }
theorem hdX7_isSheet : yX7_isSheet.cls ≠ "java/lang/invoke/MethodHandle" ∧ yX7_isSheet.cls ≠ "java/lang/invoke/VarHandle" ∧ (parseMethodDescriptor yX7_isSheet.desc).map (fun d => d.parameters.length) = some 1 := by decide +kernel

def fX_isSheet (σ0 : XS) (x0 : Int32) : Option (Int32) :=
  ob (fX_isWithin σ0 x0 (0 : Int32) (3 : Int32)) fun r2 =>
  zb r2 <|
  some r2

set_option maxHeartbeats 4000000 in
set_option maxRecDepth 100000 in
theorem cX_isSheet (l : Launch) (G : XG) (σ0 : XS) (x0 : Int32) {r : Int32} (h : fX_isSheet σ0 x0 = some r) : ∀ sz, Met l yX7_isSheet (Cond.code yX7_isSheet cX7_isSheet 1 (some .boolean) :: Tw) rmX_isSheet (xP G σ0 sz [.int x0]) (xQi G σ0 sz σ0 r) 0 0 (va_A (xW G σ0) sz) := by
  intro sz
  refine Met.ofW (cc := cX7_isSheet) (maxL := 1) (ret := (some .boolean)) (by decide) rfl ?_
  intro p e s m args below meth c s₁ Bd hml hv
  obtain ⟨hC, hr⟩ := jC_of Bd hml
  obtain ⟨rfl, rfl, hH⟩ := x_enter hv
  have hC : jC p s m _ meth c cX7_isSheet 1 RX7 := hC
  have hx := hC.1.1
  have hb := hC.1.2.1
  have hown := hC.1.2.2.2.1
  have hts := hC.1.2.2.2.2
  have hl := lv_entry ([.int x0]) (n := 1) (Nat.le_of_ble_eq_true rfl)
  rw [lg_entry_eq]
  generalize (lg_sl ([.int x0]) ++ List.replicate (1 - (lg_sl ([.int x0])).length) Slot.unset).toArray = ls at hl ⊢
  have hl : lv_has ls 1 [(0, .int x0)] := hl
  unfold fX_isSheet at h
  refine W_nm (fun H locs eH eL => ?_)
  have hH : xH G s (va_A (xW G σ0) s.heap.size) σ0 H locs := by rw [eH, eL]; exact hH
  show W p l e rmX_isSheet s m _ below meth c H locs 0 0 _ (F0 m 0 ls [])
  refine lv_iload_n hx hb dX7_isSheet_0 rfl (lv_at hl 0 rfl) ?_
  refine lv_iconst (v := 0) hx hb dX7_isSheet_1 (by decide) ?_
  refine lv_iconst (v := 3) hx hb dX7_isSheet_2 (by decide) ?_
  obtain ⟨r2, h1, h⟩ := ob_some h
  refine x_calls (As := [.int x0, .int (0 : Int32), .int (3 : Int32)]) (rest := []) (cX_isWithin l G σ0 x0 (0 : Int32) (3 : Int32)  h1) hC hH hl (va_cwS 3 hts (gS wmX7_148 wsX7_isWithin) rfl rfl rfl hdX7_isWithin ⟨Nat.le_of_ble_eq_true rfl, Nat.le_of_ble_eq_true rfl⟩) rfl rfl (Nat.le_of_ble_eq_true rfl) ⟨Nat.zero_le _, Nat.zero_le _⟩ dX7_isSheet_3 (fun H locs hH => ?_)
  obtain ⟨z3, h⟩ := zb_some h
  obtain rfl := some_i1 h
  exact x_iret hC hH hr z3 dX7_isSheet_6

def rmX_differences : Room := { frames := 2, cells := 0, slots := 0, locals := 42 }
theorem hdX7_differences : yX7_differences.cls ≠ "java/lang/invoke/MethodHandle" ∧ yX7_differences.cls ≠ "java/lang/invoke/VarHandle" ∧ (parseMethodDescriptor yX7_differences.desc).map (fun d => d.parameters.length) = some 2 := by decide +kernel

def fX_differences_J43 (p0 : Nat) (p1 : Nat) (σ0 : XS) (k4 : Int32 → Int32 → Option (Int32)) (x2 : Int32) (x3 : Int32) (y0 : Int32) : Option (Int32) :=
  ck x3 (24) <|
  bnd (x2 + (if 0 ≤ (y0 - (xi σ0 (60 + p1) (x3).toNatClampNeg)) then (y0 - (xi σ0 (60 + p1) (x3).toNatClampNeg)) else 0 - (y0 - (xi σ0 (60 + p1) (x3).toNatClampNeg)))) fun v11 =>
  bnd (x3 + (1 : Int32)) fun v13 =>
  k4 v11 v13

set_option maxHeartbeats 4000000 in
set_option maxRecDepth 100000 in
theorem wX_differences_J43 {p : Program} {l : Launch} {e : Env} {s : State} {m : MethodId} {args : Array Value} {below : List Frame} {meth : Method} {c : Code} {G : XG} {σ0 : XS} {p0 : Nat} {p1 : Nat} {r : Int32} (hC : jC p s m args meth c cX7_differences 5 RX7) (hr : meth.sig.returnType = some .int) (hp0 : p0 < 4) (hp1 : p1 < 9) {k4 : Int32 → Int32 → Option (Int32)} (hk4 : ∀ (x2 : Int32) (x3 : Int32) (H : Heap) (locs : List Loc) (ls : Array Slot), xH G s (va_A (xW G σ0) s.heap.size) σ0 H locs → lv_has ls 5 [(0, .ref (xA G (1 + p0))), (1, .ref (xA G (60 + p1))), (2, .int x2), (3, .int x3)] → k4 x2 x3 = some r → W p l e rmX_differences s m args below meth c H locs 0 0 (MQ below (xQi G σ0 s.heap.size σ0 r) args s 0 0 (va_A (xW G σ0) s.heap.size)) (F0 m 4 ls [])) (x2 : Int32) (x3 : Int32) (y0 : Int32) (H : Heap) (locs : List Loc) (ls : Array Slot) (hH : xH G s (va_A (xW G σ0) s.heap.size) σ0 H locs) (hl : lv_has ls 5 [(0, .ref (xA G (1 + p0))), (1, .ref (xA G (60 + p1))), (2, .int x2), (3, .int x3)]) (h : fX_differences_J43 p0 p1 σ0 k4 x2 x3 y0 = some r) : W p l e rmX_differences s m args below meth c H locs 0 0 (MQ below (xQi G σ0 s.heap.size σ0 r) args s 0 0 (va_A (xW G σ0) s.heap.size)) (F0 m 43 ls [.int y0]) := by
  have hx := hC.1.1
  have hb := hC.1.2.1
  have hown := hC.1.2.2.2.1
  have hts := hC.1.2.2.2.2
  unfold fX_differences_J43 at h
  refine lv_istore (lv' := [(4, .int y0), (0, .ref (xA G (1 + p0))), (1, .ref (xA G (60 + p1))), (2, .int x2), (3, .int x3)]) hx hb dX7_differences_43 hl (by decide) rfl (fun ls hl => ?_)
  refine lv_iload_n hx hb dX7_differences_45 rfl (lv_at hl 3 rfl) ?_
  refine lv_iload hx hb dX7_differences_46 (lv_at hl 0 rfl) ?_
  refine lv_aload_n hx hb dX7_differences_48 rfl (lv_at hl 2 rfl) ?_
  refine x_getN (C := RX4) (T := TX4) (N := 3) (v := .ref (xA G (100 + (60 + p1)))) (host := "RoadSorted") hC hH (xe_S G σ0 hp1) rfl wyX4 2 (by decide) (by decide +kernel) rfl rfl dX7_differences_49 ?_
  refine lv_iload_n hx hb dX7_differences_52 rfl (lv_at hl 4 rfl) ?_
  obtain ⟨i10, h⟩ := ck_some h
  refine x_ald hC hH (d := (60 + p1)) (xIs_s hp1) (xLen_s hp1) rfl i10 dX7_differences_53 ?_
  refine lv_isub hx hb dX7_differences_54 ?_
  refine va_mabs hx hb (hC.1.2.2.1.trans hl.1.symm) hown (hts _ wmX7_200) (hts _ wMa_abs.1) (hts _ wMa_abs.2.1) (hts _ wMa_abs.2.2) (Nat.le_of_ble_eq_true rfl) (Nat.le_of_ble_eq_true rfl) (Nat.zero_le _) (Nat.zero_le _) dX7_differences_55 ?_
  refine lv_iadd hx hb dX7_differences_58 ?_
  obtain ⟨v11, e12, h⟩ := bnd_some h
  refine lv_tope e12 ?_
  refine lv_istore_n (lv' := [(2, .int v11), (4, .int y0), (0, .ref (xA G (1 + p0))), (1, .ref (xA G (60 + p1))), (3, .int x3)]) hx hb dX7_differences_59 rfl hl (by decide) rfl (fun ls hl => ?_)
  obtain ⟨v13, e14, h⟩ := bnd_some h
  refine lv_iinc (v := v13) (lv' := [(3, .int v13), (2, .int v11), (4, .int y0), (0, .ref (xA G (1 + p0))), (1, .ref (xA G (60 + p1)))]) hx hb dX7_differences_60 hl (k := 4) rfl (by rw [e14]; rfl) (by decide) rfl (fun ls hl => ?_)
  refine lv_goto (tgt := 4) hx hb dX7_differences_63 (by decide) ?_
  exact hk4 v11 v13 H locs ls  hH (lv_sub hl [3, 4, 1, 0] rfl) h

def fX_differences_L4 (p0 : Nat) (p1 : Nat) (σ0 : XS) (k66 : Int32 → Option (Int32)) : Nat → Int32 → Int32 → Option (Int32)
  | 0, _, _ => none
  | n + 1, x2, x3 =>
    if (xi σ0 (10 + p1) 1) ≤ x3 then (
      k66 x2)
    else (
      ob (fS_isNumber σ0 p1 x3) fun r3 =>
      if r3 = 0 then (
        bnd (x3 + (1 : Int32)) fun v5 =>
        (fX_differences_L4 p0 p1 σ0 k66 n) x2 v5)
      else (
        ob (fB_has σ0 p0 x3) fun r8 =>
        if r8 = 0 then (
          fX_differences_J43 p0 p1 σ0 (fX_differences_L4 p0 p1 σ0 k66 n) x2 x3 (0 : Int32))
        else (
          ck x3 (14) <|
          ck (xi σ0 (30 + 6 * p0 + 5) (x3).toNatClampNeg) (14) <|
          fX_differences_J43 p0 p1 σ0 (fX_differences_L4 p0 p1 σ0 k66 n) x2 x3 (xi σ0 (30 + 6 * p0 + 2) ((xi σ0 (30 + 6 * p0 + 5) (x3).toNatClampNeg)).toNatClampNeg))))

set_option maxHeartbeats 4000000 in
set_option maxRecDepth 100000 in
theorem wX_differences_L4 {p : Program} {l : Launch} {e : Env} {s : State} {m : MethodId} {args : Array Value} {below : List Frame} {meth : Method} {c : Code} {G : XG} {σ0 : XS} {p0 : Nat} {p1 : Nat} {r : Int32} (hC : jC p s m args meth c cX7_differences 5 RX7) (hr : meth.sig.returnType = some .int) (hp0 : p0 < 4) (hp1 : p1 < 9) {k66 : Int32 → Option (Int32)} (hk66 : ∀ (x2 : Int32) (H : Heap) (locs : List Loc) (ls : Array Slot), xH G s (va_A (xW G σ0) s.heap.size) σ0 H locs → lv_has ls 5 [(2, .int x2)] → k66 x2 = some r → W p l e rmX_differences s m args below meth c H locs 0 0 (MQ below (xQi G σ0 s.heap.size σ0 r) args s 0 0 (va_A (xW G σ0) s.heap.size)) (F0 m 66 ls [])) : ∀ (n : Nat) (x2 : Int32) (x3 : Int32) (H : Heap) (locs : List Loc) (ls : Array Slot), xH G s (va_A (xW G σ0) s.heap.size) σ0 H locs → lv_has ls 5 [(0, .ref (xA G (1 + p0))), (1, .ref (xA G (60 + p1))), (2, .int x2), (3, .int x3)] → fX_differences_L4 p0 p1 σ0 k66 n x2 x3 = some r → W p l e rmX_differences s m args below meth c H locs 0 0 (MQ below (xQi G σ0 s.heap.size σ0 r) args s 0 0 (va_A (xW G σ0) s.heap.size)) (F0 m 4 ls []) := by
  have hx := hC.1.1
  have hb := hC.1.2.1
  have hown := hC.1.2.2.2.1
  have hts := hC.1.2.2.2.2
  intro n
  induction n with
  | zero =>
    intro x2 x3 H locs ls  hH hl h
    rw [fX_differences_L4] at h
    cases h
  | succ n ih =>
    intro x2 x3 H locs ls  hH hl h
    rw [fX_differences_L4] at h
    refine lv_iload_n hx hb dX7_differences_4 rfl (lv_at hl 3 rfl) ?_
    refine lv_aload_n hx hb dX7_differences_5 rfl (lv_at hl 1 rfl) ?_
    refine x_getN (C := RX4) (T := TX4) (N := 3) (v := .int (xi σ0 (10 + p1) 1)) (host := "RoadSorted") hC hH (xe_S G σ0 hp1) rfl wyX4 1 (by decide) (by decide +kernel) rfl rfl dX7_differences_6 ?_
    refine lv_icmp_ge (tgt := 66) hx hb dX7_differences_9 (by decide) (fun c1 => ?_) (fun c1 => ?_)
    · have h := ite_t c1 h
      exact hk66 x2 H locs ls  hH (lv_sub hl [2] rfl) h
    · have h := ite_f c1 h
      refine lv_aload_n hx hb dX7_differences_12 rfl (lv_at hl 1 rfl) ?_
      refine lv_iload_n hx hb dX7_differences_13 rfl (lv_at hl 3 rfl) ?_
      obtain ⟨r3, h2, h⟩ := ob_some h
      refine x_calli (vw := (RX4, TX4, 3)) (As := [.int x3]) (rest := []) (cS_isNumber l G σ0 p1 x3 hp1 h2) hC hH hl (xe_S G σ0 hp1) rfl (cwV 1 hts (gV wmX7_273 wvX4_isNumber) rfl rfl rfl hdX4_isNumber ⟨Nat.le_of_ble_eq_true rfl, Nat.le_of_ble_eq_true rfl⟩) rfl rfl (Nat.le_of_ble_eq_true rfl) ⟨Nat.zero_le _, Nat.zero_le _⟩ dX7_differences_14 (fun H locs hH => ?_)
      refine lv_if_eq (tgt := 60) hx hb dX7_differences_17 (by decide) (fun c4 => ?_) (fun c4 => ?_)
      · have h := ite_t c4 h
        obtain ⟨v5, e6, h⟩ := bnd_some h
        refine lv_iinc (v := v5) (lv' := [(3, .int v5), (0, .ref (xA G (1 + p0))), (1, .ref (xA G (60 + p1))), (2, .int x2)]) hx hb dX7_differences_60 hl (k := 3) rfl (by rw [e6]; rfl) (by decide) rfl (fun ls hl => ?_)
        refine lv_goto (tgt := 4) hx hb dX7_differences_63 (by decide) ?_
        exact ih x2 v5 H locs ls  hH (lv_sub hl [1, 2, 3, 0] rfl) h
      · have h := ite_f c4 h
        refine lv_aload_n hx hb dX7_differences_20 rfl (lv_at hl 0 rfl) ?_
        refine lv_iload_n hx hb dX7_differences_21 rfl (lv_at hl 3 rfl) ?_
        obtain ⟨r8, h7, h⟩ := ob_some h
        refine x_calli (vw := (RX0, TX0, 12)) (As := [.int x3]) (rest := []) (cB_has l G σ0 p0 x3 hp0 h7) hC hH hl (xe_B G σ0 hp0) rfl (cwV 1 hts (gV wmX7_98 wvX0_has) rfl rfl rfl hdX0_has ⟨Nat.le_of_ble_eq_true rfl, Nat.le_of_ble_eq_true rfl⟩) rfl rfl (Nat.le_of_ble_eq_true rfl) ⟨Nat.zero_le _, Nat.zero_le _⟩ dX7_differences_22 (fun H locs hH => ?_)
        refine lv_if_eq (tgt := 42) hx hb dX7_differences_25 (by decide) (fun c9 => ?_) (fun c9 => ?_)
        · have h := ite_t c9 h
          refine lv_iconst (v := 0) hx hb dX7_differences_42 (by decide) ?_
          exact wX_differences_J43 hC hr hp0 hp1 ih x2 x3 (0 : Int32) H locs ls  hH hl h
        · have h := ite_f c9 h
          refine lv_aload_n hx hb dX7_differences_28 rfl (lv_at hl 0 rfl) ?_
          refine x_getN (C := RX0) (T := TX0) (N := 12) (v := .ref (xA G (100 + (30 + 6 * p0 + 2)))) (host := "RoadSorted") hC hH (xe_B G σ0 hp0) rfl wyX0 3 (by decide) (by decide +kernel) rfl rfl dX7_differences_29 ?_
          refine lv_aload_n hx hb dX7_differences_32 rfl (lv_at hl 0 rfl) ?_
          refine x_getN (C := RX0) (T := TX0) (N := 12) (v := .ref (xA G (100 + (30 + 6 * p0 + 5)))) (host := "RoadSorted") hC hH (xe_B G σ0 hp0) rfl wyX0 6 (by decide) (by decide +kernel) rfl rfl dX7_differences_33 ?_
          refine lv_iload_n hx hb dX7_differences_36 rfl (lv_at hl 3 rfl) ?_
          obtain ⟨i15, h⟩ := ck_some h
          refine x_ald hC hH (d := (30 + 6 * p0 + 5)) (xIs_b hp0 (by decide)) (xLen_b hp0 (by decide)) rfl i15 dX7_differences_37 ?_
          obtain ⟨i16, h⟩ := ck_some h
          refine x_ald hC hH (d := (30 + 6 * p0 + 2)) (xIs_b hp0 (by decide)) (xLen_b hp0 (by decide)) rfl i16 dX7_differences_38 ?_
          refine lv_goto (tgt := 43) hx hb dX7_differences_39 (by decide) ?_
          exact wX_differences_J43 hC hr hp0 hp1 ih x2 x3 (xi σ0 (30 + 6 * p0 + 2) ((xi σ0 (30 + 6 * p0 + 5) (x3).toNatClampNeg)).toNatClampNeg) H locs ls  hH hl h

def fX_differences (σ0 : XS) (p0 : Nat) (p1 : Nat) : Option (Int32) :=
  fX_differences_L4 p0 p1 σ0 (fun (x2 : Int32) => some x2) 10000 (0 : Int32) (0 : Int32)

set_option maxHeartbeats 4000000 in
set_option maxRecDepth 100000 in
theorem cX_differences (l : Launch) (G : XG) (σ0 : XS) (p0 : Nat) (p1 : Nat) (hp0 : p0 < 4) (hp1 : p1 < 9) {r : Int32} (h : fX_differences σ0 p0 p1 = some r) : ∀ sz, Met l yX7_differences (Cond.code yX7_differences cX7_differences 5 (some .int) :: Tw) rmX_differences (xP G σ0 sz [.ref (xA G (1 + p0)), .ref (xA G (60 + p1))]) (xQi G σ0 sz σ0 r) 0 0 (va_A (xW G σ0) sz) := by
  intro sz
  refine Met.ofW (cc := cX7_differences) (maxL := 5) (ret := (some .int)) (by decide) rfl ?_
  intro p e s m args below meth c s₁ Bd hml hv
  obtain ⟨hC, hr⟩ := jC_of Bd hml
  obtain ⟨rfl, rfl, hH⟩ := x_enter hv
  have hC : jC p s m _ meth c cX7_differences 5 RX7 := hC
  have hx := hC.1.1
  have hb := hC.1.2.1
  have hown := hC.1.2.2.2.1
  have hts := hC.1.2.2.2.2
  have hl := lv_entry ([.ref (xA G (1 + p0)), .ref (xA G (60 + p1))]) (n := 5) (Nat.le_of_ble_eq_true rfl)
  rw [lg_entry_eq]
  generalize (lg_sl ([.ref (xA G (1 + p0)), .ref (xA G (60 + p1))]) ++ List.replicate (5 - (lg_sl ([.ref (xA G (1 + p0)), .ref (xA G (60 + p1))])).length) Slot.unset).toArray = ls at hl ⊢
  have hl : lv_has ls 5 [(0, .ref (xA G (1 + p0))), (1, .ref (xA G (60 + p1)))] := hl
  unfold fX_differences at h
  refine W_nm (fun H locs eH eL => ?_)
  have hH : xH G s (va_A (xW G σ0) s.heap.size) σ0 H locs := by rw [eH, eL]; exact hH
  show W p l e rmX_differences s m _ below meth c H locs 0 0 _ (F0 m 0 ls [])
  refine lv_iconst (v := 0) hx hb dX7_differences_0 (by decide) ?_
  refine lv_istore_n (lv' := [(2, .int (0 : Int32)), (0, .ref (xA G (1 + p0))), (1, .ref (xA G (60 + p1)))]) hx hb dX7_differences_1 rfl hl (by decide) rfl (fun ls hl => ?_)
  refine lv_iconst (v := 0) hx hb dX7_differences_2 (by decide) ?_
  refine lv_istore_n (lv' := [(3, .int (0 : Int32)), (2, .int (0 : Int32)), (0, .ref (xA G (1 + p0))), (1, .ref (xA G (60 + p1)))]) hx hb dX7_differences_3 rfl hl (by decide) rfl (fun ls hl => ?_)
  refine wX_differences_L4 hC hr hp0 hp1  ?_ 10000 (0 : Int32) (0 : Int32) H locs ls  hH (lv_sub hl [2, 3, 1, 0] rfl) h
  intro x2 H locs ls  hH hl h
  refine lv_iload_n hx hb dX7_differences_66 rfl (lv_at hl 0 rfl) ?_
  obtain rfl := some_i1 h
  exact x_iret hC hH hr rfl dX7_differences_67

def rmX_miles : Room := { frames := 6, cells := 0, slots := 0, locals := 148 }
theorem hdX7_miles : yX7_miles.cls = RX7 ∧ yX7_miles.cls ≠ "java/lang/invoke/MethodHandle" ∧ yX7_miles.cls ≠ "java/lang/invoke/VarHandle" ∧ (parseMethodDescriptor yX7_miles.desc).map (fun d => d.parameters.length) = some 2 := by decide +kernel

def fX_miles_J81 (k47 : Int32 → Int32 → Int32 → Int32 → Int32 → XS → Option (Int32 × XS)) (x1 : Int32) (x2 : Int32) (x5 : Int32) (x6 : Int32) (σ : XS) : Option (Int32 × XS) :=
  ob (fB_joltOnce σ 2) fun σ19 =>
  bnd (x5 + (1 : Int32)) fun v20 =>
  k47 x1 x2 x5 x6 v20 σ19

set_option maxHeartbeats 4000000 in
set_option maxRecDepth 100000 in
theorem wX_miles_J81 {p : Program} {l : Launch} {e : Env} {s : State} {m : MethodId} {args : Array Value} {below : List Frame} {meth : Method} {c : Code} {G : XG} {σ0 : XS} {r : Int32} {σr : XS} (hC : jC p s m args meth c cX7_miles 7 RX7) (hr : meth.sig.returnType = some .int) {k47 : Int32 → Int32 → Int32 → Int32 → Int32 → XS → Option (Int32 × XS)} (hk47 : ∀ (x1 : Int32) (x2 : Int32) (x3 : Int32) (x4 : Int32) (x5 : Int32) (σ : XS) (H : Heap) (locs : List Loc) (ls : Array Slot), xH G s (va_A (xW G σ0) s.heap.size) σ H locs → lv_has ls 7 [(0, .ref (xA G 0)), (1, .int x1), (2, .int x2), (3, .int x3), (4, .int x4), (5, .int x5)] → k47 x1 x2 x3 x4 x5 σ = some (r, σr) → W p l e rmX_miles s m args below meth c H locs 0 0 (MQ below (xQi G σ0 s.heap.size σr r) args s 0 0 (va_A (xW G σ0) s.heap.size)) (F0 m 47 ls [])) (x1 : Int32) (x2 : Int32) (x5 : Int32) (x6 : Int32) (σ : XS) (H : Heap) (locs : List Loc) (ls : Array Slot) (hH : xH G s (va_A (xW G σ0) s.heap.size) σ H locs) (hl : lv_has ls 7 [(0, .ref (xA G 0)), (1, .int x1), (2, .int x2), (5, .int x5), (6, .int x6)]) (h : fX_miles_J81 k47 x1 x2 x5 x6 σ = some (r, σr)) : W p l e rmX_miles s m args below meth c H locs 0 0 (MQ below (xQi G σ0 s.heap.size σr r) args s 0 0 (va_A (xW G σ0) s.heap.size)) (F0 m 81 ls []) := by
  have hx := hC.1.1
  have hb := hC.1.2.1
  have hown := hC.1.2.2.2.1
  have hts := hC.1.2.2.2.2
  unfold fX_miles_J81 at h
  refine lv_iload hx hb dX7_miles_81 (lv_at hl 3 rfl) ?_
  refine lv_istore_n (lv' := [(3, .int x5), (0, .ref (xA G 0)), (1, .int x1), (2, .int x2), (5, .int x5), (6, .int x6)]) hx hb dX7_miles_83 rfl hl (by decide) rfl (fun ls hl => ?_)
  refine lv_iload hx hb dX7_miles_84 (lv_at hl 5 rfl) ?_
  refine lv_istore (lv' := [(4, .int x6), (3, .int x5), (0, .ref (xA G 0)), (1, .int x1), (2, .int x2), (5, .int x5), (6, .int x6)]) hx hb dX7_miles_86 hl (by decide) rfl (fun ls hl => ?_)
  refine lv_aload_n hx hb dX7_miles_88 rfl (lv_at hl 2 rfl) ?_
  refine x_get (C := RX7) (T := TX7) (N := 14) (v := .ref (xA G (1 + 2))) hC hH (xe_X G σ) rfl wyX7 2 (by decide) wfX7_19 rfl rfl dX7_miles_89 ?_
  obtain ⟨σ19, h18, h⟩ := ob_some h
  refine x_callv (vw := (RX0, TX0, 12)) (As := []) (rest := []) (cB_joltOnce l G σ 2 (by decide) h18) hC hH hl (xe_B G σ (by decide)) rfl (cwV 0 hts (gV wmX7_192 wvX0_joltOnce) rfl rfl rfl hdX0_joltOnce ⟨Nat.le_of_ble_eq_true rfl, Nat.le_of_ble_eq_true rfl⟩) rfl rfl (Nat.le_of_ble_eq_true rfl) ⟨Nat.zero_le _, Nat.zero_le _⟩ dX7_miles_92 (fun H locs hH => ?_)
  obtain ⟨v20, e21, h⟩ := bnd_some h
  refine lv_iinc (v := v20) (lv' := [(5, .int v20), (4, .int x6), (3, .int x5), (0, .ref (xA G 0)), (1, .int x1), (2, .int x2), (6, .int x6)]) hx hb dX7_miles_95 hl (k := 5) rfl (by rw [e21]; rfl) (by decide) rfl (fun ls hl => ?_)
  refine lv_goto (tgt := 47) hx hb dX7_miles_98 (by decide) ?_
  exact hk47 x1 x2 x5 x6 v20 σ19 H locs ls  hH (lv_sub hl [3, 4, 5, 2, 1, 0] rfl) h

def fX_miles_L47 (k101 : Int32 → Int32 → Int32 → XS → Option (Int32 × XS)) : Nat → Int32 → Int32 → Int32 → Int32 → Int32 → XS → Option (Int32 × XS)
  | 0, _, _, _, _, _, _ => none
  | n + 1, x1, x2, x3, x4, x5, σ =>
    if (60 : Int32) < x5 then (
      k101 x2 x3 x4 σ)
    else (
      ck x1 4 <|
      ob (fX_differences σ 2 (x1).toNatClampNeg) fun r16 =>
      if x5 = 0 then (
        fX_miles_J81 (fX_miles_L47 k101 n) x1 x2 x5 r16 σ)
      else (
        if x4 ≤ r16 then (
          ob (fB_joltOnce σ 2) fun σ24 =>
          bnd (x5 + (1 : Int32)) fun v25 =>
          (fX_miles_L47 k101 n) x1 x2 x3 x4 v25 σ24)
        else (
          fX_miles_J81 (fX_miles_L47 k101 n) x1 x2 x5 r16 σ)))

set_option maxHeartbeats 4000000 in
set_option maxRecDepth 100000 in
theorem wX_miles_L47 {p : Program} {l : Launch} {e : Env} {s : State} {m : MethodId} {args : Array Value} {below : List Frame} {meth : Method} {c : Code} {G : XG} {σ0 : XS} {r : Int32} {σr : XS} (hC : jC p s m args meth c cX7_miles 7 RX7) (hr : meth.sig.returnType = some .int) {k101 : Int32 → Int32 → Int32 → XS → Option (Int32 × XS)} (hk101 : ∀ (x2 : Int32) (x3 : Int32) (x4 : Int32) (σ : XS) (H : Heap) (locs : List Loc) (ls : Array Slot), xH G s (va_A (xW G σ0) s.heap.size) σ H locs → lv_has ls 7 [(2, .int x2), (3, .int x3), (4, .int x4)] → k101 x2 x3 x4 σ = some (r, σr) → W p l e rmX_miles s m args below meth c H locs 0 0 (MQ below (xQi G σ0 s.heap.size σr r) args s 0 0 (va_A (xW G σ0) s.heap.size)) (F0 m 101 ls [])) : ∀ (n : Nat) (x1 : Int32) (x2 : Int32) (x3 : Int32) (x4 : Int32) (x5 : Int32) (σ : XS) (H : Heap) (locs : List Loc) (ls : Array Slot), xH G s (va_A (xW G σ0) s.heap.size) σ H locs → lv_has ls 7 [(0, .ref (xA G 0)), (1, .int x1), (2, .int x2), (3, .int x3), (4, .int x4), (5, .int x5)] → fX_miles_L47 k101 n x1 x2 x3 x4 x5 σ = some (r, σr) → W p l e rmX_miles s m args below meth c H locs 0 0 (MQ below (xQi G σ0 s.heap.size σr r) args s 0 0 (va_A (xW G σ0) s.heap.size)) (F0 m 47 ls []) := by
  have hx := hC.1.1
  have hb := hC.1.2.1
  have hown := hC.1.2.2.2.1
  have hts := hC.1.2.2.2.2
  intro n
  induction n with
  | zero =>
    intro x1 x2 x3 x4 x5 σ H locs ls  hH hl h
    rw [fX_miles_L47] at h
    cases h
  | succ n ih =>
    intro x1 x2 x3 x4 x5 σ H locs ls  hH hl h
    rw [fX_miles_L47] at h
    refine lv_iload hx hb dX7_miles_47 (lv_at hl 5 rfl) ?_
    refine lv_bipush (v := 60) hx hb dX7_miles_49 (by decide) ?_
    refine lv_icmp_gt (tgt := 101) hx hb dX7_miles_51 (by decide) (fun c13 => ?_) (fun c13 => ?_)
    · have h := ite_t c13 h
      exact hk101 x2 x3 x4 σ H locs ls  hH (lv_sub hl [2, 3, 4] rfl) h
    · have h := ite_f c13 h
      refine lv_aload_n hx hb dX7_miles_54 rfl (lv_at hl 0 rfl) ?_
      refine x_get (C := RX7) (T := TX7) (N := 14) (v := .ref (xA G (1 + 2))) hC hH (xe_X G σ) rfl wyX7 2 (by decide) wfX7_19 rfl rfl dX7_miles_55 ?_
      refine lv_aload_n hx hb dX7_miles_58 rfl (lv_at hl 0 rfl) ?_
      refine x_get (C := RX7) (T := TX7) (N := 14) (v := .ref (xA G 8)) hC hH (xe_X G σ) rfl wyX7 10 (by decide) wfX7_60 rfl rfl dX7_miles_59 ?_
      refine lv_iload_n hx hb dX7_miles_62 rfl (lv_at hl 1 rfl) ?_
      obtain ⟨i14, h⟩ := ck_some h
      refine x_sheets hC hH i14 dX7_miles_63 ?_
      obtain ⟨r16, h15, h⟩ := ob_some h
      refine x_calls (As := [.ref (xA G (1 + 2)), .ref (xA G (60 + (x1).toNatClampNeg))]) (rest := []) (cX_differences l G σ 2 (x1).toNatClampNeg (by decide) (in_lt i14 (by decide)) h15) hC hH hl (va_cwS 2 hts (gS wmX7_214 wsX7_differences) rfl rfl rfl hdX7_differences ⟨Nat.le_of_ble_eq_true rfl, Nat.le_of_ble_eq_true rfl⟩) rfl rfl (Nat.le_of_ble_eq_true rfl) ⟨Nat.zero_le _, Nat.zero_le _⟩ dX7_miles_64 (fun H locs hH => ?_)
      refine lv_istore (lv' := [(6, .int r16), (0, .ref (xA G 0)), (1, .int x1), (2, .int x2), (3, .int x3), (4, .int x4), (5, .int x5)]) hx hb dX7_miles_67 hl (by decide) rfl (fun ls hl => ?_)
      refine lv_iload hx hb dX7_miles_69 (lv_at hl 6 rfl) ?_
      refine lv_if_eq (tgt := 81) hx hb dX7_miles_71 (by decide) (fun c17 => ?_) (fun c17 => ?_)
      · have h := ite_t c17 h
        exact wX_miles_J81 hC hr ih x1 x2 x5 r16 σ H locs ls  hH (lv_sub hl [1, 2, 3, 6, 0] rfl) h
      · have h := ite_f c17 h
        refine lv_iload hx hb dX7_miles_74 (lv_at hl 0 rfl) ?_
        refine lv_iload hx hb dX7_miles_76 (lv_at hl 5 rfl) ?_
        refine lv_icmp_ge (tgt := 88) hx hb dX7_miles_78 (by decide) (fun c22 => ?_) (fun c22 => ?_)
        · have h := ite_t c22 h
          refine lv_aload_n hx hb dX7_miles_88 rfl (lv_at hl 1 rfl) ?_
          refine x_get (C := RX7) (T := TX7) (N := 14) (v := .ref (xA G (1 + 2))) hC hH (xe_X G σ) rfl wyX7 2 (by decide) wfX7_19 rfl rfl dX7_miles_89 ?_
          obtain ⟨σ24, h23, h⟩ := ob_some h
          refine x_callv (vw := (RX0, TX0, 12)) (As := []) (rest := []) (cB_joltOnce l G σ 2 (by decide) h23) hC hH hl (xe_B G σ (by decide)) rfl (cwV 0 hts (gV wmX7_192 wvX0_joltOnce) rfl rfl rfl hdX0_joltOnce ⟨Nat.le_of_ble_eq_true rfl, Nat.le_of_ble_eq_true rfl⟩) rfl rfl (Nat.le_of_ble_eq_true rfl) ⟨Nat.zero_le _, Nat.zero_le _⟩ dX7_miles_92 (fun H locs hH => ?_)
          obtain ⟨v25, e26, h⟩ := bnd_some h
          refine lv_iinc (v := v25) (lv' := [(5, .int v25), (6, .int r16), (0, .ref (xA G 0)), (1, .int x1), (2, .int x2), (3, .int x3), (4, .int x4)]) hx hb dX7_miles_95 hl (k := 6) rfl (by rw [e26]; rfl) (by decide) rfl (fun ls hl => ?_)
          refine lv_goto (tgt := 47) hx hb dX7_miles_98 (by decide) ?_
          exact ih x1 x2 x3 x4 v25 σ24 H locs ls  hH (lv_sub hl [2, 3, 4, 5, 6, 0] rfl) h
        · have h := ite_f c22 h
          exact wX_miles_J81 hC hr ih x1 x2 x5 r16 σ H locs ls  hH (lv_sub hl [1, 2, 3, 6, 0] rfl) h

def fX_miles (σ0 : XS) (x1 : Int32) (x2 : Int32) : Option (Int32 × XS) :=
  ob (fX_isSheet σ0 x1) fun r2 =>
  if r2 = 0 then (
    some ((-1000000001 : Int32), σ0))
  else (
    ob (fX_isWithin σ0 x2 (0 : Int32) (1 : Int32)) fun r5 =>
    if r5 = 0 then (
      some ((-1000000001 : Int32), σ0))
    else (
      ck x1 4 <|
      ob (fS_isMissing σ0 (x1).toNatClampNeg) fun r9 =>
      if r9 = 0 then (
        ob (fX_think σ0 (0 : Int32)) fun σ12 =>
        fX_miles_L47 (fun (x2 : Int32) (x3 : Int32) (x4 : Int32) (σ : XS) => if x2 = 0 then (
            some (x3, σ))
          else (
            some (x4, σ))) 10000 x1 x2 (0 : Int32) (0 : Int32) (0 : Int32) σ12)
      else (
        some ((-1000000011 : Int32), σ0))))

set_option maxHeartbeats 4000000 in
set_option maxRecDepth 100000 in
theorem cX_miles (l : Launch) (G : XG) (σ0 : XS) (x1 : Int32) (x2 : Int32) {r : Int32} {σr : XS} (h : fX_miles σ0 x1 x2 = some (r, σr)) : ∀ sz, Met l yX7_miles (Cond.code yX7_miles cX7_miles 7 (some .int) :: Tw) rmX_miles (xP G σ0 sz [.ref (xA G 0), .int x1, .int x2]) (xQi G σ0 sz σr r) 0 0 (va_A (xW G σ0) sz) := by
  intro sz
  refine Met.ofW (cc := cX7_miles) (maxL := 7) (ret := (some .int)) (by decide) rfl ?_
  intro p e s m args below meth c s₁ Bd hml hv
  obtain ⟨hC, hr⟩ := jC_of Bd hml
  obtain ⟨rfl, rfl, hH⟩ := x_enter hv
  have hC : jC p s m _ meth c cX7_miles 7 RX7 := hC
  have hx := hC.1.1
  have hb := hC.1.2.1
  have hown := hC.1.2.2.2.1
  have hts := hC.1.2.2.2.2
  have hl := lv_entry ([.ref (xA G 0), .int x1, .int x2]) (n := 7) (Nat.le_of_ble_eq_true rfl)
  rw [lg_entry_eq]
  generalize (lg_sl ([.ref (xA G 0), .int x1, .int x2]) ++ List.replicate (7 - (lg_sl ([.ref (xA G 0), .int x1, .int x2])).length) Slot.unset).toArray = ls at hl ⊢
  have hl : lv_has ls 7 [(0, .ref (xA G 0)), (1, .int x1), (2, .int x2)] := hl
  unfold fX_miles at h
  refine W_nm (fun H locs eH eL => ?_)
  have hH : xH G s (va_A (xW G σ0) s.heap.size) σ0 H locs := by rw [eH, eL]; exact hH
  show W p l e rmX_miles s m _ below meth c H locs 0 0 _ (F0 m 0 ls [])
  refine lv_iload_n hx hb dX7_miles_0 rfl (lv_at hl 1 rfl) ?_
  obtain ⟨r2, h1, h⟩ := ob_some h
  refine x_calls (As := [.int x1]) (rest := []) (cX_isSheet l G σ0 x1  h1) hC hH hl (va_cwS 1 hts (gS wmX7_206 wsX7_isSheet) rfl rfl rfl hdX7_isSheet ⟨Nat.le_of_ble_eq_true rfl, Nat.le_of_ble_eq_true rfl⟩) rfl rfl (Nat.le_of_ble_eq_true rfl) ⟨Nat.zero_le _, Nat.zero_le _⟩ dX7_miles_1 (fun H locs hH => ?_)
  refine lv_if_eq (tgt := 16) hx hb dX7_miles_4 (by decide) (fun c3 => ?_) (fun c3 => ?_)
  · have h := ite_t c3 h
    refine lv_ldc (v := -1000000001) hx hb hown (hts _ wkX7_89) dX7_miles_16 ?_
    obtain ⟨rfl, rfl⟩ := some_i2 h
    exact x_iret (v := -1000000001) hC hH hr rfl dX7_miles_18
  · have h := ite_f c3 h
    refine lv_iload_n hx hb dX7_miles_7 rfl (lv_at hl 2 rfl) ?_
    refine lv_iconst (v := 0) hx hb dX7_miles_8 (by decide) ?_
    refine lv_iconst (v := 1) hx hb dX7_miles_9 (by decide) ?_
    obtain ⟨r5, h4, h⟩ := ob_some h
    refine x_calls (As := [.int x2, .int (0 : Int32), .int (1 : Int32)]) (rest := []) (cX_isWithin l G σ0 x2 (0 : Int32) (1 : Int32)  h4) hC hH hl (va_cwS 3 hts (gS wmX7_148 wsX7_isWithin) rfl rfl rfl hdX7_isWithin ⟨Nat.le_of_ble_eq_true rfl, Nat.le_of_ble_eq_true rfl⟩) rfl rfl (Nat.le_of_ble_eq_true rfl) ⟨Nat.zero_le _, Nat.zero_le _⟩ dX7_miles_10 (fun H locs hH => ?_)
    refine lv_if_ne (tgt := 19) hx hb dX7_miles_13 (by decide) (fun c6 => ?_) (fun c6 => ?_)
    · have h := ite_f c6 h
      refine lv_aload_n hx hb dX7_miles_19 rfl (lv_at hl 0 rfl) ?_
      refine x_get (C := RX7) (T := TX7) (N := 14) (v := .ref (xA G 8)) hC hH (xe_X G σ0) rfl wyX7 10 (by decide) wfX7_60 rfl rfl dX7_miles_20 ?_
      refine lv_iload_n hx hb dX7_miles_23 rfl (lv_at hl 1 rfl) ?_
      obtain ⟨i7, h⟩ := ck_some h
      refine x_sheets hC hH i7 dX7_miles_24 ?_
      obtain ⟨r9, h8, h⟩ := ob_some h
      refine x_calli (vw := (RX4, TX4, 3)) (As := []) (rest := []) (cS_isMissing l G σ0 (x1).toNatClampNeg (in_lt i7 (by decide)) h8) hC hH hl (xe_S G σ0 (in_lt i7 (by decide))) rfl (cwV 0 hts (gV wmX7_209 wvX4_isMissing) rfl rfl rfl hdX4_isMissing ⟨Nat.le_of_ble_eq_true rfl, Nat.le_of_ble_eq_true rfl⟩) rfl rfl (Nat.le_of_ble_eq_true rfl) ⟨Nat.zero_le _, Nat.zero_le _⟩ dX7_miles_25 (fun H locs hH => ?_)
      refine lv_if_eq (tgt := 34) hx hb dX7_miles_28 (by decide) (fun c10 => ?_) (fun c10 => ?_)
      · have h := ite_t c10 h
        refine lv_iconst (v := 0) hx hb dX7_miles_34 (by decide) ?_
        refine lv_istore_n (lv' := [(3, .int (0 : Int32)), (0, .ref (xA G 0)), (1, .int x1), (2, .int x2)]) hx hb dX7_miles_35 rfl hl (by decide) rfl (fun ls hl => ?_)
        refine lv_iconst (v := 0) hx hb dX7_miles_36 (by decide) ?_
        refine lv_istore (lv' := [(4, .int (0 : Int32)), (3, .int (0 : Int32)), (0, .ref (xA G 0)), (1, .int x1), (2, .int x2)]) hx hb dX7_miles_37 hl (by decide) rfl (fun ls hl => ?_)
        refine lv_aload_n hx hb dX7_miles_39 rfl (lv_at hl 2 rfl) ?_
        refine lv_iconst (v := 0) hx hb dX7_miles_40 (by decide) ?_
        obtain ⟨σ12, h11, h⟩ := ob_some h
        refine x_callv (vw := (RX7, TX7, 14)) (As := [.int (0 : Int32)]) (rest := []) (cX_think l G σ0 (0 : Int32)  h11) hC hH hl (xe_X G σ0) rfl (cwV 1 hts (gV wmX7_189 wvX7_think) rfl rfl rfl hdX7_think ⟨Nat.le_of_ble_eq_true rfl, Nat.le_of_ble_eq_true rfl⟩) rfl rfl (Nat.le_of_ble_eq_true rfl) ⟨Nat.zero_le _, Nat.zero_le _⟩ dX7_miles_41 (fun H locs hH => ?_)
        refine lv_iconst (v := 0) hx hb dX7_miles_44 (by decide) ?_
        refine lv_istore (lv' := [(5, .int (0 : Int32)), (4, .int (0 : Int32)), (3, .int (0 : Int32)), (0, .ref (xA G 0)), (1, .int x1), (2, .int x2)]) hx hb dX7_miles_45 hl (by decide) rfl (fun ls hl => ?_)
        refine wX_miles_L47 hC hr  ?_ 10000 x1 x2 (0 : Int32) (0 : Int32) (0 : Int32) σ12 H locs ls  hH (lv_sub hl [3, 4, 5, 2, 1, 0] rfl) h
        intro x2 x3 x4 σ H locs ls  hH hl h
        refine lv_iload_n hx hb dX7_miles_101 rfl (lv_at hl 0 rfl) ?_
        refine lv_if_ne (tgt := 109) hx hb dX7_miles_102 (by decide) (fun c27 => ?_) (fun c27 => ?_)
        · have h := ite_f c27 h
          refine lv_iload hx hb dX7_miles_109 (lv_at hl 2 rfl) ?_
          obtain ⟨rfl, rfl⟩ := some_i2 h
          exact x_iret hC hH hr rfl dX7_miles_111
        · have h := ite_t c27 h
          refine lv_iload_n hx hb dX7_miles_105 rfl (lv_at hl 1 rfl) ?_
          refine lv_goto (tgt := 111) hx hb dX7_miles_106 (by decide) ?_
          obtain ⟨rfl, rfl⟩ := some_i2 h
          exact x_iret hC hH hr rfl dX7_miles_111
      · have h := ite_f c10 h
        refine lv_ldc (v := -1000000011) hx hb hown (hts _ wkX7_213) dX7_miles_31 ?_
        obtain ⟨rfl, rfl⟩ := some_i2 h
        exact x_iret (v := -1000000011) hC hH hr rfl dX7_miles_33
    · have h := ite_t c6 h
      refine lv_ldc (v := -1000000001) hx hb hown (hts _ wkX7_89) dX7_miles_16 ?_
      obtain ⟨rfl, rfl⟩ := some_i2 h
      exact x_iret (v := -1000000001) hC hH hr rfl dX7_miles_18

def rmX_lastTextOf : Room := { frames := 0, cells := 0, slots := 0, locals := 0 }
theorem hdX7_lastTextOf : yX7_lastTextOf.cls = RX7 ∧ yX7_lastTextOf.cls ≠ "java/lang/invoke/MethodHandle" ∧ yX7_lastTextOf.cls ≠ "java/lang/invoke/VarHandle" ∧ (parseMethodDescriptor yX7_lastTextOf.desc).map (fun d => d.parameters.length) = some 1 := by decide +kernel

def fX_lastTextOf_L7 (σ0 : XS) (k41 : Option (Int32)) : Nat → Int32 → Int32 → Option (Int32)
  | 0, _, _ => none
  | n + 1, x1, x2 =>
    if x2 < 0 then (
      k41)
    else (
      ck x2 14 <|
      oc (xl σ0 (x2).toNatClampNeg) (
        bnd (x2 + (-1 : Int32)) fun v7 =>
        (fX_lastTextOf_L7 σ0 k41 n) x1 v7) fun a6 => (
        ck x2 14 <|
        oc (xl σ0 (x2).toNatClampNeg) (
          none) fun a11 => (
          lk σ0 a11 <|
          if (xw σ0 a11 0) = x1 then (
            some x2)
          else (
            bnd (x2 + (-1 : Int32)) fun v14 =>
            (fX_lastTextOf_L7 σ0 k41 n) x1 v14))))

set_option maxHeartbeats 4000000 in
set_option maxRecDepth 100000 in
theorem wX_lastTextOf_L7 {p : Program} {l : Launch} {e : Env} {s : State} {m : MethodId} {args : Array Value} {below : List Frame} {meth : Method} {c : Code} {G : XG} {σ0 : XS} {r : Int32} (hC : jC p s m args meth c cX7_lastTextOf 3 RX7) (hr : meth.sig.returnType = some .int) {k41 : Option (Int32)} (hk41 : ∀ (H : Heap) (locs : List Loc) (ls : Array Slot), xH G s (va_A (xW G σ0) s.heap.size) σ0 H locs → lv_has ls 3 [] → k41 = some r → W p l e rmX_lastTextOf s m args below meth c H locs 0 0 (MQ below (xQi G σ0 s.heap.size σ0 r) args s 0 0 (va_A (xW G σ0) s.heap.size)) (F0 m 41 ls [])) : ∀ (n : Nat) (x1 : Int32) (x2 : Int32) (H : Heap) (locs : List Loc) (ls : Array Slot), xH G s (va_A (xW G σ0) s.heap.size) σ0 H locs → lv_has ls 3 [(0, .ref (xA G 0)), (1, .int x1), (2, .int x2)] → fX_lastTextOf_L7 σ0 k41 n x1 x2 = some r → W p l e rmX_lastTextOf s m args below meth c H locs 0 0 (MQ below (xQi G σ0 s.heap.size σ0 r) args s 0 0 (va_A (xW G σ0) s.heap.size)) (F0 m 7 ls []) := by
  have hx := hC.1.1
  have hb := hC.1.2.1
  have hown := hC.1.2.2.2.1
  have hts := hC.1.2.2.2.2
  intro n
  induction n with
  | zero =>
    intro x1 x2 H locs ls  hH hl h
    rw [fX_lastTextOf_L7] at h
    cases h
  | succ n ih =>
    intro x1 x2 H locs ls  hH hl h
    rw [fX_lastTextOf_L7] at h
    refine lv_iload_n hx hb dX7_lastTextOf_7 rfl (lv_at hl 2 rfl) ?_
    refine lv_if_lt (tgt := 41) hx hb dX7_lastTextOf_8 (by decide) (fun c3 => ?_) (fun c3 => ?_)
    · have h := ite_t c3 h
      exact hk41  H locs ls  hH (lv_sub hl [] rfl) h
    · have h := ite_f c3 h
      refine lv_aload_n hx hb dX7_lastTextOf_11 rfl (lv_at hl 0 rfl) ?_
      refine x_get (C := RX7) (T := TX7) (N := 14) (v := .ref (xA G 5)) hC hH (xe_X G σ0) rfl wyX7 5 (by decide) wfX7_31 rfl rfl dX7_lastTextOf_12 ?_
      refine lv_iload_n hx hb dX7_lastTextOf_15 rfl (lv_at hl 2 rfl) ?_
      obtain ⟨i4, h⟩ := ck_some h
      refine x_laws hC hH i4 dX7_lastTextOf_16 ?_
      refine x_opt (fun c5 => ?_) (fun a6 c5 => ?_)
      · have h := oc_n c5 h
        refine lv_ifnullN (tgt := 35) hx hb dX7_lastTextOf_17 (by decide) ?_
        obtain ⟨v7, e8, h⟩ := bnd_some h
        refine lv_iinc (v := v7) (lv' := [(2, .int v7), (0, .ref (xA G 0)), (1, .int x1)]) hx hb dX7_lastTextOf_35 hl (k := 2) rfl (by rw [e8]; rfl) (by decide) rfl (fun ls hl => ?_)
        refine lv_goto (tgt := 7) hx hb dX7_lastTextOf_38 (by decide) ?_
        exact ih x1 v7 H locs ls  hH (lv_sub hl [1, 2, 0] rfl) h
      · have h := oc_s c5 h
        refine lv_ifnull hx hb dX7_lastTextOf_17 ?_
        refine lv_aload_n hx hb dX7_lastTextOf_20 rfl (lv_at hl 0 rfl) ?_
        refine x_get (C := RX7) (T := TX7) (N := 14) (v := .ref (xA G 5)) hC hH (xe_X G σ0) rfl wyX7 5 (by decide) wfX7_31 rfl rfl dX7_lastTextOf_21 ?_
        refine lv_iload_n hx hb dX7_lastTextOf_24 rfl (lv_at hl 2 rfl) ?_
        obtain ⟨i9, h⟩ := ck_some h
        refine x_laws hC hH i9 dX7_lastTextOf_25 ?_
        refine x_opt (fun c10 => ?_) (fun a11 c10 => ?_)
        · have h := oc_n c10 h
          cases h
        · have h := oc_s c10 h
          obtain ⟨q12, h⟩ := lk_some h
          refine x_pgetN (host := "RoadSorted") hC hH q12 0 (by decide) (by decide +kernel) rfl rfl dX7_lastTextOf_26 ?_
          refine lv_iload_n hx hb dX7_lastTextOf_29 rfl (lv_at hl 1 rfl) ?_
          refine lv_icmp_ne (tgt := 35) hx hb dX7_lastTextOf_30 (by decide) (fun c13 => ?_) (fun c13 => ?_)
          · have h := ite_f c13 h
            obtain ⟨v14, e15, h⟩ := bnd_some h
            refine lv_iinc (v := v14) (lv' := [(2, .int v14), (0, .ref (xA G 0)), (1, .int x1)]) hx hb dX7_lastTextOf_35 hl (k := 2) rfl (by rw [e15]; rfl) (by decide) rfl (fun ls hl => ?_)
            refine lv_goto (tgt := 7) hx hb dX7_lastTextOf_38 (by decide) ?_
            exact ih x1 v14 H locs ls  hH (lv_sub hl [1, 2, 0] rfl) h
          · have h := ite_t c13 h
            refine lv_iload_n hx hb dX7_lastTextOf_33 rfl (lv_at hl 2 rfl) ?_
            obtain rfl := some_i1 h
            exact x_iret hC hH hr rfl dX7_lastTextOf_34

def fX_lastTextOf (σ0 : XS) (x1 : Int32) : Option (Int32) :=
  bnd ((xi σ0 0 6) - (1 : Int32)) fun v1 =>
  fX_lastTextOf_L7 σ0 (some (-1000000005 : Int32)) 10000 x1 v1

set_option maxHeartbeats 4000000 in
set_option maxRecDepth 100000 in
theorem cX_lastTextOf (l : Launch) (G : XG) (σ0 : XS) (x1 : Int32) {r : Int32} (h : fX_lastTextOf σ0 x1 = some r) : ∀ sz, Met l yX7_lastTextOf (Cond.code yX7_lastTextOf cX7_lastTextOf 3 (some .int) :: Tw) rmX_lastTextOf (xP G σ0 sz [.ref (xA G 0), .int x1]) (xQi G σ0 sz σ0 r) 0 0 (va_A (xW G σ0) sz) := by
  intro sz
  refine Met.ofW (cc := cX7_lastTextOf) (maxL := 3) (ret := (some .int)) (by decide) rfl ?_
  intro p e s m args below meth c s₁ Bd hml hv
  obtain ⟨hC, hr⟩ := jC_of Bd hml
  obtain ⟨rfl, rfl, hH⟩ := x_enter hv
  have hC : jC p s m _ meth c cX7_lastTextOf 3 RX7 := hC
  have hx := hC.1.1
  have hb := hC.1.2.1
  have hown := hC.1.2.2.2.1
  have hts := hC.1.2.2.2.2
  have hl := lv_entry ([.ref (xA G 0), .int x1]) (n := 3) (Nat.le_of_ble_eq_true rfl)
  rw [lg_entry_eq]
  generalize (lg_sl ([.ref (xA G 0), .int x1]) ++ List.replicate (3 - (lg_sl ([.ref (xA G 0), .int x1])).length) Slot.unset).toArray = ls at hl ⊢
  have hl : lv_has ls 3 [(0, .ref (xA G 0)), (1, .int x1)] := hl
  unfold fX_lastTextOf at h
  refine W_nm (fun H locs eH eL => ?_)
  have hH : xH G s (va_A (xW G σ0) s.heap.size) σ0 H locs := by rw [eH, eL]; exact hH
  show W p l e rmX_lastTextOf s m _ below meth c H locs 0 0 _ (F0 m 0 ls [])
  refine lv_aload_n hx hb dX7_lastTextOf_0 rfl (lv_at hl 0 rfl) ?_
  refine x_get (C := RX7) (T := TX7) (N := 14) (v := .int (xi σ0 0 6)) hC hH (xe_X G σ0) rfl wyX7 6 (by decide) wfX7_35 rfl rfl dX7_lastTextOf_1 ?_
  refine lv_iconst (v := 1) hx hb dX7_lastTextOf_4 (by decide) ?_
  refine lv_isub hx hb dX7_lastTextOf_5 ?_
  obtain ⟨v1, e2, h⟩ := bnd_some h
  refine lv_tope e2 ?_
  refine lv_istore_n (lv' := [(2, .int v1), (0, .ref (xA G 0)), (1, .int x1)]) hx hb dX7_lastTextOf_6 rfl hl (by decide) rfl (fun ls hl => ?_)
  refine wX_lastTextOf_L7 hC hr  ?_ 10000 x1 v1 H locs ls  hH (lv_sub hl [1, 2, 0] rfl) h
  intro  H locs ls  hH hl h
  refine lv_ldc (v := -1000000005) hx hb hown (hts _ wkX7_195) dX7_lastTextOf_41 ?_
  obtain rfl := some_i1 h
  exact x_iret (v := -1000000005) hC hH hr rfl dX7_lastTextOf_43

def rmX_lawOf : Room := { frames := 1, cells := 0, slots := 0, locals := 22 }
theorem hdX7_lawOf : yX7_lawOf.cls = RX7 ∧ yX7_lawOf.cls ≠ "java/lang/invoke/MethodHandle" ∧ yX7_lawOf.cls ≠ "java/lang/invoke/VarHandle" ∧ (parseMethodDescriptor yX7_lawOf.desc).map (fun d => d.parameters.length) = some 1 := by decide +kernel

def fX_lawOf (σ0 : XS) (x1 : Int32) : Option (Option Nat) :=
  ob (fX_lastTextOf σ0 x1) fun r2 =>
  if r2 = (-1000000005 : Int32) then (
    some (none : Option Nat))
  else (
    ck r2 14 <|
    some (xl σ0 (r2).toNatClampNeg))

set_option maxHeartbeats 4000000 in
set_option maxRecDepth 100000 in
theorem cX_lawOf (l : Launch) (G : XG) (σ0 : XS) (x1 : Int32) {r : Option Nat} (h : fX_lawOf σ0 x1 = some r) : ∀ sz, Met l yX7_lawOf (Cond.code yX7_lawOf cX7_lawOf 3 (some (.object "RoadSorted$Law")) :: Tw) rmX_lawOf (xP G σ0 sz [.ref (xA G 0), .int x1]) (xQq G σ0 sz σ0 r) 0 0 (va_A (xW G σ0) sz) := by
  intro sz
  refine Met.ofW (cc := cX7_lawOf) (maxL := 3) (ret := (some (.object "RoadSorted$Law"))) (by decide) rfl ?_
  intro p e s m args below meth c s₁ Bd hml hv
  obtain ⟨hC, hr⟩ := jC_of Bd hml
  obtain ⟨rfl, rfl, hH⟩ := x_enter hv
  have hC : jC p s m _ meth c cX7_lawOf 3 RX7 := hC
  have hx := hC.1.1
  have hb := hC.1.2.1
  have hown := hC.1.2.2.2.1
  have hts := hC.1.2.2.2.2
  have hl := lv_entry ([.ref (xA G 0), .int x1]) (n := 3) (Nat.le_of_ble_eq_true rfl)
  rw [lg_entry_eq]
  generalize (lg_sl ([.ref (xA G 0), .int x1]) ++ List.replicate (3 - (lg_sl ([.ref (xA G 0), .int x1])).length) Slot.unset).toArray = ls at hl ⊢
  have hl : lv_has ls 3 [(0, .ref (xA G 0)), (1, .int x1)] := hl
  unfold fX_lawOf at h
  refine W_nm (fun H locs eH eL => ?_)
  have hH : xH G s (va_A (xW G σ0) s.heap.size) σ0 H locs := by rw [eH, eL]; exact hH
  show W p l e rmX_lawOf s m _ below meth c H locs 0 0 _ (F0 m 0 ls [])
  refine lv_aload_n hx hb dX7_lawOf_0 rfl (lv_at hl 0 rfl) ?_
  refine lv_iload_n hx hb dX7_lawOf_1 rfl (lv_at hl 1 rfl) ?_
  obtain ⟨r2, h1, h⟩ := ob_some h
  refine x_calli (vw := (RX7, TX7, 14)) (As := [.int x1]) (rest := []) (cX_lastTextOf l G σ0 x1  h1) hC hH hl (xe_X G σ0) rfl (cwV 1 hts (gV wmX7_254 wvX7_lastTextOf) rfl rfl rfl hdX7_lastTextOf ⟨Nat.le_of_ble_eq_true rfl, Nat.le_of_ble_eq_true rfl⟩) rfl rfl (Nat.le_of_ble_eq_true rfl) ⟨Nat.zero_le _, Nat.zero_le _⟩ dX7_lawOf_2 (fun H locs hH => ?_)
  refine lv_istore_n (lv' := [(2, .int r2), (0, .ref (xA G 0)), (1, .int x1)]) hx hb dX7_lawOf_5 rfl hl (by decide) rfl (fun ls hl => ?_)
  refine lv_iload_n hx hb dX7_lawOf_6 rfl (lv_at hl 0 rfl) ?_
  refine lv_ldc (v := -1000000005) hx hb hown (hts _ wkX7_195) dX7_lawOf_7 ?_
  refine lv_icmp_ne (tgt := 16) hx hb dX7_lawOf_9 (by decide) (fun c3 => ?_) (fun c3 => ?_)
  · have h := ite_f c3 h
    refine lv_aload_n hx hb dX7_lawOf_16 rfl (lv_at hl 1 rfl) ?_
    refine x_get (C := RX7) (T := TX7) (N := 14) (v := .ref (xA G 5)) hC hH (xe_X G σ0) rfl wyX7 5 (by decide) wfX7_31 rfl rfl dX7_lawOf_17 ?_
    refine lv_iload_n hx hb dX7_lawOf_20 rfl (lv_at hl 0 rfl) ?_
    obtain ⟨i4, h⟩ := ck_some h
    refine x_laws hC hH i4 dX7_lawOf_21 ?_
    obtain rfl := some_i1 h
    exact x_qret (v := (xl σ0 (r2).toNatClampNeg)) rfl hC hH hr dX7_lawOf_22
  · have h := ite_t c3 h
    refine lv_null hx hb dX7_lawOf_12 ?_
    refine lv_goto (tgt := 22) hx hb dX7_lawOf_13 (by decide) ?_
    obtain rfl := some_i1 h
    exact x_qret (v := (none : Option Nat)) rfl hC hH hr dX7_lawOf_22

def rmX_fee : Room := { frames := 2, cells := 0, slots := 0, locals := 48 }
theorem hdX7_fee : yX7_fee.cls = RX7 ∧ yX7_fee.cls ≠ "java/lang/invoke/MethodHandle" ∧ yX7_fee.cls ≠ "java/lang/invoke/VarHandle" ∧ (parseMethodDescriptor yX7_fee.desc).map (fun d => d.parameters.length) = some 0 := by decide +kernel

def fX_fee (σ0 : XS) : Option (Int32 × XS) :=
  ob (fB_mess σ0 0) fun r2 =>
  ob (fX_lawOf σ0 (1 : Int32)) fun r4 =>
  oc r4 (
    some (r2, σ0)) fun a6 => (
    lk σ0 a6 <|
    ob2 (fL_gives σ0 a6 r2 (xi σ0 (1 + 0) 9) (0 : Int32)) fun r8 σ9 =>
    some (r8, σ9))

set_option maxHeartbeats 4000000 in
set_option maxRecDepth 100000 in
theorem cX_fee (l : Launch) (G : XG) (σ0 : XS) {r : Int32} {σr : XS} (h : fX_fee σ0 = some (r, σr)) : ∀ sz, Met l yX7_fee (Cond.code yX7_fee cX7_fee 3 (some .int) :: Tw) rmX_fee (xP G σ0 sz [.ref (xA G 0)]) (xQi G σ0 sz σr r) 0 0 (va_A (xW G σ0) sz) := by
  intro sz
  refine Met.ofW (cc := cX7_fee) (maxL := 3) (ret := (some .int)) (by decide) rfl ?_
  intro p e s m args below meth c s₁ Bd hml hv
  obtain ⟨hC, hr⟩ := jC_of Bd hml
  obtain ⟨rfl, rfl, hH⟩ := x_enter hv
  have hC : jC p s m _ meth c cX7_fee 3 RX7 := hC
  have hx := hC.1.1
  have hb := hC.1.2.1
  have hown := hC.1.2.2.2.1
  have hts := hC.1.2.2.2.2
  have hl := lv_entry ([.ref (xA G 0)]) (n := 3) (Nat.le_of_ble_eq_true rfl)
  rw [lg_entry_eq]
  generalize (lg_sl ([.ref (xA G 0)]) ++ List.replicate (3 - (lg_sl ([.ref (xA G 0)])).length) Slot.unset).toArray = ls at hl ⊢
  have hl : lv_has ls 3 [(0, .ref (xA G 0))] := hl
  unfold fX_fee at h
  refine W_nm (fun H locs eH eL => ?_)
  have hH : xH G s (va_A (xW G σ0) s.heap.size) σ0 H locs := by rw [eH, eL]; exact hH
  show W p l e rmX_fee s m _ below meth c H locs 0 0 _ (F0 m 0 ls [])
  refine lv_aload_n hx hb dX7_fee_0 rfl (lv_at hl 0 rfl) ?_
  refine x_get (C := RX7) (T := TX7) (N := 14) (v := .ref (xA G (1 + 0))) hC hH (xe_X G σ0) rfl wyX7 0 (by decide) wfX7_10 rfl rfl dX7_fee_1 ?_
  obtain ⟨r2, h1, h⟩ := ob_some h
  refine x_calli (vw := (RX0, TX0, 12)) (As := []) (rest := []) (cB_mess l G σ0 0 (by decide) h1) hC hH hl (xe_B G σ0 (by decide)) rfl (cwV 0 hts (gV wmX7_177 wvX0_mess) rfl rfl rfl hdX0_mess ⟨Nat.le_of_ble_eq_true rfl, Nat.le_of_ble_eq_true rfl⟩) rfl rfl (Nat.le_of_ble_eq_true rfl) ⟨Nat.zero_le _, Nat.zero_le _⟩ dX7_fee_4 (fun H locs hH => ?_)
  refine lv_istore_n (lv' := [(1, .int r2), (0, .ref (xA G 0))]) hx hb dX7_fee_7 rfl hl (by decide) rfl (fun ls hl => ?_)
  refine lv_aload_n hx hb dX7_fee_8 rfl (lv_at hl 1 rfl) ?_
  refine lv_iconst (v := 1) hx hb dX7_fee_9 (by decide) ?_
  obtain ⟨r4, h3, h⟩ := ob_some h
  refine x_callq (vw := (RX7, TX7, 14)) (As := [.int (1 : Int32)]) (rest := []) (cX_lawOf l G σ0 (1 : Int32)  h3) hC hH hl (xe_X G σ0) rfl (cwV 1 hts (gV wmX7_218 wvX7_lawOf) rfl rfl rfl hdX7_lawOf ⟨Nat.le_of_ble_eq_true rfl, Nat.le_of_ble_eq_true rfl⟩) rfl rfl (Nat.le_of_ble_eq_true rfl) ⟨Nat.zero_le _, Nat.zero_le _⟩ dX7_fee_10 (fun H locs hH => ?_)
  refine x_opt (fun c5 => ?_) (fun a6 c5 => ?_)
  · have h := oc_n c5 h
    refine lv_astore_nN (lv' := [(2, .null), (1, .int r2), (0, .ref (xA G 0))]) hx hb dX7_fee_13 rfl hl (by decide) rfl (fun ls hl => ?_)
    refine lv_aload_nN hx hb dX7_fee_14 rfl (lv_at hl 0 rfl) ?_
    refine lv_ifnonnullN hx hb dX7_fee_15 ?_
    refine lv_iload_n hx hb dX7_fee_18 rfl (lv_at hl 1 rfl) ?_
    refine lv_goto (tgt := 35) hx hb dX7_fee_19 (by decide) ?_
    obtain ⟨rfl, rfl⟩ := some_i2 h
    exact x_iret hC hH hr rfl dX7_fee_35
  · have h := oc_s c5 h
    refine lv_astore_n (lv' := [(2, .ref a6), (1, .int r2), (0, .ref (xA G 0))]) hx hb dX7_fee_13 rfl hl (by decide) rfl (fun ls hl => ?_)
    refine lv_aload_n hx hb dX7_fee_14 rfl (lv_at hl 0 rfl) ?_
    refine lv_ifnonnull (tgt := 22) hx hb dX7_fee_15 (by decide) ?_
    refine lv_aload_n hx hb dX7_fee_22 rfl (lv_at hl 0 rfl) ?_
    refine lv_iload_n hx hb dX7_fee_23 rfl (lv_at hl 1 rfl) ?_
    refine lv_aload_n hx hb dX7_fee_24 rfl (lv_at hl 2 rfl) ?_
    refine x_get (C := RX7) (T := TX7) (N := 14) (v := .ref (xA G (1 + 0))) hC hH (xe_X G σ0) rfl wyX7 0 (by decide) wfX7_10 rfl rfl dX7_fee_25 ?_
    refine x_getN (C := RX0) (T := TX0) (N := 12) (v := .int (xi σ0 (1 + 0) 9)) (host := "RoadSorted") hC hH (xe_B G σ0 (by decide)) rfl wyX0 9 (by decide) (by decide +kernel) rfl rfl dX7_fee_28 ?_
    refine lv_iconst (v := 0) hx hb dX7_fee_31 (by decide) ?_
    obtain ⟨q10, h⟩ := lk_some h
    obtain ⟨r8, σ9, h7, h⟩ := ob2_some h
    obtain ⟨j11, q12⟩ := xe_L G σ0 q10.1 q10.2
    refine x_calli (vw := (RX2, TX2, 4)) (As := [.int r2, .int (xi σ0 (1 + 0) 9), .int (0 : Int32)]) (rest := []) (cL_gives l G σ0 a6 r2 (xi σ0 (1 + 0) 9) (0 : Int32)  h7) hC hH hl q12 rfl (cwV 3 hts (gV wmX7_222 wvX2_gives) rfl rfl rfl hdX2_gives ⟨Nat.le_of_ble_eq_true rfl, Nat.le_of_ble_eq_true rfl⟩) rfl rfl (Nat.le_of_ble_eq_true rfl) ⟨Nat.zero_le _, Nat.zero_le _⟩ dX7_fee_32 (fun H locs hH => ?_)
    obtain ⟨rfl, rfl⟩ := some_i2 h
    exact x_iret hC hH hr rfl dX7_fee_35

def rmX_fine : Room := { frames := 2, cells := 0, slots := 0, locals := 48 }
theorem hdX7_fine : yX7_fine.cls = RX7 ∧ yX7_fine.cls ≠ "java/lang/invoke/MethodHandle" ∧ yX7_fine.cls ≠ "java/lang/invoke/VarHandle" ∧ (parseMethodDescriptor yX7_fine.desc).map (fun d => d.parameters.length) = some 1 := by decide +kernel

def fX_fine (σ0 : XS) (x1 : Int32) : Option (Int32 × XS) :=
  ob (fB_has σ0 0 x1) fun r2 =>
  if r2 = 0 then (
    some ((-1000000001 : Int32), σ0))
  else (
    ob (fB_placeOf σ0 0 x1) fun r5 =>
    ob (fX_lawOf σ0 (2 : Int32)) fun r7 =>
    oc r7 (
      some (r5, σ0)) fun a9 => (
      ck x1 (14) <|
      lk σ0 a9 <|
      ob2 (fL_gives σ0 a9 (xi σ0 (30 + 6 * 0 + 1) (x1).toNatClampNeg) r5 (0 : Int32)) fun r12 σ13 =>
      some (r12, σ13)))

set_option maxHeartbeats 4000000 in
set_option maxRecDepth 100000 in
theorem cX_fine (l : Launch) (G : XG) (σ0 : XS) (x1 : Int32) {r : Int32} {σr : XS} (h : fX_fine σ0 x1 = some (r, σr)) : ∀ sz, Met l yX7_fine (Cond.code yX7_fine cX7_fine 4 (some .int) :: Tw) rmX_fine (xP G σ0 sz [.ref (xA G 0), .int x1]) (xQi G σ0 sz σr r) 0 0 (va_A (xW G σ0) sz) := by
  intro sz
  refine Met.ofW (cc := cX7_fine) (maxL := 4) (ret := (some .int)) (by decide) rfl ?_
  intro p e s m args below meth c s₁ Bd hml hv
  obtain ⟨hC, hr⟩ := jC_of Bd hml
  obtain ⟨rfl, rfl, hH⟩ := x_enter hv
  have hC : jC p s m _ meth c cX7_fine 4 RX7 := hC
  have hx := hC.1.1
  have hb := hC.1.2.1
  have hown := hC.1.2.2.2.1
  have hts := hC.1.2.2.2.2
  have hl := lv_entry ([.ref (xA G 0), .int x1]) (n := 4) (Nat.le_of_ble_eq_true rfl)
  rw [lg_entry_eq]
  generalize (lg_sl ([.ref (xA G 0), .int x1]) ++ List.replicate (4 - (lg_sl ([.ref (xA G 0), .int x1])).length) Slot.unset).toArray = ls at hl ⊢
  have hl : lv_has ls 4 [(0, .ref (xA G 0)), (1, .int x1)] := hl
  unfold fX_fine at h
  refine W_nm (fun H locs eH eL => ?_)
  have hH : xH G s (va_A (xW G σ0) s.heap.size) σ0 H locs := by rw [eH, eL]; exact hH
  show W p l e rmX_fine s m _ below meth c H locs 0 0 _ (F0 m 0 ls [])
  refine lv_aload_n hx hb dX7_fine_0 rfl (lv_at hl 0 rfl) ?_
  refine x_get (C := RX7) (T := TX7) (N := 14) (v := .ref (xA G (1 + 0))) hC hH (xe_X G σ0) rfl wyX7 0 (by decide) wfX7_10 rfl rfl dX7_fine_1 ?_
  refine lv_iload_n hx hb dX7_fine_4 rfl (lv_at hl 1 rfl) ?_
  obtain ⟨r2, h1, h⟩ := ob_some h
  refine x_calli (vw := (RX0, TX0, 12)) (As := [.int x1]) (rest := []) (cB_has l G σ0 0 x1 (by decide) h1) hC hH hl (xe_B G σ0 (by decide)) rfl (cwV 1 hts (gV wmX7_98 wvX0_has) rfl rfl rfl hdX0_has ⟨Nat.le_of_ble_eq_true rfl, Nat.le_of_ble_eq_true rfl⟩) rfl rfl (Nat.le_of_ble_eq_true rfl) ⟨Nat.zero_le _, Nat.zero_le _⟩ dX7_fine_5 (fun H locs hH => ?_)
  refine lv_if_ne (tgt := 14) hx hb dX7_fine_8 (by decide) (fun c3 => ?_) (fun c3 => ?_)
  · have h := ite_f c3 h
    refine lv_aload_n hx hb dX7_fine_14 rfl (lv_at hl 0 rfl) ?_
    refine x_get (C := RX7) (T := TX7) (N := 14) (v := .ref (xA G (1 + 0))) hC hH (xe_X G σ0) rfl wyX7 0 (by decide) wfX7_10 rfl rfl dX7_fine_15 ?_
    refine lv_iload_n hx hb dX7_fine_18 rfl (lv_at hl 1 rfl) ?_
    obtain ⟨r5, h4, h⟩ := ob_some h
    refine x_calli (vw := (RX0, TX0, 12)) (As := [.int x1]) (rest := []) (cB_placeOf l G σ0 0 x1 (by decide) h4) hC hH hl (xe_B G σ0 (by decide)) rfl (cwV 1 hts (gV wmX7_110 wvX0_placeOf) rfl rfl rfl hdX0_placeOf ⟨Nat.le_of_ble_eq_true rfl, Nat.le_of_ble_eq_true rfl⟩) rfl rfl (Nat.le_of_ble_eq_true rfl) ⟨Nat.zero_le _, Nat.zero_le _⟩ dX7_fine_19 (fun H locs hH => ?_)
    refine lv_istore_n (lv' := [(2, .int r5), (0, .ref (xA G 0)), (1, .int x1)]) hx hb dX7_fine_22 rfl hl (by decide) rfl (fun ls hl => ?_)
    refine lv_aload_n hx hb dX7_fine_23 rfl (lv_at hl 1 rfl) ?_
    refine lv_iconst (v := 2) hx hb dX7_fine_24 (by decide) ?_
    obtain ⟨r7, h6, h⟩ := ob_some h
    refine x_callq (vw := (RX7, TX7, 14)) (As := [.int (2 : Int32)]) (rest := []) (cX_lawOf l G σ0 (2 : Int32)  h6) hC hH hl (xe_X G σ0) rfl (cwV 1 hts (gV wmX7_218 wvX7_lawOf) rfl rfl rfl hdX7_lawOf ⟨Nat.le_of_ble_eq_true rfl, Nat.le_of_ble_eq_true rfl⟩) rfl rfl (Nat.le_of_ble_eq_true rfl) ⟨Nat.zero_le _, Nat.zero_le _⟩ dX7_fine_25 (fun H locs hH => ?_)
    refine x_opt (fun c8 => ?_) (fun a9 c8 => ?_)
    · have h := oc_n c8 h
      refine lv_astore_nN (lv' := [(3, .null), (2, .int r5), (0, .ref (xA G 0)), (1, .int x1)]) hx hb dX7_fine_28 rfl hl (by decide) rfl (fun ls hl => ?_)
      refine lv_aload_nN hx hb dX7_fine_29 rfl (lv_at hl 0 rfl) ?_
      refine lv_ifnonnullN hx hb dX7_fine_30 ?_
      refine lv_iload_n hx hb dX7_fine_33 rfl (lv_at hl 1 rfl) ?_
      refine lv_goto (tgt := 52) hx hb dX7_fine_34 (by decide) ?_
      obtain ⟨rfl, rfl⟩ := some_i2 h
      exact x_iret hC hH hr rfl dX7_fine_52
    · have h := oc_s c8 h
      refine lv_astore_n (lv' := [(3, .ref a9), (2, .int r5), (0, .ref (xA G 0)), (1, .int x1)]) hx hb dX7_fine_28 rfl hl (by decide) rfl (fun ls hl => ?_)
      refine lv_aload_n hx hb dX7_fine_29 rfl (lv_at hl 0 rfl) ?_
      refine lv_ifnonnull (tgt := 37) hx hb dX7_fine_30 (by decide) ?_
      refine lv_aload_n hx hb dX7_fine_37 rfl (lv_at hl 0 rfl) ?_
      refine lv_aload_n hx hb dX7_fine_38 rfl (lv_at hl 2 rfl) ?_
      refine x_get (C := RX7) (T := TX7) (N := 14) (v := .ref (xA G (1 + 0))) hC hH (xe_X G σ0) rfl wyX7 0 (by decide) wfX7_10 rfl rfl dX7_fine_39 ?_
      refine x_getN (C := RX0) (T := TX0) (N := 12) (v := .ref (xA G (100 + (30 + 6 * 0 + 1)))) (host := "RoadSorted") hC hH (xe_B G σ0 (by decide)) rfl wyX0 2 (by decide) (by decide +kernel) rfl rfl dX7_fine_42 ?_
      refine lv_iload_n hx hb dX7_fine_45 rfl (lv_at hl 3 rfl) ?_
      obtain ⟨i10, h⟩ := ck_some h
      refine x_ald hC hH (d := (30 + 6 * 0 + 1)) (xIs_b (by decide) (by decide)) (xLen_b (by decide) (by decide)) rfl i10 dX7_fine_46 ?_
      refine lv_iload_n hx hb dX7_fine_47 rfl (lv_at hl 1 rfl) ?_
      refine lv_iconst (v := 0) hx hb dX7_fine_48 (by decide) ?_
      obtain ⟨q14, h⟩ := lk_some h
      obtain ⟨r12, σ13, h11, h⟩ := ob2_some h
      obtain ⟨j15, q16⟩ := xe_L G σ0 q14.1 q14.2
      refine x_calli (vw := (RX2, TX2, 4)) (As := [.int (xi σ0 (30 + 6 * 0 + 1) (x1).toNatClampNeg), .int r5, .int (0 : Int32)]) (rest := []) (cL_gives l G σ0 a9 (xi σ0 (30 + 6 * 0 + 1) (x1).toNatClampNeg) r5 (0 : Int32)  h11) hC hH hl q16 rfl (cwV 3 hts (gV wmX7_222 wvX2_gives) rfl rfl rfl hdX2_gives ⟨Nat.le_of_ble_eq_true rfl, Nat.le_of_ble_eq_true rfl⟩) rfl rfl (Nat.le_of_ble_eq_true rfl) ⟨Nat.zero_le _, Nat.zero_le _⟩ dX7_fine_49 (fun H locs hH => ?_)
      obtain ⟨rfl, rfl⟩ := some_i2 h
      exact x_iret hC hH hr rfl dX7_fine_52
  · have h := ite_t c3 h
    refine lv_ldc (v := -1000000001) hx hb hown (hts _ wkX7_89) dX7_fine_11 ?_
    obtain ⟨rfl, rfl⟩ := some_i2 h
    exact x_iret (v := -1000000001) hC hH hr rfl dX7_fine_13

def rmT_hasRoom : Room := { frames := 0, cells := 0, slots := 0, locals := 0 }
theorem hdX6_hasRoom : yX6_hasRoom.cls = RX6 ∧ yX6_hasRoom.cls ≠ "java/lang/invoke/MethodHandle" ∧ yX6_hasRoom.cls ≠ "java/lang/invoke/VarHandle" ∧ (parseMethodDescriptor yX6_hasRoom.desc).map (fun d => d.parameters.length) = some 0 := by decide +kernel

def fT_hasRoom (σ0 : XS) : Option (Int32) :=
  if (96 : Int32) < ((xi σ0 5 1) + (12 : Int32)) then (
    some (0 : Int32))
  else (
    some (1 : Int32))

set_option maxHeartbeats 4000000 in
set_option maxRecDepth 100000 in
theorem cT_hasRoom (l : Launch) (G : XG) (σ0 : XS) {r : Int32} (h : fT_hasRoom σ0 = some r) : ∀ sz, Met l yX6_hasRoom (Cond.code yX6_hasRoom cX6_hasRoom 1 (some .boolean) :: Tw) rmT_hasRoom (xP G σ0 sz [.ref (xA G 6)]) (xQi G σ0 sz σ0 r) 0 0 (va_A (xW G σ0) sz) := by
  intro sz
  refine Met.ofW (cc := cX6_hasRoom) (maxL := 1) (ret := (some .boolean)) (by decide) rfl ?_
  intro p e s m args below meth c s₁ Bd hml hv
  obtain ⟨hC, hr⟩ := jC_of Bd hml
  obtain ⟨rfl, rfl, hH⟩ := x_enter hv
  have hC : jC p s m _ meth c cX6_hasRoom 1 RX6 := hC
  have hx := hC.1.1
  have hb := hC.1.2.1
  have hown := hC.1.2.2.2.1
  have hts := hC.1.2.2.2.2
  have hl := lv_entry ([.ref (xA G 6)]) (n := 1) (Nat.le_of_ble_eq_true rfl)
  rw [lg_entry_eq]
  generalize (lg_sl ([.ref (xA G 6)]) ++ List.replicate (1 - (lg_sl ([.ref (xA G 6)])).length) Slot.unset).toArray = ls at hl ⊢
  have hl : lv_has ls 1 [(0, .ref (xA G 6))] := hl
  unfold fT_hasRoom at h
  refine W_nm (fun H locs eH eL => ?_)
  have hH : xH G s (va_A (xW G σ0) s.heap.size) σ0 H locs := by rw [eH, eL]; exact hH
  show W p l e rmT_hasRoom s m _ below meth c H locs 0 0 _ (F0 m 0 ls [])
  refine lv_aload_n hx hb dX6_hasRoom_0 rfl (lv_at hl 0 rfl) ?_
  refine x_get (C := RX6) (T := TX6) (N := 5) (v := .int (xi σ0 5 1)) hC hH (xe_T G σ0) rfl wyX6 1 (by decide) wfX6_13 rfl rfl dX6_hasRoom_1 ?_
  refine lv_bipush (v := 12) hx hb dX6_hasRoom_4 (by decide) ?_
  refine lv_iadd hx hb dX6_hasRoom_6 ?_
  refine lv_bipush (v := 96) hx hb dX6_hasRoom_7 (by decide) ?_
  refine lv_icmp_gt (tgt := 16) hx hb dX6_hasRoom_9 (by decide) (fun c1 => ?_) (fun c1 => ?_)
  · have h := ite_t c1 h
    refine lv_iconst (v := 0) hx hb dX6_hasRoom_16 (by decide) ?_
    obtain rfl := some_i1 h
    exact x_iret (v := 0) hC hH hr (by decide) dX6_hasRoom_17
  · have h := ite_f c1 h
    refine lv_iconst (v := 1) hx hb dX6_hasRoom_12 (by decide) ?_
    refine lv_goto (tgt := 17) hx hb dX6_hasRoom_13 (by decide) ?_
    obtain rfl := some_i1 h
    exact x_iret (v := 1) hC hH hr (by decide) dX6_hasRoom_17

def rmT_append : Room := { frames := 0, cells := 0, slots := 0, locals := 0 }
theorem hdX6_append : yX6_append.cls = RX6 ∧ yX6_append.cls ≠ "java/lang/invoke/MethodHandle" ∧ yX6_append.cls ≠ "java/lang/invoke/VarHandle" ∧ (parseMethodDescriptor yX6_append.desc).map (fun d => d.parameters.length) = some 1 := by decide +kernel

def fT_append_L3 (k48 : XS → Option (XS)) : Nat → Int32 → Int32 → XS → Option (XS)
  | 0, _, _, _ => none
  | n + 1, x1, x2, σ =>
    if x2 < 0 then (
      k48 σ)
    else (
      if (96 : Int32) ≤ (xi σ 5 1) then (
        k48 σ)
      else (
        ck (xi σ 5 1) (96) <|
        bnd (xu σ 54 ((xi σ 5 1)).toNatClampNeg (((x1).toUInt32 >>> ((x2).toUInt32 &&& Int32.toUInt32 31)).toInt32 &&& (255 : Int32))) fun σ3 =>
        bnd (xu σ3 5 1 ((xi σ3 5 1) + (1 : Int32))) fun σ6 =>
        bnd (x2 + (-8 : Int32)) fun v8 =>
        (fT_append_L3 k48 n) x1 v8 σ6))

set_option maxHeartbeats 4000000 in
set_option maxRecDepth 100000 in
theorem wT_append_L3 {p : Program} {l : Launch} {e : Env} {s : State} {m : MethodId} {args : Array Value} {below : List Frame} {meth : Method} {c : Code} {G : XG} {σ0 : XS} {σr : XS} (hC : jC p s m args meth c cX6_append 3 RX6) (hr : meth.sig.returnType = none) {k48 : XS → Option (XS)} (hk48 : ∀ (σ : XS) (H : Heap) (locs : List Loc) (ls : Array Slot), xH G s (va_A (xW G σ0) s.heap.size) σ H locs → lv_has ls 3 [] → k48 σ = some σr → W p l e rmT_append s m args below meth c H locs 0 0 (MQ below (xQv G σ0 s.heap.size σr) args s 0 0 (va_A (xW G σ0) s.heap.size)) (F0 m 48 ls [])) : ∀ (n : Nat) (x1 : Int32) (x2 : Int32) (σ : XS) (H : Heap) (locs : List Loc) (ls : Array Slot), xH G s (va_A (xW G σ0) s.heap.size) σ H locs → lv_has ls 3 [(0, .ref (xA G 6)), (1, .int x1), (2, .int x2)] → fT_append_L3 k48 n x1 x2 σ = some σr → W p l e rmT_append s m args below meth c H locs 0 0 (MQ below (xQv G σ0 s.heap.size σr) args s 0 0 (va_A (xW G σ0) s.heap.size)) (F0 m 3 ls []) := by
  have hx := hC.1.1
  have hb := hC.1.2.1
  have hown := hC.1.2.2.2.1
  have hts := hC.1.2.2.2.2
  intro n
  induction n with
  | zero =>
    intro x1 x2 σ H locs ls  hH hl h
    rw [fT_append_L3] at h
    cases h
  | succ n ih =>
    intro x1 x2 σ H locs ls  hH hl h
    rw [fT_append_L3] at h
    refine lv_iload_n hx hb dX6_append_3 rfl (lv_at hl 2 rfl) ?_
    refine lv_if_lt (tgt := 48) hx hb dX6_append_4 (by decide) (fun c1 => ?_) (fun c1 => ?_)
    · have h := ite_t c1 h
      exact hk48 σ H locs ls  hH (lv_sub hl [] rfl) h
    · have h := ite_f c1 h
      refine lv_aload_n hx hb dX6_append_7 rfl (lv_at hl 0 rfl) ?_
      refine x_get (C := RX6) (T := TX6) (N := 5) (v := .int (xi σ 5 1)) hC hH (xe_T G σ) rfl wyX6 1 (by decide) wfX6_13 rfl rfl dX6_append_8 ?_
      refine lv_bipush (v := 96) hx hb dX6_append_11 (by decide) ?_
      refine lv_icmp_ge (tgt := 48) hx hb dX6_append_13 (by decide) (fun c2 => ?_) (fun c2 => ?_)
      · have h := ite_t c2 h
        exact hk48 σ H locs ls  hH (lv_sub hl [] rfl) h
      · have h := ite_f c2 h
        refine lv_aload_n hx hb dX6_append_16 rfl (lv_at hl 0 rfl) ?_
        refine x_get (C := RX6) (T := TX6) (N := 5) (v := .ref (xA G (100 + 54))) hC hH (xe_T G σ) rfl wyX6 0 (by decide) wfX6_9 rfl rfl dX6_append_17 ?_
        refine lv_aload_n hx hb dX6_append_20 rfl (lv_at hl 0 rfl) ?_
        refine x_get (C := RX6) (T := TX6) (N := 5) (v := .int (xi σ 5 1)) hC hH (xe_T G σ) rfl wyX6 1 (by decide) wfX6_13 rfl rfl dX6_append_21 ?_
        refine lv_iload_n hx hb dX6_append_24 rfl (lv_at hl 1 rfl) ?_
        refine lv_iload_n hx hb dX6_append_25 rfl (lv_at hl 2 rfl) ?_
        refine t_iushr hx hb dX6_append_26 rfl ?_
        refine lv_sipush (v := 255) hx hb dX6_append_27 (by decide) ?_
        refine lv_iand hx hb dX6_append_30 ?_
        obtain ⟨i5, h⟩ := ck_some h
        obtain ⟨σ3, e4, h⟩ := bnd_some h
        refine x_ast hC hH (d := 54) rfl rfl rfl e4 i5 dX6_append_31 (fun H locs hH => ?_)
        refine lv_aload_n hx hb dX6_append_32 rfl (lv_at hl 0 rfl) ?_
        refine lv_dup hx hb dX6_append_33 rfl ?_
        refine x_get (C := RX6) (T := TX6) (N := 5) (v := .int (xi σ3 5 1)) hC hH (xe_T G σ3) rfl wyX6 1 (by decide) wfX6_13 rfl rfl dX6_append_34 ?_
        refine lv_iconst (v := 1) hx hb dX6_append_37 (by decide) ?_
        refine lv_iadd hx hb dX6_append_38 ?_
        obtain ⟨σ6, e7, h⟩ := bnd_some h
        refine x_put (C := RX6) (T := TX6) (N := 5) (ty := .int) (v := .int ((xi σ3 5 1) + (1 : Int32))) hC hH (xe_T G σ3) rfl wyX6 tyX6_ok nmX6 1 (by decide) wfX6_13 rfl rfl (by decide +kernel) rfl rfl (Nat.le_of_ble_eq_true rfl) e7 (xs_T_1 G σ3 _) dX6_append_39 (fun H locs hH => ?_)
        obtain ⟨v8, e9, h⟩ := bnd_some h
        refine lv_iinc (v := v8) (lv' := [(2, .int v8), (0, .ref (xA G 6)), (1, .int x1)]) hx hb dX6_append_42 hl (k := 2) rfl (by rw [e9]; rfl) (by decide) rfl (fun ls hl => ?_)
        refine lv_goto (tgt := 3) hx hb dX6_append_45 (by decide) ?_
        exact ih x1 v8 σ6 H locs ls  hH (lv_sub hl [1, 2, 0] rfl) h

def fT_append (σ0 : XS) (x1 : Int32) : Option (XS) :=
  fT_append_L3 (fun (σ : XS) => some σ) 10000 x1 (24 : Int32) σ0

set_option maxHeartbeats 4000000 in
set_option maxRecDepth 100000 in
theorem cT_append (l : Launch) (G : XG) (σ0 : XS) (x1 : Int32) {σr : XS} (h : fT_append σ0 x1 = some σr) : ∀ sz, Met l yX6_append (Cond.code yX6_append cX6_append 3 none :: Tw) rmT_append (xP G σ0 sz [.ref (xA G 6), .int x1]) (xQv G σ0 sz σr) 0 0 (va_A (xW G σ0) sz) := by
  intro sz
  refine Met.ofW (cc := cX6_append) (maxL := 3) (ret := (none)) (by decide) rfl ?_
  intro p e s m args below meth c s₁ Bd hml hv
  obtain ⟨hC, hr⟩ := jC_of Bd hml
  obtain ⟨rfl, rfl, hH⟩ := x_enter hv
  have hC : jC p s m _ meth c cX6_append 3 RX6 := hC
  have hx := hC.1.1
  have hb := hC.1.2.1
  have hown := hC.1.2.2.2.1
  have hts := hC.1.2.2.2.2
  have hl := lv_entry ([.ref (xA G 6), .int x1]) (n := 3) (Nat.le_of_ble_eq_true rfl)
  rw [lg_entry_eq]
  generalize (lg_sl ([.ref (xA G 6), .int x1]) ++ List.replicate (3 - (lg_sl ([.ref (xA G 6), .int x1])).length) Slot.unset).toArray = ls at hl ⊢
  have hl : lv_has ls 3 [(0, .ref (xA G 6)), (1, .int x1)] := hl
  unfold fT_append at h
  refine W_nm (fun H locs eH eL => ?_)
  have hH : xH G s (va_A (xW G σ0) s.heap.size) σ0 H locs := by rw [eH, eL]; exact hH
  show W p l e rmT_append s m _ below meth c H locs 0 0 _ (F0 m 0 ls [])
  refine lv_bipush (v := 24) hx hb dX6_append_0 (by decide) ?_
  refine lv_istore_n (lv' := [(2, .int (24 : Int32)), (0, .ref (xA G 6)), (1, .int x1)]) hx hb dX6_append_2 rfl hl (by decide) rfl (fun ls hl => ?_)
  refine wT_append_L3 hC hr  ?_ 10000 x1 (24 : Int32) σ0 H locs ls  hH (lv_sub hl [1, 2, 0] rfl) h
  intro σ H locs ls  hH hl h
  obtain rfl := some_i1 h
  exact x_vret hC hH hr dX6_append_48

def rmX_feed : Room := { frames := 1, cells := 0, slots := 0, locals := 22 }
theorem hdX7_feed : yX7_feed.cls = RX7 ∧ yX7_feed.cls ≠ "java/lang/invoke/MethodHandle" ∧ yX7_feed.cls ≠ "java/lang/invoke/VarHandle" ∧ (parseMethodDescriptor yX7_feed.desc).map (fun d => d.parameters.length) = some 3 := by decide +kernel

def fX_feed (σ0 : XS) (x1 : Int32) (x2 : Int32) (x3 : Int32) : Option (Int32 × XS) :=
  ob (fT_hasRoom σ0) fun r2 =>
  if r2 = 0 then (
    some ((-1000000003 : Int32), σ0))
  else (
    ob (fT_append σ0 x1) fun σ5 =>
    ob (fT_append σ5 x2) fun σ7 =>
    ob (fT_append σ7 x3) fun σ9 =>
    some ((xi σ9 5 1), σ9))

set_option maxHeartbeats 4000000 in
set_option maxRecDepth 100000 in
theorem cX_feed (l : Launch) (G : XG) (σ0 : XS) (x1 : Int32) (x2 : Int32) (x3 : Int32) {r : Int32} {σr : XS} (h : fX_feed σ0 x1 x2 x3 = some (r, σr)) : ∀ sz, Met l yX7_feed (Cond.code yX7_feed cX7_feed 4 (some .int) :: Tw) rmX_feed (xP G σ0 sz [.ref (xA G 0), .int x1, .int x2, .int x3]) (xQi G σ0 sz σr r) 0 0 (va_A (xW G σ0) sz) := by
  intro sz
  refine Met.ofW (cc := cX7_feed) (maxL := 4) (ret := (some .int)) (by decide) rfl ?_
  intro p e s m args below meth c s₁ Bd hml hv
  obtain ⟨hC, hr⟩ := jC_of Bd hml
  obtain ⟨rfl, rfl, hH⟩ := x_enter hv
  have hC : jC p s m _ meth c cX7_feed 4 RX7 := hC
  have hx := hC.1.1
  have hb := hC.1.2.1
  have hown := hC.1.2.2.2.1
  have hts := hC.1.2.2.2.2
  have hl := lv_entry ([.ref (xA G 0), .int x1, .int x2, .int x3]) (n := 4) (Nat.le_of_ble_eq_true rfl)
  rw [lg_entry_eq]
  generalize (lg_sl ([.ref (xA G 0), .int x1, .int x2, .int x3]) ++ List.replicate (4 - (lg_sl ([.ref (xA G 0), .int x1, .int x2, .int x3])).length) Slot.unset).toArray = ls at hl ⊢
  have hl : lv_has ls 4 [(0, .ref (xA G 0)), (1, .int x1), (2, .int x2), (3, .int x3)] := hl
  unfold fX_feed at h
  refine W_nm (fun H locs eH eL => ?_)
  have hH : xH G s (va_A (xW G σ0) s.heap.size) σ0 H locs := by rw [eH, eL]; exact hH
  show W p l e rmX_feed s m _ below meth c H locs 0 0 _ (F0 m 0 ls [])
  refine lv_aload_n hx hb dX7_feed_0 rfl (lv_at hl 0 rfl) ?_
  refine x_get (C := RX7) (T := TX7) (N := 14) (v := .ref (xA G 6)) hC hH (xe_X G σ0) rfl wyX7 8 (by decide) wfX7_45 rfl rfl dX7_feed_1 ?_
  obtain ⟨r2, h1, h⟩ := ob_some h
  refine x_calli (vw := (RX6, TX6, 5)) (As := []) (rest := []) (cT_hasRoom l G σ0  h1) hC hH hl (xe_T G σ0) rfl (cwV 0 hts (gV wmX7_225 wvX6_hasRoom) rfl rfl rfl hdX6_hasRoom ⟨Nat.le_of_ble_eq_true rfl, Nat.le_of_ble_eq_true rfl⟩) rfl rfl (Nat.le_of_ble_eq_true rfl) ⟨Nat.zero_le _, Nat.zero_le _⟩ dX7_feed_4 (fun H locs hH => ?_)
  refine lv_if_ne (tgt := 13) hx hb dX7_feed_7 (by decide) (fun c3 => ?_) (fun c3 => ?_)
  · have h := ite_f c3 h
    refine lv_aload_n hx hb dX7_feed_13 rfl (lv_at hl 0 rfl) ?_
    refine x_get (C := RX7) (T := TX7) (N := 14) (v := .ref (xA G 6)) hC hH (xe_X G σ0) rfl wyX7 8 (by decide) wfX7_45 rfl rfl dX7_feed_14 ?_
    refine lv_iload_n hx hb dX7_feed_17 rfl (lv_at hl 1 rfl) ?_
    obtain ⟨σ5, h4, h⟩ := ob_some h
    refine x_callv (vw := (RX6, TX6, 5)) (As := [.int x1]) (rest := []) (cT_append l G σ0 x1  h4) hC hH hl (xe_T G σ0) rfl (cwV 1 hts (gV wmX7_228 wvX6_append) rfl rfl rfl hdX6_append ⟨Nat.le_of_ble_eq_true rfl, Nat.le_of_ble_eq_true rfl⟩) rfl rfl (Nat.le_of_ble_eq_true rfl) ⟨Nat.zero_le _, Nat.zero_le _⟩ dX7_feed_18 (fun H locs hH => ?_)
    refine lv_aload_n hx hb dX7_feed_21 rfl (lv_at hl 0 rfl) ?_
    refine x_get (C := RX7) (T := TX7) (N := 14) (v := .ref (xA G 6)) hC hH (xe_X G σ5) rfl wyX7 8 (by decide) wfX7_45 rfl rfl dX7_feed_22 ?_
    refine lv_iload_n hx hb dX7_feed_25 rfl (lv_at hl 2 rfl) ?_
    obtain ⟨σ7, h6, h⟩ := ob_some h
    refine x_callv (vw := (RX6, TX6, 5)) (As := [.int x2]) (rest := []) (cT_append l G σ5 x2  h6) hC hH hl (xe_T G σ5) rfl (cwV 1 hts (gV wmX7_228 wvX6_append) rfl rfl rfl hdX6_append ⟨Nat.le_of_ble_eq_true rfl, Nat.le_of_ble_eq_true rfl⟩) rfl rfl (Nat.le_of_ble_eq_true rfl) ⟨Nat.zero_le _, Nat.zero_le _⟩ dX7_feed_26 (fun H locs hH => ?_)
    refine lv_aload_n hx hb dX7_feed_29 rfl (lv_at hl 0 rfl) ?_
    refine x_get (C := RX7) (T := TX7) (N := 14) (v := .ref (xA G 6)) hC hH (xe_X G σ7) rfl wyX7 8 (by decide) wfX7_45 rfl rfl dX7_feed_30 ?_
    refine lv_iload_n hx hb dX7_feed_33 rfl (lv_at hl 3 rfl) ?_
    obtain ⟨σ9, h8, h⟩ := ob_some h
    refine x_callv (vw := (RX6, TX6, 5)) (As := [.int x3]) (rest := []) (cT_append l G σ7 x3  h8) hC hH hl (xe_T G σ7) rfl (cwV 1 hts (gV wmX7_228 wvX6_append) rfl rfl rfl hdX6_append ⟨Nat.le_of_ble_eq_true rfl, Nat.le_of_ble_eq_true rfl⟩) rfl rfl (Nat.le_of_ble_eq_true rfl) ⟨Nat.zero_le _, Nat.zero_le _⟩ dX7_feed_34 (fun H locs hH => ?_)
    refine lv_aload_n hx hb dX7_feed_37 rfl (lv_at hl 0 rfl) ?_
    refine x_get (C := RX7) (T := TX7) (N := 14) (v := .ref (xA G 6)) hC hH (xe_X G σ9) rfl wyX7 8 (by decide) wfX7_45 rfl rfl dX7_feed_38 ?_
    refine x_getN (C := RX6) (T := TX6) (N := 5) (v := .int (xi σ9 5 1)) (host := "RoadSorted") hC hH (xe_T G σ9) rfl wyX6 1 (by decide) (by decide +kernel) rfl rfl dX7_feed_41 ?_
    obtain ⟨rfl, rfl⟩ := some_i2 h
    exact x_iret hC hH hr rfl dX7_feed_44
  · have h := ite_t c3 h
    refine lv_ldc (v := -1000000003) hx hb hown (hts _ wkX7_93) dX7_feed_10 ?_
    obtain ⟨rfl, rfl⟩ := some_i2 h
    exact x_iret (v := -1000000003) hC hH hr rfl dX7_feed_12

def rmX_trim : Room := { frames := 1, cells := 0, slots := 0, locals := 22 }
theorem hdX7_trim : yX7_trim.cls = RX7 ∧ yX7_trim.cls ≠ "java/lang/invoke/MethodHandle" ∧ yX7_trim.cls ≠ "java/lang/invoke/VarHandle" ∧ (parseMethodDescriptor yX7_trim.desc).map (fun d => d.parameters.length) = some 1 := by decide +kernel

def fX_trim (σ0 : XS) (x1 : Int32) : Option (Int32 × XS) :=
  ob (fX_isWithin σ0 x1 (0 : Int32) (xi σ0 5 1)) fun r2 =>
  if r2 = 0 then (
    some ((-1000000001 : Int32), σ0))
  else (
    bnd (xu σ0 5 1 x1) fun σ4 =>
    some (x1, σ4))

set_option maxHeartbeats 4000000 in
set_option maxRecDepth 100000 in
theorem cX_trim (l : Launch) (G : XG) (σ0 : XS) (x1 : Int32) {r : Int32} {σr : XS} (h : fX_trim σ0 x1 = some (r, σr)) : ∀ sz, Met l yX7_trim (Cond.code yX7_trim cX7_trim 2 (some .int) :: Tw) rmX_trim (xP G σ0 sz [.ref (xA G 0), .int x1]) (xQi G σ0 sz σr r) 0 0 (va_A (xW G σ0) sz) := by
  intro sz
  refine Met.ofW (cc := cX7_trim) (maxL := 2) (ret := (some .int)) (by decide) rfl ?_
  intro p e s m args below meth c s₁ Bd hml hv
  obtain ⟨hC, hr⟩ := jC_of Bd hml
  obtain ⟨rfl, rfl, hH⟩ := x_enter hv
  have hC : jC p s m _ meth c cX7_trim 2 RX7 := hC
  have hx := hC.1.1
  have hb := hC.1.2.1
  have hown := hC.1.2.2.2.1
  have hts := hC.1.2.2.2.2
  have hl := lv_entry ([.ref (xA G 0), .int x1]) (n := 2) (Nat.le_of_ble_eq_true rfl)
  rw [lg_entry_eq]
  generalize (lg_sl ([.ref (xA G 0), .int x1]) ++ List.replicate (2 - (lg_sl ([.ref (xA G 0), .int x1])).length) Slot.unset).toArray = ls at hl ⊢
  have hl : lv_has ls 2 [(0, .ref (xA G 0)), (1, .int x1)] := hl
  unfold fX_trim at h
  refine W_nm (fun H locs eH eL => ?_)
  have hH : xH G s (va_A (xW G σ0) s.heap.size) σ0 H locs := by rw [eH, eL]; exact hH
  show W p l e rmX_trim s m _ below meth c H locs 0 0 _ (F0 m 0 ls [])
  refine lv_iload_n hx hb dX7_trim_0 rfl (lv_at hl 1 rfl) ?_
  refine lv_iconst (v := 0) hx hb dX7_trim_1 (by decide) ?_
  refine lv_aload_n hx hb dX7_trim_2 rfl (lv_at hl 0 rfl) ?_
  refine x_get (C := RX7) (T := TX7) (N := 14) (v := .ref (xA G 6)) hC hH (xe_X G σ0) rfl wyX7 8 (by decide) wfX7_45 rfl rfl dX7_trim_3 ?_
  refine x_getN (C := RX6) (T := TX6) (N := 5) (v := .int (xi σ0 5 1)) (host := "RoadSorted") hC hH (xe_T G σ0) rfl wyX6 1 (by decide) (by decide +kernel) rfl rfl dX7_trim_6 ?_
  obtain ⟨r2, h1, h⟩ := ob_some h
  refine x_calls (As := [.int x1, .int (0 : Int32), .int (xi σ0 5 1)]) (rest := []) (cX_isWithin l G σ0 x1 (0 : Int32) (xi σ0 5 1)  h1) hC hH hl (va_cwS 3 hts (gS wmX7_148 wsX7_isWithin) rfl rfl rfl hdX7_isWithin ⟨Nat.le_of_ble_eq_true rfl, Nat.le_of_ble_eq_true rfl⟩) rfl rfl (Nat.le_of_ble_eq_true rfl) ⟨Nat.zero_le _, Nat.zero_le _⟩ dX7_trim_9 (fun H locs hH => ?_)
  refine lv_if_ne (tgt := 18) hx hb dX7_trim_12 (by decide) (fun c3 => ?_) (fun c3 => ?_)
  · have h := ite_f c3 h
    refine lv_aload_n hx hb dX7_trim_18 rfl (lv_at hl 0 rfl) ?_
    refine x_get (C := RX7) (T := TX7) (N := 14) (v := .ref (xA G 6)) hC hH (xe_X G σ0) rfl wyX7 8 (by decide) wfX7_45 rfl rfl dX7_trim_19 ?_
    refine lv_iload_n hx hb dX7_trim_22 rfl (lv_at hl 1 rfl) ?_
    obtain ⟨σ4, e5, h⟩ := bnd_some h
    refine x_putN (C := RX6) (T := TX6) (N := 5) (ty := .int) (v := .int x1) (host := "RoadSorted") hC hH (xe_T G σ0) rfl wyX6 tyX6_ok nmX6 1 (by decide) (by decide +kernel) rfl rfl (by decide +kernel) rfl rfl (Nat.le_of_ble_eq_true rfl) e5 (xs_T_1 G σ0 _) dX7_trim_23 (fun H locs hH => ?_)
    refine lv_iload_n hx hb dX7_trim_26 rfl (lv_at hl 1 rfl) ?_
    obtain ⟨rfl, rfl⟩ := some_i2 h
    exact x_iret hC hH hr rfl dX7_trim_27
  · have h := ite_t c3 h
    refine lv_ldc (v := -1000000001) hx hb hown (hts _ wkX7_89) dX7_trim_15 ?_
    obtain ⟨rfl, rfl⟩ := some_i2 h
    exact x_iret (v := -1000000001) hC hH hr rfl dX7_trim_17

def rmX_textTold : Room := { frames := 1, cells := 0, slots := 0, locals := 22 }
theorem hdX7_textTold : yX7_textTold.cls = RX7 ∧ yX7_textTold.cls ≠ "java/lang/invoke/MethodHandle" ∧ yX7_textTold.cls ≠ "java/lang/invoke/VarHandle" ∧ (parseMethodDescriptor yX7_textTold.desc).map (fun d => d.parameters.length) = some 2 := by decide +kernel

def fX_textTold (σ0 : XS) (x1 : Int32) (x2 : Int32) : Option (Int32) :=
  ob (fX_isWithin σ0 x1 (0 : Int32) ((xi σ0 0 6) - (1 : Int32))) fun r2 =>
  if r2 = 0 then (
    some (-1000000001 : Int32))
  else (
    ob (fX_isWithin σ0 x2 (0 : Int32) (1 : Int32)) fun r5 =>
    if r5 = 0 then (
      some (-1000000001 : Int32))
    else (
      ck x1 14 <|
      oc (xl σ0 (x1).toNatClampNeg) (
        some (-1000000001 : Int32)) fun a9 => (
        if x2 = 0 then (
          lk σ0 a9 <|
          some (xw σ0 a9 0))
        else (
          lk σ0 a9 <|
          some (xw σ0 a9 1)))))

set_option maxHeartbeats 4000000 in
set_option maxRecDepth 100000 in
theorem cX_textTold (l : Launch) (G : XG) (σ0 : XS) (x1 : Int32) (x2 : Int32) {r : Int32} (h : fX_textTold σ0 x1 x2 = some r) : ∀ sz, Met l yX7_textTold (Cond.code yX7_textTold cX7_textTold 4 (some .int) :: Tw) rmX_textTold (xP G σ0 sz [.ref (xA G 0), .int x1, .int x2]) (xQi G σ0 sz σ0 r) 0 0 (va_A (xW G σ0) sz) := by
  intro sz
  refine Met.ofW (cc := cX7_textTold) (maxL := 4) (ret := (some .int)) (by decide) rfl ?_
  intro p e s m args below meth c s₁ Bd hml hv
  obtain ⟨hC, hr⟩ := jC_of Bd hml
  obtain ⟨rfl, rfl, hH⟩ := x_enter hv
  have hC : jC p s m _ meth c cX7_textTold 4 RX7 := hC
  have hx := hC.1.1
  have hb := hC.1.2.1
  have hown := hC.1.2.2.2.1
  have hts := hC.1.2.2.2.2
  have hl := lv_entry ([.ref (xA G 0), .int x1, .int x2]) (n := 4) (Nat.le_of_ble_eq_true rfl)
  rw [lg_entry_eq]
  generalize (lg_sl ([.ref (xA G 0), .int x1, .int x2]) ++ List.replicate (4 - (lg_sl ([.ref (xA G 0), .int x1, .int x2])).length) Slot.unset).toArray = ls at hl ⊢
  have hl : lv_has ls 4 [(0, .ref (xA G 0)), (1, .int x1), (2, .int x2)] := hl
  unfold fX_textTold at h
  refine W_nm (fun H locs eH eL => ?_)
  have hH : xH G s (va_A (xW G σ0) s.heap.size) σ0 H locs := by rw [eH, eL]; exact hH
  show W p l e rmX_textTold s m _ below meth c H locs 0 0 _ (F0 m 0 ls [])
  refine lv_iload_n hx hb dX7_textTold_0 rfl (lv_at hl 1 rfl) ?_
  refine lv_iconst (v := 0) hx hb dX7_textTold_1 (by decide) ?_
  refine lv_aload_n hx hb dX7_textTold_2 rfl (lv_at hl 0 rfl) ?_
  refine x_get (C := RX7) (T := TX7) (N := 14) (v := .int (xi σ0 0 6)) hC hH (xe_X G σ0) rfl wyX7 6 (by decide) wfX7_35 rfl rfl dX7_textTold_3 ?_
  refine lv_iconst (v := 1) hx hb dX7_textTold_6 (by decide) ?_
  refine lv_isub hx hb dX7_textTold_7 ?_
  obtain ⟨r2, h1, h⟩ := ob_some h
  refine x_calls (As := [.int x1, .int (0 : Int32), .int ((xi σ0 0 6) - (1 : Int32))]) (rest := []) (cX_isWithin l G σ0 x1 (0 : Int32) ((xi σ0 0 6) - (1 : Int32))  h1) hC hH hl (va_cwS 3 hts (gS wmX7_148 wsX7_isWithin) rfl rfl rfl hdX7_isWithin ⟨Nat.le_of_ble_eq_true rfl, Nat.le_of_ble_eq_true rfl⟩) rfl rfl (Nat.le_of_ble_eq_true rfl) ⟨Nat.zero_le _, Nat.zero_le _⟩ dX7_textTold_8 (fun H locs hH => ?_)
  refine lv_if_eq (tgt := 23) hx hb dX7_textTold_11 (by decide) (fun c3 => ?_) (fun c3 => ?_)
  · have h := ite_t c3 h
    refine lv_ldc (v := -1000000001) hx hb hown (hts _ wkX7_89) dX7_textTold_23 ?_
    obtain rfl := some_i1 h
    exact x_iret (v := -1000000001) hC hH hr rfl dX7_textTold_25
  · have h := ite_f c3 h
    refine lv_iload_n hx hb dX7_textTold_14 rfl (lv_at hl 2 rfl) ?_
    refine lv_iconst (v := 0) hx hb dX7_textTold_15 (by decide) ?_
    refine lv_iconst (v := 1) hx hb dX7_textTold_16 (by decide) ?_
    obtain ⟨r5, h4, h⟩ := ob_some h
    refine x_calls (As := [.int x2, .int (0 : Int32), .int (1 : Int32)]) (rest := []) (cX_isWithin l G σ0 x2 (0 : Int32) (1 : Int32)  h4) hC hH hl (va_cwS 3 hts (gS wmX7_148 wsX7_isWithin) rfl rfl rfl hdX7_isWithin ⟨Nat.le_of_ble_eq_true rfl, Nat.le_of_ble_eq_true rfl⟩) rfl rfl (Nat.le_of_ble_eq_true rfl) ⟨Nat.zero_le _, Nat.zero_le _⟩ dX7_textTold_17 (fun H locs hH => ?_)
    refine lv_if_ne (tgt := 26) hx hb dX7_textTold_20 (by decide) (fun c6 => ?_) (fun c6 => ?_)
    · have h := ite_f c6 h
      refine lv_aload_n hx hb dX7_textTold_26 rfl (lv_at hl 0 rfl) ?_
      refine x_get (C := RX7) (T := TX7) (N := 14) (v := .ref (xA G 5)) hC hH (xe_X G σ0) rfl wyX7 5 (by decide) wfX7_31 rfl rfl dX7_textTold_27 ?_
      refine lv_iload_n hx hb dX7_textTold_30 rfl (lv_at hl 1 rfl) ?_
      obtain ⟨i7, h⟩ := ck_some h
      refine x_laws hC hH i7 dX7_textTold_31 ?_
      refine x_opt (fun c8 => ?_) (fun a9 c8 => ?_)
      · have h := oc_n c8 h
        refine lv_astore_nN (lv' := [(3, .null), (0, .ref (xA G 0)), (1, .int x1), (2, .int x2)]) hx hb dX7_textTold_32 rfl hl (by decide) rfl (fun ls hl => ?_)
        refine lv_aload_nN hx hb dX7_textTold_33 rfl (lv_at hl 0 rfl) ?_
        refine lv_ifnonnullN hx hb dX7_textTold_34 ?_
        refine lv_ldc (v := -1000000001) hx hb hown (hts _ wkX7_89) dX7_textTold_37 ?_
        obtain rfl := some_i1 h
        exact x_iret (v := -1000000001) hC hH hr rfl dX7_textTold_39
      · have h := oc_s c8 h
        refine lv_astore_n (lv' := [(3, .ref a9), (0, .ref (xA G 0)), (1, .int x1), (2, .int x2)]) hx hb dX7_textTold_32 rfl hl (by decide) rfl (fun ls hl => ?_)
        refine lv_aload_n hx hb dX7_textTold_33 rfl (lv_at hl 0 rfl) ?_
        refine lv_ifnonnull (tgt := 40) hx hb dX7_textTold_34 (by decide) ?_
        refine lv_iload_n hx hb dX7_textTold_40 rfl (lv_at hl 3 rfl) ?_
        refine lv_if_ne (tgt := 51) hx hb dX7_textTold_41 (by decide) (fun c10 => ?_) (fun c10 => ?_)
        · have h := ite_f c10 h
          refine lv_aload_n hx hb dX7_textTold_51 rfl (lv_at hl 0 rfl) ?_
          obtain ⟨q11, h⟩ := lk_some h
          refine x_pgetN (host := "RoadSorted") hC hH q11 1 (by decide) (by decide +kernel) rfl rfl dX7_textTold_52 ?_
          obtain rfl := some_i1 h
          exact x_iret hC hH hr rfl dX7_textTold_55
        · have h := ite_t c10 h
          refine lv_aload_n hx hb dX7_textTold_44 rfl (lv_at hl 0 rfl) ?_
          obtain ⟨q12, h⟩ := lk_some h
          refine x_pgetN (host := "RoadSorted") hC hH q12 0 (by decide) (by decide +kernel) rfl rfl dX7_textTold_45 ?_
          refine lv_goto (tgt := 55) hx hb dX7_textTold_48 (by decide) ?_
          obtain rfl := some_i1 h
          exact x_iret hC hH hr rfl dX7_textTold_55
    · have h := ite_t c6 h
      refine lv_ldc (v := -1000000001) hx hb hown (hts _ wkX7_89) dX7_textTold_23 ?_
      obtain rfl := some_i1 h
      exact x_iret (v := -1000000001) hC hH hr rfl dX7_textTold_25

def rmX_why : Room := { frames := 1, cells := 0, slots := 0, locals := 22 }
theorem hdX7_why : yX7_why.cls = RX7 ∧ yX7_why.cls ≠ "java/lang/invoke/MethodHandle" ∧ yX7_why.cls ≠ "java/lang/invoke/VarHandle" ∧ (parseMethodDescriptor yX7_why.desc).map (fun d => d.parameters.length) = some 1 := by decide +kernel

def fX_why (σ0 : XS) (x1 : Int32) : Option (Int32) :=
  ob (fX_isWithin σ0 x1 (0 : Int32) (2 : Int32)) fun r2 =>
  if r2 = 0 then (
    some (-1000000001 : Int32))
  else (
    ob (fX_lastTextOf σ0 x1) fun r5 =>
    some r5)

set_option maxHeartbeats 4000000 in
set_option maxRecDepth 100000 in
theorem cX_why (l : Launch) (G : XG) (σ0 : XS) (x1 : Int32) {r : Int32} (h : fX_why σ0 x1 = some r) : ∀ sz, Met l yX7_why (Cond.code yX7_why cX7_why 2 (some .int) :: Tw) rmX_why (xP G σ0 sz [.ref (xA G 0), .int x1]) (xQi G σ0 sz σ0 r) 0 0 (va_A (xW G σ0) sz) := by
  intro sz
  refine Met.ofW (cc := cX7_why) (maxL := 2) (ret := (some .int)) (by decide) rfl ?_
  intro p e s m args below meth c s₁ Bd hml hv
  obtain ⟨hC, hr⟩ := jC_of Bd hml
  obtain ⟨rfl, rfl, hH⟩ := x_enter hv
  have hC : jC p s m _ meth c cX7_why 2 RX7 := hC
  have hx := hC.1.1
  have hb := hC.1.2.1
  have hown := hC.1.2.2.2.1
  have hts := hC.1.2.2.2.2
  have hl := lv_entry ([.ref (xA G 0), .int x1]) (n := 2) (Nat.le_of_ble_eq_true rfl)
  rw [lg_entry_eq]
  generalize (lg_sl ([.ref (xA G 0), .int x1]) ++ List.replicate (2 - (lg_sl ([.ref (xA G 0), .int x1])).length) Slot.unset).toArray = ls at hl ⊢
  have hl : lv_has ls 2 [(0, .ref (xA G 0)), (1, .int x1)] := hl
  unfold fX_why at h
  refine W_nm (fun H locs eH eL => ?_)
  have hH : xH G s (va_A (xW G σ0) s.heap.size) σ0 H locs := by rw [eH, eL]; exact hH
  show W p l e rmX_why s m _ below meth c H locs 0 0 _ (F0 m 0 ls [])
  refine lv_iload_n hx hb dX7_why_0 rfl (lv_at hl 1 rfl) ?_
  refine lv_iconst (v := 0) hx hb dX7_why_1 (by decide) ?_
  refine lv_iconst (v := 2) hx hb dX7_why_2 (by decide) ?_
  obtain ⟨r2, h1, h⟩ := ob_some h
  refine x_calls (As := [.int x1, .int (0 : Int32), .int (2 : Int32)]) (rest := []) (cX_isWithin l G σ0 x1 (0 : Int32) (2 : Int32)  h1) hC hH hl (va_cwS 3 hts (gS wmX7_148 wsX7_isWithin) rfl rfl rfl hdX7_isWithin ⟨Nat.le_of_ble_eq_true rfl, Nat.le_of_ble_eq_true rfl⟩) rfl rfl (Nat.le_of_ble_eq_true rfl) ⟨Nat.zero_le _, Nat.zero_le _⟩ dX7_why_3 (fun H locs hH => ?_)
  refine lv_if_eq (tgt := 17) hx hb dX7_why_6 (by decide) (fun c3 => ?_) (fun c3 => ?_)
  · have h := ite_t c3 h
    refine lv_ldc (v := -1000000001) hx hb hown (hts _ wkX7_89) dX7_why_17 ?_
    obtain rfl := some_i1 h
    exact x_iret (v := -1000000001) hC hH hr rfl dX7_why_19
  · have h := ite_f c3 h
    refine lv_aload_n hx hb dX7_why_9 rfl (lv_at hl 0 rfl) ?_
    refine lv_iload_n hx hb dX7_why_10 rfl (lv_at hl 1 rfl) ?_
    obtain ⟨r5, h4, h⟩ := ob_some h
    refine x_calli (vw := (RX7, TX7, 14)) (As := [.int x1]) (rest := []) (cX_lastTextOf l G σ0 x1  h4) hC hH hl (xe_X G σ0) rfl (cwV 1 hts (gV wmX7_254 wvX7_lastTextOf) rfl rfl rfl hdX7_lastTextOf ⟨Nat.le_of_ble_eq_true rfl, Nat.le_of_ble_eq_true rfl⟩) rfl rfl (Nat.le_of_ble_eq_true rfl) ⟨Nat.zero_le _, Nat.zero_le _⟩ dX7_why_11 (fun H locs hH => ?_)
    refine lv_goto (tgt := 19) hx hb dX7_why_14 (by decide) ?_
    obtain rfl := some_i1 h
    exact x_iret hC hH hr rfl dX7_why_19

def rmX_sheet : Room := { frames := 2, cells := 0, slots := 0, locals := 45 }
theorem hdX7_sheet : yX7_sheet.cls = RX7 ∧ yX7_sheet.cls ≠ "java/lang/invoke/MethodHandle" ∧ yX7_sheet.cls ≠ "java/lang/invoke/VarHandle" ∧ (parseMethodDescriptor yX7_sheet.desc).map (fun d => d.parameters.length) = some 3 := by decide +kernel

def fX_sheet (σ0 : XS) (x1 : Int32) (x2 : Int32) (x3 : Int32) : Option (Int32 × XS) :=
  ob (fX_isSheet σ0 x1) fun r2 =>
  if r2 = 0 then (
    some ((-1000000001 : Int32), σ0))
  else (
    ob (fX_isWithin σ0 x2 (-1 : Int32) (1 : Int32)) fun r5 =>
    if r5 = 0 then (
      some ((-1000000001 : Int32), σ0))
    else (
      if x2 = (-1 : Int32) then (
        ck x1 4 <|
        ob (fS_become σ0 (x1).toNatClampNeg (-1 : Int32) (0 : Int32)) fun σ15 =>
        some ((0 : Int32), σ15))
      else (
        if x3 ≤ (24 : Int32) then (
          if 0 ≤ x3 then (
            ck x1 4 <|
            ob (fS_become σ0 (x1).toNatClampNeg x2 x3) fun σ12 =>
            some (x3, σ12))
          else (
            some ((-1000000014 : Int32), σ0)))
        else (
          some ((-1000000001 : Int32), σ0)))))

set_option maxHeartbeats 4000000 in
set_option maxRecDepth 100000 in
theorem cX_sheet (l : Launch) (G : XG) (σ0 : XS) (x1 : Int32) (x2 : Int32) (x3 : Int32) {r : Int32} {σr : XS} (h : fX_sheet σ0 x1 x2 x3 = some (r, σr)) : ∀ sz, Met l yX7_sheet (Cond.code yX7_sheet cX7_sheet 4 (some .int) :: Tw) rmX_sheet (xP G σ0 sz [.ref (xA G 0), .int x1, .int x2, .int x3]) (xQi G σ0 sz σr r) 0 0 (va_A (xW G σ0) sz) := by
  intro sz
  refine Met.ofW (cc := cX7_sheet) (maxL := 4) (ret := (some .int)) (by decide) rfl ?_
  intro p e s m args below meth c s₁ Bd hml hv
  obtain ⟨hC, hr⟩ := jC_of Bd hml
  obtain ⟨rfl, rfl, hH⟩ := x_enter hv
  have hC : jC p s m _ meth c cX7_sheet 4 RX7 := hC
  have hx := hC.1.1
  have hb := hC.1.2.1
  have hown := hC.1.2.2.2.1
  have hts := hC.1.2.2.2.2
  have hl := lv_entry ([.ref (xA G 0), .int x1, .int x2, .int x3]) (n := 4) (Nat.le_of_ble_eq_true rfl)
  rw [lg_entry_eq]
  generalize (lg_sl ([.ref (xA G 0), .int x1, .int x2, .int x3]) ++ List.replicate (4 - (lg_sl ([.ref (xA G 0), .int x1, .int x2, .int x3])).length) Slot.unset).toArray = ls at hl ⊢
  have hl : lv_has ls 4 [(0, .ref (xA G 0)), (1, .int x1), (2, .int x2), (3, .int x3)] := hl
  unfold fX_sheet at h
  refine W_nm (fun H locs eH eL => ?_)
  have hH : xH G s (va_A (xW G σ0) s.heap.size) σ0 H locs := by rw [eH, eL]; exact hH
  show W p l e rmX_sheet s m _ below meth c H locs 0 0 _ (F0 m 0 ls [])
  refine lv_iload_n hx hb dX7_sheet_0 rfl (lv_at hl 1 rfl) ?_
  obtain ⟨r2, h1, h⟩ := ob_some h
  refine x_calls (As := [.int x1]) (rest := []) (cX_isSheet l G σ0 x1  h1) hC hH hl (va_cwS 1 hts (gS wmX7_206 wsX7_isSheet) rfl rfl rfl hdX7_isSheet ⟨Nat.le_of_ble_eq_true rfl, Nat.le_of_ble_eq_true rfl⟩) rfl rfl (Nat.le_of_ble_eq_true rfl) ⟨Nat.zero_le _, Nat.zero_le _⟩ dX7_sheet_1 (fun H locs hH => ?_)
  refine lv_if_eq (tgt := 16) hx hb dX7_sheet_4 (by decide) (fun c3 => ?_) (fun c3 => ?_)
  · have h := ite_t c3 h
    refine lv_ldc (v := -1000000001) hx hb hown (hts _ wkX7_89) dX7_sheet_16 ?_
    obtain ⟨rfl, rfl⟩ := some_i2 h
    exact x_iret (v := -1000000001) hC hH hr rfl dX7_sheet_18
  · have h := ite_f c3 h
    refine lv_iload_n hx hb dX7_sheet_7 rfl (lv_at hl 2 rfl) ?_
    refine lv_iconst (v := -1) hx hb dX7_sheet_8 (by decide) ?_
    refine lv_iconst (v := 1) hx hb dX7_sheet_9 (by decide) ?_
    obtain ⟨r5, h4, h⟩ := ob_some h
    refine x_calls (As := [.int x2, .int (-1 : Int32), .int (1 : Int32)]) (rest := []) (cX_isWithin l G σ0 x2 (-1 : Int32) (1 : Int32)  h4) hC hH hl (va_cwS 3 hts (gS wmX7_148 wsX7_isWithin) rfl rfl rfl hdX7_isWithin ⟨Nat.le_of_ble_eq_true rfl, Nat.le_of_ble_eq_true rfl⟩) rfl rfl (Nat.le_of_ble_eq_true rfl) ⟨Nat.zero_le _, Nat.zero_le _⟩ dX7_sheet_10 (fun H locs hH => ?_)
    refine lv_if_ne (tgt := 19) hx hb dX7_sheet_13 (by decide) (fun c6 => ?_) (fun c6 => ?_)
    · have h := ite_f c6 h
      refine lv_iload_n hx hb dX7_sheet_19 rfl (lv_at hl 2 rfl) ?_
      refine lv_iconst (v := -1) hx hb dX7_sheet_20 (by decide) ?_
      refine lv_icmp_ne (tgt := 37) hx hb dX7_sheet_21 (by decide) (fun c7 => ?_) (fun c7 => ?_)
      · have h := ite_f c7 h
        refine lv_iload_n hx hb dX7_sheet_37 rfl (lv_at hl 3 rfl) ?_
        refine lv_bipush (v := 24) hx hb dX7_sheet_38 (by decide) ?_
        refine lv_icmp_le (tgt := 46) hx hb dX7_sheet_40 (by decide) (fun c8 => ?_) (fun c8 => ?_)
        · have h := ite_t c8 h
          refine lv_iload_n hx hb dX7_sheet_46 rfl (lv_at hl 3 rfl) ?_
          refine lv_if_ge (tgt := 54) hx hb dX7_sheet_47 (by decide) (fun c9 => ?_) (fun c9 => ?_)
          · have h := ite_t c9 h
            refine lv_aload_n hx hb dX7_sheet_54 rfl (lv_at hl 0 rfl) ?_
            refine x_get (C := RX7) (T := TX7) (N := 14) (v := .ref (xA G 8)) hC hH (xe_X G σ0) rfl wyX7 10 (by decide) wfX7_60 rfl rfl dX7_sheet_55 ?_
            refine lv_iload_n hx hb dX7_sheet_58 rfl (lv_at hl 1 rfl) ?_
            obtain ⟨i10, h⟩ := ck_some h
            refine x_sheets hC hH i10 dX7_sheet_59 ?_
            refine lv_iload_n hx hb dX7_sheet_60 rfl (lv_at hl 2 rfl) ?_
            refine lv_iload_n hx hb dX7_sheet_61 rfl (lv_at hl 3 rfl) ?_
            obtain ⟨σ12, h11, h⟩ := ob_some h
            refine x_callv (vw := (RX4, TX4, 3)) (As := [.int x2, .int x3]) (rest := []) (cS_become l G σ0 (x1).toNatClampNeg x2 x3 (in_lt i10 (by decide)) h11) hC hH hl (xe_S G σ0 (in_lt i10 (by decide))) rfl (cwV 2 hts (gV wmX7_257 wvX4_become) rfl rfl rfl hdX4_become ⟨Nat.le_of_ble_eq_true rfl, Nat.le_of_ble_eq_true rfl⟩) rfl rfl (Nat.le_of_ble_eq_true rfl) ⟨Nat.zero_le _, Nat.zero_le _⟩ dX7_sheet_62 (fun H locs hH => ?_)
            refine lv_iload_n hx hb dX7_sheet_65 rfl (lv_at hl 3 rfl) ?_
            obtain ⟨rfl, rfl⟩ := some_i2 h
            exact x_iret hC hH hr rfl dX7_sheet_66
          · have h := ite_f c9 h
            refine lv_ldcw (v := -1000000014) hx hb hown (hts _ wkX7_259) dX7_sheet_50 ?_
            obtain ⟨rfl, rfl⟩ := some_i2 h
            exact x_iret (v := -1000000014) hC hH hr rfl dX7_sheet_53
        · have h := ite_f c8 h
          refine lv_ldc (v := -1000000001) hx hb hown (hts _ wkX7_89) dX7_sheet_43 ?_
          obtain ⟨rfl, rfl⟩ := some_i2 h
          exact x_iret (v := -1000000001) hC hH hr rfl dX7_sheet_45
      · have h := ite_t c7 h
        refine lv_aload_n hx hb dX7_sheet_24 rfl (lv_at hl 0 rfl) ?_
        refine x_get (C := RX7) (T := TX7) (N := 14) (v := .ref (xA G 8)) hC hH (xe_X G σ0) rfl wyX7 10 (by decide) wfX7_60 rfl rfl dX7_sheet_25 ?_
        refine lv_iload_n hx hb dX7_sheet_28 rfl (lv_at hl 1 rfl) ?_
        obtain ⟨i13, h⟩ := ck_some h
        refine x_sheets hC hH i13 dX7_sheet_29 ?_
        refine lv_iconst (v := -1) hx hb dX7_sheet_30 (by decide) ?_
        refine lv_iconst (v := 0) hx hb dX7_sheet_31 (by decide) ?_
        obtain ⟨σ15, h14, h⟩ := ob_some h
        refine x_callv (vw := (RX4, TX4, 3)) (As := [.int (-1 : Int32), .int (0 : Int32)]) (rest := []) (cS_become l G σ0 (x1).toNatClampNeg (-1 : Int32) (0 : Int32) (in_lt i13 (by decide)) h14) hC hH hl (xe_S G σ0 (in_lt i13 (by decide))) rfl (cwV 2 hts (gV wmX7_257 wvX4_become) rfl rfl rfl hdX4_become ⟨Nat.le_of_ble_eq_true rfl, Nat.le_of_ble_eq_true rfl⟩) rfl rfl (Nat.le_of_ble_eq_true rfl) ⟨Nat.zero_le _, Nat.zero_le _⟩ dX7_sheet_32 (fun H locs hH => ?_)
        refine lv_iconst (v := 0) hx hb dX7_sheet_35 (by decide) ?_
        obtain ⟨rfl, rfl⟩ := some_i2 h
        exact x_iret (v := 0) hC hH hr rfl dX7_sheet_36
    · have h := ite_t c6 h
      refine lv_ldc (v := -1000000001) hx hb hown (hts _ wkX7_89) dX7_sheet_16 ?_
      obtain ⟨rfl, rfl⟩ := some_i2 h
      exact x_iret (v := -1000000001) hC hH hr rfl dX7_sheet_18

def rmX_mark : Room := { frames := 2, cells := 0, slots := 0, locals := 42 }
theorem hdX7_mark : yX7_mark.cls = RX7 ∧ yX7_mark.cls ≠ "java/lang/invoke/MethodHandle" ∧ yX7_mark.cls ≠ "java/lang/invoke/VarHandle" ∧ (parseMethodDescriptor yX7_mark.desc).map (fun d => d.parameters.length) = some 3 := by decide +kernel

def fX_mark (σ0 : XS) (x1 : Int32) (x2 : Int32) (x3 : Int32) : Option (Int32 × XS) :=
  ob (fX_isSheet σ0 x1) fun r2 =>
  if r2 = 0 then (
    some ((-1000000001 : Int32), σ0))
  else (
    ck x1 4 <|
    ob (fS_isMissing σ0 (x1).toNatClampNeg) fun r6 =>
    if r6 = 0 then (
      ob (fS_has σ0 (x1).toNatClampNeg x2) fun r9 =>
      if r9 = 0 then (
        some ((-1000000013 : Int32), σ0))
      else (
        if (xi σ0 (10 + (x1).toNatClampNeg) 0) = 0 then (
          if x3 = (-1000000005 : Int32) then (
            some ((-1000000012 : Int32), σ0))
          else (
            ck x2 (24) <|
            bnd (xu σ0 (60 + (x1).toNatClampNeg) (x2).toNatClampNeg (x3).toInt16.toInt32) fun σ23 =>
            some ((1 : Int32), σ23)))
        else (
          if x3 = (-1000000005 : Int32) then (
            ck x2 (24) <|
            bnd (xu σ0 (60 + (x1).toNatClampNeg) (x2).toNatClampNeg x3) fun σ13 =>
            some ((1 : Int32), σ13))
          else (
            ob (fX_isWithin σ0 x3 (-99999 : Int32) (99999 : Int32)) fun r17 =>
            if r17 = 0 then (
              some ((-1000000001 : Int32), σ0))
            else (
              ck x2 (24) <|
              bnd (xu σ0 (60 + (x1).toNatClampNeg) (x2).toNatClampNeg x3) fun σ19 =>
              some ((1 : Int32), σ19))))))
    else (
      some ((-1000000011 : Int32), σ0)))

set_option maxHeartbeats 4000000 in
set_option maxRecDepth 100000 in
theorem cX_mark (l : Launch) (G : XG) (σ0 : XS) (x1 : Int32) (x2 : Int32) (x3 : Int32) {r : Int32} {σr : XS} (h : fX_mark σ0 x1 x2 x3 = some (r, σr)) : ∀ sz, Met l yX7_mark (Cond.code yX7_mark cX7_mark 5 (some .int) :: Tw) rmX_mark (xP G σ0 sz [.ref (xA G 0), .int x1, .int x2, .int x3]) (xQi G σ0 sz σr r) 0 0 (va_A (xW G σ0) sz) := by
  intro sz
  refine Met.ofW (cc := cX7_mark) (maxL := 5) (ret := (some .int)) (by decide) rfl ?_
  intro p e s m args below meth c s₁ Bd hml hv
  obtain ⟨hC, hr⟩ := jC_of Bd hml
  obtain ⟨rfl, rfl, hH⟩ := x_enter hv
  have hC : jC p s m _ meth c cX7_mark 5 RX7 := hC
  have hx := hC.1.1
  have hb := hC.1.2.1
  have hown := hC.1.2.2.2.1
  have hts := hC.1.2.2.2.2
  have hl := lv_entry ([.ref (xA G 0), .int x1, .int x2, .int x3]) (n := 5) (Nat.le_of_ble_eq_true rfl)
  rw [lg_entry_eq]
  generalize (lg_sl ([.ref (xA G 0), .int x1, .int x2, .int x3]) ++ List.replicate (5 - (lg_sl ([.ref (xA G 0), .int x1, .int x2, .int x3])).length) Slot.unset).toArray = ls at hl ⊢
  have hl : lv_has ls 5 [(0, .ref (xA G 0)), (1, .int x1), (2, .int x2), (3, .int x3)] := hl
  unfold fX_mark at h
  refine W_nm (fun H locs eH eL => ?_)
  have hH : xH G s (va_A (xW G σ0) s.heap.size) σ0 H locs := by rw [eH, eL]; exact hH
  show W p l e rmX_mark s m _ below meth c H locs 0 0 _ (F0 m 0 ls [])
  refine lv_iload_n hx hb dX7_mark_0 rfl (lv_at hl 1 rfl) ?_
  obtain ⟨r2, h1, h⟩ := ob_some h
  refine x_calls (As := [.int x1]) (rest := []) (cX_isSheet l G σ0 x1  h1) hC hH hl (va_cwS 1 hts (gS wmX7_206 wsX7_isSheet) rfl rfl rfl hdX7_isSheet ⟨Nat.le_of_ble_eq_true rfl, Nat.le_of_ble_eq_true rfl⟩) rfl rfl (Nat.le_of_ble_eq_true rfl) ⟨Nat.zero_le _, Nat.zero_le _⟩ dX7_mark_1 (fun H locs hH => ?_)
  refine lv_if_ne (tgt := 10) hx hb dX7_mark_4 (by decide) (fun c3 => ?_) (fun c3 => ?_)
  · have h := ite_f c3 h
    refine lv_aload_n hx hb dX7_mark_10 rfl (lv_at hl 0 rfl) ?_
    refine x_get (C := RX7) (T := TX7) (N := 14) (v := .ref (xA G 8)) hC hH (xe_X G σ0) rfl wyX7 10 (by decide) wfX7_60 rfl rfl dX7_mark_11 ?_
    refine lv_iload_n hx hb dX7_mark_14 rfl (lv_at hl 1 rfl) ?_
    obtain ⟨i4, h⟩ := ck_some h
    refine x_sheets hC hH i4 dX7_mark_15 ?_
    refine lv_astore (lv' := [(4, .ref (xA G (60 + (x1).toNatClampNeg))), (0, .ref (xA G 0)), (1, .int x1), (2, .int x2), (3, .int x3)]) hx hb dX7_mark_16 hl (by decide) rfl (fun ls hl => ?_)
    refine lv_aload hx hb dX7_mark_18 (lv_at hl 0 rfl) ?_
    obtain ⟨r6, h5, h⟩ := ob_some h
    refine x_calli (vw := (RX4, TX4, 3)) (As := []) (rest := []) (cS_isMissing l G σ0 (x1).toNatClampNeg (in_lt i4 (by decide)) h5) hC hH hl (xe_S G σ0 (in_lt i4 (by decide))) rfl (cwV 0 hts (gV wmX7_209 wvX4_isMissing) rfl rfl rfl hdX4_isMissing ⟨Nat.le_of_ble_eq_true rfl, Nat.le_of_ble_eq_true rfl⟩) rfl rfl (Nat.le_of_ble_eq_true rfl) ⟨Nat.zero_le _, Nat.zero_le _⟩ dX7_mark_20 (fun H locs hH => ?_)
    refine lv_if_eq (tgt := 29) hx hb dX7_mark_23 (by decide) (fun c7 => ?_) (fun c7 => ?_)
    · have h := ite_t c7 h
      refine lv_aload hx hb dX7_mark_29 (lv_at hl 0 rfl) ?_
      refine lv_iload_n hx hb dX7_mark_31 rfl (lv_at hl 3 rfl) ?_
      obtain ⟨r9, h8, h⟩ := ob_some h
      refine x_calli (vw := (RX4, TX4, 3)) (As := [.int x2]) (rest := []) (cS_has l G σ0 (x1).toNatClampNeg x2 (in_lt i4 (by decide)) h8) hC hH hl (xe_S G σ0 (in_lt i4 (by decide))) rfl (cwV 1 hts (gV wmX7_260 wvX4_has) rfl rfl rfl hdX4_has ⟨Nat.le_of_ble_eq_true rfl, Nat.le_of_ble_eq_true rfl⟩) rfl rfl (Nat.le_of_ble_eq_true rfl) ⟨Nat.zero_le _, Nat.zero_le _⟩ dX7_mark_32 (fun H locs hH => ?_)
      refine lv_if_ne (tgt := 42) hx hb dX7_mark_35 (by decide) (fun c10 => ?_) (fun c10 => ?_)
      · have h := ite_f c10 h
        refine lv_aload hx hb dX7_mark_42 (lv_at hl 0 rfl) ?_
        refine x_getN (C := RX4) (T := TX4) (N := 3) (v := .int (xi σ0 (10 + (x1).toNatClampNeg) 0)) (host := "RoadSorted") hC hH (xe_S G σ0 (in_lt i4 (by decide))) rfl wyX4 0 (by decide) (by decide +kernel) rfl rfl dX7_mark_44 ?_
        refine lv_if_ne (tgt := 70) hx hb dX7_mark_47 (by decide) (fun c11 => ?_) (fun c11 => ?_)
        · have h := ite_f c11 h
          refine lv_iload_n hx hb dX7_mark_70 rfl (lv_at hl 4 rfl) ?_
          refine lv_ldc (v := -1000000005) hx hb hown (hts _ wkX7_195) dX7_mark_71 ?_
          refine lv_icmp_eq (tgt := 92) hx hb dX7_mark_73 (by decide) (fun c12 => ?_) (fun c12 => ?_)
          · have h := ite_t c12 h
            refine lv_aload hx hb dX7_mark_92 (lv_at hl 0 rfl) ?_
            refine x_getN (C := RX4) (T := TX4) (N := 3) (v := .ref (xA G (100 + (60 + (x1).toNatClampNeg)))) (host := "RoadSorted") hC hH (xe_S G σ0 (in_lt i4 (by decide))) rfl wyX4 2 (by decide) (by decide +kernel) rfl rfl dX7_mark_94 ?_
            refine lv_iload_n hx hb dX7_mark_97 rfl (lv_at hl 3 rfl) ?_
            refine lv_iload_n hx hb dX7_mark_98 rfl (lv_at hl 4 rfl) ?_
            obtain ⟨i15, h⟩ := ck_some h
            obtain ⟨σ13, e14, h⟩ := bnd_some h
            refine x_ast hC hH (d := (60 + (x1).toNatClampNeg)) (xIs_s (in_lt i4 (by decide))) (xLen_s (in_lt i4 (by decide))) rfl e14 i15 dX7_mark_99 (fun H locs hH => ?_)
            refine lv_iconst (v := 1) hx hb dX7_mark_100 (by decide) ?_
            obtain ⟨rfl, rfl⟩ := some_i2 h
            exact x_iret (v := 1) hC hH hr rfl dX7_mark_101
          · have h := ite_f c12 h
            refine lv_iload_n hx hb dX7_mark_76 rfl (lv_at hl 4 rfl) ?_
            refine lv_ldcw (v := -99999) hx hb hown (hts _ wkX7_268) dX7_mark_77 ?_
            refine lv_ldcw (v := 99999) hx hb hown (hts _ wkX7_269) dX7_mark_80 ?_
            obtain ⟨r17, h16, h⟩ := ob_some h
            refine x_calls (As := [.int x3, .int (-99999 : Int32), .int (99999 : Int32)]) (rest := []) (cX_isWithin l G σ0 x3 (-99999 : Int32) (99999 : Int32)  h16) hC hH hl (va_cwS 3 hts (gS wmX7_148 wsX7_isWithin) rfl rfl rfl hdX7_isWithin ⟨Nat.le_of_ble_eq_true rfl, Nat.le_of_ble_eq_true rfl⟩) rfl rfl (Nat.le_of_ble_eq_true rfl) ⟨Nat.zero_le _, Nat.zero_le _⟩ dX7_mark_83 (fun H locs hH => ?_)
            refine lv_if_ne (tgt := 92) hx hb dX7_mark_86 (by decide) (fun c18 => ?_) (fun c18 => ?_)
            · have h := ite_f c18 h
              refine lv_aload hx hb dX7_mark_92 (lv_at hl 0 rfl) ?_
              refine x_getN (C := RX4) (T := TX4) (N := 3) (v := .ref (xA G (100 + (60 + (x1).toNatClampNeg)))) (host := "RoadSorted") hC hH (xe_S G σ0 (in_lt i4 (by decide))) rfl wyX4 2 (by decide) (by decide +kernel) rfl rfl dX7_mark_94 ?_
              refine lv_iload_n hx hb dX7_mark_97 rfl (lv_at hl 3 rfl) ?_
              refine lv_iload_n hx hb dX7_mark_98 rfl (lv_at hl 4 rfl) ?_
              obtain ⟨i21, h⟩ := ck_some h
              obtain ⟨σ19, e20, h⟩ := bnd_some h
              refine x_ast hC hH (d := (60 + (x1).toNatClampNeg)) (xIs_s (in_lt i4 (by decide))) (xLen_s (in_lt i4 (by decide))) rfl e20 i21 dX7_mark_99 (fun H locs hH => ?_)
              refine lv_iconst (v := 1) hx hb dX7_mark_100 (by decide) ?_
              obtain ⟨rfl, rfl⟩ := some_i2 h
              exact x_iret (v := 1) hC hH hr rfl dX7_mark_101
            · have h := ite_t c18 h
              refine lv_ldc (v := -1000000001) hx hb hown (hts _ wkX7_89) dX7_mark_89 ?_
              obtain ⟨rfl, rfl⟩ := some_i2 h
              exact x_iret (v := -1000000001) hC hH hr rfl dX7_mark_91
        · have h := ite_t c11 h
          refine lv_iload_n hx hb dX7_mark_50 rfl (lv_at hl 4 rfl) ?_
          refine lv_ldc (v := -1000000005) hx hb hown (hts _ wkX7_195) dX7_mark_51 ?_
          refine lv_icmp_ne (tgt := 59) hx hb dX7_mark_53 (by decide) (fun c22 => ?_) (fun c22 => ?_)
          · have h := ite_f c22 h
            refine lv_aload hx hb dX7_mark_59 (lv_at hl 0 rfl) ?_
            refine x_getN (C := RX4) (T := TX4) (N := 3) (v := .ref (xA G (100 + (60 + (x1).toNatClampNeg)))) (host := "RoadSorted") hC hH (xe_S G σ0 (in_lt i4 (by decide))) rfl wyX4 2 (by decide) (by decide +kernel) rfl rfl dX7_mark_61 ?_
            refine lv_iload_n hx hb dX7_mark_64 rfl (lv_at hl 3 rfl) ?_
            refine lv_iload_n hx hb dX7_mark_65 rfl (lv_at hl 4 rfl) ?_
            refine lv_i2s hx hb dX7_mark_66 rfl ?_
            obtain ⟨i25, h⟩ := ck_some h
            obtain ⟨σ23, e24, h⟩ := bnd_some h
            refine x_ast hC hH (d := (60 + (x1).toNatClampNeg)) (xIs_s (in_lt i4 (by decide))) (xLen_s (in_lt i4 (by decide))) rfl e24 i25 dX7_mark_67 (fun H locs hH => ?_)
            refine lv_iconst (v := 1) hx hb dX7_mark_68 (by decide) ?_
            obtain ⟨rfl, rfl⟩ := some_i2 h
            exact x_iret (v := 1) hC hH hr rfl dX7_mark_69
          · have h := ite_t c22 h
            refine lv_ldc (v := -1000000012) hx hb hown (hts _ wkX7_133) dX7_mark_56 ?_
            obtain ⟨rfl, rfl⟩ := some_i2 h
            exact x_iret (v := -1000000012) hC hH hr rfl dX7_mark_58
      · have h := ite_t c10 h
        refine lv_ldcw (v := -1000000013) hx hb hown (hts _ wkX7_261) dX7_mark_38 ?_
        obtain ⟨rfl, rfl⟩ := some_i2 h
        exact x_iret (v := -1000000013) hC hH hr rfl dX7_mark_41
    · have h := ite_f c7 h
      refine lv_ldc (v := -1000000011) hx hb hown (hts _ wkX7_213) dX7_mark_26 ?_
      obtain ⟨rfl, rfl⟩ := some_i2 h
      exact x_iret (v := -1000000011) hC hH hr rfl dX7_mark_28
  · have h := ite_t c3 h
    refine lv_ldc (v := -1000000001) hx hb hown (hts _ wkX7_89) dX7_mark_7 ?_
    obtain ⟨rfl, rfl⟩ := some_i2 h
    exact x_iret (v := -1000000001) hC hH hr rfl dX7_mark_9

def rmX_pour : Room := { frames := 4, cells := 0, slots := 0, locals := 108 }
theorem hdX7_pour : yX7_pour.cls = RX7 ∧ yX7_pour.cls ≠ "java/lang/invoke/MethodHandle" ∧ yX7_pour.cls ≠ "java/lang/invoke/VarHandle" ∧ (parseMethodDescriptor yX7_pour.desc).map (fun d => d.parameters.length) = some 1 := by decide +kernel

def fX_pour_J95 (k32 : Nat → Int32 → Int32 → XS → Option (Int32 × XS)) (ksx2 : Nat) (x3 : Int32) (x4 : Int32) (x5 : Int32) (σ : XS) : Option (Int32 × XS) :=
  ck x4 (14) <|
  ck x4 (14) <|
  ob (fB_become σ 0 x4 (xi σ (30 + 6 * 0 + 0) (x4).toNatClampNeg) (xi σ (30 + 6 * 0 + 1) (x4).toNatClampNeg) x5) fun σ23 =>
  bnd (x4 + (1 : Int32)) fun v24 =>
  k32 ksx2 x3 v24 σ23

set_option maxHeartbeats 4000000 in
set_option maxRecDepth 100000 in
theorem wX_pour_J95 {p : Program} {l : Launch} {e : Env} {s : State} {m : MethodId} {args : Array Value} {below : List Frame} {meth : Method} {c : Code} {G : XG} {σ0 : XS} {r : Int32} {σr : XS} (hC : jC p s m args meth c cX7_pour 6 RX7) (hr : meth.sig.returnType = some .int) {k32 : Nat → Int32 → Int32 → XS → Option (Int32 × XS)} (hk32 : ∀ (ksx2 : Nat) (x3 : Int32) (x4 : Int32) (σ : XS) (H : Heap) (locs : List Loc) (ls : Array Slot) (hksx2 : ksx2 < 9), xH G s (va_A (xW G σ0) s.heap.size) σ H locs → lv_has ls 6 [(0, .ref (xA G 0)), (2, .ref (xA G (60 + ksx2))), (3, .int x3), (4, .int x4)] → k32 ksx2 x3 x4 σ = some (r, σr) → W p l e rmX_pour s m args below meth c H locs 0 0 (MQ below (xQi G σ0 s.heap.size σr r) args s 0 0 (va_A (xW G σ0) s.heap.size)) (F0 m 32 ls [])) (ksx2 : Nat) (x3 : Int32) (x4 : Int32) (x5 : Int32) (σ : XS) (H : Heap) (locs : List Loc) (ls : Array Slot) (hksx2 : ksx2 < 9) (hH : xH G s (va_A (xW G σ0) s.heap.size) σ H locs) (hl : lv_has ls 6 [(0, .ref (xA G 0)), (2, .ref (xA G (60 + ksx2))), (3, .int x3), (4, .int x4), (5, .int x5)]) (h : fX_pour_J95 k32 ksx2 x3 x4 x5 σ = some (r, σr)) : W p l e rmX_pour s m args below meth c H locs 0 0 (MQ below (xQi G σ0 s.heap.size σr r) args s 0 0 (va_A (xW G σ0) s.heap.size)) (F0 m 95 ls []) := by
  have hx := hC.1.1
  have hb := hC.1.2.1
  have hown := hC.1.2.2.2.1
  have hts := hC.1.2.2.2.2
  unfold fX_pour_J95 at h
  refine lv_aload_n hx hb dX7_pour_95 rfl (lv_at hl 0 rfl) ?_
  refine x_get (C := RX7) (T := TX7) (N := 14) (v := .ref (xA G (1 + 0))) hC hH (xe_X G σ) rfl wyX7 0 (by decide) wfX7_10 rfl rfl dX7_pour_96 ?_
  refine lv_iload hx hb dX7_pour_99 (lv_at hl 3 rfl) ?_
  refine lv_aload_n hx hb dX7_pour_101 rfl (lv_at hl 0 rfl) ?_
  refine x_get (C := RX7) (T := TX7) (N := 14) (v := .ref (xA G (1 + 0))) hC hH (xe_X G σ) rfl wyX7 0 (by decide) wfX7_10 rfl rfl dX7_pour_102 ?_
  refine x_getN (C := RX0) (T := TX0) (N := 12) (v := .ref (xA G (100 + (30 + 6 * 0 + 0)))) (host := "RoadSorted") hC hH (xe_B G σ (by decide)) rfl wyX0 1 (by decide) (by decide +kernel) rfl rfl dX7_pour_105 ?_
  refine lv_iload hx hb dX7_pour_108 (lv_at hl 3 rfl) ?_
  obtain ⟨i20, h⟩ := ck_some h
  refine x_ald hC hH (d := (30 + 6 * 0 + 0)) (xIs_b (by decide) (by decide)) (xLen_b (by decide) (by decide)) rfl i20 dX7_pour_110 ?_
  refine lv_aload_n hx hb dX7_pour_111 rfl (lv_at hl 0 rfl) ?_
  refine x_get (C := RX7) (T := TX7) (N := 14) (v := .ref (xA G (1 + 0))) hC hH (xe_X G σ) rfl wyX7 0 (by decide) wfX7_10 rfl rfl dX7_pour_112 ?_
  refine x_getN (C := RX0) (T := TX0) (N := 12) (v := .ref (xA G (100 + (30 + 6 * 0 + 1)))) (host := "RoadSorted") hC hH (xe_B G σ (by decide)) rfl wyX0 2 (by decide) (by decide +kernel) rfl rfl dX7_pour_115 ?_
  refine lv_iload hx hb dX7_pour_118 (lv_at hl 3 rfl) ?_
  obtain ⟨i21, h⟩ := ck_some h
  refine x_ald hC hH (d := (30 + 6 * 0 + 1)) (xIs_b (by decide) (by decide)) (xLen_b (by decide) (by decide)) rfl i21 dX7_pour_120 ?_
  refine lv_iload hx hb dX7_pour_121 (lv_at hl 4 rfl) ?_
  obtain ⟨σ23, h22, h⟩ := ob_some h
  refine x_callv (vw := (RX0, TX0, 12)) (As := [.int x4, .int (xi σ (30 + 6 * 0 + 0) (x4).toNatClampNeg), .int (xi σ (30 + 6 * 0 + 1) (x4).toNatClampNeg), .int x5]) (rest := []) (cB_become l G σ 0 x4 (xi σ (30 + 6 * 0 + 0) (x4).toNatClampNeg) (xi σ (30 + 6 * 0 + 1) (x4).toNatClampNeg) x5 (by decide) h22) hC hH hl (xe_B G σ (by decide)) rfl (cwV 4 hts (gV wmX7_134 wvX0_become) rfl rfl rfl hdX0_become ⟨Nat.le_of_ble_eq_true rfl, Nat.le_of_ble_eq_true rfl⟩) rfl rfl (Nat.le_of_ble_eq_true rfl) ⟨Nat.zero_le _, Nat.zero_le _⟩ dX7_pour_123 (fun H locs hH => ?_)
  obtain ⟨v24, e25, h⟩ := bnd_some h
  refine lv_iinc (v := v24) (lv' := [(4, .int v24), (0, .ref (xA G 0)), (2, .ref (xA G (60 + ksx2))), (3, .int x3), (5, .int x5)]) hx hb dX7_pour_126 hl (k := 3) rfl (by rw [e25]; rfl) (by decide) rfl (fun ls hl => ?_)
  refine lv_goto (tgt := 32) hx hb dX7_pour_129 (by decide) ?_
  exact hk32 ksx2 x3 v24 σ23 H locs ls hksx2 hH (lv_sub hl [1, 2, 3, 0] rfl) h

def fX_pour_L32 (k132 : Int32 → XS → Option (Int32 × XS)) : Nat → Nat → Int32 → Int32 → XS → Option (Int32 × XS)
  | 0, _, _, _, _ => none
  | n + 1, ksx2, x3, x4, σ =>
    if (xi σ (1 + 0) 0) ≤ x4 then (
      k132 x3 σ)
    else (
      if (xi σ (10 + ksx2) 1) ≤ x4 then (
        k132 x3 σ)
      else (
        ob (fS_isNumber σ ksx2 x4) fun r11 =>
        if r11 = 0 then (
          bnd (x4 + (1 : Int32)) fun v13 =>
          (fX_pour_L32 k132 n) ksx2 x3 v13 σ)
        else (
          ck x4 (24) <|
          ob (fX_held σ (xi σ (60 + ksx2) (x4).toNatClampNeg) (0 : Int32) (9 : Int32)) fun r17 =>
          ck x4 (14) <|
          if r17 = (xi σ (30 + 6 * 0 + 2) (x4).toNatClampNeg) then (
            fX_pour_J95 (fX_pour_L32 k132 n) ksx2 x3 x4 r17 σ)
          else (
            bnd (x3 + (1 : Int32)) fun v26 =>
            fX_pour_J95 (fX_pour_L32 k132 n) ksx2 v26 x4 r17 σ))))

set_option maxHeartbeats 4000000 in
set_option maxRecDepth 100000 in
theorem wX_pour_L32 {p : Program} {l : Launch} {e : Env} {s : State} {m : MethodId} {args : Array Value} {below : List Frame} {meth : Method} {c : Code} {G : XG} {σ0 : XS} {r : Int32} {σr : XS} (hC : jC p s m args meth c cX7_pour 6 RX7) (hr : meth.sig.returnType = some .int) {k132 : Int32 → XS → Option (Int32 × XS)} (hk132 : ∀ (x3 : Int32) (σ : XS) (H : Heap) (locs : List Loc) (ls : Array Slot), xH G s (va_A (xW G σ0) s.heap.size) σ H locs → lv_has ls 6 [(3, .int x3)] → k132 x3 σ = some (r, σr) → W p l e rmX_pour s m args below meth c H locs 0 0 (MQ below (xQi G σ0 s.heap.size σr r) args s 0 0 (va_A (xW G σ0) s.heap.size)) (F0 m 132 ls [])) : ∀ (n : Nat) (ksx2 : Nat) (x3 : Int32) (x4 : Int32) (σ : XS) (H : Heap) (locs : List Loc) (ls : Array Slot) (hksx2 : ksx2 < 9), xH G s (va_A (xW G σ0) s.heap.size) σ H locs → lv_has ls 6 [(0, .ref (xA G 0)), (2, .ref (xA G (60 + ksx2))), (3, .int x3), (4, .int x4)] → fX_pour_L32 k132 n ksx2 x3 x4 σ = some (r, σr) → W p l e rmX_pour s m args below meth c H locs 0 0 (MQ below (xQi G σ0 s.heap.size σr r) args s 0 0 (va_A (xW G σ0) s.heap.size)) (F0 m 32 ls []) := by
  have hx := hC.1.1
  have hb := hC.1.2.1
  have hown := hC.1.2.2.2.1
  have hts := hC.1.2.2.2.2
  intro n
  induction n with
  | zero =>
    intro ksx2 x3 x4 σ H locs ls hksx2 hH hl h
    rw [fX_pour_L32] at h
    cases h
  | succ n ih =>
    intro ksx2 x3 x4 σ H locs ls hksx2 hH hl h
    rw [fX_pour_L32] at h
    refine lv_iload hx hb dX7_pour_32 (lv_at hl 3 rfl) ?_
    refine lv_aload_n hx hb dX7_pour_34 rfl (lv_at hl 0 rfl) ?_
    refine x_get (C := RX7) (T := TX7) (N := 14) (v := .ref (xA G (1 + 0))) hC hH (xe_X G σ) rfl wyX7 0 (by decide) wfX7_10 rfl rfl dX7_pour_35 ?_
    refine x_getN (C := RX0) (T := TX0) (N := 12) (v := .int (xi σ (1 + 0) 0)) (host := "RoadSorted") hC hH (xe_B G σ (by decide)) rfl wyX0 0 (by decide) (by decide +kernel) rfl rfl dX7_pour_38 ?_
    refine lv_icmp_ge (tgt := 132) hx hb dX7_pour_41 (by decide) (fun c8 => ?_) (fun c8 => ?_)
    · have h := ite_t c8 h
      exact hk132 x3 σ H locs ls  hH (lv_sub hl [2] rfl) h
    · have h := ite_f c8 h
      refine lv_iload hx hb dX7_pour_44 (lv_at hl 3 rfl) ?_
      refine lv_aload_n hx hb dX7_pour_46 rfl (lv_at hl 1 rfl) ?_
      refine x_getN (C := RX4) (T := TX4) (N := 3) (v := .int (xi σ (10 + ksx2) 1)) (host := "RoadSorted") hC hH (xe_S G σ hksx2) rfl wyX4 1 (by decide) (by decide +kernel) rfl rfl dX7_pour_47 ?_
      refine lv_icmp_ge (tgt := 132) hx hb dX7_pour_50 (by decide) (fun c9 => ?_) (fun c9 => ?_)
      · have h := ite_t c9 h
        exact hk132 x3 σ H locs ls  hH (lv_sub hl [2] rfl) h
      · have h := ite_f c9 h
        refine lv_aload_n hx hb dX7_pour_53 rfl (lv_at hl 1 rfl) ?_
        refine lv_iload hx hb dX7_pour_54 (lv_at hl 3 rfl) ?_
        obtain ⟨r11, h10, h⟩ := ob_some h
        refine x_calli (vw := (RX4, TX4, 3)) (As := [.int x4]) (rest := []) (cS_isNumber l G σ ksx2 x4 hksx2 h10) hC hH hl (xe_S G σ hksx2) rfl (cwV 1 hts (gV wmX7_273 wvX4_isNumber) rfl rfl rfl hdX4_isNumber ⟨Nat.le_of_ble_eq_true rfl, Nat.le_of_ble_eq_true rfl⟩) rfl rfl (Nat.le_of_ble_eq_true rfl) ⟨Nat.zero_le _, Nat.zero_le _⟩ dX7_pour_56 (fun H locs hH => ?_)
        refine lv_if_eq (tgt := 126) hx hb dX7_pour_59 (by decide) (fun c12 => ?_) (fun c12 => ?_)
        · have h := ite_t c12 h
          obtain ⟨v13, e14, h⟩ := bnd_some h
          refine lv_iinc (v := v13) (lv' := [(4, .int v13), (0, .ref (xA G 0)), (2, .ref (xA G (60 + ksx2))), (3, .int x3)]) hx hb dX7_pour_126 hl (k := 3) rfl (by rw [e14]; rfl) (by decide) rfl (fun ls hl => ?_)
          refine lv_goto (tgt := 32) hx hb dX7_pour_129 (by decide) ?_
          exact ih ksx2 x3 v13 σ H locs ls hksx2 hH (lv_sub hl [1, 2, 3, 0] rfl) h
        · have h := ite_f c12 h
          refine lv_aload_n hx hb dX7_pour_62 rfl (lv_at hl 1 rfl) ?_
          refine x_getN (C := RX4) (T := TX4) (N := 3) (v := .ref (xA G (100 + (60 + ksx2)))) (host := "RoadSorted") hC hH (xe_S G σ hksx2) rfl wyX4 2 (by decide) (by decide +kernel) rfl rfl dX7_pour_63 ?_
          refine lv_iload hx hb dX7_pour_66 (lv_at hl 3 rfl) ?_
          obtain ⟨i15, h⟩ := ck_some h
          refine x_ald hC hH (d := (60 + ksx2)) (xIs_s hksx2) (xLen_s hksx2) rfl i15 dX7_pour_68 ?_
          refine lv_iconst (v := 0) hx hb dX7_pour_69 (by decide) ?_
          refine lv_bipush (v := 9) hx hb dX7_pour_70 (by decide) ?_
          obtain ⟨r17, h16, h⟩ := ob_some h
          refine x_calls (As := [.int (xi σ (60 + ksx2) (x4).toNatClampNeg), .int (0 : Int32), .int (9 : Int32)]) (rest := []) (cX_held l G σ (xi σ (60 + ksx2) (x4).toNatClampNeg) (0 : Int32) (9 : Int32)  h16) hC hH hl (va_cwS 3 hts (gS wmX7_276 wsX7_held) rfl rfl rfl hdX7_held ⟨Nat.le_of_ble_eq_true rfl, Nat.le_of_ble_eq_true rfl⟩) rfl rfl (Nat.le_of_ble_eq_true rfl) ⟨Nat.zero_le _, Nat.zero_le _⟩ dX7_pour_72 (fun H locs hH => ?_)
          refine lv_istore (lv' := [(5, .int r17), (0, .ref (xA G 0)), (2, .ref (xA G (60 + ksx2))), (3, .int x3), (4, .int x4)]) hx hb dX7_pour_75 hl (by decide) rfl (fun ls hl => ?_)
          refine lv_iload hx hb dX7_pour_77 (lv_at hl 0 rfl) ?_
          refine lv_aload_n hx hb dX7_pour_79 rfl (lv_at hl 1 rfl) ?_
          refine x_get (C := RX7) (T := TX7) (N := 14) (v := .ref (xA G (1 + 0))) hC hH (xe_X G σ) rfl wyX7 0 (by decide) wfX7_10 rfl rfl dX7_pour_80 ?_
          refine x_getN (C := RX0) (T := TX0) (N := 12) (v := .ref (xA G (100 + (30 + 6 * 0 + 2)))) (host := "RoadSorted") hC hH (xe_B G σ (by decide)) rfl wyX0 3 (by decide) (by decide +kernel) rfl rfl dX7_pour_83 ?_
          refine lv_iload hx hb dX7_pour_86 (lv_at hl 4 rfl) ?_
          obtain ⟨i18, h⟩ := ck_some h
          refine x_ald hC hH (d := (30 + 6 * 0 + 2)) (xIs_b (by decide) (by decide)) (xLen_b (by decide) (by decide)) rfl i18 dX7_pour_88 ?_
          refine lv_icmp_eq (tgt := 95) hx hb dX7_pour_89 (by decide) (fun c19 => ?_) (fun c19 => ?_)
          · have h := ite_t c19 h
            exact wX_pour_J95 hC hr ih ksx2 x3 x4 r17 σ H locs ls hksx2 hH (lv_sub hl [1, 2, 3, 4, 0] rfl) h
          · have h := ite_f c19 h
            obtain ⟨v26, e27, h⟩ := bnd_some h
            refine lv_iinc (v := v26) (lv' := [(3, .int v26), (5, .int r17), (0, .ref (xA G 0)), (2, .ref (xA G (60 + ksx2))), (4, .int x4)]) hx hb dX7_pour_92 hl (k := 3) rfl (by rw [e27]; rfl) (by decide) rfl (fun ls hl => ?_)
            exact wX_pour_J95 hC hr ih ksx2 v26 x4 r17 σ H locs ls hksx2 hH (lv_sub hl [2, 3, 0, 4, 1] rfl) h

def fX_pour (σ0 : XS) (x1 : Int32) : Option (Int32 × XS) :=
  ob (fX_isSheet σ0 x1) fun r2 =>
  if r2 = 0 then (
    some ((-1000000001 : Int32), σ0))
  else (
    ck x1 4 <|
    ob (fS_isMissing σ0 (x1).toNatClampNeg) fun r6 =>
    if r6 = 0 then (
      fX_pour_L32 (fun (x3 : Int32) (σ : XS) => some (x3, σ)) 10000 (x1).toNatClampNeg (0 : Int32) (0 : Int32) σ0)
    else (
      some ((-1000000011 : Int32), σ0)))

set_option maxHeartbeats 4000000 in
set_option maxRecDepth 100000 in
theorem cX_pour (l : Launch) (G : XG) (σ0 : XS) (x1 : Int32) {r : Int32} {σr : XS} (h : fX_pour σ0 x1 = some (r, σr)) : ∀ sz, Met l yX7_pour (Cond.code yX7_pour cX7_pour 6 (some .int) :: Tw) rmX_pour (xP G σ0 sz [.ref (xA G 0), .int x1]) (xQi G σ0 sz σr r) 0 0 (va_A (xW G σ0) sz) := by
  intro sz
  refine Met.ofW (cc := cX7_pour) (maxL := 6) (ret := (some .int)) (by decide) rfl ?_
  intro p e s m args below meth c s₁ Bd hml hv
  obtain ⟨hC, hr⟩ := jC_of Bd hml
  obtain ⟨rfl, rfl, hH⟩ := x_enter hv
  have hC : jC p s m _ meth c cX7_pour 6 RX7 := hC
  have hx := hC.1.1
  have hb := hC.1.2.1
  have hown := hC.1.2.2.2.1
  have hts := hC.1.2.2.2.2
  have hl := lv_entry ([.ref (xA G 0), .int x1]) (n := 6) (Nat.le_of_ble_eq_true rfl)
  rw [lg_entry_eq]
  generalize (lg_sl ([.ref (xA G 0), .int x1]) ++ List.replicate (6 - (lg_sl ([.ref (xA G 0), .int x1])).length) Slot.unset).toArray = ls at hl ⊢
  have hl : lv_has ls 6 [(0, .ref (xA G 0)), (1, .int x1)] := hl
  unfold fX_pour at h
  refine W_nm (fun H locs eH eL => ?_)
  have hH : xH G s (va_A (xW G σ0) s.heap.size) σ0 H locs := by rw [eH, eL]; exact hH
  show W p l e rmX_pour s m _ below meth c H locs 0 0 _ (F0 m 0 ls [])
  refine lv_iload_n hx hb dX7_pour_0 rfl (lv_at hl 1 rfl) ?_
  obtain ⟨r2, h1, h⟩ := ob_some h
  refine x_calls (As := [.int x1]) (rest := []) (cX_isSheet l G σ0 x1  h1) hC hH hl (va_cwS 1 hts (gS wmX7_206 wsX7_isSheet) rfl rfl rfl hdX7_isSheet ⟨Nat.le_of_ble_eq_true rfl, Nat.le_of_ble_eq_true rfl⟩) rfl rfl (Nat.le_of_ble_eq_true rfl) ⟨Nat.zero_le _, Nat.zero_le _⟩ dX7_pour_1 (fun H locs hH => ?_)
  refine lv_if_ne (tgt := 10) hx hb dX7_pour_4 (by decide) (fun c3 => ?_) (fun c3 => ?_)
  · have h := ite_f c3 h
    refine lv_aload_n hx hb dX7_pour_10 rfl (lv_at hl 0 rfl) ?_
    refine x_get (C := RX7) (T := TX7) (N := 14) (v := .ref (xA G 8)) hC hH (xe_X G σ0) rfl wyX7 10 (by decide) wfX7_60 rfl rfl dX7_pour_11 ?_
    refine lv_iload_n hx hb dX7_pour_14 rfl (lv_at hl 1 rfl) ?_
    obtain ⟨i4, h⟩ := ck_some h
    refine x_sheets hC hH i4 dX7_pour_15 ?_
    refine lv_astore_n (lv' := [(2, .ref (xA G (60 + (x1).toNatClampNeg))), (0, .ref (xA G 0)), (1, .int x1)]) hx hb dX7_pour_16 rfl hl (by decide) rfl (fun ls hl => ?_)
    refine lv_aload_n hx hb dX7_pour_17 rfl (lv_at hl 0 rfl) ?_
    obtain ⟨r6, h5, h⟩ := ob_some h
    refine x_calli (vw := (RX4, TX4, 3)) (As := []) (rest := []) (cS_isMissing l G σ0 (x1).toNatClampNeg (in_lt i4 (by decide)) h5) hC hH hl (xe_S G σ0 (in_lt i4 (by decide))) rfl (cwV 0 hts (gV wmX7_209 wvX4_isMissing) rfl rfl rfl hdX4_isMissing ⟨Nat.le_of_ble_eq_true rfl, Nat.le_of_ble_eq_true rfl⟩) rfl rfl (Nat.le_of_ble_eq_true rfl) ⟨Nat.zero_le _, Nat.zero_le _⟩ dX7_pour_18 (fun H locs hH => ?_)
    refine lv_if_eq (tgt := 27) hx hb dX7_pour_21 (by decide) (fun c7 => ?_) (fun c7 => ?_)
    · have h := ite_t c7 h
      refine lv_iconst (v := 0) hx hb dX7_pour_27 (by decide) ?_
      refine lv_istore_n (lv' := [(3, .int (0 : Int32)), (2, .ref (xA G (60 + (x1).toNatClampNeg))), (0, .ref (xA G 0)), (1, .int x1)]) hx hb dX7_pour_28 rfl hl (by decide) rfl (fun ls hl => ?_)
      refine lv_iconst (v := 0) hx hb dX7_pour_29 (by decide) ?_
      refine lv_istore (lv' := [(4, .int (0 : Int32)), (3, .int (0 : Int32)), (2, .ref (xA G (60 + (x1).toNatClampNeg))), (0, .ref (xA G 0)), (1, .int x1)]) hx hb dX7_pour_30 hl (by decide) rfl (fun ls hl => ?_)
      refine wX_pour_L32 hC hr  ?_ 10000 (x1).toNatClampNeg (0 : Int32) (0 : Int32) σ0 H locs ls (in_lt i4 (by decide)) hH (lv_sub hl [3, 2, 1, 0] rfl) h
      intro x3 σ H locs ls  hH hl h
      refine lv_iload_n hx hb dX7_pour_132 rfl (lv_at hl 0 rfl) ?_
      obtain ⟨rfl, rfl⟩ := some_i2 h
      exact x_iret hC hH hr rfl dX7_pour_133
    · have h := ite_f c7 h
      refine lv_ldc (v := -1000000011) hx hb hown (hts _ wkX7_213) dX7_pour_24 ?_
      obtain ⟨rfl, rfl⟩ := some_i2 h
      exact x_iret (v := -1000000011) hC hH hr rfl dX7_pour_26
  · have h := ite_t c3 h
    refine lv_ldc (v := -1000000001) hx hb hown (hts _ wkX7_89) dX7_pour_7 ?_
    obtain ⟨rfl, rfl⟩ := some_i2 h
    exact x_iret (v := -1000000001) hC hH hr rfl dX7_pour_9

def rmX_reads : Room := { frames := 2, cells := 0, slots := 0, locals := 42 }
theorem hdX7_reads : yX7_reads.cls = RX7 ∧ yX7_reads.cls ≠ "java/lang/invoke/MethodHandle" ∧ yX7_reads.cls ≠ "java/lang/invoke/VarHandle" ∧ (parseMethodDescriptor yX7_reads.desc).map (fun d => d.parameters.length) = some 1 := by decide +kernel

def fX_reads_L29 (σ0 : XS) (k82 : Option (Int32)) : Nat → Nat → Int32 → Option (Int32)
  | 0, _, _ => none
  | n + 1, ksx2, x3 =>
    if (xi σ0 (10 + ksx2) 1) ≤ x3 then (
      k82)
    else (
      ob (fS_isNumber σ0 ksx2 x3) fun r10 =>
      if r10 = 0 then (
        bnd (x3 + (1 : Int32)) fun v12 =>
        (fX_reads_L29 σ0 k82 n) ksx2 v12)
      else (
        ob (fB_has σ0 0 x3) fun r15 =>
        if r15 = 0 then (
          some x3)
        else (
          ck x3 (24) <|
          ck x3 (14) <|
          if (xi σ0 (60 + ksx2) (x3).toNatClampNeg) = (xi σ0 (30 + 6 * 0 + 5) (x3).toNatClampNeg) then (
            bnd (x3 + (1 : Int32)) fun v20 =>
            (fX_reads_L29 σ0 k82 n) ksx2 v20)
          else (
            some x3))))

set_option maxHeartbeats 4000000 in
set_option maxRecDepth 100000 in
theorem wX_reads_L29 {p : Program} {l : Launch} {e : Env} {s : State} {m : MethodId} {args : Array Value} {below : List Frame} {meth : Method} {c : Code} {G : XG} {σ0 : XS} {r : Int32} (hC : jC p s m args meth c cX7_reads 4 RX7) (hr : meth.sig.returnType = some .int) {k82 : Option (Int32)} (hk82 : ∀ (H : Heap) (locs : List Loc) (ls : Array Slot), xH G s (va_A (xW G σ0) s.heap.size) σ0 H locs → lv_has ls 4 [] → k82 = some r → W p l e rmX_reads s m args below meth c H locs 0 0 (MQ below (xQi G σ0 s.heap.size σ0 r) args s 0 0 (va_A (xW G σ0) s.heap.size)) (F0 m 82 ls [])) : ∀ (n : Nat) (ksx2 : Nat) (x3 : Int32) (H : Heap) (locs : List Loc) (ls : Array Slot) (hksx2 : ksx2 < 9), xH G s (va_A (xW G σ0) s.heap.size) σ0 H locs → lv_has ls 4 [(0, .ref (xA G 0)), (2, .ref (xA G (60 + ksx2))), (3, .int x3)] → fX_reads_L29 σ0 k82 n ksx2 x3 = some r → W p l e rmX_reads s m args below meth c H locs 0 0 (MQ below (xQi G σ0 s.heap.size σ0 r) args s 0 0 (va_A (xW G σ0) s.heap.size)) (F0 m 29 ls []) := by
  have hx := hC.1.1
  have hb := hC.1.2.1
  have hown := hC.1.2.2.2.1
  have hts := hC.1.2.2.2.2
  intro n
  induction n with
  | zero =>
    intro ksx2 x3 H locs ls hksx2 hH hl h
    rw [fX_reads_L29] at h
    cases h
  | succ n ih =>
    intro ksx2 x3 H locs ls hksx2 hH hl h
    rw [fX_reads_L29] at h
    refine lv_iload_n hx hb dX7_reads_29 rfl (lv_at hl 2 rfl) ?_
    refine lv_aload_n hx hb dX7_reads_30 rfl (lv_at hl 1 rfl) ?_
    refine x_getN (C := RX4) (T := TX4) (N := 3) (v := .int (xi σ0 (10 + ksx2) 1)) (host := "RoadSorted") hC hH (xe_S G σ0 hksx2) rfl wyX4 1 (by decide) (by decide +kernel) rfl rfl dX7_reads_31 ?_
    refine lv_icmp_ge (tgt := 82) hx hb dX7_reads_34 (by decide) (fun c8 => ?_) (fun c8 => ?_)
    · have h := ite_t c8 h
      exact hk82  H locs ls  hH (lv_sub hl [] rfl) h
    · have h := ite_f c8 h
      refine lv_aload_n hx hb dX7_reads_37 rfl (lv_at hl 1 rfl) ?_
      refine lv_iload_n hx hb dX7_reads_38 rfl (lv_at hl 2 rfl) ?_
      obtain ⟨r10, h9, h⟩ := ob_some h
      refine x_calli (vw := (RX4, TX4, 3)) (As := [.int x3]) (rest := []) (cS_isNumber l G σ0 ksx2 x3 hksx2 h9) hC hH hl (xe_S G σ0 hksx2) rfl (cwV 1 hts (gV wmX7_273 wvX4_isNumber) rfl rfl rfl hdX4_isNumber ⟨Nat.le_of_ble_eq_true rfl, Nat.le_of_ble_eq_true rfl⟩) rfl rfl (Nat.le_of_ble_eq_true rfl) ⟨Nat.zero_le _, Nat.zero_le _⟩ dX7_reads_39 (fun H locs hH => ?_)
      refine lv_if_eq (tgt := 76) hx hb dX7_reads_42 (by decide) (fun c11 => ?_) (fun c11 => ?_)
      · have h := ite_t c11 h
        obtain ⟨v12, e13, h⟩ := bnd_some h
        refine lv_iinc (v := v12) (lv' := [(3, .int v12), (0, .ref (xA G 0)), (2, .ref (xA G (60 + ksx2)))]) hx hb dX7_reads_76 hl (k := 2) rfl (by rw [e13]; rfl) (by decide) rfl (fun ls hl => ?_)
        refine lv_goto (tgt := 29) hx hb dX7_reads_79 (by decide) ?_
        exact ih ksx2 v12 H locs ls hksx2 hH (lv_sub hl [1, 2, 0] rfl) h
      · have h := ite_f c11 h
        refine lv_aload_n hx hb dX7_reads_45 rfl (lv_at hl 0 rfl) ?_
        refine x_get (C := RX7) (T := TX7) (N := 14) (v := .ref (xA G (1 + 0))) hC hH (xe_X G σ0) rfl wyX7 0 (by decide) wfX7_10 rfl rfl dX7_reads_46 ?_
        refine lv_iload_n hx hb dX7_reads_49 rfl (lv_at hl 2 rfl) ?_
        obtain ⟨r15, h14, h⟩ := ob_some h
        refine x_calli (vw := (RX0, TX0, 12)) (As := [.int x3]) (rest := []) (cB_has l G σ0 0 x3 (by decide) h14) hC hH hl (xe_B G σ0 (by decide)) rfl (cwV 1 hts (gV wmX7_98 wvX0_has) rfl rfl rfl hdX0_has ⟨Nat.le_of_ble_eq_true rfl, Nat.le_of_ble_eq_true rfl⟩) rfl rfl (Nat.le_of_ble_eq_true rfl) ⟨Nat.zero_le _, Nat.zero_le _⟩ dX7_reads_50 (fun H locs hH => ?_)
        refine lv_if_eq (tgt := 74) hx hb dX7_reads_53 (by decide) (fun c16 => ?_) (fun c16 => ?_)
        · have h := ite_t c16 h
          refine lv_iload_n hx hb dX7_reads_74 rfl (lv_at hl 2 rfl) ?_
          obtain rfl := some_i1 h
          exact x_iret hC hH hr rfl dX7_reads_75
        · have h := ite_f c16 h
          refine lv_aload_n hx hb dX7_reads_56 rfl (lv_at hl 1 rfl) ?_
          refine x_getN (C := RX4) (T := TX4) (N := 3) (v := .ref (xA G (100 + (60 + ksx2)))) (host := "RoadSorted") hC hH (xe_S G σ0 hksx2) rfl wyX4 2 (by decide) (by decide +kernel) rfl rfl dX7_reads_57 ?_
          refine lv_iload_n hx hb dX7_reads_60 rfl (lv_at hl 2 rfl) ?_
          obtain ⟨i17, h⟩ := ck_some h
          refine x_ald hC hH (d := (60 + ksx2)) (xIs_s hksx2) (xLen_s hksx2) rfl i17 dX7_reads_61 ?_
          refine lv_aload_n hx hb dX7_reads_62 rfl (lv_at hl 0 rfl) ?_
          refine x_get (C := RX7) (T := TX7) (N := 14) (v := .ref (xA G (1 + 0))) hC hH (xe_X G σ0) rfl wyX7 0 (by decide) wfX7_10 rfl rfl dX7_reads_63 ?_
          refine x_getN (C := RX0) (T := TX0) (N := 12) (v := .ref (xA G (100 + (30 + 6 * 0 + 5)))) (host := "RoadSorted") hC hH (xe_B G σ0 (by decide)) rfl wyX0 6 (by decide) (by decide +kernel) rfl rfl dX7_reads_66 ?_
          refine lv_iload_n hx hb dX7_reads_69 rfl (lv_at hl 2 rfl) ?_
          obtain ⟨i18, h⟩ := ck_some h
          refine x_ald hC hH (d := (30 + 6 * 0 + 5)) (xIs_b (by decide) (by decide)) (xLen_b (by decide) (by decide)) rfl i18 dX7_reads_70 ?_
          refine lv_icmp_eq (tgt := 76) hx hb dX7_reads_71 (by decide) (fun c19 => ?_) (fun c19 => ?_)
          · have h := ite_t c19 h
            obtain ⟨v20, e21, h⟩ := bnd_some h
            refine lv_iinc (v := v20) (lv' := [(3, .int v20), (0, .ref (xA G 0)), (2, .ref (xA G (60 + ksx2)))]) hx hb dX7_reads_76 hl (k := 2) rfl (by rw [e21]; rfl) (by decide) rfl (fun ls hl => ?_)
            refine lv_goto (tgt := 29) hx hb dX7_reads_79 (by decide) ?_
            exact ih ksx2 v20 H locs ls hksx2 hH (lv_sub hl [1, 2, 0] rfl) h
          · have h := ite_f c19 h
            refine lv_iload_n hx hb dX7_reads_74 rfl (lv_at hl 2 rfl) ?_
            obtain rfl := some_i1 h
            exact x_iret hC hH hr rfl dX7_reads_75

def fX_reads (σ0 : XS) (x1 : Int32) : Option (Int32) :=
  ob (fX_isSheet σ0 x1) fun r2 =>
  if r2 = 0 then (
    some (-1000000001 : Int32))
  else (
    ck x1 4 <|
    ob (fS_isMissing σ0 (x1).toNatClampNeg) fun r6 =>
    if r6 = 0 then (
      fX_reads_L29 σ0 (some (-1000000005 : Int32)) 10000 (x1).toNatClampNeg (0 : Int32))
    else (
      some (-1000000011 : Int32)))

set_option maxHeartbeats 4000000 in
set_option maxRecDepth 100000 in
theorem cX_reads (l : Launch) (G : XG) (σ0 : XS) (x1 : Int32) {r : Int32} (h : fX_reads σ0 x1 = some r) : ∀ sz, Met l yX7_reads (Cond.code yX7_reads cX7_reads 4 (some .int) :: Tw) rmX_reads (xP G σ0 sz [.ref (xA G 0), .int x1]) (xQi G σ0 sz σ0 r) 0 0 (va_A (xW G σ0) sz) := by
  intro sz
  refine Met.ofW (cc := cX7_reads) (maxL := 4) (ret := (some .int)) (by decide) rfl ?_
  intro p e s m args below meth c s₁ Bd hml hv
  obtain ⟨hC, hr⟩ := jC_of Bd hml
  obtain ⟨rfl, rfl, hH⟩ := x_enter hv
  have hC : jC p s m _ meth c cX7_reads 4 RX7 := hC
  have hx := hC.1.1
  have hb := hC.1.2.1
  have hown := hC.1.2.2.2.1
  have hts := hC.1.2.2.2.2
  have hl := lv_entry ([.ref (xA G 0), .int x1]) (n := 4) (Nat.le_of_ble_eq_true rfl)
  rw [lg_entry_eq]
  generalize (lg_sl ([.ref (xA G 0), .int x1]) ++ List.replicate (4 - (lg_sl ([.ref (xA G 0), .int x1])).length) Slot.unset).toArray = ls at hl ⊢
  have hl : lv_has ls 4 [(0, .ref (xA G 0)), (1, .int x1)] := hl
  unfold fX_reads at h
  refine W_nm (fun H locs eH eL => ?_)
  have hH : xH G s (va_A (xW G σ0) s.heap.size) σ0 H locs := by rw [eH, eL]; exact hH
  show W p l e rmX_reads s m _ below meth c H locs 0 0 _ (F0 m 0 ls [])
  refine lv_iload_n hx hb dX7_reads_0 rfl (lv_at hl 1 rfl) ?_
  obtain ⟨r2, h1, h⟩ := ob_some h
  refine x_calls (As := [.int x1]) (rest := []) (cX_isSheet l G σ0 x1  h1) hC hH hl (va_cwS 1 hts (gS wmX7_206 wsX7_isSheet) rfl rfl rfl hdX7_isSheet ⟨Nat.le_of_ble_eq_true rfl, Nat.le_of_ble_eq_true rfl⟩) rfl rfl (Nat.le_of_ble_eq_true rfl) ⟨Nat.zero_le _, Nat.zero_le _⟩ dX7_reads_1 (fun H locs hH => ?_)
  refine lv_if_ne (tgt := 10) hx hb dX7_reads_4 (by decide) (fun c3 => ?_) (fun c3 => ?_)
  · have h := ite_f c3 h
    refine lv_aload_n hx hb dX7_reads_10 rfl (lv_at hl 0 rfl) ?_
    refine x_get (C := RX7) (T := TX7) (N := 14) (v := .ref (xA G 8)) hC hH (xe_X G σ0) rfl wyX7 10 (by decide) wfX7_60 rfl rfl dX7_reads_11 ?_
    refine lv_iload_n hx hb dX7_reads_14 rfl (lv_at hl 1 rfl) ?_
    obtain ⟨i4, h⟩ := ck_some h
    refine x_sheets hC hH i4 dX7_reads_15 ?_
    refine lv_astore_n (lv' := [(2, .ref (xA G (60 + (x1).toNatClampNeg))), (0, .ref (xA G 0)), (1, .int x1)]) hx hb dX7_reads_16 rfl hl (by decide) rfl (fun ls hl => ?_)
    refine lv_aload_n hx hb dX7_reads_17 rfl (lv_at hl 0 rfl) ?_
    obtain ⟨r6, h5, h⟩ := ob_some h
    refine x_calli (vw := (RX4, TX4, 3)) (As := []) (rest := []) (cS_isMissing l G σ0 (x1).toNatClampNeg (in_lt i4 (by decide)) h5) hC hH hl (xe_S G σ0 (in_lt i4 (by decide))) rfl (cwV 0 hts (gV wmX7_209 wvX4_isMissing) rfl rfl rfl hdX4_isMissing ⟨Nat.le_of_ble_eq_true rfl, Nat.le_of_ble_eq_true rfl⟩) rfl rfl (Nat.le_of_ble_eq_true rfl) ⟨Nat.zero_le _, Nat.zero_le _⟩ dX7_reads_18 (fun H locs hH => ?_)
    refine lv_if_eq (tgt := 27) hx hb dX7_reads_21 (by decide) (fun c7 => ?_) (fun c7 => ?_)
    · have h := ite_t c7 h
      refine lv_iconst (v := 0) hx hb dX7_reads_27 (by decide) ?_
      refine lv_istore_n (lv' := [(3, .int (0 : Int32)), (2, .ref (xA G (60 + (x1).toNatClampNeg))), (0, .ref (xA G 0)), (1, .int x1)]) hx hb dX7_reads_28 rfl hl (by decide) rfl (fun ls hl => ?_)
      refine wX_reads_L29 hC hr  ?_ 10000 (x1).toNatClampNeg (0 : Int32) H locs ls (in_lt i4 (by decide)) hH (lv_sub hl [2, 1, 0] rfl) h
      intro  H locs ls  hH hl h
      refine lv_ldc (v := -1000000005) hx hb hown (hts _ wkX7_195) dX7_reads_82 ?_
      obtain rfl := some_i1 h
      exact x_iret (v := -1000000005) hC hH hr rfl dX7_reads_84
    · have h := ite_f c7 h
      refine lv_ldc (v := -1000000011) hx hb hown (hts _ wkX7_213) dX7_reads_24 ?_
      obtain rfl := some_i1 h
      exact x_iret (v := -1000000011) hC hH hr rfl dX7_reads_26
  · have h := ite_t c3 h
    refine lv_ldc (v := -1000000001) hx hb hown (hts _ wkX7_89) dX7_reads_7 ?_
    obtain rfl := some_i1 h
    exact x_iret (v := -1000000001) hC hH hr rfl dX7_reads_9

def rmX_copy : Room := { frames := 2, cells := 0, slots := 0, locals := 60 }
theorem hdX7_copy : yX7_copy.cls = RX7 ∧ yX7_copy.cls ≠ "java/lang/invoke/MethodHandle" ∧ yX7_copy.cls ≠ "java/lang/invoke/VarHandle" ∧ (parseMethodDescriptor yX7_copy.desc).map (fun d => d.parameters.length) = some 5 := by decide +kernel

def fX_copy (σ0 : XS) (x1 : Int32) (x2 : Int32) (x3 : Int32) (x4 : Int32) (x5 : Int32) : Option (Int32 × XS) :=
  ob (fX_isSheet σ0 x1) fun r2 =>
  if r2 = 0 then (
    some ((-1000000001 : Int32), σ0))
  else (
    ob (fX_isSheet σ0 x3) fun r5 =>
    if r5 = 0 then (
      some ((-1000000001 : Int32), σ0))
    else (
      ck x1 4 <|
      ck x3 4 <|
      ob (fS_isMissing σ0 (x1).toNatClampNeg) fun r10 =>
      if r10 = 0 then (
        ob (fS_isMissing σ0 (x3).toNatClampNeg) fun r13 =>
        if r13 = 0 then (
          if (xi σ0 (10 + (x1).toNatClampNeg) 0) = (xi σ0 (10 + (x3).toNatClampNeg) 0) then (
            ob (fS_hasRow σ0 (x1).toNatClampNeg x2 x5) fun r17 =>
            if r17 = 0 then (
              some ((-1000000013 : Int32), σ0))
            else (
              ob (fS_hasRow σ0 (x3).toNatClampNeg x4 x5) fun r20 =>
              if r20 = 0 then (
                some ((-1000000013 : Int32), σ0))
              else (
                cp3 x2 x4 x5 24 24 <|
                bnd (xua σ0 (60 + (x3).toNatClampNeg) (va_cpy (xi σ0 (60 + (x1).toNatClampNeg)) (xi σ0 (60 + (x3).toNatClampNeg)) (x2).toNatClampNeg (x4).toNatClampNeg (x5).toNatClampNeg)) fun σ22 =>
                some (x5, σ22))))
          else (
            some ((-1000000012 : Int32), σ0)))
        else (
          some ((-1000000011 : Int32), σ0)))
      else (
        some ((-1000000011 : Int32), σ0))))

set_option maxHeartbeats 4000000 in
set_option maxRecDepth 100000 in
theorem cX_copy (l : Launch) (G : XG) (σ0 : XS) (x1 : Int32) (x2 : Int32) (x3 : Int32) (x4 : Int32) (x5 : Int32) {r : Int32} {σr : XS} (h : fX_copy σ0 x1 x2 x3 x4 x5 = some (r, σr)) : ∀ sz, Met l yX7_copy (Cond.code yX7_copy cX7_copy 8 (some .int) :: Tw) rmX_copy (xP G σ0 sz [.ref (xA G 0), .int x1, .int x2, .int x3, .int x4, .int x5]) (xQi G σ0 sz σr r) 0 0 (va_A (xW G σ0) sz) := by
  intro sz
  refine Met.ofW (cc := cX7_copy) (maxL := 8) (ret := (some .int)) (by decide) rfl ?_
  intro p e s m args below meth c s₁ Bd hml hv
  obtain ⟨hC, hr⟩ := jC_of Bd hml
  obtain ⟨rfl, rfl, hH⟩ := x_enter hv
  have hC : jC p s m _ meth c cX7_copy 8 RX7 := hC
  have hx := hC.1.1
  have hb := hC.1.2.1
  have hown := hC.1.2.2.2.1
  have hts := hC.1.2.2.2.2
  have hl := lv_entry ([.ref (xA G 0), .int x1, .int x2, .int x3, .int x4, .int x5]) (n := 8) (Nat.le_of_ble_eq_true rfl)
  rw [lg_entry_eq]
  generalize (lg_sl ([.ref (xA G 0), .int x1, .int x2, .int x3, .int x4, .int x5]) ++ List.replicate (8 - (lg_sl ([.ref (xA G 0), .int x1, .int x2, .int x3, .int x4, .int x5])).length) Slot.unset).toArray = ls at hl ⊢
  have hl : lv_has ls 8 [(0, .ref (xA G 0)), (1, .int x1), (2, .int x2), (3, .int x3), (4, .int x4), (5, .int x5)] := hl
  unfold fX_copy at h
  refine W_nm (fun H locs eH eL => ?_)
  have hH : xH G s (va_A (xW G σ0) s.heap.size) σ0 H locs := by rw [eH, eL]; exact hH
  show W p l e rmX_copy s m _ below meth c H locs 0 0 _ (F0 m 0 ls [])
  refine lv_iload_n hx hb dX7_copy_0 rfl (lv_at hl 1 rfl) ?_
  obtain ⟨r2, h1, h⟩ := ob_some h
  refine x_calls (As := [.int x1]) (rest := []) (cX_isSheet l G σ0 x1  h1) hC hH hl (va_cwS 1 hts (gS wmX7_206 wsX7_isSheet) rfl rfl rfl hdX7_isSheet ⟨Nat.le_of_ble_eq_true rfl, Nat.le_of_ble_eq_true rfl⟩) rfl rfl (Nat.le_of_ble_eq_true rfl) ⟨Nat.zero_le _, Nat.zero_le _⟩ dX7_copy_1 (fun H locs hH => ?_)
  refine lv_if_eq (tgt := 14) hx hb dX7_copy_4 (by decide) (fun c3 => ?_) (fun c3 => ?_)
  · have h := ite_t c3 h
    refine lv_ldc (v := -1000000001) hx hb hown (hts _ wkX7_89) dX7_copy_14 ?_
    obtain ⟨rfl, rfl⟩ := some_i2 h
    exact x_iret (v := -1000000001) hC hH hr rfl dX7_copy_16
  · have h := ite_f c3 h
    refine lv_iload_n hx hb dX7_copy_7 rfl (lv_at hl 3 rfl) ?_
    obtain ⟨r5, h4, h⟩ := ob_some h
    refine x_calls (As := [.int x3]) (rest := []) (cX_isSheet l G σ0 x3  h4) hC hH hl (va_cwS 1 hts (gS wmX7_206 wsX7_isSheet) rfl rfl rfl hdX7_isSheet ⟨Nat.le_of_ble_eq_true rfl, Nat.le_of_ble_eq_true rfl⟩) rfl rfl (Nat.le_of_ble_eq_true rfl) ⟨Nat.zero_le _, Nat.zero_le _⟩ dX7_copy_8 (fun H locs hH => ?_)
    refine lv_if_ne (tgt := 17) hx hb dX7_copy_11 (by decide) (fun c6 => ?_) (fun c6 => ?_)
    · have h := ite_f c6 h
      refine lv_aload_n hx hb dX7_copy_17 rfl (lv_at hl 0 rfl) ?_
      refine x_get (C := RX7) (T := TX7) (N := 14) (v := .ref (xA G 8)) hC hH (xe_X G σ0) rfl wyX7 10 (by decide) wfX7_60 rfl rfl dX7_copy_18 ?_
      refine lv_iload_n hx hb dX7_copy_21 rfl (lv_at hl 1 rfl) ?_
      obtain ⟨i7, h⟩ := ck_some h
      refine x_sheets hC hH i7 dX7_copy_22 ?_
      refine lv_astore (lv' := [(6, .ref (xA G (60 + (x1).toNatClampNeg))), (0, .ref (xA G 0)), (1, .int x1), (2, .int x2), (3, .int x3), (4, .int x4), (5, .int x5)]) hx hb dX7_copy_23 hl (by decide) rfl (fun ls hl => ?_)
      refine lv_aload_n hx hb dX7_copy_25 rfl (lv_at hl 1 rfl) ?_
      refine x_get (C := RX7) (T := TX7) (N := 14) (v := .ref (xA G 8)) hC hH (xe_X G σ0) rfl wyX7 10 (by decide) wfX7_60 rfl rfl dX7_copy_26 ?_
      refine lv_iload_n hx hb dX7_copy_29 rfl (lv_at hl 4 rfl) ?_
      obtain ⟨i8, h⟩ := ck_some h
      refine x_sheets hC hH i8 dX7_copy_30 ?_
      refine lv_astore (lv' := [(7, .ref (xA G (60 + (x3).toNatClampNeg))), (6, .ref (xA G (60 + (x1).toNatClampNeg))), (0, .ref (xA G 0)), (1, .int x1), (2, .int x2), (3, .int x3), (4, .int x4), (5, .int x5)]) hx hb dX7_copy_31 hl (by decide) rfl (fun ls hl => ?_)
      refine lv_aload hx hb dX7_copy_33 (lv_at hl 1 rfl) ?_
      obtain ⟨r10, h9, h⟩ := ob_some h
      refine x_calli (vw := (RX4, TX4, 3)) (As := []) (rest := []) (cS_isMissing l G σ0 (x1).toNatClampNeg (in_lt i7 (by decide)) h9) hC hH hl (xe_S G σ0 (in_lt i7 (by decide))) rfl (cwV 0 hts (gV wmX7_209 wvX4_isMissing) rfl rfl rfl hdX4_isMissing ⟨Nat.le_of_ble_eq_true rfl, Nat.le_of_ble_eq_true rfl⟩) rfl rfl (Nat.le_of_ble_eq_true rfl) ⟨Nat.zero_le _, Nat.zero_le _⟩ dX7_copy_35 (fun H locs hH => ?_)
      refine lv_if_ne (tgt := 49) hx hb dX7_copy_38 (by decide) (fun c11 => ?_) (fun c11 => ?_)
      · have h := ite_f c11 h
        refine lv_ldc (v := -1000000011) hx hb hown (hts _ wkX7_213) dX7_copy_49 ?_
        obtain ⟨rfl, rfl⟩ := some_i2 h
        exact x_iret (v := -1000000011) hC hH hr rfl dX7_copy_51
      · have h := ite_t c11 h
        refine lv_aload hx hb dX7_copy_41 (lv_at hl 0 rfl) ?_
        obtain ⟨r13, h12, h⟩ := ob_some h
        refine x_calli (vw := (RX4, TX4, 3)) (As := []) (rest := []) (cS_isMissing l G σ0 (x3).toNatClampNeg (in_lt i8 (by decide)) h12) hC hH hl (xe_S G σ0 (in_lt i8 (by decide))) rfl (cwV 0 hts (gV wmX7_209 wvX4_isMissing) rfl rfl rfl hdX4_isMissing ⟨Nat.le_of_ble_eq_true rfl, Nat.le_of_ble_eq_true rfl⟩) rfl rfl (Nat.le_of_ble_eq_true rfl) ⟨Nat.zero_le _, Nat.zero_le _⟩ dX7_copy_43 (fun H locs hH => ?_)
        refine lv_if_eq (tgt := 52) hx hb dX7_copy_46 (by decide) (fun c14 => ?_) (fun c14 => ?_)
        · have h := ite_t c14 h
          refine lv_aload hx hb dX7_copy_52 (lv_at hl 1 rfl) ?_
          refine x_getN (C := RX4) (T := TX4) (N := 3) (v := .int (xi σ0 (10 + (x1).toNatClampNeg) 0)) (host := "RoadSorted") hC hH (xe_S G σ0 (in_lt i7 (by decide))) rfl wyX4 0 (by decide) (by decide +kernel) rfl rfl dX7_copy_54 ?_
          refine lv_aload hx hb dX7_copy_57 (lv_at hl 0 rfl) ?_
          refine x_getN (C := RX4) (T := TX4) (N := 3) (v := .int (xi σ0 (10 + (x3).toNatClampNeg) 0)) (host := "RoadSorted") hC hH (xe_S G σ0 (in_lt i8 (by decide))) rfl wyX4 0 (by decide) (by decide +kernel) rfl rfl dX7_copy_59 ?_
          refine lv_icmp_eq (tgt := 68) hx hb dX7_copy_62 (by decide) (fun c15 => ?_) (fun c15 => ?_)
          · have h := ite_t c15 h
            refine lv_aload hx hb dX7_copy_68 (lv_at hl 1 rfl) ?_
            refine lv_iload_n hx hb dX7_copy_70 rfl (lv_at hl 4 rfl) ?_
            refine lv_iload hx hb dX7_copy_71 (lv_at hl 7 rfl) ?_
            obtain ⟨r17, h16, h⟩ := ob_some h
            refine x_calli (vw := (RX4, TX4, 3)) (As := [.int x2, .int x5]) (rest := []) (cS_hasRow l G σ0 (x1).toNatClampNeg x2 x5 (in_lt i7 (by decide)) h16) hC hH hl (xe_S G σ0 (in_lt i7 (by decide))) rfl (cwV 2 hts (gV wmX7_279 wvX4_hasRow) rfl rfl rfl hdX4_hasRow ⟨Nat.le_of_ble_eq_true rfl, Nat.le_of_ble_eq_true rfl⟩) rfl rfl (Nat.le_of_ble_eq_true rfl) ⟨Nat.zero_le _, Nat.zero_le _⟩ dX7_copy_73 (fun H locs hH => ?_)
            refine lv_if_eq (tgt := 91) hx hb dX7_copy_76 (by decide) (fun c18 => ?_) (fun c18 => ?_)
            · have h := ite_t c18 h
              refine lv_ldcw (v := -1000000013) hx hb hown (hts _ wkX7_261) dX7_copy_91 ?_
              obtain ⟨rfl, rfl⟩ := some_i2 h
              exact x_iret (v := -1000000013) hC hH hr rfl dX7_copy_94
            · have h := ite_f c18 h
              refine lv_aload hx hb dX7_copy_79 (lv_at hl 0 rfl) ?_
              refine lv_iload hx hb dX7_copy_81 (lv_at hl 6 rfl) ?_
              refine lv_iload hx hb dX7_copy_83 (lv_at hl 7 rfl) ?_
              obtain ⟨r20, h19, h⟩ := ob_some h
              refine x_calli (vw := (RX4, TX4, 3)) (As := [.int x4, .int x5]) (rest := []) (cS_hasRow l G σ0 (x3).toNatClampNeg x4 x5 (in_lt i8 (by decide)) h19) hC hH hl (xe_S G σ0 (in_lt i8 (by decide))) rfl (cwV 2 hts (gV wmX7_279 wvX4_hasRow) rfl rfl rfl hdX4_hasRow ⟨Nat.le_of_ble_eq_true rfl, Nat.le_of_ble_eq_true rfl⟩) rfl rfl (Nat.le_of_ble_eq_true rfl) ⟨Nat.zero_le _, Nat.zero_le _⟩ dX7_copy_85 (fun H locs hH => ?_)
              refine lv_if_ne (tgt := 95) hx hb dX7_copy_88 (by decide) (fun c21 => ?_) (fun c21 => ?_)
              · have h := ite_f c21 h
                refine lv_aload hx hb dX7_copy_95 (lv_at hl 1 rfl) ?_
                refine x_getN (C := RX4) (T := TX4) (N := 3) (v := .ref (xA G (100 + (60 + (x1).toNatClampNeg)))) (host := "RoadSorted") hC hH (xe_S G σ0 (in_lt i7 (by decide))) rfl wyX4 2 (by decide) (by decide +kernel) rfl rfl dX7_copy_97 ?_
                refine lv_iload_n hx hb dX7_copy_100 rfl (lv_at hl 4 rfl) ?_
                refine lv_aload hx hb dX7_copy_101 (lv_at hl 0 rfl) ?_
                refine x_getN (C := RX4) (T := TX4) (N := 3) (v := .ref (xA G (100 + (60 + (x3).toNatClampNeg)))) (host := "RoadSorted") hC hH (xe_S G σ0 (in_lt i8 (by decide))) rfl wyX4 2 (by decide) (by decide +kernel) rfl rfl dX7_copy_103 ?_
                refine lv_iload hx hb dX7_copy_106 (lv_at hl 6 rfl) ?_
                refine lv_iload hx hb dX7_copy_108 (lv_at hl 7 rfl) ?_
                obtain ⟨z24, h⟩ := cp3_some h
                obtain ⟨σ22, e23, h⟩ := bnd_some h
                refine x_copy (d0 := (60 + (x1).toNatClampNeg)) (d1 := (60 + (x3).toNatClampNeg)) hC hH hl.1 wmX7_282 wAcn wAcs wzJ10 (xIs_s (in_lt i7 (by decide))) (xLen_s (in_lt i7 (by decide))) (xIs_s (in_lt i8 (by decide))) (xLen_s (in_lt i8 (by decide))) z24 e23 (Nat.le_of_ble_eq_true rfl) (by decide +kernel) dX7_copy_110 (fun H locs hH => ?_)
                refine lv_iload hx hb dX7_copy_113 (lv_at hl 7 rfl) ?_
                obtain ⟨rfl, rfl⟩ := some_i2 h
                exact x_iret hC hH hr rfl dX7_copy_115
              · have h := ite_t c21 h
                refine lv_ldcw (v := -1000000013) hx hb hown (hts _ wkX7_261) dX7_copy_91 ?_
                obtain ⟨rfl, rfl⟩ := some_i2 h
                exact x_iret (v := -1000000013) hC hH hr rfl dX7_copy_94
          · have h := ite_f c15 h
            refine lv_ldc (v := -1000000012) hx hb hown (hts _ wkX7_133) dX7_copy_65 ?_
            obtain ⟨rfl, rfl⟩ := some_i2 h
            exact x_iret (v := -1000000012) hC hH hr rfl dX7_copy_67
        · have h := ite_f c14 h
          refine lv_ldc (v := -1000000011) hx hb hown (hts _ wkX7_213) dX7_copy_49 ?_
          obtain ⟨rfl, rfl⟩ := some_i2 h
          exact x_iret (v := -1000000011) hC hH hr rfl dX7_copy_51
    · have h := ite_t c6 h
      refine lv_ldc (v := -1000000001) hx hb hown (hts _ wkX7_89) dX7_copy_14 ?_
      obtain ⟨rfl, rfl⟩ := some_i2 h
      exact x_iret (v := -1000000001) hC hH hr rfl dX7_copy_16

def rmX_isSlot : Room := { frames := 1, cells := 0, slots := 0, locals := 22 }
theorem hdX7_isSlot : yX7_isSlot.cls ≠ "java/lang/invoke/MethodHandle" ∧ yX7_isSlot.cls ≠ "java/lang/invoke/VarHandle" ∧ (parseMethodDescriptor yX7_isSlot.desc).map (fun d => d.parameters.length) = some 1 := by decide +kernel

def fX_isSlot (σ0 : XS) (x0 : Int32) : Option (Int32) :=
  ob (fX_isWithin σ0 x0 (0 : Int32) (4 : Int32)) fun r2 =>
  zb r2 <|
  some r2

set_option maxHeartbeats 4000000 in
set_option maxRecDepth 100000 in
theorem cX_isSlot (l : Launch) (G : XG) (σ0 : XS) (x0 : Int32) {r : Int32} (h : fX_isSlot σ0 x0 = some r) : ∀ sz, Met l yX7_isSlot (Cond.code yX7_isSlot cX7_isSlot 1 (some .boolean) :: Tw) rmX_isSlot (xP G σ0 sz [.int x0]) (xQi G σ0 sz σ0 r) 0 0 (va_A (xW G σ0) sz) := by
  intro sz
  refine Met.ofW (cc := cX7_isSlot) (maxL := 1) (ret := (some .boolean)) (by decide) rfl ?_
  intro p e s m args below meth c s₁ Bd hml hv
  obtain ⟨hC, hr⟩ := jC_of Bd hml
  obtain ⟨rfl, rfl, hH⟩ := x_enter hv
  have hC : jC p s m _ meth c cX7_isSlot 1 RX7 := hC
  have hx := hC.1.1
  have hb := hC.1.2.1
  have hown := hC.1.2.2.2.1
  have hts := hC.1.2.2.2.2
  have hl := lv_entry ([.int x0]) (n := 1) (Nat.le_of_ble_eq_true rfl)
  rw [lg_entry_eq]
  generalize (lg_sl ([.int x0]) ++ List.replicate (1 - (lg_sl ([.int x0])).length) Slot.unset).toArray = ls at hl ⊢
  have hl : lv_has ls 1 [(0, .int x0)] := hl
  unfold fX_isSlot at h
  refine W_nm (fun H locs eH eL => ?_)
  have hH : xH G s (va_A (xW G σ0) s.heap.size) σ0 H locs := by rw [eH, eL]; exact hH
  show W p l e rmX_isSlot s m _ below meth c H locs 0 0 _ (F0 m 0 ls [])
  refine lv_iload_n hx hb dX7_isSlot_0 rfl (lv_at hl 0 rfl) ?_
  refine lv_iconst (v := 0) hx hb dX7_isSlot_1 (by decide) ?_
  refine lv_iconst (v := 4) hx hb dX7_isSlot_2 (by decide) ?_
  obtain ⟨r2, h1, h⟩ := ob_some h
  refine x_calls (As := [.int x0, .int (0 : Int32), .int (4 : Int32)]) (rest := []) (cX_isWithin l G σ0 x0 (0 : Int32) (4 : Int32)  h1) hC hH hl (va_cwS 3 hts (gS wmX7_148 wsX7_isWithin) rfl rfl rfl hdX7_isWithin ⟨Nat.le_of_ble_eq_true rfl, Nat.le_of_ble_eq_true rfl⟩) rfl rfl (Nat.le_of_ble_eq_true rfl) ⟨Nat.zero_le _, Nat.zero_le _⟩ dX7_isSlot_3 (fun H locs hH => ?_)
  obtain ⟨z3, h⟩ := zb_some h
  obtain rfl := some_i1 h
  exact x_iret hC hH hr z3 dX7_isSlot_6

def rmX_lay : Room := { frames := 2, cells := 0, slots := 0, locals := 81 }
theorem hdX7_lay : yX7_lay.cls = RX7 ∧ yX7_lay.cls ≠ "java/lang/invoke/MethodHandle" ∧ yX7_lay.cls ≠ "java/lang/invoke/VarHandle" ∧ (parseMethodDescriptor yX7_lay.desc).map (fun d => d.parameters.length) = some 3 := by decide +kernel

def fX_lay_J70 (x1 : Int32) (x2 : Int32) (x3 : Int32) (σ : XS) : Option (Int32 × XS) :=
  ck x1 5 <|
  bnd (xi σ (20 + (x1).toNatClampNeg) 0) fun v11 =>
  bnd (xu σ (20 + (x1).toNatClampNeg) 0 x2) fun σ13 =>
  if x2 = (1 : Int32) then (
    ck x3 (14) <|
    bnd (xu σ13 (20 + (x1).toNatClampNeg) 1 (xi σ13 (30 + 6 * 0 + 0) (x3).toNatClampNeg)) fun σ24 =>
    ck x3 (14) <|
    bnd (xu σ24 (20 + (x1).toNatClampNeg) 2 (xi σ24 (30 + 6 * 0 + 1) (x3).toNatClampNeg)) fun σ27 =>
    some (v11, σ27))
  else (
    if x2 = (2 : Int32) then (
      ck x3 4 <|
      ob (fS_becomeAs σ13 (4 + (x1).toNatClampNeg) (x3).toNatClampNeg) fun σ22 =>
      some (v11, σ22))
    else (
      if x2 = (3 : Int32) then (
        bnd (xu σ13 (20 + (x1).toNatClampNeg) 3 x3) fun σ18 =>
        some (v11, σ18))
      else (
        some (v11, σ13))))

set_option maxHeartbeats 4000000 in
set_option maxRecDepth 100000 in
theorem wX_lay_J70 {p : Program} {l : Launch} {e : Env} {s : State} {m : MethodId} {args : Array Value} {below : List Frame} {meth : Method} {c : Code} {G : XG} {σ0 : XS} {r : Int32} {σr : XS} (hC : jC p s m args meth c cX7_lay 6 RX7) (hr : meth.sig.returnType = some .int) (x1 : Int32) (x2 : Int32) (x3 : Int32) (σ : XS) (H : Heap) (locs : List Loc) (ls : Array Slot) (hH : xH G s (va_A (xW G σ0) s.heap.size) σ H locs) (hl : lv_has ls 6 [(0, .ref (xA G 0)), (1, .int x1), (2, .int x2), (3, .int x3)]) (h : fX_lay_J70 x1 x2 x3 σ = some (r, σr)) : W p l e rmX_lay s m args below meth c H locs 0 0 (MQ below (xQi G σ0 s.heap.size σr r) args s 0 0 (va_A (xW G σ0) s.heap.size)) (F0 m 70 ls []) := by
  have hx := hC.1.1
  have hb := hC.1.2.1
  have hown := hC.1.2.2.2.1
  have hts := hC.1.2.2.2.2
  unfold fX_lay_J70 at h
  refine lv_aload_n hx hb dX7_lay_70 rfl (lv_at hl 0 rfl) ?_
  refine x_get (C := RX7) (T := TX7) (N := 14) (v := .ref (xA G 9)) hC hH (xe_X G σ) rfl wyX7 11 (by decide) wfX7_66 rfl rfl dX7_lay_71 ?_
  refine lv_iload_n hx hb dX7_lay_74 rfl (lv_at hl 1 rfl) ?_
  obtain ⟨i10, h⟩ := ck_some h
  refine x_slots hC hH i10 dX7_lay_75 ?_
  refine lv_astore (lv' := [(4, .ref (xA G (70 + (x1).toNatClampNeg))), (0, .ref (xA G 0)), (1, .int x1), (2, .int x2), (3, .int x3)]) hx hb dX7_lay_76 hl (by decide) rfl (fun ls hl => ?_)
  refine lv_aload hx hb dX7_lay_78 (lv_at hl 0 rfl) ?_
  refine x_getN (C := RX5) (T := TX5) (N := 5) (v := .int (xi σ (20 + (x1).toNatClampNeg) 0)) (host := "RoadSorted") hC hH (xe_O G σ (in_lt i10 (by decide))) rfl wyX5 0 (by decide) (by decide +kernel) rfl rfl dX7_lay_80 ?_
  obtain ⟨v11, e12, h⟩ := bnd_some h
  refine lv_tope e12 ?_
  refine lv_istore (lv' := [(5, .int v11), (4, .ref (xA G (70 + (x1).toNatClampNeg))), (0, .ref (xA G 0)), (1, .int x1), (2, .int x2), (3, .int x3)]) hx hb dX7_lay_83 hl (by decide) rfl (fun ls hl => ?_)
  refine lv_aload hx hb dX7_lay_85 (lv_at hl 1 rfl) ?_
  refine lv_iload_n hx hb dX7_lay_87 rfl (lv_at hl 4 rfl) ?_
  obtain ⟨σ13, e14, h⟩ := bnd_some h
  refine x_putN (C := RX5) (T := TX5) (N := 5) (ty := .int) (v := .int x2) (host := "RoadSorted") hC hH (xe_O G σ (in_lt i10 (by decide))) rfl wyX5 tyX5_ok nmX5 0 (by decide) (by decide +kernel) rfl rfl (by decide +kernel) rfl rfl (Nat.le_of_ble_eq_true rfl) e14 (xs_O_0 G σ (in_lt i10 (by decide)) _) dX7_lay_88 (fun H locs hH => ?_)
  refine lv_iload_n hx hb dX7_lay_91 rfl (lv_at hl 4 rfl) ?_
  refine lv_iconst (v := 1) hx hb dX7_lay_92 (by decide) ?_
  refine lv_icmp_ne (tgt := 127) hx hb dX7_lay_93 (by decide) (fun c15 => ?_) (fun c15 => ?_)
  · have h := ite_f c15 h
    refine lv_iload_n hx hb dX7_lay_127 rfl (lv_at hl 4 rfl) ?_
    refine lv_iconst (v := 2) hx hb dX7_lay_128 (by decide) ?_
    refine lv_icmp_ne (tgt := 149) hx hb dX7_lay_129 (by decide) (fun c16 => ?_) (fun c16 => ?_)
    · have h := ite_f c16 h
      refine lv_iload_n hx hb dX7_lay_149 rfl (lv_at hl 4 rfl) ?_
      refine lv_iconst (v := 3) hx hb dX7_lay_150 (by decide) ?_
      refine lv_icmp_ne (tgt := 160) hx hb dX7_lay_151 (by decide) (fun c17 => ?_) (fun c17 => ?_)
      · have h := ite_f c17 h
        refine lv_iload hx hb dX7_lay_160 (lv_at hl 0 rfl) ?_
        obtain ⟨rfl, rfl⟩ := some_i2 h
        exact x_iret hC hH hr rfl dX7_lay_162
      · have h := ite_t c17 h
        refine lv_aload hx hb dX7_lay_154 (lv_at hl 1 rfl) ?_
        refine lv_iload_n hx hb dX7_lay_156 rfl (lv_at hl 5 rfl) ?_
        obtain ⟨σ18, e19, h⟩ := bnd_some h
        refine x_putN (C := RX5) (T := TX5) (N := 5) (ty := .int) (v := .int x3) (host := "RoadSorted") hC hH (xe_O G σ13 (in_lt i10 (by decide))) rfl wyX5 tyX5_ok nmX5 3 (by decide) (by decide +kernel) rfl rfl (by decide +kernel) rfl rfl (Nat.le_of_ble_eq_true rfl) e19 (xs_O_3 G σ13 (in_lt i10 (by decide)) _) dX7_lay_157 (fun H locs hH => ?_)
        refine lv_iload hx hb dX7_lay_160 (lv_at hl 0 rfl) ?_
        obtain ⟨rfl, rfl⟩ := some_i2 h
        exact x_iret hC hH hr rfl dX7_lay_162
    · have h := ite_t c16 h
      refine lv_aload hx hb dX7_lay_132 (lv_at hl 1 rfl) ?_
      refine x_getN (C := RX5) (T := TX5) (N := 5) (v := .ref (xA G (60 + (4 + (x1).toNatClampNeg)))) (host := "RoadSorted") hC hH (xe_O G σ13 (in_lt i10 (by decide))) rfl wyX5 4 (by decide) (by decide +kernel) rfl rfl dX7_lay_134 ?_
      refine lv_aload_n hx hb dX7_lay_137 rfl (lv_at hl 2 rfl) ?_
      refine x_get (C := RX7) (T := TX7) (N := 14) (v := .ref (xA G 8)) hC hH (xe_X G σ13) rfl wyX7 10 (by decide) wfX7_60 rfl rfl dX7_lay_138 ?_
      refine lv_iload_n hx hb dX7_lay_141 rfl (lv_at hl 5 rfl) ?_
      obtain ⟨i20, h⟩ := ck_some h
      refine x_sheets hC hH i20 dX7_lay_142 ?_
      obtain ⟨σ22, h21, h⟩ := ob_some h
      refine x_callv (vw := (RX4, TX4, 3)) (As := [.ref (xA G (60 + (x3).toNatClampNeg))]) (rest := []) (cS_becomeAs l G σ13 (4 + (x1).toNatClampNeg) (x3).toNatClampNeg (rowlt (in_lt i10 (by decide))) (in_lt i20 (by decide)) h21) hC hH hl (xe_S G σ13 (rowlt (in_lt i10 (by decide)))) rfl (cwV 1 hts (gV wmX7_302 wvX4_becomeAs) rfl rfl rfl hdX4_becomeAs ⟨Nat.le_of_ble_eq_true rfl, Nat.le_of_ble_eq_true rfl⟩) rfl rfl (Nat.le_of_ble_eq_true rfl) ⟨Nat.zero_le _, Nat.zero_le _⟩ dX7_lay_143 (fun H locs hH => ?_)
      refine lv_goto (tgt := 160) hx hb dX7_lay_146 (by decide) ?_
      refine lv_iload hx hb dX7_lay_160 (lv_at hl 0 rfl) ?_
      obtain ⟨rfl, rfl⟩ := some_i2 h
      exact x_iret hC hH hr rfl dX7_lay_162
  · have h := ite_t c15 h
    refine lv_aload hx hb dX7_lay_96 (lv_at hl 1 rfl) ?_
    refine lv_aload_n hx hb dX7_lay_98 rfl (lv_at hl 2 rfl) ?_
    refine x_get (C := RX7) (T := TX7) (N := 14) (v := .ref (xA G (1 + 0))) hC hH (xe_X G σ13) rfl wyX7 0 (by decide) wfX7_10 rfl rfl dX7_lay_99 ?_
    refine x_getN (C := RX0) (T := TX0) (N := 12) (v := .ref (xA G (100 + (30 + 6 * 0 + 0)))) (host := "RoadSorted") hC hH (xe_B G σ13 (by decide)) rfl wyX0 1 (by decide) (by decide +kernel) rfl rfl dX7_lay_102 ?_
    refine lv_iload_n hx hb dX7_lay_105 rfl (lv_at hl 5 rfl) ?_
    obtain ⟨i23, h⟩ := ck_some h
    refine x_ald hC hH (d := (30 + 6 * 0 + 0)) (xIs_b (by decide) (by decide)) (xLen_b (by decide) (by decide)) rfl i23 dX7_lay_106 ?_
    obtain ⟨σ24, e25, h⟩ := bnd_some h
    refine x_putN (C := RX5) (T := TX5) (N := 5) (ty := .int) (v := .int (xi σ13 (30 + 6 * 0 + 0) (x3).toNatClampNeg)) (host := "RoadSorted") hC hH (xe_O G σ13 (in_lt i10 (by decide))) rfl wyX5 tyX5_ok nmX5 1 (by decide) (by decide +kernel) rfl rfl (by decide +kernel) rfl rfl (Nat.le_of_ble_eq_true rfl) e25 (xs_O_1 G σ13 (in_lt i10 (by decide)) _) dX7_lay_107 (fun H locs hH => ?_)
    refine lv_aload hx hb dX7_lay_110 (lv_at hl 1 rfl) ?_
    refine lv_aload_n hx hb dX7_lay_112 rfl (lv_at hl 2 rfl) ?_
    refine x_get (C := RX7) (T := TX7) (N := 14) (v := .ref (xA G (1 + 0))) hC hH (xe_X G σ24) rfl wyX7 0 (by decide) wfX7_10 rfl rfl dX7_lay_113 ?_
    refine x_getN (C := RX0) (T := TX0) (N := 12) (v := .ref (xA G (100 + (30 + 6 * 0 + 1)))) (host := "RoadSorted") hC hH (xe_B G σ24 (by decide)) rfl wyX0 2 (by decide) (by decide +kernel) rfl rfl dX7_lay_116 ?_
    refine lv_iload_n hx hb dX7_lay_119 rfl (lv_at hl 5 rfl) ?_
    obtain ⟨i26, h⟩ := ck_some h
    refine x_ald hC hH (d := (30 + 6 * 0 + 1)) (xIs_b (by decide) (by decide)) (xLen_b (by decide) (by decide)) rfl i26 dX7_lay_120 ?_
    obtain ⟨σ27, e28, h⟩ := bnd_some h
    refine x_putN (C := RX5) (T := TX5) (N := 5) (ty := .int) (v := .int (xi σ24 (30 + 6 * 0 + 1) (x3).toNatClampNeg)) (host := "RoadSorted") hC hH (xe_O G σ24 (in_lt i10 (by decide))) rfl wyX5 tyX5_ok nmX5 2 (by decide) (by decide +kernel) rfl rfl (by decide +kernel) rfl rfl (Nat.le_of_ble_eq_true rfl) e28 (xs_O_2 G σ24 (in_lt i10 (by decide)) _) dX7_lay_121 (fun H locs hH => ?_)
    refine lv_goto (tgt := 160) hx hb dX7_lay_124 (by decide) ?_
    refine lv_iload hx hb dX7_lay_160 (lv_at hl 0 rfl) ?_
    obtain ⟨rfl, rfl⟩ := some_i2 h
    exact x_iret hC hH hr rfl dX7_lay_162

def fX_lay_J50 (x1 : Int32) (x2 : Int32) (x3 : Int32) (σ : XS) : Option (Int32 × XS) :=
  if x2 = (2 : Int32) then (
    ck x3 4 <|
    ob (fS_isMissing σ (x3).toNatClampNeg) fun r31 =>
    if r31 = 0 then (
      fX_lay_J70 x1 x2 x3 σ)
    else (
      some ((-1000000011 : Int32), σ)))
  else (
    fX_lay_J70 x1 x2 x3 σ)

set_option maxHeartbeats 4000000 in
set_option maxRecDepth 100000 in
theorem wX_lay_J50 {p : Program} {l : Launch} {e : Env} {s : State} {m : MethodId} {args : Array Value} {below : List Frame} {meth : Method} {c : Code} {G : XG} {σ0 : XS} {r : Int32} {σr : XS} (hC : jC p s m args meth c cX7_lay 6 RX7) (hr : meth.sig.returnType = some .int) (x1 : Int32) (x2 : Int32) (x3 : Int32) (σ : XS) (H : Heap) (locs : List Loc) (ls : Array Slot) (hH : xH G s (va_A (xW G σ0) s.heap.size) σ H locs) (hl : lv_has ls 6 [(0, .ref (xA G 0)), (1, .int x1), (2, .int x2), (3, .int x3)]) (h : fX_lay_J50 x1 x2 x3 σ = some (r, σr)) : W p l e rmX_lay s m args below meth c H locs 0 0 (MQ below (xQi G σ0 s.heap.size σr r) args s 0 0 (va_A (xW G σ0) s.heap.size)) (F0 m 50 ls []) := by
  have hx := hC.1.1
  have hb := hC.1.2.1
  have hown := hC.1.2.2.2.1
  have hts := hC.1.2.2.2.2
  unfold fX_lay_J50 at h
  refine lv_iload_n hx hb dX7_lay_50 rfl (lv_at hl 2 rfl) ?_
  refine lv_iconst (v := 2) hx hb dX7_lay_51 (by decide) ?_
  refine lv_icmp_ne (tgt := 70) hx hb dX7_lay_52 (by decide) (fun c9 => ?_) (fun c9 => ?_)
  · have h := ite_f c9 h
    exact wX_lay_J70 hC hr  x1 x2 x3 σ H locs ls  hH hl h
  · have h := ite_t c9 h
    refine lv_aload_n hx hb dX7_lay_55 rfl (lv_at hl 0 rfl) ?_
    refine x_get (C := RX7) (T := TX7) (N := 14) (v := .ref (xA G 8)) hC hH (xe_X G σ) rfl wyX7 10 (by decide) wfX7_60 rfl rfl dX7_lay_56 ?_
    refine lv_iload_n hx hb dX7_lay_59 rfl (lv_at hl 3 rfl) ?_
    obtain ⟨i29, h⟩ := ck_some h
    refine x_sheets hC hH i29 dX7_lay_60 ?_
    obtain ⟨r31, h30, h⟩ := ob_some h
    refine x_calli (vw := (RX4, TX4, 3)) (As := []) (rest := []) (cS_isMissing l G σ (x3).toNatClampNeg (in_lt i29 (by decide)) h30) hC hH hl (xe_S G σ (in_lt i29 (by decide))) rfl (cwV 0 hts (gV wmX7_209 wvX4_isMissing) rfl rfl rfl hdX4_isMissing ⟨Nat.le_of_ble_eq_true rfl, Nat.le_of_ble_eq_true rfl⟩) rfl rfl (Nat.le_of_ble_eq_true rfl) ⟨Nat.zero_le _, Nat.zero_le _⟩ dX7_lay_61 (fun H locs hH => ?_)
    refine lv_if_eq (tgt := 70) hx hb dX7_lay_64 (by decide) (fun c32 => ?_) (fun c32 => ?_)
    · have h := ite_t c32 h
      exact wX_lay_J70 hC hr  x1 x2 x3 σ H locs ls  hH hl h
    · have h := ite_f c32 h
      refine lv_ldc (v := -1000000011) hx hb hown (hts _ wkX7_213) dX7_lay_67 ?_
      obtain ⟨rfl, rfl⟩ := some_i2 h
      exact x_iret (v := -1000000011) hC hH hr rfl dX7_lay_69

def fX_lay_J35 (x1 : Int32) (x2 : Int32) (x3 : Int32) (σ : XS) : Option (Int32 × XS) :=
  if x2 = (2 : Int32) then (
    ob (fX_isSheet σ x3) fun r34 =>
    if r34 = 0 then (
      some ((-1000000001 : Int32), σ))
    else (
      fX_lay_J50 x1 x2 x3 σ))
  else (
    fX_lay_J50 x1 x2 x3 σ)

set_option maxHeartbeats 4000000 in
set_option maxRecDepth 100000 in
theorem wX_lay_J35 {p : Program} {l : Launch} {e : Env} {s : State} {m : MethodId} {args : Array Value} {below : List Frame} {meth : Method} {c : Code} {G : XG} {σ0 : XS} {r : Int32} {σr : XS} (hC : jC p s m args meth c cX7_lay 6 RX7) (hr : meth.sig.returnType = some .int) (x1 : Int32) (x2 : Int32) (x3 : Int32) (σ : XS) (H : Heap) (locs : List Loc) (ls : Array Slot) (hH : xH G s (va_A (xW G σ0) s.heap.size) σ H locs) (hl : lv_has ls 6 [(0, .ref (xA G 0)), (1, .int x1), (2, .int x2), (3, .int x3)]) (h : fX_lay_J35 x1 x2 x3 σ = some (r, σr)) : W p l e rmX_lay s m args below meth c H locs 0 0 (MQ below (xQi G σ0 s.heap.size σr r) args s 0 0 (va_A (xW G σ0) s.heap.size)) (F0 m 35 ls []) := by
  have hx := hC.1.1
  have hb := hC.1.2.1
  have hown := hC.1.2.2.2.1
  have hts := hC.1.2.2.2.2
  unfold fX_lay_J35 at h
  refine lv_iload_n hx hb dX7_lay_35 rfl (lv_at hl 2 rfl) ?_
  refine lv_iconst (v := 2) hx hb dX7_lay_36 (by decide) ?_
  refine lv_icmp_ne (tgt := 50) hx hb dX7_lay_37 (by decide) (fun c8 => ?_) (fun c8 => ?_)
  · have h := ite_f c8 h
    exact wX_lay_J50 hC hr  x1 x2 x3 σ H locs ls  hH hl h
  · have h := ite_t c8 h
    refine lv_iload_n hx hb dX7_lay_40 rfl (lv_at hl 3 rfl) ?_
    obtain ⟨r34, h33, h⟩ := ob_some h
    refine x_calls (As := [.int x3]) (rest := []) (cX_isSheet l G σ x3  h33) hC hH hl (va_cwS 1 hts (gS wmX7_206 wsX7_isSheet) rfl rfl rfl hdX7_isSheet ⟨Nat.le_of_ble_eq_true rfl, Nat.le_of_ble_eq_true rfl⟩) rfl rfl (Nat.le_of_ble_eq_true rfl) ⟨Nat.zero_le _, Nat.zero_le _⟩ dX7_lay_41 (fun H locs hH => ?_)
    refine lv_if_ne (tgt := 50) hx hb dX7_lay_44 (by decide) (fun c35 => ?_) (fun c35 => ?_)
    · have h := ite_f c35 h
      exact wX_lay_J50 hC hr  x1 x2 x3 σ H locs ls  hH hl h
    · have h := ite_t c35 h
      refine lv_ldc (v := -1000000001) hx hb hown (hts _ wkX7_89) dX7_lay_47 ?_
      obtain ⟨rfl, rfl⟩ := some_i2 h
      exact x_iret (v := -1000000001) hC hH hr rfl dX7_lay_49

def fX_lay (σ0 : XS) (x1 : Int32) (x2 : Int32) (x3 : Int32) : Option (Int32 × XS) :=
  ob (fX_isSlot σ0 x1) fun r2 =>
  if r2 = 0 then (
    some ((-1000000001 : Int32), σ0))
  else (
    ob (fX_isWithin σ0 x2 (0 : Int32) (3 : Int32)) fun r5 =>
    if r5 = 0 then (
      some ((-1000000001 : Int32), σ0))
    else (
      if x2 = (1 : Int32) then (
        ob (fB_has σ0 0 x3) fun r37 =>
        if r37 = 0 then (
          some ((-1000000001 : Int32), σ0))
        else (
          fX_lay_J35 x1 x2 x3 σ0))
      else (
        fX_lay_J35 x1 x2 x3 σ0)))

set_option maxHeartbeats 4000000 in
set_option maxRecDepth 100000 in
theorem cX_lay (l : Launch) (G : XG) (σ0 : XS) (x1 : Int32) (x2 : Int32) (x3 : Int32) {r : Int32} {σr : XS} (h : fX_lay σ0 x1 x2 x3 = some (r, σr)) : ∀ sz, Met l yX7_lay (Cond.code yX7_lay cX7_lay 6 (some .int) :: Tw) rmX_lay (xP G σ0 sz [.ref (xA G 0), .int x1, .int x2, .int x3]) (xQi G σ0 sz σr r) 0 0 (va_A (xW G σ0) sz) := by
  intro sz
  refine Met.ofW (cc := cX7_lay) (maxL := 6) (ret := (some .int)) (by decide) rfl ?_
  intro p e s m args below meth c s₁ Bd hml hv
  obtain ⟨hC, hr⟩ := jC_of Bd hml
  obtain ⟨rfl, rfl, hH⟩ := x_enter hv
  have hC : jC p s m _ meth c cX7_lay 6 RX7 := hC
  have hx := hC.1.1
  have hb := hC.1.2.1
  have hown := hC.1.2.2.2.1
  have hts := hC.1.2.2.2.2
  have hl := lv_entry ([.ref (xA G 0), .int x1, .int x2, .int x3]) (n := 6) (Nat.le_of_ble_eq_true rfl)
  rw [lg_entry_eq]
  generalize (lg_sl ([.ref (xA G 0), .int x1, .int x2, .int x3]) ++ List.replicate (6 - (lg_sl ([.ref (xA G 0), .int x1, .int x2, .int x3])).length) Slot.unset).toArray = ls at hl ⊢
  have hl : lv_has ls 6 [(0, .ref (xA G 0)), (1, .int x1), (2, .int x2), (3, .int x3)] := hl
  unfold fX_lay at h
  refine W_nm (fun H locs eH eL => ?_)
  have hH : xH G s (va_A (xW G σ0) s.heap.size) σ0 H locs := by rw [eH, eL]; exact hH
  show W p l e rmX_lay s m _ below meth c H locs 0 0 _ (F0 m 0 ls [])
  refine lv_iload_n hx hb dX7_lay_0 rfl (lv_at hl 1 rfl) ?_
  obtain ⟨r2, h1, h⟩ := ob_some h
  refine x_calls (As := [.int x1]) (rest := []) (cX_isSlot l G σ0 x1  h1) hC hH hl (va_cwS 1 hts (gS wmX7_288 wsX7_isSlot) rfl rfl rfl hdX7_isSlot ⟨Nat.le_of_ble_eq_true rfl, Nat.le_of_ble_eq_true rfl⟩) rfl rfl (Nat.le_of_ble_eq_true rfl) ⟨Nat.zero_le _, Nat.zero_le _⟩ dX7_lay_1 (fun H locs hH => ?_)
  refine lv_if_eq (tgt := 16) hx hb dX7_lay_4 (by decide) (fun c3 => ?_) (fun c3 => ?_)
  · have h := ite_t c3 h
    refine lv_ldc (v := -1000000001) hx hb hown (hts _ wkX7_89) dX7_lay_16 ?_
    obtain ⟨rfl, rfl⟩ := some_i2 h
    exact x_iret (v := -1000000001) hC hH hr rfl dX7_lay_18
  · have h := ite_f c3 h
    refine lv_iload_n hx hb dX7_lay_7 rfl (lv_at hl 2 rfl) ?_
    refine lv_iconst (v := 0) hx hb dX7_lay_8 (by decide) ?_
    refine lv_iconst (v := 3) hx hb dX7_lay_9 (by decide) ?_
    obtain ⟨r5, h4, h⟩ := ob_some h
    refine x_calls (As := [.int x2, .int (0 : Int32), .int (3 : Int32)]) (rest := []) (cX_isWithin l G σ0 x2 (0 : Int32) (3 : Int32)  h4) hC hH hl (va_cwS 3 hts (gS wmX7_148 wsX7_isWithin) rfl rfl rfl hdX7_isWithin ⟨Nat.le_of_ble_eq_true rfl, Nat.le_of_ble_eq_true rfl⟩) rfl rfl (Nat.le_of_ble_eq_true rfl) ⟨Nat.zero_le _, Nat.zero_le _⟩ dX7_lay_10 (fun H locs hH => ?_)
    refine lv_if_ne (tgt := 19) hx hb dX7_lay_13 (by decide) (fun c6 => ?_) (fun c6 => ?_)
    · have h := ite_f c6 h
      refine lv_iload_n hx hb dX7_lay_19 rfl (lv_at hl 2 rfl) ?_
      refine lv_iconst (v := 1) hx hb dX7_lay_20 (by decide) ?_
      refine lv_icmp_ne (tgt := 35) hx hb dX7_lay_21 (by decide) (fun c7 => ?_) (fun c7 => ?_)
      · have h := ite_f c7 h
        exact wX_lay_J35 hC hr  x1 x2 x3 σ0 H locs ls  hH hl h
      · have h := ite_t c7 h
        refine lv_aload_n hx hb dX7_lay_24 rfl (lv_at hl 0 rfl) ?_
        refine x_get (C := RX7) (T := TX7) (N := 14) (v := .ref (xA G (1 + 0))) hC hH (xe_X G σ0) rfl wyX7 0 (by decide) wfX7_10 rfl rfl dX7_lay_25 ?_
        refine lv_iload_n hx hb dX7_lay_28 rfl (lv_at hl 3 rfl) ?_
        obtain ⟨r37, h36, h⟩ := ob_some h
        refine x_calli (vw := (RX0, TX0, 12)) (As := [.int x3]) (rest := []) (cB_has l G σ0 0 x3 (by decide) h36) hC hH hl (xe_B G σ0 (by decide)) rfl (cwV 1 hts (gV wmX7_98 wvX0_has) rfl rfl rfl hdX0_has ⟨Nat.le_of_ble_eq_true rfl, Nat.le_of_ble_eq_true rfl⟩) rfl rfl (Nat.le_of_ble_eq_true rfl) ⟨Nat.zero_le _, Nat.zero_le _⟩ dX7_lay_29 (fun H locs hH => ?_)
        refine lv_if_eq (tgt := 47) hx hb dX7_lay_32 (by decide) (fun c38 => ?_) (fun c38 => ?_)
        · have h := ite_t c38 h
          refine lv_ldc (v := -1000000001) hx hb hown (hts _ wkX7_89) dX7_lay_47 ?_
          obtain ⟨rfl, rfl⟩ := some_i2 h
          exact x_iret (v := -1000000001) hC hH hr rfl dX7_lay_49
        · have h := ite_f c38 h
          exact wX_lay_J35 hC hr  x1 x2 x3 σ0 H locs ls  hH hl h
    · have h := ite_t c6 h
      refine lv_ldc (v := -1000000001) hx hb hown (hts _ wkX7_89) dX7_lay_16 ?_
      obtain ⟨rfl, rfl⟩ := some_i2 h
      exact x_iret (v := -1000000001) hC hH hr rfl dX7_lay_18

def rmX_ask : Room := { frames := 2, cells := 0, slots := 0, locals := 42 }
theorem hdX7_ask : yX7_ask.cls = RX7 ∧ yX7_ask.cls ≠ "java/lang/invoke/MethodHandle" ∧ yX7_ask.cls ≠ "java/lang/invoke/VarHandle" ∧ (parseMethodDescriptor yX7_ask.desc).map (fun d => d.parameters.length) = some 2 := by decide +kernel

def fX_ask (σ0 : XS) (x1 : Int32) (x2 : Int32) : Option (Int32) :=
  ob (fX_isSlot σ0 x1) fun r2 =>
  if r2 = 0 then (
    some (-1000000001 : Int32))
  else (
    ob (fX_isKind σ0 x2) fun r5 =>
    if r5 = 0 then (
      some (-1000000001 : Int32))
    else (
      ck x1 5 <|
      if (xi σ0 (20 + (x1).toNatClampNeg) 0) = 0 then (
        some (-1000000011 : Int32))
      else (
        if (xi σ0 (20 + (x1).toNatClampNeg) 0) = (1 : Int32) then (
          ob (fK_isOf σ0 (xi σ0 (20 + (x1).toNatClampNeg) 1) x2) fun r11 =>
          if r11 = 0 then (
            some (-1000000012 : Int32))
          else (
            ob (fK_worth σ0 (xi σ0 (20 + (x1).toNatClampNeg) 1) (xi σ0 (20 + (x1).toNatClampNeg) 2)) fun r14 =>
            some r14))
        else (
          some (-1000000012 : Int32)))))

set_option maxHeartbeats 4000000 in
set_option maxRecDepth 100000 in
theorem cX_ask (l : Launch) (G : XG) (σ0 : XS) (x1 : Int32) (x2 : Int32) {r : Int32} (h : fX_ask σ0 x1 x2 = some r) : ∀ sz, Met l yX7_ask (Cond.code yX7_ask cX7_ask 4 (some .int) :: Tw) rmX_ask (xP G σ0 sz [.ref (xA G 0), .int x1, .int x2]) (xQi G σ0 sz σ0 r) 0 0 (va_A (xW G σ0) sz) := by
  intro sz
  refine Met.ofW (cc := cX7_ask) (maxL := 4) (ret := (some .int)) (by decide) rfl ?_
  intro p e s m args below meth c s₁ Bd hml hv
  obtain ⟨hC, hr⟩ := jC_of Bd hml
  obtain ⟨rfl, rfl, hH⟩ := x_enter hv
  have hC : jC p s m _ meth c cX7_ask 4 RX7 := hC
  have hx := hC.1.1
  have hb := hC.1.2.1
  have hown := hC.1.2.2.2.1
  have hts := hC.1.2.2.2.2
  have hl := lv_entry ([.ref (xA G 0), .int x1, .int x2]) (n := 4) (Nat.le_of_ble_eq_true rfl)
  rw [lg_entry_eq]
  generalize (lg_sl ([.ref (xA G 0), .int x1, .int x2]) ++ List.replicate (4 - (lg_sl ([.ref (xA G 0), .int x1, .int x2])).length) Slot.unset).toArray = ls at hl ⊢
  have hl : lv_has ls 4 [(0, .ref (xA G 0)), (1, .int x1), (2, .int x2)] := hl
  unfold fX_ask at h
  refine W_nm (fun H locs eH eL => ?_)
  have hH : xH G s (va_A (xW G σ0) s.heap.size) σ0 H locs := by rw [eH, eL]; exact hH
  show W p l e rmX_ask s m _ below meth c H locs 0 0 _ (F0 m 0 ls [])
  refine lv_iload_n hx hb dX7_ask_0 rfl (lv_at hl 1 rfl) ?_
  obtain ⟨r2, h1, h⟩ := ob_some h
  refine x_calls (As := [.int x1]) (rest := []) (cX_isSlot l G σ0 x1  h1) hC hH hl (va_cwS 1 hts (gS wmX7_288 wsX7_isSlot) rfl rfl rfl hdX7_isSlot ⟨Nat.le_of_ble_eq_true rfl, Nat.le_of_ble_eq_true rfl⟩) rfl rfl (Nat.le_of_ble_eq_true rfl) ⟨Nat.zero_le _, Nat.zero_le _⟩ dX7_ask_1 (fun H locs hH => ?_)
  refine lv_if_eq (tgt := 14) hx hb dX7_ask_4 (by decide) (fun c3 => ?_) (fun c3 => ?_)
  · have h := ite_t c3 h
    refine lv_ldc (v := -1000000001) hx hb hown (hts _ wkX7_89) dX7_ask_14 ?_
    obtain rfl := some_i1 h
    exact x_iret (v := -1000000001) hC hH hr rfl dX7_ask_16
  · have h := ite_f c3 h
    refine lv_iload_n hx hb dX7_ask_7 rfl (lv_at hl 2 rfl) ?_
    obtain ⟨r5, h4, h⟩ := ob_some h
    refine x_calls (As := [.int x2]) (rest := []) (cX_isKind l G σ0 x2  h4) hC hH hl (va_cwS 1 hts (gS wmX7_79 wsX7_isKind) rfl rfl rfl hdX7_isKind ⟨Nat.le_of_ble_eq_true rfl, Nat.le_of_ble_eq_true rfl⟩) rfl rfl (Nat.le_of_ble_eq_true rfl) ⟨Nat.zero_le _, Nat.zero_le _⟩ dX7_ask_8 (fun H locs hH => ?_)
    refine lv_if_ne (tgt := 17) hx hb dX7_ask_11 (by decide) (fun c6 => ?_) (fun c6 => ?_)
    · have h := ite_f c6 h
      refine lv_aload_n hx hb dX7_ask_17 rfl (lv_at hl 0 rfl) ?_
      refine x_get (C := RX7) (T := TX7) (N := 14) (v := .ref (xA G 9)) hC hH (xe_X G σ0) rfl wyX7 11 (by decide) wfX7_66 rfl rfl dX7_ask_18 ?_
      refine lv_iload_n hx hb dX7_ask_21 rfl (lv_at hl 1 rfl) ?_
      obtain ⟨i7, h⟩ := ck_some h
      refine x_slots hC hH i7 dX7_ask_22 ?_
      refine lv_astore_n (lv' := [(3, .ref (xA G (70 + (x1).toNatClampNeg))), (0, .ref (xA G 0)), (1, .int x1), (2, .int x2)]) hx hb dX7_ask_23 rfl hl (by decide) rfl (fun ls hl => ?_)
      refine lv_aload_n hx hb dX7_ask_24 rfl (lv_at hl 0 rfl) ?_
      refine x_getN (C := RX5) (T := TX5) (N := 5) (v := .int (xi σ0 (20 + (x1).toNatClampNeg) 0)) (host := "RoadSorted") hC hH (xe_O G σ0 (in_lt i7 (by decide))) rfl wyX5 0 (by decide) (by decide +kernel) rfl rfl dX7_ask_25 ?_
      refine lv_if_ne (tgt := 34) hx hb dX7_ask_28 (by decide) (fun c8 => ?_) (fun c8 => ?_)
      · have h := ite_f c8 h
        refine lv_aload_n hx hb dX7_ask_34 rfl (lv_at hl 0 rfl) ?_
        refine x_getN (C := RX5) (T := TX5) (N := 5) (v := .int (xi σ0 (20 + (x1).toNatClampNeg) 0)) (host := "RoadSorted") hC hH (xe_O G σ0 (in_lt i7 (by decide))) rfl wyX5 0 (by decide) (by decide +kernel) rfl rfl dX7_ask_35 ?_
        refine lv_iconst (v := 1) hx hb dX7_ask_38 (by decide) ?_
        refine lv_icmp_ne (tgt := 53) hx hb dX7_ask_39 (by decide) (fun c9 => ?_) (fun c9 => ?_)
        · have h := ite_f c9 h
          refine lv_ldc (v := -1000000012) hx hb hown (hts _ wkX7_133) dX7_ask_53 ?_
          obtain rfl := some_i1 h
          exact x_iret (v := -1000000012) hC hH hr rfl dX7_ask_55
        · have h := ite_t c9 h
          refine lv_aload_n hx hb dX7_ask_42 rfl (lv_at hl 0 rfl) ?_
          refine x_getN (C := RX5) (T := TX5) (N := 5) (v := .int (xi σ0 (20 + (x1).toNatClampNeg) 1)) (host := "RoadSorted") hC hH (xe_O G σ0 (in_lt i7 (by decide))) rfl wyX5 1 (by decide) (by decide +kernel) rfl rfl dX7_ask_43 ?_
          refine lv_iload_n hx hb dX7_ask_46 rfl (lv_at hl 3 rfl) ?_
          obtain ⟨r11, h10, h⟩ := ob_some h
          refine x_calls (As := [.int (xi σ0 (20 + (x1).toNatClampNeg) 1), .int x2]) (rest := []) (cK_isOf l G σ0 (xi σ0 (20 + (x1).toNatClampNeg) 1) x2  h10) hC hH hl (va_cwS 2 hts (gS wmX7_129 wsX1_isOf) rfl rfl rfl hdX1_isOf ⟨Nat.le_of_ble_eq_true rfl, Nat.le_of_ble_eq_true rfl⟩) rfl rfl (Nat.le_of_ble_eq_true rfl) ⟨Nat.zero_le _, Nat.zero_le _⟩ dX7_ask_47 (fun H locs hH => ?_)
          refine lv_if_ne (tgt := 56) hx hb dX7_ask_50 (by decide) (fun c12 => ?_) (fun c12 => ?_)
          · have h := ite_f c12 h
            refine lv_aload_n hx hb dX7_ask_56 rfl (lv_at hl 0 rfl) ?_
            refine x_getN (C := RX5) (T := TX5) (N := 5) (v := .int (xi σ0 (20 + (x1).toNatClampNeg) 1)) (host := "RoadSorted") hC hH (xe_O G σ0 (in_lt i7 (by decide))) rfl wyX5 1 (by decide) (by decide +kernel) rfl rfl dX7_ask_57 ?_
            refine lv_aload_n hx hb dX7_ask_60 rfl (lv_at hl 0 rfl) ?_
            refine x_getN (C := RX5) (T := TX5) (N := 5) (v := .int (xi σ0 (20 + (x1).toNatClampNeg) 2)) (host := "RoadSorted") hC hH (xe_O G σ0 (in_lt i7 (by decide))) rfl wyX5 2 (by decide) (by decide +kernel) rfl rfl dX7_ask_61 ?_
            obtain ⟨r14, h13, h⟩ := ob_some h
            refine x_calls (As := [.int (xi σ0 (20 + (x1).toNatClampNeg) 1), .int (xi σ0 (20 + (x1).toNatClampNeg) 2)]) (rest := []) (cK_worth l G σ0 (xi σ0 (20 + (x1).toNatClampNeg) 1) (xi σ0 (20 + (x1).toNatClampNeg) 2)  h13) hC hH hl (va_cwS 2 hts (gS wmX7_125 wsX1_worth) rfl rfl rfl hdX1_worth ⟨Nat.le_of_ble_eq_true rfl, Nat.le_of_ble_eq_true rfl⟩) rfl rfl (Nat.le_of_ble_eq_true rfl) ⟨Nat.zero_le _, Nat.zero_le _⟩ dX7_ask_64 (fun H locs hH => ?_)
            obtain rfl := some_i1 h
            exact x_iret hC hH hr rfl dX7_ask_67
          · have h := ite_t c12 h
            refine lv_ldc (v := -1000000012) hx hb hown (hts _ wkX7_133) dX7_ask_53 ?_
            obtain rfl := some_i1 h
            exact x_iret (v := -1000000012) hC hH hr rfl dX7_ask_55
      · have h := ite_t c8 h
        refine lv_ldc (v := -1000000011) hx hb hown (hts _ wkX7_213) dX7_ask_31 ?_
        obtain rfl := some_i1 h
        exact x_iret (v := -1000000011) hC hH hr rfl dX7_ask_33
    · have h := ite_t c6 h
      refine lv_ldc (v := -1000000001) hx hb hown (hts _ wkX7_89) dX7_ask_14 ?_
      obtain rfl := some_i1 h
      exact x_iret (v := -1000000001) hC hH hr rfl dX7_ask_16

def rmX_item : Room := { frames := 2, cells := 0, slots := 0, locals := 42 }
theorem hdX7_item : yX7_item.cls = RX7 ∧ yX7_item.cls ≠ "java/lang/invoke/MethodHandle" ∧ yX7_item.cls ≠ "java/lang/invoke/VarHandle" ∧ (parseMethodDescriptor yX7_item.desc).map (fun d => d.parameters.length) = some 2 := by decide +kernel

def fX_item (σ0 : XS) (x1 : Int32) (x2 : Int32) : Option (Int32) :=
  ob (fX_isSlot σ0 x1) fun r2 =>
  if r2 = 0 then (
    some (-1000000001 : Int32))
  else (
    ck x1 5 <|
    if (xi σ0 (20 + (x1).toNatClampNeg) 0) = 0 then (
      some (-1000000011 : Int32))
    else (
      if (xi σ0 (20 + (x1).toNatClampNeg) 0) = (2 : Int32) then (
        ob (fS_has σ0 (4 + (x1).toNatClampNeg) x2) fun r8 =>
        if r8 = 0 then (
          some (-1000000013 : Int32))
        else (
          ob (fS_isNumber σ0 (4 + (x1).toNatClampNeg) x2) fun r11 =>
          if r11 = 0 then (
            some (-1000000012 : Int32))
          else (
            ck x2 (24) <|
            some (xi σ0 (60 + (4 + (x1).toNatClampNeg)) (x2).toNatClampNeg))))
      else (
        some (-1000000012 : Int32))))

set_option maxHeartbeats 4000000 in
set_option maxRecDepth 100000 in
theorem cX_item (l : Launch) (G : XG) (σ0 : XS) (x1 : Int32) (x2 : Int32) {r : Int32} (h : fX_item σ0 x1 x2 = some r) : ∀ sz, Met l yX7_item (Cond.code yX7_item cX7_item 4 (some .int) :: Tw) rmX_item (xP G σ0 sz [.ref (xA G 0), .int x1, .int x2]) (xQi G σ0 sz σ0 r) 0 0 (va_A (xW G σ0) sz) := by
  intro sz
  refine Met.ofW (cc := cX7_item) (maxL := 4) (ret := (some .int)) (by decide) rfl ?_
  intro p e s m args below meth c s₁ Bd hml hv
  obtain ⟨hC, hr⟩ := jC_of Bd hml
  obtain ⟨rfl, rfl, hH⟩ := x_enter hv
  have hC : jC p s m _ meth c cX7_item 4 RX7 := hC
  have hx := hC.1.1
  have hb := hC.1.2.1
  have hown := hC.1.2.2.2.1
  have hts := hC.1.2.2.2.2
  have hl := lv_entry ([.ref (xA G 0), .int x1, .int x2]) (n := 4) (Nat.le_of_ble_eq_true rfl)
  rw [lg_entry_eq]
  generalize (lg_sl ([.ref (xA G 0), .int x1, .int x2]) ++ List.replicate (4 - (lg_sl ([.ref (xA G 0), .int x1, .int x2])).length) Slot.unset).toArray = ls at hl ⊢
  have hl : lv_has ls 4 [(0, .ref (xA G 0)), (1, .int x1), (2, .int x2)] := hl
  unfold fX_item at h
  refine W_nm (fun H locs eH eL => ?_)
  have hH : xH G s (va_A (xW G σ0) s.heap.size) σ0 H locs := by rw [eH, eL]; exact hH
  show W p l e rmX_item s m _ below meth c H locs 0 0 _ (F0 m 0 ls [])
  refine lv_iload_n hx hb dX7_item_0 rfl (lv_at hl 1 rfl) ?_
  obtain ⟨r2, h1, h⟩ := ob_some h
  refine x_calls (As := [.int x1]) (rest := []) (cX_isSlot l G σ0 x1  h1) hC hH hl (va_cwS 1 hts (gS wmX7_288 wsX7_isSlot) rfl rfl rfl hdX7_isSlot ⟨Nat.le_of_ble_eq_true rfl, Nat.le_of_ble_eq_true rfl⟩) rfl rfl (Nat.le_of_ble_eq_true rfl) ⟨Nat.zero_le _, Nat.zero_le _⟩ dX7_item_1 (fun H locs hH => ?_)
  refine lv_if_ne (tgt := 10) hx hb dX7_item_4 (by decide) (fun c3 => ?_) (fun c3 => ?_)
  · have h := ite_f c3 h
    refine lv_aload_n hx hb dX7_item_10 rfl (lv_at hl 0 rfl) ?_
    refine x_get (C := RX7) (T := TX7) (N := 14) (v := .ref (xA G 9)) hC hH (xe_X G σ0) rfl wyX7 11 (by decide) wfX7_66 rfl rfl dX7_item_11 ?_
    refine lv_iload_n hx hb dX7_item_14 rfl (lv_at hl 1 rfl) ?_
    obtain ⟨i4, h⟩ := ck_some h
    refine x_slots hC hH i4 dX7_item_15 ?_
    refine lv_astore_n (lv' := [(3, .ref (xA G (70 + (x1).toNatClampNeg))), (0, .ref (xA G 0)), (1, .int x1), (2, .int x2)]) hx hb dX7_item_16 rfl hl (by decide) rfl (fun ls hl => ?_)
    refine lv_aload_n hx hb dX7_item_17 rfl (lv_at hl 0 rfl) ?_
    refine x_getN (C := RX5) (T := TX5) (N := 5) (v := .int (xi σ0 (20 + (x1).toNatClampNeg) 0)) (host := "RoadSorted") hC hH (xe_O G σ0 (in_lt i4 (by decide))) rfl wyX5 0 (by decide) (by decide +kernel) rfl rfl dX7_item_18 ?_
    refine lv_if_ne (tgt := 27) hx hb dX7_item_21 (by decide) (fun c5 => ?_) (fun c5 => ?_)
    · have h := ite_f c5 h
      refine lv_aload_n hx hb dX7_item_27 rfl (lv_at hl 0 rfl) ?_
      refine x_getN (C := RX5) (T := TX5) (N := 5) (v := .int (xi σ0 (20 + (x1).toNatClampNeg) 0)) (host := "RoadSorted") hC hH (xe_O G σ0 (in_lt i4 (by decide))) rfl wyX5 0 (by decide) (by decide +kernel) rfl rfl dX7_item_28 ?_
      refine lv_iconst (v := 2) hx hb dX7_item_31 (by decide) ?_
      refine lv_icmp_eq (tgt := 38) hx hb dX7_item_32 (by decide) (fun c6 => ?_) (fun c6 => ?_)
      · have h := ite_t c6 h
        refine lv_aload_n hx hb dX7_item_38 rfl (lv_at hl 0 rfl) ?_
        refine x_getN (C := RX5) (T := TX5) (N := 5) (v := .ref (xA G (60 + (4 + (x1).toNatClampNeg)))) (host := "RoadSorted") hC hH (xe_O G σ0 (in_lt i4 (by decide))) rfl wyX5 4 (by decide) (by decide +kernel) rfl rfl dX7_item_39 ?_
        refine lv_iload_n hx hb dX7_item_42 rfl (lv_at hl 3 rfl) ?_
        obtain ⟨r8, h7, h⟩ := ob_some h
        refine x_calli (vw := (RX4, TX4, 3)) (As := [.int x2]) (rest := []) (cS_has l G σ0 (4 + (x1).toNatClampNeg) x2 (rowlt (in_lt i4 (by decide))) h7) hC hH hl (xe_S G σ0 (rowlt (in_lt i4 (by decide)))) rfl (cwV 1 hts (gV wmX7_260 wvX4_has) rfl rfl rfl hdX4_has ⟨Nat.le_of_ble_eq_true rfl, Nat.le_of_ble_eq_true rfl⟩) rfl rfl (Nat.le_of_ble_eq_true rfl) ⟨Nat.zero_le _, Nat.zero_le _⟩ dX7_item_43 (fun H locs hH => ?_)
        refine lv_if_ne (tgt := 53) hx hb dX7_item_46 (by decide) (fun c9 => ?_) (fun c9 => ?_)
        · have h := ite_f c9 h
          refine lv_aload_n hx hb dX7_item_53 rfl (lv_at hl 0 rfl) ?_
          refine x_getN (C := RX5) (T := TX5) (N := 5) (v := .ref (xA G (60 + (4 + (x1).toNatClampNeg)))) (host := "RoadSorted") hC hH (xe_O G σ0 (in_lt i4 (by decide))) rfl wyX5 4 (by decide) (by decide +kernel) rfl rfl dX7_item_54 ?_
          refine lv_iload_n hx hb dX7_item_57 rfl (lv_at hl 3 rfl) ?_
          obtain ⟨r11, h10, h⟩ := ob_some h
          refine x_calli (vw := (RX4, TX4, 3)) (As := [.int x2]) (rest := []) (cS_isNumber l G σ0 (4 + (x1).toNatClampNeg) x2 (rowlt (in_lt i4 (by decide))) h10) hC hH hl (xe_S G σ0 (rowlt (in_lt i4 (by decide)))) rfl (cwV 1 hts (gV wmX7_273 wvX4_isNumber) rfl rfl rfl hdX4_isNumber ⟨Nat.le_of_ble_eq_true rfl, Nat.le_of_ble_eq_true rfl⟩) rfl rfl (Nat.le_of_ble_eq_true rfl) ⟨Nat.zero_le _, Nat.zero_le _⟩ dX7_item_58 (fun H locs hH => ?_)
          refine lv_if_eq (tgt := 76) hx hb dX7_item_61 (by decide) (fun c12 => ?_) (fun c12 => ?_)
          · have h := ite_t c12 h
            refine lv_ldc (v := -1000000012) hx hb hown (hts _ wkX7_133) dX7_item_76 ?_
            obtain rfl := some_i1 h
            exact x_iret (v := -1000000012) hC hH hr rfl dX7_item_78
          · have h := ite_f c12 h
            refine lv_aload_n hx hb dX7_item_64 rfl (lv_at hl 0 rfl) ?_
            refine x_getN (C := RX5) (T := TX5) (N := 5) (v := .ref (xA G (60 + (4 + (x1).toNatClampNeg)))) (host := "RoadSorted") hC hH (xe_O G σ0 (in_lt i4 (by decide))) rfl wyX5 4 (by decide) (by decide +kernel) rfl rfl dX7_item_65 ?_
            refine x_getN (C := RX4) (T := TX4) (N := 3) (v := .ref (xA G (100 + (60 + (4 + (x1).toNatClampNeg))))) (host := "RoadSorted") hC hH (xe_S G σ0 (rowlt (in_lt i4 (by decide)))) rfl wyX4 2 (by decide) (by decide +kernel) rfl rfl dX7_item_68 ?_
            refine lv_iload_n hx hb dX7_item_71 rfl (lv_at hl 3 rfl) ?_
            obtain ⟨i13, h⟩ := ck_some h
            refine x_ald hC hH (d := (60 + (4 + (x1).toNatClampNeg))) (xIs_s (rowlt (in_lt i4 (by decide)))) (xLen_s (rowlt (in_lt i4 (by decide)))) rfl i13 dX7_item_72 ?_
            refine lv_goto (tgt := 78) hx hb dX7_item_73 (by decide) ?_
            obtain rfl := some_i1 h
            exact x_iret hC hH hr rfl dX7_item_78
        · have h := ite_t c9 h
          refine lv_ldcw (v := -1000000013) hx hb hown (hts _ wkX7_261) dX7_item_49 ?_
          obtain rfl := some_i1 h
          exact x_iret (v := -1000000013) hC hH hr rfl dX7_item_52
      · have h := ite_f c6 h
        refine lv_ldc (v := -1000000012) hx hb hown (hts _ wkX7_133) dX7_item_35 ?_
        obtain rfl := some_i1 h
        exact x_iret (v := -1000000012) hC hH hr rfl dX7_item_37
    · have h := ite_t c5 h
      refine lv_ldc (v := -1000000011) hx hb hown (hts _ wkX7_213) dX7_item_24 ?_
      obtain rfl := some_i1 h
      exact x_iret (v := -1000000011) hC hH hr rfl dX7_item_26
  · have h := ite_t c3 h
    refine lv_ldc (v := -1000000001) hx hb hown (hts _ wkX7_89) dX7_item_7 ?_
    obtain rfl := some_i1 h
    exact x_iret (v := -1000000001) hC hH hr rfl dX7_item_9

def rmX_rest : Room := { frames := 2, cells := 0, slots := 0, locals := 42 }
theorem hdX7_rest : yX7_rest.cls = RX7 ∧ yX7_rest.cls ≠ "java/lang/invoke/MethodHandle" ∧ yX7_rest.cls ≠ "java/lang/invoke/VarHandle" ∧ (parseMethodDescriptor yX7_rest.desc).map (fun d => d.parameters.length) = some 2 := by decide +kernel

def fX_rest (σ0 : XS) (x1 : Int32) (x2 : Int32) : Option (Int32) :=
  ob (fX_isSlot σ0 x1) fun r2 =>
  if r2 = 0 then (
    some (-1000000001 : Int32))
  else (
    ck x1 5 <|
    if (xi σ0 (20 + (x1).toNatClampNeg) 0) = 0 then (
      some (-1000000011 : Int32))
    else (
      if (xi σ0 (20 + (x1).toNatClampNeg) 0) = (3 : Int32) then (
        if x2 = 0 then (
          some (-1000000002 : Int32))
        else (
          nz x2 <|
          some ((xi σ0 (20 + (x1).toNatClampNeg) 3) - (xi σ0 (20 + (x1).toNatClampNeg) 3) / x2 * x2)))
      else (
        some (-1000000012 : Int32))))

set_option maxHeartbeats 4000000 in
set_option maxRecDepth 100000 in
theorem cX_rest (l : Launch) (G : XG) (σ0 : XS) (x1 : Int32) (x2 : Int32) {r : Int32} (h : fX_rest σ0 x1 x2 = some r) : ∀ sz, Met l yX7_rest (Cond.code yX7_rest cX7_rest 4 (some .int) :: Tw) rmX_rest (xP G σ0 sz [.ref (xA G 0), .int x1, .int x2]) (xQi G σ0 sz σ0 r) 0 0 (va_A (xW G σ0) sz) := by
  intro sz
  refine Met.ofW (cc := cX7_rest) (maxL := 4) (ret := (some .int)) (by decide) rfl ?_
  intro p e s m args below meth c s₁ Bd hml hv
  obtain ⟨hC, hr⟩ := jC_of Bd hml
  obtain ⟨rfl, rfl, hH⟩ := x_enter hv
  have hC : jC p s m _ meth c cX7_rest 4 RX7 := hC
  have hx := hC.1.1
  have hb := hC.1.2.1
  have hown := hC.1.2.2.2.1
  have hts := hC.1.2.2.2.2
  have hl := lv_entry ([.ref (xA G 0), .int x1, .int x2]) (n := 4) (Nat.le_of_ble_eq_true rfl)
  rw [lg_entry_eq]
  generalize (lg_sl ([.ref (xA G 0), .int x1, .int x2]) ++ List.replicate (4 - (lg_sl ([.ref (xA G 0), .int x1, .int x2])).length) Slot.unset).toArray = ls at hl ⊢
  have hl : lv_has ls 4 [(0, .ref (xA G 0)), (1, .int x1), (2, .int x2)] := hl
  unfold fX_rest at h
  refine W_nm (fun H locs eH eL => ?_)
  have hH : xH G s (va_A (xW G σ0) s.heap.size) σ0 H locs := by rw [eH, eL]; exact hH
  show W p l e rmX_rest s m _ below meth c H locs 0 0 _ (F0 m 0 ls [])
  refine lv_iload_n hx hb dX7_rest_0 rfl (lv_at hl 1 rfl) ?_
  obtain ⟨r2, h1, h⟩ := ob_some h
  refine x_calls (As := [.int x1]) (rest := []) (cX_isSlot l G σ0 x1  h1) hC hH hl (va_cwS 1 hts (gS wmX7_288 wsX7_isSlot) rfl rfl rfl hdX7_isSlot ⟨Nat.le_of_ble_eq_true rfl, Nat.le_of_ble_eq_true rfl⟩) rfl rfl (Nat.le_of_ble_eq_true rfl) ⟨Nat.zero_le _, Nat.zero_le _⟩ dX7_rest_1 (fun H locs hH => ?_)
  refine lv_if_ne (tgt := 10) hx hb dX7_rest_4 (by decide) (fun c3 => ?_) (fun c3 => ?_)
  · have h := ite_f c3 h
    refine lv_aload_n hx hb dX7_rest_10 rfl (lv_at hl 0 rfl) ?_
    refine x_get (C := RX7) (T := TX7) (N := 14) (v := .ref (xA G 9)) hC hH (xe_X G σ0) rfl wyX7 11 (by decide) wfX7_66 rfl rfl dX7_rest_11 ?_
    refine lv_iload_n hx hb dX7_rest_14 rfl (lv_at hl 1 rfl) ?_
    obtain ⟨i4, h⟩ := ck_some h
    refine x_slots hC hH i4 dX7_rest_15 ?_
    refine lv_astore_n (lv' := [(3, .ref (xA G (70 + (x1).toNatClampNeg))), (0, .ref (xA G 0)), (1, .int x1), (2, .int x2)]) hx hb dX7_rest_16 rfl hl (by decide) rfl (fun ls hl => ?_)
    refine lv_aload_n hx hb dX7_rest_17 rfl (lv_at hl 0 rfl) ?_
    refine x_getN (C := RX5) (T := TX5) (N := 5) (v := .int (xi σ0 (20 + (x1).toNatClampNeg) 0)) (host := "RoadSorted") hC hH (xe_O G σ0 (in_lt i4 (by decide))) rfl wyX5 0 (by decide) (by decide +kernel) rfl rfl dX7_rest_18 ?_
    refine lv_if_ne (tgt := 27) hx hb dX7_rest_21 (by decide) (fun c5 => ?_) (fun c5 => ?_)
    · have h := ite_f c5 h
      refine lv_aload_n hx hb dX7_rest_27 rfl (lv_at hl 0 rfl) ?_
      refine x_getN (C := RX5) (T := TX5) (N := 5) (v := .int (xi σ0 (20 + (x1).toNatClampNeg) 0)) (host := "RoadSorted") hC hH (xe_O G σ0 (in_lt i4 (by decide))) rfl wyX5 0 (by decide) (by decide +kernel) rfl rfl dX7_rest_28 ?_
      refine lv_iconst (v := 3) hx hb dX7_rest_31 (by decide) ?_
      refine lv_icmp_eq (tgt := 38) hx hb dX7_rest_32 (by decide) (fun c6 => ?_) (fun c6 => ?_)
      · have h := ite_t c6 h
        refine lv_iload_n hx hb dX7_rest_38 rfl (lv_at hl 3 rfl) ?_
        refine lv_if_ne (tgt := 48) hx hb dX7_rest_39 (by decide) (fun c7 => ?_) (fun c7 => ?_)
        · have h := ite_f c7 h
          refine lv_aload_n hx hb dX7_rest_48 rfl (lv_at hl 0 rfl) ?_
          refine x_getN (C := RX5) (T := TX5) (N := 5) (v := .int (xi σ0 (20 + (x1).toNatClampNeg) 3)) (host := "RoadSorted") hC hH (xe_O G σ0 (in_lt i4 (by decide))) rfl wyX5 3 (by decide) (by decide +kernel) rfl rfl dX7_rest_49 ?_
          refine lv_iload_n hx hb dX7_rest_52 rfl (lv_at hl 3 rfl) ?_
          obtain ⟨z8, h⟩ := nz_some h
          refine lv_irem hx hb dX7_rest_53 z8 ?_
          obtain rfl := some_i1 h
          exact x_iret hC hH hr rfl dX7_rest_54
        · have h := ite_t c7 h
          refine lv_ldcw (v := -1000000002) hx hb hown (hts _ wkX7_308) dX7_rest_42 ?_
          refine lv_goto (tgt := 54) hx hb dX7_rest_45 (by decide) ?_
          obtain rfl := some_i1 h
          exact x_iret (v := -1000000002) hC hH hr rfl dX7_rest_54
      · have h := ite_f c6 h
        refine lv_ldc (v := -1000000012) hx hb hown (hts _ wkX7_133) dX7_rest_35 ?_
        obtain rfl := some_i1 h
        exact x_iret (v := -1000000012) hC hH hr rfl dX7_rest_37
    · have h := ite_t c5 h
      refine lv_ldc (v := -1000000011) hx hb hown (hts _ wkX7_213) dX7_rest_24 ?_
      obtain rfl := some_i1 h
      exact x_iret (v := -1000000011) hC hH hr rfl dX7_rest_26
  · have h := ite_t c3 h
    refine lv_ldc (v := -1000000001) hx hb hown (hts _ wkX7_89) dX7_rest_7 ?_
    obtain rfl := some_i1 h
    exact x_iret (v := -1000000001) hC hH hr rfl dX7_rest_9

def rmX_tell : Room := { frames := 0, cells := 0, slots := 0, locals := 0 }
theorem hdX7_tell : yX7_tell.cls = RX7 ∧ yX7_tell.cls ≠ "java/lang/invoke/MethodHandle" ∧ yX7_tell.cls ≠ "java/lang/invoke/VarHandle" ∧ (parseMethodDescriptor yX7_tell.desc).map (fun d => d.parameters.length) = some 1 := by decide +kernel

def fX_tell (σ0 : XS) (x1 : Int32) : Option (Int32 × XS) :=
  if (xi σ0 0 13) = (60 : Int32) then (
    some ((-1000000003 : Int32), σ0))
  else (
    ck (xi σ0 0 13) (60) <|
    bnd (xu σ0 56 ((xi σ0 0 13)).toNatClampNeg x1) fun σ2 =>
    bnd (xu σ2 0 13 ((xi σ2 0 13) + (1 : Int32))) fun σ5 =>
    some ((xi σ5 0 13), σ5))

set_option maxHeartbeats 4000000 in
set_option maxRecDepth 100000 in
theorem cX_tell (l : Launch) (G : XG) (σ0 : XS) (x1 : Int32) {r : Int32} {σr : XS} (h : fX_tell σ0 x1 = some (r, σr)) : ∀ sz, Met l yX7_tell (Cond.code yX7_tell cX7_tell 2 (some .int) :: Tw) rmX_tell (xP G σ0 sz [.ref (xA G 0), .int x1]) (xQi G σ0 sz σr r) 0 0 (va_A (xW G σ0) sz) := by
  intro sz
  refine Met.ofW (cc := cX7_tell) (maxL := 2) (ret := (some .int)) (by decide) rfl ?_
  intro p e s m args below meth c s₁ Bd hml hv
  obtain ⟨hC, hr⟩ := jC_of Bd hml
  obtain ⟨rfl, rfl, hH⟩ := x_enter hv
  have hC : jC p s m _ meth c cX7_tell 2 RX7 := hC
  have hx := hC.1.1
  have hb := hC.1.2.1
  have hown := hC.1.2.2.2.1
  have hts := hC.1.2.2.2.2
  have hl := lv_entry ([.ref (xA G 0), .int x1]) (n := 2) (Nat.le_of_ble_eq_true rfl)
  rw [lg_entry_eq]
  generalize (lg_sl ([.ref (xA G 0), .int x1]) ++ List.replicate (2 - (lg_sl ([.ref (xA G 0), .int x1])).length) Slot.unset).toArray = ls at hl ⊢
  have hl : lv_has ls 2 [(0, .ref (xA G 0)), (1, .int x1)] := hl
  unfold fX_tell at h
  refine W_nm (fun H locs eH eL => ?_)
  have hH : xH G s (va_A (xW G σ0) s.heap.size) σ0 H locs := by rw [eH, eL]; exact hH
  show W p l e rmX_tell s m _ below meth c H locs 0 0 _ (F0 m 0 ls [])
  refine lv_aload_n hx hb dX7_tell_0 rfl (lv_at hl 0 rfl) ?_
  refine x_get (C := RX7) (T := TX7) (N := 14) (v := .int (xi σ0 0 13)) hC hH (xe_X G σ0) rfl wyX7 13 (by decide) wfX7_74 rfl rfl dX7_tell_1 ?_
  refine lv_bipush (v := 60) hx hb dX7_tell_4 (by decide) ?_
  refine lv_icmp_ne (tgt := 12) hx hb dX7_tell_6 (by decide) (fun c1 => ?_) (fun c1 => ?_)
  · have h := ite_f c1 h
    refine lv_aload_n hx hb dX7_tell_12 rfl (lv_at hl 0 rfl) ?_
    refine x_get (C := RX7) (T := TX7) (N := 14) (v := .ref (xA G (100 + 56))) hC hH (xe_X G σ0) rfl wyX7 12 (by decide) wfX7_70 rfl rfl dX7_tell_13 ?_
    refine lv_aload_n hx hb dX7_tell_16 rfl (lv_at hl 0 rfl) ?_
    refine x_get (C := RX7) (T := TX7) (N := 14) (v := .int (xi σ0 0 13)) hC hH (xe_X G σ0) rfl wyX7 13 (by decide) wfX7_74 rfl rfl dX7_tell_17 ?_
    refine lv_iload_n hx hb dX7_tell_20 rfl (lv_at hl 1 rfl) ?_
    obtain ⟨i4, h⟩ := ck_some h
    obtain ⟨σ2, e3, h⟩ := bnd_some h
    refine x_ast hC hH (d := 56) rfl rfl rfl e3 i4 dX7_tell_21 (fun H locs hH => ?_)
    refine lv_aload_n hx hb dX7_tell_22 rfl (lv_at hl 0 rfl) ?_
    refine lv_dup hx hb dX7_tell_23 rfl ?_
    refine x_get (C := RX7) (T := TX7) (N := 14) (v := .int (xi σ2 0 13)) hC hH (xe_X G σ2) rfl wyX7 13 (by decide) wfX7_74 rfl rfl dX7_tell_24 ?_
    refine lv_iconst (v := 1) hx hb dX7_tell_27 (by decide) ?_
    refine lv_iadd hx hb dX7_tell_28 ?_
    obtain ⟨σ5, e6, h⟩ := bnd_some h
    refine x_put (C := RX7) (T := TX7) (N := 14) (ty := .int) (v := .int ((xi σ2 0 13) + (1 : Int32))) hC hH (xe_X G σ2) rfl wyX7 tyX7_ok nmX7 13 (by decide) wfX7_74 rfl rfl (by decide +kernel) rfl rfl (Nat.le_of_ble_eq_true rfl) e6 (xs_X_13 G σ2 _) dX7_tell_29 (fun H locs hH => ?_)
    refine lv_aload_n hx hb dX7_tell_32 rfl (lv_at hl 0 rfl) ?_
    refine x_get (C := RX7) (T := TX7) (N := 14) (v := .int (xi σ5 0 13)) hC hH (xe_X G σ5) rfl wyX7 13 (by decide) wfX7_74 rfl rfl dX7_tell_33 ?_
    obtain ⟨rfl, rfl⟩ := some_i2 h
    exact x_iret hC hH hr rfl dX7_tell_36
  · have h := ite_t c1 h
    refine lv_ldc (v := -1000000003) hx hb hown (hts _ wkX7_93) dX7_tell_9 ?_
    obtain ⟨rfl, rfl⟩ := some_i2 h
    exact x_iret (v := -1000000003) hC hH hr rfl dX7_tell_11

def rmX_check : Room := { frames := 4, cells := 0, slots := 0, locals := 105 }
theorem hdX7_check : yX7_check.cls = RX7 ∧ yX7_check.cls ≠ "java/lang/invoke/MethodHandle" ∧ yX7_check.cls ≠ "java/lang/invoke/VarHandle" ∧ (parseMethodDescriptor yX7_check.desc).map (fun d => d.parameters.length) = some 1 := by decide +kernel

def fX_check_L66 (k145 : Int32 → Int32 → XS → Option (Int32 × XS)) : Nat → Int32 → Int32 → Int32 → XS → Option (Int32 × XS)
  | 0, _, _, _, _ => none
  | n + 1, x2, x3, x4, σ =>
    if x3 ≤ x4 then (
      k145 x2 x3 σ)
    else (
      ob (fB_joltOnce σ 2) fun σ15 =>
      if x2 ≤ x4 then (
        some (((1 : Int32) + x4), σ15))
      else (
        ck x4 (60) <|
        ob (fB_thickOnTop σ15 2) fun r19 =>
        if (xi σ15 56 (x4).toNatClampNeg) = r19 then (
          if x2 ≤ (x4 + (1 : Int32)) then (
            some (((2 : Int32) + x4), σ15))
          else (
            ck (x4 + (1 : Int32)) (60) <|
            if (xi σ15 56 ((x4 + (1 : Int32))).toNatClampNeg) = (xi σ15 (1 + 2) 8) then (
              bnd (x4 + (2 : Int32)) fun v24 =>
              (fX_check_L66 k145 n) x2 x3 v24 σ15)
            else (
              some (((2 : Int32) + x4), σ15))))
        else (
          some (((1 : Int32) + x4), σ15))))

set_option maxHeartbeats 4000000 in
set_option maxRecDepth 100000 in
theorem wX_check_L66 {p : Program} {l : Launch} {e : Env} {s : State} {m : MethodId} {args : Array Value} {below : List Frame} {meth : Method} {c : Code} {G : XG} {σ0 : XS} {r : Int32} {σr : XS} (hC : jC p s m args meth c cX7_check 5 RX7) (hr : meth.sig.returnType = some .int) {k145 : Int32 → Int32 → XS → Option (Int32 × XS)} (hk145 : ∀ (x2 : Int32) (x3 : Int32) (σ : XS) (H : Heap) (locs : List Loc) (ls : Array Slot), xH G s (va_A (xW G σ0) s.heap.size) σ H locs → lv_has ls 5 [(2, .int x2), (3, .int x3)] → k145 x2 x3 σ = some (r, σr) → W p l e rmX_check s m args below meth c H locs 0 0 (MQ below (xQi G σ0 s.heap.size σr r) args s 0 0 (va_A (xW G σ0) s.heap.size)) (F0 m 145 ls [])) : ∀ (n : Nat) (x2 : Int32) (x3 : Int32) (x4 : Int32) (σ : XS) (H : Heap) (locs : List Loc) (ls : Array Slot), xH G s (va_A (xW G σ0) s.heap.size) σ H locs → lv_has ls 5 [(0, .ref (xA G 0)), (2, .int x2), (3, .int x3), (4, .int x4)] → fX_check_L66 k145 n x2 x3 x4 σ = some (r, σr) → W p l e rmX_check s m args below meth c H locs 0 0 (MQ below (xQi G σ0 s.heap.size σr r) args s 0 0 (va_A (xW G σ0) s.heap.size)) (F0 m 66 ls []) := by
  have hx := hC.1.1
  have hb := hC.1.2.1
  have hown := hC.1.2.2.2.1
  have hts := hC.1.2.2.2.2
  intro n
  induction n with
  | zero =>
    intro x2 x3 x4 σ H locs ls  hH hl h
    rw [fX_check_L66] at h
    cases h
  | succ n ih =>
    intro x2 x3 x4 σ H locs ls  hH hl h
    rw [fX_check_L66] at h
    refine lv_iload hx hb dX7_check_66 (lv_at hl 3 rfl) ?_
    refine lv_iload_n hx hb dX7_check_68 rfl (lv_at hl 2 rfl) ?_
    refine lv_icmp_ge (tgt := 145) hx hb dX7_check_69 (by decide) (fun c13 => ?_) (fun c13 => ?_)
    · have h := ite_t c13 h
      exact hk145 x2 x3 σ H locs ls  hH (lv_sub hl [1, 2] rfl) h
    · have h := ite_f c13 h
      refine lv_aload_n hx hb dX7_check_72 rfl (lv_at hl 0 rfl) ?_
      refine x_get (C := RX7) (T := TX7) (N := 14) (v := .ref (xA G (1 + 2))) hC hH (xe_X G σ) rfl wyX7 2 (by decide) wfX7_19 rfl rfl dX7_check_73 ?_
      obtain ⟨σ15, h14, h⟩ := ob_some h
      refine x_callv (vw := (RX0, TX0, 12)) (As := []) (rest := []) (cB_joltOnce l G σ 2 (by decide) h14) hC hH hl (xe_B G σ (by decide)) rfl (cwV 0 hts (gV wmX7_192 wvX0_joltOnce) rfl rfl rfl hdX0_joltOnce ⟨Nat.le_of_ble_eq_true rfl, Nat.le_of_ble_eq_true rfl⟩) rfl rfl (Nat.le_of_ble_eq_true rfl) ⟨Nat.zero_le _, Nat.zero_le _⟩ dX7_check_76 (fun H locs hH => ?_)
      refine lv_iload hx hb dX7_check_79 (lv_at hl 3 rfl) ?_
      refine lv_iload_n hx hb dX7_check_81 rfl (lv_at hl 1 rfl) ?_
      refine lv_icmp_ge (tgt := 102) hx hb dX7_check_82 (by decide) (fun c16 => ?_) (fun c16 => ?_)
      · have h := ite_t c16 h
        refine lv_iconst (v := 1) hx hb dX7_check_102 (by decide) ?_
        refine lv_iload hx hb dX7_check_103 (lv_at hl 3 rfl) ?_
        refine lv_iadd hx hb dX7_check_105 ?_
        obtain ⟨rfl, rfl⟩ := some_i2 h
        exact x_iret hC hH hr rfl dX7_check_106
      · have h := ite_f c16 h
        refine lv_aload_n hx hb dX7_check_85 rfl (lv_at hl 0 rfl) ?_
        refine x_get (C := RX7) (T := TX7) (N := 14) (v := .ref (xA G (100 + 56))) hC hH (xe_X G σ15) rfl wyX7 12 (by decide) wfX7_70 rfl rfl dX7_check_86 ?_
        refine lv_iload hx hb dX7_check_89 (lv_at hl 3 rfl) ?_
        obtain ⟨i17, h⟩ := ck_some h
        refine x_ald hC hH (d := 56) rfl rfl rfl i17 dX7_check_91 ?_
        refine lv_aload_n hx hb dX7_check_92 rfl (lv_at hl 0 rfl) ?_
        refine x_get (C := RX7) (T := TX7) (N := 14) (v := .ref (xA G (1 + 2))) hC hH (xe_X G σ15) rfl wyX7 2 (by decide) wfX7_19 rfl rfl dX7_check_93 ?_
        obtain ⟨r19, h18, h⟩ := ob_some h
        refine x_calli (vw := (RX0, TX0, 12)) (As := []) (rest := [.int (xi σ15 56 (x4).toNatClampNeg)]) (cB_thickOnTop l G σ15 2 (by decide) h18) hC hH hl (xe_B G σ15 (by decide)) rfl (cwV 0 hts (gV wmX7_309 wvX0_thickOnTop) rfl rfl rfl hdX0_thickOnTop ⟨Nat.le_of_ble_eq_true rfl, Nat.le_of_ble_eq_true rfl⟩) rfl rfl (Nat.le_of_ble_eq_true rfl) ⟨Nat.zero_le _, Nat.zero_le _⟩ dX7_check_96 (fun H locs hH => ?_)
        refine lv_icmp_eq (tgt := 107) hx hb dX7_check_99 (by decide) (fun c20 => ?_) (fun c20 => ?_)
        · have h := ite_t c20 h
          refine lv_iload hx hb dX7_check_107 (lv_at hl 3 rfl) ?_
          refine lv_iconst (v := 1) hx hb dX7_check_109 (by decide) ?_
          refine lv_iadd hx hb dX7_check_110 ?_
          refine lv_iload_n hx hb dX7_check_111 rfl (lv_at hl 1 rfl) ?_
          refine lv_icmp_ge (tgt := 134) hx hb dX7_check_112 (by decide) (fun c21 => ?_) (fun c21 => ?_)
          · have h := ite_t c21 h
            refine lv_iconst (v := 2) hx hb dX7_check_134 (by decide) ?_
            refine lv_iload hx hb dX7_check_135 (lv_at hl 3 rfl) ?_
            refine lv_iadd hx hb dX7_check_137 ?_
            obtain ⟨rfl, rfl⟩ := some_i2 h
            exact x_iret hC hH hr rfl dX7_check_138
          · have h := ite_f c21 h
            refine lv_aload_n hx hb dX7_check_115 rfl (lv_at hl 0 rfl) ?_
            refine x_get (C := RX7) (T := TX7) (N := 14) (v := .ref (xA G (100 + 56))) hC hH (xe_X G σ15) rfl wyX7 12 (by decide) wfX7_70 rfl rfl dX7_check_116 ?_
            refine lv_iload hx hb dX7_check_119 (lv_at hl 3 rfl) ?_
            refine lv_iconst (v := 1) hx hb dX7_check_121 (by decide) ?_
            refine lv_iadd hx hb dX7_check_122 ?_
            obtain ⟨i22, h⟩ := ck_some h
            refine x_ald hC hH (d := 56) rfl rfl rfl i22 dX7_check_123 ?_
            refine lv_aload_n hx hb dX7_check_124 rfl (lv_at hl 0 rfl) ?_
            refine x_get (C := RX7) (T := TX7) (N := 14) (v := .ref (xA G (1 + 2))) hC hH (xe_X G σ15) rfl wyX7 2 (by decide) wfX7_19 rfl rfl dX7_check_125 ?_
            refine x_getN (C := RX0) (T := TX0) (N := 12) (v := .int (xi σ15 (1 + 2) 8)) (host := "RoadSorted") hC hH (xe_B G σ15 (by decide)) rfl wyX0 8 (by decide) (by decide +kernel) rfl rfl dX7_check_128 ?_
            refine lv_icmp_eq (tgt := 139) hx hb dX7_check_131 (by decide) (fun c23 => ?_) (fun c23 => ?_)
            · have h := ite_t c23 h
              obtain ⟨v24, e25, h⟩ := bnd_some h
              refine lv_iinc (v := v24) (lv' := [(4, .int v24), (0, .ref (xA G 0)), (2, .int x2), (3, .int x3)]) hx hb dX7_check_139 hl (k := 3) rfl (by rw [e25]; rfl) (by decide) rfl (fun ls hl => ?_)
              refine lv_goto (tgt := 66) hx hb dX7_check_142 (by decide) ?_
              exact ih x2 x3 v24 σ15 H locs ls  hH (lv_sub hl [1, 2, 3, 0] rfl) h
            · have h := ite_f c23 h
              refine lv_iconst (v := 2) hx hb dX7_check_134 (by decide) ?_
              refine lv_iload hx hb dX7_check_135 (lv_at hl 3 rfl) ?_
              refine lv_iadd hx hb dX7_check_137 ?_
              obtain ⟨rfl, rfl⟩ := some_i2 h
              exact x_iret hC hH hr rfl dX7_check_138
        · have h := ite_f c20 h
          refine lv_iconst (v := 1) hx hb dX7_check_102 (by decide) ?_
          refine lv_iload hx hb dX7_check_103 (lv_at hl 3 rfl) ?_
          refine lv_iadd hx hb dX7_check_105 ?_
          obtain ⟨rfl, rfl⟩ := some_i2 h
          exact x_iret hC hH hr rfl dX7_check_106

def fX_check (σ0 : XS) (x1 : Int32) : Option (Int32 × XS) :=
  bnd (xi σ0 0 13) fun v1 =>
  bnd (xu σ0 0 13 (0 : Int32)) fun σ3 =>
  ob (fX_isWithin σ3 x1 (1 : Int32) (30 : Int32)) fun r6 =>
  if r6 = 0 then (
    some ((-1000000001 : Int32), σ3))
  else (
    if (xi σ3 0 4) = 0 then (
      some ((-1000000002 : Int32), σ3))
    else (
      ob (fB_becomeAs σ3 2 1) fun σ10 =>
      bnd ((2 : Int32) * (if ((9999 : Int32) - (xi σ10 (1 + 1) 9)) < x1 then ((9999 : Int32) - (xi σ10 (1 + 1) 9)) else x1)) fun v11 =>
      fX_check_L66 (fun (x2 : Int32) (x3 : Int32) (σ : XS) => if x2 ≤ x3 then (
          some ((0 : Int32), σ))
        else (
          some (((1 : Int32) + x3), σ))) 10000 v1 v11 (0 : Int32) σ10))

set_option maxHeartbeats 4000000 in
set_option maxRecDepth 100000 in
theorem cX_check (l : Launch) (G : XG) (σ0 : XS) (x1 : Int32) {r : Int32} {σr : XS} (h : fX_check σ0 x1 = some (r, σr)) : ∀ sz, Met l yX7_check (Cond.code yX7_check cX7_check 5 (some .int) :: Tw) rmX_check (xP G σ0 sz [.ref (xA G 0), .int x1]) (xQi G σ0 sz σr r) 0 0 (va_A (xW G σ0) sz) := by
  intro sz
  refine Met.ofW (cc := cX7_check) (maxL := 5) (ret := (some .int)) (by decide) rfl ?_
  intro p e s m args below meth c s₁ Bd hml hv
  obtain ⟨hC, hr⟩ := jC_of Bd hml
  obtain ⟨rfl, rfl, hH⟩ := x_enter hv
  have hC : jC p s m _ meth c cX7_check 5 RX7 := hC
  have hx := hC.1.1
  have hb := hC.1.2.1
  have hown := hC.1.2.2.2.1
  have hts := hC.1.2.2.2.2
  have hl := lv_entry ([.ref (xA G 0), .int x1]) (n := 5) (Nat.le_of_ble_eq_true rfl)
  rw [lg_entry_eq]
  generalize (lg_sl ([.ref (xA G 0), .int x1]) ++ List.replicate (5 - (lg_sl ([.ref (xA G 0), .int x1])).length) Slot.unset).toArray = ls at hl ⊢
  have hl : lv_has ls 5 [(0, .ref (xA G 0)), (1, .int x1)] := hl
  unfold fX_check at h
  refine W_nm (fun H locs eH eL => ?_)
  have hH : xH G s (va_A (xW G σ0) s.heap.size) σ0 H locs := by rw [eH, eL]; exact hH
  show W p l e rmX_check s m _ below meth c H locs 0 0 _ (F0 m 0 ls [])
  refine lv_aload_n hx hb dX7_check_0 rfl (lv_at hl 0 rfl) ?_
  refine x_get (C := RX7) (T := TX7) (N := 14) (v := .int (xi σ0 0 13)) hC hH (xe_X G σ0) rfl wyX7 13 (by decide) wfX7_74 rfl rfl dX7_check_1 ?_
  obtain ⟨v1, e2, h⟩ := bnd_some h
  refine lv_tope e2 ?_
  refine lv_istore_n (lv' := [(2, .int v1), (0, .ref (xA G 0)), (1, .int x1)]) hx hb dX7_check_4 rfl hl (by decide) rfl (fun ls hl => ?_)
  refine lv_aload_n hx hb dX7_check_5 rfl (lv_at hl 1 rfl) ?_
  refine lv_iconst (v := 0) hx hb dX7_check_6 (by decide) ?_
  obtain ⟨σ3, e4, h⟩ := bnd_some h
  refine x_put (C := RX7) (T := TX7) (N := 14) (ty := .int) (v := .int (0 : Int32)) hC hH (xe_X G σ0) rfl wyX7 tyX7_ok nmX7 13 (by decide) wfX7_74 rfl rfl (by decide +kernel) rfl rfl (Nat.le_of_ble_eq_true rfl) e4 (xs_X_13 G σ0 _) dX7_check_7 (fun H locs hH => ?_)
  refine lv_iload_n hx hb dX7_check_10 rfl (lv_at hl 2 rfl) ?_
  refine lv_iconst (v := 1) hx hb dX7_check_11 (by decide) ?_
  refine lv_bipush (v := 30) hx hb dX7_check_12 (by decide) ?_
  obtain ⟨r6, h5, h⟩ := ob_some h
  refine x_calls (As := [.int x1, .int (1 : Int32), .int (30 : Int32)]) (rest := []) (cX_isWithin l G σ3 x1 (1 : Int32) (30 : Int32)  h5) hC hH hl (va_cwS 3 hts (gS wmX7_148 wsX7_isWithin) rfl rfl rfl hdX7_isWithin ⟨Nat.le_of_ble_eq_true rfl, Nat.le_of_ble_eq_true rfl⟩) rfl rfl (Nat.le_of_ble_eq_true rfl) ⟨Nat.zero_le _, Nat.zero_le _⟩ dX7_check_14 (fun H locs hH => ?_)
  refine lv_if_ne (tgt := 23) hx hb dX7_check_17 (by decide) (fun c7 => ?_) (fun c7 => ?_)
  · have h := ite_f c7 h
    refine lv_aload_n hx hb dX7_check_23 rfl (lv_at hl 1 rfl) ?_
    refine x_get (C := RX7) (T := TX7) (N := 14) (v := .int (xi σ3 0 4)) hC hH (xe_X G σ3) rfl wyX7 4 (by decide) wfX7_25 rfl rfl dX7_check_24 ?_
    refine lv_if_ne (tgt := 34) hx hb dX7_check_27 (by decide) (fun c8 => ?_) (fun c8 => ?_)
    · have h := ite_f c8 h
      refine lv_aload_n hx hb dX7_check_34 rfl (lv_at hl 1 rfl) ?_
      refine x_get (C := RX7) (T := TX7) (N := 14) (v := .ref (xA G (1 + 2))) hC hH (xe_X G σ3) rfl wyX7 2 (by decide) wfX7_19 rfl rfl dX7_check_35 ?_
      refine lv_aload_n hx hb dX7_check_38 rfl (lv_at hl 1 rfl) ?_
      refine x_get (C := RX7) (T := TX7) (N := 14) (v := .ref (xA G (1 + 1))) hC hH (xe_X G σ3) rfl wyX7 1 (by decide) wfX7_16 rfl rfl dX7_check_39 ?_
      obtain ⟨σ10, h9, h⟩ := ob_some h
      refine x_callv (vw := (RX0, TX0, 12)) (As := [.ref (xA G (1 + 1))]) (rest := []) (cB_becomeAs l G σ3 2 1 (by decide) (by decide) h9) hC hH hl (xe_B G σ3 (by decide)) rfl (cwV 1 hts (gV wmX7_196 wvX0_becomeAs) rfl rfl rfl hdX0_becomeAs ⟨Nat.le_of_ble_eq_true rfl, Nat.le_of_ble_eq_true rfl⟩) rfl rfl (Nat.le_of_ble_eq_true rfl) ⟨Nat.zero_le _, Nat.zero_le _⟩ dX7_check_42 (fun H locs hH => ?_)
      refine lv_iconst (v := 2) hx hb dX7_check_45 (by decide) ?_
      refine lv_iload_n hx hb dX7_check_46 rfl (lv_at hl 2 rfl) ?_
      refine lv_sipush (v := 9999) hx hb dX7_check_47 (by decide) ?_
      refine lv_aload_n hx hb dX7_check_50 rfl (lv_at hl 1 rfl) ?_
      refine x_get (C := RX7) (T := TX7) (N := 14) (v := .ref (xA G (1 + 1))) hC hH (xe_X G σ10) rfl wyX7 1 (by decide) wfX7_16 rfl rfl dX7_check_51 ?_
      refine x_getN (C := RX0) (T := TX0) (N := 12) (v := .int (xi σ10 (1 + 1) 9)) (host := "RoadSorted") hC hH (xe_B G σ10 (by decide)) rfl wyX0 9 (by decide) (by decide +kernel) rfl rfl dX7_check_54 ?_
      refine lv_isub hx hb dX7_check_57 ?_
      refine va_mmin hx hb (hC.1.2.2.1.trans hl.1.symm) hown (hts _ wmX7_155) (hts _ wMa_min.1) (hts _ wMa_min.2.1) (hts _ wMa_min.2.2) (Nat.le_of_ble_eq_true rfl) (Nat.le_of_ble_eq_true rfl) (Nat.zero_le _) (Nat.zero_le _) dX7_check_58 ?_
      refine lv_imul hx hb dX7_check_61 ?_
      obtain ⟨v11, e12, h⟩ := bnd_some h
      refine lv_tope e12 ?_
      refine lv_istore_n (lv' := [(3, .int v11), (2, .int v1), (0, .ref (xA G 0)), (1, .int x1)]) hx hb dX7_check_62 rfl hl (by decide) rfl (fun ls hl => ?_)
      refine lv_iconst (v := 0) hx hb dX7_check_63 (by decide) ?_
      refine lv_istore (lv' := [(4, .int (0 : Int32)), (3, .int v11), (2, .int v1), (0, .ref (xA G 0)), (1, .int x1)]) hx hb dX7_check_64 hl (by decide) rfl (fun ls hl => ?_)
      refine wX_check_L66 hC hr  ?_ 10000 v1 v11 (0 : Int32) σ10 H locs ls  hH (lv_sub hl [3, 2, 1, 0] rfl) h
      intro x2 x3 σ H locs ls  hH hl h
      refine lv_iload_n hx hb dX7_check_145 rfl (lv_at hl 0 rfl) ?_
      refine lv_iload_n hx hb dX7_check_146 rfl (lv_at hl 1 rfl) ?_
      refine lv_icmp_le (tgt := 156) hx hb dX7_check_147 (by decide) (fun c26 => ?_) (fun c26 => ?_)
      · have h := ite_t c26 h
        refine lv_iconst (v := 0) hx hb dX7_check_156 (by decide) ?_
        obtain ⟨rfl, rfl⟩ := some_i2 h
        exact x_iret (v := 0) hC hH hr rfl dX7_check_157
      · have h := ite_f c26 h
        refine lv_iconst (v := 1) hx hb dX7_check_150 (by decide) ?_
        refine lv_iload_n hx hb dX7_check_151 rfl (lv_at hl 1 rfl) ?_
        refine lv_iadd hx hb dX7_check_152 ?_
        refine lv_goto (tgt := 157) hx hb dX7_check_153 (by decide) ?_
        obtain ⟨rfl, rfl⟩ := some_i2 h
        exact x_iret hC hH hr rfl dX7_check_157
    · have h := ite_t c8 h
      refine lv_ldcw (v := -1000000002) hx hb hown (hts _ wkX7_308) dX7_check_30 ?_
      obtain ⟨rfl, rfl⟩ := some_i2 h
      exact x_iret (v := -1000000002) hC hH hr rfl dX7_check_33
  · have h := ite_t c7 h
    refine lv_ldc (v := -1000000001) hx hb hown (hts _ wkX7_89) dX7_check_20 ?_
    obtain ⟨rfl, rfl⟩ := some_i2 h
    exact x_iret (v := -1000000001) hC hH hr rfl dX7_check_22

def rmX_keep : Room := { frames := 2, cells := 0, slots := 0, locals := 81 }
theorem hdX7_keep : yX7_keep.cls = RX7 ∧ yX7_keep.cls ≠ "java/lang/invoke/MethodHandle" ∧ yX7_keep.cls ≠ "java/lang/invoke/VarHandle" ∧ (parseMethodDescriptor yX7_keep.desc).map (fun d => d.parameters.length) = some 0 := by decide +kernel

def fX_keep (σ0 : XS) : Option (Int32 × XS) :=
  ob (fB_becomeAs σ0 1 0) fun σ2 =>
  bnd (xu σ2 0 7 (xi σ2 0 6)) fun σ3 =>
  bnd (xu σ3 0 4 (1 : Int32)) fun σ5 =>
  some ((xi σ5 (1 + 0) 0), σ5)

set_option maxHeartbeats 4000000 in
set_option maxRecDepth 100000 in
theorem cX_keep (l : Launch) (G : XG) (σ0 : XS) {r : Int32} {σr : XS} (h : fX_keep σ0 = some (r, σr)) : ∀ sz, Met l yX7_keep (Cond.code yX7_keep cX7_keep 1 (some .int) :: Tw) rmX_keep (xP G σ0 sz [.ref (xA G 0)]) (xQi G σ0 sz σr r) 0 0 (va_A (xW G σ0) sz) := by
  intro sz
  refine Met.ofW (cc := cX7_keep) (maxL := 1) (ret := (some .int)) (by decide) rfl ?_
  intro p e s m args below meth c s₁ Bd hml hv
  obtain ⟨hC, hr⟩ := jC_of Bd hml
  obtain ⟨rfl, rfl, hH⟩ := x_enter hv
  have hC : jC p s m _ meth c cX7_keep 1 RX7 := hC
  have hx := hC.1.1
  have hb := hC.1.2.1
  have hown := hC.1.2.2.2.1
  have hts := hC.1.2.2.2.2
  have hl := lv_entry ([.ref (xA G 0)]) (n := 1) (Nat.le_of_ble_eq_true rfl)
  rw [lg_entry_eq]
  generalize (lg_sl ([.ref (xA G 0)]) ++ List.replicate (1 - (lg_sl ([.ref (xA G 0)])).length) Slot.unset).toArray = ls at hl ⊢
  have hl : lv_has ls 1 [(0, .ref (xA G 0))] := hl
  unfold fX_keep at h
  refine W_nm (fun H locs eH eL => ?_)
  have hH : xH G s (va_A (xW G σ0) s.heap.size) σ0 H locs := by rw [eH, eL]; exact hH
  show W p l e rmX_keep s m _ below meth c H locs 0 0 _ (F0 m 0 ls [])
  refine lv_aload_n hx hb dX7_keep_0 rfl (lv_at hl 0 rfl) ?_
  refine x_get (C := RX7) (T := TX7) (N := 14) (v := .ref (xA G (1 + 1))) hC hH (xe_X G σ0) rfl wyX7 1 (by decide) wfX7_16 rfl rfl dX7_keep_1 ?_
  refine lv_aload_n hx hb dX7_keep_4 rfl (lv_at hl 0 rfl) ?_
  refine x_get (C := RX7) (T := TX7) (N := 14) (v := .ref (xA G (1 + 0))) hC hH (xe_X G σ0) rfl wyX7 0 (by decide) wfX7_10 rfl rfl dX7_keep_5 ?_
  obtain ⟨σ2, h1, h⟩ := ob_some h
  refine x_callv (vw := (RX0, TX0, 12)) (As := [.ref (xA G (1 + 0))]) (rest := []) (cB_becomeAs l G σ0 1 0 (by decide) (by decide) h1) hC hH hl (xe_B G σ0 (by decide)) rfl (cwV 1 hts (gV wmX7_196 wvX0_becomeAs) rfl rfl rfl hdX0_becomeAs ⟨Nat.le_of_ble_eq_true rfl, Nat.le_of_ble_eq_true rfl⟩) rfl rfl (Nat.le_of_ble_eq_true rfl) ⟨Nat.zero_le _, Nat.zero_le _⟩ dX7_keep_8 (fun H locs hH => ?_)
  refine lv_aload_n hx hb dX7_keep_11 rfl (lv_at hl 0 rfl) ?_
  refine lv_aload_n hx hb dX7_keep_12 rfl (lv_at hl 0 rfl) ?_
  refine x_get (C := RX7) (T := TX7) (N := 14) (v := .int (xi σ2 0 6)) hC hH (xe_X G σ2) rfl wyX7 6 (by decide) wfX7_35 rfl rfl dX7_keep_13 ?_
  obtain ⟨σ3, e4, h⟩ := bnd_some h
  refine x_put (C := RX7) (T := TX7) (N := 14) (ty := .int) (v := .int (xi σ2 0 6)) hC hH (xe_X G σ2) rfl wyX7 tyX7_ok nmX7 7 (by decide) wfX7_39 rfl rfl (by decide +kernel) rfl rfl (Nat.le_of_ble_eq_true rfl) e4 (xs_X_7 G σ2 _) dX7_keep_16 (fun H locs hH => ?_)
  refine lv_aload_n hx hb dX7_keep_19 rfl (lv_at hl 0 rfl) ?_
  refine lv_iconst (v := 1) hx hb dX7_keep_20 (by decide) ?_
  obtain ⟨σ5, e6, h⟩ := bnd_some h
  refine x_put (C := RX7) (T := TX7) (N := 14) (ty := .boolean) (v := .int (1 : Int32)) hC hH (xe_X G σ3) rfl wyX7 tyX7_ok nmX7 4 (by decide) wfX7_25 rfl rfl (by decide +kernel) (by decide) (by decide) (Nat.le_of_ble_eq_true rfl) e6 (xs_X_4 G σ3 _) dX7_keep_21 (fun H locs hH => ?_)
  refine lv_aload_n hx hb dX7_keep_24 rfl (lv_at hl 0 rfl) ?_
  refine x_get (C := RX7) (T := TX7) (N := 14) (v := .ref (xA G (1 + 0))) hC hH (xe_X G σ5) rfl wyX7 0 (by decide) wfX7_10 rfl rfl dX7_keep_25 ?_
  refine x_getN (C := RX0) (T := TX0) (N := 12) (v := .int (xi σ5 (1 + 0) 0)) (host := "RoadSorted") hC hH (xe_B G σ5 (by decide)) rfl wyX0 0 (by decide) (by decide +kernel) rfl rfl dX7_keep_28 ?_
  obtain ⟨rfl, rfl⟩ := some_i2 h
  exact x_iret hC hH hr rfl dX7_keep_31

def rmX_back : Room := { frames := 2, cells := 0, slots := 0, locals := 81 }
theorem hdX7_back : yX7_back.cls = RX7 ∧ yX7_back.cls ≠ "java/lang/invoke/MethodHandle" ∧ yX7_back.cls ≠ "java/lang/invoke/VarHandle" ∧ (parseMethodDescriptor yX7_back.desc).map (fun d => d.parameters.length) = some 0 := by decide +kernel

def fX_back (σ0 : XS) : Option (Int32 × XS) :=
  if (xi σ0 0 4) = 0 then (
    some ((-1000000002 : Int32), σ0))
  else (
    ob (fB_becomeAs σ0 0 1) fun σ3 =>
    bnd (xu σ3 0 6 (xi σ3 0 7)) fun σ4 =>
    some ((xi σ4 (1 + 0) 0), σ4))

set_option maxHeartbeats 4000000 in
set_option maxRecDepth 100000 in
theorem cX_back (l : Launch) (G : XG) (σ0 : XS) {r : Int32} {σr : XS} (h : fX_back σ0 = some (r, σr)) : ∀ sz, Met l yX7_back (Cond.code yX7_back cX7_back 1 (some .int) :: Tw) rmX_back (xP G σ0 sz [.ref (xA G 0)]) (xQi G σ0 sz σr r) 0 0 (va_A (xW G σ0) sz) := by
  intro sz
  refine Met.ofW (cc := cX7_back) (maxL := 1) (ret := (some .int)) (by decide) rfl ?_
  intro p e s m args below meth c s₁ Bd hml hv
  obtain ⟨hC, hr⟩ := jC_of Bd hml
  obtain ⟨rfl, rfl, hH⟩ := x_enter hv
  have hC : jC p s m _ meth c cX7_back 1 RX7 := hC
  have hx := hC.1.1
  have hb := hC.1.2.1
  have hown := hC.1.2.2.2.1
  have hts := hC.1.2.2.2.2
  have hl := lv_entry ([.ref (xA G 0)]) (n := 1) (Nat.le_of_ble_eq_true rfl)
  rw [lg_entry_eq]
  generalize (lg_sl ([.ref (xA G 0)]) ++ List.replicate (1 - (lg_sl ([.ref (xA G 0)])).length) Slot.unset).toArray = ls at hl ⊢
  have hl : lv_has ls 1 [(0, .ref (xA G 0))] := hl
  unfold fX_back at h
  refine W_nm (fun H locs eH eL => ?_)
  have hH : xH G s (va_A (xW G σ0) s.heap.size) σ0 H locs := by rw [eH, eL]; exact hH
  show W p l e rmX_back s m _ below meth c H locs 0 0 _ (F0 m 0 ls [])
  refine lv_aload_n hx hb dX7_back_0 rfl (lv_at hl 0 rfl) ?_
  refine x_get (C := RX7) (T := TX7) (N := 14) (v := .int (xi σ0 0 4)) hC hH (xe_X G σ0) rfl wyX7 4 (by decide) wfX7_25 rfl rfl dX7_back_1 ?_
  refine lv_if_ne (tgt := 11) hx hb dX7_back_4 (by decide) (fun c1 => ?_) (fun c1 => ?_)
  · have h := ite_f c1 h
    refine lv_aload_n hx hb dX7_back_11 rfl (lv_at hl 0 rfl) ?_
    refine x_get (C := RX7) (T := TX7) (N := 14) (v := .ref (xA G (1 + 0))) hC hH (xe_X G σ0) rfl wyX7 0 (by decide) wfX7_10 rfl rfl dX7_back_12 ?_
    refine lv_aload_n hx hb dX7_back_15 rfl (lv_at hl 0 rfl) ?_
    refine x_get (C := RX7) (T := TX7) (N := 14) (v := .ref (xA G (1 + 1))) hC hH (xe_X G σ0) rfl wyX7 1 (by decide) wfX7_16 rfl rfl dX7_back_16 ?_
    obtain ⟨σ3, h2, h⟩ := ob_some h
    refine x_callv (vw := (RX0, TX0, 12)) (As := [.ref (xA G (1 + 1))]) (rest := []) (cB_becomeAs l G σ0 0 1 (by decide) (by decide) h2) hC hH hl (xe_B G σ0 (by decide)) rfl (cwV 1 hts (gV wmX7_196 wvX0_becomeAs) rfl rfl rfl hdX0_becomeAs ⟨Nat.le_of_ble_eq_true rfl, Nat.le_of_ble_eq_true rfl⟩) rfl rfl (Nat.le_of_ble_eq_true rfl) ⟨Nat.zero_le _, Nat.zero_le _⟩ dX7_back_19 (fun H locs hH => ?_)
    refine lv_aload_n hx hb dX7_back_22 rfl (lv_at hl 0 rfl) ?_
    refine lv_aload_n hx hb dX7_back_23 rfl (lv_at hl 0 rfl) ?_
    refine x_get (C := RX7) (T := TX7) (N := 14) (v := .int (xi σ3 0 7)) hC hH (xe_X G σ3) rfl wyX7 7 (by decide) wfX7_39 rfl rfl dX7_back_24 ?_
    obtain ⟨σ4, e5, h⟩ := bnd_some h
    refine x_put (C := RX7) (T := TX7) (N := 14) (ty := .int) (v := .int (xi σ3 0 7)) hC hH (xe_X G σ3) rfl wyX7 tyX7_ok nmX7 6 (by decide) wfX7_35 rfl rfl (by decide +kernel) rfl rfl (Nat.le_of_ble_eq_true rfl) e5 (xs_X_6 G σ3 _) dX7_back_27 (fun H locs hH => ?_)
    refine lv_aload_n hx hb dX7_back_30 rfl (lv_at hl 0 rfl) ?_
    refine x_get (C := RX7) (T := TX7) (N := 14) (v := .ref (xA G (1 + 0))) hC hH (xe_X G σ4) rfl wyX7 0 (by decide) wfX7_10 rfl rfl dX7_back_31 ?_
    refine x_getN (C := RX0) (T := TX0) (N := 12) (v := .int (xi σ4 (1 + 0) 0)) (host := "RoadSorted") hC hH (xe_B G σ4 (by decide)) rfl wyX0 0 (by decide) (by decide +kernel) rfl rfl dX7_back_34 ?_
    obtain ⟨rfl, rfl⟩ := some_i2 h
    exact x_iret hC hH hr rfl dX7_back_37
  · have h := ite_t c1 h
    refine lv_ldcw (v := -1000000002) hx hb hown (hts _ wkX7_308) dX7_back_7 ?_
    obtain ⟨rfl, rfl⟩ := some_i2 h
    exact x_iret (v := -1000000002) hC hH hr rfl dX7_back_10

def rmX_count : Room := { frames := 2, cells := 0, slots := 0, locals := 42 }
theorem hdX7_count : yX7_count.cls = RX7 ∧ yX7_count.cls ≠ "java/lang/invoke/MethodHandle" ∧ yX7_count.cls ≠ "java/lang/invoke/VarHandle" ∧ (parseMethodDescriptor yX7_count.desc).map (fun d => d.parameters.length) = some 1 := by decide +kernel

def fX_count (σ0 : XS) (x1 : Int32) : Option (Int32) :=
  if x1 = (0 : Int32) then (
    some (xi σ0 (1 + 0) 0))
  else if x1 = (1 : Int32) then (
    some (xi σ0 (1 + 0) 9))
  else if x1 = (2 : Int32) then (
    some (xi σ0 (1 + 0) 7))
  else if x1 = (3 : Int32) then (
    ob (fB_townCount σ0 0) fun r6 =>
    some r6)
  else if x1 = (4 : Int32) then (
    some (xi σ0 0 6))
  else if x1 = (5 : Int32) then (
    some (xi σ0 0 13))
  else if x1 = (6 : Int32) then (
    some (xi σ0 5 1))
  else if x1 = (7 : Int32) then (
    some (xi σ0 (1 + 0) 10))
  else (
    some (-1000000001 : Int32))

set_option maxHeartbeats 4000000 in
set_option maxRecDepth 100000 in
theorem cX_count (l : Launch) (G : XG) (σ0 : XS) (x1 : Int32) {r : Int32} (h : fX_count σ0 x1 = some r) : ∀ sz, Met l yX7_count (Cond.code yX7_count cX7_count 2 (some .int) :: Tw) rmX_count (xP G σ0 sz [.ref (xA G 0), .int x1]) (xQi G σ0 sz σ0 r) 0 0 (va_A (xW G σ0) sz) := by
  intro sz
  refine Met.ofW (cc := cX7_count) (maxL := 2) (ret := (some .int)) (by decide) rfl ?_
  intro p e s m args below meth c s₁ Bd hml hv
  obtain ⟨hC, hr⟩ := jC_of Bd hml
  obtain ⟨rfl, rfl, hH⟩ := x_enter hv
  have hC : jC p s m _ meth c cX7_count 2 RX7 := hC
  have hx := hC.1.1
  have hb := hC.1.2.1
  have hown := hC.1.2.2.2.1
  have hts := hC.1.2.2.2.2
  have hl := lv_entry ([.ref (xA G 0), .int x1]) (n := 2) (Nat.le_of_ble_eq_true rfl)
  rw [lg_entry_eq]
  generalize (lg_sl ([.ref (xA G 0), .int x1]) ++ List.replicate (2 - (lg_sl ([.ref (xA G 0), .int x1])).length) Slot.unset).toArray = ls at hl ⊢
  have hl : lv_has ls 2 [(0, .ref (xA G 0)), (1, .int x1)] := hl
  unfold fX_count at h
  refine W_nm (fun H locs eH eL => ?_)
  have hH : xH G s (va_A (xW G σ0) s.heap.size) σ0 H locs := by rw [eH, eL]; exact hH
  show W p l e rmX_count s m _ below meth c H locs 0 0 _ (F0 m 0 ls [])
  refine lv_iload_n hx hb dX7_count_0 rfl (lv_at hl 1 rfl) ?_
  by_cases c1 : x1 = (0 : Int32)
  · have h := ite_t c1 h
    refine lv_tsw (tgt := 48) (off := 47) hx hb (0) c1 dX7_count_1 (by decide) (by decide) (by decide) (by decide) ?_
    refine lv_aload_n hx hb dX7_count_48 rfl (lv_at hl 0 rfl) ?_
    refine x_get (C := RX7) (T := TX7) (N := 14) (v := .ref (xA G (1 + 0))) hC hH (xe_X G σ0) rfl wyX7 0 (by decide) wfX7_10 rfl rfl dX7_count_49 ?_
    refine x_getN (C := RX0) (T := TX0) (N := 12) (v := .int (xi σ0 (1 + 0) 0)) (host := "RoadSorted") hC hH (xe_B G σ0 (by decide)) rfl wyX0 0 (by decide) (by decide +kernel) rfl rfl dX7_count_52 ?_
    obtain rfl := some_i1 h
    exact x_iret hC hH hr rfl dX7_count_55
  · have h := ite_f c1 h
    by_cases c2 : x1 = (1 : Int32)
    · have h := ite_t c2 h
      refine lv_tsw (tgt := 56) (off := 55) hx hb (1) c2 dX7_count_1 (by decide) (by decide) (by decide) (by decide) ?_
      refine lv_aload_n hx hb dX7_count_56 rfl (lv_at hl 0 rfl) ?_
      refine x_get (C := RX7) (T := TX7) (N := 14) (v := .ref (xA G (1 + 0))) hC hH (xe_X G σ0) rfl wyX7 0 (by decide) wfX7_10 rfl rfl dX7_count_57 ?_
      refine x_getN (C := RX0) (T := TX0) (N := 12) (v := .int (xi σ0 (1 + 0) 9)) (host := "RoadSorted") hC hH (xe_B G σ0 (by decide)) rfl wyX0 9 (by decide) (by decide +kernel) rfl rfl dX7_count_60 ?_
      obtain rfl := some_i1 h
      exact x_iret hC hH hr rfl dX7_count_63
    · have h := ite_f c2 h
      by_cases c3 : x1 = (2 : Int32)
      · have h := ite_t c3 h
        refine lv_tsw (tgt := 64) (off := 63) hx hb (2) c3 dX7_count_1 (by decide) (by decide) (by decide) (by decide) ?_
        refine lv_aload_n hx hb dX7_count_64 rfl (lv_at hl 0 rfl) ?_
        refine x_get (C := RX7) (T := TX7) (N := 14) (v := .ref (xA G (1 + 0))) hC hH (xe_X G σ0) rfl wyX7 0 (by decide) wfX7_10 rfl rfl dX7_count_65 ?_
        refine x_getN (C := RX0) (T := TX0) (N := 12) (v := .int (xi σ0 (1 + 0) 7)) (host := "RoadSorted") hC hH (xe_B G σ0 (by decide)) rfl wyX0 7 (by decide) (by decide +kernel) rfl rfl dX7_count_68 ?_
        obtain rfl := some_i1 h
        exact x_iret hC hH hr rfl dX7_count_71
      · have h := ite_f c3 h
        by_cases c4 : x1 = (3 : Int32)
        · have h := ite_t c4 h
          refine lv_tsw (tgt := 72) (off := 71) hx hb (3) c4 dX7_count_1 (by decide) (by decide) (by decide) (by decide) ?_
          refine lv_aload_n hx hb dX7_count_72 rfl (lv_at hl 0 rfl) ?_
          refine x_get (C := RX7) (T := TX7) (N := 14) (v := .ref (xA G (1 + 0))) hC hH (xe_X G σ0) rfl wyX7 0 (by decide) wfX7_10 rfl rfl dX7_count_73 ?_
          obtain ⟨r6, h5, h⟩ := ob_some h
          refine x_calli (vw := (RX0, TX0, 12)) (As := []) (rest := []) (cB_townCount l G σ0 0 (by decide) h5) hC hH hl (xe_B G σ0 (by decide)) rfl (cwV 0 hts (gV wmX7_312 wvX0_townCount) rfl rfl rfl hdX0_townCount ⟨Nat.le_of_ble_eq_true rfl, Nat.le_of_ble_eq_true rfl⟩) rfl rfl (Nat.le_of_ble_eq_true rfl) ⟨Nat.zero_le _, Nat.zero_le _⟩ dX7_count_76 (fun H locs hH => ?_)
          obtain rfl := some_i1 h
          exact x_iret hC hH hr rfl dX7_count_79
        · have h := ite_f c4 h
          by_cases c7 : x1 = (4 : Int32)
          · have h := ite_t c7 h
            refine lv_tsw (tgt := 80) (off := 79) hx hb (4) c7 dX7_count_1 (by decide) (by decide) (by decide) (by decide) ?_
            refine lv_aload_n hx hb dX7_count_80 rfl (lv_at hl 0 rfl) ?_
            refine x_get (C := RX7) (T := TX7) (N := 14) (v := .int (xi σ0 0 6)) hC hH (xe_X G σ0) rfl wyX7 6 (by decide) wfX7_35 rfl rfl dX7_count_81 ?_
            obtain rfl := some_i1 h
            exact x_iret hC hH hr rfl dX7_count_84
          · have h := ite_f c7 h
            by_cases c8 : x1 = (5 : Int32)
            · have h := ite_t c8 h
              refine lv_tsw (tgt := 85) (off := 84) hx hb (5) c8 dX7_count_1 (by decide) (by decide) (by decide) (by decide) ?_
              refine lv_aload_n hx hb dX7_count_85 rfl (lv_at hl 0 rfl) ?_
              refine x_get (C := RX7) (T := TX7) (N := 14) (v := .int (xi σ0 0 13)) hC hH (xe_X G σ0) rfl wyX7 13 (by decide) wfX7_74 rfl rfl dX7_count_86 ?_
              obtain rfl := some_i1 h
              exact x_iret hC hH hr rfl dX7_count_89
            · have h := ite_f c8 h
              by_cases c9 : x1 = (6 : Int32)
              · have h := ite_t c9 h
                refine lv_tsw (tgt := 90) (off := 89) hx hb (6) c9 dX7_count_1 (by decide) (by decide) (by decide) (by decide) ?_
                refine lv_aload_n hx hb dX7_count_90 rfl (lv_at hl 0 rfl) ?_
                refine x_get (C := RX7) (T := TX7) (N := 14) (v := .ref (xA G 6)) hC hH (xe_X G σ0) rfl wyX7 8 (by decide) wfX7_45 rfl rfl dX7_count_91 ?_
                refine x_getN (C := RX6) (T := TX6) (N := 5) (v := .int (xi σ0 5 1)) (host := "RoadSorted") hC hH (xe_T G σ0) rfl wyX6 1 (by decide) (by decide +kernel) rfl rfl dX7_count_94 ?_
                obtain rfl := some_i1 h
                exact x_iret hC hH hr rfl dX7_count_97
              · have h := ite_f c9 h
                by_cases c10 : x1 = (7 : Int32)
                · have h := ite_t c10 h
                  refine lv_tsw (tgt := 98) (off := 97) hx hb (7) c10 dX7_count_1 (by decide) (by decide) (by decide) (by decide) ?_
                  refine lv_aload_n hx hb dX7_count_98 rfl (lv_at hl 0 rfl) ?_
                  refine x_get (C := RX7) (T := TX7) (N := 14) (v := .ref (xA G (1 + 0))) hC hH (xe_X G σ0) rfl wyX7 0 (by decide) wfX7_10 rfl rfl dX7_count_99 ?_
                  refine x_getN (C := RX0) (T := TX0) (N := 12) (v := .int (xi σ0 (1 + 0) 10)) (host := "RoadSorted") hC hH (xe_B G σ0 (by decide)) rfl wyX0 10 (by decide) (by decide +kernel) rfl rfl dX7_count_102 ?_
                  obtain rfl := some_i1 h
                  exact x_iret hC hH hr rfl dX7_count_105
                · have h := ite_f c10 h
                  refine lv_tswd (tgt := 106) hx hb [0, 1, 2, 3, 4, 5, 6, 7] (by simp only [List.mem_cons, List.not_mem_nil, or_false]; intro z hz; rcases hz with rfl | rfl | rfl | rfl | rfl | rfl | rfl | rfl <;> first | exact i32ne c1 (by decide) | exact i32ne c2 (by decide) | exact i32ne c3 (by decide) | exact i32ne c4 (by decide) | exact i32ne c7 (by decide) | exact i32ne c8 (by decide) | exact i32ne c9 (by decide) | exact i32ne c10 (by decide)) dX7_count_1 (by decide) (by decide) (by decide) ?_
                  refine lv_ldc (v := -1000000001) hx hb hown (hts _ wkX7_89) dX7_count_106 ?_
                  obtain rfl := some_i1 h
                  exact x_iret (v := -1000000001) hC hH hr rfl dX7_count_108

def rmR_levelOf : Room := { frames := 0, cells := 0, slots := 0, locals := 0 }
theorem hdX3_levelOf : yX3_levelOf.cls ≠ "java/lang/invoke/MethodHandle" ∧ yX3_levelOf.cls ≠ "java/lang/invoke/VarHandle" ∧ (parseMethodDescriptor yX3_levelOf.desc).map (fun d => d.parameters.length) = some 1 := by decide +kernel

def fR_levelOf (σ0 : XS) (x0 : Int32) : Option (Int32) :=
  if x0 = (38 : Int32) then (
    some (1 : Int32))
  else if x0 = (42 : Int32) then (
    some (4 : Int32))
  else if x0 = (43 : Int32) then (
    some (3 : Int32))
  else if x0 = (45 : Int32) then (
    some (3 : Int32))
  else if x0 = (47 : Int32) then (
    some (4 : Int32))
  else if x0 = (60 : Int32) then (
    some (2 : Int32))
  else if x0 = (61 : Int32) then (
    some (2 : Int32))
  else if x0 = (62 : Int32) then (
    some (2 : Int32))
  else if x0 = (124 : Int32) then (
    some (0 : Int32))
  else (
    some (-1 : Int32))

set_option maxHeartbeats 4000000 in
set_option maxRecDepth 100000 in
theorem cR_levelOf (l : Launch) (G : XG) (σ0 : XS) (x0 : Int32) {r : Int32} (h : fR_levelOf σ0 x0 = some r) : ∀ sz, Met l yX3_levelOf (Cond.code yX3_levelOf cX3_levelOf 1 (some .int) :: Tw) rmR_levelOf (xP G σ0 sz [.int x0]) (xQi G σ0 sz σ0 r) 0 0 (va_A (xW G σ0) sz) := by
  intro sz
  refine Met.ofW (cc := cX3_levelOf) (maxL := 1) (ret := (some .int)) (by decide) rfl ?_
  intro p e s m args below meth c s₁ Bd hml hv
  obtain ⟨hC, hr⟩ := jC_of Bd hml
  obtain ⟨rfl, rfl, hH⟩ := x_enter hv
  have hC : jC p s m _ meth c cX3_levelOf 1 RX3 := hC
  have hx := hC.1.1
  have hb := hC.1.2.1
  have hown := hC.1.2.2.2.1
  have hts := hC.1.2.2.2.2
  have hl := lv_entry ([.int x0]) (n := 1) (Nat.le_of_ble_eq_true rfl)
  rw [lg_entry_eq]
  generalize (lg_sl ([.int x0]) ++ List.replicate (1 - (lg_sl ([.int x0])).length) Slot.unset).toArray = ls at hl ⊢
  have hl : lv_has ls 1 [(0, .int x0)] := hl
  unfold fR_levelOf at h
  refine W_nm (fun H locs eH eL => ?_)
  have hH : xH G s (va_A (xW G σ0) s.heap.size) σ0 H locs := by rw [eH, eL]; exact hH
  show W p l e rmR_levelOf s m _ below meth c H locs 0 0 _ (F0 m 0 ls [])
  refine lv_iload_n hx hb dX3_levelOf_0 rfl (lv_at hl 0 rfl) ?_
  by_cases c1 : x0 = (38 : Int32)
  · have h := ite_t c1 h
    refine lv_lsw (tgt := 86) (off := 85) hx hb (38) c1 dX3_levelOf_1 (by decide) (by decide) (by decide) ?_
    refine lv_iconst (v := 1) hx hb dX3_levelOf_86 (by decide) ?_
    obtain rfl := some_i1 h
    exact x_iret (v := 1) hC hH hr rfl dX3_levelOf_87
  · have h := ite_f c1 h
    by_cases c2 : x0 = (42 : Int32)
    · have h := ite_t c2 h
      refine lv_lsw (tgt := 92) (off := 91) hx hb (42) c2 dX3_levelOf_1 (by decide) (by decide) (by decide) ?_
      refine lv_iconst (v := 4) hx hb dX3_levelOf_92 (by decide) ?_
      obtain rfl := some_i1 h
      exact x_iret (v := 4) hC hH hr rfl dX3_levelOf_93
    · have h := ite_f c2 h
      by_cases c3 : x0 = (43 : Int32)
      · have h := ite_t c3 h
        refine lv_lsw (tgt := 90) (off := 89) hx hb (43) c3 dX3_levelOf_1 (by decide) (by decide) (by decide) ?_
        refine lv_iconst (v := 3) hx hb dX3_levelOf_90 (by decide) ?_
        obtain rfl := some_i1 h
        exact x_iret (v := 3) hC hH hr rfl dX3_levelOf_91
      · have h := ite_f c3 h
        by_cases c4 : x0 = (45 : Int32)
        · have h := ite_t c4 h
          refine lv_lsw (tgt := 90) (off := 89) hx hb (45) c4 dX3_levelOf_1 (by decide) (by decide) (by decide) ?_
          refine lv_iconst (v := 3) hx hb dX3_levelOf_90 (by decide) ?_
          obtain rfl := some_i1 h
          exact x_iret (v := 3) hC hH hr rfl dX3_levelOf_91
        · have h := ite_f c4 h
          by_cases c5 : x0 = (47 : Int32)
          · have h := ite_t c5 h
            refine lv_lsw (tgt := 92) (off := 91) hx hb (47) c5 dX3_levelOf_1 (by decide) (by decide) (by decide) ?_
            refine lv_iconst (v := 4) hx hb dX3_levelOf_92 (by decide) ?_
            obtain rfl := some_i1 h
            exact x_iret (v := 4) hC hH hr rfl dX3_levelOf_93
          · have h := ite_f c5 h
            by_cases c6 : x0 = (60 : Int32)
            · have h := ite_t c6 h
              refine lv_lsw (tgt := 88) (off := 87) hx hb (60) c6 dX3_levelOf_1 (by decide) (by decide) (by decide) ?_
              refine lv_iconst (v := 2) hx hb dX3_levelOf_88 (by decide) ?_
              obtain rfl := some_i1 h
              exact x_iret (v := 2) hC hH hr rfl dX3_levelOf_89
            · have h := ite_f c6 h
              by_cases c7 : x0 = (61 : Int32)
              · have h := ite_t c7 h
                refine lv_lsw (tgt := 88) (off := 87) hx hb (61) c7 dX3_levelOf_1 (by decide) (by decide) (by decide) ?_
                refine lv_iconst (v := 2) hx hb dX3_levelOf_88 (by decide) ?_
                obtain rfl := some_i1 h
                exact x_iret (v := 2) hC hH hr rfl dX3_levelOf_89
              · have h := ite_f c7 h
                by_cases c8 : x0 = (62 : Int32)
                · have h := ite_t c8 h
                  refine lv_lsw (tgt := 88) (off := 87) hx hb (62) c8 dX3_levelOf_1 (by decide) (by decide) (by decide) ?_
                  refine lv_iconst (v := 2) hx hb dX3_levelOf_88 (by decide) ?_
                  obtain rfl := some_i1 h
                  exact x_iret (v := 2) hC hH hr rfl dX3_levelOf_89
                · have h := ite_f c8 h
                  by_cases c9 : x0 = (124 : Int32)
                  · have h := ite_t c9 h
                    refine lv_lsw (tgt := 84) (off := 83) hx hb (124) c9 dX3_levelOf_1 (by decide) (by decide) (by decide) ?_
                    refine lv_iconst (v := 0) hx hb dX3_levelOf_84 (by decide) ?_
                    obtain rfl := some_i1 h
                    exact x_iret (v := 0) hC hH hr rfl dX3_levelOf_85
                  · have h := ite_f c9 h
                    refine lv_lookup (tgt := 94) (off := 93) hx hb dX3_levelOf_1 (by decide) ((lv_osw c1 (by decide)).trans ((lv_osw c2 (by decide)).trans ((lv_osw c3 (by decide)).trans ((lv_osw c4 (by decide)).trans ((lv_osw c5 (by decide)).trans ((lv_osw c6 (by decide)).trans ((lv_osw c7 (by decide)).trans ((lv_osw c8 (by decide)).trans ((lv_osw c9 (by decide)).trans rfl))))))))) (by decide) ?_
                    refine lv_iconst (v := -1) hx hb dX3_levelOf_94 (by decide) ?_
                    obtain rfl := some_i1 h
                    exact x_iret (v := -1) hC hH hr rfl dX3_levelOf_95

def rmT_number : Room := { frames := 0, cells := 0, slots := 0, locals := 0 }
theorem hdX6_number : yX6_number.cls = RX6 ∧ yX6_number.cls ≠ "java/lang/invoke/MethodHandle" ∧ yX6_number.cls ≠ "java/lang/invoke/VarHandle" ∧ (parseMethodDescriptor yX6_number.desc).map (fun d => d.parameters.length) = some 0 := by decide +kernel

def fT_number_L7 (σ0 : XS) (k36 : Int32 → Option (Int32)) : Nat → Int32 → Int32 → Option (Int32)
  | 0, _, _ => none
  | n + 1, x1, x2 =>
    if (xi σ0 5 4) ≤ x2 then (
      k36 x1)
    else (
      ck x2 (96) <|
      bnd ((((10 : Int32) * x1) + (xi σ0 54 (x2).toNatClampNeg)) - (48 : Int32)) fun v5 =>
      bnd (x2 + (1 : Int32)) fun v7 =>
      (fT_number_L7 σ0 k36 n) v5 v7)

set_option maxHeartbeats 4000000 in
set_option maxRecDepth 100000 in
theorem wT_number_L7 {p : Program} {l : Launch} {e : Env} {s : State} {m : MethodId} {args : Array Value} {below : List Frame} {meth : Method} {c : Code} {G : XG} {σ0 : XS} {r : Int32} (hC : jC p s m args meth c cX6_number 3 RX6) (hr : meth.sig.returnType = some .int) {k36 : Int32 → Option (Int32)} (hk36 : ∀ (x1 : Int32) (H : Heap) (locs : List Loc) (ls : Array Slot), xH G s (va_A (xW G σ0) s.heap.size) σ0 H locs → lv_has ls 3 [(1, .int x1)] → k36 x1 = some r → W p l e rmT_number s m args below meth c H locs 0 0 (MQ below (xQi G σ0 s.heap.size σ0 r) args s 0 0 (va_A (xW G σ0) s.heap.size)) (F0 m 36 ls [])) : ∀ (n : Nat) (x1 : Int32) (x2 : Int32) (H : Heap) (locs : List Loc) (ls : Array Slot), xH G s (va_A (xW G σ0) s.heap.size) σ0 H locs → lv_has ls 3 [(0, .ref (xA G 6)), (1, .int x1), (2, .int x2)] → fT_number_L7 σ0 k36 n x1 x2 = some r → W p l e rmT_number s m args below meth c H locs 0 0 (MQ below (xQi G σ0 s.heap.size σ0 r) args s 0 0 (va_A (xW G σ0) s.heap.size)) (F0 m 7 ls []) := by
  have hx := hC.1.1
  have hb := hC.1.2.1
  have hown := hC.1.2.2.2.1
  have hts := hC.1.2.2.2.2
  intro n
  induction n with
  | zero =>
    intro x1 x2 H locs ls  hH hl h
    rw [fT_number_L7] at h
    cases h
  | succ n ih =>
    intro x1 x2 H locs ls  hH hl h
    rw [fT_number_L7] at h
    refine lv_iload_n hx hb dX6_number_7 rfl (lv_at hl 2 rfl) ?_
    refine lv_aload_n hx hb dX6_number_8 rfl (lv_at hl 0 rfl) ?_
    refine x_get (C := RX6) (T := TX6) (N := 5) (v := .int (xi σ0 5 4)) hC hH (xe_T G σ0) rfl wyX6 4 (by decide) wfX6_23 rfl rfl dX6_number_9 ?_
    refine lv_icmp_ge (tgt := 36) hx hb dX6_number_12 (by decide) (fun c3 => ?_) (fun c3 => ?_)
    · have h := ite_t c3 h
      exact hk36 x1 H locs ls  hH (lv_sub hl [1] rfl) h
    · have h := ite_f c3 h
      refine lv_bipush (v := 10) hx hb dX6_number_15 (by decide) ?_
      refine lv_iload_n hx hb dX6_number_17 rfl (lv_at hl 1 rfl) ?_
      refine lv_imul hx hb dX6_number_18 ?_
      refine lv_aload_n hx hb dX6_number_19 rfl (lv_at hl 0 rfl) ?_
      refine x_get (C := RX6) (T := TX6) (N := 5) (v := .ref (xA G (100 + 54))) hC hH (xe_T G σ0) rfl wyX6 0 (by decide) wfX6_9 rfl rfl dX6_number_20 ?_
      refine lv_iload_n hx hb dX6_number_23 rfl (lv_at hl 2 rfl) ?_
      obtain ⟨i4, h⟩ := ck_some h
      refine x_ald hC hH (d := 54) rfl rfl rfl i4 dX6_number_24 ?_
      refine lv_iadd hx hb dX6_number_25 ?_
      refine lv_bipush (v := 48) hx hb dX6_number_26 (by decide) ?_
      refine lv_isub hx hb dX6_number_28 ?_
      obtain ⟨v5, e6, h⟩ := bnd_some h
      refine lv_tope e6 ?_
      refine lv_istore_n (lv' := [(1, .int v5), (0, .ref (xA G 6)), (2, .int x2)]) hx hb dX6_number_29 rfl hl (by decide) rfl (fun ls hl => ?_)
      obtain ⟨v7, e8, h⟩ := bnd_some h
      refine lv_iinc (v := v7) (lv' := [(2, .int v7), (1, .int v5), (0, .ref (xA G 6))]) hx hb dX6_number_30 hl (k := 2) rfl (by rw [e8]; rfl) (by decide) rfl (fun ls hl => ?_)
      refine lv_goto (tgt := 7) hx hb dX6_number_33 (by decide) ?_
      exact ih v5 v7 H locs ls  hH (lv_sub hl [2, 1, 0] rfl) h

def fT_number (σ0 : XS) : Option (Int32) :=
  bnd (xi σ0 5 3) fun v1 =>
  fT_number_L7 σ0 (fun (x1 : Int32) => some x1) 10000 (0 : Int32) v1

set_option maxHeartbeats 4000000 in
set_option maxRecDepth 100000 in
theorem cT_number (l : Launch) (G : XG) (σ0 : XS) {r : Int32} (h : fT_number σ0 = some r) : ∀ sz, Met l yX6_number (Cond.code yX6_number cX6_number 3 (some .int) :: Tw) rmT_number (xP G σ0 sz [.ref (xA G 6)]) (xQi G σ0 sz σ0 r) 0 0 (va_A (xW G σ0) sz) := by
  intro sz
  refine Met.ofW (cc := cX6_number) (maxL := 3) (ret := (some .int)) (by decide) rfl ?_
  intro p e s m args below meth c s₁ Bd hml hv
  obtain ⟨hC, hr⟩ := jC_of Bd hml
  obtain ⟨rfl, rfl, hH⟩ := x_enter hv
  have hC : jC p s m _ meth c cX6_number 3 RX6 := hC
  have hx := hC.1.1
  have hb := hC.1.2.1
  have hown := hC.1.2.2.2.1
  have hts := hC.1.2.2.2.2
  have hl := lv_entry ([.ref (xA G 6)]) (n := 3) (Nat.le_of_ble_eq_true rfl)
  rw [lg_entry_eq]
  generalize (lg_sl ([.ref (xA G 6)]) ++ List.replicate (3 - (lg_sl ([.ref (xA G 6)])).length) Slot.unset).toArray = ls at hl ⊢
  have hl : lv_has ls 3 [(0, .ref (xA G 6))] := hl
  unfold fT_number at h
  refine W_nm (fun H locs eH eL => ?_)
  have hH : xH G s (va_A (xW G σ0) s.heap.size) σ0 H locs := by rw [eH, eL]; exact hH
  show W p l e rmT_number s m _ below meth c H locs 0 0 _ (F0 m 0 ls [])
  refine lv_iconst (v := 0) hx hb dX6_number_0 (by decide) ?_
  refine lv_istore_n (lv' := [(1, .int (0 : Int32)), (0, .ref (xA G 6))]) hx hb dX6_number_1 rfl hl (by decide) rfl (fun ls hl => ?_)
  refine lv_aload_n hx hb dX6_number_2 rfl (lv_at hl 1 rfl) ?_
  refine x_get (C := RX6) (T := TX6) (N := 5) (v := .int (xi σ0 5 3)) hC hH (xe_T G σ0) rfl wyX6 3 (by decide) wfX6_20 rfl rfl dX6_number_3 ?_
  obtain ⟨v1, e2, h⟩ := bnd_some h
  refine lv_tope e2 ?_
  refine lv_istore_n (lv' := [(2, .int v1), (1, .int (0 : Int32)), (0, .ref (xA G 6))]) hx hb dX6_number_6 rfl hl (by decide) rfl (fun ls hl => ?_)
  refine wT_number_L7 hC hr  ?_ 10000 (0 : Int32) v1 H locs ls  hH (lv_sub hl [2, 1, 0] rfl) h
  intro x1 H locs ls  hH hl h
  refine lv_iload_n hx hb dX6_number_36 rfl (lv_at hl 0 rfl) ?_
  obtain rfl := some_i1 h
  exact x_iret hC hH hr rfl dX6_number_37

def rmR_put : Room := { frames := 0, cells := 0, slots := 0, locals := 0 }
theorem hdX3_put : yX3_put.cls = RX3 ∧ yX3_put.cls ≠ "java/lang/invoke/MethodHandle" ∧ yX3_put.cls ≠ "java/lang/invoke/VarHandle" ∧ (parseMethodDescriptor yX3_put.desc).map (fun d => d.parameters.length) = some 1 := by decide +kernel

def fR_put (σ0 : XS) (x1 : Int32) : Option (XS) :=
  if (96 : Int32) ≤ (xi σ0 6 4) then (
    some σ0)
  else (
    ck (xi σ0 6 4) (96) <|
    bnd (xu σ0 55 ((xi σ0 6 4)).toNatClampNeg x1) fun σ2 =>
    bnd (xu σ2 6 4 ((xi σ2 6 4) + (1 : Int32))) fun σ5 =>
    some σ5)

set_option maxHeartbeats 4000000 in
set_option maxRecDepth 100000 in
theorem cR_put (l : Launch) (G : XG) (σ0 : XS) (x1 : Int32) {σr : XS} (h : fR_put σ0 x1 = some σr) : ∀ sz, Met l yX3_put (Cond.code yX3_put cX3_put 2 none :: Tw) rmR_put (xP G σ0 sz [.ref (xA G 7), .int x1]) (xQv G σ0 sz σr) 0 0 (va_A (xW G σ0) sz) := by
  intro sz
  refine Met.ofW (cc := cX3_put) (maxL := 2) (ret := (none)) (by decide) rfl ?_
  intro p e s m args below meth c s₁ Bd hml hv
  obtain ⟨hC, hr⟩ := jC_of Bd hml
  obtain ⟨rfl, rfl, hH⟩ := x_enter hv
  have hC : jC p s m _ meth c cX3_put 2 RX3 := hC
  have hx := hC.1.1
  have hb := hC.1.2.1
  have hown := hC.1.2.2.2.1
  have hts := hC.1.2.2.2.2
  have hl := lv_entry ([.ref (xA G 7), .int x1]) (n := 2) (Nat.le_of_ble_eq_true rfl)
  rw [lg_entry_eq]
  generalize (lg_sl ([.ref (xA G 7), .int x1]) ++ List.replicate (2 - (lg_sl ([.ref (xA G 7), .int x1])).length) Slot.unset).toArray = ls at hl ⊢
  have hl : lv_has ls 2 [(0, .ref (xA G 7)), (1, .int x1)] := hl
  unfold fR_put at h
  refine W_nm (fun H locs eH eL => ?_)
  have hH : xH G s (va_A (xW G σ0) s.heap.size) σ0 H locs := by rw [eH, eL]; exact hH
  show W p l e rmR_put s m _ below meth c H locs 0 0 _ (F0 m 0 ls [])
  refine lv_aload_n hx hb dX3_put_0 rfl (lv_at hl 0 rfl) ?_
  refine x_get (C := RX3) (T := TX3) (N := 7) (v := .int (xi σ0 6 4)) hC hH (xe_R G σ0) rfl wyX3 4 (by decide) wfX3_24 rfl rfl dX3_put_1 ?_
  refine lv_aload_n hx hb dX3_put_4 rfl (lv_at hl 0 rfl) ?_
  refine x_get (C := RX3) (T := TX3) (N := 7) (v := .ref (xA G (100 + 55))) hC hH (xe_R G σ0) rfl wyX3 3 (by decide) wfX3_20 rfl rfl dX3_put_5 ?_
  refine x_alen (v := 96) hC hH (d := 55) rfl rfl (by decide) dX3_put_8 ?_
  refine lv_icmp_ge (tgt := 32) hx hb dX3_put_9 (by decide) (fun c1 => ?_) (fun c1 => ?_)
  · have h := ite_t c1 h
    obtain rfl := some_i1 h
    exact x_vret hC hH hr dX3_put_32
  · have h := ite_f c1 h
    refine lv_aload_n hx hb dX3_put_12 rfl (lv_at hl 0 rfl) ?_
    refine x_get (C := RX3) (T := TX3) (N := 7) (v := .ref (xA G (100 + 55))) hC hH (xe_R G σ0) rfl wyX3 3 (by decide) wfX3_20 rfl rfl dX3_put_13 ?_
    refine lv_aload_n hx hb dX3_put_16 rfl (lv_at hl 0 rfl) ?_
    refine x_get (C := RX3) (T := TX3) (N := 7) (v := .int (xi σ0 6 4)) hC hH (xe_R G σ0) rfl wyX3 4 (by decide) wfX3_24 rfl rfl dX3_put_17 ?_
    refine lv_iload_n hx hb dX3_put_20 rfl (lv_at hl 1 rfl) ?_
    obtain ⟨i4, h⟩ := ck_some h
    obtain ⟨σ2, e3, h⟩ := bnd_some h
    refine x_ast hC hH (d := 55) rfl rfl rfl e3 i4 dX3_put_21 (fun H locs hH => ?_)
    refine lv_aload_n hx hb dX3_put_22 rfl (lv_at hl 0 rfl) ?_
    refine lv_dup hx hb dX3_put_23 rfl ?_
    refine x_get (C := RX3) (T := TX3) (N := 7) (v := .int (xi σ2 6 4)) hC hH (xe_R G σ2) rfl wyX3 4 (by decide) wfX3_24 rfl rfl dX3_put_24 ?_
    refine lv_iconst (v := 1) hx hb dX3_put_27 (by decide) ?_
    refine lv_iadd hx hb dX3_put_28 ?_
    obtain ⟨σ5, e6, h⟩ := bnd_some h
    refine x_put (C := RX3) (T := TX3) (N := 7) (ty := .int) (v := .int ((xi σ2 6 4) + (1 : Int32))) hC hH (xe_R G σ2) rfl wyX3 tyX3_ok nmX3 4 (by decide) wfX3_24 rfl rfl (by decide +kernel) rfl rfl (Nat.le_of_ble_eq_true rfl) e6 (xs_R_4 G σ2 _) dX3_put_29 (fun H locs hH => ?_)
    obtain rfl := some_i1 h
    exact x_vret hC hH hr dX3_put_32

def rmT_sortOf : Room := { frames := 0, cells := 0, slots := 0, locals := 0 }
theorem hdX6_sortOf : yX6_sortOf.cls ≠ "java/lang/invoke/MethodHandle" ∧ yX6_sortOf.cls ≠ "java/lang/invoke/VarHandle" ∧ (parseMethodDescriptor yX6_sortOf.desc).map (fun d => d.parameters.length) = some 1 := by decide +kernel

def fT_sortOf_J14 (σ0 : XS) (x0 : Int32) : Option (Int32) :=
  if x0 < (48 : Int32) then (
    some (3 : Int32))
  else (
    if (57 : Int32) < x0 then (
      some (3 : Int32))
    else (
      some (2 : Int32)))

set_option maxHeartbeats 4000000 in
set_option maxRecDepth 100000 in
theorem wT_sortOf_J14 {p : Program} {l : Launch} {e : Env} {s : State} {m : MethodId} {args : Array Value} {below : List Frame} {meth : Method} {c : Code} {G : XG} {σ0 : XS} {r : Int32} (hC : jC p s m args meth c cX6_sortOf 1 RX6) (hr : meth.sig.returnType = some .int) (x0 : Int32) (H : Heap) (locs : List Loc) (ls : Array Slot) (hH : xH G s (va_A (xW G σ0) s.heap.size) σ0 H locs) (hl : lv_has ls 1 [(0, .int x0)]) (h : fT_sortOf_J14 σ0 x0 = some r) : W p l e rmT_sortOf s m args below meth c H locs 0 0 (MQ below (xQi G σ0 s.heap.size σ0 r) args s 0 0 (va_A (xW G σ0) s.heap.size)) (F0 m 14 ls []) := by
  have hx := hC.1.1
  have hb := hC.1.2.1
  have hown := hC.1.2.2.2.1
  have hts := hC.1.2.2.2.2
  unfold fT_sortOf_J14 at h
  refine lv_iload_n hx hb dX6_sortOf_14 rfl (lv_at hl 0 rfl) ?_
  refine lv_bipush (v := 48) hx hb dX6_sortOf_15 (by decide) ?_
  refine lv_icmp_lt (tgt := 30) hx hb dX6_sortOf_17 (by decide) (fun c2 => ?_) (fun c2 => ?_)
  · have h := ite_t c2 h
    refine lv_iconst (v := 3) hx hb dX6_sortOf_30 (by decide) ?_
    obtain rfl := some_i1 h
    exact x_iret (v := 3) hC hH hr rfl dX6_sortOf_31
  · have h := ite_f c2 h
    refine lv_iload_n hx hb dX6_sortOf_20 rfl (lv_at hl 0 rfl) ?_
    refine lv_bipush (v := 57) hx hb dX6_sortOf_21 (by decide) ?_
    refine lv_icmp_gt (tgt := 30) hx hb dX6_sortOf_23 (by decide) (fun c3 => ?_) (fun c3 => ?_)
    · have h := ite_t c3 h
      refine lv_iconst (v := 3) hx hb dX6_sortOf_30 (by decide) ?_
      obtain rfl := some_i1 h
      exact x_iret (v := 3) hC hH hr rfl dX6_sortOf_31
    · have h := ite_f c3 h
      refine lv_iconst (v := 2) hx hb dX6_sortOf_26 (by decide) ?_
      refine lv_goto (tgt := 31) hx hb dX6_sortOf_27 (by decide) ?_
      obtain rfl := some_i1 h
      exact x_iret (v := 2) hC hH hr rfl dX6_sortOf_31

def fT_sortOf (σ0 : XS) (x0 : Int32) : Option (Int32) :=
  if x0 < (97 : Int32) then (
    fT_sortOf_J14 σ0 x0)
  else (
    if (122 : Int32) < x0 then (
      fT_sortOf_J14 σ0 x0)
    else (
      some (1 : Int32)))

set_option maxHeartbeats 4000000 in
set_option maxRecDepth 100000 in
theorem cT_sortOf (l : Launch) (G : XG) (σ0 : XS) (x0 : Int32) {r : Int32} (h : fT_sortOf σ0 x0 = some r) : ∀ sz, Met l yX6_sortOf (Cond.code yX6_sortOf cX6_sortOf 1 (some .int) :: Tw) rmT_sortOf (xP G σ0 sz [.int x0]) (xQi G σ0 sz σ0 r) 0 0 (va_A (xW G σ0) sz) := by
  intro sz
  refine Met.ofW (cc := cX6_sortOf) (maxL := 1) (ret := (some .int)) (by decide) rfl ?_
  intro p e s m args below meth c s₁ Bd hml hv
  obtain ⟨hC, hr⟩ := jC_of Bd hml
  obtain ⟨rfl, rfl, hH⟩ := x_enter hv
  have hC : jC p s m _ meth c cX6_sortOf 1 RX6 := hC
  have hx := hC.1.1
  have hb := hC.1.2.1
  have hown := hC.1.2.2.2.1
  have hts := hC.1.2.2.2.2
  have hl := lv_entry ([.int x0]) (n := 1) (Nat.le_of_ble_eq_true rfl)
  rw [lg_entry_eq]
  generalize (lg_sl ([.int x0]) ++ List.replicate (1 - (lg_sl ([.int x0])).length) Slot.unset).toArray = ls at hl ⊢
  have hl : lv_has ls 1 [(0, .int x0)] := hl
  unfold fT_sortOf at h
  refine W_nm (fun H locs eH eL => ?_)
  have hH : xH G s (va_A (xW G σ0) s.heap.size) σ0 H locs := by rw [eH, eL]; exact hH
  show W p l e rmT_sortOf s m _ below meth c H locs 0 0 _ (F0 m 0 ls [])
  refine lv_iload_n hx hb dX6_sortOf_0 rfl (lv_at hl 0 rfl) ?_
  refine lv_bipush (v := 97) hx hb dX6_sortOf_1 (by decide) ?_
  refine lv_icmp_lt (tgt := 14) hx hb dX6_sortOf_3 (by decide) (fun c1 => ?_) (fun c1 => ?_)
  · have h := ite_t c1 h
    exact wT_sortOf_J14 hC hr  x0 H locs ls  hH hl h
  · have h := ite_f c1 h
    refine lv_iload_n hx hb dX6_sortOf_6 rfl (lv_at hl 0 rfl) ?_
    refine lv_bipush (v := 122) hx hb dX6_sortOf_7 (by decide) ?_
    refine lv_icmp_gt (tgt := 14) hx hb dX6_sortOf_9 (by decide) (fun c4 => ?_) (fun c4 => ?_)
    · have h := ite_t c4 h
      exact wT_sortOf_J14 hC hr  x0 H locs ls  hH hl h
    · have h := ite_f c4 h
      refine lv_iconst (v := 1) hx hb dX6_sortOf_12 (by decide) ?_
      obtain rfl := some_i1 h
      exact x_iret (v := 1) hC hH hr rfl dX6_sortOf_13

def rmT_next : Room := { frames := 1, cells := 0, slots := 0, locals := 20 }
theorem hdX6_next : yX6_next.cls = RX6 ∧ yX6_next.cls ≠ "java/lang/invoke/MethodHandle" ∧ yX6_next.cls ≠ "java/lang/invoke/VarHandle" ∧ (parseMethodDescriptor yX6_next.desc).map (fun d => d.parameters.length) = some 0 := by decide +kernel

def fT_next_L32 (k70 : Int32 → Int32 → XS → Option (XS)) : Nat → Int32 → Int32 → XS → Option (XS)
  | 0, _, _, _ => none
  | n + 1, x1, x2, σ =>
    if (xi σ 5 1) ≤ (xi σ 5 3) then (
      k70 x1 x2 σ)
    else (
      ck (xi σ 5 3) (96) <|
      if (xi σ 54 ((xi σ 5 3)).toNatClampNeg) = (32 : Int32) then (
        bnd (xu σ 5 3 ((xi σ 5 3) + (1 : Int32))) fun σ9 =>
        (fT_next_L32 k70 n) x1 x2 σ9)
      else (
        k70 x1 x2 σ))

set_option maxHeartbeats 4000000 in
set_option maxRecDepth 100000 in
theorem wT_next_L32 {p : Program} {l : Launch} {e : Env} {s : State} {m : MethodId} {args : Array Value} {below : List Frame} {meth : Method} {c : Code} {G : XG} {σ0 : XS} {σr : XS} (hC : jC p s m args meth c cX6_next 3 RX6) (hr : meth.sig.returnType = none) {k70 : Int32 → Int32 → XS → Option (XS)} (hk70 : ∀ (x1 : Int32) (x2 : Int32) (σ : XS) (H : Heap) (locs : List Loc) (ls : Array Slot), xH G s (va_A (xW G σ0) s.heap.size) σ H locs → lv_has ls 3 [(0, .ref (xA G 6)), (1, .int x1), (2, .int x2)] → k70 x1 x2 σ = some σr → W p l e rmT_next s m args below meth c H locs 0 0 (MQ below (xQv G σ0 s.heap.size σr) args s 0 0 (va_A (xW G σ0) s.heap.size)) (F0 m 70 ls [])) : ∀ (n : Nat) (x1 : Int32) (x2 : Int32) (σ : XS) (H : Heap) (locs : List Loc) (ls : Array Slot), xH G s (va_A (xW G σ0) s.heap.size) σ H locs → lv_has ls 3 [(0, .ref (xA G 6)), (1, .int x1), (2, .int x2)] → fT_next_L32 k70 n x1 x2 σ = some σr → W p l e rmT_next s m args below meth c H locs 0 0 (MQ below (xQv G σ0 s.heap.size σr) args s 0 0 (va_A (xW G σ0) s.heap.size)) (F0 m 32 ls []) := by
  have hx := hC.1.1
  have hb := hC.1.2.1
  have hown := hC.1.2.2.2.1
  have hts := hC.1.2.2.2.2
  intro n
  induction n with
  | zero =>
    intro x1 x2 σ H locs ls  hH hl h
    rw [fT_next_L32] at h
    cases h
  | succ n ih =>
    intro x1 x2 σ H locs ls  hH hl h
    rw [fT_next_L32] at h
    refine lv_aload_n hx hb dX6_next_32 rfl (lv_at hl 0 rfl) ?_
    refine x_get (C := RX6) (T := TX6) (N := 5) (v := .int (xi σ 5 3)) hC hH (xe_T G σ) rfl wyX6 3 (by decide) wfX6_20 rfl rfl dX6_next_33 ?_
    refine lv_aload_n hx hb dX6_next_36 rfl (lv_at hl 0 rfl) ?_
    refine x_get (C := RX6) (T := TX6) (N := 5) (v := .int (xi σ 5 1)) hC hH (xe_T G σ) rfl wyX6 1 (by decide) wfX6_13 rfl rfl dX6_next_37 ?_
    refine lv_icmp_ge (tgt := 70) hx hb dX6_next_40 (by decide) (fun c6 => ?_) (fun c6 => ?_)
    · have h := ite_t c6 h
      exact hk70 x1 x2 σ H locs ls  hH hl h
    · have h := ite_f c6 h
      refine lv_aload_n hx hb dX6_next_43 rfl (lv_at hl 0 rfl) ?_
      refine x_get (C := RX6) (T := TX6) (N := 5) (v := .ref (xA G (100 + 54))) hC hH (xe_T G σ) rfl wyX6 0 (by decide) wfX6_9 rfl rfl dX6_next_44 ?_
      refine lv_aload_n hx hb dX6_next_47 rfl (lv_at hl 0 rfl) ?_
      refine x_get (C := RX6) (T := TX6) (N := 5) (v := .int (xi σ 5 3)) hC hH (xe_T G σ) rfl wyX6 3 (by decide) wfX6_20 rfl rfl dX6_next_48 ?_
      obtain ⟨i7, h⟩ := ck_some h
      refine x_ald hC hH (d := 54) rfl rfl rfl i7 dX6_next_51 ?_
      refine lv_bipush (v := 32) hx hb dX6_next_52 (by decide) ?_
      refine lv_icmp_ne (tgt := 70) hx hb dX6_next_54 (by decide) (fun c8 => ?_) (fun c8 => ?_)
      · have h := ite_f c8 h
        exact hk70 x1 x2 σ H locs ls  hH hl h
      · have h := ite_t c8 h
        refine lv_aload_n hx hb dX6_next_57 rfl (lv_at hl 0 rfl) ?_
        refine lv_dup hx hb dX6_next_58 rfl ?_
        refine x_get (C := RX6) (T := TX6) (N := 5) (v := .int (xi σ 5 3)) hC hH (xe_T G σ) rfl wyX6 3 (by decide) wfX6_20 rfl rfl dX6_next_59 ?_
        refine lv_iconst (v := 1) hx hb dX6_next_62 (by decide) ?_
        refine lv_iadd hx hb dX6_next_63 ?_
        obtain ⟨σ9, e10, h⟩ := bnd_some h
        refine x_put (C := RX6) (T := TX6) (N := 5) (ty := .int) (v := .int ((xi σ 5 3) + (1 : Int32))) hC hH (xe_T G σ) rfl wyX6 tyX6_ok nmX6 3 (by decide) wfX6_20 rfl rfl (by decide +kernel) rfl rfl (Nat.le_of_ble_eq_true rfl) e10 (xs_T_3 G σ _) dX6_next_64 (fun H locs hH => ?_)
        refine lv_goto (tgt := 32) hx hb dX6_next_67 (by decide) ?_
        exact ih x1 x2 σ9 H locs ls  hH hl h

def fT_next_L121 (k172 : Int32 → Int32 → XS → Option (XS)) : Nat → Int32 → Int32 → XS → Option (XS)
  | 0, _, _, _ => none
  | n + 1, x1, x2, σ =>
    if (xi σ 5 2) = (3 : Int32) then (
      k172 x1 x2 σ)
    else (
      if (xi σ 5 1) ≤ (xi σ 5 4) then (
        k172 x1 x2 σ)
      else (
        ck (xi σ 5 4) (96) <|
        ob (fT_sortOf σ (xi σ 54 ((xi σ 5 4)).toNatClampNeg)) fun r25 =>
        if r25 = (xi σ 5 2) then (
          bnd (xu σ 5 4 ((xi σ 5 4) + (1 : Int32))) fun σ27 =>
          (fT_next_L121 k172 n) x1 x2 σ27)
        else (
          k172 x1 x2 σ)))

set_option maxHeartbeats 4000000 in
set_option maxRecDepth 100000 in
theorem wT_next_L121 {p : Program} {l : Launch} {e : Env} {s : State} {m : MethodId} {args : Array Value} {below : List Frame} {meth : Method} {c : Code} {G : XG} {σ0 : XS} {σr : XS} (hC : jC p s m args meth c cX6_next 3 RX6) (hr : meth.sig.returnType = none) {k172 : Int32 → Int32 → XS → Option (XS)} (hk172 : ∀ (x1 : Int32) (x2 : Int32) (σ : XS) (H : Heap) (locs : List Loc) (ls : Array Slot), xH G s (va_A (xW G σ0) s.heap.size) σ H locs → lv_has ls 3 [(0, .ref (xA G 6)), (1, .int x1), (2, .int x2)] → k172 x1 x2 σ = some σr → W p l e rmT_next s m args below meth c H locs 0 0 (MQ below (xQv G σ0 s.heap.size σr) args s 0 0 (va_A (xW G σ0) s.heap.size)) (F0 m 172 ls [])) : ∀ (n : Nat) (x1 : Int32) (x2 : Int32) (σ : XS) (H : Heap) (locs : List Loc) (ls : Array Slot), xH G s (va_A (xW G σ0) s.heap.size) σ H locs → lv_has ls 3 [(0, .ref (xA G 6)), (1, .int x1), (2, .int x2)] → fT_next_L121 k172 n x1 x2 σ = some σr → W p l e rmT_next s m args below meth c H locs 0 0 (MQ below (xQv G σ0 s.heap.size σr) args s 0 0 (va_A (xW G σ0) s.heap.size)) (F0 m 121 ls []) := by
  have hx := hC.1.1
  have hb := hC.1.2.1
  have hown := hC.1.2.2.2.1
  have hts := hC.1.2.2.2.2
  intro n
  induction n with
  | zero =>
    intro x1 x2 σ H locs ls  hH hl h
    rw [fT_next_L121] at h
    cases h
  | succ n ih =>
    intro x1 x2 σ H locs ls  hH hl h
    rw [fT_next_L121] at h
    refine lv_aload_n hx hb dX6_next_121 rfl (lv_at hl 0 rfl) ?_
    refine x_get (C := RX6) (T := TX6) (N := 5) (v := .int (xi σ 5 2)) hC hH (xe_T G σ) rfl wyX6 2 (by decide) wfX6_17 rfl rfl dX6_next_122 ?_
    refine lv_iconst (v := 3) hx hb dX6_next_125 (by decide) ?_
    refine lv_icmp_eq (tgt := 172) hx hb dX6_next_126 (by decide) (fun c21 => ?_) (fun c21 => ?_)
    · have h := ite_t c21 h
      exact hk172 x1 x2 σ H locs ls  hH hl h
    · have h := ite_f c21 h
      refine lv_aload_n hx hb dX6_next_129 rfl (lv_at hl 0 rfl) ?_
      refine x_get (C := RX6) (T := TX6) (N := 5) (v := .int (xi σ 5 4)) hC hH (xe_T G σ) rfl wyX6 4 (by decide) wfX6_23 rfl rfl dX6_next_130 ?_
      refine lv_aload_n hx hb dX6_next_133 rfl (lv_at hl 0 rfl) ?_
      refine x_get (C := RX6) (T := TX6) (N := 5) (v := .int (xi σ 5 1)) hC hH (xe_T G σ) rfl wyX6 1 (by decide) wfX6_13 rfl rfl dX6_next_134 ?_
      refine lv_icmp_ge (tgt := 172) hx hb dX6_next_137 (by decide) (fun c22 => ?_) (fun c22 => ?_)
      · have h := ite_t c22 h
        exact hk172 x1 x2 σ H locs ls  hH hl h
      · have h := ite_f c22 h
        refine lv_aload_n hx hb dX6_next_140 rfl (lv_at hl 0 rfl) ?_
        refine x_get (C := RX6) (T := TX6) (N := 5) (v := .ref (xA G (100 + 54))) hC hH (xe_T G σ) rfl wyX6 0 (by decide) wfX6_9 rfl rfl dX6_next_141 ?_
        refine lv_aload_n hx hb dX6_next_144 rfl (lv_at hl 0 rfl) ?_
        refine x_get (C := RX6) (T := TX6) (N := 5) (v := .int (xi σ 5 4)) hC hH (xe_T G σ) rfl wyX6 4 (by decide) wfX6_23 rfl rfl dX6_next_145 ?_
        obtain ⟨i23, h⟩ := ck_some h
        refine x_ald hC hH (d := 54) rfl rfl rfl i23 dX6_next_148 ?_
        obtain ⟨r25, h24, h⟩ := ob_some h
        refine x_calls (As := [.int (xi σ 54 ((xi σ 5 4)).toNatClampNeg)]) (rest := []) (cT_sortOf l G σ (xi σ 54 ((xi σ 5 4)).toNatClampNeg)  h24) hC hH hl (va_cwS 1 hts (gS wmX6_29 wsX6_sortOf) rfl rfl rfl hdX6_sortOf ⟨Nat.le_of_ble_eq_true rfl, Nat.le_of_ble_eq_true rfl⟩) rfl rfl (Nat.le_of_ble_eq_true rfl) ⟨Nat.zero_le _, Nat.zero_le _⟩ dX6_next_149 (fun H locs hH => ?_)
        refine lv_aload_n hx hb dX6_next_152 rfl (lv_at hl 0 rfl) ?_
        refine x_get (C := RX6) (T := TX6) (N := 5) (v := .int (xi σ 5 2)) hC hH (xe_T G σ) rfl wyX6 2 (by decide) wfX6_17 rfl rfl dX6_next_153 ?_
        refine lv_icmp_ne (tgt := 172) hx hb dX6_next_156 (by decide) (fun c26 => ?_) (fun c26 => ?_)
        · have h := ite_f c26 h
          exact hk172 x1 x2 σ H locs ls  hH hl h
        · have h := ite_t c26 h
          refine lv_aload_n hx hb dX6_next_159 rfl (lv_at hl 0 rfl) ?_
          refine lv_dup hx hb dX6_next_160 rfl ?_
          refine x_get (C := RX6) (T := TX6) (N := 5) (v := .int (xi σ 5 4)) hC hH (xe_T G σ) rfl wyX6 4 (by decide) wfX6_23 rfl rfl dX6_next_161 ?_
          refine lv_iconst (v := 1) hx hb dX6_next_164 (by decide) ?_
          refine lv_iadd hx hb dX6_next_165 ?_
          obtain ⟨σ27, e28, h⟩ := bnd_some h
          refine x_put (C := RX6) (T := TX6) (N := 5) (ty := .int) (v := .int ((xi σ 5 4) + (1 : Int32))) hC hH (xe_T G σ) rfl wyX6 tyX6_ok nmX6 4 (by decide) wfX6_23 rfl rfl (by decide +kernel) rfl rfl (Nat.le_of_ble_eq_true rfl) e28 (xs_T_4 G σ _) dX6_next_166 (fun H locs hH => ?_)
          refine lv_goto (tgt := 121) hx hb dX6_next_169 (by decide) ?_
          exact ih x1 x2 σ27 H locs ls  hH hl h

def fT_next_J172 (x1 : Int32) (x2 : Int32) (σ : XS) : Option (XS) :=
  if x1 = 0 then (
    some σ)
  else (
    if (xi σ 5 2) = (3 : Int32) then (
      some σ)
    else (
      if (xi σ 5 3) = x2 then (
        bnd (xu σ 5 2 (4 : Int32)) fun σ32 =>
        some σ32)
      else (
        some σ)))

set_option maxHeartbeats 4000000 in
set_option maxRecDepth 100000 in
theorem wT_next_J172 {p : Program} {l : Launch} {e : Env} {s : State} {m : MethodId} {args : Array Value} {below : List Frame} {meth : Method} {c : Code} {G : XG} {σ0 : XS} {σr : XS} (hC : jC p s m args meth c cX6_next 3 RX6) (hr : meth.sig.returnType = none) (x1 : Int32) (x2 : Int32) (σ : XS) (H : Heap) (locs : List Loc) (ls : Array Slot) (hH : xH G s (va_A (xW G σ0) s.heap.size) σ H locs) (hl : lv_has ls 3 [(0, .ref (xA G 6)), (1, .int x1), (2, .int x2)]) (h : fT_next_J172 x1 x2 σ = some σr) : W p l e rmT_next s m args below meth c H locs 0 0 (MQ below (xQv G σ0 s.heap.size σr) args s 0 0 (va_A (xW G σ0) s.heap.size)) (F0 m 172 ls []) := by
  have hx := hC.1.1
  have hb := hC.1.2.1
  have hown := hC.1.2.2.2.1
  have hts := hC.1.2.2.2.2
  unfold fT_next_J172 at h
  refine lv_iload_n hx hb dX6_next_172 rfl (lv_at hl 1 rfl) ?_
  refine lv_if_eq (tgt := 197) hx hb dX6_next_173 (by decide) (fun c29 => ?_) (fun c29 => ?_)
  · have h := ite_t c29 h
    obtain rfl := some_i1 h
    exact x_vret hC hH hr dX6_next_197
  · have h := ite_f c29 h
    refine lv_aload_n hx hb dX6_next_176 rfl (lv_at hl 0 rfl) ?_
    refine x_get (C := RX6) (T := TX6) (N := 5) (v := .int (xi σ 5 2)) hC hH (xe_T G σ) rfl wyX6 2 (by decide) wfX6_17 rfl rfl dX6_next_177 ?_
    refine lv_iconst (v := 3) hx hb dX6_next_180 (by decide) ?_
    refine lv_icmp_eq (tgt := 197) hx hb dX6_next_181 (by decide) (fun c30 => ?_) (fun c30 => ?_)
    · have h := ite_t c30 h
      obtain rfl := some_i1 h
      exact x_vret hC hH hr dX6_next_197
    · have h := ite_f c30 h
      refine lv_aload_n hx hb dX6_next_184 rfl (lv_at hl 0 rfl) ?_
      refine x_get (C := RX6) (T := TX6) (N := 5) (v := .int (xi σ 5 3)) hC hH (xe_T G σ) rfl wyX6 3 (by decide) wfX6_20 rfl rfl dX6_next_185 ?_
      refine lv_iload_n hx hb dX6_next_188 rfl (lv_at hl 2 rfl) ?_
      refine lv_icmp_ne (tgt := 197) hx hb dX6_next_189 (by decide) (fun c31 => ?_) (fun c31 => ?_)
      · have h := ite_f c31 h
        obtain rfl := some_i1 h
        exact x_vret hC hH hr dX6_next_197
      · have h := ite_t c31 h
        refine lv_aload_n hx hb dX6_next_192 rfl (lv_at hl 0 rfl) ?_
        refine lv_iconst (v := 4) hx hb dX6_next_193 (by decide) ?_
        obtain ⟨σ32, e33, h⟩ := bnd_some h
        refine x_put (C := RX6) (T := TX6) (N := 5) (ty := .int) (v := .int (4 : Int32)) hC hH (xe_T G σ) rfl wyX6 tyX6_ok nmX6 2 (by decide) wfX6_17 rfl rfl (by decide +kernel) rfl rfl (Nat.le_of_ble_eq_true rfl) e33 (xs_T_2 G σ _) dX6_next_194 (fun H locs hH => ?_)
        obtain rfl := some_i1 h
        exact x_vret hC hH hr dX6_next_197

def fT_next_J70 (x1 : Int32) (x2 : Int32) (σ : XS) : Option (XS) :=
  bnd (xu σ 5 4 (xi σ 5 3)) fun σ11 =>
  if (xi σ11 5 3) = (xi σ11 5 1) then (
    bnd (xu σ11 5 2 (0 : Int32)) fun σ34 =>
    some σ34)
  else (
    ck (xi σ11 5 3) (96) <|
    ob (fT_sortOf σ11 (xi σ11 54 ((xi σ11 5 3)).toNatClampNeg)) fun r16 =>
    bnd (xu σ11 5 2 r16) fun σ17 =>
    bnd (xu σ17 5 4 ((xi σ17 5 4) + (1 : Int32))) fun σ19 =>
    fT_next_L121 (fun (x1 : Int32) (x2 : Int32) (σ : XS) => fT_next_J172 x1 x2 σ) 10000 x1 x2 σ19)

set_option maxHeartbeats 4000000 in
set_option maxRecDepth 100000 in
theorem wT_next_J70 {p : Program} {l : Launch} {e : Env} {s : State} {m : MethodId} {args : Array Value} {below : List Frame} {meth : Method} {c : Code} {G : XG} {σ0 : XS} {σr : XS} (hC : jC p s m args meth c cX6_next 3 RX6) (hr : meth.sig.returnType = none) (x1 : Int32) (x2 : Int32) (σ : XS) (H : Heap) (locs : List Loc) (ls : Array Slot) (hH : xH G s (va_A (xW G σ0) s.heap.size) σ H locs) (hl : lv_has ls 3 [(0, .ref (xA G 6)), (1, .int x1), (2, .int x2)]) (h : fT_next_J70 x1 x2 σ = some σr) : W p l e rmT_next s m args below meth c H locs 0 0 (MQ below (xQv G σ0 s.heap.size σr) args s 0 0 (va_A (xW G σ0) s.heap.size)) (F0 m 70 ls []) := by
  have hx := hC.1.1
  have hb := hC.1.2.1
  have hown := hC.1.2.2.2.1
  have hts := hC.1.2.2.2.2
  unfold fT_next_J70 at h
  refine lv_aload_n hx hb dX6_next_70 rfl (lv_at hl 0 rfl) ?_
  refine lv_aload_n hx hb dX6_next_71 rfl (lv_at hl 0 rfl) ?_
  refine x_get (C := RX6) (T := TX6) (N := 5) (v := .int (xi σ 5 3)) hC hH (xe_T G σ) rfl wyX6 3 (by decide) wfX6_20 rfl rfl dX6_next_72 ?_
  obtain ⟨σ11, e12, h⟩ := bnd_some h
  refine x_put (C := RX6) (T := TX6) (N := 5) (ty := .int) (v := .int (xi σ 5 3)) hC hH (xe_T G σ) rfl wyX6 tyX6_ok nmX6 4 (by decide) wfX6_23 rfl rfl (by decide +kernel) rfl rfl (Nat.le_of_ble_eq_true rfl) e12 (xs_T_4 G σ _) dX6_next_75 (fun H locs hH => ?_)
  refine lv_aload_n hx hb dX6_next_78 rfl (lv_at hl 0 rfl) ?_
  refine x_get (C := RX6) (T := TX6) (N := 5) (v := .int (xi σ11 5 3)) hC hH (xe_T G σ11) rfl wyX6 3 (by decide) wfX6_20 rfl rfl dX6_next_79 ?_
  refine lv_aload_n hx hb dX6_next_82 rfl (lv_at hl 0 rfl) ?_
  refine x_get (C := RX6) (T := TX6) (N := 5) (v := .int (xi σ11 5 1)) hC hH (xe_T G σ11) rfl wyX6 1 (by decide) wfX6_13 rfl rfl dX6_next_83 ?_
  refine lv_icmp_ne (tgt := 95) hx hb dX6_next_86 (by decide) (fun c13 => ?_) (fun c13 => ?_)
  · have h := ite_f c13 h
    refine lv_aload_n hx hb dX6_next_95 rfl (lv_at hl 0 rfl) ?_
    refine lv_aload_n hx hb dX6_next_96 rfl (lv_at hl 0 rfl) ?_
    refine x_get (C := RX6) (T := TX6) (N := 5) (v := .ref (xA G (100 + 54))) hC hH (xe_T G σ11) rfl wyX6 0 (by decide) wfX6_9 rfl rfl dX6_next_97 ?_
    refine lv_aload_n hx hb dX6_next_100 rfl (lv_at hl 0 rfl) ?_
    refine x_get (C := RX6) (T := TX6) (N := 5) (v := .int (xi σ11 5 3)) hC hH (xe_T G σ11) rfl wyX6 3 (by decide) wfX6_20 rfl rfl dX6_next_101 ?_
    obtain ⟨i14, h⟩ := ck_some h
    refine x_ald hC hH (d := 54) rfl rfl rfl i14 dX6_next_104 ?_
    obtain ⟨r16, h15, h⟩ := ob_some h
    refine x_calls (As := [.int (xi σ11 54 ((xi σ11 5 3)).toNatClampNeg)]) (rest := [.ref (xA G 6)]) (cT_sortOf l G σ11 (xi σ11 54 ((xi σ11 5 3)).toNatClampNeg)  h15) hC hH hl (va_cwS 1 hts (gS wmX6_29 wsX6_sortOf) rfl rfl rfl hdX6_sortOf ⟨Nat.le_of_ble_eq_true rfl, Nat.le_of_ble_eq_true rfl⟩) rfl rfl (Nat.le_of_ble_eq_true rfl) ⟨Nat.zero_le _, Nat.zero_le _⟩ dX6_next_105 (fun H locs hH => ?_)
    obtain ⟨σ17, e18, h⟩ := bnd_some h
    refine x_put (C := RX6) (T := TX6) (N := 5) (ty := .int) (v := .int r16) hC hH (xe_T G σ11) rfl wyX6 tyX6_ok nmX6 2 (by decide) wfX6_17 rfl rfl (by decide +kernel) rfl rfl (Nat.le_of_ble_eq_true rfl) e18 (xs_T_2 G σ11 _) dX6_next_108 (fun H locs hH => ?_)
    refine lv_aload_n hx hb dX6_next_111 rfl (lv_at hl 0 rfl) ?_
    refine lv_dup hx hb dX6_next_112 rfl ?_
    refine x_get (C := RX6) (T := TX6) (N := 5) (v := .int (xi σ17 5 4)) hC hH (xe_T G σ17) rfl wyX6 4 (by decide) wfX6_23 rfl rfl dX6_next_113 ?_
    refine lv_iconst (v := 1) hx hb dX6_next_116 (by decide) ?_
    refine lv_iadd hx hb dX6_next_117 ?_
    obtain ⟨σ19, e20, h⟩ := bnd_some h
    refine x_put (C := RX6) (T := TX6) (N := 5) (ty := .int) (v := .int ((xi σ17 5 4) + (1 : Int32))) hC hH (xe_T G σ17) rfl wyX6 tyX6_ok nmX6 4 (by decide) wfX6_23 rfl rfl (by decide +kernel) rfl rfl (Nat.le_of_ble_eq_true rfl) e20 (xs_T_4 G σ17 _) dX6_next_118 (fun H locs hH => ?_)
    refine wT_next_L121 hC hr  ?_ 10000 x1 x2 σ19 H locs ls  hH hl h
    intro x1 x2 σ H locs ls  hH hl h
    exact wT_next_J172 hC hr  x1 x2 σ H locs ls  hH hl h
  · have h := ite_t c13 h
    refine lv_aload_n hx hb dX6_next_89 rfl (lv_at hl 0 rfl) ?_
    refine lv_iconst (v := 0) hx hb dX6_next_90 (by decide) ?_
    obtain ⟨σ34, e35, h⟩ := bnd_some h
    refine x_put (C := RX6) (T := TX6) (N := 5) (ty := .int) (v := .int (0 : Int32)) hC hH (xe_T G σ11) rfl wyX6 tyX6_ok nmX6 2 (by decide) wfX6_17 rfl rfl (by decide +kernel) rfl rfl (Nat.le_of_ble_eq_true rfl) e35 (xs_T_2 G σ11 _) dX6_next_91 (fun H locs hH => ?_)
    obtain rfl := some_i1 h
    exact x_vret hC hH hr dX6_next_94

def fT_next_J21 (y0 : Int32) (σ : XS) : Option (XS) :=
  bnd (xi σ 5 4) fun v2 =>
  bnd (xu σ 5 3 v2) fun σ4 =>
  fT_next_L32 (fun (x1 : Int32) (x2 : Int32) (σ : XS) => fT_next_J70 x1 x2 σ) 10000 y0 v2 σ4

set_option maxHeartbeats 4000000 in
set_option maxRecDepth 100000 in
theorem wT_next_J21 {p : Program} {l : Launch} {e : Env} {s : State} {m : MethodId} {args : Array Value} {below : List Frame} {meth : Method} {c : Code} {G : XG} {σ0 : XS} {σr : XS} (hC : jC p s m args meth c cX6_next 3 RX6) (hr : meth.sig.returnType = none) (y0 : Int32) (σ : XS) (H : Heap) (locs : List Loc) (ls : Array Slot) (hH : xH G s (va_A (xW G σ0) s.heap.size) σ H locs) (hl : lv_has ls 3 [(0, .ref (xA G 6))]) (h : fT_next_J21 y0 σ = some σr) : W p l e rmT_next s m args below meth c H locs 0 0 (MQ below (xQv G σ0 s.heap.size σr) args s 0 0 (va_A (xW G σ0) s.heap.size)) (F0 m 21 ls [.int y0]) := by
  have hx := hC.1.1
  have hb := hC.1.2.1
  have hown := hC.1.2.2.2.1
  have hts := hC.1.2.2.2.2
  unfold fT_next_J21 at h
  refine lv_istore_n (lv' := [(1, .int y0), (0, .ref (xA G 6))]) hx hb dX6_next_21 rfl hl (by decide) rfl (fun ls hl => ?_)
  refine lv_aload_n hx hb dX6_next_22 rfl (lv_at hl 1 rfl) ?_
  refine x_get (C := RX6) (T := TX6) (N := 5) (v := .int (xi σ 5 4)) hC hH (xe_T G σ) rfl wyX6 4 (by decide) wfX6_23 rfl rfl dX6_next_23 ?_
  obtain ⟨v2, e3, h⟩ := bnd_some h
  refine lv_tope e3 ?_
  refine lv_istore_n (lv' := [(2, .int v2), (1, .int y0), (0, .ref (xA G 6))]) hx hb dX6_next_26 rfl hl (by decide) rfl (fun ls hl => ?_)
  refine lv_aload_n hx hb dX6_next_27 rfl (lv_at hl 2 rfl) ?_
  refine lv_iload_n hx hb dX6_next_28 rfl (lv_at hl 0 rfl) ?_
  obtain ⟨σ4, e5, h⟩ := bnd_some h
  refine x_put (C := RX6) (T := TX6) (N := 5) (ty := .int) (v := .int v2) hC hH (xe_T G σ) rfl wyX6 tyX6_ok nmX6 3 (by decide) wfX6_20 rfl rfl (by decide +kernel) rfl rfl (Nat.le_of_ble_eq_true rfl) e5 (xs_T_3 G σ _) dX6_next_29 (fun H locs hH => ?_)
  refine wT_next_L32 hC hr  ?_ 10000 y0 v2 σ4 H locs ls  hH (lv_sub hl [2, 1, 0] rfl) h
  intro x1 x2 σ H locs ls  hH hl h
  exact wT_next_J70 hC hr  x1 x2 σ H locs ls  hH hl h

def fT_next_J16 (σ : XS) : Option (XS) :=
  fT_next_J21 (1 : Int32) σ

set_option maxHeartbeats 4000000 in
set_option maxRecDepth 100000 in
theorem wT_next_J16 {p : Program} {l : Launch} {e : Env} {s : State} {m : MethodId} {args : Array Value} {below : List Frame} {meth : Method} {c : Code} {G : XG} {σ0 : XS} {σr : XS} (hC : jC p s m args meth c cX6_next 3 RX6) (hr : meth.sig.returnType = none) (σ : XS) (H : Heap) (locs : List Loc) (ls : Array Slot) (hH : xH G s (va_A (xW G σ0) s.heap.size) σ H locs) (hl : lv_has ls 3 [(0, .ref (xA G 6))]) (h : fT_next_J16 σ = some σr) : W p l e rmT_next s m args below meth c H locs 0 0 (MQ below (xQv G σ0 s.heap.size σr) args s 0 0 (va_A (xW G σ0) s.heap.size)) (F0 m 16 ls []) := by
  have hx := hC.1.1
  have hb := hC.1.2.1
  have hown := hC.1.2.2.2.1
  have hts := hC.1.2.2.2.2
  unfold fT_next_J16 at h
  refine lv_iconst (v := 1) hx hb dX6_next_16 (by decide) ?_
  refine lv_goto (tgt := 21) hx hb dX6_next_17 (by decide) ?_
  exact wT_next_J21 hC hr  (1 : Int32) σ H locs ls  hH hl h

def fT_next (σ0 : XS) : Option (XS) :=
  if (xi σ0 5 2) = (1 : Int32) then (
    fT_next_J16 σ0)
  else (
    if (xi σ0 5 2) = (2 : Int32) then (
      fT_next_J16 σ0)
    else (
      fT_next_J21 (0 : Int32) σ0))

set_option maxHeartbeats 4000000 in
set_option maxRecDepth 100000 in
theorem cT_next (l : Launch) (G : XG) (σ0 : XS) {σr : XS} (h : fT_next σ0 = some σr) : ∀ sz, Met l yX6_next (Cond.code yX6_next cX6_next 3 none :: Tw) rmT_next (xP G σ0 sz [.ref (xA G 6)]) (xQv G σ0 sz σr) 0 0 (va_A (xW G σ0) sz) := by
  intro sz
  refine Met.ofW (cc := cX6_next) (maxL := 3) (ret := (none)) (by decide) rfl ?_
  intro p e s m args below meth c s₁ Bd hml hv
  obtain ⟨hC, hr⟩ := jC_of Bd hml
  obtain ⟨rfl, rfl, hH⟩ := x_enter hv
  have hC : jC p s m _ meth c cX6_next 3 RX6 := hC
  have hx := hC.1.1
  have hb := hC.1.2.1
  have hown := hC.1.2.2.2.1
  have hts := hC.1.2.2.2.2
  have hl := lv_entry ([.ref (xA G 6)]) (n := 3) (Nat.le_of_ble_eq_true rfl)
  rw [lg_entry_eq]
  generalize (lg_sl ([.ref (xA G 6)]) ++ List.replicate (3 - (lg_sl ([.ref (xA G 6)])).length) Slot.unset).toArray = ls at hl ⊢
  have hl : lv_has ls 3 [(0, .ref (xA G 6))] := hl
  unfold fT_next at h
  refine W_nm (fun H locs eH eL => ?_)
  have hH : xH G s (va_A (xW G σ0) s.heap.size) σ0 H locs := by rw [eH, eL]; exact hH
  show W p l e rmT_next s m _ below meth c H locs 0 0 _ (F0 m 0 ls [])
  refine lv_aload_n hx hb dX6_next_0 rfl (lv_at hl 0 rfl) ?_
  refine x_get (C := RX6) (T := TX6) (N := 5) (v := .int (xi σ0 5 2)) hC hH (xe_T G σ0) rfl wyX6 2 (by decide) wfX6_17 rfl rfl dX6_next_1 ?_
  refine lv_iconst (v := 1) hx hb dX6_next_4 (by decide) ?_
  refine lv_icmp_eq (tgt := 16) hx hb dX6_next_5 (by decide) (fun c1 => ?_) (fun c1 => ?_)
  · have h := ite_t c1 h
    exact wT_next_J16 hC hr  σ0 H locs ls  hH hl h
  · have h := ite_f c1 h
    refine lv_aload_n hx hb dX6_next_8 rfl (lv_at hl 0 rfl) ?_
    refine x_get (C := RX6) (T := TX6) (N := 5) (v := .int (xi σ0 5 2)) hC hH (xe_T G σ0) rfl wyX6 2 (by decide) wfX6_17 rfl rfl dX6_next_9 ?_
    refine lv_iconst (v := 2) hx hb dX6_next_12 (by decide) ?_
    refine lv_icmp_ne (tgt := 20) hx hb dX6_next_13 (by decide) (fun c36 => ?_) (fun c36 => ?_)
    · have h := ite_f c36 h
      refine lv_iconst (v := 0) hx hb dX6_next_20 (by decide) ?_
      exact wT_next_J21 hC hr  (0 : Int32) σ0 H locs ls  hH hl h
    · have h := ite_t c36 h
      exact wT_next_J16 hC hr  σ0 H locs ls  hH hl h

def rmR_isOperand : Room := { frames := 2, cells := 0, slots := 0, locals := 42 }
theorem hdX3_isOperand : yX3_isOperand.cls = RX3 ∧ yX3_isOperand.cls ≠ "java/lang/invoke/MethodHandle" ∧ yX3_isOperand.cls ≠ "java/lang/invoke/VarHandle" ∧ (parseMethodDescriptor yX3_isOperand.desc).map (fun d => d.parameters.length) = some 1 := by decide +kernel

def fR_isOperand (σ0 : XS) (x1 : Int32) : Option (Int32 × XS) :=
  ob (fR_put σ0 x1) fun σ2 =>
  bnd (xu σ2 6 2 ((xi σ2 6 2) + (1 : Int32))) fun σ3 =>
  ob (fT_next σ3) fun σ6 =>
  some ((1 : Int32), σ6)

set_option maxHeartbeats 4000000 in
set_option maxRecDepth 100000 in
theorem cR_isOperand (l : Launch) (G : XG) (σ0 : XS) (x1 : Int32) {r : Int32} {σr : XS} (h : fR_isOperand σ0 x1 = some (r, σr)) : ∀ sz, Met l yX3_isOperand (Cond.code yX3_isOperand cX3_isOperand 2 (some .boolean) :: Tw) rmR_isOperand (xP G σ0 sz [.ref (xA G 7), .int x1]) (xQi G σ0 sz σr r) 0 0 (va_A (xW G σ0) sz) := by
  intro sz
  refine Met.ofW (cc := cX3_isOperand) (maxL := 2) (ret := (some .boolean)) (by decide) rfl ?_
  intro p e s m args below meth c s₁ Bd hml hv
  obtain ⟨hC, hr⟩ := jC_of Bd hml
  obtain ⟨rfl, rfl, hH⟩ := x_enter hv
  have hC : jC p s m _ meth c cX3_isOperand 2 RX3 := hC
  have hx := hC.1.1
  have hb := hC.1.2.1
  have hown := hC.1.2.2.2.1
  have hts := hC.1.2.2.2.2
  have hl := lv_entry ([.ref (xA G 7), .int x1]) (n := 2) (Nat.le_of_ble_eq_true rfl)
  rw [lg_entry_eq]
  generalize (lg_sl ([.ref (xA G 7), .int x1]) ++ List.replicate (2 - (lg_sl ([.ref (xA G 7), .int x1])).length) Slot.unset).toArray = ls at hl ⊢
  have hl : lv_has ls 2 [(0, .ref (xA G 7)), (1, .int x1)] := hl
  unfold fR_isOperand at h
  refine W_nm (fun H locs eH eL => ?_)
  have hH : xH G s (va_A (xW G σ0) s.heap.size) σ0 H locs := by rw [eH, eL]; exact hH
  show W p l e rmR_isOperand s m _ below meth c H locs 0 0 _ (F0 m 0 ls [])
  refine lv_aload_n hx hb dX3_isOperand_0 rfl (lv_at hl 0 rfl) ?_
  refine lv_iload_n hx hb dX3_isOperand_1 rfl (lv_at hl 1 rfl) ?_
  obtain ⟨σ2, h1, h⟩ := ob_some h
  refine x_callv (vw := (RX3, TX3, 7)) (As := [.int x1]) (rest := []) (cR_put l G σ0 x1  h1) hC hH hl (xe_R G σ0) rfl (cwV 1 hts (gV wmX3_84 wvX3_put) rfl rfl rfl hdX3_put ⟨Nat.le_of_ble_eq_true rfl, Nat.le_of_ble_eq_true rfl⟩) rfl rfl (Nat.le_of_ble_eq_true rfl) ⟨Nat.zero_le _, Nat.zero_le _⟩ dX3_isOperand_2 (fun H locs hH => ?_)
  refine lv_aload_n hx hb dX3_isOperand_5 rfl (lv_at hl 0 rfl) ?_
  refine lv_dup hx hb dX3_isOperand_6 rfl ?_
  refine x_get (C := RX3) (T := TX3) (N := 7) (v := .int (xi σ2 6 2)) hC hH (xe_R G σ2) rfl wyX3 2 (by decide) wfX3_15 rfl rfl dX3_isOperand_7 ?_
  refine lv_iconst (v := 1) hx hb dX3_isOperand_10 (by decide) ?_
  refine lv_iadd hx hb dX3_isOperand_11 ?_
  obtain ⟨σ3, e4, h⟩ := bnd_some h
  refine x_put (C := RX3) (T := TX3) (N := 7) (ty := .int) (v := .int ((xi σ2 6 2) + (1 : Int32))) hC hH (xe_R G σ2) rfl wyX3 tyX3_ok nmX3 2 (by decide) wfX3_15 rfl rfl (by decide +kernel) rfl rfl (Nat.le_of_ble_eq_true rfl) e4 (xs_R_2 G σ2 _) dX3_isOperand_12 (fun H locs hH => ?_)
  refine lv_aload_n hx hb dX3_isOperand_15 rfl (lv_at hl 0 rfl) ?_
  refine x_get (C := RX3) (T := TX3) (N := 7) (v := .ref (xA G 6)) hC hH (xe_R G σ3) rfl wyX3 0 (by decide) wfX3_33 rfl rfl dX3_isOperand_16 ?_
  obtain ⟨σ6, h5, h⟩ := ob_some h
  refine x_callv (vw := (RX6, TX6, 5)) (As := []) (rest := []) (cT_next l G σ3  h5) hC hH hl (xe_T G σ3) rfl (cwV 0 hts (gV wmX3_70 wvX6_next) rfl rfl rfl hdX6_next ⟨Nat.le_of_ble_eq_true rfl, Nat.le_of_ble_eq_true rfl⟩) rfl rfl (Nat.le_of_ble_eq_true rfl) ⟨Nat.zero_le _, Nat.zero_le _⟩ dX3_isOperand_19 (fun H locs hH => ?_)
  refine lv_iconst (v := 1) hx hb dX3_isOperand_22 (by decide) ?_
  obtain ⟨rfl, rfl⟩ := some_i2 h
  exact x_iret (v := 1) hC hH hr (by decide) dX3_isOperand_23

def rmR_isNumber : Room := { frames := 3, cells := 0, slots := 0, locals := 63 }
theorem hdX3_isNumber : yX3_isNumber.cls = RX3 ∧ yX3_isNumber.cls ≠ "java/lang/invoke/MethodHandle" ∧ yX3_isNumber.cls ≠ "java/lang/invoke/VarHandle" ∧ (parseMethodDescriptor yX3_isNumber.desc).map (fun d => d.parameters.length) = some 0 := by decide +kernel

def fR_isNumber (σ0 : XS) : Option (Int32 × XS) :=
  if (4 : Int32) < ((xi σ0 5 4) - (xi σ0 5 3)) then (
    some ((0 : Int32), σ0))
  else (
    ob (fT_number σ0) fun r3 =>
    ob2 (fR_isOperand σ0 r3) fun r5 σ6 =>
    if r5 = 0 then (
      some ((0 : Int32), σ6))
    else (
      some ((1 : Int32), σ6)))

set_option maxHeartbeats 4000000 in
set_option maxRecDepth 100000 in
theorem cR_isNumber (l : Launch) (G : XG) (σ0 : XS) {r : Int32} {σr : XS} (h : fR_isNumber σ0 = some (r, σr)) : ∀ sz, Met l yX3_isNumber (Cond.code yX3_isNumber cX3_isNumber 1 (some .boolean) :: Tw) rmR_isNumber (xP G σ0 sz [.ref (xA G 7)]) (xQi G σ0 sz σr r) 0 0 (va_A (xW G σ0) sz) := by
  intro sz
  refine Met.ofW (cc := cX3_isNumber) (maxL := 1) (ret := (some .boolean)) (by decide) rfl ?_
  intro p e s m args below meth c s₁ Bd hml hv
  obtain ⟨hC, hr⟩ := jC_of Bd hml
  obtain ⟨rfl, rfl, hH⟩ := x_enter hv
  have hC : jC p s m _ meth c cX3_isNumber 1 RX3 := hC
  have hx := hC.1.1
  have hb := hC.1.2.1
  have hown := hC.1.2.2.2.1
  have hts := hC.1.2.2.2.2
  have hl := lv_entry ([.ref (xA G 7)]) (n := 1) (Nat.le_of_ble_eq_true rfl)
  rw [lg_entry_eq]
  generalize (lg_sl ([.ref (xA G 7)]) ++ List.replicate (1 - (lg_sl ([.ref (xA G 7)])).length) Slot.unset).toArray = ls at hl ⊢
  have hl : lv_has ls 1 [(0, .ref (xA G 7))] := hl
  unfold fR_isNumber at h
  refine W_nm (fun H locs eH eL => ?_)
  have hH : xH G s (va_A (xW G σ0) s.heap.size) σ0 H locs := by rw [eH, eL]; exact hH
  show W p l e rmR_isNumber s m _ below meth c H locs 0 0 _ (F0 m 0 ls [])
  refine lv_aload_n hx hb dX3_isNumber_0 rfl (lv_at hl 0 rfl) ?_
  refine x_get (C := RX3) (T := TX3) (N := 7) (v := .ref (xA G 6)) hC hH (xe_R G σ0) rfl wyX3 0 (by decide) wfX3_33 rfl rfl dX3_isNumber_1 ?_
  refine x_getN (C := RX6) (T := TX6) (N := 5) (v := .int (xi σ0 5 4)) (host := "RoadSorted") hC hH (xe_T G σ0) rfl wyX6 4 (by decide) (by decide +kernel) rfl rfl dX3_isNumber_4 ?_
  refine lv_aload_n hx hb dX3_isNumber_7 rfl (lv_at hl 0 rfl) ?_
  refine x_get (C := RX3) (T := TX3) (N := 7) (v := .ref (xA G 6)) hC hH (xe_R G σ0) rfl wyX3 0 (by decide) wfX3_33 rfl rfl dX3_isNumber_8 ?_
  refine x_getN (C := RX6) (T := TX6) (N := 5) (v := .int (xi σ0 5 3)) (host := "RoadSorted") hC hH (xe_T G σ0) rfl wyX6 3 (by decide) (by decide +kernel) rfl rfl dX3_isNumber_11 ?_
  refine lv_isub hx hb dX3_isNumber_14 ?_
  refine lv_iconst (v := 4) hx hb dX3_isNumber_15 (by decide) ?_
  refine lv_icmp_gt (tgt := 37) hx hb dX3_isNumber_16 (by decide) (fun c1 => ?_) (fun c1 => ?_)
  · have h := ite_t c1 h
    refine lv_iconst (v := 0) hx hb dX3_isNumber_37 (by decide) ?_
    obtain ⟨rfl, rfl⟩ := some_i2 h
    exact x_iret (v := 0) hC hH hr (by decide) dX3_isNumber_38
  · have h := ite_f c1 h
    refine lv_aload_n hx hb dX3_isNumber_19 rfl (lv_at hl 0 rfl) ?_
    refine lv_aload_n hx hb dX3_isNumber_20 rfl (lv_at hl 0 rfl) ?_
    refine x_get (C := RX3) (T := TX3) (N := 7) (v := .ref (xA G 6)) hC hH (xe_R G σ0) rfl wyX3 0 (by decide) wfX3_33 rfl rfl dX3_isNumber_21 ?_
    obtain ⟨r3, h2, h⟩ := ob_some h
    refine x_calli (vw := (RX6, TX6, 5)) (As := []) (rest := [.ref (xA G 7)]) (cT_number l G σ0  h2) hC hH hl (xe_T G σ0) rfl (cwV 0 hts (gV wmX3_106 wvX6_number) rfl rfl rfl hdX6_number ⟨Nat.le_of_ble_eq_true rfl, Nat.le_of_ble_eq_true rfl⟩) rfl rfl (Nat.le_of_ble_eq_true rfl) ⟨Nat.zero_le _, Nat.zero_le _⟩ dX3_isNumber_24 (fun H locs hH => ?_)
    obtain ⟨r5, σ6, h4, h⟩ := ob2_some h
    refine x_calli (vw := (RX3, TX3, 7)) (As := [.int r3]) (rest := []) (cR_isOperand l G σ0 r3  h4) hC hH hl (xe_R G σ0) rfl (cwV 1 hts (gV wmX3_109 wvX3_isOperand) rfl rfl rfl hdX3_isOperand ⟨Nat.le_of_ble_eq_true rfl, Nat.le_of_ble_eq_true rfl⟩) rfl rfl (Nat.le_of_ble_eq_true rfl) ⟨Nat.zero_le _, Nat.zero_le _⟩ dX3_isNumber_27 (fun H locs hH => ?_)
    refine lv_if_eq (tgt := 37) hx hb dX3_isNumber_30 (by decide) (fun c7 => ?_) (fun c7 => ?_)
    · have h := ite_t c7 h
      refine lv_iconst (v := 0) hx hb dX3_isNumber_37 (by decide) ?_
      obtain ⟨rfl, rfl⟩ := some_i2 h
      exact x_iret (v := 0) hC hH hr (by decide) dX3_isNumber_38
    · have h := ite_f c7 h
      refine lv_iconst (v := 1) hx hb dX3_isNumber_33 (by decide) ?_
      refine lv_goto (tgt := 38) hx hb dX3_isNumber_34 (by decide) ?_
      obtain ⟨rfl, rfl⟩ := some_i2 h
      exact x_iret (v := 1) hC hH hr (by decide) dX3_isNumber_38

def rmT_rewind : Room := { frames := 2, cells := 0, slots := 0, locals := 42 }
theorem hdX6_rewind : yX6_rewind.cls = RX6 ∧ yX6_rewind.cls ≠ "java/lang/invoke/MethodHandle" ∧ yX6_rewind.cls ≠ "java/lang/invoke/VarHandle" ∧ (parseMethodDescriptor yX6_rewind.desc).map (fun d => d.parameters.length) = some 0 := by decide +kernel

def fT_rewind (σ0 : XS) : Option (XS) :=
  bnd (xu σ0 5 2 (3 : Int32)) fun σ1 =>
  bnd (xu σ1 5 4 (0 : Int32)) fun σ3 =>
  ob (fT_next σ3) fun σ6 =>
  some σ6

set_option maxHeartbeats 4000000 in
set_option maxRecDepth 100000 in
theorem cT_rewind (l : Launch) (G : XG) (σ0 : XS) {σr : XS} (h : fT_rewind σ0 = some σr) : ∀ sz, Met l yX6_rewind (Cond.code yX6_rewind cX6_rewind 1 none :: Tw) rmT_rewind (xP G σ0 sz [.ref (xA G 6)]) (xQv G σ0 sz σr) 0 0 (va_A (xW G σ0) sz) := by
  intro sz
  refine Met.ofW (cc := cX6_rewind) (maxL := 1) (ret := (none)) (by decide) rfl ?_
  intro p e s m args below meth c s₁ Bd hml hv
  obtain ⟨hC, hr⟩ := jC_of Bd hml
  obtain ⟨rfl, rfl, hH⟩ := x_enter hv
  have hC : jC p s m _ meth c cX6_rewind 1 RX6 := hC
  have hx := hC.1.1
  have hb := hC.1.2.1
  have hown := hC.1.2.2.2.1
  have hts := hC.1.2.2.2.2
  have hl := lv_entry ([.ref (xA G 6)]) (n := 1) (Nat.le_of_ble_eq_true rfl)
  rw [lg_entry_eq]
  generalize (lg_sl ([.ref (xA G 6)]) ++ List.replicate (1 - (lg_sl ([.ref (xA G 6)])).length) Slot.unset).toArray = ls at hl ⊢
  have hl : lv_has ls 1 [(0, .ref (xA G 6))] := hl
  unfold fT_rewind at h
  refine W_nm (fun H locs eH eL => ?_)
  have hH : xH G s (va_A (xW G σ0) s.heap.size) σ0 H locs := by rw [eH, eL]; exact hH
  show W p l e rmT_rewind s m _ below meth c H locs 0 0 _ (F0 m 0 ls [])
  refine lv_aload_n hx hb dX6_rewind_0 rfl (lv_at hl 0 rfl) ?_
  refine lv_iconst (v := 3) hx hb dX6_rewind_1 (by decide) ?_
  obtain ⟨σ1, e2, h⟩ := bnd_some h
  refine x_put (C := RX6) (T := TX6) (N := 5) (ty := .int) (v := .int (3 : Int32)) hC hH (xe_T G σ0) rfl wyX6 tyX6_ok nmX6 2 (by decide) wfX6_17 rfl rfl (by decide +kernel) rfl rfl (Nat.le_of_ble_eq_true rfl) e2 (xs_T_2 G σ0 _) dX6_rewind_2 (fun H locs hH => ?_)
  refine lv_aload_n hx hb dX6_rewind_5 rfl (lv_at hl 0 rfl) ?_
  refine lv_iconst (v := 0) hx hb dX6_rewind_6 (by decide) ?_
  obtain ⟨σ3, e4, h⟩ := bnd_some h
  refine x_put (C := RX6) (T := TX6) (N := 5) (ty := .int) (v := .int (0 : Int32)) hC hH (xe_T G σ1) rfl wyX6 tyX6_ok nmX6 4 (by decide) wfX6_23 rfl rfl (by decide +kernel) rfl rfl (Nat.le_of_ble_eq_true rfl) e4 (xs_T_4 G σ1 _) dX6_rewind_7 (fun H locs hH => ?_)
  refine lv_aload_n hx hb dX6_rewind_10 rfl (lv_at hl 0 rfl) ?_
  obtain ⟨σ6, h5, h⟩ := ob_some h
  refine x_callv (vw := (RX6, TX6, 5)) (As := []) (rest := []) (cT_next l G σ3  h5) hC hH hl (xe_T G σ3) rfl (cwV 0 hts (gV wmX6_26 wvX6_next) rfl rfl rfl hdX6_next ⟨Nat.le_of_ble_eq_true rfl, Nat.le_of_ble_eq_true rfl⟩) rfl rfl (Nat.le_of_ble_eq_true rfl) ⟨Nat.zero_le _, Nat.zero_le _⟩ dX6_rewind_11 (fun H locs hH => ?_)
  obtain rfl := some_i1 h
  exact x_vret hC hH hr dX6_rewind_14

def rmT_sign : Room := { frames := 0, cells := 0, slots := 0, locals := 0 }
theorem hdX6_sign : yX6_sign.cls = RX6 ∧ yX6_sign.cls ≠ "java/lang/invoke/MethodHandle" ∧ yX6_sign.cls ≠ "java/lang/invoke/VarHandle" ∧ (parseMethodDescriptor yX6_sign.desc).map (fun d => d.parameters.length) = some 0 := by decide +kernel

def fT_sign (σ0 : XS) : Option (Int32) :=
  if (xi σ0 5 2) = (3 : Int32) then (
    ck (xi σ0 5 3) (96) <|
    some (xi σ0 54 ((xi σ0 5 3)).toNatClampNeg))
  else (
    some (0 : Int32))

set_option maxHeartbeats 4000000 in
set_option maxRecDepth 100000 in
theorem cT_sign (l : Launch) (G : XG) (σ0 : XS) {r : Int32} (h : fT_sign σ0 = some r) : ∀ sz, Met l yX6_sign (Cond.code yX6_sign cX6_sign 1 (some .int) :: Tw) rmT_sign (xP G σ0 sz [.ref (xA G 6)]) (xQi G σ0 sz σ0 r) 0 0 (va_A (xW G σ0) sz) := by
  intro sz
  refine Met.ofW (cc := cX6_sign) (maxL := 1) (ret := (some .int)) (by decide) rfl ?_
  intro p e s m args below meth c s₁ Bd hml hv
  obtain ⟨hC, hr⟩ := jC_of Bd hml
  obtain ⟨rfl, rfl, hH⟩ := x_enter hv
  have hC : jC p s m _ meth c cX6_sign 1 RX6 := hC
  have hx := hC.1.1
  have hb := hC.1.2.1
  have hown := hC.1.2.2.2.1
  have hts := hC.1.2.2.2.2
  have hl := lv_entry ([.ref (xA G 6)]) (n := 1) (Nat.le_of_ble_eq_true rfl)
  rw [lg_entry_eq]
  generalize (lg_sl ([.ref (xA G 6)]) ++ List.replicate (1 - (lg_sl ([.ref (xA G 6)])).length) Slot.unset).toArray = ls at hl ⊢
  have hl : lv_has ls 1 [(0, .ref (xA G 6))] := hl
  unfold fT_sign at h
  refine W_nm (fun H locs eH eL => ?_)
  have hH : xH G s (va_A (xW G σ0) s.heap.size) σ0 H locs := by rw [eH, eL]; exact hH
  show W p l e rmT_sign s m _ below meth c H locs 0 0 _ (F0 m 0 ls [])
  refine lv_aload_n hx hb dX6_sign_0 rfl (lv_at hl 0 rfl) ?_
  refine x_get (C := RX6) (T := TX6) (N := 5) (v := .int (xi σ0 5 2)) hC hH (xe_T G σ0) rfl wyX6 2 (by decide) wfX6_17 rfl rfl dX6_sign_1 ?_
  refine lv_iconst (v := 3) hx hb dX6_sign_4 (by decide) ?_
  refine lv_icmp_ne (tgt := 20) hx hb dX6_sign_5 (by decide) (fun c1 => ?_) (fun c1 => ?_)
  · have h := ite_f c1 h
    refine lv_iconst (v := 0) hx hb dX6_sign_20 (by decide) ?_
    obtain rfl := some_i1 h
    exact x_iret (v := 0) hC hH hr rfl dX6_sign_21
  · have h := ite_t c1 h
    refine lv_aload_n hx hb dX6_sign_8 rfl (lv_at hl 0 rfl) ?_
    refine x_get (C := RX6) (T := TX6) (N := 5) (v := .ref (xA G (100 + 54))) hC hH (xe_T G σ0) rfl wyX6 0 (by decide) wfX6_9 rfl rfl dX6_sign_9 ?_
    refine lv_aload_n hx hb dX6_sign_12 rfl (lv_at hl 0 rfl) ?_
    refine x_get (C := RX6) (T := TX6) (N := 5) (v := .int (xi σ0 5 3)) hC hH (xe_T G σ0) rfl wyX6 3 (by decide) wfX6_20 rfl rfl dX6_sign_13 ?_
    obtain ⟨i2, h⟩ := ck_some h
    refine x_ald hC hH (d := 54) rfl rfl rfl i2 dX6_sign_16 ?_
    refine lv_goto (tgt := 21) hx hb dX6_sign_17 (by decide) ?_
    obtain rfl := some_i1 h
    exact x_iret hC hH hr rfl dX6_sign_21
