def rmM_parse : Room := { frames := 85, cells := 0, slots := 0, locals := 3321 }
theorem hdX8_parse : yX8_parse.cls = RX8 ∧ yX8_parse.cls ≠ "java/lang/invoke/MethodHandle" ∧ yX8_parse.cls ≠ "java/lang/invoke/VarHandle" ∧ (parseMethodDescriptor yX8_parse.desc).map (fun d => d.parameters.length) = some 0 := by decide +kernel

def fM_parse_J111 (x1 : Int32) (x2 : Int32) (μ : MS) : Option (Int32 × MS) :=
  bnd (up2 μ 0 17 (0 : Int32)) fun μ22 =>
  if x2 = 0 then (
    some ((-1 : Int32), μ22))
  else (
    some (x1, μ22))

set_option maxHeartbeats 4000000 in
set_option maxRecDepth 100000 in
theorem wM_parse_J111 {p : Program} {l : Launch} {e : Env} {s : State} {m : MethodId} {args : Array Value} {below : List Frame} {meth : Method} {c : Code} {D : va_G} {cI : ClassId} {B : Nat → Nat} {μ0 : MS} {r : Int32} {μr : MS} (hC : jC p s m args meth c cX8_parse 3 RX8) (hr : meth.sig.returnType = some .int) (x1 : Int32) (x2 : Int32) (μ : MS) (H : Heap) (locs : List Loc) (ls : Array Slot) (hH : mH D cI B s (va_A (mW B cI μ0) s.heap.size) μ H locs) (hl : lv_has ls 3 [(0, .ref (B 0)), (1, .int x1), (2, .int x2)]) (h : fM_parse_J111 x1 x2 μ = some (r, μr)) : W p l e rmM_parse s m args below meth c H locs 0 0 (MQ below (mQi D cI B μ0 s.heap.size μr r) args s 0 0 (va_A (mW B cI μ0) s.heap.size)) (F0 m 111 ls []) := by
  have hx := hC.1.1
  have hb := hC.1.2.1
  have hown := hC.1.2.2.2.1
  have hts := hC.1.2.2.2.2
  unfold fM_parse_J111 at h
  refine lv_aload_n hx hb dX8_parse_111 rfl (lv_at hl 0 rfl) ?_
  refine lv_iconst (v := 0) hx hb dX8_parse_112 (by decide) ?_
  obtain ⟨μ22, e23, h⟩ := bnd_some h
  refine m_put (ty := .int) hC hH 17 (by decide) wfX8_195 rfl rfl (by decide +kernel) rfl rfl e23 (mF_17 B _ _) dX8_parse_113 (fun H locs hH => ?_)
  refine lv_iload_n hx hb dX8_parse_116 rfl (lv_at hl 2 rfl) ?_
  refine lv_if_eq (tgt := 124) hx hb dX8_parse_117 (by decide) (fun c24 => ?_) (fun c24 => ?_)
  · have h := ite_t c24 h
    refine lv_iconst (v := -1) hx hb dX8_parse_124 (by decide) ?_
    obtain ⟨rfl, rfl⟩ := some_i2 h
    exact m_iret (v := -1) hC hH hr rfl dX8_parse_125
  · have h := ite_f c24 h
    refine lv_iload_n hx hb dX8_parse_120 rfl (lv_at hl 1 rfl) ?_
    refine lv_goto (tgt := 125) hx hb dX8_parse_121 (by decide) ?_
    obtain ⟨rfl, rfl⟩ := some_i2 h
    exact m_iret hC hH hr rfl dX8_parse_125

def fM_parse_J110 (x1 : Int32) (y0 : Int32) (μ : MS) : Option (Int32 × MS) :=
  fM_parse_J111 x1 y0 μ

set_option maxHeartbeats 4000000 in
set_option maxRecDepth 100000 in
theorem wM_parse_J110 {p : Program} {l : Launch} {e : Env} {s : State} {m : MethodId} {args : Array Value} {below : List Frame} {meth : Method} {c : Code} {D : va_G} {cI : ClassId} {B : Nat → Nat} {μ0 : MS} {r : Int32} {μr : MS} (hC : jC p s m args meth c cX8_parse 3 RX8) (hr : meth.sig.returnType = some .int) (x1 : Int32) (y0 : Int32) (μ : MS) (H : Heap) (locs : List Loc) (ls : Array Slot) (hH : mH D cI B s (va_A (mW B cI μ0) s.heap.size) μ H locs) (hl : lv_has ls 3 [(0, .ref (B 0)), (1, .int x1)]) (h : fM_parse_J110 x1 y0 μ = some (r, μr)) : W p l e rmM_parse s m args below meth c H locs 0 0 (MQ below (mQi D cI B μ0 s.heap.size μr r) args s 0 0 (va_A (mW B cI μ0) s.heap.size)) (F0 m 110 ls [.int y0]) := by
  have hx := hC.1.1
  have hb := hC.1.2.1
  have hown := hC.1.2.2.2.1
  have hts := hC.1.2.2.2.2
  unfold fM_parse_J110 at h
  refine lv_istore_n (lv' := [(2, .int y0), (0, .ref (B 0)), (1, .int x1)]) hx hb dX8_parse_110 rfl hl (by decide) rfl (fun ls hl => ?_)
  exact wM_parse_J111 hC hr  x1 y0 μ H locs ls  hH (lv_sub hl [1, 2, 0] rfl) h

def fM_parse_J109 (x1 : Int32) (μ : MS) : Option (Int32 × MS) :=
  fM_parse_J110 x1 (0 : Int32) μ

set_option maxHeartbeats 4000000 in
set_option maxRecDepth 100000 in
theorem wM_parse_J109 {p : Program} {l : Launch} {e : Env} {s : State} {m : MethodId} {args : Array Value} {below : List Frame} {meth : Method} {c : Code} {D : va_G} {cI : ClassId} {B : Nat → Nat} {μ0 : MS} {r : Int32} {μr : MS} (hC : jC p s m args meth c cX8_parse 3 RX8) (hr : meth.sig.returnType = some .int) (x1 : Int32) (μ : MS) (H : Heap) (locs : List Loc) (ls : Array Slot) (hH : mH D cI B s (va_A (mW B cI μ0) s.heap.size) μ H locs) (hl : lv_has ls 3 [(0, .ref (B 0)), (1, .int x1)]) (h : fM_parse_J109 x1 μ = some (r, μr)) : W p l e rmM_parse s m args below meth c H locs 0 0 (MQ below (mQi D cI B μ0 s.heap.size μr r) args s 0 0 (va_A (mW B cI μ0) s.heap.size)) (F0 m 109 ls []) := by
  have hx := hC.1.1
  have hb := hC.1.2.1
  have hown := hC.1.2.2.2.1
  have hts := hC.1.2.2.2.2
  unfold fM_parse_J109 at h
  refine lv_iconst (v := 0) hx hb dX8_parse_109 (by decide) ?_
  exact wM_parse_J110 hC hr  x1 (0 : Int32) μ H locs ls  hH hl h

def fM_parse_J81 (x1 : Int32) (y0 : Int32) (μ : MS) : Option (Int32 × MS) :=
  if y0 = 0 then (
    fM_parse_J111 x1 y0 μ)
  else (
    ob (fM_nextToken μ) fun μ26 =>
    ob2 (gM 80 0 μ26 x1) fun r28 μ29 =>
    if r28 = 0 then (
      fM_parse_J109 x1 μ29)
    else (
      if (μ29 0 20) = 0 then (
        fM_parse_J110 x1 (1 : Int32) μ29)
      else (
        fM_parse_J109 x1 μ29)))

set_option maxHeartbeats 4000000 in
set_option maxRecDepth 100000 in
theorem wM_parse_J81 {p : Program} {l : Launch} {e : Env} {s : State} {m : MethodId} {args : Array Value} {below : List Frame} {meth : Method} {c : Code} {D : va_G} {cI : ClassId} {B : Nat → Nat} {μ0 : MS} {r : Int32} {μr : MS} (hC : jC p s m args meth c cX8_parse 3 RX8) (hr : meth.sig.returnType = some .int) (x1 : Int32) (y0 : Int32) (μ : MS) (H : Heap) (locs : List Loc) (ls : Array Slot) (hH : mH D cI B s (va_A (mW B cI μ0) s.heap.size) μ H locs) (hl : lv_has ls 3 [(0, .ref (B 0)), (1, .int x1)]) (h : fM_parse_J81 x1 y0 μ = some (r, μr)) : W p l e rmM_parse s m args below meth c H locs 0 0 (MQ below (mQi D cI B μ0 s.heap.size μr r) args s 0 0 (va_A (mW B cI μ0) s.heap.size)) (F0 m 81 ls [.int y0]) := by
  have hx := hC.1.1
  have hb := hC.1.2.1
  have hown := hC.1.2.2.2.1
  have hts := hC.1.2.2.2.2
  unfold fM_parse_J81 at h
  refine lv_istore_n (lv' := [(2, .int y0), (0, .ref (B 0)), (1, .int x1)]) hx hb dX8_parse_81 rfl hl (by decide) rfl (fun ls hl => ?_)
  refine lv_iload_n hx hb dX8_parse_82 rfl (lv_at hl 0 rfl) ?_
  refine lv_if_eq (tgt := 111) hx hb dX8_parse_83 (by decide) (fun c21 => ?_) (fun c21 => ?_)
  · have h := ite_t c21 h
    exact wM_parse_J111 hC hr  x1 y0 μ H locs ls  hH (lv_sub hl [1, 2, 0] rfl) h
  · have h := ite_f c21 h
    refine lv_aload_n hx hb dX8_parse_86 rfl (lv_at hl 1 rfl) ?_
    obtain ⟨μ26, h25, h⟩ := ob_some h
    refine m_callv (As := []) (rest := []) (cM_nextToken l D cI B μ  h25) hC hH hl (cwV 0 hts (gV wmX8_243 wvX8_nextToken) rfl rfl rfl hdX8_nextToken ⟨Nat.le_of_ble_eq_true rfl, Nat.le_of_ble_eq_true rfl⟩) rfl rfl (Nat.le_of_ble_eq_true rfl) ⟨Nat.zero_le _, Nat.zero_le _⟩ dX8_parse_87 (fun H locs hH => ?_)
    refine lv_aload_n hx hb dX8_parse_90 rfl (lv_at hl 1 rfl) ?_
    refine lv_iload_n hx hb dX8_parse_91 rfl (lv_at hl 2 rfl) ?_
    obtain ⟨r28, μ29, h27, h⟩ := ob2_some h
    refine m_calli (As := [.int x1]) (rest := []) (cG_either l D cI B 80 μ26 x1 h27) hC hH hl (cwV 1 hts (gV wmX8_273 wvX8_either) rfl rfl rfl hdX8_either ⟨Nat.le_of_ble_eq_true rfl, Nat.le_of_ble_eq_true rfl⟩) rfl rfl (Nat.le_of_ble_eq_true rfl) ⟨Nat.zero_le _, Nat.zero_le _⟩ dX8_parse_92 (fun H locs hH => ?_)
    refine lv_if_eq (tgt := 109) hx hb dX8_parse_95 (by decide) (fun c30 => ?_) (fun c30 => ?_)
    · have h := ite_t c30 h
      exact wM_parse_J109 hC hr  x1 μ29 H locs ls  hH (lv_sub hl [1, 2] rfl) h
    · have h := ite_f c30 h
      refine lv_aload_n hx hb dX8_parse_98 rfl (lv_at hl 1 rfl) ?_
      refine m_get hC hH 20 (by decide) wfX8_209 rfl rfl dX8_parse_99 ?_
      refine lv_if_ne (tgt := 109) hx hb dX8_parse_102 (by decide) (fun c31 => ?_) (fun c31 => ?_)
      · have h := ite_f c31 h
        exact wM_parse_J109 hC hr  x1 μ29 H locs ls  hH (lv_sub hl [1, 2] rfl) h
      · have h := ite_t c31 h
        refine lv_iconst (v := 1) hx hb dX8_parse_105 (by decide) ?_
        refine lv_goto (tgt := 110) hx hb dX8_parse_106 (by decide) ?_
        exact wM_parse_J110 hC hr  x1 (1 : Int32) μ29 H locs ls  hH (lv_sub hl [1, 2] rfl) h

def fM_parse_J60 (y1 : Int32) (μ : MS) : Option (Int32 × MS) :=
  bnd (up2 μ 0 26 y1) fun μ14 =>
  ob (fM_nextToken μ14) fun μ17 =>
  ob (fM_key μ17) fun r19 =>
  if r19 < 0 then (
    fM_parse_J81 r19 (0 : Int32) μ17)
  else (
    fM_parse_J81 r19 (1 : Int32) μ17)

set_option maxHeartbeats 4000000 in
set_option maxRecDepth 100000 in
theorem wM_parse_J60 {p : Program} {l : Launch} {e : Env} {s : State} {m : MethodId} {args : Array Value} {below : List Frame} {meth : Method} {c : Code} {D : va_G} {cI : ClassId} {B : Nat → Nat} {μ0 : MS} {r : Int32} {μr : MS} (hC : jC p s m args meth c cX8_parse 3 RX8) (hr : meth.sig.returnType = some .int) (y1 : Int32) (μ : MS) (H : Heap) (locs : List Loc) (ls : Array Slot) (hH : mH D cI B s (va_A (mW B cI μ0) s.heap.size) μ H locs) (hl : lv_has ls 3 [(0, .ref (B 0))]) (h : fM_parse_J60 y1 μ = some (r, μr)) : W p l e rmM_parse s m args below meth c H locs 0 0 (MQ below (mQi D cI B μ0 s.heap.size μr r) args s 0 0 (va_A (mW B cI μ0) s.heap.size)) (F0 m 60 ls [.int y1, .ref (B 0)]) := by
  have hx := hC.1.1
  have hb := hC.1.2.1
  have hown := hC.1.2.2.2.1
  have hts := hC.1.2.2.2.2
  unfold fM_parse_J60 at h
  obtain ⟨μ14, e15, h⟩ := bnd_some h
  refine m_put (ty := .int) hC hH 26 (by decide) wfX8_231 rfl rfl (by decide +kernel) rfl rfl e15 (mF_26 B _ _) dX8_parse_60 (fun H locs hH => ?_)
  refine lv_aload_n hx hb dX8_parse_63 rfl (lv_at hl 0 rfl) ?_
  obtain ⟨μ17, h16, h⟩ := ob_some h
  refine m_callv (As := []) (rest := []) (cM_nextToken l D cI B μ14  h16) hC hH hl (cwV 0 hts (gV wmX8_243 wvX8_nextToken) rfl rfl rfl hdX8_nextToken ⟨Nat.le_of_ble_eq_true rfl, Nat.le_of_ble_eq_true rfl⟩) rfl rfl (Nat.le_of_ble_eq_true rfl) ⟨Nat.zero_le _, Nat.zero_le _⟩ dX8_parse_64 (fun H locs hH => ?_)
  refine lv_aload_n hx hb dX8_parse_67 rfl (lv_at hl 0 rfl) ?_
  obtain ⟨r19, h18, h⟩ := ob_some h
  refine m_calli (As := []) (rest := []) (cM_key l D cI B μ17  h18) hC hH hl (cwV 0 hts (gV wmX8_279 wvX8_key) rfl rfl rfl hdX8_key ⟨Nat.le_of_ble_eq_true rfl, Nat.le_of_ble_eq_true rfl⟩) rfl rfl (Nat.le_of_ble_eq_true rfl) ⟨Nat.zero_le _, Nat.zero_le _⟩ dX8_parse_68 (fun H locs hH => ?_)
  refine lv_istore_n (lv' := [(1, .int r19), (0, .ref (B 0))]) hx hb dX8_parse_71 rfl hl (by decide) rfl (fun ls hl => ?_)
  refine lv_iload_n hx hb dX8_parse_72 rfl (lv_at hl 0 rfl) ?_
  refine lv_if_lt (tgt := 80) hx hb dX8_parse_73 (by decide) (fun c20 => ?_) (fun c20 => ?_)
  · have h := ite_t c20 h
    refine lv_iconst (v := 0) hx hb dX8_parse_80 (by decide) ?_
    exact wM_parse_J81 hC hr  r19 (0 : Int32) μ17 H locs ls  hH (lv_sub hl [1, 0] rfl) h
  · have h := ite_f c20 h
    refine lv_iconst (v := 1) hx hb dX8_parse_76 (by decide) ?_
    refine lv_goto (tgt := 81) hx hb dX8_parse_77 (by decide) ?_
    exact wM_parse_J81 hC hr  r19 (1 : Int32) μ17 H locs ls  hH (lv_sub hl [1, 0] rfl) h

def fM_parse (μ0 : MS) : Option (Int32 × MS) :=
  bnd (up2 μ0 0 19 (0 : Int32)) fun μ1 =>
  bnd (up2 μ1 0 20 (3 : Int32)) fun μ3 =>
  bnd (up2 μ3 0 23 (0 : Int32)) fun μ5 =>
  bnd (up2 μ5 0 24 (0 : Int32)) fun μ7 =>
  bnd (up2 μ7 0 25 (0 : Int32)) fun μ9 =>
  bnd (up2 μ9 0 27 (0 : Int32)) fun μ11 =>
  if (14 : Int32) ≤ (μ11 1 1) then (
    fM_parse_J60 (2876 : Int32) μ11)
  else (
    ob (fM_textAt μ11 (μ11 1 1)) fun r33 =>
    fM_parse_J60 (r33 + (4 : Int32)) μ11)

set_option maxHeartbeats 4000000 in
set_option maxRecDepth 100000 in
theorem cM_parse (l : Launch) (D : va_G) (cI : ClassId) (B : Nat → Nat) (μ0 : MS) {r : Int32} {μr : MS} (h : fM_parse μ0 = some (r, μr)) : ∀ sz, Met l yX8_parse (Cond.code yX8_parse cX8_parse 3 (some .int) :: Tw) rmM_parse (mP D cI B μ0 sz [.ref (B 0)]) (mQi D cI B μ0 sz μr r) 0 0 (va_A (mW B cI μ0) sz) := by
  intro sz
  refine Met.ofW (cc := cX8_parse) (maxL := 3) (ret := (some .int)) (by decide) rfl ?_
  intro p e s m args below meth c s₁ Bd hml hv
  obtain ⟨hC, hr⟩ := jC_of Bd hml
  obtain ⟨rfl, rfl, hH⟩ := m_enter hv
  have hC : jC p s m _ meth c cX8_parse 3 RX8 := hC
  have hx := hC.1.1
  have hb := hC.1.2.1
  have hown := hC.1.2.2.2.1
  have hts := hC.1.2.2.2.2
  have hl := lv_entry ([.ref (B 0)]) (n := 3) (Nat.le_of_ble_eq_true rfl)
  rw [lg_entry_eq]
  generalize (lg_sl ([.ref (B 0)]) ++ List.replicate (3 - (lg_sl ([.ref (B 0)])).length) Slot.unset).toArray = ls at hl ⊢
  have hl : lv_has ls 3 [(0, .ref (B 0))] := hl
  unfold fM_parse at h
  refine W_nm (fun H locs eH eL => ?_)
  have hH : mH D cI B s (va_A (mW B cI μ0) s.heap.size) μ0 H locs := by rw [eH, eL]; exact hH
  show W p l e rmM_parse s m _ below meth c H locs 0 0 _ (F0 m 0 ls [])
  refine lv_aload_n hx hb dX8_parse_0 rfl (lv_at hl 0 rfl) ?_
  refine lv_iconst (v := 0) hx hb dX8_parse_1 (by decide) ?_
  obtain ⟨μ1, e2, h⟩ := bnd_some h
  refine m_put (ty := .int) hC hH 19 (by decide) wfX8_206 rfl rfl (by decide +kernel) rfl rfl e2 (mF_19 B _ _) dX8_parse_2 (fun H locs hH => ?_)
  refine lv_aload_n hx hb dX8_parse_5 rfl (lv_at hl 0 rfl) ?_
  refine lv_iconst (v := 3) hx hb dX8_parse_6 (by decide) ?_
  obtain ⟨μ3, e4, h⟩ := bnd_some h
  refine m_put (ty := .int) hC hH 20 (by decide) wfX8_209 rfl rfl (by decide +kernel) rfl rfl e4 (mF_20 B _ _) dX8_parse_7 (fun H locs hH => ?_)
  refine lv_aload_n hx hb dX8_parse_10 rfl (lv_at hl 0 rfl) ?_
  refine lv_iconst (v := 0) hx hb dX8_parse_11 (by decide) ?_
  obtain ⟨μ5, e6, h⟩ := bnd_some h
  refine m_put (ty := .int) hC hH 23 (by decide) wfX8_270 rfl rfl (by decide +kernel) rfl rfl e6 (mF_23 B _ _) dX8_parse_12 (fun H locs hH => ?_)
  refine lv_aload_n hx hb dX8_parse_15 rfl (lv_at hl 0 rfl) ?_
  refine lv_iconst (v := 0) hx hb dX8_parse_16 (by decide) ?_
  obtain ⟨μ7, e8, h⟩ := bnd_some h
  refine m_put (ty := .int) hC hH 24 (by decide) wfX8_267 rfl rfl (by decide +kernel) rfl rfl e8 (mF_24 B _ _) dX8_parse_17 (fun H locs hH => ?_)
  refine lv_aload_n hx hb dX8_parse_20 rfl (lv_at hl 0 rfl) ?_
  refine lv_iconst (v := 0) hx hb dX8_parse_21 (by decide) ?_
  obtain ⟨μ9, e10, h⟩ := bnd_some h
  refine m_put (ty := .int) hC hH 25 (by decide) wfX8_234 rfl rfl (by decide +kernel) rfl rfl e10 (mF_25 B _ _) dX8_parse_22 (fun H locs hH => ?_)
  refine lv_aload_n hx hb dX8_parse_25 rfl (lv_at hl 0 rfl) ?_
  refine lv_iconst (v := 0) hx hb dX8_parse_26 (by decide) ?_
  obtain ⟨μ11, e12, h⟩ := bnd_some h
  refine m_put (ty := .int) hC hH 27 (by decide) wfX8_261 rfl rfl (by decide +kernel) rfl rfl e12 (mF_27 B _ _) dX8_parse_27 (fun H locs hH => ?_)
  refine lv_aload_n hx hb dX8_parse_30 rfl (lv_at hl 0 rfl) ?_
  refine lv_aload_n hx hb dX8_parse_31 rfl (lv_at hl 0 rfl) ?_
  refine m_get hC hH 0 (by decide) wfX8_7 rfl rfl dX8_parse_32 ?_
  refine lv_iconst (v := 1) hx hb dX8_parse_35 (by decide) ?_
  refine m_ald hC hH (a := 1) rfl rfl (vp_b rfl) dX8_parse_36 ?_
  refine lv_bipush (v := 14) hx hb dX8_parse_37 (by decide) ?_
  refine lv_icmp_ge (tgt := 57) hx hb dX8_parse_39 (by decide) (fun c13 => ?_) (fun c13 => ?_)
  · have h := ite_t c13 h
    refine lv_sipush (v := 2876) hx hb dX8_parse_57 (by decide) ?_
    exact wM_parse_J60 hC hr  (2876 : Int32) μ11 H locs ls  hH hl h
  · have h := ite_f c13 h
    refine lv_aload_n hx hb dX8_parse_42 rfl (lv_at hl 0 rfl) ?_
    refine lv_aload_n hx hb dX8_parse_43 rfl (lv_at hl 0 rfl) ?_
    refine m_get hC hH 0 (by decide) wfX8_7 rfl rfl dX8_parse_44 ?_
    refine lv_iconst (v := 1) hx hb dX8_parse_47 (by decide) ?_
    refine m_ald hC hH (a := 1) rfl rfl (vp_b rfl) dX8_parse_48 ?_
    obtain ⟨r33, h32, h⟩ := ob_some h
    refine m_calli (As := [.int (μ11 1 1)]) (rest := [.ref (B 0)]) (cM_textAt l D cI B μ11 (μ11 1 1) h32) hC hH hl (cwV 1 hts (gV wmX8_276 wvX8_textAt) rfl rfl rfl hdX8_textAt ⟨Nat.le_of_ble_eq_true rfl, Nat.le_of_ble_eq_true rfl⟩) rfl rfl (Nat.le_of_ble_eq_true rfl) ⟨Nat.zero_le _, Nat.zero_le _⟩ dX8_parse_49 (fun H locs hH => ?_)
    refine lv_iconst (v := 4) hx hb dX8_parse_52 (by decide) ?_
    refine lv_iadd hx hb dX8_parse_53 ?_
    refine lv_goto (tgt := 60) hx hb dX8_parse_54 (by decide) ?_
    exact wM_parse_J60 hC hr  (r33 + (4 : Int32)) μ11 H locs ls  hH hl h

def rmM_text : Room := { frames := 86, cells := 0, slots := 0, locals := 3343 }
theorem hdX8_text : yX8_text.cls = RX8 ∧ yX8_text.cls ≠ "java/lang/invoke/MethodHandle" ∧ yX8_text.cls ≠ "java/lang/invoke/VarHandle" ∧ (parseMethodDescriptor yX8_text.desc).map (fun d => d.parameters.length) = some 0 := by decide +kernel

def fM_text (μ0 : MS) : Option (Int32 × MS) :=
  ob2 (fM_parse μ0) fun r2 μ3 =>
  if 0 ≤ r2 then (
    if (μ3 1 1) = (14 : Int32) then (
      some ((-1000000003 : Int32), μ3))
    else (
      ob (fM_textAt μ3 (μ3 1 1)) fun r7 =>
      ck (r7 + (0 : Int32)) (3076) <|
      bnd (up2 μ3 1 ((r7 + (0 : Int32))).toNatClampNeg r2) fun μ9 =>
      ck (r7 + (1 : Int32)) (3076) <|
      bnd (up2 μ9 1 ((r7 + (1 : Int32))).toNatClampNeg (μ9 0 27)) fun μ12 =>
      ck (r7 + (2 : Int32)) (3076) <|
      bnd (up2 μ12 1 ((r7 + (2 : Int32))).toNatClampNeg (μ12 0 25)) fun μ15 =>
      bnd (up2 μ15 1 1 ((μ15 1 1) + (1 : Int32))) fun μ17 =>
      ob (fM_forgets μ17) fun μ20 =>
      some (((μ20 1 1) - (1 : Int32)), μ20)))
  else (
    some (((-100 : Int32) - (μ3 0 18)), μ3))

set_option maxHeartbeats 4000000 in
set_option maxRecDepth 100000 in
theorem cM_text (l : Launch) (D : va_G) (cI : ClassId) (B : Nat → Nat) (μ0 : MS) {r : Int32} {μr : MS} (h : fM_text μ0 = some (r, μr)) : ∀ sz, Met l yX8_text (Cond.code yX8_text cX8_text 3 (some .int) :: Tw) rmM_text (mP D cI B μ0 sz [.ref (B 0)]) (mQi D cI B μ0 sz μr r) 0 0 (va_A (mW B cI μ0) sz) := by
  intro sz
  refine Met.ofW (cc := cX8_text) (maxL := 3) (ret := (some .int)) (by decide) rfl ?_
  intro p e s m args below meth c s₁ Bd hml hv
  obtain ⟨hC, hr⟩ := jC_of Bd hml
  obtain ⟨rfl, rfl, hH⟩ := m_enter hv
  have hC : jC p s m _ meth c cX8_text 3 RX8 := hC
  have hx := hC.1.1
  have hb := hC.1.2.1
  have hown := hC.1.2.2.2.1
  have hts := hC.1.2.2.2.2
  have hl := lv_entry ([.ref (B 0)]) (n := 3) (Nat.le_of_ble_eq_true rfl)
  rw [lg_entry_eq]
  generalize (lg_sl ([.ref (B 0)]) ++ List.replicate (3 - (lg_sl ([.ref (B 0)])).length) Slot.unset).toArray = ls at hl ⊢
  have hl : lv_has ls 3 [(0, .ref (B 0))] := hl
  unfold fM_text at h
  refine W_nm (fun H locs eH eL => ?_)
  have hH : mH D cI B s (va_A (mW B cI μ0) s.heap.size) μ0 H locs := by rw [eH, eL]; exact hH
  show W p l e rmM_text s m _ below meth c H locs 0 0 _ (F0 m 0 ls [])
  refine lv_aload_n hx hb dX8_text_0 rfl (lv_at hl 0 rfl) ?_
  obtain ⟨r2, μ3, h1, h⟩ := ob2_some h
  refine m_calli (As := []) (rest := []) (cM_parse l D cI B μ0  h1) hC hH hl (cwV 0 hts (gV wmX8_282 wvX8_parse) rfl rfl rfl hdX8_parse ⟨Nat.le_of_ble_eq_true rfl, Nat.le_of_ble_eq_true rfl⟩) rfl rfl (Nat.le_of_ble_eq_true rfl) ⟨Nat.zero_le _, Nat.zero_le _⟩ dX8_text_1 (fun H locs hH => ?_)
  refine lv_istore_n (lv' := [(1, .int r2), (0, .ref (B 0))]) hx hb dX8_text_4 rfl hl (by decide) rfl (fun ls hl => ?_)
  refine lv_iload_n hx hb dX8_text_5 rfl (lv_at hl 0 rfl) ?_
  refine lv_if_ge (tgt := 17) hx hb dX8_text_6 (by decide) (fun c4 => ?_) (fun c4 => ?_)
  · have h := ite_t c4 h
    refine lv_aload_n hx hb dX8_text_17 rfl (lv_at hl 1 rfl) ?_
    refine m_get hC hH 0 (by decide) wfX8_7 rfl rfl dX8_text_18 ?_
    refine lv_iconst (v := 1) hx hb dX8_text_21 (by decide) ?_
    refine m_ald hC hH (a := 1) rfl rfl (vp_b rfl) dX8_text_22 ?_
    refine lv_bipush (v := 14) hx hb dX8_text_23 (by decide) ?_
    refine lv_icmp_ne (tgt := 31) hx hb dX8_text_25 (by decide) (fun c5 => ?_) (fun c5 => ?_)
    · have h := ite_f c5 h
      refine lv_aload_n hx hb dX8_text_31 rfl (lv_at hl 1 rfl) ?_
      refine lv_aload_n hx hb dX8_text_32 rfl (lv_at hl 1 rfl) ?_
      refine m_get hC hH 0 (by decide) wfX8_7 rfl rfl dX8_text_33 ?_
      refine lv_iconst (v := 1) hx hb dX8_text_36 (by decide) ?_
      refine m_ald hC hH (a := 1) rfl rfl (vp_b rfl) dX8_text_37 ?_
      obtain ⟨r7, h6, h⟩ := ob_some h
      refine m_calli (As := [.int (μ3 1 1)]) (rest := []) (cM_textAt l D cI B μ3 (μ3 1 1) h6) hC hH hl (cwV 1 hts (gV wmX8_276 wvX8_textAt) rfl rfl rfl hdX8_textAt ⟨Nat.le_of_ble_eq_true rfl, Nat.le_of_ble_eq_true rfl⟩) rfl rfl (Nat.le_of_ble_eq_true rfl) ⟨Nat.zero_le _, Nat.zero_le _⟩ dX8_text_38 (fun H locs hH => ?_)
      refine lv_istore_n (lv' := [(2, .int r7), (1, .int r2), (0, .ref (B 0))]) hx hb dX8_text_41 rfl hl (by decide) rfl (fun ls hl => ?_)
      refine lv_aload_n hx hb dX8_text_42 rfl (lv_at hl 2 rfl) ?_
      refine m_get hC hH 0 (by decide) wfX8_7 rfl rfl dX8_text_43 ?_
      refine lv_iload_n hx hb dX8_text_46 rfl (lv_at hl 0 rfl) ?_
      refine lv_iconst (v := 0) hx hb dX8_text_47 (by decide) ?_
      refine lv_iadd hx hb dX8_text_48 ?_
      refine lv_iload_n hx hb dX8_text_49 rfl (lv_at hl 1 rfl) ?_
      obtain ⟨i8, h⟩ := ck_some h
      obtain ⟨μ9, e10, h⟩ := bnd_some h
      refine m_ast hC hH (a := 1) rfl rfl e10 i8 dX8_text_50 (fun H locs hH => ?_)
      refine lv_aload_n hx hb dX8_text_51 rfl (lv_at hl 2 rfl) ?_
      refine m_get hC hH 0 (by decide) wfX8_7 rfl rfl dX8_text_52 ?_
      refine lv_iload_n hx hb dX8_text_55 rfl (lv_at hl 0 rfl) ?_
      refine lv_iconst (v := 1) hx hb dX8_text_56 (by decide) ?_
      refine lv_iadd hx hb dX8_text_57 ?_
      refine lv_aload_n hx hb dX8_text_58 rfl (lv_at hl 2 rfl) ?_
      refine m_get hC hH 27 (by decide) wfX8_261 rfl rfl dX8_text_59 ?_
      obtain ⟨i11, h⟩ := ck_some h
      obtain ⟨μ12, e13, h⟩ := bnd_some h
      refine m_ast hC hH (a := 1) rfl rfl e13 i11 dX8_text_62 (fun H locs hH => ?_)
      refine lv_aload_n hx hb dX8_text_63 rfl (lv_at hl 2 rfl) ?_
      refine m_get hC hH 0 (by decide) wfX8_7 rfl rfl dX8_text_64 ?_
      refine lv_iload_n hx hb dX8_text_67 rfl (lv_at hl 0 rfl) ?_
      refine lv_iconst (v := 2) hx hb dX8_text_68 (by decide) ?_
      refine lv_iadd hx hb dX8_text_69 ?_
      refine lv_aload_n hx hb dX8_text_70 rfl (lv_at hl 2 rfl) ?_
      refine m_get hC hH 25 (by decide) wfX8_234 rfl rfl dX8_text_71 ?_
      obtain ⟨i14, h⟩ := ck_some h
      obtain ⟨μ15, e16, h⟩ := bnd_some h
      refine m_ast hC hH (a := 1) rfl rfl e16 i14 dX8_text_74 (fun H locs hH => ?_)
      refine lv_aload_n hx hb dX8_text_75 rfl (lv_at hl 2 rfl) ?_
      refine m_get hC hH 0 (by decide) wfX8_7 rfl rfl dX8_text_76 ?_
      refine lv_iconst (v := 1) hx hb dX8_text_79 (by decide) ?_
      refine lv_dup2_11 hx hb dX8_text_80 rfl rfl ?_
      refine m_ald hC hH (a := 1) rfl rfl (vp_b rfl) dX8_text_81 ?_
      refine lv_iconst (v := 1) hx hb dX8_text_82 (by decide) ?_
      refine lv_iadd hx hb dX8_text_83 ?_
      obtain ⟨μ17, e18, h⟩ := bnd_some h
      refine m_ast hC hH (a := 1) rfl rfl e18 (vp_b rfl) dX8_text_84 (fun H locs hH => ?_)
      refine lv_aload_n hx hb dX8_text_85 rfl (lv_at hl 2 rfl) ?_
      obtain ⟨μ20, h19, h⟩ := ob_some h
      refine m_callv (As := []) (rest := []) (cM_forgets l D cI B μ17  h19) hC hH hl (cwV 0 hts (gV wmX8_285 wvX8_forgets) rfl rfl rfl hdX8_forgets ⟨Nat.le_of_ble_eq_true rfl, Nat.le_of_ble_eq_true rfl⟩) rfl rfl (Nat.le_of_ble_eq_true rfl) ⟨Nat.zero_le _, Nat.zero_le _⟩ dX8_text_86 (fun H locs hH => ?_)
      refine lv_aload_n hx hb dX8_text_89 rfl (lv_at hl 2 rfl) ?_
      refine m_get hC hH 0 (by decide) wfX8_7 rfl rfl dX8_text_90 ?_
      refine lv_iconst (v := 1) hx hb dX8_text_93 (by decide) ?_
      refine m_ald hC hH (a := 1) rfl rfl (vp_b rfl) dX8_text_94 ?_
      refine lv_iconst (v := 1) hx hb dX8_text_95 (by decide) ?_
      refine lv_isub hx hb dX8_text_96 ?_
      obtain ⟨rfl, rfl⟩ := some_i2 h
      exact m_iret hC hH hr rfl dX8_text_97
    · have h := ite_t c5 h
      refine lv_ldc (v := -1000000003) hx hb hown (hts _ wkX8_91) dX8_text_28 ?_
      obtain ⟨rfl, rfl⟩ := some_i2 h
      exact m_iret (v := -1000000003) hC hH hr rfl dX8_text_30
  · have h := ite_f c4 h
    refine lv_bipush (v := -100) hx hb dX8_text_9 (by decide) ?_
    refine lv_aload_n hx hb dX8_text_11 rfl (lv_at hl 1 rfl) ?_
    refine m_get hC hH 18 (by decide) wfX8_212 rfl rfl dX8_text_12 ?_
    refine lv_isub hx hb dX8_text_15 ?_
    obtain ⟨rfl, rfl⟩ := some_i2 h
    exact m_iret hC hH hr rfl dX8_text_16

def rmM_textTold : Room := { frames := 2, cells := 0, slots := 0, locals := 46 }
theorem hdX8_textTold : yX8_textTold.cls = RX8 ∧ yX8_textTold.cls ≠ "java/lang/invoke/MethodHandle" ∧ yX8_textTold.cls ≠ "java/lang/invoke/VarHandle" ∧ (parseMethodDescriptor yX8_textTold.desc).map (fun d => d.parameters.length) = some 2 := by decide +kernel

def fM_textTold (μ0 : MS) (x1 : Int32) (x2 : Int32) : Option (Int32) :=
  ob (fM_isText μ0 x1) fun r2 =>
  if r2 = 0 then (
    some (-1000000001 : Int32))
  else (
    ob (fM_isIn μ0 (x2).toInt64 (0 : Int64) (1 : Int64)) fun r5 =>
    if r5 = 0 then (
      some (-1000000001 : Int32))
    else (
      ob (fM_textAt μ0 x1) fun r8 =>
      ck (r8 + x2) (3076) <|
      some (μ0 1 ((r8 + x2)).toNatClampNeg)))

set_option maxHeartbeats 4000000 in
set_option maxRecDepth 100000 in
theorem cM_textTold (l : Launch) (D : va_G) (cI : ClassId) (B : Nat → Nat) (μ0 : MS) (x1 : Int32) (x2 : Int32) {r : Int32} (h : fM_textTold μ0 x1 x2 = some r) : ∀ sz, Met l yX8_textTold (Cond.code yX8_textTold cX8_textTold 3 (some .int) :: Tw) rmM_textTold (mP D cI B μ0 sz [.ref (B 0), .int x1, .int x2]) (mQi D cI B μ0 sz μ0 r) 0 0 (va_A (mW B cI μ0) sz) := by
  intro sz
  refine Met.ofW (cc := cX8_textTold) (maxL := 3) (ret := (some .int)) (by decide) rfl ?_
  intro p e s m args below meth c s₁ Bd hml hv
  obtain ⟨hC, hr⟩ := jC_of Bd hml
  obtain ⟨rfl, rfl, hH⟩ := m_enter hv
  have hC : jC p s m _ meth c cX8_textTold 3 RX8 := hC
  have hx := hC.1.1
  have hb := hC.1.2.1
  have hown := hC.1.2.2.2.1
  have hts := hC.1.2.2.2.2
  have hl := lv_entry ([.ref (B 0), .int x1, .int x2]) (n := 3) (Nat.le_of_ble_eq_true rfl)
  rw [lg_entry_eq]
  generalize (lg_sl ([.ref (B 0), .int x1, .int x2]) ++ List.replicate (3 - (lg_sl ([.ref (B 0), .int x1, .int x2])).length) Slot.unset).toArray = ls at hl ⊢
  have hl : lv_has ls 3 [(0, .ref (B 0)), (1, .int x1), (2, .int x2)] := hl
  unfold fM_textTold at h
  refine W_nm (fun H locs eH eL => ?_)
  have hH : mH D cI B s (va_A (mW B cI μ0) s.heap.size) μ0 H locs := by rw [eH, eL]; exact hH
  show W p l e rmM_textTold s m _ below meth c H locs 0 0 _ (F0 m 0 ls [])
  refine lv_aload_n hx hb dX8_textTold_0 rfl (lv_at hl 0 rfl) ?_
  refine lv_iload_n hx hb dX8_textTold_1 rfl (lv_at hl 1 rfl) ?_
  obtain ⟨r2, h1, h⟩ := ob_some h
  refine m_calli (As := [.int x1]) (rest := []) (cM_isText l D cI B μ0 x1 h1) hC hH hl (cwV 1 hts (gV wmX8_288 wvX8_isText) rfl rfl rfl hdX8_isText ⟨Nat.le_of_ble_eq_true rfl, Nat.le_of_ble_eq_true rfl⟩) rfl rfl (Nat.le_of_ble_eq_true rfl) ⟨Nat.zero_le _, Nat.zero_le _⟩ dX8_textTold_2 (fun H locs hH => ?_)
  refine lv_if_eq (tgt := 18) hx hb dX8_textTold_5 (by decide) (fun c3 => ?_) (fun c3 => ?_)
  · have h := ite_t c3 h
    refine lv_ldc (v := -1000000001) hx hb hown (hts _ wkX8_90) dX8_textTold_18 ?_
    obtain rfl := some_i1 h
    exact m_iret (v := -1000000001) hC hH hr rfl dX8_textTold_20
  · have h := ite_f c3 h
    refine lv_iload_n hx hb dX8_textTold_8 rfl (lv_at hl 2 rfl) ?_
    refine lv_i2l hx hb dX8_textTold_9 rfl ?_
    refine lv_lconst (v := 0) hx hb dX8_textTold_10 (by decide) ?_
    refine lv_lconst (v := 1) hx hb dX8_textTold_11 (by decide) ?_
    obtain ⟨r5, h4, h⟩ := ob_some h
    refine m_calls (As := [.long (x2).toInt64, .long (0 : Int64), .long (1 : Int64)]) (rest := []) (cM_isIn l D cI B μ0 (x2).toInt64 (0 : Int64) (1 : Int64) h4) hC hH hl (va_cwS 3 hts (gS wmX8_75 wsX8_isIn) rfl rfl rfl hdX8_isIn ⟨Nat.le_of_ble_eq_true rfl, Nat.le_of_ble_eq_true rfl⟩) rfl rfl (Nat.le_of_ble_eq_true rfl) ⟨Nat.zero_le _, Nat.zero_le _⟩ dX8_textTold_12 (fun H locs hH => ?_)
    refine lv_if_ne (tgt := 21) hx hb dX8_textTold_15 (by decide) (fun c6 => ?_) (fun c6 => ?_)
    · have h := ite_f c6 h
      refine lv_aload_n hx hb dX8_textTold_21 rfl (lv_at hl 0 rfl) ?_
      refine m_get hC hH 0 (by decide) wfX8_7 rfl rfl dX8_textTold_22 ?_
      refine lv_aload_n hx hb dX8_textTold_25 rfl (lv_at hl 0 rfl) ?_
      refine lv_iload_n hx hb dX8_textTold_26 rfl (lv_at hl 1 rfl) ?_
      obtain ⟨r8, h7, h⟩ := ob_some h
      refine m_calli (As := [.int x1]) (rest := [.ref (B 1)]) (cM_textAt l D cI B μ0 x1 h7) hC hH hl (cwV 1 hts (gV wmX8_276 wvX8_textAt) rfl rfl rfl hdX8_textAt ⟨Nat.le_of_ble_eq_true rfl, Nat.le_of_ble_eq_true rfl⟩) rfl rfl (Nat.le_of_ble_eq_true rfl) ⟨Nat.zero_le _, Nat.zero_le _⟩ dX8_textTold_27 (fun H locs hH => ?_)
      refine lv_iload_n hx hb dX8_textTold_30 rfl (lv_at hl 2 rfl) ?_
      refine lv_iadd hx hb dX8_textTold_31 ?_
      obtain ⟨i9, h⟩ := ck_some h
      refine m_ald hC hH (a := 1) rfl rfl i9 dX8_textTold_32 ?_
      obtain rfl := some_i1 h
      exact m_iret hC hH hr rfl dX8_textTold_33
    · have h := ite_t c6 h
      refine lv_ldc (v := -1000000001) hx hb hown (hts _ wkX8_90) dX8_textTold_18 ?_
      obtain rfl := some_i1 h
      exact m_iret (v := -1000000001) hC hH hr rfl dX8_textTold_20

def rmM_why : Room := { frames := 2, cells := 0, slots := 0, locals := 44 }
theorem hdX8_why : yX8_why.cls = RX8 ∧ yX8_why.cls ≠ "java/lang/invoke/MethodHandle" ∧ yX8_why.cls ≠ "java/lang/invoke/VarHandle" ∧ (parseMethodDescriptor yX8_why.desc).map (fun d => d.parameters.length) = some 1 := by decide +kernel

def fM_why (μ0 : MS) (x1 : Int32) : Option (Int32) :=
  ob (fM_isIn μ0 (x1).toInt64 (0 : Int64) (2 : Int64)) fun r2 =>
  if r2 = 0 then (
    some (-1000000001 : Int32))
  else (
    ob (fM_counts μ0 x1) fun r5 =>
    ob (fM_orNone μ0 r5) fun r7 =>
    some r7)

set_option maxHeartbeats 4000000 in
set_option maxRecDepth 100000 in
theorem cM_why (l : Launch) (D : va_G) (cI : ClassId) (B : Nat → Nat) (μ0 : MS) (x1 : Int32) {r : Int32} (h : fM_why μ0 x1 = some r) : ∀ sz, Met l yX8_why (Cond.code yX8_why cX8_why 2 (some .int) :: Tw) rmM_why (mP D cI B μ0 sz [.ref (B 0), .int x1]) (mQi D cI B μ0 sz μ0 r) 0 0 (va_A (mW B cI μ0) sz) := by
  intro sz
  refine Met.ofW (cc := cX8_why) (maxL := 2) (ret := (some .int)) (by decide) rfl ?_
  intro p e s m args below meth c s₁ Bd hml hv
  obtain ⟨hC, hr⟩ := jC_of Bd hml
  obtain ⟨rfl, rfl, hH⟩ := m_enter hv
  have hC : jC p s m _ meth c cX8_why 2 RX8 := hC
  have hx := hC.1.1
  have hb := hC.1.2.1
  have hown := hC.1.2.2.2.1
  have hts := hC.1.2.2.2.2
  have hl := lv_entry ([.ref (B 0), .int x1]) (n := 2) (Nat.le_of_ble_eq_true rfl)
  rw [lg_entry_eq]
  generalize (lg_sl ([.ref (B 0), .int x1]) ++ List.replicate (2 - (lg_sl ([.ref (B 0), .int x1])).length) Slot.unset).toArray = ls at hl ⊢
  have hl : lv_has ls 2 [(0, .ref (B 0)), (1, .int x1)] := hl
  unfold fM_why at h
  refine W_nm (fun H locs eH eL => ?_)
  have hH : mH D cI B s (va_A (mW B cI μ0) s.heap.size) μ0 H locs := by rw [eH, eL]; exact hH
  show W p l e rmM_why s m _ below meth c H locs 0 0 _ (F0 m 0 ls [])
  refine lv_iload_n hx hb dX8_why_0 rfl (lv_at hl 1 rfl) ?_
  refine lv_i2l hx hb dX8_why_1 rfl ?_
  refine lv_lconst (v := 0) hx hb dX8_why_2 (by decide) ?_
  refine lv_ldc2 (v := 2) hx hb hown (hts _ wqX8_136) dX8_why_3 ?_
  obtain ⟨r2, h1, h⟩ := ob_some h
  refine m_calls (As := [.long (x1).toInt64, .long (0 : Int64), .long (2 : Int64)]) (rest := []) (cM_isIn l D cI B μ0 (x1).toInt64 (0 : Int64) (2 : Int64) h1) hC hH hl (va_cwS 3 hts (gS wmX8_75 wsX8_isIn) rfl rfl rfl hdX8_isIn ⟨Nat.le_of_ble_eq_true rfl, Nat.le_of_ble_eq_true rfl⟩) rfl rfl (Nat.le_of_ble_eq_true rfl) ⟨Nat.zero_le _, Nat.zero_le _⟩ dX8_why_6 (fun H locs hH => ?_)
  refine lv_if_eq (tgt := 23) hx hb dX8_why_9 (by decide) (fun c3 => ?_) (fun c3 => ?_)
  · have h := ite_t c3 h
    refine lv_ldc (v := -1000000001) hx hb hown (hts _ wkX8_90) dX8_why_23 ?_
    obtain rfl := some_i1 h
    exact m_iret (v := -1000000001) hC hH hr rfl dX8_why_25
  · have h := ite_f c3 h
    refine lv_aload_n hx hb dX8_why_12 rfl (lv_at hl 0 rfl) ?_
    refine lv_iload_n hx hb dX8_why_13 rfl (lv_at hl 1 rfl) ?_
    obtain ⟨r5, h4, h⟩ := ob_some h
    refine m_calli (As := [.int x1]) (rest := []) (cM_counts l D cI B μ0 x1 h4) hC hH hl (cwV 1 hts (gV wmX8_95 wvX8_counts) rfl rfl rfl hdX8_counts ⟨Nat.le_of_ble_eq_true rfl, Nat.le_of_ble_eq_true rfl⟩) rfl rfl (Nat.le_of_ble_eq_true rfl) ⟨Nat.zero_le _, Nat.zero_le _⟩ dX8_why_14 (fun H locs hH => ?_)
    obtain ⟨r7, h6, h⟩ := ob_some h
    refine m_calls (As := [.int r5]) (rest := []) (cM_orNone l D cI B μ0 r5 h6) hC hH hl (va_cwS 1 hts (gS wmX8_187 wsX8_orNone) rfl rfl rfl hdX8_orNone ⟨Nat.le_of_ble_eq_true rfl, Nat.le_of_ble_eq_true rfl⟩) rfl rfl (Nat.le_of_ble_eq_true rfl) ⟨Nat.zero_le _, Nat.zero_le _⟩ dX8_why_17 (fun H locs hH => ?_)
    refine lv_goto (tgt := 25) hx hb dX8_why_20 (by decide) ?_
    obtain rfl := some_i1 h
    exact m_iret hC hH hr rfl dX8_why_25

def rmM_isSheet : Room := { frames := 1, cells := 0, slots := 0, locals := 25 }
theorem hdX8_isSheet : yX8_isSheet.cls ≠ "java/lang/invoke/MethodHandle" ∧ yX8_isSheet.cls ≠ "java/lang/invoke/VarHandle" ∧ (parseMethodDescriptor yX8_isSheet.desc).map (fun d => d.parameters.length) = some 1 := by decide +kernel

def fM_isSheet (μ0 : MS) (x0 : Int32) : Option (Int32) :=
  ob (fM_isIn μ0 (x0).toInt64 (0 : Int64) (3 : Int64)) fun r2 =>
  zb r2 <|
  some r2

set_option maxHeartbeats 4000000 in
set_option maxRecDepth 100000 in
theorem cM_isSheet (l : Launch) (D : va_G) (cI : ClassId) (B : Nat → Nat) (μ0 : MS) (x0 : Int32) {r : Int32} (h : fM_isSheet μ0 x0 = some r) : ∀ sz, Met l yX8_isSheet (Cond.code yX8_isSheet cX8_isSheet 1 (some .boolean) :: Tw) rmM_isSheet (mP D cI B μ0 sz [.int x0]) (mQi D cI B μ0 sz μ0 r) 0 0 (va_A (mW B cI μ0) sz) := by
  intro sz
  refine Met.ofW (cc := cX8_isSheet) (maxL := 1) (ret := (some .boolean)) (by decide) rfl ?_
  intro p e s m args below meth c s₁ Bd hml hv
  obtain ⟨hC, hr⟩ := jC_of Bd hml
  obtain ⟨rfl, rfl, hH⟩ := m_enter hv
  have hC : jC p s m _ meth c cX8_isSheet 1 RX8 := hC
  have hx := hC.1.1
  have hb := hC.1.2.1
  have hown := hC.1.2.2.2.1
  have hts := hC.1.2.2.2.2
  have hl := lv_entry ([.int x0]) (n := 1) (Nat.le_of_ble_eq_true rfl)
  rw [lg_entry_eq]
  generalize (lg_sl ([.int x0]) ++ List.replicate (1 - (lg_sl ([.int x0])).length) Slot.unset).toArray = ls at hl ⊢
  have hl : lv_has ls 1 [(0, .int x0)] := hl
  unfold fM_isSheet at h
  refine W_nm (fun H locs eH eL => ?_)
  have hH : mH D cI B s (va_A (mW B cI μ0) s.heap.size) μ0 H locs := by rw [eH, eL]; exact hH
  show W p l e rmM_isSheet s m _ below meth c H locs 0 0 _ (F0 m 0 ls [])
  refine lv_iload_n hx hb dX8_isSheet_0 rfl (lv_at hl 0 rfl) ?_
  refine lv_i2l hx hb dX8_isSheet_1 rfl ?_
  refine lv_lconst (v := 0) hx hb dX8_isSheet_2 (by decide) ?_
  refine lv_ldc2 (v := 3) hx hb hown (hts _ wqX8_295) dX8_isSheet_3 ?_
  obtain ⟨r2, h1, h⟩ := ob_some h
  refine m_calls (As := [.long (x0).toInt64, .long (0 : Int64), .long (3 : Int64)]) (rest := []) (cM_isIn l D cI B μ0 (x0).toInt64 (0 : Int64) (3 : Int64) h1) hC hH hl (va_cwS 3 hts (gS wmX8_75 wsX8_isIn) rfl rfl rfl hdX8_isIn ⟨Nat.le_of_ble_eq_true rfl, Nat.le_of_ble_eq_true rfl⟩) rfl rfl (Nat.le_of_ble_eq_true rfl) ⟨Nat.zero_le _, Nat.zero_le _⟩ dX8_isSheet_6 (fun H locs hH => ?_)
  obtain ⟨z3, h⟩ := zb_some h
  obtain rfl := some_i1 h
  exact m_iret hC hH hr z3 dX8_isSheet_9

def rmM_sheet : Room := { frames := 2, cells := 0, slots := 0, locals := 45 }
theorem hdX8_sheet : yX8_sheet.cls = RX8 ∧ yX8_sheet.cls ≠ "java/lang/invoke/MethodHandle" ∧ yX8_sheet.cls ≠ "java/lang/invoke/VarHandle" ∧ (parseMethodDescriptor yX8_sheet.desc).map (fun d => d.parameters.length) = some 3 := by decide +kernel

def fM_sheet_L69 (k95 : Int32 → MS → Option (Int32 × MS)) : Nat → Int32 → Int32 → MS → Option (Int32 × MS)
  | 0, _, _, _ => none
  | n + 1, x1, x4, μ =>
    if (24 : Int32) ≤ x4 then (
      k95 x1 μ)
    else (
      ck (((24 : Int32) * x1) + x4) (96) <|
      bnd (up2 μ 7 ((((24 : Int32) * x1) + x4)).toNatClampNeg (0 : Int32)) fun μ18 =>
      bnd (x4 + (1 : Int32)) fun v20 =>
      (fM_sheet_L69 k95 n) x1 v20 μ18)

set_option maxHeartbeats 4000000 in
set_option maxRecDepth 100000 in
theorem wM_sheet_L69 {p : Program} {l : Launch} {e : Env} {s : State} {m : MethodId} {args : Array Value} {below : List Frame} {meth : Method} {c : Code} {D : va_G} {cI : ClassId} {B : Nat → Nat} {μ0 : MS} {r : Int32} {μr : MS} (hC : jC p s m args meth c cX8_sheet 5 RX8) (hr : meth.sig.returnType = some .int) {k95 : Int32 → MS → Option (Int32 × MS)} (hk95 : ∀ (x1 : Int32) (μ : MS) (H : Heap) (locs : List Loc) (ls : Array Slot), mH D cI B s (va_A (mW B cI μ0) s.heap.size) μ H locs → lv_has ls 5 [(0, .ref (B 0)), (1, .int x1)] → k95 x1 μ = some (r, μr) → W p l e rmM_sheet s m args below meth c H locs 0 0 (MQ below (mQi D cI B μ0 s.heap.size μr r) args s 0 0 (va_A (mW B cI μ0) s.heap.size)) (F0 m 95 ls [])) : ∀ (n : Nat) (x1 : Int32) (x4 : Int32) (μ : MS) (H : Heap) (locs : List Loc) (ls : Array Slot), mH D cI B s (va_A (mW B cI μ0) s.heap.size) μ H locs → lv_has ls 5 [(0, .ref (B 0)), (1, .int x1), (4, .int x4)] → fM_sheet_L69 k95 n x1 x4 μ = some (r, μr) → W p l e rmM_sheet s m args below meth c H locs 0 0 (MQ below (mQi D cI B μ0 s.heap.size μr r) args s 0 0 (va_A (mW B cI μ0) s.heap.size)) (F0 m 69 ls []) := by
  have hx := hC.1.1
  have hb := hC.1.2.1
  have hown := hC.1.2.2.2.1
  have hts := hC.1.2.2.2.2
  intro n
  induction n with
  | zero =>
    intro x1 x4 μ H locs ls  hH hl h
    rw [fM_sheet_L69] at h
    cases h
  | succ n ih =>
    intro x1 x4 μ H locs ls  hH hl h
    rw [fM_sheet_L69] at h
    refine lv_iload hx hb dX8_sheet_69 (lv_at hl 2 rfl) ?_
    refine lv_bipush (v := 24) hx hb dX8_sheet_71 (by decide) ?_
    refine lv_icmp_ge (tgt := 95) hx hb dX8_sheet_73 (by decide) (fun c16 => ?_) (fun c16 => ?_)
    · have h := ite_t c16 h
      exact hk95 x1 μ H locs ls  hH (lv_sub hl [0, 1] rfl) h
    · have h := ite_f c16 h
      refine lv_aload_n hx hb dX8_sheet_76 rfl (lv_at hl 0 rfl) ?_
      refine m_get hC hH 6 (by decide) wfX8_25 rfl rfl dX8_sheet_77 ?_
      refine lv_bipush (v := 24) hx hb dX8_sheet_80 (by decide) ?_
      refine lv_iload_n hx hb dX8_sheet_82 rfl (lv_at hl 1 rfl) ?_
      refine lv_imul hx hb dX8_sheet_83 ?_
      refine lv_iload hx hb dX8_sheet_84 (lv_at hl 2 rfl) ?_
      refine lv_iadd hx hb dX8_sheet_86 ?_
      refine lv_iconst (v := 0) hx hb dX8_sheet_87 (by decide) ?_
      obtain ⟨i17, h⟩ := ck_some h
      obtain ⟨μ18, e19, h⟩ := bnd_some h
      refine m_ast hC hH (a := 7) rfl rfl e19 i17 dX8_sheet_88 (fun H locs hH => ?_)
      obtain ⟨v20, e21, h⟩ := bnd_some h
      refine lv_iinc (v := v20) (lv' := [(4, .int v20), (0, .ref (B 0)), (1, .int x1)]) hx hb dX8_sheet_89 hl (k := 2) rfl (by rw [e21]; rfl) (by decide) rfl (fun ls hl => ?_)
      refine lv_goto (tgt := 69) hx hb dX8_sheet_92 (by decide) ?_
      exact ih x1 v20 μ18 H locs ls  hH (lv_sub hl [1, 2, 0] rfl) h

def fM_sheet_J65 (x1 : Int32) (y1 : Int32) (y2 : Int32) (μ : MS) : Option (Int32 × MS) :=
  ck y1 (4) <|
  bnd (up2 μ 6 (y1).toNatClampNeg y2) fun μ14 =>
  fM_sheet_L69 (fun (x1 : Int32) (μ : MS) => ck x1 (4) <|
    some ((μ 6 (x1).toNatClampNeg), μ)) 10000 x1 (0 : Int32) μ14

set_option maxHeartbeats 4000000 in
set_option maxRecDepth 100000 in
theorem wM_sheet_J65 {p : Program} {l : Launch} {e : Env} {s : State} {m : MethodId} {args : Array Value} {below : List Frame} {meth : Method} {c : Code} {D : va_G} {cI : ClassId} {B : Nat → Nat} {μ0 : MS} {r : Int32} {μr : MS} (hC : jC p s m args meth c cX8_sheet 5 RX8) (hr : meth.sig.returnType = some .int) (x1 : Int32) (y1 : Int32) (y2 : Int32) (μ : MS) (H : Heap) (locs : List Loc) (ls : Array Slot) (hH : mH D cI B s (va_A (mW B cI μ0) s.heap.size) μ H locs) (hl : lv_has ls 5 [(0, .ref (B 0)), (1, .int x1)]) (h : fM_sheet_J65 x1 y1 y2 μ = some (r, μr)) : W p l e rmM_sheet s m args below meth c H locs 0 0 (MQ below (mQi D cI B μ0 s.heap.size μr r) args s 0 0 (va_A (mW B cI μ0) s.heap.size)) (F0 m 65 ls [.int y2, .int y1, .ref (B 6)]) := by
  have hx := hC.1.1
  have hb := hC.1.2.1
  have hown := hC.1.2.2.2.1
  have hts := hC.1.2.2.2.2
  unfold fM_sheet_J65 at h
  obtain ⟨i13, h⟩ := ck_some h
  obtain ⟨μ14, e15, h⟩ := bnd_some h
  refine m_ast hC hH (a := 6) rfl rfl e15 i13 dX8_sheet_65 (fun H locs hH => ?_)
  refine lv_iconst (v := 0) hx hb dX8_sheet_66 (by decide) ?_
  refine lv_istore (lv' := [(4, .int (0 : Int32)), (0, .ref (B 0)), (1, .int x1)]) hx hb dX8_sheet_67 hl (by decide) rfl (fun ls hl => ?_)
  refine wM_sheet_L69 hC hr  ?_ 10000 x1 (0 : Int32) μ14 H locs ls  hH (lv_sub hl [1, 2, 0] rfl) h
  intro x1 μ H locs ls  hH hl h
  refine lv_aload_n hx hb dX8_sheet_95 rfl (lv_at hl 0 rfl) ?_
  refine m_get hC hH 5 (by decide) wfX8_22 rfl rfl dX8_sheet_96 ?_
  refine lv_iload_n hx hb dX8_sheet_99 rfl (lv_at hl 1 rfl) ?_
  obtain ⟨i22, h⟩ := ck_some h
  refine m_ald hC hH (a := 6) rfl rfl i22 dX8_sheet_100 ?_
  obtain ⟨rfl, rfl⟩ := some_i2 h
  exact m_iret hC hH hr rfl dX8_sheet_101

def fM_sheet_J44 (x1 : Int32) (x2 : Int32) (x3 : Int32) (μ : MS) : Option (Int32 × MS) :=
  ck x1 (4) <|
  bnd (up2 μ 5 (x1).toNatClampNeg x2) fun μ10 =>
  if 0 ≤ x2 then (
    fM_sheet_J65 x1 x1 x3 μ10)
  else (
    fM_sheet_J65 x1 x1 (0 : Int32) μ10)

set_option maxHeartbeats 4000000 in
set_option maxRecDepth 100000 in
theorem wM_sheet_J44 {p : Program} {l : Launch} {e : Env} {s : State} {m : MethodId} {args : Array Value} {below : List Frame} {meth : Method} {c : Code} {D : va_G} {cI : ClassId} {B : Nat → Nat} {μ0 : MS} {r : Int32} {μr : MS} (hC : jC p s m args meth c cX8_sheet 5 RX8) (hr : meth.sig.returnType = some .int) (x1 : Int32) (x2 : Int32) (x3 : Int32) (μ : MS) (H : Heap) (locs : List Loc) (ls : Array Slot) (hH : mH D cI B s (va_A (mW B cI μ0) s.heap.size) μ H locs) (hl : lv_has ls 5 [(0, .ref (B 0)), (1, .int x1), (2, .int x2), (3, .int x3)]) (h : fM_sheet_J44 x1 x2 x3 μ = some (r, μr)) : W p l e rmM_sheet s m args below meth c H locs 0 0 (MQ below (mQi D cI B μ0 s.heap.size μr r) args s 0 0 (va_A (mW B cI μ0) s.heap.size)) (F0 m 44 ls []) := by
  have hx := hC.1.1
  have hb := hC.1.2.1
  have hown := hC.1.2.2.2.1
  have hts := hC.1.2.2.2.2
  unfold fM_sheet_J44 at h
  refine lv_aload_n hx hb dX8_sheet_44 rfl (lv_at hl 0 rfl) ?_
  refine m_get hC hH 4 (by decide) wfX8_19 rfl rfl dX8_sheet_45 ?_
  refine lv_iload_n hx hb dX8_sheet_48 rfl (lv_at hl 1 rfl) ?_
  refine lv_iload_n hx hb dX8_sheet_49 rfl (lv_at hl 2 rfl) ?_
  obtain ⟨i9, h⟩ := ck_some h
  obtain ⟨μ10, e11, h⟩ := bnd_some h
  refine m_ast hC hH (a := 5) rfl rfl e11 i9 dX8_sheet_50 (fun H locs hH => ?_)
  refine lv_aload_n hx hb dX8_sheet_51 rfl (lv_at hl 0 rfl) ?_
  refine m_get hC hH 5 (by decide) wfX8_22 rfl rfl dX8_sheet_52 ?_
  refine lv_iload_n hx hb dX8_sheet_55 rfl (lv_at hl 1 rfl) ?_
  refine lv_iload_n hx hb dX8_sheet_56 rfl (lv_at hl 2 rfl) ?_
  refine lv_if_ge (tgt := 64) hx hb dX8_sheet_57 (by decide) (fun c12 => ?_) (fun c12 => ?_)
  · have h := ite_t c12 h
    refine lv_iload_n hx hb dX8_sheet_64 rfl (lv_at hl 3 rfl) ?_
    exact wM_sheet_J65 hC hr  x1 x1 x3 μ10 H locs ls  hH (lv_sub hl [0, 1] rfl) h
  · have h := ite_f c12 h
    refine lv_iconst (v := 0) hx hb dX8_sheet_60 (by decide) ?_
    refine lv_goto (tgt := 65) hx hb dX8_sheet_61 (by decide) ?_
    exact wM_sheet_J65 hC hr  x1 x1 (0 : Int32) μ10 H locs ls  hH (lv_sub hl [0, 1] rfl) h

def fM_sheet_J32 (x1 : Int32) (x2 : Int32) (x3 : Int32) (μ : MS) : Option (Int32 × MS) :=
  if x2 < 0 then (
    fM_sheet_J44 x1 x2 x3 μ)
  else (
    if 0 ≤ x3 then (
      fM_sheet_J44 x1 x2 x3 μ)
    else (
      some ((-1000000014 : Int32), μ)))

set_option maxHeartbeats 4000000 in
set_option maxRecDepth 100000 in
theorem wM_sheet_J32 {p : Program} {l : Launch} {e : Env} {s : State} {m : MethodId} {args : Array Value} {below : List Frame} {meth : Method} {c : Code} {D : va_G} {cI : ClassId} {B : Nat → Nat} {μ0 : MS} {r : Int32} {μr : MS} (hC : jC p s m args meth c cX8_sheet 5 RX8) (hr : meth.sig.returnType = some .int) (x1 : Int32) (x2 : Int32) (x3 : Int32) (μ : MS) (H : Heap) (locs : List Loc) (ls : Array Slot) (hH : mH D cI B s (va_A (mW B cI μ0) s.heap.size) μ H locs) (hl : lv_has ls 5 [(0, .ref (B 0)), (1, .int x1), (2, .int x2), (3, .int x3)]) (h : fM_sheet_J32 x1 x2 x3 μ = some (r, μr)) : W p l e rmM_sheet s m args below meth c H locs 0 0 (MQ below (mQi D cI B μ0 s.heap.size μr r) args s 0 0 (va_A (mW B cI μ0) s.heap.size)) (F0 m 32 ls []) := by
  have hx := hC.1.1
  have hb := hC.1.2.1
  have hown := hC.1.2.2.2.1
  have hts := hC.1.2.2.2.2
  unfold fM_sheet_J32 at h
  refine lv_iload_n hx hb dX8_sheet_32 rfl (lv_at hl 2 rfl) ?_
  refine lv_if_lt (tgt := 44) hx hb dX8_sheet_33 (by decide) (fun c8 => ?_) (fun c8 => ?_)
  · have h := ite_t c8 h
    exact wM_sheet_J44 hC hr  x1 x2 x3 μ H locs ls  hH hl h
  · have h := ite_f c8 h
    refine lv_iload_n hx hb dX8_sheet_36 rfl (lv_at hl 3 rfl) ?_
    refine lv_if_ge (tgt := 44) hx hb dX8_sheet_37 (by decide) (fun c23 => ?_) (fun c23 => ?_)
    · have h := ite_t c23 h
      exact wM_sheet_J44 hC hr  x1 x2 x3 μ H locs ls  hH hl h
    · have h := ite_f c23 h
      refine lv_ldcw (v := -1000000014) hx hb hown (hts _ wkX8_302) dX8_sheet_40 ?_
      obtain ⟨rfl, rfl⟩ := some_i2 h
      exact m_iret (v := -1000000014) hC hH hr rfl dX8_sheet_43

def fM_sheet (μ0 : MS) (x1 : Int32) (x2 : Int32) (x3 : Int32) : Option (Int32 × MS) :=
  ob (fM_isSheet μ0 x1) fun r2 =>
  if r2 = 0 then (
    some ((-1000000001 : Int32), μ0))
  else (
    ob (fM_isIn μ0 (x2).toInt64 (-1 : Int64) (1 : Int64)) fun r5 =>
    if r5 = 0 then (
      some ((-1000000001 : Int32), μ0))
    else (
      if x2 < 0 then (
        fM_sheet_J32 x1 x2 x3 μ0)
      else (
        if x3 ≤ (24 : Int32) then (
          fM_sheet_J32 x1 x2 x3 μ0)
        else (
          some ((-1000000001 : Int32), μ0)))))

set_option maxHeartbeats 4000000 in
set_option maxRecDepth 100000 in
theorem cM_sheet (l : Launch) (D : va_G) (cI : ClassId) (B : Nat → Nat) (μ0 : MS) (x1 : Int32) (x2 : Int32) (x3 : Int32) {r : Int32} {μr : MS} (h : fM_sheet μ0 x1 x2 x3 = some (r, μr)) : ∀ sz, Met l yX8_sheet (Cond.code yX8_sheet cX8_sheet 5 (some .int) :: Tw) rmM_sheet (mP D cI B μ0 sz [.ref (B 0), .int x1, .int x2, .int x3]) (mQi D cI B μ0 sz μr r) 0 0 (va_A (mW B cI μ0) sz) := by
  intro sz
  refine Met.ofW (cc := cX8_sheet) (maxL := 5) (ret := (some .int)) (by decide) rfl ?_
  intro p e s m args below meth c s₁ Bd hml hv
  obtain ⟨hC, hr⟩ := jC_of Bd hml
  obtain ⟨rfl, rfl, hH⟩ := m_enter hv
  have hC : jC p s m _ meth c cX8_sheet 5 RX8 := hC
  have hx := hC.1.1
  have hb := hC.1.2.1
  have hown := hC.1.2.2.2.1
  have hts := hC.1.2.2.2.2
  have hl := lv_entry ([.ref (B 0), .int x1, .int x2, .int x3]) (n := 5) (Nat.le_of_ble_eq_true rfl)
  rw [lg_entry_eq]
  generalize (lg_sl ([.ref (B 0), .int x1, .int x2, .int x3]) ++ List.replicate (5 - (lg_sl ([.ref (B 0), .int x1, .int x2, .int x3])).length) Slot.unset).toArray = ls at hl ⊢
  have hl : lv_has ls 5 [(0, .ref (B 0)), (1, .int x1), (2, .int x2), (3, .int x3)] := hl
  unfold fM_sheet at h
  refine W_nm (fun H locs eH eL => ?_)
  have hH : mH D cI B s (va_A (mW B cI μ0) s.heap.size) μ0 H locs := by rw [eH, eL]; exact hH
  show W p l e rmM_sheet s m _ below meth c H locs 0 0 _ (F0 m 0 ls [])
  refine lv_iload_n hx hb dX8_sheet_0 rfl (lv_at hl 1 rfl) ?_
  obtain ⟨r2, h1, h⟩ := ob_some h
  refine m_calls (As := [.int x1]) (rest := []) (cM_isSheet l D cI B μ0 x1 h1) hC hH hl (va_cwS 1 hts (gS wmX8_297 wsX8_isSheet) rfl rfl rfl hdX8_isSheet ⟨Nat.le_of_ble_eq_true rfl, Nat.le_of_ble_eq_true rfl⟩) rfl rfl (Nat.le_of_ble_eq_true rfl) ⟨Nat.zero_le _, Nat.zero_le _⟩ dX8_sheet_1 (fun H locs hH => ?_)
  refine lv_if_eq (tgt := 29) hx hb dX8_sheet_4 (by decide) (fun c3 => ?_) (fun c3 => ?_)
  · have h := ite_t c3 h
    refine lv_ldc (v := -1000000001) hx hb hown (hts _ wkX8_90) dX8_sheet_29 ?_
    obtain ⟨rfl, rfl⟩ := some_i2 h
    exact m_iret (v := -1000000001) hC hH hr rfl dX8_sheet_31
  · have h := ite_f c3 h
    refine lv_iload_n hx hb dX8_sheet_7 rfl (lv_at hl 2 rfl) ?_
    refine lv_i2l hx hb dX8_sheet_8 rfl ?_
    refine lv_ldc2 (v := -1) hx hb hown (hts _ wqX8_300) dX8_sheet_9 ?_
    refine lv_lconst (v := 1) hx hb dX8_sheet_12 (by decide) ?_
    obtain ⟨r5, h4, h⟩ := ob_some h
    refine m_calls (As := [.long (x2).toInt64, .long (-1 : Int64), .long (1 : Int64)]) (rest := []) (cM_isIn l D cI B μ0 (x2).toInt64 (-1 : Int64) (1 : Int64) h4) hC hH hl (va_cwS 3 hts (gS wmX8_75 wsX8_isIn) rfl rfl rfl hdX8_isIn ⟨Nat.le_of_ble_eq_true rfl, Nat.le_of_ble_eq_true rfl⟩) rfl rfl (Nat.le_of_ble_eq_true rfl) ⟨Nat.zero_le _, Nat.zero_le _⟩ dX8_sheet_13 (fun H locs hH => ?_)
    refine lv_if_eq (tgt := 29) hx hb dX8_sheet_16 (by decide) (fun c6 => ?_) (fun c6 => ?_)
    · have h := ite_t c6 h
      refine lv_ldc (v := -1000000001) hx hb hown (hts _ wkX8_90) dX8_sheet_29 ?_
      obtain ⟨rfl, rfl⟩ := some_i2 h
      exact m_iret (v := -1000000001) hC hH hr rfl dX8_sheet_31
    · have h := ite_f c6 h
      refine lv_iload_n hx hb dX8_sheet_19 rfl (lv_at hl 2 rfl) ?_
      refine lv_if_lt (tgt := 32) hx hb dX8_sheet_20 (by decide) (fun c7 => ?_) (fun c7 => ?_)
      · have h := ite_t c7 h
        exact wM_sheet_J32 hC hr  x1 x2 x3 μ0 H locs ls  hH hl h
      · have h := ite_f c7 h
        refine lv_iload_n hx hb dX8_sheet_23 rfl (lv_at hl 3 rfl) ?_
        refine lv_bipush (v := 24) hx hb dX8_sheet_24 (by decide) ?_
        refine lv_icmp_le (tgt := 32) hx hb dX8_sheet_26 (by decide) (fun c24 => ?_) (fun c24 => ?_)
        · have h := ite_t c24 h
          exact wM_sheet_J32 hC hr  x1 x2 x3 μ0 H locs ls  hH hl h
        · have h := ite_f c24 h
          refine lv_ldc (v := -1000000001) hx hb hown (hts _ wkX8_90) dX8_sheet_29 ?_
          obtain ⟨rfl, rfl⟩ := some_i2 h
          exact m_iret (v := -1000000001) hC hH hr rfl dX8_sheet_31

def rmM_mark : Room := { frames := 2, cells := 0, slots := 0, locals := 45 }
theorem hdX8_mark : yX8_mark.cls = RX8 ∧ yX8_mark.cls ≠ "java/lang/invoke/MethodHandle" ∧ yX8_mark.cls ≠ "java/lang/invoke/VarHandle" ∧ (parseMethodDescriptor yX8_mark.desc).map (fun d => d.parameters.length) = some 3 := by decide +kernel

def fM_mark_J96 (x1 : Int32) (x2 : Int32) (x3 : Int32) (μ : MS) : Option (Int32 × MS) :=
  ck x1 (4) <|
  if (μ 5 (x1).toNatClampNeg) = 0 then (
    ck (((24 : Int32) * x1) + x2) (96) <|
    bnd (up2 μ 7 ((((24 : Int32) * x1) + x2)).toNatClampNeg ((x3 <<< ((16 : Int32) &&& 31)) >>> ((16 : Int32) &&& 31))) fun μ20 =>
    some ((1 : Int32), μ20))
  else (
    ck (((24 : Int32) * x1) + x2) (96) <|
    bnd (up2 μ 7 ((((24 : Int32) * x1) + x2)).toNatClampNeg x3) fun μ17 =>
    some ((1 : Int32), μ17))

set_option maxHeartbeats 4000000 in
set_option maxRecDepth 100000 in
theorem wM_mark_J96 {p : Program} {l : Launch} {e : Env} {s : State} {m : MethodId} {args : Array Value} {below : List Frame} {meth : Method} {c : Code} {D : va_G} {cI : ClassId} {B : Nat → Nat} {μ0 : MS} {r : Int32} {μr : MS} (hC : jC p s m args meth c cX8_mark 4 RX8) (hr : meth.sig.returnType = some .int) (x1 : Int32) (x2 : Int32) (x3 : Int32) (μ : MS) (H : Heap) (locs : List Loc) (ls : Array Slot) (hH : mH D cI B s (va_A (mW B cI μ0) s.heap.size) μ H locs) (hl : lv_has ls 4 [(0, .ref (B 0)), (1, .int x1), (2, .int x2), (3, .int x3)]) (h : fM_mark_J96 x1 x2 x3 μ = some (r, μr)) : W p l e rmM_mark s m args below meth c H locs 0 0 (MQ below (mQi D cI B μ0 s.heap.size μr r) args s 0 0 (va_A (mW B cI μ0) s.heap.size)) (F0 m 96 ls []) := by
  have hx := hC.1.1
  have hb := hC.1.2.1
  have hown := hC.1.2.2.2.1
  have hts := hC.1.2.2.2.2
  unfold fM_mark_J96 at h
  refine lv_aload_n hx hb dX8_mark_96 rfl (lv_at hl 0 rfl) ?_
  refine m_get hC hH 6 (by decide) wfX8_25 rfl rfl dX8_mark_97 ?_
  refine lv_bipush (v := 24) hx hb dX8_mark_100 (by decide) ?_
  refine lv_iload_n hx hb dX8_mark_102 rfl (lv_at hl 1 rfl) ?_
  refine lv_imul hx hb dX8_mark_103 ?_
  refine lv_iload_n hx hb dX8_mark_104 rfl (lv_at hl 2 rfl) ?_
  refine lv_iadd hx hb dX8_mark_105 ?_
  refine lv_aload_n hx hb dX8_mark_106 rfl (lv_at hl 0 rfl) ?_
  refine m_get hC hH 4 (by decide) wfX8_19 rfl rfl dX8_mark_107 ?_
  refine lv_iload_n hx hb dX8_mark_110 rfl (lv_at hl 1 rfl) ?_
  obtain ⟨i14, h⟩ := ck_some h
  refine m_ald hC hH (a := 5) rfl rfl i14 dX8_mark_111 ?_
  refine lv_if_ne (tgt := 125) hx hb dX8_mark_112 (by decide) (fun c15 => ?_) (fun c15 => ?_)
  · have h := ite_f c15 h
    refine lv_iload_n hx hb dX8_mark_125 rfl (lv_at hl 3 rfl) ?_
    obtain ⟨i16, h⟩ := ck_some h
    obtain ⟨μ17, e18, h⟩ := bnd_some h
    refine m_ast hC hH (a := 7) rfl rfl e18 i16 dX8_mark_126 (fun H locs hH => ?_)
    refine lv_iconst (v := 1) hx hb dX8_mark_127 (by decide) ?_
    obtain ⟨rfl, rfl⟩ := some_i2 h
    exact m_iret (v := 1) hC hH hr rfl dX8_mark_128
  · have h := ite_t c15 h
    refine lv_iload_n hx hb dX8_mark_115 rfl (lv_at hl 3 rfl) ?_
    refine lv_bipush (v := 16) hx hb dX8_mark_116 (by decide) ?_
    refine lv_ishl hx hb dX8_mark_118 ?_
    refine lv_bipush (v := 16) hx hb dX8_mark_119 (by decide) ?_
    refine lv_ishr hx hb dX8_mark_121 ?_
    refine lv_goto (tgt := 126) hx hb dX8_mark_122 (by decide) ?_
    obtain ⟨i19, h⟩ := ck_some h
    obtain ⟨μ20, e21, h⟩ := bnd_some h
    refine m_ast hC hH (a := 7) rfl rfl e21 i19 dX8_mark_126 (fun H locs hH => ?_)
    refine lv_iconst (v := 1) hx hb dX8_mark_127 (by decide) ?_
    obtain ⟨rfl, rfl⟩ := some_i2 h
    exact m_iret (v := 1) hC hH hr rfl dX8_mark_128

def fM_mark_J63 (x1 : Int32) (x2 : Int32) (x3 : Int32) (μ : MS) : Option (Int32 × MS) :=
  ck x1 (4) <|
  if (μ 5 (x1).toNatClampNeg) = (1 : Int32) then (
    if x3 = (-1000000005 : Int32) then (
      fM_mark_J96 x1 x2 x3 μ)
    else (
      ob (fM_isIn μ (x3).toInt64 (-99999 : Int64) (99999 : Int64)) fun r24 =>
      if r24 = 0 then (
        some ((-1000000001 : Int32), μ))
      else (
        fM_mark_J96 x1 x2 x3 μ)))
  else (
    fM_mark_J96 x1 x2 x3 μ)

set_option maxHeartbeats 4000000 in
set_option maxRecDepth 100000 in
theorem wM_mark_J63 {p : Program} {l : Launch} {e : Env} {s : State} {m : MethodId} {args : Array Value} {below : List Frame} {meth : Method} {c : Code} {D : va_G} {cI : ClassId} {B : Nat → Nat} {μ0 : MS} {r : Int32} {μr : MS} (hC : jC p s m args meth c cX8_mark 4 RX8) (hr : meth.sig.returnType = some .int) (x1 : Int32) (x2 : Int32) (x3 : Int32) (μ : MS) (H : Heap) (locs : List Loc) (ls : Array Slot) (hH : mH D cI B s (va_A (mW B cI μ0) s.heap.size) μ H locs) (hl : lv_has ls 4 [(0, .ref (B 0)), (1, .int x1), (2, .int x2), (3, .int x3)]) (h : fM_mark_J63 x1 x2 x3 μ = some (r, μr)) : W p l e rmM_mark s m args below meth c H locs 0 0 (MQ below (mQi D cI B μ0 s.heap.size μr r) args s 0 0 (va_A (mW B cI μ0) s.heap.size)) (F0 m 63 ls []) := by
  have hx := hC.1.1
  have hb := hC.1.2.1
  have hown := hC.1.2.2.2.1
  have hts := hC.1.2.2.2.2
  unfold fM_mark_J63 at h
  refine lv_aload_n hx hb dX8_mark_63 rfl (lv_at hl 0 rfl) ?_
  refine m_get hC hH 4 (by decide) wfX8_19 rfl rfl dX8_mark_64 ?_
  refine lv_iload_n hx hb dX8_mark_67 rfl (lv_at hl 1 rfl) ?_
  obtain ⟨i12, h⟩ := ck_some h
  refine m_ald hC hH (a := 5) rfl rfl i12 dX8_mark_68 ?_
  refine lv_iconst (v := 1) hx hb dX8_mark_69 (by decide) ?_
  refine lv_icmp_ne (tgt := 96) hx hb dX8_mark_70 (by decide) (fun c13 => ?_) (fun c13 => ?_)
  · have h := ite_f c13 h
    exact wM_mark_J96 hC hr  x1 x2 x3 μ H locs ls  hH hl h
  · have h := ite_t c13 h
    refine lv_iload_n hx hb dX8_mark_73 rfl (lv_at hl 3 rfl) ?_
    refine lv_ldc (v := -1000000005) hx hb hown (hts _ wkX8_74) dX8_mark_74 ?_
    refine lv_icmp_eq (tgt := 96) hx hb dX8_mark_76 (by decide) (fun c22 => ?_) (fun c22 => ?_)
    · have h := ite_t c22 h
      exact wM_mark_J96 hC hr  x1 x2 x3 μ H locs ls  hH hl h
    · have h := ite_f c22 h
      refine lv_iload_n hx hb dX8_mark_79 rfl (lv_at hl 3 rfl) ?_
      refine lv_i2l hx hb dX8_mark_80 rfl ?_
      refine lv_ldc2 (v := -99999) hx hb hown (hts _ wqX8_305) dX8_mark_81 ?_
      refine lv_ldc2 (v := 99999) hx hb hown (hts _ wqX8_307) dX8_mark_84 ?_
      obtain ⟨r24, h23, h⟩ := ob_some h
      refine m_calls (As := [.long (x3).toInt64, .long (-99999 : Int64), .long (99999 : Int64)]) (rest := []) (cM_isIn l D cI B μ (x3).toInt64 (-99999 : Int64) (99999 : Int64) h23) hC hH hl (va_cwS 3 hts (gS wmX8_75 wsX8_isIn) rfl rfl rfl hdX8_isIn ⟨Nat.le_of_ble_eq_true rfl, Nat.le_of_ble_eq_true rfl⟩) rfl rfl (Nat.le_of_ble_eq_true rfl) ⟨Nat.zero_le _, Nat.zero_le _⟩ dX8_mark_87 (fun H locs hH => ?_)
      refine lv_if_ne (tgt := 96) hx hb dX8_mark_90 (by decide) (fun c25 => ?_) (fun c25 => ?_)
      · have h := ite_f c25 h
        exact wM_mark_J96 hC hr  x1 x2 x3 μ H locs ls  hH hl h
      · have h := ite_t c25 h
        refine lv_ldc (v := -1000000001) hx hb hown (hts _ wkX8_90) dX8_mark_93 ?_
        obtain ⟨rfl, rfl⟩ := some_i2 h
        exact m_iret (v := -1000000001) hC hH hr rfl dX8_mark_95

def fM_mark (μ0 : MS) (x1 : Int32) (x2 : Int32) (x3 : Int32) : Option (Int32 × MS) :=
  ob (fM_isSheet μ0 x1) fun r2 =>
  if r2 = 0 then (
    some ((-1000000001 : Int32), μ0))
  else (
    ck x1 (4) <|
    if 0 ≤ (μ0 5 (x1).toNatClampNeg) then (
      ck x1 (4) <|
      ob (fM_isIn μ0 (x2).toInt64 (0 : Int64) (((μ0 6 (x1).toNatClampNeg) - (1 : Int32))).toInt64) fun r8 =>
      if r8 = 0 then (
        some ((-1000000013 : Int32), μ0))
      else (
        ck x1 (4) <|
        if (μ0 5 (x1).toNatClampNeg) = 0 then (
          if x3 = (-1000000005 : Int32) then (
            some ((-1000000012 : Int32), μ0))
          else (
            fM_mark_J63 x1 x2 x3 μ0))
        else (
          fM_mark_J63 x1 x2 x3 μ0)))
    else (
      some ((-1000000011 : Int32), μ0)))

set_option maxHeartbeats 4000000 in
set_option maxRecDepth 100000 in
theorem cM_mark (l : Launch) (D : va_G) (cI : ClassId) (B : Nat → Nat) (μ0 : MS) (x1 : Int32) (x2 : Int32) (x3 : Int32) {r : Int32} {μr : MS} (h : fM_mark μ0 x1 x2 x3 = some (r, μr)) : ∀ sz, Met l yX8_mark (Cond.code yX8_mark cX8_mark 4 (some .int) :: Tw) rmM_mark (mP D cI B μ0 sz [.ref (B 0), .int x1, .int x2, .int x3]) (mQi D cI B μ0 sz μr r) 0 0 (va_A (mW B cI μ0) sz) := by
  intro sz
  refine Met.ofW (cc := cX8_mark) (maxL := 4) (ret := (some .int)) (by decide) rfl ?_
  intro p e s m args below meth c s₁ Bd hml hv
  obtain ⟨hC, hr⟩ := jC_of Bd hml
  obtain ⟨rfl, rfl, hH⟩ := m_enter hv
  have hC : jC p s m _ meth c cX8_mark 4 RX8 := hC
  have hx := hC.1.1
  have hb := hC.1.2.1
  have hown := hC.1.2.2.2.1
  have hts := hC.1.2.2.2.2
  have hl := lv_entry ([.ref (B 0), .int x1, .int x2, .int x3]) (n := 4) (Nat.le_of_ble_eq_true rfl)
  rw [lg_entry_eq]
  generalize (lg_sl ([.ref (B 0), .int x1, .int x2, .int x3]) ++ List.replicate (4 - (lg_sl ([.ref (B 0), .int x1, .int x2, .int x3])).length) Slot.unset).toArray = ls at hl ⊢
  have hl : lv_has ls 4 [(0, .ref (B 0)), (1, .int x1), (2, .int x2), (3, .int x3)] := hl
  unfold fM_mark at h
  refine W_nm (fun H locs eH eL => ?_)
  have hH : mH D cI B s (va_A (mW B cI μ0) s.heap.size) μ0 H locs := by rw [eH, eL]; exact hH
  show W p l e rmM_mark s m _ below meth c H locs 0 0 _ (F0 m 0 ls [])
  refine lv_iload_n hx hb dX8_mark_0 rfl (lv_at hl 1 rfl) ?_
  obtain ⟨r2, h1, h⟩ := ob_some h
  refine m_calls (As := [.int x1]) (rest := []) (cM_isSheet l D cI B μ0 x1 h1) hC hH hl (va_cwS 1 hts (gS wmX8_297 wsX8_isSheet) rfl rfl rfl hdX8_isSheet ⟨Nat.le_of_ble_eq_true rfl, Nat.le_of_ble_eq_true rfl⟩) rfl rfl (Nat.le_of_ble_eq_true rfl) ⟨Nat.zero_le _, Nat.zero_le _⟩ dX8_mark_1 (fun H locs hH => ?_)
  refine lv_if_ne (tgt := 10) hx hb dX8_mark_4 (by decide) (fun c3 => ?_) (fun c3 => ?_)
  · have h := ite_f c3 h
    refine lv_aload_n hx hb dX8_mark_10 rfl (lv_at hl 0 rfl) ?_
    refine m_get hC hH 4 (by decide) wfX8_19 rfl rfl dX8_mark_11 ?_
    refine lv_iload_n hx hb dX8_mark_14 rfl (lv_at hl 1 rfl) ?_
    obtain ⟨i4, h⟩ := ck_some h
    refine m_ald hC hH (a := 5) rfl rfl i4 dX8_mark_15 ?_
    refine lv_if_ge (tgt := 23) hx hb dX8_mark_16 (by decide) (fun c5 => ?_) (fun c5 => ?_)
    · have h := ite_t c5 h
      refine lv_iload_n hx hb dX8_mark_23 rfl (lv_at hl 2 rfl) ?_
      refine lv_i2l hx hb dX8_mark_24 rfl ?_
      refine lv_lconst (v := 0) hx hb dX8_mark_25 (by decide) ?_
      refine lv_aload_n hx hb dX8_mark_26 rfl (lv_at hl 0 rfl) ?_
      refine m_get hC hH 5 (by decide) wfX8_22 rfl rfl dX8_mark_27 ?_
      refine lv_iload_n hx hb dX8_mark_30 rfl (lv_at hl 1 rfl) ?_
      obtain ⟨i6, h⟩ := ck_some h
      refine m_ald hC hH (a := 6) rfl rfl i6 dX8_mark_31 ?_
      refine lv_iconst (v := 1) hx hb dX8_mark_32 (by decide) ?_
      refine lv_isub hx hb dX8_mark_33 ?_
      refine lv_i2l hx hb dX8_mark_34 rfl ?_
      obtain ⟨r8, h7, h⟩ := ob_some h
      refine m_calls (As := [.long (x2).toInt64, .long (0 : Int64), .long (((μ0 6 (x1).toNatClampNeg) - (1 : Int32))).toInt64]) (rest := []) (cM_isIn l D cI B μ0 (x2).toInt64 (0 : Int64) (((μ0 6 (x1).toNatClampNeg) - (1 : Int32))).toInt64 h7) hC hH hl (va_cwS 3 hts (gS wmX8_75 wsX8_isIn) rfl rfl rfl hdX8_isIn ⟨Nat.le_of_ble_eq_true rfl, Nat.le_of_ble_eq_true rfl⟩) rfl rfl (Nat.le_of_ble_eq_true rfl) ⟨Nat.zero_le _, Nat.zero_le _⟩ dX8_mark_35 (fun H locs hH => ?_)
      refine lv_if_ne (tgt := 45) hx hb dX8_mark_38 (by decide) (fun c9 => ?_) (fun c9 => ?_)
      · have h := ite_f c9 h
        refine lv_aload_n hx hb dX8_mark_45 rfl (lv_at hl 0 rfl) ?_
        refine m_get hC hH 4 (by decide) wfX8_19 rfl rfl dX8_mark_46 ?_
        refine lv_iload_n hx hb dX8_mark_49 rfl (lv_at hl 1 rfl) ?_
        obtain ⟨i10, h⟩ := ck_some h
        refine m_ald hC hH (a := 5) rfl rfl i10 dX8_mark_50 ?_
        refine lv_if_ne (tgt := 63) hx hb dX8_mark_51 (by decide) (fun c11 => ?_) (fun c11 => ?_)
        · have h := ite_f c11 h
          exact wM_mark_J63 hC hr  x1 x2 x3 μ0 H locs ls  hH hl h
        · have h := ite_t c11 h
          refine lv_iload_n hx hb dX8_mark_54 rfl (lv_at hl 3 rfl) ?_
          refine lv_ldc (v := -1000000005) hx hb hown (hts _ wkX8_74) dX8_mark_55 ?_
          refine lv_icmp_ne (tgt := 63) hx hb dX8_mark_57 (by decide) (fun c26 => ?_) (fun c26 => ?_)
          · have h := ite_f c26 h
            exact wM_mark_J63 hC hr  x1 x2 x3 μ0 H locs ls  hH hl h
          · have h := ite_t c26 h
            refine lv_ldc (v := -1000000012) hx hb hown (hts _ wkX8_132) dX8_mark_60 ?_
            obtain ⟨rfl, rfl⟩ := some_i2 h
            exact m_iret (v := -1000000012) hC hH hr rfl dX8_mark_62
      · have h := ite_t c9 h
        refine lv_ldcw (v := -1000000013) hx hb hown (hts _ wkX8_304) dX8_mark_41 ?_
        obtain ⟨rfl, rfl⟩ := some_i2 h
        exact m_iret (v := -1000000013) hC hH hr rfl dX8_mark_44
    · have h := ite_f c5 h
      refine lv_ldcw (v := -1000000011) hx hb hown (hts _ wkX8_303) dX8_mark_19 ?_
      obtain ⟨rfl, rfl⟩ := some_i2 h
      exact m_iret (v := -1000000011) hC hH hr rfl dX8_mark_22
  · have h := ite_t c3 h
    refine lv_ldc (v := -1000000001) hx hb hown (hts _ wkX8_90) dX8_mark_7 ?_
    obtain ⟨rfl, rfl⟩ := some_i2 h
    exact m_iret (v := -1000000001) hC hH hr rfl dX8_mark_9

def rmM_pour : Room := { frames := 2, cells := 0, slots := 0, locals := 45 }
theorem hdX8_pour : yX8_pour.cls = RX8 ∧ yX8_pour.cls ≠ "java/lang/invoke/MethodHandle" ∧ yX8_pour.cls ≠ "java/lang/invoke/VarHandle" ∧ (parseMethodDescriptor yX8_pour.desc).map (fun d => d.parameters.length) = some 1 := by decide +kernel

def fM_pour_J90 (k27 : Int32 → Int32 → Int32 → MS → Option (Int32 × MS)) (x1 : Int32) (x2 : Int32) (x3 : Int32) (y0 : Int32) (μ : MS) : Option (Int32 × MS) :=
  ob2 (fM_becomes μ (((20 : Int32) + ((4 : Int32) * x3)) + (2 : Int32)) y0) fun r16 μ17 =>
  if y0 = r16 then (
    bnd (x2 + (0 : Int32)) fun v23 =>
    bnd (x3 + (1 : Int32)) fun v25 =>
    k27 x1 v23 v25 μ17)
  else (
    bnd (x2 + (1 : Int32)) fun v19 =>
    bnd (x3 + (1 : Int32)) fun v21 =>
    k27 x1 v19 v21 μ17)

set_option maxHeartbeats 4000000 in
set_option maxRecDepth 100000 in
theorem wM_pour_J90 {p : Program} {l : Launch} {e : Env} {s : State} {m : MethodId} {args : Array Value} {below : List Frame} {meth : Method} {c : Code} {D : va_G} {cI : ClassId} {B : Nat → Nat} {μ0 : MS} {r : Int32} {μr : MS} (hC : jC p s m args meth c cX8_pour 6 RX8) (hr : meth.sig.returnType = some .int) {k27 : Int32 → Int32 → Int32 → MS → Option (Int32 × MS)} (hk27 : ∀ (x1 : Int32) (x2 : Int32) (x3 : Int32) (μ : MS) (H : Heap) (locs : List Loc) (ls : Array Slot), mH D cI B s (va_A (mW B cI μ0) s.heap.size) μ H locs → lv_has ls 6 [(0, .ref (B 0)), (1, .int x1), (2, .int x2), (3, .int x3)] → k27 x1 x2 x3 μ = some (r, μr) → W p l e rmM_pour s m args below meth c H locs 0 0 (MQ below (mQi D cI B μ0 s.heap.size μr r) args s 0 0 (va_A (mW B cI μ0) s.heap.size)) (F0 m 27 ls [])) (x1 : Int32) (x2 : Int32) (x3 : Int32) (y0 : Int32) (μ : MS) (H : Heap) (locs : List Loc) (ls : Array Slot) (hH : mH D cI B s (va_A (mW B cI μ0) s.heap.size) μ H locs) (hl : lv_has ls 6 [(0, .ref (B 0)), (1, .int x1), (2, .int x2), (3, .int x3)]) (h : fM_pour_J90 k27 x1 x2 x3 y0 μ = some (r, μr)) : W p l e rmM_pour s m args below meth c H locs 0 0 (MQ below (mQi D cI B μ0 s.heap.size μr r) args s 0 0 (va_A (mW B cI μ0) s.heap.size)) (F0 m 90 ls [.int y0]) := by
  have hx := hC.1.1
  have hb := hC.1.2.1
  have hown := hC.1.2.2.2.1
  have hts := hC.1.2.2.2.2
  unfold fM_pour_J90 at h
  refine lv_istore (lv' := [(5, .int y0), (0, .ref (B 0)), (1, .int x1), (2, .int x2), (3, .int x3)]) hx hb dX8_pour_90 hl (by decide) rfl (fun ls hl => ?_)
  refine lv_iload_n hx hb dX8_pour_92 rfl (lv_at hl 3 rfl) ?_
  refine lv_iload hx hb dX8_pour_93 (lv_at hl 0 rfl) ?_
  refine lv_aload_n hx hb dX8_pour_95 rfl (lv_at hl 1 rfl) ?_
  refine lv_bipush (v := 20) hx hb dX8_pour_96 (by decide) ?_
  refine lv_iconst (v := 4) hx hb dX8_pour_98 (by decide) ?_
  refine lv_iload_n hx hb dX8_pour_99 rfl (lv_at hl 4 rfl) ?_
  refine lv_imul hx hb dX8_pour_100 ?_
  refine lv_iadd hx hb dX8_pour_101 ?_
  refine lv_iconst (v := 2) hx hb dX8_pour_102 (by decide) ?_
  refine lv_iadd hx hb dX8_pour_103 ?_
  refine lv_iload hx hb dX8_pour_104 (lv_at hl 0 rfl) ?_
  obtain ⟨r16, μ17, h15, h⟩ := ob2_some h
  refine m_calli (As := [.int (((20 : Int32) + ((4 : Int32) * x3)) + (2 : Int32)), .int y0]) (rest := [.int y0, .int x2]) (cM_becomes l D cI B μ (((20 : Int32) + ((4 : Int32) * x3)) + (2 : Int32)) y0 h15) hC hH hl (cwV 2 hts (gV wmX8_133 wvX8_becomes) rfl rfl rfl hdX8_becomes ⟨Nat.le_of_ble_eq_true rfl, Nat.le_of_ble_eq_true rfl⟩) rfl rfl (Nat.le_of_ble_eq_true rfl) ⟨Nat.zero_le _, Nat.zero_le _⟩ dX8_pour_106 (fun H locs hH => ?_)
  refine lv_icmp_ne (tgt := 116) hx hb dX8_pour_109 (by decide) (fun c18 => ?_) (fun c18 => ?_)
  · have h := ite_f c18 h
    refine lv_iconst (v := 1) hx hb dX8_pour_116 (by decide) ?_
    refine lv_iadd hx hb dX8_pour_117 ?_
    obtain ⟨v19, e20, h⟩ := bnd_some h
    refine lv_tope e20 ?_
    refine lv_istore_n (lv' := [(2, .int v19), (5, .int y0), (0, .ref (B 0)), (1, .int x1), (3, .int x3)]) hx hb dX8_pour_118 rfl hl (by decide) rfl (fun ls hl => ?_)
    obtain ⟨v21, e22, h⟩ := bnd_some h
    refine lv_iinc (v := v21) (lv' := [(3, .int v21), (2, .int v19), (5, .int y0), (0, .ref (B 0)), (1, .int x1)]) hx hb dX8_pour_119 hl (k := 4) rfl (by rw [e22]; rfl) (by decide) rfl (fun ls hl => ?_)
    refine lv_goto (tgt := 27) hx hb dX8_pour_122 (by decide) ?_
    exact hk27 x1 v19 v21 μ17 H locs ls  hH (lv_sub hl [3, 4, 1, 0] rfl) h
  · have h := ite_t c18 h
    refine lv_iconst (v := 0) hx hb dX8_pour_112 (by decide) ?_
    refine lv_goto (tgt := 117) hx hb dX8_pour_113 (by decide) ?_
    refine lv_iadd hx hb dX8_pour_117 ?_
    obtain ⟨v23, e24, h⟩ := bnd_some h
    refine lv_tope e24 ?_
    refine lv_istore_n (lv' := [(2, .int v23), (5, .int y0), (0, .ref (B 0)), (1, .int x1), (3, .int x3)]) hx hb dX8_pour_118 rfl hl (by decide) rfl (fun ls hl => ?_)
    obtain ⟨v25, e26, h⟩ := bnd_some h
    refine lv_iinc (v := v25) (lv' := [(3, .int v25), (2, .int v23), (5, .int y0), (0, .ref (B 0)), (1, .int x1)]) hx hb dX8_pour_119 hl (k := 4) rfl (by rw [e26]; rfl) (by decide) rfl (fun ls hl => ?_)
    refine lv_goto (tgt := 27) hx hb dX8_pour_122 (by decide) ?_
    exact hk27 x1 v23 v25 μ17 H locs ls  hH (lv_sub hl [3, 4, 1, 0] rfl) h

def fM_pour_L27 (k125 : Int32 → MS → Option (Int32 × MS)) : Nat → Int32 → Int32 → Int32 → MS → Option (Int32 × MS)
  | 0, _, _, _, _ => none
  | n + 1, x1, x2, x3, μ =>
    ck x1 (4) <|
    if (μ 6 (x1).toNatClampNeg) ≤ x3 then (
      k125 x2 μ)
    else (
      if (μ 1 0) ≤ x3 then (
        k125 x2 μ)
      else (
        ck (((24 : Int32) * x1) + x3) (96) <|
        bnd (μ 7 ((((24 : Int32) * x1) + x3)).toNatClampNeg) fun v10 =>
        if v10 = (-1000000005 : Int32) then (
          ck (((20 : Int32) + ((4 : Int32) * x3)) + (2 : Int32)) (3076) <|
          fM_pour_J90 (fM_pour_L27 k125 n) x1 x2 x3 (μ 1 ((((20 : Int32) + ((4 : Int32) * x3)) + (2 : Int32))).toNatClampNeg) μ)
        else (
          ob (fM_within μ v10 (9 : Int32)) fun r14 =>
          fM_pour_J90 (fM_pour_L27 k125 n) x1 x2 x3 r14 μ)))

set_option maxHeartbeats 4000000 in
set_option maxRecDepth 100000 in
theorem wM_pour_L27 {p : Program} {l : Launch} {e : Env} {s : State} {m : MethodId} {args : Array Value} {below : List Frame} {meth : Method} {c : Code} {D : va_G} {cI : ClassId} {B : Nat → Nat} {μ0 : MS} {r : Int32} {μr : MS} (hC : jC p s m args meth c cX8_pour 6 RX8) (hr : meth.sig.returnType = some .int) {k125 : Int32 → MS → Option (Int32 × MS)} (hk125 : ∀ (x2 : Int32) (μ : MS) (H : Heap) (locs : List Loc) (ls : Array Slot), mH D cI B s (va_A (mW B cI μ0) s.heap.size) μ H locs → lv_has ls 6 [(2, .int x2)] → k125 x2 μ = some (r, μr) → W p l e rmM_pour s m args below meth c H locs 0 0 (MQ below (mQi D cI B μ0 s.heap.size μr r) args s 0 0 (va_A (mW B cI μ0) s.heap.size)) (F0 m 125 ls [])) : ∀ (n : Nat) (x1 : Int32) (x2 : Int32) (x3 : Int32) (μ : MS) (H : Heap) (locs : List Loc) (ls : Array Slot), mH D cI B s (va_A (mW B cI μ0) s.heap.size) μ H locs → lv_has ls 6 [(0, .ref (B 0)), (1, .int x1), (2, .int x2), (3, .int x3)] → fM_pour_L27 k125 n x1 x2 x3 μ = some (r, μr) → W p l e rmM_pour s m args below meth c H locs 0 0 (MQ below (mQi D cI B μ0 s.heap.size μr r) args s 0 0 (va_A (mW B cI μ0) s.heap.size)) (F0 m 27 ls []) := by
  have hx := hC.1.1
  have hb := hC.1.2.1
  have hown := hC.1.2.2.2.1
  have hts := hC.1.2.2.2.2
  intro n
  induction n with
  | zero =>
    intro x1 x2 x3 μ H locs ls  hH hl h
    rw [fM_pour_L27] at h
    cases h
  | succ n ih =>
    intro x1 x2 x3 μ H locs ls  hH hl h
    rw [fM_pour_L27] at h
    refine lv_iload_n hx hb dX8_pour_27 rfl (lv_at hl 3 rfl) ?_
    refine lv_aload_n hx hb dX8_pour_28 rfl (lv_at hl 0 rfl) ?_
    refine m_get hC hH 5 (by decide) wfX8_22 rfl rfl dX8_pour_29 ?_
    refine lv_iload_n hx hb dX8_pour_32 rfl (lv_at hl 1 rfl) ?_
    obtain ⟨i6, h⟩ := ck_some h
    refine m_ald hC hH (a := 6) rfl rfl i6 dX8_pour_33 ?_
    refine lv_icmp_ge (tgt := 125) hx hb dX8_pour_34 (by decide) (fun c7 => ?_) (fun c7 => ?_)
    · have h := ite_t c7 h
      exact hk125 x2 μ H locs ls  hH (lv_sub hl [2] rfl) h
    · have h := ite_f c7 h
      refine lv_iload_n hx hb dX8_pour_37 rfl (lv_at hl 3 rfl) ?_
      refine lv_aload_n hx hb dX8_pour_38 rfl (lv_at hl 0 rfl) ?_
      refine m_get hC hH 0 (by decide) wfX8_7 rfl rfl dX8_pour_39 ?_
      refine lv_iconst (v := 0) hx hb dX8_pour_42 (by decide) ?_
      refine m_ald hC hH (a := 1) rfl rfl (vp_b rfl) dX8_pour_43 ?_
      refine lv_icmp_ge (tgt := 125) hx hb dX8_pour_44 (by decide) (fun c8 => ?_) (fun c8 => ?_)
      · have h := ite_t c8 h
        exact hk125 x2 μ H locs ls  hH (lv_sub hl [2] rfl) h
      · have h := ite_f c8 h
        refine lv_aload_n hx hb dX8_pour_47 rfl (lv_at hl 0 rfl) ?_
        refine m_get hC hH 6 (by decide) wfX8_25 rfl rfl dX8_pour_48 ?_
        refine lv_bipush (v := 24) hx hb dX8_pour_51 (by decide) ?_
        refine lv_iload_n hx hb dX8_pour_53 rfl (lv_at hl 1 rfl) ?_
        refine lv_imul hx hb dX8_pour_54 ?_
        refine lv_iload_n hx hb dX8_pour_55 rfl (lv_at hl 3 rfl) ?_
        refine lv_iadd hx hb dX8_pour_56 ?_
        obtain ⟨i9, h⟩ := ck_some h
        refine m_ald hC hH (a := 7) rfl rfl i9 dX8_pour_57 ?_
        obtain ⟨v10, e11, h⟩ := bnd_some h
        refine lv_tope e11 ?_
        refine lv_istore (lv' := [(4, .int v10), (0, .ref (B 0)), (1, .int x1), (2, .int x2), (3, .int x3)]) hx hb dX8_pour_58 hl (by decide) rfl (fun ls hl => ?_)
        refine lv_iload hx hb dX8_pour_60 (lv_at hl 0 rfl) ?_
        refine lv_ldc (v := -1000000005) hx hb hown (hts _ wkX8_74) dX8_pour_62 ?_
        refine lv_icmp_ne (tgt := 83) hx hb dX8_pour_64 (by decide) (fun c12 => ?_) (fun c12 => ?_)
        · have h := ite_f c12 h
          refine lv_iload hx hb dX8_pour_83 (lv_at hl 0 rfl) ?_
          refine lv_bipush (v := 9) hx hb dX8_pour_85 (by decide) ?_
          obtain ⟨r14, h13, h⟩ := ob_some h
          refine m_calls (As := [.int v10, .int (9 : Int32)]) (rest := []) (cM_within l D cI B μ v10 (9 : Int32) h13) hC hH hl (va_cwS 2 hts (gS wmX8_106 wsX8_within) rfl rfl rfl hdX8_within ⟨Nat.le_of_ble_eq_true rfl, Nat.le_of_ble_eq_true rfl⟩) rfl rfl (Nat.le_of_ble_eq_true rfl) ⟨Nat.zero_le _, Nat.zero_le _⟩ dX8_pour_87 (fun H locs hH => ?_)
          exact wM_pour_J90 hC hr ih x1 x2 x3 r14 μ H locs ls  hH (lv_sub hl [1, 2, 3, 4] rfl) h
        · have h := ite_t c12 h
          refine lv_aload_n hx hb dX8_pour_67 rfl (lv_at hl 1 rfl) ?_
          refine m_get hC hH 0 (by decide) wfX8_7 rfl rfl dX8_pour_68 ?_
          refine lv_bipush (v := 20) hx hb dX8_pour_71 (by decide) ?_
          refine lv_iconst (v := 4) hx hb dX8_pour_73 (by decide) ?_
          refine lv_iload_n hx hb dX8_pour_74 rfl (lv_at hl 4 rfl) ?_
          refine lv_imul hx hb dX8_pour_75 ?_
          refine lv_iadd hx hb dX8_pour_76 ?_
          refine lv_iconst (v := 2) hx hb dX8_pour_77 (by decide) ?_
          refine lv_iadd hx hb dX8_pour_78 ?_
          obtain ⟨i27, h⟩ := ck_some h
          refine m_ald hC hH (a := 1) rfl rfl i27 dX8_pour_79 ?_
          refine lv_goto (tgt := 90) hx hb dX8_pour_80 (by decide) ?_
          exact wM_pour_J90 hC hr ih x1 x2 x3 (μ 1 ((((20 : Int32) + ((4 : Int32) * x3)) + (2 : Int32))).toNatClampNeg) μ H locs ls  hH (lv_sub hl [1, 2, 3, 4] rfl) h

def fM_pour (μ0 : MS) (x1 : Int32) : Option (Int32 × MS) :=
  ob (fM_isSheet μ0 x1) fun r2 =>
  if r2 = 0 then (
    some ((-1000000001 : Int32), μ0))
  else (
    ck x1 (4) <|
    if 0 ≤ (μ0 5 (x1).toNatClampNeg) then (
      fM_pour_L27 (fun (x2 : Int32) (μ : MS) => some (x2, μ)) 10000 x1 (0 : Int32) (0 : Int32) μ0)
    else (
      some ((-1000000011 : Int32), μ0)))

set_option maxHeartbeats 4000000 in
set_option maxRecDepth 100000 in
theorem cM_pour (l : Launch) (D : va_G) (cI : ClassId) (B : Nat → Nat) (μ0 : MS) (x1 : Int32) {r : Int32} {μr : MS} (h : fM_pour μ0 x1 = some (r, μr)) : ∀ sz, Met l yX8_pour (Cond.code yX8_pour cX8_pour 6 (some .int) :: Tw) rmM_pour (mP D cI B μ0 sz [.ref (B 0), .int x1]) (mQi D cI B μ0 sz μr r) 0 0 (va_A (mW B cI μ0) sz) := by
  intro sz
  refine Met.ofW (cc := cX8_pour) (maxL := 6) (ret := (some .int)) (by decide) rfl ?_
  intro p e s m args below meth c s₁ Bd hml hv
  obtain ⟨hC, hr⟩ := jC_of Bd hml
  obtain ⟨rfl, rfl, hH⟩ := m_enter hv
  have hC : jC p s m _ meth c cX8_pour 6 RX8 := hC
  have hx := hC.1.1
  have hb := hC.1.2.1
  have hown := hC.1.2.2.2.1
  have hts := hC.1.2.2.2.2
  have hl := lv_entry ([.ref (B 0), .int x1]) (n := 6) (Nat.le_of_ble_eq_true rfl)
  rw [lg_entry_eq]
  generalize (lg_sl ([.ref (B 0), .int x1]) ++ List.replicate (6 - (lg_sl ([.ref (B 0), .int x1])).length) Slot.unset).toArray = ls at hl ⊢
  have hl : lv_has ls 6 [(0, .ref (B 0)), (1, .int x1)] := hl
  unfold fM_pour at h
  refine W_nm (fun H locs eH eL => ?_)
  have hH : mH D cI B s (va_A (mW B cI μ0) s.heap.size) μ0 H locs := by rw [eH, eL]; exact hH
  show W p l e rmM_pour s m _ below meth c H locs 0 0 _ (F0 m 0 ls [])
  refine lv_iload_n hx hb dX8_pour_0 rfl (lv_at hl 1 rfl) ?_
  obtain ⟨r2, h1, h⟩ := ob_some h
  refine m_calls (As := [.int x1]) (rest := []) (cM_isSheet l D cI B μ0 x1 h1) hC hH hl (va_cwS 1 hts (gS wmX8_297 wsX8_isSheet) rfl rfl rfl hdX8_isSheet ⟨Nat.le_of_ble_eq_true rfl, Nat.le_of_ble_eq_true rfl⟩) rfl rfl (Nat.le_of_ble_eq_true rfl) ⟨Nat.zero_le _, Nat.zero_le _⟩ dX8_pour_1 (fun H locs hH => ?_)
  refine lv_if_ne (tgt := 10) hx hb dX8_pour_4 (by decide) (fun c3 => ?_) (fun c3 => ?_)
  · have h := ite_f c3 h
    refine lv_aload_n hx hb dX8_pour_10 rfl (lv_at hl 0 rfl) ?_
    refine m_get hC hH 4 (by decide) wfX8_19 rfl rfl dX8_pour_11 ?_
    refine lv_iload_n hx hb dX8_pour_14 rfl (lv_at hl 1 rfl) ?_
    obtain ⟨i4, h⟩ := ck_some h
    refine m_ald hC hH (a := 5) rfl rfl i4 dX8_pour_15 ?_
    refine lv_if_ge (tgt := 23) hx hb dX8_pour_16 (by decide) (fun c5 => ?_) (fun c5 => ?_)
    · have h := ite_t c5 h
      refine lv_iconst (v := 0) hx hb dX8_pour_23 (by decide) ?_
      refine lv_istore_n (lv' := [(2, .int (0 : Int32)), (0, .ref (B 0)), (1, .int x1)]) hx hb dX8_pour_24 rfl hl (by decide) rfl (fun ls hl => ?_)
      refine lv_iconst (v := 0) hx hb dX8_pour_25 (by decide) ?_
      refine lv_istore_n (lv' := [(3, .int (0 : Int32)), (2, .int (0 : Int32)), (0, .ref (B 0)), (1, .int x1)]) hx hb dX8_pour_26 rfl hl (by decide) rfl (fun ls hl => ?_)
      refine wM_pour_L27 hC hr  ?_ 10000 x1 (0 : Int32) (0 : Int32) μ0 H locs ls  hH (lv_sub hl [2, 3, 1, 0] rfl) h
      intro x2 μ H locs ls  hH hl h
      refine lv_iload_n hx hb dX8_pour_125 rfl (lv_at hl 0 rfl) ?_
      obtain ⟨rfl, rfl⟩ := some_i2 h
      exact m_iret hC hH hr rfl dX8_pour_126
    · have h := ite_f c5 h
      refine lv_ldcw (v := -1000000011) hx hb hown (hts _ wkX8_303) dX8_pour_19 ?_
      obtain ⟨rfl, rfl⟩ := some_i2 h
      exact m_iret (v := -1000000011) hC hH hr rfl dX8_pour_22
  · have h := ite_t c3 h
    refine lv_ldc (v := -1000000001) hx hb hown (hts _ wkX8_90) dX8_pour_7 ?_
    obtain ⟨rfl, rfl⟩ := some_i2 h
    exact m_iret (v := -1000000001) hC hH hr rfl dX8_pour_9

def rmM_reads : Room := { frames := 2, cells := 0, slots := 0, locals := 45 }
theorem hdX8_reads : yX8_reads.cls = RX8 ∧ yX8_reads.cls ≠ "java/lang/invoke/MethodHandle" ∧ yX8_reads.cls ≠ "java/lang/invoke/VarHandle" ∧ (parseMethodDescriptor yX8_reads.desc).map (fun d => d.parameters.length) = some 1 := by decide +kernel

def fM_reads_L25 (μ0 : MS) (k84 : Option (Int32)) : Nat → Int32 → Int32 → Option (Int32)
  | 0, _, _ => none
  | n + 1, x1, x2 =>
    ck x1 (4) <|
    if (μ0 6 (x1).toNatClampNeg) ≤ x2 then (
      k84)
    else (
      ck (((24 : Int32) * x1) + x2) (96) <|
      bnd (μ0 7 ((((24 : Int32) * x1) + x2)).toNatClampNeg) fun v9 =>
      if v9 = (-1000000005 : Int32) then (
        bnd (x2 + (1 : Int32)) fun v12 =>
        (fM_reads_L25 μ0 k84 n) x1 v12)
      else (
        if (μ0 1 0) ≤ x2 then (
          some x2)
        else (
          ck ((6 : Int32) + x2) (3076) <|
          if v9 = (μ0 1 (((6 : Int32) + x2)).toNatClampNeg) then (
            bnd (x2 + (1 : Int32)) fun v17 =>
            (fM_reads_L25 μ0 k84 n) x1 v17)
          else (
            some x2))))

set_option maxHeartbeats 4000000 in
set_option maxRecDepth 100000 in
theorem wM_reads_L25 {p : Program} {l : Launch} {e : Env} {s : State} {m : MethodId} {args : Array Value} {below : List Frame} {meth : Method} {c : Code} {D : va_G} {cI : ClassId} {B : Nat → Nat} {μ0 : MS} {r : Int32} (hC : jC p s m args meth c cX8_reads 4 RX8) (hr : meth.sig.returnType = some .int) {k84 : Option (Int32)} (hk84 : ∀ (H : Heap) (locs : List Loc) (ls : Array Slot), mH D cI B s (va_A (mW B cI μ0) s.heap.size) μ0 H locs → lv_has ls 4 [] → k84 = some r → W p l e rmM_reads s m args below meth c H locs 0 0 (MQ below (mQi D cI B μ0 s.heap.size μ0 r) args s 0 0 (va_A (mW B cI μ0) s.heap.size)) (F0 m 84 ls [])) : ∀ (n : Nat) (x1 : Int32) (x2 : Int32) (H : Heap) (locs : List Loc) (ls : Array Slot), mH D cI B s (va_A (mW B cI μ0) s.heap.size) μ0 H locs → lv_has ls 4 [(0, .ref (B 0)), (1, .int x1), (2, .int x2)] → fM_reads_L25 μ0 k84 n x1 x2 = some r → W p l e rmM_reads s m args below meth c H locs 0 0 (MQ below (mQi D cI B μ0 s.heap.size μ0 r) args s 0 0 (va_A (mW B cI μ0) s.heap.size)) (F0 m 25 ls []) := by
  have hx := hC.1.1
  have hb := hC.1.2.1
  have hown := hC.1.2.2.2.1
  have hts := hC.1.2.2.2.2
  intro n
  induction n with
  | zero =>
    intro x1 x2 H locs ls  hH hl h
    rw [fM_reads_L25] at h
    cases h
  | succ n ih =>
    intro x1 x2 H locs ls  hH hl h
    rw [fM_reads_L25] at h
    refine lv_iload_n hx hb dX8_reads_25 rfl (lv_at hl 2 rfl) ?_
    refine lv_aload_n hx hb dX8_reads_26 rfl (lv_at hl 0 rfl) ?_
    refine m_get hC hH 5 (by decide) wfX8_22 rfl rfl dX8_reads_27 ?_
    refine lv_iload_n hx hb dX8_reads_30 rfl (lv_at hl 1 rfl) ?_
    obtain ⟨i6, h⟩ := ck_some h
    refine m_ald hC hH (a := 6) rfl rfl i6 dX8_reads_31 ?_
    refine lv_icmp_ge (tgt := 84) hx hb dX8_reads_32 (by decide) (fun c7 => ?_) (fun c7 => ?_)
    · have h := ite_t c7 h
      exact hk84  H locs ls  hH (lv_sub hl [] rfl) h
    · have h := ite_f c7 h
      refine lv_aload_n hx hb dX8_reads_35 rfl (lv_at hl 0 rfl) ?_
      refine m_get hC hH 6 (by decide) wfX8_25 rfl rfl dX8_reads_36 ?_
      refine lv_bipush (v := 24) hx hb dX8_reads_39 (by decide) ?_
      refine lv_iload_n hx hb dX8_reads_41 rfl (lv_at hl 1 rfl) ?_
      refine lv_imul hx hb dX8_reads_42 ?_
      refine lv_iload_n hx hb dX8_reads_43 rfl (lv_at hl 2 rfl) ?_
      refine lv_iadd hx hb dX8_reads_44 ?_
      obtain ⟨i8, h⟩ := ck_some h
      refine m_ald hC hH (a := 7) rfl rfl i8 dX8_reads_45 ?_
      obtain ⟨v9, e10, h⟩ := bnd_some h
      refine lv_tope e10 ?_
      refine lv_istore_n (lv' := [(3, .int v9), (0, .ref (B 0)), (1, .int x1), (2, .int x2)]) hx hb dX8_reads_46 rfl hl (by decide) rfl (fun ls hl => ?_)
      refine lv_iload_n hx hb dX8_reads_47 rfl (lv_at hl 0 rfl) ?_
      refine lv_ldc (v := -1000000005) hx hb hown (hts _ wkX8_74) dX8_reads_48 ?_
      refine lv_icmp_eq (tgt := 78) hx hb dX8_reads_50 (by decide) (fun c11 => ?_) (fun c11 => ?_)
      · have h := ite_t c11 h
        obtain ⟨v12, e13, h⟩ := bnd_some h
        refine lv_iinc (v := v12) (lv' := [(2, .int v12), (3, .int v9), (0, .ref (B 0)), (1, .int x1)]) hx hb dX8_reads_78 hl (k := 3) rfl (by rw [e13]; rfl) (by decide) rfl (fun ls hl => ?_)
        refine lv_goto (tgt := 25) hx hb dX8_reads_81 (by decide) ?_
        exact ih x1 v12 H locs ls  hH (lv_sub hl [2, 3, 0] rfl) h
      · have h := ite_f c11 h
        refine lv_iload_n hx hb dX8_reads_53 rfl (lv_at hl 3 rfl) ?_
        refine lv_aload_n hx hb dX8_reads_54 rfl (lv_at hl 1 rfl) ?_
        refine m_get hC hH 0 (by decide) wfX8_7 rfl rfl dX8_reads_55 ?_
        refine lv_iconst (v := 0) hx hb dX8_reads_58 (by decide) ?_
        refine m_ald hC hH (a := 1) rfl rfl (vp_b rfl) dX8_reads_59 ?_
        refine lv_icmp_ge (tgt := 76) hx hb dX8_reads_60 (by decide) (fun c14 => ?_) (fun c14 => ?_)
        · have h := ite_t c14 h
          refine lv_iload_n hx hb dX8_reads_76 rfl (lv_at hl 3 rfl) ?_
          obtain rfl := some_i1 h
          exact m_iret hC hH hr rfl dX8_reads_77
        · have h := ite_f c14 h
          refine lv_iload_n hx hb dX8_reads_63 rfl (lv_at hl 0 rfl) ?_
          refine lv_aload_n hx hb dX8_reads_64 rfl (lv_at hl 1 rfl) ?_
          refine m_get hC hH 0 (by decide) wfX8_7 rfl rfl dX8_reads_65 ?_
          refine lv_bipush (v := 6) hx hb dX8_reads_68 (by decide) ?_
          refine lv_iload_n hx hb dX8_reads_70 rfl (lv_at hl 3 rfl) ?_
          refine lv_iadd hx hb dX8_reads_71 ?_
          obtain ⟨i15, h⟩ := ck_some h
          refine m_ald hC hH (a := 1) rfl rfl i15 dX8_reads_72 ?_
          refine lv_icmp_eq (tgt := 78) hx hb dX8_reads_73 (by decide) (fun c16 => ?_) (fun c16 => ?_)
          · have h := ite_t c16 h
            obtain ⟨v17, e18, h⟩ := bnd_some h
            refine lv_iinc (v := v17) (lv' := [(2, .int v17), (3, .int v9), (0, .ref (B 0)), (1, .int x1)]) hx hb dX8_reads_78 hl (k := 3) rfl (by rw [e18]; rfl) (by decide) rfl (fun ls hl => ?_)
            refine lv_goto (tgt := 25) hx hb dX8_reads_81 (by decide) ?_
            exact ih x1 v17 H locs ls  hH (lv_sub hl [2, 3, 0] rfl) h
          · have h := ite_f c16 h
            refine lv_iload_n hx hb dX8_reads_76 rfl (lv_at hl 3 rfl) ?_
            obtain rfl := some_i1 h
            exact m_iret hC hH hr rfl dX8_reads_77

def fM_reads (μ0 : MS) (x1 : Int32) : Option (Int32) :=
  ob (fM_isSheet μ0 x1) fun r2 =>
  if r2 = 0 then (
    some (-1000000001 : Int32))
  else (
    ck x1 (4) <|
    if 0 ≤ (μ0 5 (x1).toNatClampNeg) then (
      fM_reads_L25 μ0 (some (-1000000005 : Int32)) 10000 x1 (0 : Int32))
    else (
      some (-1000000011 : Int32)))

set_option maxHeartbeats 4000000 in
set_option maxRecDepth 100000 in
theorem cM_reads (l : Launch) (D : va_G) (cI : ClassId) (B : Nat → Nat) (μ0 : MS) (x1 : Int32) {r : Int32} (h : fM_reads μ0 x1 = some r) : ∀ sz, Met l yX8_reads (Cond.code yX8_reads cX8_reads 4 (some .int) :: Tw) rmM_reads (mP D cI B μ0 sz [.ref (B 0), .int x1]) (mQi D cI B μ0 sz μ0 r) 0 0 (va_A (mW B cI μ0) sz) := by
  intro sz
  refine Met.ofW (cc := cX8_reads) (maxL := 4) (ret := (some .int)) (by decide) rfl ?_
  intro p e s m args below meth c s₁ Bd hml hv
  obtain ⟨hC, hr⟩ := jC_of Bd hml
  obtain ⟨rfl, rfl, hH⟩ := m_enter hv
  have hC : jC p s m _ meth c cX8_reads 4 RX8 := hC
  have hx := hC.1.1
  have hb := hC.1.2.1
  have hown := hC.1.2.2.2.1
  have hts := hC.1.2.2.2.2
  have hl := lv_entry ([.ref (B 0), .int x1]) (n := 4) (Nat.le_of_ble_eq_true rfl)
  rw [lg_entry_eq]
  generalize (lg_sl ([.ref (B 0), .int x1]) ++ List.replicate (4 - (lg_sl ([.ref (B 0), .int x1])).length) Slot.unset).toArray = ls at hl ⊢
  have hl : lv_has ls 4 [(0, .ref (B 0)), (1, .int x1)] := hl
  unfold fM_reads at h
  refine W_nm (fun H locs eH eL => ?_)
  have hH : mH D cI B s (va_A (mW B cI μ0) s.heap.size) μ0 H locs := by rw [eH, eL]; exact hH
  show W p l e rmM_reads s m _ below meth c H locs 0 0 _ (F0 m 0 ls [])
  refine lv_iload_n hx hb dX8_reads_0 rfl (lv_at hl 1 rfl) ?_
  obtain ⟨r2, h1, h⟩ := ob_some h
  refine m_calls (As := [.int x1]) (rest := []) (cM_isSheet l D cI B μ0 x1 h1) hC hH hl (va_cwS 1 hts (gS wmX8_297 wsX8_isSheet) rfl rfl rfl hdX8_isSheet ⟨Nat.le_of_ble_eq_true rfl, Nat.le_of_ble_eq_true rfl⟩) rfl rfl (Nat.le_of_ble_eq_true rfl) ⟨Nat.zero_le _, Nat.zero_le _⟩ dX8_reads_1 (fun H locs hH => ?_)
  refine lv_if_ne (tgt := 10) hx hb dX8_reads_4 (by decide) (fun c3 => ?_) (fun c3 => ?_)
  · have h := ite_f c3 h
    refine lv_aload_n hx hb dX8_reads_10 rfl (lv_at hl 0 rfl) ?_
    refine m_get hC hH 4 (by decide) wfX8_19 rfl rfl dX8_reads_11 ?_
    refine lv_iload_n hx hb dX8_reads_14 rfl (lv_at hl 1 rfl) ?_
    obtain ⟨i4, h⟩ := ck_some h
    refine m_ald hC hH (a := 5) rfl rfl i4 dX8_reads_15 ?_
    refine lv_if_ge (tgt := 23) hx hb dX8_reads_16 (by decide) (fun c5 => ?_) (fun c5 => ?_)
    · have h := ite_t c5 h
      refine lv_iconst (v := 0) hx hb dX8_reads_23 (by decide) ?_
      refine lv_istore_n (lv' := [(2, .int (0 : Int32)), (0, .ref (B 0)), (1, .int x1)]) hx hb dX8_reads_24 rfl hl (by decide) rfl (fun ls hl => ?_)
      refine wM_reads_L25 hC hr  ?_ 10000 x1 (0 : Int32) H locs ls  hH (lv_sub hl [1, 2, 0] rfl) h
      intro  H locs ls  hH hl h
      refine lv_ldc (v := -1000000005) hx hb hown (hts _ wkX8_74) dX8_reads_84 ?_
      obtain rfl := some_i1 h
      exact m_iret (v := -1000000005) hC hH hr rfl dX8_reads_86
    · have h := ite_f c5 h
      refine lv_ldcw (v := -1000000011) hx hb hown (hts _ wkX8_303) dX8_reads_19 ?_
      obtain rfl := some_i1 h
      exact m_iret (v := -1000000011) hC hH hr rfl dX8_reads_22
  · have h := ite_t c3 h
    refine lv_ldc (v := -1000000001) hx hb hown (hts _ wkX8_90) dX8_reads_7 ?_
    obtain rfl := some_i1 h
    exact m_iret (v := -1000000001) hC hH hr rfl dX8_reads_9

def rmM_miles : Room := { frames := 6, cells := 0, slots := 0, locals := 140 }
theorem hdX8_miles : yX8_miles.cls = RX8 ∧ yX8_miles.cls ≠ "java/lang/invoke/MethodHandle" ∧ yX8_miles.cls ≠ "java/lang/invoke/VarHandle" ∧ (parseMethodDescriptor yX8_miles.desc).map (fun d => d.parameters.length) = some 2 := by decide +kernel

def fM_miles_L58 (k131 : Int32 → Int32 → Int32 → Int32 → Int32 → Int32 → MS → Option (Int32 × MS)) : Nat → Int32 → Int32 → Int32 → Int32 → Int32 → Int32 → Int32 → MS → Option (Int32 × MS)
  | 0, _, _, _, _, _, _, _, _ => none
  | n + 1, x1, x2, x3, x4, x5, x6, x7, μ =>
    ck x1 (4) <|
    if (μ 6 (x1).toNatClampNeg) ≤ x7 then (
      k131 x1 x2 x3 x4 x5 x6 μ)
    else (
      ck (((24 : Int32) * x1) + x7) (96) <|
      bnd (μ 7 ((((24 : Int32) * x1) + x7)).toNatClampNeg) fun v15 =>
      if v15 = (-1000000005 : Int32) then (
        bnd (x6 + (0 : Int32)) fun v33 =>
        bnd (x7 + (1 : Int32)) fun v35 =>
        (fM_miles_L58 k131 n) x1 x2 x3 x4 x5 v33 v35 μ)
      else (
        if (μ 1 0) ≤ x7 then (
          ob (fM_off μ v15 (0 : Int32)) fun r20 =>
          bnd (x6 + r20) fun v21 =>
          bnd (x7 + (1 : Int32)) fun v23 =>
          (fM_miles_L58 k131 n) x1 x2 x3 x4 x5 v21 v23 μ)
        else (
          ob (fM_townAt μ x7) fun r26 =>
          ob (fM_off μ v15 r26) fun r28 =>
          bnd (x6 + r28) fun v29 =>
          bnd (x7 + (1 : Int32)) fun v31 =>
          (fM_miles_L58 k131 n) x1 x2 x3 x4 x5 v29 v31 μ)))

set_option maxHeartbeats 4000000 in
set_option maxRecDepth 100000 in
theorem wM_miles_L58 {p : Program} {l : Launch} {e : Env} {s : State} {m : MethodId} {args : Array Value} {below : List Frame} {meth : Method} {c : Code} {D : va_G} {cI : ClassId} {B : Nat → Nat} {μ0 : MS} {r : Int32} {μr : MS} (hC : jC p s m args meth c cX8_miles 9 RX8) (hr : meth.sig.returnType = some .int) {k131 : Int32 → Int32 → Int32 → Int32 → Int32 → Int32 → MS → Option (Int32 × MS)} (hk131 : ∀ (x1 : Int32) (x2 : Int32) (x3 : Int32) (x4 : Int32) (x5 : Int32) (x6 : Int32) (μ : MS) (H : Heap) (locs : List Loc) (ls : Array Slot), mH D cI B s (va_A (mW B cI μ0) s.heap.size) μ H locs → lv_has ls 9 [(0, .ref (B 0)), (1, .int x1), (2, .int x2), (3, .int x3), (4, .int x4), (5, .int x5), (6, .int x6)] → k131 x1 x2 x3 x4 x5 x6 μ = some (r, μr) → W p l e rmM_miles s m args below meth c H locs 0 0 (MQ below (mQi D cI B μ0 s.heap.size μr r) args s 0 0 (va_A (mW B cI μ0) s.heap.size)) (F0 m 131 ls [])) : ∀ (n : Nat) (x1 : Int32) (x2 : Int32) (x3 : Int32) (x4 : Int32) (x5 : Int32) (x6 : Int32) (x7 : Int32) (μ : MS) (H : Heap) (locs : List Loc) (ls : Array Slot), mH D cI B s (va_A (mW B cI μ0) s.heap.size) μ H locs → lv_has ls 9 [(0, .ref (B 0)), (1, .int x1), (2, .int x2), (3, .int x3), (4, .int x4), (5, .int x5), (6, .int x6), (7, .int x7)] → fM_miles_L58 k131 n x1 x2 x3 x4 x5 x6 x7 μ = some (r, μr) → W p l e rmM_miles s m args below meth c H locs 0 0 (MQ below (mQi D cI B μ0 s.heap.size μr r) args s 0 0 (va_A (mW B cI μ0) s.heap.size)) (F0 m 58 ls []) := by
  have hx := hC.1.1
  have hb := hC.1.2.1
  have hown := hC.1.2.2.2.1
  have hts := hC.1.2.2.2.2
  intro n
  induction n with
  | zero =>
    intro x1 x2 x3 x4 x5 x6 x7 μ H locs ls  hH hl h
    rw [fM_miles_L58] at h
    cases h
  | succ n ih =>
    intro x1 x2 x3 x4 x5 x6 x7 μ H locs ls  hH hl h
    rw [fM_miles_L58] at h
    refine lv_iload hx hb dX8_miles_58 (lv_at hl 7 rfl) ?_
    refine lv_aload_n hx hb dX8_miles_60 rfl (lv_at hl 0 rfl) ?_
    refine m_get hC hH 5 (by decide) wfX8_22 rfl rfl dX8_miles_61 ?_
    refine lv_iload_n hx hb dX8_miles_64 rfl (lv_at hl 1 rfl) ?_
    obtain ⟨i12, h⟩ := ck_some h
    refine m_ald hC hH (a := 6) rfl rfl i12 dX8_miles_65 ?_
    refine lv_icmp_ge (tgt := 131) hx hb dX8_miles_66 (by decide) (fun c13 => ?_) (fun c13 => ?_)
    · have h := ite_t c13 h
      exact hk131 x1 x2 x3 x4 x5 x6 μ H locs ls  hH (lv_sub hl [0, 1, 2, 3, 4, 5, 6] rfl) h
    · have h := ite_f c13 h
      refine lv_aload_n hx hb dX8_miles_69 rfl (lv_at hl 0 rfl) ?_
      refine m_get hC hH 6 (by decide) wfX8_25 rfl rfl dX8_miles_70 ?_
      refine lv_bipush (v := 24) hx hb dX8_miles_73 (by decide) ?_
      refine lv_iload_n hx hb dX8_miles_75 rfl (lv_at hl 1 rfl) ?_
      refine lv_imul hx hb dX8_miles_76 ?_
      refine lv_iload hx hb dX8_miles_77 (lv_at hl 7 rfl) ?_
      refine lv_iadd hx hb dX8_miles_79 ?_
      obtain ⟨i14, h⟩ := ck_some h
      refine m_ald hC hH (a := 7) rfl rfl i14 dX8_miles_80 ?_
      obtain ⟨v15, e16, h⟩ := bnd_some h
      refine lv_tope e16 ?_
      refine lv_istore (lv' := [(8, .int v15), (0, .ref (B 0)), (1, .int x1), (2, .int x2), (3, .int x3), (4, .int x4), (5, .int x5), (6, .int x6), (7, .int x7)]) hx hb dX8_miles_81 hl (by decide) rfl (fun ls hl => ?_)
      refine lv_iload hx hb dX8_miles_83 (lv_at hl 7 rfl) ?_
      refine lv_iload hx hb dX8_miles_85 (lv_at hl 0 rfl) ?_
      refine lv_ldc (v := -1000000005) hx hb hown (hts _ wkX8_74) dX8_miles_87 ?_
      refine lv_icmp_ne (tgt := 96) hx hb dX8_miles_89 (by decide) (fun c17 => ?_) (fun c17 => ?_)
      · have h := ite_f c17 h
        refine lv_iload hx hb dX8_miles_96 (lv_at hl 0 rfl) ?_
        refine lv_iload hx hb dX8_miles_98 (lv_at hl 8 rfl) ?_
        refine lv_aload_n hx hb dX8_miles_100 rfl (lv_at hl 1 rfl) ?_
        refine m_get hC hH 0 (by decide) wfX8_7 rfl rfl dX8_miles_101 ?_
        refine lv_iconst (v := 0) hx hb dX8_miles_104 (by decide) ?_
        refine m_ald hC hH (a := 1) rfl rfl (vp_b rfl) dX8_miles_105 ?_
        refine lv_icmp_ge (tgt := 118) hx hb dX8_miles_106 (by decide) (fun c18 => ?_) (fun c18 => ?_)
        · have h := ite_t c18 h
          refine lv_iconst (v := 0) hx hb dX8_miles_118 (by decide) ?_
          obtain ⟨r20, h19, h⟩ := ob_some h
          refine m_calls (As := [.int v15, .int (0 : Int32)]) (rest := [.int x6]) (cM_off l D cI B μ v15 (0 : Int32) h19) hC hH hl (va_cwS 2 hts (gS wmX8_192 wsX8_off) rfl rfl rfl hdX8_off ⟨Nat.le_of_ble_eq_true rfl, Nat.le_of_ble_eq_true rfl⟩) rfl rfl (Nat.le_of_ble_eq_true rfl) ⟨Nat.zero_le _, Nat.zero_le _⟩ dX8_miles_119 (fun H locs hH => ?_)
          refine lv_iadd hx hb dX8_miles_122 ?_
          obtain ⟨v21, e22, h⟩ := bnd_some h
          refine lv_tope e22 ?_
          refine lv_istore (lv' := [(6, .int v21), (8, .int v15), (0, .ref (B 0)), (1, .int x1), (2, .int x2), (3, .int x3), (4, .int x4), (5, .int x5), (7, .int x7)]) hx hb dX8_miles_123 hl (by decide) rfl (fun ls hl => ?_)
          obtain ⟨v23, e24, h⟩ := bnd_some h
          refine lv_iinc (v := v23) (lv' := [(7, .int v23), (6, .int v21), (8, .int v15), (0, .ref (B 0)), (1, .int x1), (2, .int x2), (3, .int x3), (4, .int x4), (5, .int x5)]) hx hb dX8_miles_125 hl (k := 8) rfl (by rw [e24]; rfl) (by decide) rfl (fun ls hl => ?_)
          refine lv_goto (tgt := 58) hx hb dX8_miles_128 (by decide) ?_
          exact ih x1 x2 x3 x4 x5 v21 v23 μ H locs ls  hH (lv_sub hl [3, 4, 5, 6, 7, 8, 1, 0] rfl) h
        · have h := ite_f c18 h
          refine lv_aload_n hx hb dX8_miles_109 rfl (lv_at hl 1 rfl) ?_
          refine lv_iload hx hb dX8_miles_110 (lv_at hl 8 rfl) ?_
          obtain ⟨r26, h25, h⟩ := ob_some h
          refine m_calli (As := [.int x7]) (rest := [.int v15, .int x6]) (cM_townAt l D cI B μ x7 h25) hC hH hl (cwV 1 hts (gV wmX8_162 wvX8_townAt) rfl rfl rfl hdX8_townAt ⟨Nat.le_of_ble_eq_true rfl, Nat.le_of_ble_eq_true rfl⟩) rfl rfl (Nat.le_of_ble_eq_true rfl) ⟨Nat.zero_le _, Nat.zero_le _⟩ dX8_miles_112 (fun H locs hH => ?_)
          refine lv_goto (tgt := 119) hx hb dX8_miles_115 (by decide) ?_
          obtain ⟨r28, h27, h⟩ := ob_some h
          refine m_calls (As := [.int v15, .int r26]) (rest := [.int x6]) (cM_off l D cI B μ v15 r26 h27) hC hH hl (va_cwS 2 hts (gS wmX8_192 wsX8_off) rfl rfl rfl hdX8_off ⟨Nat.le_of_ble_eq_true rfl, Nat.le_of_ble_eq_true rfl⟩) rfl rfl (Nat.le_of_ble_eq_true rfl) ⟨Nat.zero_le _, Nat.zero_le _⟩ dX8_miles_119 (fun H locs hH => ?_)
          refine lv_iadd hx hb dX8_miles_122 ?_
          obtain ⟨v29, e30, h⟩ := bnd_some h
          refine lv_tope e30 ?_
          refine lv_istore (lv' := [(6, .int v29), (8, .int v15), (0, .ref (B 0)), (1, .int x1), (2, .int x2), (3, .int x3), (4, .int x4), (5, .int x5), (7, .int x7)]) hx hb dX8_miles_123 hl (by decide) rfl (fun ls hl => ?_)
          obtain ⟨v31, e32, h⟩ := bnd_some h
          refine lv_iinc (v := v31) (lv' := [(7, .int v31), (6, .int v29), (8, .int v15), (0, .ref (B 0)), (1, .int x1), (2, .int x2), (3, .int x3), (4, .int x4), (5, .int x5)]) hx hb dX8_miles_125 hl (k := 8) rfl (by rw [e32]; rfl) (by decide) rfl (fun ls hl => ?_)
          refine lv_goto (tgt := 58) hx hb dX8_miles_128 (by decide) ?_
          exact ih x1 x2 x3 x4 x5 v29 v31 μ H locs ls  hH (lv_sub hl [3, 4, 5, 6, 7, 8, 1, 0] rfl) h
      · have h := ite_t c17 h
        refine lv_iconst (v := 0) hx hb dX8_miles_92 (by decide) ?_
        refine lv_goto (tgt := 122) hx hb dX8_miles_93 (by decide) ?_
        refine lv_iadd hx hb dX8_miles_122 ?_
        obtain ⟨v33, e34, h⟩ := bnd_some h
        refine lv_tope e34 ?_
        refine lv_istore (lv' := [(6, .int v33), (8, .int v15), (0, .ref (B 0)), (1, .int x1), (2, .int x2), (3, .int x3), (4, .int x4), (5, .int x5), (7, .int x7)]) hx hb dX8_miles_123 hl (by decide) rfl (fun ls hl => ?_)
        obtain ⟨v35, e36, h⟩ := bnd_some h
        refine lv_iinc (v := v35) (lv' := [(7, .int v35), (6, .int v33), (8, .int v15), (0, .ref (B 0)), (1, .int x1), (2, .int x2), (3, .int x3), (4, .int x4), (5, .int x5)]) hx hb dX8_miles_125 hl (k := 8) rfl (by rw [e36]; rfl) (by decide) rfl (fun ls hl => ?_)
        refine lv_goto (tgt := 58) hx hb dX8_miles_128 (by decide) ?_
        exact ih x1 x2 x3 x4 x5 v33 v35 μ H locs ls  hH (lv_sub hl [3, 4, 5, 6, 7, 8, 1, 0] rfl) h

def fM_miles_J142 (k45 : Int32 → Int32 → Int32 → Int32 → Int32 → MS → Option (Int32 × MS)) (x1 : Int32) (x2 : Int32) (x5 : Int32) (x6 : Int32) (μ : MS) : Option (Int32 × MS) :=
  ob (fM_goesOn μ) fun μ39 =>
  bnd (x5 + (1 : Int32)) fun v40 =>
  k45 x1 x2 x5 x6 v40 μ39

set_option maxHeartbeats 4000000 in
set_option maxRecDepth 100000 in
theorem wM_miles_J142 {p : Program} {l : Launch} {e : Env} {s : State} {m : MethodId} {args : Array Value} {below : List Frame} {meth : Method} {c : Code} {D : va_G} {cI : ClassId} {B : Nat → Nat} {μ0 : MS} {r : Int32} {μr : MS} (hC : jC p s m args meth c cX8_miles 9 RX8) (hr : meth.sig.returnType = some .int) {k45 : Int32 → Int32 → Int32 → Int32 → Int32 → MS → Option (Int32 × MS)} (hk45 : ∀ (x1 : Int32) (x2 : Int32) (x3 : Int32) (x4 : Int32) (x5 : Int32) (μ : MS) (H : Heap) (locs : List Loc) (ls : Array Slot), mH D cI B s (va_A (mW B cI μ0) s.heap.size) μ H locs → lv_has ls 9 [(0, .ref (B 0)), (1, .int x1), (2, .int x2), (3, .int x3), (4, .int x4), (5, .int x5)] → k45 x1 x2 x3 x4 x5 μ = some (r, μr) → W p l e rmM_miles s m args below meth c H locs 0 0 (MQ below (mQi D cI B μ0 s.heap.size μr r) args s 0 0 (va_A (mW B cI μ0) s.heap.size)) (F0 m 45 ls [])) (x1 : Int32) (x2 : Int32) (x5 : Int32) (x6 : Int32) (μ : MS) (H : Heap) (locs : List Loc) (ls : Array Slot) (hH : mH D cI B s (va_A (mW B cI μ0) s.heap.size) μ H locs) (hl : lv_has ls 9 [(0, .ref (B 0)), (1, .int x1), (2, .int x2), (5, .int x5), (6, .int x6)]) (h : fM_miles_J142 k45 x1 x2 x5 x6 μ = some (r, μr)) : W p l e rmM_miles s m args below meth c H locs 0 0 (MQ below (mQi D cI B μ0 s.heap.size μr r) args s 0 0 (va_A (mW B cI μ0) s.heap.size)) (F0 m 142 ls []) := by
  have hx := hC.1.1
  have hb := hC.1.2.1
  have hown := hC.1.2.2.2.1
  have hts := hC.1.2.2.2.2
  unfold fM_miles_J142 at h
  refine lv_iload hx hb dX8_miles_142 (lv_at hl 3 rfl) ?_
  refine lv_istore_n (lv' := [(3, .int x5), (0, .ref (B 0)), (1, .int x1), (2, .int x2), (5, .int x5), (6, .int x6)]) hx hb dX8_miles_144 rfl hl (by decide) rfl (fun ls hl => ?_)
  refine lv_iload hx hb dX8_miles_145 (lv_at hl 5 rfl) ?_
  refine lv_istore (lv' := [(4, .int x6), (3, .int x5), (0, .ref (B 0)), (1, .int x1), (2, .int x2), (5, .int x5), (6, .int x6)]) hx hb dX8_miles_147 hl (by decide) rfl (fun ls hl => ?_)
  refine lv_aload_n hx hb dX8_miles_149 rfl (lv_at hl 2 rfl) ?_
  obtain ⟨μ39, h38, h⟩ := ob_some h
  refine m_callv (As := []) (rest := []) (cM_goesOn l D cI B μ  h38) hC hH hl (cwV 0 hts (gV wmX8_159 wvX8_goesOn) rfl rfl rfl hdX8_goesOn ⟨Nat.le_of_ble_eq_true rfl, Nat.le_of_ble_eq_true rfl⟩) rfl rfl (Nat.le_of_ble_eq_true rfl) ⟨Nat.zero_le _, Nat.zero_le _⟩ dX8_miles_150 (fun H locs hH => ?_)
  obtain ⟨v40, e41, h⟩ := bnd_some h
  refine lv_iinc (v := v40) (lv' := [(5, .int v40), (4, .int x6), (3, .int x5), (0, .ref (B 0)), (1, .int x1), (2, .int x2), (6, .int x6)]) hx hb dX8_miles_153 hl (k := 5) rfl (by rw [e41]; rfl) (by decide) rfl (fun ls hl => ?_)
  refine lv_goto (tgt := 45) hx hb dX8_miles_156 (by decide) ?_
  exact hk45 x1 x2 x5 x6 v40 μ39 H locs ls  hH (lv_sub hl [3, 4, 5, 2, 1, 0] rfl) h

def fM_miles_L45 (k159 : Int32 → Int32 → Int32 → MS → Option (Int32 × MS)) : Nat → Int32 → Int32 → Int32 → Int32 → Int32 → MS → Option (Int32 × MS)
  | 0, _, _, _, _, _, _ => none
  | n + 1, x1, x2, x3, x4, x5, μ =>
    if (60 : Int32) < x5 then (
      k159 x2 x3 x4 μ)
    else (
      fM_miles_L58 (fun (x1 : Int32) (x2 : Int32) (x3 : Int32) (x4 : Int32) (x5 : Int32) (x6 : Int32) (μ : MS) => if x3 < 0 then (
          fM_miles_J142 (fM_miles_L45 k159 n) x1 x2 x5 x6 μ)
        else (
          if x4 ≤ x6 then (
            ob (fM_goesOn μ) fun μ44 =>
            bnd (x5 + (1 : Int32)) fun v45 =>
            (fM_miles_L45 k159 n) x1 x2 x3 x4 v45 μ44)
          else (
            fM_miles_J142 (fM_miles_L45 k159 n) x1 x2 x5 x6 μ))) 10000 x1 x2 x3 x4 x5 (0 : Int32) (0 : Int32) μ)

set_option maxHeartbeats 4000000 in
set_option maxRecDepth 100000 in
theorem wM_miles_L45 {p : Program} {l : Launch} {e : Env} {s : State} {m : MethodId} {args : Array Value} {below : List Frame} {meth : Method} {c : Code} {D : va_G} {cI : ClassId} {B : Nat → Nat} {μ0 : MS} {r : Int32} {μr : MS} (hC : jC p s m args meth c cX8_miles 9 RX8) (hr : meth.sig.returnType = some .int) {k159 : Int32 → Int32 → Int32 → MS → Option (Int32 × MS)} (hk159 : ∀ (x2 : Int32) (x3 : Int32) (x4 : Int32) (μ : MS) (H : Heap) (locs : List Loc) (ls : Array Slot), mH D cI B s (va_A (mW B cI μ0) s.heap.size) μ H locs → lv_has ls 9 [(0, .ref (B 0)), (2, .int x2), (3, .int x3), (4, .int x4)] → k159 x2 x3 x4 μ = some (r, μr) → W p l e rmM_miles s m args below meth c H locs 0 0 (MQ below (mQi D cI B μ0 s.heap.size μr r) args s 0 0 (va_A (mW B cI μ0) s.heap.size)) (F0 m 159 ls [])) : ∀ (n : Nat) (x1 : Int32) (x2 : Int32) (x3 : Int32) (x4 : Int32) (x5 : Int32) (μ : MS) (H : Heap) (locs : List Loc) (ls : Array Slot), mH D cI B s (va_A (mW B cI μ0) s.heap.size) μ H locs → lv_has ls 9 [(0, .ref (B 0)), (1, .int x1), (2, .int x2), (3, .int x3), (4, .int x4), (5, .int x5)] → fM_miles_L45 k159 n x1 x2 x3 x4 x5 μ = some (r, μr) → W p l e rmM_miles s m args below meth c H locs 0 0 (MQ below (mQi D cI B μ0 s.heap.size μr r) args s 0 0 (va_A (mW B cI μ0) s.heap.size)) (F0 m 45 ls []) := by
  have hx := hC.1.1
  have hb := hC.1.2.1
  have hown := hC.1.2.2.2.1
  have hts := hC.1.2.2.2.2
  intro n
  induction n with
  | zero =>
    intro x1 x2 x3 x4 x5 μ H locs ls  hH hl h
    rw [fM_miles_L45] at h
    cases h
  | succ n ih =>
    intro x1 x2 x3 x4 x5 μ H locs ls  hH hl h
    rw [fM_miles_L45] at h
    refine lv_iload hx hb dX8_miles_45 (lv_at hl 5 rfl) ?_
    refine lv_bipush (v := 60) hx hb dX8_miles_47 (by decide) ?_
    refine lv_icmp_gt (tgt := 159) hx hb dX8_miles_49 (by decide) (fun c11 => ?_) (fun c11 => ?_)
    · have h := ite_t c11 h
      exact hk159 x2 x3 x4 μ H locs ls  hH (lv_sub hl [0, 2, 3, 4] rfl) h
    · have h := ite_f c11 h
      refine lv_iconst (v := 0) hx hb dX8_miles_52 (by decide) ?_
      refine lv_istore (lv' := [(6, .int (0 : Int32)), (0, .ref (B 0)), (1, .int x1), (2, .int x2), (3, .int x3), (4, .int x4), (5, .int x5)]) hx hb dX8_miles_53 hl (by decide) rfl (fun ls hl => ?_)
      refine lv_iconst (v := 0) hx hb dX8_miles_55 (by decide) ?_
      refine lv_istore (lv' := [(7, .int (0 : Int32)), (6, .int (0 : Int32)), (0, .ref (B 0)), (1, .int x1), (2, .int x2), (3, .int x3), (4, .int x4), (5, .int x5)]) hx hb dX8_miles_56 hl (by decide) rfl (fun ls hl => ?_)
      refine wM_miles_L58 hC hr  ?_ 10000 x1 x2 x3 x4 x5 (0 : Int32) (0 : Int32) μ H locs ls  hH (lv_sub hl [2, 3, 4, 5, 6, 7, 1, 0] rfl) h
      intro x1 x2 x3 x4 x5 x6 μ H locs ls  hH hl h
      refine lv_iload_n hx hb dX8_miles_131 rfl (lv_at hl 3 rfl) ?_
      refine lv_if_lt (tgt := 142) hx hb dX8_miles_132 (by decide) (fun c37 => ?_) (fun c37 => ?_)
      · have h := ite_t c37 h
        exact wM_miles_J142 hC hr ih x1 x2 x5 x6 μ H locs ls  hH (lv_sub hl [0, 1, 2, 5, 6] rfl) h
      · have h := ite_f c37 h
        refine lv_iload hx hb dX8_miles_135 (lv_at hl 6 rfl) ?_
        refine lv_iload hx hb dX8_miles_137 (lv_at hl 4 rfl) ?_
        refine lv_icmp_ge (tgt := 149) hx hb dX8_miles_139 (by decide) (fun c42 => ?_) (fun c42 => ?_)
        · have h := ite_t c42 h
          refine lv_aload_n hx hb dX8_miles_149 rfl (lv_at hl 0 rfl) ?_
          obtain ⟨μ44, h43, h⟩ := ob_some h
          refine m_callv (As := []) (rest := []) (cM_goesOn l D cI B μ  h43) hC hH hl (cwV 0 hts (gV wmX8_159 wvX8_goesOn) rfl rfl rfl hdX8_goesOn ⟨Nat.le_of_ble_eq_true rfl, Nat.le_of_ble_eq_true rfl⟩) rfl rfl (Nat.le_of_ble_eq_true rfl) ⟨Nat.zero_le _, Nat.zero_le _⟩ dX8_miles_150 (fun H locs hH => ?_)
          obtain ⟨v45, e46, h⟩ := bnd_some h
          refine lv_iinc (v := v45) (lv' := [(5, .int v45), (0, .ref (B 0)), (1, .int x1), (2, .int x2), (3, .int x3), (4, .int x4), (6, .int x6)]) hx hb dX8_miles_153 hl (k := 5) rfl (by rw [e46]; rfl) (by decide) rfl (fun ls hl => ?_)
          refine lv_goto (tgt := 45) hx hb dX8_miles_156 (by decide) ?_
          exact ih x1 x2 x3 x4 v45 μ44 H locs ls  hH (lv_sub hl [1, 2, 3, 4, 5, 0] rfl) h
        · have h := ite_f c42 h
          exact wM_miles_J142 hC hr ih x1 x2 x5 x6 μ H locs ls  hH (lv_sub hl [0, 1, 2, 5, 6] rfl) h

def fM_miles (μ0 : MS) (x1 : Int32) (x2 : Int32) : Option (Int32 × MS) :=
  ob (fM_isSheet μ0 x1) fun r2 =>
  if r2 = 0 then (
    some ((-1000000001 : Int32), μ0))
  else (
    ob (fM_isIn μ0 (x2).toInt64 (0 : Int64) (1 : Int64)) fun r5 =>
    if r5 = 0 then (
      some ((-1000000001 : Int32), μ0))
    else (
      ck x1 (4) <|
      if 0 ≤ (μ0 5 (x1).toNatClampNeg) then (
        ob (fM_laysBy μ0) fun μ10 =>
        fM_miles_L45 (fun (x2 : Int32) (x3 : Int32) (x4 : Int32) (μ : MS) => ob (fM_laysBack μ) fun μ48 =>
          if x2 = 0 then (
            some (x3, μ48))
          else (
            some (x4, μ48))) 10000 x1 x2 (-1 : Int32) (0 : Int32) (0 : Int32) μ10)
      else (
        some ((-1000000011 : Int32), μ0))))

set_option maxHeartbeats 4000000 in
set_option maxRecDepth 100000 in
theorem cM_miles (l : Launch) (D : va_G) (cI : ClassId) (B : Nat → Nat) (μ0 : MS) (x1 : Int32) (x2 : Int32) {r : Int32} {μr : MS} (h : fM_miles μ0 x1 x2 = some (r, μr)) : ∀ sz, Met l yX8_miles (Cond.code yX8_miles cX8_miles 9 (some .int) :: Tw) rmM_miles (mP D cI B μ0 sz [.ref (B 0), .int x1, .int x2]) (mQi D cI B μ0 sz μr r) 0 0 (va_A (mW B cI μ0) sz) := by
  intro sz
  refine Met.ofW (cc := cX8_miles) (maxL := 9) (ret := (some .int)) (by decide) rfl ?_
  intro p e s m args below meth c s₁ Bd hml hv
  obtain ⟨hC, hr⟩ := jC_of Bd hml
  obtain ⟨rfl, rfl, hH⟩ := m_enter hv
  have hC : jC p s m _ meth c cX8_miles 9 RX8 := hC
  have hx := hC.1.1
  have hb := hC.1.2.1
  have hown := hC.1.2.2.2.1
  have hts := hC.1.2.2.2.2
  have hl := lv_entry ([.ref (B 0), .int x1, .int x2]) (n := 9) (Nat.le_of_ble_eq_true rfl)
  rw [lg_entry_eq]
  generalize (lg_sl ([.ref (B 0), .int x1, .int x2]) ++ List.replicate (9 - (lg_sl ([.ref (B 0), .int x1, .int x2])).length) Slot.unset).toArray = ls at hl ⊢
  have hl : lv_has ls 9 [(0, .ref (B 0)), (1, .int x1), (2, .int x2)] := hl
  unfold fM_miles at h
  refine W_nm (fun H locs eH eL => ?_)
  have hH : mH D cI B s (va_A (mW B cI μ0) s.heap.size) μ0 H locs := by rw [eH, eL]; exact hH
  show W p l e rmM_miles s m _ below meth c H locs 0 0 _ (F0 m 0 ls [])
  refine lv_iload_n hx hb dX8_miles_0 rfl (lv_at hl 1 rfl) ?_
  obtain ⟨r2, h1, h⟩ := ob_some h
  refine m_calls (As := [.int x1]) (rest := []) (cM_isSheet l D cI B μ0 x1 h1) hC hH hl (va_cwS 1 hts (gS wmX8_297 wsX8_isSheet) rfl rfl rfl hdX8_isSheet ⟨Nat.le_of_ble_eq_true rfl, Nat.le_of_ble_eq_true rfl⟩) rfl rfl (Nat.le_of_ble_eq_true rfl) ⟨Nat.zero_le _, Nat.zero_le _⟩ dX8_miles_1 (fun H locs hH => ?_)
  refine lv_if_eq (tgt := 17) hx hb dX8_miles_4 (by decide) (fun c3 => ?_) (fun c3 => ?_)
  · have h := ite_t c3 h
    refine lv_ldc (v := -1000000001) hx hb hown (hts _ wkX8_90) dX8_miles_17 ?_
    obtain ⟨rfl, rfl⟩ := some_i2 h
    exact m_iret (v := -1000000001) hC hH hr rfl dX8_miles_19
  · have h := ite_f c3 h
    refine lv_iload_n hx hb dX8_miles_7 rfl (lv_at hl 2 rfl) ?_
    refine lv_i2l hx hb dX8_miles_8 rfl ?_
    refine lv_lconst (v := 0) hx hb dX8_miles_9 (by decide) ?_
    refine lv_lconst (v := 1) hx hb dX8_miles_10 (by decide) ?_
    obtain ⟨r5, h4, h⟩ := ob_some h
    refine m_calls (As := [.long (x2).toInt64, .long (0 : Int64), .long (1 : Int64)]) (rest := []) (cM_isIn l D cI B μ0 (x2).toInt64 (0 : Int64) (1 : Int64) h4) hC hH hl (va_cwS 3 hts (gS wmX8_75 wsX8_isIn) rfl rfl rfl hdX8_isIn ⟨Nat.le_of_ble_eq_true rfl, Nat.le_of_ble_eq_true rfl⟩) rfl rfl (Nat.le_of_ble_eq_true rfl) ⟨Nat.zero_le _, Nat.zero_le _⟩ dX8_miles_11 (fun H locs hH => ?_)
    refine lv_if_ne (tgt := 20) hx hb dX8_miles_14 (by decide) (fun c6 => ?_) (fun c6 => ?_)
    · have h := ite_f c6 h
      refine lv_aload_n hx hb dX8_miles_20 rfl (lv_at hl 0 rfl) ?_
      refine m_get hC hH 4 (by decide) wfX8_19 rfl rfl dX8_miles_21 ?_
      refine lv_iload_n hx hb dX8_miles_24 rfl (lv_at hl 1 rfl) ?_
      obtain ⟨i7, h⟩ := ck_some h
      refine m_ald hC hH (a := 5) rfl rfl i7 dX8_miles_25 ?_
      refine lv_if_ge (tgt := 33) hx hb dX8_miles_26 (by decide) (fun c8 => ?_) (fun c8 => ?_)
      · have h := ite_t c8 h
        refine lv_aload_n hx hb dX8_miles_33 rfl (lv_at hl 0 rfl) ?_
        obtain ⟨μ10, h9, h⟩ := ob_some h
        refine m_callv (As := []) (rest := []) (cM_laysBy l D cI B μ0  h9) hC hH hl (cwV 0 hts (gV wmX8_177 wvX8_laysBy) rfl rfl rfl hdX8_laysBy ⟨Nat.le_of_ble_eq_true rfl, Nat.le_of_ble_eq_true rfl⟩) rfl rfl (Nat.le_of_ble_eq_true rfl) ⟨Nat.zero_le _, Nat.zero_le _⟩ dX8_miles_34 (fun H locs hH => ?_)
        refine lv_iconst (v := -1) hx hb dX8_miles_37 (by decide) ?_
        refine lv_istore_n (lv' := [(3, .int (-1 : Int32)), (0, .ref (B 0)), (1, .int x1), (2, .int x2)]) hx hb dX8_miles_38 rfl hl (by decide) rfl (fun ls hl => ?_)
        refine lv_iconst (v := 0) hx hb dX8_miles_39 (by decide) ?_
        refine lv_istore (lv' := [(4, .int (0 : Int32)), (3, .int (-1 : Int32)), (0, .ref (B 0)), (1, .int x1), (2, .int x2)]) hx hb dX8_miles_40 hl (by decide) rfl (fun ls hl => ?_)
        refine lv_iconst (v := 0) hx hb dX8_miles_42 (by decide) ?_
        refine lv_istore (lv' := [(5, .int (0 : Int32)), (4, .int (0 : Int32)), (3, .int (-1 : Int32)), (0, .ref (B 0)), (1, .int x1), (2, .int x2)]) hx hb dX8_miles_43 hl (by decide) rfl (fun ls hl => ?_)
        refine wM_miles_L45 hC hr  ?_ 10000 x1 x2 (-1 : Int32) (0 : Int32) (0 : Int32) μ10 H locs ls  hH (lv_sub hl [3, 4, 5, 2, 1, 0] rfl) h
        intro x2 x3 x4 μ H locs ls  hH hl h
        refine lv_aload_n hx hb dX8_miles_159 rfl (lv_at hl 0 rfl) ?_
        obtain ⟨μ48, h47, h⟩ := ob_some h
        refine m_callv (As := []) (rest := []) (cM_laysBack l D cI B μ  h47) hC hH hl (cwV 0 hts (gV wmX8_184 wvX8_laysBack) rfl rfl rfl hdX8_laysBack ⟨Nat.le_of_ble_eq_true rfl, Nat.le_of_ble_eq_true rfl⟩) rfl rfl (Nat.le_of_ble_eq_true rfl) ⟨Nat.zero_le _, Nat.zero_le _⟩ dX8_miles_160 (fun H locs hH => ?_)
        refine lv_iload_n hx hb dX8_miles_163 rfl (lv_at hl 1 rfl) ?_
        refine lv_if_ne (tgt := 171) hx hb dX8_miles_164 (by decide) (fun c49 => ?_) (fun c49 => ?_)
        · have h := ite_f c49 h
          refine lv_iload hx hb dX8_miles_171 (lv_at hl 3 rfl) ?_
          obtain ⟨rfl, rfl⟩ := some_i2 h
          exact m_iret hC hH hr rfl dX8_miles_173
        · have h := ite_t c49 h
          refine lv_iload_n hx hb dX8_miles_167 rfl (lv_at hl 2 rfl) ?_
          refine lv_goto (tgt := 173) hx hb dX8_miles_168 (by decide) ?_
          obtain ⟨rfl, rfl⟩ := some_i2 h
          exact m_iret hC hH hr rfl dX8_miles_173
      · have h := ite_f c8 h
        refine lv_ldcw (v := -1000000011) hx hb hown (hts _ wkX8_303) dX8_miles_29 ?_
        obtain ⟨rfl, rfl⟩ := some_i2 h
        exact m_iret (v := -1000000011) hC hH hr rfl dX8_miles_32
    · have h := ite_t c6 h
      refine lv_ldc (v := -1000000001) hx hb hown (hts _ wkX8_90) dX8_miles_17 ?_
      obtain ⟨rfl, rfl⟩ := some_i2 h
      exact m_iret (v := -1000000001) hC hH hr rfl dX8_miles_19

def rmM_copy : Room := { frames := 2, cells := 0, slots := 0, locals := 45 }
theorem hdX8_copy : yX8_copy.cls = RX8 ∧ yX8_copy.cls ≠ "java/lang/invoke/MethodHandle" ∧ yX8_copy.cls ≠ "java/lang/invoke/VarHandle" ∧ (parseMethodDescriptor yX8_copy.desc).map (fun d => d.parameters.length) = some 5 := by decide +kernel

def fM_copy_L113 (k147 : Int32 → Int32 → Int32 → MS → Option (Int32 × MS)) : Nat → Int32 → Int32 → Int32 → Int32 → Int32 → Int32 → MS → Option (Int32 × MS)
  | 0, _, _, _, _, _, _, _ => none
  | n + 1, x1, x2, x3, x4, x5, x6, μ =>
    if x5 ≤ x6 then (
      k147 x3 x4 x5 μ)
    else (
      ck ((((24 : Int32) * x1) + x2) + x6) (96) <|
      ck x6 (24) <|
      bnd (up2 μ 31 (x6).toNatClampNeg (μ 7 (((((24 : Int32) * x1) + x2) + x6)).toNatClampNeg)) fun μ24 =>
      bnd (x6 + (1 : Int32)) fun v26 =>
      (fM_copy_L113 k147 n) x1 x2 x3 x4 x5 v26 μ24)

set_option maxHeartbeats 4000000 in
set_option maxRecDepth 100000 in
theorem wM_copy_L113 {p : Program} {l : Launch} {e : Env} {s : State} {m : MethodId} {args : Array Value} {below : List Frame} {meth : Method} {c : Code} {D : va_G} {cI : ClassId} {B : Nat → Nat} {μ0 : MS} {r : Int32} {μr : MS} (hC : jC p s m args meth c cX8_copy 7 RX8) (hr : meth.sig.returnType = some .int) {k147 : Int32 → Int32 → Int32 → MS → Option (Int32 × MS)} (hk147 : ∀ (x3 : Int32) (x4 : Int32) (x5 : Int32) (μ : MS) (H : Heap) (locs : List Loc) (ls : Array Slot), mH D cI B s (va_A (mW B cI μ0) s.heap.size) μ H locs → lv_has ls 7 [(0, .ref (B 0)), (3, .int x3), (4, .int x4), (5, .int x5)] → k147 x3 x4 x5 μ = some (r, μr) → W p l e rmM_copy s m args below meth c H locs 0 0 (MQ below (mQi D cI B μ0 s.heap.size μr r) args s 0 0 (va_A (mW B cI μ0) s.heap.size)) (F0 m 147 ls [])) : ∀ (n : Nat) (x1 : Int32) (x2 : Int32) (x3 : Int32) (x4 : Int32) (x5 : Int32) (x6 : Int32) (μ : MS) (H : Heap) (locs : List Loc) (ls : Array Slot), mH D cI B s (va_A (mW B cI μ0) s.heap.size) μ H locs → lv_has ls 7 [(0, .ref (B 0)), (1, .int x1), (2, .int x2), (3, .int x3), (4, .int x4), (5, .int x5), (6, .int x6)] → fM_copy_L113 k147 n x1 x2 x3 x4 x5 x6 μ = some (r, μr) → W p l e rmM_copy s m args below meth c H locs 0 0 (MQ below (mQi D cI B μ0 s.heap.size μr r) args s 0 0 (va_A (mW B cI μ0) s.heap.size)) (F0 m 113 ls []) := by
  have hx := hC.1.1
  have hb := hC.1.2.1
  have hown := hC.1.2.2.2.1
  have hts := hC.1.2.2.2.2
  intro n
  induction n with
  | zero =>
    intro x1 x2 x3 x4 x5 x6 μ H locs ls  hH hl h
    rw [fM_copy_L113] at h
    cases h
  | succ n ih =>
    intro x1 x2 x3 x4 x5 x6 μ H locs ls  hH hl h
    rw [fM_copy_L113] at h
    refine lv_iload hx hb dX8_copy_113 (lv_at hl 6 rfl) ?_
    refine lv_iload hx hb dX8_copy_115 (lv_at hl 5 rfl) ?_
    refine lv_icmp_ge (tgt := 147) hx hb dX8_copy_117 (by decide) (fun c21 => ?_) (fun c21 => ?_)
    · have h := ite_t c21 h
      exact hk147 x3 x4 x5 μ H locs ls  hH (lv_sub hl [0, 3, 4, 5] rfl) h
    · have h := ite_f c21 h
      refine lv_aload_n hx hb dX8_copy_120 rfl (lv_at hl 0 rfl) ?_
      refine m_get hC hH 30 (by decide) wfX8_65 rfl rfl dX8_copy_121 ?_
      refine lv_iload hx hb dX8_copy_124 (lv_at hl 6 rfl) ?_
      refine lv_aload_n hx hb dX8_copy_126 rfl (lv_at hl 0 rfl) ?_
      refine m_get hC hH 6 (by decide) wfX8_25 rfl rfl dX8_copy_127 ?_
      refine lv_bipush (v := 24) hx hb dX8_copy_130 (by decide) ?_
      refine lv_iload_n hx hb dX8_copy_132 rfl (lv_at hl 1 rfl) ?_
      refine lv_imul hx hb dX8_copy_133 ?_
      refine lv_iload_n hx hb dX8_copy_134 rfl (lv_at hl 2 rfl) ?_
      refine lv_iadd hx hb dX8_copy_135 ?_
      refine lv_iload hx hb dX8_copy_136 (lv_at hl 6 rfl) ?_
      refine lv_iadd hx hb dX8_copy_138 ?_
      obtain ⟨i22, h⟩ := ck_some h
      refine m_ald hC hH (a := 7) rfl rfl i22 dX8_copy_139 ?_
      obtain ⟨i23, h⟩ := ck_some h
      obtain ⟨μ24, e25, h⟩ := bnd_some h
      refine m_ast hC hH (a := 31) rfl rfl e25 i23 dX8_copy_140 (fun H locs hH => ?_)
      obtain ⟨v26, e27, h⟩ := bnd_some h
      refine lv_iinc (v := v26) (lv' := [(6, .int v26), (0, .ref (B 0)), (1, .int x1), (2, .int x2), (3, .int x3), (4, .int x4), (5, .int x5)]) hx hb dX8_copy_141 hl (k := 6) rfl (by rw [e27]; rfl) (by decide) rfl (fun ls hl => ?_)
      refine lv_goto (tgt := 113) hx hb dX8_copy_144 (by decide) ?_
      exact ih x1 x2 x3 x4 x5 v26 μ24 H locs ls  hH (lv_sub hl [1, 2, 3, 4, 5, 6, 0] rfl) h

def fM_copy_L150 (k185 : Int32 → MS → Option (Int32 × MS)) : Nat → Int32 → Int32 → Int32 → Int32 → MS → Option (Int32 × MS)
  | 0, _, _, _, _, _ => none
  | n + 1, x3, x4, x5, x6, μ =>
    if x5 ≤ x6 then (
      k185 x5 μ)
    else (
      ck x6 (24) <|
      ck ((((24 : Int32) * x3) + x4) + x6) (96) <|
      bnd (up2 μ 7 (((((24 : Int32) * x3) + x4) + x6)).toNatClampNeg (μ 31 (x6).toNatClampNeg)) fun μ31 =>
      bnd (x6 + (1 : Int32)) fun v33 =>
      (fM_copy_L150 k185 n) x3 x4 x5 v33 μ31)

set_option maxHeartbeats 4000000 in
set_option maxRecDepth 100000 in
theorem wM_copy_L150 {p : Program} {l : Launch} {e : Env} {s : State} {m : MethodId} {args : Array Value} {below : List Frame} {meth : Method} {c : Code} {D : va_G} {cI : ClassId} {B : Nat → Nat} {μ0 : MS} {r : Int32} {μr : MS} (hC : jC p s m args meth c cX8_copy 7 RX8) (hr : meth.sig.returnType = some .int) {k185 : Int32 → MS → Option (Int32 × MS)} (hk185 : ∀ (x5 : Int32) (μ : MS) (H : Heap) (locs : List Loc) (ls : Array Slot), mH D cI B s (va_A (mW B cI μ0) s.heap.size) μ H locs → lv_has ls 7 [(5, .int x5)] → k185 x5 μ = some (r, μr) → W p l e rmM_copy s m args below meth c H locs 0 0 (MQ below (mQi D cI B μ0 s.heap.size μr r) args s 0 0 (va_A (mW B cI μ0) s.heap.size)) (F0 m 185 ls [])) : ∀ (n : Nat) (x3 : Int32) (x4 : Int32) (x5 : Int32) (x6 : Int32) (μ : MS) (H : Heap) (locs : List Loc) (ls : Array Slot), mH D cI B s (va_A (mW B cI μ0) s.heap.size) μ H locs → lv_has ls 7 [(0, .ref (B 0)), (3, .int x3), (4, .int x4), (5, .int x5), (6, .int x6)] → fM_copy_L150 k185 n x3 x4 x5 x6 μ = some (r, μr) → W p l e rmM_copy s m args below meth c H locs 0 0 (MQ below (mQi D cI B μ0 s.heap.size μr r) args s 0 0 (va_A (mW B cI μ0) s.heap.size)) (F0 m 150 ls []) := by
  have hx := hC.1.1
  have hb := hC.1.2.1
  have hown := hC.1.2.2.2.1
  have hts := hC.1.2.2.2.2
  intro n
  induction n with
  | zero =>
    intro x3 x4 x5 x6 μ H locs ls  hH hl h
    rw [fM_copy_L150] at h
    cases h
  | succ n ih =>
    intro x3 x4 x5 x6 μ H locs ls  hH hl h
    rw [fM_copy_L150] at h
    refine lv_iload hx hb dX8_copy_150 (lv_at hl 4 rfl) ?_
    refine lv_iload hx hb dX8_copy_152 (lv_at hl 3 rfl) ?_
    refine lv_icmp_ge (tgt := 185) hx hb dX8_copy_154 (by decide) (fun c28 => ?_) (fun c28 => ?_)
    · have h := ite_t c28 h
      exact hk185 x5 μ H locs ls  hH (lv_sub hl [3] rfl) h
    · have h := ite_f c28 h
      refine lv_aload_n hx hb dX8_copy_157 rfl (lv_at hl 0 rfl) ?_
      refine m_get hC hH 6 (by decide) wfX8_25 rfl rfl dX8_copy_158 ?_
      refine lv_bipush (v := 24) hx hb dX8_copy_161 (by decide) ?_
      refine lv_iload_n hx hb dX8_copy_163 rfl (lv_at hl 1 rfl) ?_
      refine lv_imul hx hb dX8_copy_164 ?_
      refine lv_iload hx hb dX8_copy_165 (lv_at hl 2 rfl) ?_
      refine lv_iadd hx hb dX8_copy_167 ?_
      refine lv_iload hx hb dX8_copy_168 (lv_at hl 4 rfl) ?_
      refine lv_iadd hx hb dX8_copy_170 ?_
      refine lv_aload_n hx hb dX8_copy_171 rfl (lv_at hl 0 rfl) ?_
      refine m_get hC hH 30 (by decide) wfX8_65 rfl rfl dX8_copy_172 ?_
      refine lv_iload hx hb dX8_copy_175 (lv_at hl 4 rfl) ?_
      obtain ⟨i29, h⟩ := ck_some h
      refine m_ald hC hH (a := 31) rfl rfl i29 dX8_copy_177 ?_
      obtain ⟨i30, h⟩ := ck_some h
      obtain ⟨μ31, e32, h⟩ := bnd_some h
      refine m_ast hC hH (a := 7) rfl rfl e32 i30 dX8_copy_178 (fun H locs hH => ?_)
      obtain ⟨v33, e34, h⟩ := bnd_some h
      refine lv_iinc (v := v33) (lv' := [(6, .int v33), (0, .ref (B 0)), (3, .int x3), (4, .int x4), (5, .int x5)]) hx hb dX8_copy_179 hl (k := 4) rfl (by rw [e34]; rfl) (by decide) rfl (fun ls hl => ?_)
      refine lv_goto (tgt := 150) hx hb dX8_copy_182 (by decide) ?_
      exact ih x3 x4 x5 v33 μ31 H locs ls  hH (lv_sub hl [1, 2, 3, 4, 0] rfl) h

def fM_copy (μ0 : MS) (x1 : Int32) (x2 : Int32) (x3 : Int32) (x4 : Int32) (x5 : Int32) : Option (Int32 × MS) :=
  ob (fM_isSheet μ0 x1) fun r2 =>
  if r2 = 0 then (
    some ((-1000000001 : Int32), μ0))
  else (
    ob (fM_isSheet μ0 x3) fun r5 =>
    if r5 = 0 then (
      some ((-1000000001 : Int32), μ0))
    else (
      ck x1 (4) <|
      if (μ0 5 (x1).toNatClampNeg) < 0 then (
        some ((-1000000011 : Int32), μ0))
      else (
        ck x3 (4) <|
        if 0 ≤ (μ0 5 (x3).toNatClampNeg) then (
          ck x1 (4) <|
          ck x3 (4) <|
          if (μ0 5 (x1).toNatClampNeg) = (μ0 5 (x3).toNatClampNeg) then (
            if x2 < 0 then (
              some ((-1000000013 : Int32), μ0))
            else (
              if x4 < 0 then (
                some ((-1000000013 : Int32), μ0))
              else (
                if x5 < 0 then (
                  some ((-1000000013 : Int32), μ0))
                else (
                  ck x1 (4) <|
                  if 0 < (lg_cmp ((x2).toInt64 + (x5).toInt64) ((μ0 6 (x1).toNatClampNeg)).toInt64) then (
                    some ((-1000000013 : Int32), μ0))
                  else (
                    ck x3 (4) <|
                    if (lg_cmp ((x4).toInt64 + (x5).toInt64) ((μ0 6 (x3).toNatClampNeg)).toInt64) ≤ 0 then (
                      fM_copy_L113 (fun (x3 : Int32) (x4 : Int32) (x5 : Int32) (μ : MS) => fM_copy_L150 (fun (x5 : Int32) (μ : MS) => some (x5, μ)) 10000 x3 x4 x5 (0 : Int32) μ) 10000 x1 x2 x3 x4 x5 (0 : Int32) μ0)
                    else (
                      some ((-1000000013 : Int32), μ0)))))))
          else (
            some ((-1000000012 : Int32), μ0)))
        else (
          some ((-1000000011 : Int32), μ0)))))

set_option maxHeartbeats 4000000 in
set_option maxRecDepth 100000 in
theorem cM_copy (l : Launch) (D : va_G) (cI : ClassId) (B : Nat → Nat) (μ0 : MS) (x1 : Int32) (x2 : Int32) (x3 : Int32) (x4 : Int32) (x5 : Int32) {r : Int32} {μr : MS} (h : fM_copy μ0 x1 x2 x3 x4 x5 = some (r, μr)) : ∀ sz, Met l yX8_copy (Cond.code yX8_copy cX8_copy 7 (some .int) :: Tw) rmM_copy (mP D cI B μ0 sz [.ref (B 0), .int x1, .int x2, .int x3, .int x4, .int x5]) (mQi D cI B μ0 sz μr r) 0 0 (va_A (mW B cI μ0) sz) := by
  intro sz
  refine Met.ofW (cc := cX8_copy) (maxL := 7) (ret := (some .int)) (by decide) rfl ?_
  intro p e s m args below meth c s₁ Bd hml hv
  obtain ⟨hC, hr⟩ := jC_of Bd hml
  obtain ⟨rfl, rfl, hH⟩ := m_enter hv
  have hC : jC p s m _ meth c cX8_copy 7 RX8 := hC
  have hx := hC.1.1
  have hb := hC.1.2.1
  have hown := hC.1.2.2.2.1
  have hts := hC.1.2.2.2.2
  have hl := lv_entry ([.ref (B 0), .int x1, .int x2, .int x3, .int x4, .int x5]) (n := 7) (Nat.le_of_ble_eq_true rfl)
  rw [lg_entry_eq]
  generalize (lg_sl ([.ref (B 0), .int x1, .int x2, .int x3, .int x4, .int x5]) ++ List.replicate (7 - (lg_sl ([.ref (B 0), .int x1, .int x2, .int x3, .int x4, .int x5])).length) Slot.unset).toArray = ls at hl ⊢
  have hl : lv_has ls 7 [(0, .ref (B 0)), (1, .int x1), (2, .int x2), (3, .int x3), (4, .int x4), (5, .int x5)] := hl
  unfold fM_copy at h
  refine W_nm (fun H locs eH eL => ?_)
  have hH : mH D cI B s (va_A (mW B cI μ0) s.heap.size) μ0 H locs := by rw [eH, eL]; exact hH
  show W p l e rmM_copy s m _ below meth c H locs 0 0 _ (F0 m 0 ls [])
  refine lv_iload_n hx hb dX8_copy_0 rfl (lv_at hl 1 rfl) ?_
  obtain ⟨r2, h1, h⟩ := ob_some h
  refine m_calls (As := [.int x1]) (rest := []) (cM_isSheet l D cI B μ0 x1 h1) hC hH hl (va_cwS 1 hts (gS wmX8_297 wsX8_isSheet) rfl rfl rfl hdX8_isSheet ⟨Nat.le_of_ble_eq_true rfl, Nat.le_of_ble_eq_true rfl⟩) rfl rfl (Nat.le_of_ble_eq_true rfl) ⟨Nat.zero_le _, Nat.zero_le _⟩ dX8_copy_1 (fun H locs hH => ?_)
  refine lv_if_eq (tgt := 14) hx hb dX8_copy_4 (by decide) (fun c3 => ?_) (fun c3 => ?_)
  · have h := ite_t c3 h
    refine lv_ldc (v := -1000000001) hx hb hown (hts _ wkX8_90) dX8_copy_14 ?_
    obtain ⟨rfl, rfl⟩ := some_i2 h
    exact m_iret (v := -1000000001) hC hH hr rfl dX8_copy_16
  · have h := ite_f c3 h
    refine lv_iload_n hx hb dX8_copy_7 rfl (lv_at hl 3 rfl) ?_
    obtain ⟨r5, h4, h⟩ := ob_some h
    refine m_calls (As := [.int x3]) (rest := []) (cM_isSheet l D cI B μ0 x3 h4) hC hH hl (va_cwS 1 hts (gS wmX8_297 wsX8_isSheet) rfl rfl rfl hdX8_isSheet ⟨Nat.le_of_ble_eq_true rfl, Nat.le_of_ble_eq_true rfl⟩) rfl rfl (Nat.le_of_ble_eq_true rfl) ⟨Nat.zero_le _, Nat.zero_le _⟩ dX8_copy_8 (fun H locs hH => ?_)
    refine lv_if_ne (tgt := 17) hx hb dX8_copy_11 (by decide) (fun c6 => ?_) (fun c6 => ?_)
    · have h := ite_f c6 h
      refine lv_aload_n hx hb dX8_copy_17 rfl (lv_at hl 0 rfl) ?_
      refine m_get hC hH 4 (by decide) wfX8_19 rfl rfl dX8_copy_18 ?_
      refine lv_iload_n hx hb dX8_copy_21 rfl (lv_at hl 1 rfl) ?_
      obtain ⟨i7, h⟩ := ck_some h
      refine m_ald hC hH (a := 5) rfl rfl i7 dX8_copy_22 ?_
      refine lv_if_lt (tgt := 35) hx hb dX8_copy_23 (by decide) (fun c8 => ?_) (fun c8 => ?_)
      · have h := ite_t c8 h
        refine lv_ldcw (v := -1000000011) hx hb hown (hts _ wkX8_303) dX8_copy_35 ?_
        obtain ⟨rfl, rfl⟩ := some_i2 h
        exact m_iret (v := -1000000011) hC hH hr rfl dX8_copy_38
      · have h := ite_f c8 h
        refine lv_aload_n hx hb dX8_copy_26 rfl (lv_at hl 0 rfl) ?_
        refine m_get hC hH 4 (by decide) wfX8_19 rfl rfl dX8_copy_27 ?_
        refine lv_iload_n hx hb dX8_copy_30 rfl (lv_at hl 3 rfl) ?_
        obtain ⟨i9, h⟩ := ck_some h
        refine m_ald hC hH (a := 5) rfl rfl i9 dX8_copy_31 ?_
        refine lv_if_ge (tgt := 39) hx hb dX8_copy_32 (by decide) (fun c10 => ?_) (fun c10 => ?_)
        · have h := ite_t c10 h
          refine lv_aload_n hx hb dX8_copy_39 rfl (lv_at hl 0 rfl) ?_
          refine m_get hC hH 4 (by decide) wfX8_19 rfl rfl dX8_copy_40 ?_
          refine lv_iload_n hx hb dX8_copy_43 rfl (lv_at hl 1 rfl) ?_
          obtain ⟨i11, h⟩ := ck_some h
          refine m_ald hC hH (a := 5) rfl rfl i11 dX8_copy_44 ?_
          refine lv_aload_n hx hb dX8_copy_45 rfl (lv_at hl 0 rfl) ?_
          refine m_get hC hH 4 (by decide) wfX8_19 rfl rfl dX8_copy_46 ?_
          refine lv_iload_n hx hb dX8_copy_49 rfl (lv_at hl 3 rfl) ?_
          obtain ⟨i12, h⟩ := ck_some h
          refine m_ald hC hH (a := 5) rfl rfl i12 dX8_copy_50 ?_
          refine lv_icmp_eq (tgt := 57) hx hb dX8_copy_51 (by decide) (fun c13 => ?_) (fun c13 => ?_)
          · have h := ite_t c13 h
            refine lv_iload_n hx hb dX8_copy_57 rfl (lv_at hl 2 rfl) ?_
            refine lv_if_lt (tgt := 106) hx hb dX8_copy_58 (by decide) (fun c14 => ?_) (fun c14 => ?_)
            · have h := ite_t c14 h
              refine lv_ldcw (v := -1000000013) hx hb hown (hts _ wkX8_304) dX8_copy_106 ?_
              obtain ⟨rfl, rfl⟩ := some_i2 h
              exact m_iret (v := -1000000013) hC hH hr rfl dX8_copy_109
            · have h := ite_f c14 h
              refine lv_iload hx hb dX8_copy_61 (lv_at hl 4 rfl) ?_
              refine lv_if_lt (tgt := 106) hx hb dX8_copy_63 (by decide) (fun c15 => ?_) (fun c15 => ?_)
              · have h := ite_t c15 h
                refine lv_ldcw (v := -1000000013) hx hb hown (hts _ wkX8_304) dX8_copy_106 ?_
                obtain ⟨rfl, rfl⟩ := some_i2 h
                exact m_iret (v := -1000000013) hC hH hr rfl dX8_copy_109
              · have h := ite_f c15 h
                refine lv_iload hx hb dX8_copy_66 (lv_at hl 5 rfl) ?_
                refine lv_if_lt (tgt := 106) hx hb dX8_copy_68 (by decide) (fun c16 => ?_) (fun c16 => ?_)
                · have h := ite_t c16 h
                  refine lv_ldcw (v := -1000000013) hx hb hown (hts _ wkX8_304) dX8_copy_106 ?_
                  obtain ⟨rfl, rfl⟩ := some_i2 h
                  exact m_iret (v := -1000000013) hC hH hr rfl dX8_copy_109
                · have h := ite_f c16 h
                  refine lv_iload_n hx hb dX8_copy_71 rfl (lv_at hl 2 rfl) ?_
                  refine lv_i2l hx hb dX8_copy_72 rfl ?_
                  refine lv_iload hx hb dX8_copy_73 (lv_at hl 5 rfl) ?_
                  refine lv_i2l hx hb dX8_copy_75 rfl ?_
                  refine lv_ladd hx hb dX8_copy_76 ?_
                  refine lv_aload_n hx hb dX8_copy_77 rfl (lv_at hl 0 rfl) ?_
                  refine m_get hC hH 5 (by decide) wfX8_22 rfl rfl dX8_copy_78 ?_
                  refine lv_iload_n hx hb dX8_copy_81 rfl (lv_at hl 1 rfl) ?_
                  obtain ⟨i17, h⟩ := ck_some h
                  refine m_ald hC hH (a := 6) rfl rfl i17 dX8_copy_82 ?_
                  refine lv_i2l hx hb dX8_copy_83 rfl ?_
                  refine W.lcmp hx hb dX8_copy_84 ?_
                  refine lv_if_gt (tgt := 106) hx hb dX8_copy_85 (by decide) (fun c18 => ?_) (fun c18 => ?_)
                  · have h := ite_t c18 h
                    refine lv_ldcw (v := -1000000013) hx hb hown (hts _ wkX8_304) dX8_copy_106 ?_
                    obtain ⟨rfl, rfl⟩ := some_i2 h
                    exact m_iret (v := -1000000013) hC hH hr rfl dX8_copy_109
                  · have h := ite_f c18 h
                    refine lv_iload hx hb dX8_copy_88 (lv_at hl 4 rfl) ?_
                    refine lv_i2l hx hb dX8_copy_90 rfl ?_
                    refine lv_iload hx hb dX8_copy_91 (lv_at hl 5 rfl) ?_
                    refine lv_i2l hx hb dX8_copy_93 rfl ?_
                    refine lv_ladd hx hb dX8_copy_94 ?_
                    refine lv_aload_n hx hb dX8_copy_95 rfl (lv_at hl 0 rfl) ?_
                    refine m_get hC hH 5 (by decide) wfX8_22 rfl rfl dX8_copy_96 ?_
                    refine lv_iload_n hx hb dX8_copy_99 rfl (lv_at hl 3 rfl) ?_
                    obtain ⟨i19, h⟩ := ck_some h
                    refine m_ald hC hH (a := 6) rfl rfl i19 dX8_copy_100 ?_
                    refine lv_i2l hx hb dX8_copy_101 rfl ?_
                    refine W.lcmp hx hb dX8_copy_102 ?_
                    refine lv_if_le (tgt := 110) hx hb dX8_copy_103 (by decide) (fun c20 => ?_) (fun c20 => ?_)
                    · have h := ite_t c20 h
                      refine lv_iconst (v := 0) hx hb dX8_copy_110 (by decide) ?_
                      refine lv_istore (lv' := [(6, .int (0 : Int32)), (0, .ref (B 0)), (1, .int x1), (2, .int x2), (3, .int x3), (4, .int x4), (5, .int x5)]) hx hb dX8_copy_111 hl (by decide) rfl (fun ls hl => ?_)
                      refine wM_copy_L113 hC hr  ?_ 10000 x1 x2 x3 x4 x5 (0 : Int32) μ0 H locs ls  hH (lv_sub hl [1, 2, 3, 4, 5, 6, 0] rfl) h
                      intro x3 x4 x5 μ H locs ls  hH hl h
                      refine lv_iconst (v := 0) hx hb dX8_copy_147 (by decide) ?_
                      refine lv_istore (lv' := [(6, .int (0 : Int32)), (0, .ref (B 0)), (3, .int x3), (4, .int x4), (5, .int x5)]) hx hb dX8_copy_148 hl (by decide) rfl (fun ls hl => ?_)
                      refine wM_copy_L150 hC hr  ?_ 10000 x3 x4 x5 (0 : Int32) μ H locs ls  hH (lv_sub hl [1, 2, 3, 4, 0] rfl) h
                      intro x5 μ H locs ls  hH hl h
                      refine lv_iload hx hb dX8_copy_185 (lv_at hl 0 rfl) ?_
                      obtain ⟨rfl, rfl⟩ := some_i2 h
                      exact m_iret hC hH hr rfl dX8_copy_187
                    · have h := ite_f c20 h
                      refine lv_ldcw (v := -1000000013) hx hb hown (hts _ wkX8_304) dX8_copy_106 ?_
                      obtain ⟨rfl, rfl⟩ := some_i2 h
                      exact m_iret (v := -1000000013) hC hH hr rfl dX8_copy_109
          · have h := ite_f c13 h
            refine lv_ldc (v := -1000000012) hx hb hown (hts _ wkX8_132) dX8_copy_54 ?_
            obtain ⟨rfl, rfl⟩ := some_i2 h
            exact m_iret (v := -1000000012) hC hH hr rfl dX8_copy_56
        · have h := ite_f c10 h
          refine lv_ldcw (v := -1000000011) hx hb hown (hts _ wkX8_303) dX8_copy_35 ?_
          obtain ⟨rfl, rfl⟩ := some_i2 h
          exact m_iret (v := -1000000011) hC hH hr rfl dX8_copy_38
    · have h := ite_t c6 h
      refine lv_ldc (v := -1000000001) hx hb hown (hts _ wkX8_90) dX8_copy_14 ?_
      obtain ⟨rfl, rfl⟩ := some_i2 h
      exact m_iret (v := -1000000001) hC hH hr rfl dX8_copy_16

def rmM_isSlot : Room := { frames := 1, cells := 0, slots := 0, locals := 25 }
theorem hdX8_isSlot : yX8_isSlot.cls ≠ "java/lang/invoke/MethodHandle" ∧ yX8_isSlot.cls ≠ "java/lang/invoke/VarHandle" ∧ (parseMethodDescriptor yX8_isSlot.desc).map (fun d => d.parameters.length) = some 1 := by decide +kernel

def fM_isSlot (μ0 : MS) (x0 : Int32) : Option (Int32) :=
  ob (fM_isIn μ0 (x0).toInt64 (0 : Int64) (4 : Int64)) fun r2 =>
  zb r2 <|
  some r2

set_option maxHeartbeats 4000000 in
set_option maxRecDepth 100000 in
theorem cM_isSlot (l : Launch) (D : va_G) (cI : ClassId) (B : Nat → Nat) (μ0 : MS) (x0 : Int32) {r : Int32} (h : fM_isSlot μ0 x0 = some r) : ∀ sz, Met l yX8_isSlot (Cond.code yX8_isSlot cX8_isSlot 1 (some .boolean) :: Tw) rmM_isSlot (mP D cI B μ0 sz [.int x0]) (mQi D cI B μ0 sz μ0 r) 0 0 (va_A (mW B cI μ0) sz) := by
  intro sz
  refine Met.ofW (cc := cX8_isSlot) (maxL := 1) (ret := (some .boolean)) (by decide) rfl ?_
  intro p e s m args below meth c s₁ Bd hml hv
  obtain ⟨hC, hr⟩ := jC_of Bd hml
  obtain ⟨rfl, rfl, hH⟩ := m_enter hv
  have hC : jC p s m _ meth c cX8_isSlot 1 RX8 := hC
  have hx := hC.1.1
  have hb := hC.1.2.1
  have hown := hC.1.2.2.2.1
  have hts := hC.1.2.2.2.2
  have hl := lv_entry ([.int x0]) (n := 1) (Nat.le_of_ble_eq_true rfl)
  rw [lg_entry_eq]
  generalize (lg_sl ([.int x0]) ++ List.replicate (1 - (lg_sl ([.int x0])).length) Slot.unset).toArray = ls at hl ⊢
  have hl : lv_has ls 1 [(0, .int x0)] := hl
  unfold fM_isSlot at h
  refine W_nm (fun H locs eH eL => ?_)
  have hH : mH D cI B s (va_A (mW B cI μ0) s.heap.size) μ0 H locs := by rw [eH, eL]; exact hH
  show W p l e rmM_isSlot s m _ below meth c H locs 0 0 _ (F0 m 0 ls [])
  refine lv_iload_n hx hb dX8_isSlot_0 rfl (lv_at hl 0 rfl) ?_
  refine lv_i2l hx hb dX8_isSlot_1 rfl ?_
  refine lv_lconst (v := 0) hx hb dX8_isSlot_2 (by decide) ?_
  refine lv_ldc2 (v := 4) hx hb hown (hts _ wqX8_309) dX8_isSlot_3 ?_
  obtain ⟨r2, h1, h⟩ := ob_some h
  refine m_calls (As := [.long (x0).toInt64, .long (0 : Int64), .long (4 : Int64)]) (rest := []) (cM_isIn l D cI B μ0 (x0).toInt64 (0 : Int64) (4 : Int64) h1) hC hH hl (va_cwS 3 hts (gS wmX8_75 wsX8_isIn) rfl rfl rfl hdX8_isIn ⟨Nat.le_of_ble_eq_true rfl, Nat.le_of_ble_eq_true rfl⟩) rfl rfl (Nat.le_of_ble_eq_true rfl) ⟨Nat.zero_le _, Nat.zero_le _⟩ dX8_isSlot_6 (fun H locs hH => ?_)
  obtain ⟨z3, h⟩ := zb_some h
  obtain rfl := some_i1 h
  exact m_iret hC hH hr z3 dX8_isSlot_9

def rmM_lay : Room := { frames := 2, cells := 0, slots := 0, locals := 46 }
theorem hdX8_lay : yX8_lay.cls = RX8 ∧ yX8_lay.cls ≠ "java/lang/invoke/MethodHandle" ∧ yX8_lay.cls ≠ "java/lang/invoke/VarHandle" ∧ (parseMethodDescriptor yX8_lay.desc).map (fun d => d.parameters.length) = some 3 := by decide +kernel

def fM_lay_L150 (k187 : Int32 → MS → Option (Int32 × MS)) : Nat → Int32 → Int32 → Int32 → Int32 → MS → Option (Int32 × MS)
  | 0, _, _, _, _, _ => none
  | n + 1, x1, x3, x5, x6, μ =>
    if (24 : Int32) ≤ x6 then (
      k187 x5 μ)
    else (
      ck (((24 : Int32) * x3) + x6) (96) <|
      ck (((24 : Int32) * x1) + x6) (120) <|
      bnd (up2 μ 12 ((((24 : Int32) * x1) + x6)).toNatClampNeg (μ 7 ((((24 : Int32) * x3) + x6)).toNatClampNeg)) fun μ29 =>
      bnd (x6 + (1 : Int32)) fun v31 =>
      (fM_lay_L150 k187 n) x1 x3 x5 v31 μ29)

set_option maxHeartbeats 4000000 in
set_option maxRecDepth 100000 in
theorem wM_lay_L150 {p : Program} {l : Launch} {e : Env} {s : State} {m : MethodId} {args : Array Value} {below : List Frame} {meth : Method} {c : Code} {D : va_G} {cI : ClassId} {B : Nat → Nat} {μ0 : MS} {r : Int32} {μr : MS} (hC : jC p s m args meth c cX8_lay 7 RX8) (hr : meth.sig.returnType = some .int) {k187 : Int32 → MS → Option (Int32 × MS)} (hk187 : ∀ (x5 : Int32) (μ : MS) (H : Heap) (locs : List Loc) (ls : Array Slot), mH D cI B s (va_A (mW B cI μ0) s.heap.size) μ H locs → lv_has ls 7 [(5, .int x5)] → k187 x5 μ = some (r, μr) → W p l e rmM_lay s m args below meth c H locs 0 0 (MQ below (mQi D cI B μ0 s.heap.size μr r) args s 0 0 (va_A (mW B cI μ0) s.heap.size)) (F0 m 187 ls [])) : ∀ (n : Nat) (x1 : Int32) (x3 : Int32) (x5 : Int32) (x6 : Int32) (μ : MS) (H : Heap) (locs : List Loc) (ls : Array Slot), mH D cI B s (va_A (mW B cI μ0) s.heap.size) μ H locs → lv_has ls 7 [(0, .ref (B 0)), (1, .int x1), (3, .int x3), (5, .int x5), (6, .int x6)] → fM_lay_L150 k187 n x1 x3 x5 x6 μ = some (r, μr) → W p l e rmM_lay s m args below meth c H locs 0 0 (MQ below (mQi D cI B μ0 s.heap.size μr r) args s 0 0 (va_A (mW B cI μ0) s.heap.size)) (F0 m 150 ls []) := by
  have hx := hC.1.1
  have hb := hC.1.2.1
  have hown := hC.1.2.2.2.1
  have hts := hC.1.2.2.2.2
  intro n
  induction n with
  | zero =>
    intro x1 x3 x5 x6 μ H locs ls  hH hl h
    rw [fM_lay_L150] at h
    cases h
  | succ n ih =>
    intro x1 x3 x5 x6 μ H locs ls  hH hl h
    rw [fM_lay_L150] at h
    refine lv_iload hx hb dX8_lay_150 (lv_at hl 4 rfl) ?_
    refine lv_bipush (v := 24) hx hb dX8_lay_152 (by decide) ?_
    refine lv_icmp_ge (tgt := 187) hx hb dX8_lay_154 (by decide) (fun c26 => ?_) (fun c26 => ?_)
    · have h := ite_t c26 h
      exact hk187 x5 μ H locs ls  hH (lv_sub hl [3] rfl) h
    · have h := ite_f c26 h
      refine lv_aload_n hx hb dX8_lay_157 rfl (lv_at hl 0 rfl) ?_
      refine m_get hC hH 11 (by decide) wfX8_40 rfl rfl dX8_lay_158 ?_
      refine lv_bipush (v := 24) hx hb dX8_lay_161 (by decide) ?_
      refine lv_iload_n hx hb dX8_lay_163 rfl (lv_at hl 1 rfl) ?_
      refine lv_imul hx hb dX8_lay_164 ?_
      refine lv_iload hx hb dX8_lay_165 (lv_at hl 4 rfl) ?_
      refine lv_iadd hx hb dX8_lay_167 ?_
      refine lv_aload_n hx hb dX8_lay_168 rfl (lv_at hl 0 rfl) ?_
      refine m_get hC hH 6 (by decide) wfX8_25 rfl rfl dX8_lay_169 ?_
      refine lv_bipush (v := 24) hx hb dX8_lay_172 (by decide) ?_
      refine lv_iload_n hx hb dX8_lay_174 rfl (lv_at hl 2 rfl) ?_
      refine lv_imul hx hb dX8_lay_175 ?_
      refine lv_iload hx hb dX8_lay_176 (lv_at hl 4 rfl) ?_
      refine lv_iadd hx hb dX8_lay_178 ?_
      obtain ⟨i27, h⟩ := ck_some h
      refine m_ald hC hH (a := 7) rfl rfl i27 dX8_lay_179 ?_
      obtain ⟨i28, h⟩ := ck_some h
      obtain ⟨μ29, e30, h⟩ := bnd_some h
      refine m_ast hC hH (a := 12) rfl rfl e30 i28 dX8_lay_180 (fun H locs hH => ?_)
      obtain ⟨v31, e32, h⟩ := bnd_some h
      refine lv_iinc (v := v31) (lv' := [(6, .int v31), (0, .ref (B 0)), (1, .int x1), (3, .int x3), (5, .int x5)]) hx hb dX8_lay_181 hl (k := 4) rfl (by rw [e32]; rfl) (by decide) rfl (fun ls hl => ?_)
      refine lv_goto (tgt := 150) hx hb dX8_lay_184 (by decide) ?_
      exact ih x1 x3 x5 v31 μ29 H locs ls  hH (lv_sub hl [1, 2, 3, 4, 0] rfl) h

def fM_lay_J129 (x1 : Int32) (x2 : Int32) (x3 : Int32) (x5 : Int32) (y1 : Int32) (y2 : Int32) (μ : MS) : Option (Int32 × MS) :=
  ck y1 (5) <|
  bnd (up2 μ 10 (y1).toNatClampNeg y2) fun μ19 =>
  if x2 = (2 : Int32) then (
    ck x3 (4) <|
    ck x1 (5) <|
    bnd (up2 μ19 11 (x1).toNatClampNeg (μ19 6 (x3).toNatClampNeg)) fun μ24 =>
    fM_lay_L150 (fun (x5 : Int32) (μ : MS) => some (x5, μ)) 10000 x1 x3 x5 (0 : Int32) μ24)
  else (
    some (x5, μ19))

set_option maxHeartbeats 4000000 in
set_option maxRecDepth 100000 in
theorem wM_lay_J129 {p : Program} {l : Launch} {e : Env} {s : State} {m : MethodId} {args : Array Value} {below : List Frame} {meth : Method} {c : Code} {D : va_G} {cI : ClassId} {B : Nat → Nat} {μ0 : MS} {r : Int32} {μr : MS} (hC : jC p s m args meth c cX8_lay 7 RX8) (hr : meth.sig.returnType = some .int) (x1 : Int32) (x2 : Int32) (x3 : Int32) (x5 : Int32) (y1 : Int32) (y2 : Int32) (μ : MS) (H : Heap) (locs : List Loc) (ls : Array Slot) (hH : mH D cI B s (va_A (mW B cI μ0) s.heap.size) μ H locs) (hl : lv_has ls 7 [(0, .ref (B 0)), (1, .int x1), (2, .int x2), (3, .int x3), (5, .int x5)]) (h : fM_lay_J129 x1 x2 x3 x5 y1 y2 μ = some (r, μr)) : W p l e rmM_lay s m args below meth c H locs 0 0 (MQ below (mQi D cI B μ0 s.heap.size μr r) args s 0 0 (va_A (mW B cI μ0) s.heap.size)) (F0 m 129 ls [.int y2, .int y1, .ref (B 10)]) := by
  have hx := hC.1.1
  have hb := hC.1.2.1
  have hown := hC.1.2.2.2.1
  have hts := hC.1.2.2.2.2
  unfold fM_lay_J129 at h
  obtain ⟨i18, h⟩ := ck_some h
  obtain ⟨μ19, e20, h⟩ := bnd_some h
  refine m_ast hC hH (a := 10) rfl rfl e20 i18 dX8_lay_129 (fun H locs hH => ?_)
  refine lv_iload_n hx hb dX8_lay_130 rfl (lv_at hl 2 rfl) ?_
  refine lv_iconst (v := 2) hx hb dX8_lay_131 (by decide) ?_
  refine lv_icmp_ne (tgt := 187) hx hb dX8_lay_132 (by decide) (fun c21 => ?_) (fun c21 => ?_)
  · have h := ite_f c21 h
    refine lv_iload hx hb dX8_lay_187 (lv_at hl 4 rfl) ?_
    obtain ⟨rfl, rfl⟩ := some_i2 h
    exact m_iret hC hH hr rfl dX8_lay_189
  · have h := ite_t c21 h
    refine lv_aload_n hx hb dX8_lay_135 rfl (lv_at hl 0 rfl) ?_
    refine m_get hC hH 10 (by decide) wfX8_37 rfl rfl dX8_lay_136 ?_
    refine lv_iload_n hx hb dX8_lay_139 rfl (lv_at hl 1 rfl) ?_
    refine lv_aload_n hx hb dX8_lay_140 rfl (lv_at hl 0 rfl) ?_
    refine m_get hC hH 5 (by decide) wfX8_22 rfl rfl dX8_lay_141 ?_
    refine lv_iload_n hx hb dX8_lay_144 rfl (lv_at hl 3 rfl) ?_
    obtain ⟨i22, h⟩ := ck_some h
    refine m_ald hC hH (a := 6) rfl rfl i22 dX8_lay_145 ?_
    obtain ⟨i23, h⟩ := ck_some h
    obtain ⟨μ24, e25, h⟩ := bnd_some h
    refine m_ast hC hH (a := 11) rfl rfl e25 i23 dX8_lay_146 (fun H locs hH => ?_)
    refine lv_iconst (v := 0) hx hb dX8_lay_147 (by decide) ?_
    refine lv_istore (lv' := [(6, .int (0 : Int32)), (0, .ref (B 0)), (1, .int x1), (2, .int x2), (3, .int x3), (5, .int x5)]) hx hb dX8_lay_148 hl (by decide) rfl (fun ls hl => ?_)
    refine wM_lay_L150 hC hr  ?_ 10000 x1 x3 x5 (0 : Int32) μ24 H locs ls  hH (lv_sub hl [1, 2, 4, 5, 0] rfl) h
    intro x5 μ H locs ls  hH hl h
    refine lv_iload hx hb dX8_lay_187 (lv_at hl 0 rfl) ?_
    obtain ⟨rfl, rfl⟩ := some_i2 h
    exact m_iret hC hH hr rfl dX8_lay_189

def fM_lay_J109 (x1 : Int32) (x2 : Int32) (x3 : Int32) (x5 : Int32) (y1 : Int32) (y2 : Int32) (μ : MS) : Option (Int32 × MS) :=
  ck y1 (5) <|
  bnd (up2 μ 9 (y1).toNatClampNeg y2) fun μ15 =>
  if x2 = (1 : Int32) then (
    ob (fM_worth μ15 x3) fun r34 =>
    fM_lay_J129 x1 x2 x3 x5 x1 r34 μ15)
  else (
    fM_lay_J129 x1 x2 x3 x5 x1 (0 : Int32) μ15)

set_option maxHeartbeats 4000000 in
set_option maxRecDepth 100000 in
theorem wM_lay_J109 {p : Program} {l : Launch} {e : Env} {s : State} {m : MethodId} {args : Array Value} {below : List Frame} {meth : Method} {c : Code} {D : va_G} {cI : ClassId} {B : Nat → Nat} {μ0 : MS} {r : Int32} {μr : MS} (hC : jC p s m args meth c cX8_lay 7 RX8) (hr : meth.sig.returnType = some .int) (x1 : Int32) (x2 : Int32) (x3 : Int32) (x5 : Int32) (y1 : Int32) (y2 : Int32) (μ : MS) (H : Heap) (locs : List Loc) (ls : Array Slot) (hH : mH D cI B s (va_A (mW B cI μ0) s.heap.size) μ H locs) (hl : lv_has ls 7 [(0, .ref (B 0)), (1, .int x1), (2, .int x2), (3, .int x3), (5, .int x5)]) (h : fM_lay_J109 x1 x2 x3 x5 y1 y2 μ = some (r, μr)) : W p l e rmM_lay s m args below meth c H locs 0 0 (MQ below (mQi D cI B μ0 s.heap.size μr r) args s 0 0 (va_A (mW B cI μ0) s.heap.size)) (F0 m 109 ls [.int y2, .int y1, .ref (B 9)]) := by
  have hx := hC.1.1
  have hb := hC.1.2.1
  have hown := hC.1.2.2.2.1
  have hts := hC.1.2.2.2.2
  unfold fM_lay_J109 at h
  obtain ⟨i14, h⟩ := ck_some h
  obtain ⟨μ15, e16, h⟩ := bnd_some h
  refine m_ast hC hH (a := 9) rfl rfl e16 i14 dX8_lay_109 (fun H locs hH => ?_)
  refine lv_aload_n hx hb dX8_lay_110 rfl (lv_at hl 0 rfl) ?_
  refine m_get hC hH 9 (by decide) wfX8_34 rfl rfl dX8_lay_111 ?_
  refine lv_iload_n hx hb dX8_lay_114 rfl (lv_at hl 1 rfl) ?_
  refine lv_iload_n hx hb dX8_lay_115 rfl (lv_at hl 2 rfl) ?_
  refine lv_iconst (v := 1) hx hb dX8_lay_116 (by decide) ?_
  refine lv_icmp_ne (tgt := 128) hx hb dX8_lay_117 (by decide) (fun c17 => ?_) (fun c17 => ?_)
  · have h := ite_f c17 h
    refine lv_iconst (v := 0) hx hb dX8_lay_128 (by decide) ?_
    exact wM_lay_J129 hC hr  x1 x2 x3 x5 x1 (0 : Int32) μ15 H locs ls  hH hl h
  · have h := ite_t c17 h
    refine lv_aload_n hx hb dX8_lay_120 rfl (lv_at hl 0 rfl) ?_
    refine lv_iload_n hx hb dX8_lay_121 rfl (lv_at hl 3 rfl) ?_
    obtain ⟨r34, h33, h⟩ := ob_some h
    refine m_calli (As := [.int x3]) (rest := [.int x1, .ref (B 10)]) (cM_worth l D cI B μ15 x3 h33) hC hH hl (cwV 1 hts (gV wmX8_125 wvX8_worth) rfl rfl rfl hdX8_worth ⟨Nat.le_of_ble_eq_true rfl, Nat.le_of_ble_eq_true rfl⟩) rfl rfl (Nat.le_of_ble_eq_true rfl) ⟨Nat.zero_le _, Nat.zero_le _⟩ dX8_lay_122 (fun H locs hH => ?_)
    refine lv_goto (tgt := 129) hx hb dX8_lay_125 (by decide) ?_
    exact wM_lay_J129 hC hr  x1 x2 x3 x5 x1 r34 μ15 H locs ls  hH hl h

def fM_lay_J74 (x1 : Int32) (x2 : Int32) (x3 : Int32) (μ : MS) : Option (Int32 × MS) :=
  ck x1 (5) <|
  bnd (μ 8 (x1).toNatClampNeg) fun v8 =>
  ck x1 (5) <|
  bnd (up2 μ 8 (x1).toNatClampNeg x2) fun μ11 =>
  if x2 = (1 : Int32) then (
    ob (fM_of μ11 x3 (0 : Int32)) fun r36 =>
    fM_lay_J109 x1 x2 x3 v8 x1 r36 μ11)
  else (
    fM_lay_J109 x1 x2 x3 v8 x1 x3 μ11)

set_option maxHeartbeats 4000000 in
set_option maxRecDepth 100000 in
theorem wM_lay_J74 {p : Program} {l : Launch} {e : Env} {s : State} {m : MethodId} {args : Array Value} {below : List Frame} {meth : Method} {c : Code} {D : va_G} {cI : ClassId} {B : Nat → Nat} {μ0 : MS} {r : Int32} {μr : MS} (hC : jC p s m args meth c cX8_lay 7 RX8) (hr : meth.sig.returnType = some .int) (x1 : Int32) (x2 : Int32) (x3 : Int32) (μ : MS) (H : Heap) (locs : List Loc) (ls : Array Slot) (hH : mH D cI B s (va_A (mW B cI μ0) s.heap.size) μ H locs) (hl : lv_has ls 7 [(0, .ref (B 0)), (1, .int x1), (2, .int x2), (3, .int x3)]) (h : fM_lay_J74 x1 x2 x3 μ = some (r, μr)) : W p l e rmM_lay s m args below meth c H locs 0 0 (MQ below (mQi D cI B μ0 s.heap.size μr r) args s 0 0 (va_A (mW B cI μ0) s.heap.size)) (F0 m 74 ls []) := by
  have hx := hC.1.1
  have hb := hC.1.2.1
  have hown := hC.1.2.2.2.1
  have hts := hC.1.2.2.2.2
  unfold fM_lay_J74 at h
  refine lv_aload_n hx hb dX8_lay_74 rfl (lv_at hl 0 rfl) ?_
  refine m_get hC hH 7 (by decide) wfX8_28 rfl rfl dX8_lay_75 ?_
  refine lv_iload_n hx hb dX8_lay_78 rfl (lv_at hl 1 rfl) ?_
  obtain ⟨i7, h⟩ := ck_some h
  refine m_ald hC hH (a := 8) rfl rfl i7 dX8_lay_79 ?_
  obtain ⟨v8, e9, h⟩ := bnd_some h
  refine lv_tope e9 ?_
  refine lv_istore (lv' := [(5, .int v8), (0, .ref (B 0)), (1, .int x1), (2, .int x2), (3, .int x3)]) hx hb dX8_lay_80 hl (by decide) rfl (fun ls hl => ?_)
  refine lv_aload_n hx hb dX8_lay_82 rfl (lv_at hl 1 rfl) ?_
  refine m_get hC hH 7 (by decide) wfX8_28 rfl rfl dX8_lay_83 ?_
  refine lv_iload_n hx hb dX8_lay_86 rfl (lv_at hl 2 rfl) ?_
  refine lv_iload_n hx hb dX8_lay_87 rfl (lv_at hl 3 rfl) ?_
  obtain ⟨i10, h⟩ := ck_some h
  obtain ⟨μ11, e12, h⟩ := bnd_some h
  refine m_ast hC hH (a := 8) rfl rfl e12 i10 dX8_lay_88 (fun H locs hH => ?_)
  refine lv_aload_n hx hb dX8_lay_89 rfl (lv_at hl 1 rfl) ?_
  refine m_get hC hH 8 (by decide) wfX8_31 rfl rfl dX8_lay_90 ?_
  refine lv_iload_n hx hb dX8_lay_93 rfl (lv_at hl 2 rfl) ?_
  refine lv_iload_n hx hb dX8_lay_94 rfl (lv_at hl 3 rfl) ?_
  refine lv_iconst (v := 1) hx hb dX8_lay_95 (by decide) ?_
  refine lv_icmp_ne (tgt := 108) hx hb dX8_lay_96 (by decide) (fun c13 => ?_) (fun c13 => ?_)
  · have h := ite_f c13 h
    refine lv_iload_n hx hb dX8_lay_108 rfl (lv_at hl 4 rfl) ?_
    exact wM_lay_J109 hC hr  x1 x2 x3 v8 x1 x3 μ11 H locs ls  hH (lv_sub hl [1, 2, 3, 4, 0] rfl) h
  · have h := ite_t c13 h
    refine lv_aload_n hx hb dX8_lay_99 rfl (lv_at hl 1 rfl) ?_
    refine lv_iload_n hx hb dX8_lay_100 rfl (lv_at hl 4 rfl) ?_
    refine lv_iconst (v := 0) hx hb dX8_lay_101 (by decide) ?_
    obtain ⟨r36, h35, h⟩ := ob_some h
    refine m_calli (As := [.int x3, .int (0 : Int32)]) (rest := [.int x1, .ref (B 9)]) (cM_of l D cI B μ11 x3 (0 : Int32) h35) hC hH hl (cwV 2 hts (gV wmX8_99 wvX8_of) rfl rfl rfl hdX8_of ⟨Nat.le_of_ble_eq_true rfl, Nat.le_of_ble_eq_true rfl⟩) rfl rfl (Nat.le_of_ble_eq_true rfl) ⟨Nat.zero_le _, Nat.zero_le _⟩ dX8_lay_102 (fun H locs hH => ?_)
    refine lv_goto (tgt := 109) hx hb dX8_lay_105 (by decide) ?_
    exact wM_lay_J109 hC hr  x1 x2 x3 v8 x1 r36 μ11 H locs ls  hH (lv_sub hl [1, 2, 3, 4, 0] rfl) h

def fM_lay_J39 (x1 : Int32) (x2 : Int32) (x3 : Int32) (y0 : Int32) (μ : MS) : Option (Int32 × MS) :=
  ob (fM_isSlot μ x1) fun r3 =>
  if r3 = 0 then (
    some ((-1000000001 : Int32), μ))
  else (
    if y0 = 0 then (
      some ((-1000000001 : Int32), μ))
    else (
      if x2 = (2 : Int32) then (
        ck x3 (4) <|
        if 0 ≤ (μ 5 (x3).toNatClampNeg) then (
          fM_lay_J74 x1 x2 x3 μ)
        else (
          some ((-1000000011 : Int32), μ)))
      else (
        fM_lay_J74 x1 x2 x3 μ)))

set_option maxHeartbeats 4000000 in
set_option maxRecDepth 100000 in
theorem wM_lay_J39 {p : Program} {l : Launch} {e : Env} {s : State} {m : MethodId} {args : Array Value} {below : List Frame} {meth : Method} {c : Code} {D : va_G} {cI : ClassId} {B : Nat → Nat} {μ0 : MS} {r : Int32} {μr : MS} (hC : jC p s m args meth c cX8_lay 7 RX8) (hr : meth.sig.returnType = some .int) (x1 : Int32) (x2 : Int32) (x3 : Int32) (y0 : Int32) (μ : MS) (H : Heap) (locs : List Loc) (ls : Array Slot) (hH : mH D cI B s (va_A (mW B cI μ0) s.heap.size) μ H locs) (hl : lv_has ls 7 [(0, .ref (B 0)), (1, .int x1), (2, .int x2), (3, .int x3)]) (h : fM_lay_J39 x1 x2 x3 y0 μ = some (r, μr)) : W p l e rmM_lay s m args below meth c H locs 0 0 (MQ below (mQi D cI B μ0 s.heap.size μr r) args s 0 0 (va_A (mW B cI μ0) s.heap.size)) (F0 m 39 ls [.int y0]) := by
  have hx := hC.1.1
  have hb := hC.1.2.1
  have hown := hC.1.2.2.2.1
  have hts := hC.1.2.2.2.2
  unfold fM_lay_J39 at h
  refine lv_istore (lv' := [(4, .int y0), (0, .ref (B 0)), (1, .int x1), (2, .int x2), (3, .int x3)]) hx hb dX8_lay_39 hl (by decide) rfl (fun ls hl => ?_)
  refine lv_iload_n hx hb dX8_lay_41 rfl (lv_at hl 2 rfl) ?_
  obtain ⟨r3, h2, h⟩ := ob_some h
  refine m_calls (As := [.int x1]) (rest := []) (cM_isSlot l D cI B μ x1 h2) hC hH hl (va_cwS 1 hts (gS wmX8_311 wsX8_isSlot) rfl rfl rfl hdX8_isSlot ⟨Nat.le_of_ble_eq_true rfl, Nat.le_of_ble_eq_true rfl⟩) rfl rfl (Nat.le_of_ble_eq_true rfl) ⟨Nat.zero_le _, Nat.zero_le _⟩ dX8_lay_42 (fun H locs hH => ?_)
  refine lv_if_eq (tgt := 53) hx hb dX8_lay_45 (by decide) (fun c4 => ?_) (fun c4 => ?_)
  · have h := ite_t c4 h
    refine lv_ldc (v := -1000000001) hx hb hown (hts _ wkX8_90) dX8_lay_53 ?_
    obtain ⟨rfl, rfl⟩ := some_i2 h
    exact m_iret (v := -1000000001) hC hH hr rfl dX8_lay_55
  · have h := ite_f c4 h
    refine lv_iload hx hb dX8_lay_48 (lv_at hl 0 rfl) ?_
    refine lv_if_ne (tgt := 56) hx hb dX8_lay_50 (by decide) (fun c5 => ?_) (fun c5 => ?_)
    · have h := ite_f c5 h
      refine lv_iload_n hx hb dX8_lay_56 rfl (lv_at hl 3 rfl) ?_
      refine lv_iconst (v := 2) hx hb dX8_lay_57 (by decide) ?_
      refine lv_icmp_ne (tgt := 74) hx hb dX8_lay_58 (by decide) (fun c6 => ?_) (fun c6 => ?_)
      · have h := ite_f c6 h
        exact wM_lay_J74 hC hr  x1 x2 x3 μ H locs ls  hH (lv_sub hl [1, 2, 3, 4] rfl) h
      · have h := ite_t c6 h
        refine lv_aload_n hx hb dX8_lay_61 rfl (lv_at hl 1 rfl) ?_
        refine m_get hC hH 4 (by decide) wfX8_19 rfl rfl dX8_lay_62 ?_
        refine lv_iload_n hx hb dX8_lay_65 rfl (lv_at hl 4 rfl) ?_
        obtain ⟨i37, h⟩ := ck_some h
        refine m_ald hC hH (a := 5) rfl rfl i37 dX8_lay_66 ?_
        refine lv_if_ge (tgt := 74) hx hb dX8_lay_67 (by decide) (fun c38 => ?_) (fun c38 => ?_)
        · have h := ite_t c38 h
          exact wM_lay_J74 hC hr  x1 x2 x3 μ H locs ls  hH (lv_sub hl [1, 2, 3, 4] rfl) h
        · have h := ite_f c38 h
          refine lv_ldcw (v := -1000000011) hx hb hown (hts _ wkX8_303) dX8_lay_70 ?_
          obtain ⟨rfl, rfl⟩ := some_i2 h
          exact m_iret (v := -1000000011) hC hH hr rfl dX8_lay_73
    · have h := ite_t c5 h
      refine lv_ldc (v := -1000000001) hx hb hown (hts _ wkX8_90) dX8_lay_53 ?_
      obtain ⟨rfl, rfl⟩ := some_i2 h
      exact m_iret (v := -1000000001) hC hH hr rfl dX8_lay_55

def fM_lay_J34 (x1 : Int32) (x2 : Int32) (x3 : Int32) (μ : MS) : Option (Int32 × MS) :=
  fM_lay_J39 x1 x2 x3 (1 : Int32) μ

set_option maxHeartbeats 4000000 in
set_option maxRecDepth 100000 in
theorem wM_lay_J34 {p : Program} {l : Launch} {e : Env} {s : State} {m : MethodId} {args : Array Value} {below : List Frame} {meth : Method} {c : Code} {D : va_G} {cI : ClassId} {B : Nat → Nat} {μ0 : MS} {r : Int32} {μr : MS} (hC : jC p s m args meth c cX8_lay 7 RX8) (hr : meth.sig.returnType = some .int) (x1 : Int32) (x2 : Int32) (x3 : Int32) (μ : MS) (H : Heap) (locs : List Loc) (ls : Array Slot) (hH : mH D cI B s (va_A (mW B cI μ0) s.heap.size) μ H locs) (hl : lv_has ls 7 [(0, .ref (B 0)), (1, .int x1), (2, .int x2), (3, .int x3)]) (h : fM_lay_J34 x1 x2 x3 μ = some (r, μr)) : W p l e rmM_lay s m args below meth c H locs 0 0 (MQ below (mQi D cI B μ0 s.heap.size μr r) args s 0 0 (va_A (mW B cI μ0) s.heap.size)) (F0 m 34 ls []) := by
  have hx := hC.1.1
  have hb := hC.1.2.1
  have hown := hC.1.2.2.2.1
  have hts := hC.1.2.2.2.2
  unfold fM_lay_J34 at h
  refine lv_iconst (v := 1) hx hb dX8_lay_34 (by decide) ?_
  refine lv_goto (tgt := 39) hx hb dX8_lay_35 (by decide) ?_
  exact wM_lay_J39 hC hr  x1 x2 x3 (1 : Int32) μ H locs ls  hH hl h

def fM_lay_J38 (x1 : Int32) (x2 : Int32) (x3 : Int32) (μ : MS) : Option (Int32 × MS) :=
  fM_lay_J39 x1 x2 x3 (0 : Int32) μ

set_option maxHeartbeats 4000000 in
set_option maxRecDepth 100000 in
theorem wM_lay_J38 {p : Program} {l : Launch} {e : Env} {s : State} {m : MethodId} {args : Array Value} {below : List Frame} {meth : Method} {c : Code} {D : va_G} {cI : ClassId} {B : Nat → Nat} {μ0 : MS} {r : Int32} {μr : MS} (hC : jC p s m args meth c cX8_lay 7 RX8) (hr : meth.sig.returnType = some .int) (x1 : Int32) (x2 : Int32) (x3 : Int32) (μ : MS) (H : Heap) (locs : List Loc) (ls : Array Slot) (hH : mH D cI B s (va_A (mW B cI μ0) s.heap.size) μ H locs) (hl : lv_has ls 7 [(0, .ref (B 0)), (1, .int x1), (2, .int x2), (3, .int x3)]) (h : fM_lay_J38 x1 x2 x3 μ = some (r, μr)) : W p l e rmM_lay s m args below meth c H locs 0 0 (MQ below (mQi D cI B μ0 s.heap.size μr r) args s 0 0 (va_A (mW B cI μ0) s.heap.size)) (F0 m 38 ls []) := by
  have hx := hC.1.1
  have hb := hC.1.2.1
  have hown := hC.1.2.2.2.1
  have hts := hC.1.2.2.2.2
  unfold fM_lay_J38 at h
  refine lv_iconst (v := 0) hx hb dX8_lay_38 (by decide) ?_
  exact wM_lay_J39 hC hr  x1 x2 x3 (0 : Int32) μ H locs ls  hH hl h

def fM_lay_J22 (x1 : Int32) (x2 : Int32) (x3 : Int32) (μ : MS) : Option (Int32 × MS) :=
  if x2 = (2 : Int32) then (
    ob (fM_isSheet μ x3) fun r43 =>
    if r43 = 0 then (
      fM_lay_J38 x1 x2 x3 μ)
    else (
      fM_lay_J34 x1 x2 x3 μ))
  else (
    fM_lay_J38 x1 x2 x3 μ)

set_option maxHeartbeats 4000000 in
set_option maxRecDepth 100000 in
theorem wM_lay_J22 {p : Program} {l : Launch} {e : Env} {s : State} {m : MethodId} {args : Array Value} {below : List Frame} {meth : Method} {c : Code} {D : va_G} {cI : ClassId} {B : Nat → Nat} {μ0 : MS} {r : Int32} {μr : MS} (hC : jC p s m args meth c cX8_lay 7 RX8) (hr : meth.sig.returnType = some .int) (x1 : Int32) (x2 : Int32) (x3 : Int32) (μ : MS) (H : Heap) (locs : List Loc) (ls : Array Slot) (hH : mH D cI B s (va_A (mW B cI μ0) s.heap.size) μ H locs) (hl : lv_has ls 7 [(0, .ref (B 0)), (1, .int x1), (2, .int x2), (3, .int x3)]) (h : fM_lay_J22 x1 x2 x3 μ = some (r, μr)) : W p l e rmM_lay s m args below meth c H locs 0 0 (MQ below (mQi D cI B μ0 s.heap.size μr r) args s 0 0 (va_A (mW B cI μ0) s.heap.size)) (F0 m 22 ls []) := by
  have hx := hC.1.1
  have hb := hC.1.2.1
  have hown := hC.1.2.2.2.1
  have hts := hC.1.2.2.2.2
  unfold fM_lay_J22 at h
  refine lv_iload_n hx hb dX8_lay_22 rfl (lv_at hl 2 rfl) ?_
  refine lv_iconst (v := 2) hx hb dX8_lay_23 (by decide) ?_
  refine lv_icmp_ne (tgt := 38) hx hb dX8_lay_24 (by decide) (fun c41 => ?_) (fun c41 => ?_)
  · have h := ite_f c41 h
    exact wM_lay_J38 hC hr  x1 x2 x3 μ H locs ls  hH hl h
  · have h := ite_t c41 h
    refine lv_iload_n hx hb dX8_lay_27 rfl (lv_at hl 3 rfl) ?_
    obtain ⟨r43, h42, h⟩ := ob_some h
    refine m_calls (As := [.int x3]) (rest := []) (cM_isSheet l D cI B μ x3 h42) hC hH hl (va_cwS 1 hts (gS wmX8_297 wsX8_isSheet) rfl rfl rfl hdX8_isSheet ⟨Nat.le_of_ble_eq_true rfl, Nat.le_of_ble_eq_true rfl⟩) rfl rfl (Nat.le_of_ble_eq_true rfl) ⟨Nat.zero_le _, Nat.zero_le _⟩ dX8_lay_28 (fun H locs hH => ?_)
    refine lv_if_eq (tgt := 38) hx hb dX8_lay_31 (by decide) (fun c44 => ?_) (fun c44 => ?_)
    · have h := ite_t c44 h
      exact wM_lay_J38 hC hr  x1 x2 x3 μ H locs ls  hH hl h
    · have h := ite_f c44 h
      exact wM_lay_J34 hC hr  x1 x2 x3 μ H locs ls  hH hl h

def fM_lay (μ0 : MS) (x1 : Int32) (x2 : Int32) (x3 : Int32) : Option (Int32 × MS) :=
  if x2 = 0 then (
    fM_lay_J34 x1 x2 x3 μ0)
  else (
    if x2 = (3 : Int32) then (
      fM_lay_J34 x1 x2 x3 μ0)
    else (
      if x2 = (1 : Int32) then (
        ob (fM_isOne μ0 x3) fun r46 =>
        if r46 = 0 then (
          fM_lay_J22 x1 x2 x3 μ0)
        else (
          fM_lay_J34 x1 x2 x3 μ0))
      else (
        fM_lay_J22 x1 x2 x3 μ0)))

set_option maxHeartbeats 4000000 in
set_option maxRecDepth 100000 in
theorem cM_lay (l : Launch) (D : va_G) (cI : ClassId) (B : Nat → Nat) (μ0 : MS) (x1 : Int32) (x2 : Int32) (x3 : Int32) {r : Int32} {μr : MS} (h : fM_lay μ0 x1 x2 x3 = some (r, μr)) : ∀ sz, Met l yX8_lay (Cond.code yX8_lay cX8_lay 7 (some .int) :: Tw) rmM_lay (mP D cI B μ0 sz [.ref (B 0), .int x1, .int x2, .int x3]) (mQi D cI B μ0 sz μr r) 0 0 (va_A (mW B cI μ0) sz) := by
  intro sz
  refine Met.ofW (cc := cX8_lay) (maxL := 7) (ret := (some .int)) (by decide) rfl ?_
  intro p e s m args below meth c s₁ Bd hml hv
  obtain ⟨hC, hr⟩ := jC_of Bd hml
  obtain ⟨rfl, rfl, hH⟩ := m_enter hv
  have hC : jC p s m _ meth c cX8_lay 7 RX8 := hC
  have hx := hC.1.1
  have hb := hC.1.2.1
  have hown := hC.1.2.2.2.1
  have hts := hC.1.2.2.2.2
  have hl := lv_entry ([.ref (B 0), .int x1, .int x2, .int x3]) (n := 7) (Nat.le_of_ble_eq_true rfl)
  rw [lg_entry_eq]
  generalize (lg_sl ([.ref (B 0), .int x1, .int x2, .int x3]) ++ List.replicate (7 - (lg_sl ([.ref (B 0), .int x1, .int x2, .int x3])).length) Slot.unset).toArray = ls at hl ⊢
  have hl : lv_has ls 7 [(0, .ref (B 0)), (1, .int x1), (2, .int x2), (3, .int x3)] := hl
  unfold fM_lay at h
  refine W_nm (fun H locs eH eL => ?_)
  have hH : mH D cI B s (va_A (mW B cI μ0) s.heap.size) μ0 H locs := by rw [eH, eL]; exact hH
  show W p l e rmM_lay s m _ below meth c H locs 0 0 _ (F0 m 0 ls [])
  refine lv_iload_n hx hb dX8_lay_0 rfl (lv_at hl 2 rfl) ?_
  refine lv_if_eq (tgt := 34) hx hb dX8_lay_1 (by decide) (fun c1 => ?_) (fun c1 => ?_)
  · have h := ite_t c1 h
    exact wM_lay_J34 hC hr  x1 x2 x3 μ0 H locs ls  hH hl h
  · have h := ite_f c1 h
    refine lv_iload_n hx hb dX8_lay_4 rfl (lv_at hl 2 rfl) ?_
    refine lv_iconst (v := 3) hx hb dX8_lay_5 (by decide) ?_
    refine lv_icmp_eq (tgt := 34) hx hb dX8_lay_6 (by decide) (fun c39 => ?_) (fun c39 => ?_)
    · have h := ite_t c39 h
      exact wM_lay_J34 hC hr  x1 x2 x3 μ0 H locs ls  hH hl h
    · have h := ite_f c39 h
      refine lv_iload_n hx hb dX8_lay_9 rfl (lv_at hl 2 rfl) ?_
      refine lv_iconst (v := 1) hx hb dX8_lay_10 (by decide) ?_
      refine lv_icmp_ne (tgt := 22) hx hb dX8_lay_11 (by decide) (fun c40 => ?_) (fun c40 => ?_)
      · have h := ite_f c40 h
        exact wM_lay_J22 hC hr  x1 x2 x3 μ0 H locs ls  hH hl h
      · have h := ite_t c40 h
        refine lv_aload_n hx hb dX8_lay_14 rfl (lv_at hl 0 rfl) ?_
        refine lv_iload_n hx hb dX8_lay_15 rfl (lv_at hl 3 rfl) ?_
        obtain ⟨r46, h45, h⟩ := ob_some h
        refine m_calli (As := [.int x3]) (rest := []) (cM_isOne l D cI B μ0 x3 h45) hC hH hl (cwV 1 hts (gV wmX8_112 wvX8_isOne) rfl rfl rfl hdX8_isOne ⟨Nat.le_of_ble_eq_true rfl, Nat.le_of_ble_eq_true rfl⟩) rfl rfl (Nat.le_of_ble_eq_true rfl) ⟨Nat.zero_le _, Nat.zero_le _⟩ dX8_lay_16 (fun H locs hH => ?_)
        refine lv_if_ne (tgt := 34) hx hb dX8_lay_19 (by decide) (fun c47 => ?_) (fun c47 => ?_)
        · have h := ite_f c47 h
          exact wM_lay_J34 hC hr  x1 x2 x3 μ0 H locs ls  hH hl h
        · have h := ite_t c47 h
          exact wM_lay_J22 hC hr  x1 x2 x3 μ0 H locs ls  hH hl h

def rmM_ask : Room := { frames := 2, cells := 0, slots := 0, locals := 45 }
theorem hdX8_ask : yX8_ask.cls = RX8 ∧ yX8_ask.cls ≠ "java/lang/invoke/MethodHandle" ∧ yX8_ask.cls ≠ "java/lang/invoke/VarHandle" ∧ (parseMethodDescriptor yX8_ask.desc).map (fun d => d.parameters.length) = some 2 := by decide +kernel

def fM_ask (μ0 : MS) (x1 : Int32) (x2 : Int32) : Option (Int32) :=
  ob (fM_isSlot μ0 x1) fun r2 =>
  if r2 = 0 then (
    some (-1000000001 : Int32))
  else (
    ob (fM_isIn μ0 (x2).toInt64 (0 : Int64) (5 : Int64)) fun r5 =>
    if r5 = 0 then (
      some (-1000000001 : Int32))
    else (
      ck x1 (5) <|
      if (μ0 8 (x1).toNatClampNeg) = 0 then (
        some (-1000000011 : Int32))
      else (
        ck x1 (5) <|
        if (μ0 8 (x1).toNatClampNeg) = (1 : Int32) then (
          ck x1 (5) <|
          ob (fM_isOf μ0 (μ0 9 (x1).toNatClampNeg) x2) fun r13 =>
          if r13 = 0 then (
            some (-1000000012 : Int32))
          else (
            ck x1 (5) <|
            some (μ0 10 (x1).toNatClampNeg)))
        else (
          some (-1000000012 : Int32)))))

set_option maxHeartbeats 4000000 in
set_option maxRecDepth 100000 in
theorem cM_ask (l : Launch) (D : va_G) (cI : ClassId) (B : Nat → Nat) (μ0 : MS) (x1 : Int32) (x2 : Int32) {r : Int32} (h : fM_ask μ0 x1 x2 = some r) : ∀ sz, Met l yX8_ask (Cond.code yX8_ask cX8_ask 3 (some .int) :: Tw) rmM_ask (mP D cI B μ0 sz [.ref (B 0), .int x1, .int x2]) (mQi D cI B μ0 sz μ0 r) 0 0 (va_A (mW B cI μ0) sz) := by
  intro sz
  refine Met.ofW (cc := cX8_ask) (maxL := 3) (ret := (some .int)) (by decide) rfl ?_
  intro p e s m args below meth c s₁ Bd hml hv
  obtain ⟨hC, hr⟩ := jC_of Bd hml
  obtain ⟨rfl, rfl, hH⟩ := m_enter hv
  have hC : jC p s m _ meth c cX8_ask 3 RX8 := hC
  have hx := hC.1.1
  have hb := hC.1.2.1
  have hown := hC.1.2.2.2.1
  have hts := hC.1.2.2.2.2
  have hl := lv_entry ([.ref (B 0), .int x1, .int x2]) (n := 3) (Nat.le_of_ble_eq_true rfl)
  rw [lg_entry_eq]
  generalize (lg_sl ([.ref (B 0), .int x1, .int x2]) ++ List.replicate (3 - (lg_sl ([.ref (B 0), .int x1, .int x2])).length) Slot.unset).toArray = ls at hl ⊢
  have hl : lv_has ls 3 [(0, .ref (B 0)), (1, .int x1), (2, .int x2)] := hl
  unfold fM_ask at h
  refine W_nm (fun H locs eH eL => ?_)
  have hH : mH D cI B s (va_A (mW B cI μ0) s.heap.size) μ0 H locs := by rw [eH, eL]; exact hH
  show W p l e rmM_ask s m _ below meth c H locs 0 0 _ (F0 m 0 ls [])
  refine lv_iload_n hx hb dX8_ask_0 rfl (lv_at hl 1 rfl) ?_
  obtain ⟨r2, h1, h⟩ := ob_some h
  refine m_calls (As := [.int x1]) (rest := []) (cM_isSlot l D cI B μ0 x1 h1) hC hH hl (va_cwS 1 hts (gS wmX8_311 wsX8_isSlot) rfl rfl rfl hdX8_isSlot ⟨Nat.le_of_ble_eq_true rfl, Nat.le_of_ble_eq_true rfl⟩) rfl rfl (Nat.le_of_ble_eq_true rfl) ⟨Nat.zero_le _, Nat.zero_le _⟩ dX8_ask_1 (fun H locs hH => ?_)
  refine lv_if_eq (tgt := 19) hx hb dX8_ask_4 (by decide) (fun c3 => ?_) (fun c3 => ?_)
  · have h := ite_t c3 h
    refine lv_ldc (v := -1000000001) hx hb hown (hts _ wkX8_90) dX8_ask_19 ?_
    obtain rfl := some_i1 h
    exact m_iret (v := -1000000001) hC hH hr rfl dX8_ask_21
  · have h := ite_f c3 h
    refine lv_iload_n hx hb dX8_ask_7 rfl (lv_at hl 2 rfl) ?_
    refine lv_i2l hx hb dX8_ask_8 rfl ?_
    refine lv_lconst (v := 0) hx hb dX8_ask_9 (by decide) ?_
    refine lv_ldc2 (v := 5) hx hb hown (hts _ wqX8_84) dX8_ask_10 ?_
    obtain ⟨r5, h4, h⟩ := ob_some h
    refine m_calls (As := [.long (x2).toInt64, .long (0 : Int64), .long (5 : Int64)]) (rest := []) (cM_isIn l D cI B μ0 (x2).toInt64 (0 : Int64) (5 : Int64) h4) hC hH hl (va_cwS 3 hts (gS wmX8_75 wsX8_isIn) rfl rfl rfl hdX8_isIn ⟨Nat.le_of_ble_eq_true rfl, Nat.le_of_ble_eq_true rfl⟩) rfl rfl (Nat.le_of_ble_eq_true rfl) ⟨Nat.zero_le _, Nat.zero_le _⟩ dX8_ask_13 (fun H locs hH => ?_)
    refine lv_if_ne (tgt := 22) hx hb dX8_ask_16 (by decide) (fun c6 => ?_) (fun c6 => ?_)
    · have h := ite_f c6 h
      refine lv_aload_n hx hb dX8_ask_22 rfl (lv_at hl 0 rfl) ?_
      refine m_get hC hH 7 (by decide) wfX8_28 rfl rfl dX8_ask_23 ?_
      refine lv_iload_n hx hb dX8_ask_26 rfl (lv_at hl 1 rfl) ?_
      obtain ⟨i7, h⟩ := ck_some h
      refine m_ald hC hH (a := 8) rfl rfl i7 dX8_ask_27 ?_
      refine lv_if_ne (tgt := 35) hx hb dX8_ask_28 (by decide) (fun c8 => ?_) (fun c8 => ?_)
      · have h := ite_f c8 h
        refine lv_aload_n hx hb dX8_ask_35 rfl (lv_at hl 0 rfl) ?_
        refine m_get hC hH 7 (by decide) wfX8_28 rfl rfl dX8_ask_36 ?_
        refine lv_iload_n hx hb dX8_ask_39 rfl (lv_at hl 1 rfl) ?_
        obtain ⟨i9, h⟩ := ck_some h
        refine m_ald hC hH (a := 8) rfl rfl i9 dX8_ask_40 ?_
        refine lv_iconst (v := 1) hx hb dX8_ask_41 (by decide) ?_
        refine lv_icmp_ne (tgt := 67) hx hb dX8_ask_42 (by decide) (fun c10 => ?_) (fun c10 => ?_)
        · have h := ite_f c10 h
          refine lv_ldc (v := -1000000012) hx hb hown (hts _ wkX8_132) dX8_ask_67 ?_
          obtain rfl := some_i1 h
          exact m_iret (v := -1000000012) hC hH hr rfl dX8_ask_69
        · have h := ite_t c10 h
          refine lv_aload_n hx hb dX8_ask_45 rfl (lv_at hl 0 rfl) ?_
          refine m_get hC hH 8 (by decide) wfX8_31 rfl rfl dX8_ask_46 ?_
          refine lv_iload_n hx hb dX8_ask_49 rfl (lv_at hl 1 rfl) ?_
          obtain ⟨i11, h⟩ := ck_some h
          refine m_ald hC hH (a := 9) rfl rfl i11 dX8_ask_50 ?_
          refine lv_iload_n hx hb dX8_ask_51 rfl (lv_at hl 2 rfl) ?_
          obtain ⟨r13, h12, h⟩ := ob_some h
          refine m_calls (As := [.int (μ0 9 (x1).toNatClampNeg), .int x2]) (rest := []) (cM_isOf l D cI B μ0 (μ0 9 (x1).toNatClampNeg) x2 h12) hC hH hl (va_cwS 2 hts (gS wmX8_128 wsX8_isOf) rfl rfl rfl hdX8_isOf ⟨Nat.le_of_ble_eq_true rfl, Nat.le_of_ble_eq_true rfl⟩) rfl rfl (Nat.le_of_ble_eq_true rfl) ⟨Nat.zero_le _, Nat.zero_le _⟩ dX8_ask_52 (fun H locs hH => ?_)
          refine lv_if_eq (tgt := 67) hx hb dX8_ask_55 (by decide) (fun c14 => ?_) (fun c14 => ?_)
          · have h := ite_t c14 h
            refine lv_ldc (v := -1000000012) hx hb hown (hts _ wkX8_132) dX8_ask_67 ?_
            obtain rfl := some_i1 h
            exact m_iret (v := -1000000012) hC hH hr rfl dX8_ask_69
          · have h := ite_f c14 h
            refine lv_aload_n hx hb dX8_ask_58 rfl (lv_at hl 0 rfl) ?_
            refine m_get hC hH 9 (by decide) wfX8_34 rfl rfl dX8_ask_59 ?_
            refine lv_iload_n hx hb dX8_ask_62 rfl (lv_at hl 1 rfl) ?_
            obtain ⟨i15, h⟩ := ck_some h
            refine m_ald hC hH (a := 10) rfl rfl i15 dX8_ask_63 ?_
            refine lv_goto (tgt := 69) hx hb dX8_ask_64 (by decide) ?_
            obtain rfl := some_i1 h
            exact m_iret hC hH hr rfl dX8_ask_69
      · have h := ite_t c8 h
        refine lv_ldcw (v := -1000000011) hx hb hown (hts _ wkX8_303) dX8_ask_31 ?_
        obtain rfl := some_i1 h
        exact m_iret (v := -1000000011) hC hH hr rfl dX8_ask_34
    · have h := ite_t c6 h
      refine lv_ldc (v := -1000000001) hx hb hown (hts _ wkX8_90) dX8_ask_19 ?_
      obtain rfl := some_i1 h
      exact m_iret (v := -1000000001) hC hH hr rfl dX8_ask_21

def rmM_item : Room := { frames := 2, cells := 0, slots := 0, locals := 45 }
theorem hdX8_item : yX8_item.cls = RX8 ∧ yX8_item.cls ≠ "java/lang/invoke/MethodHandle" ∧ yX8_item.cls ≠ "java/lang/invoke/VarHandle" ∧ (parseMethodDescriptor yX8_item.desc).map (fun d => d.parameters.length) = some 2 := by decide +kernel

def fM_item (μ0 : MS) (x1 : Int32) (x2 : Int32) : Option (Int32) :=
  ob (fM_isSlot μ0 x1) fun r2 =>
  if r2 = 0 then (
    some (-1000000001 : Int32))
  else (
    ck x1 (5) <|
    if (μ0 8 (x1).toNatClampNeg) = (2 : Int32) then (
      ck x1 (5) <|
      ob (fM_isIn μ0 (x2).toInt64 (0 : Int64) (((μ0 11 (x1).toNatClampNeg) - (1 : Int32))).toInt64) fun r8 =>
      if r8 = 0 then (
        some (-1000000013 : Int32))
      else (
        ck (((24 : Int32) * x1) + x2) (120) <|
        bnd (μ0 12 ((((24 : Int32) * x1) + x2)).toNatClampNeg) fun v11 =>
        if v11 = (-1000000005 : Int32) then (
          some (-1000000012 : Int32))
        else (
          some v11)))
    else (
      ck x1 (5) <|
      if (μ0 8 (x1).toNatClampNeg) = 0 then (
        some (-1000000011 : Int32))
      else (
        some (-1000000012 : Int32))))

set_option maxHeartbeats 4000000 in
set_option maxRecDepth 100000 in
theorem cM_item (l : Launch) (D : va_G) (cI : ClassId) (B : Nat → Nat) (μ0 : MS) (x1 : Int32) (x2 : Int32) {r : Int32} (h : fM_item μ0 x1 x2 = some r) : ∀ sz, Met l yX8_item (Cond.code yX8_item cX8_item 4 (some .int) :: Tw) rmM_item (mP D cI B μ0 sz [.ref (B 0), .int x1, .int x2]) (mQi D cI B μ0 sz μ0 r) 0 0 (va_A (mW B cI μ0) sz) := by
  intro sz
  refine Met.ofW (cc := cX8_item) (maxL := 4) (ret := (some .int)) (by decide) rfl ?_
  intro p e s m args below meth c s₁ Bd hml hv
  obtain ⟨hC, hr⟩ := jC_of Bd hml
  obtain ⟨rfl, rfl, hH⟩ := m_enter hv
  have hC : jC p s m _ meth c cX8_item 4 RX8 := hC
  have hx := hC.1.1
  have hb := hC.1.2.1
  have hown := hC.1.2.2.2.1
  have hts := hC.1.2.2.2.2
  have hl := lv_entry ([.ref (B 0), .int x1, .int x2]) (n := 4) (Nat.le_of_ble_eq_true rfl)
  rw [lg_entry_eq]
  generalize (lg_sl ([.ref (B 0), .int x1, .int x2]) ++ List.replicate (4 - (lg_sl ([.ref (B 0), .int x1, .int x2])).length) Slot.unset).toArray = ls at hl ⊢
  have hl : lv_has ls 4 [(0, .ref (B 0)), (1, .int x1), (2, .int x2)] := hl
  unfold fM_item at h
  refine W_nm (fun H locs eH eL => ?_)
  have hH : mH D cI B s (va_A (mW B cI μ0) s.heap.size) μ0 H locs := by rw [eH, eL]; exact hH
  show W p l e rmM_item s m _ below meth c H locs 0 0 _ (F0 m 0 ls [])
  refine lv_iload_n hx hb dX8_item_0 rfl (lv_at hl 1 rfl) ?_
  obtain ⟨r2, h1, h⟩ := ob_some h
  refine m_calls (As := [.int x1]) (rest := []) (cM_isSlot l D cI B μ0 x1 h1) hC hH hl (va_cwS 1 hts (gS wmX8_311 wsX8_isSlot) rfl rfl rfl hdX8_isSlot ⟨Nat.le_of_ble_eq_true rfl, Nat.le_of_ble_eq_true rfl⟩) rfl rfl (Nat.le_of_ble_eq_true rfl) ⟨Nat.zero_le _, Nat.zero_le _⟩ dX8_item_1 (fun H locs hH => ?_)
  refine lv_if_ne (tgt := 10) hx hb dX8_item_4 (by decide) (fun c3 => ?_) (fun c3 => ?_)
  · have h := ite_f c3 h
    refine lv_aload_n hx hb dX8_item_10 rfl (lv_at hl 0 rfl) ?_
    refine m_get hC hH 7 (by decide) wfX8_28 rfl rfl dX8_item_11 ?_
    refine lv_iload_n hx hb dX8_item_14 rfl (lv_at hl 1 rfl) ?_
    obtain ⟨i4, h⟩ := ck_some h
    refine m_ald hC hH (a := 8) rfl rfl i4 dX8_item_15 ?_
    refine lv_iconst (v := 2) hx hb dX8_item_16 (by decide) ?_
    refine lv_icmp_eq (tgt := 38) hx hb dX8_item_17 (by decide) (fun c5 => ?_) (fun c5 => ?_)
    · have h := ite_t c5 h
      refine lv_iload_n hx hb dX8_item_38 rfl (lv_at hl 2 rfl) ?_
      refine lv_i2l hx hb dX8_item_39 rfl ?_
      refine lv_lconst (v := 0) hx hb dX8_item_40 (by decide) ?_
      refine lv_aload_n hx hb dX8_item_41 rfl (lv_at hl 0 rfl) ?_
      refine m_get hC hH 10 (by decide) wfX8_37 rfl rfl dX8_item_42 ?_
      refine lv_iload_n hx hb dX8_item_45 rfl (lv_at hl 1 rfl) ?_
      obtain ⟨i6, h⟩ := ck_some h
      refine m_ald hC hH (a := 11) rfl rfl i6 dX8_item_46 ?_
      refine lv_iconst (v := 1) hx hb dX8_item_47 (by decide) ?_
      refine lv_isub hx hb dX8_item_48 ?_
      refine lv_i2l hx hb dX8_item_49 rfl ?_
      obtain ⟨r8, h7, h⟩ := ob_some h
      refine m_calls (As := [.long (x2).toInt64, .long (0 : Int64), .long (((μ0 11 (x1).toNatClampNeg) - (1 : Int32))).toInt64]) (rest := []) (cM_isIn l D cI B μ0 (x2).toInt64 (0 : Int64) (((μ0 11 (x1).toNatClampNeg) - (1 : Int32))).toInt64 h7) hC hH hl (va_cwS 3 hts (gS wmX8_75 wsX8_isIn) rfl rfl rfl hdX8_isIn ⟨Nat.le_of_ble_eq_true rfl, Nat.le_of_ble_eq_true rfl⟩) rfl rfl (Nat.le_of_ble_eq_true rfl) ⟨Nat.zero_le _, Nat.zero_le _⟩ dX8_item_50 (fun H locs hH => ?_)
      refine lv_if_ne (tgt := 60) hx hb dX8_item_53 (by decide) (fun c9 => ?_) (fun c9 => ?_)
      · have h := ite_f c9 h
        refine lv_aload_n hx hb dX8_item_60 rfl (lv_at hl 0 rfl) ?_
        refine m_get hC hH 11 (by decide) wfX8_40 rfl rfl dX8_item_61 ?_
        refine lv_bipush (v := 24) hx hb dX8_item_64 (by decide) ?_
        refine lv_iload_n hx hb dX8_item_66 rfl (lv_at hl 1 rfl) ?_
        refine lv_imul hx hb dX8_item_67 ?_
        refine lv_iload_n hx hb dX8_item_68 rfl (lv_at hl 2 rfl) ?_
        refine lv_iadd hx hb dX8_item_69 ?_
        obtain ⟨i10, h⟩ := ck_some h
        refine m_ald hC hH (a := 12) rfl rfl i10 dX8_item_70 ?_
        obtain ⟨v11, e12, h⟩ := bnd_some h
        refine lv_tope e12 ?_
        refine lv_istore_n (lv' := [(3, .int v11), (0, .ref (B 0)), (1, .int x1), (2, .int x2)]) hx hb dX8_item_71 rfl hl (by decide) rfl (fun ls hl => ?_)
        refine lv_iload_n hx hb dX8_item_72 rfl (lv_at hl 0 rfl) ?_
        refine lv_ldc (v := -1000000005) hx hb hown (hts _ wkX8_74) dX8_item_73 ?_
        refine lv_icmp_ne (tgt := 83) hx hb dX8_item_75 (by decide) (fun c13 => ?_) (fun c13 => ?_)
        · have h := ite_f c13 h
          refine lv_iload_n hx hb dX8_item_83 rfl (lv_at hl 0 rfl) ?_
          obtain rfl := some_i1 h
          exact m_iret hC hH hr rfl dX8_item_84
        · have h := ite_t c13 h
          refine lv_ldc (v := -1000000012) hx hb hown (hts _ wkX8_132) dX8_item_78 ?_
          refine lv_goto (tgt := 84) hx hb dX8_item_80 (by decide) ?_
          obtain rfl := some_i1 h
          exact m_iret (v := -1000000012) hC hH hr rfl dX8_item_84
      · have h := ite_t c9 h
        refine lv_ldcw (v := -1000000013) hx hb hown (hts _ wkX8_304) dX8_item_56 ?_
        obtain rfl := some_i1 h
        exact m_iret (v := -1000000013) hC hH hr rfl dX8_item_59
    · have h := ite_f c5 h
      refine lv_aload_n hx hb dX8_item_20 rfl (lv_at hl 0 rfl) ?_
      refine m_get hC hH 7 (by decide) wfX8_28 rfl rfl dX8_item_21 ?_
      refine lv_iload_n hx hb dX8_item_24 rfl (lv_at hl 1 rfl) ?_
      obtain ⟨i14, h⟩ := ck_some h
      refine m_ald hC hH (a := 8) rfl rfl i14 dX8_item_25 ?_
      refine lv_if_ne (tgt := 35) hx hb dX8_item_26 (by decide) (fun c15 => ?_) (fun c15 => ?_)
      · have h := ite_f c15 h
        refine lv_ldc (v := -1000000012) hx hb hown (hts _ wkX8_132) dX8_item_35 ?_
        obtain rfl := some_i1 h
        exact m_iret (v := -1000000012) hC hH hr rfl dX8_item_37
      · have h := ite_t c15 h
        refine lv_ldcw (v := -1000000011) hx hb hown (hts _ wkX8_303) dX8_item_29 ?_
        refine lv_goto (tgt := 37) hx hb dX8_item_32 (by decide) ?_
        obtain rfl := some_i1 h
        exact m_iret (v := -1000000011) hC hH hr rfl dX8_item_37
  · have h := ite_t c3 h
    refine lv_ldc (v := -1000000001) hx hb hown (hts _ wkX8_90) dX8_item_7 ?_
    obtain rfl := some_i1 h
    exact m_iret (v := -1000000001) hC hH hr rfl dX8_item_9

def rmM_rest : Room := { frames := 2, cells := 0, slots := 0, locals := 45 }
theorem hdX8_rest : yX8_rest.cls = RX8 ∧ yX8_rest.cls ≠ "java/lang/invoke/MethodHandle" ∧ yX8_rest.cls ≠ "java/lang/invoke/VarHandle" ∧ (parseMethodDescriptor yX8_rest.desc).map (fun d => d.parameters.length) = some 2 := by decide +kernel

def fM_rest (μ0 : MS) (x1 : Int32) (x2 : Int32) : Option (Int32) :=
  ob (fM_isSlot μ0 x1) fun r2 =>
  if r2 = 0 then (
    some (-1000000001 : Int32))
  else (
    ck x1 (5) <|
    if (μ0 8 (x1).toNatClampNeg) = (3 : Int32) then (
      if x2 = 0 then (
        some (-1000000002 : Int32))
      else (
        ck x1 (5) <|
        nz x2 <|
        some ((μ0 9 (x1).toNatClampNeg) - (μ0 9 (x1).toNatClampNeg) / x2 * x2)))
    else (
      ck x1 (5) <|
      if (μ0 8 (x1).toNatClampNeg) = 0 then (
        some (-1000000011 : Int32))
      else (
        some (-1000000012 : Int32))))

set_option maxHeartbeats 4000000 in
set_option maxRecDepth 100000 in
theorem cM_rest (l : Launch) (D : va_G) (cI : ClassId) (B : Nat → Nat) (μ0 : MS) (x1 : Int32) (x2 : Int32) {r : Int32} (h : fM_rest μ0 x1 x2 = some r) : ∀ sz, Met l yX8_rest (Cond.code yX8_rest cX8_rest 3 (some .int) :: Tw) rmM_rest (mP D cI B μ0 sz [.ref (B 0), .int x1, .int x2]) (mQi D cI B μ0 sz μ0 r) 0 0 (va_A (mW B cI μ0) sz) := by
  intro sz
  refine Met.ofW (cc := cX8_rest) (maxL := 3) (ret := (some .int)) (by decide) rfl ?_
  intro p e s m args below meth c s₁ Bd hml hv
  obtain ⟨hC, hr⟩ := jC_of Bd hml
  obtain ⟨rfl, rfl, hH⟩ := m_enter hv
  have hC : jC p s m _ meth c cX8_rest 3 RX8 := hC
  have hx := hC.1.1
  have hb := hC.1.2.1
  have hown := hC.1.2.2.2.1
  have hts := hC.1.2.2.2.2
  have hl := lv_entry ([.ref (B 0), .int x1, .int x2]) (n := 3) (Nat.le_of_ble_eq_true rfl)
  rw [lg_entry_eq]
  generalize (lg_sl ([.ref (B 0), .int x1, .int x2]) ++ List.replicate (3 - (lg_sl ([.ref (B 0), .int x1, .int x2])).length) Slot.unset).toArray = ls at hl ⊢
  have hl : lv_has ls 3 [(0, .ref (B 0)), (1, .int x1), (2, .int x2)] := hl
  unfold fM_rest at h
  refine W_nm (fun H locs eH eL => ?_)
  have hH : mH D cI B s (va_A (mW B cI μ0) s.heap.size) μ0 H locs := by rw [eH, eL]; exact hH
  show W p l e rmM_rest s m _ below meth c H locs 0 0 _ (F0 m 0 ls [])
  refine lv_iload_n hx hb dX8_rest_0 rfl (lv_at hl 1 rfl) ?_
  obtain ⟨r2, h1, h⟩ := ob_some h
  refine m_calls (As := [.int x1]) (rest := []) (cM_isSlot l D cI B μ0 x1 h1) hC hH hl (va_cwS 1 hts (gS wmX8_311 wsX8_isSlot) rfl rfl rfl hdX8_isSlot ⟨Nat.le_of_ble_eq_true rfl, Nat.le_of_ble_eq_true rfl⟩) rfl rfl (Nat.le_of_ble_eq_true rfl) ⟨Nat.zero_le _, Nat.zero_le _⟩ dX8_rest_1 (fun H locs hH => ?_)
  refine lv_if_ne (tgt := 10) hx hb dX8_rest_4 (by decide) (fun c3 => ?_) (fun c3 => ?_)
  · have h := ite_f c3 h
    refine lv_aload_n hx hb dX8_rest_10 rfl (lv_at hl 0 rfl) ?_
    refine m_get hC hH 7 (by decide) wfX8_28 rfl rfl dX8_rest_11 ?_
    refine lv_iload_n hx hb dX8_rest_14 rfl (lv_at hl 1 rfl) ?_
    obtain ⟨i4, h⟩ := ck_some h
    refine m_ald hC hH (a := 8) rfl rfl i4 dX8_rest_15 ?_
    refine lv_iconst (v := 3) hx hb dX8_rest_16 (by decide) ?_
    refine lv_icmp_eq (tgt := 38) hx hb dX8_rest_17 (by decide) (fun c5 => ?_) (fun c5 => ?_)
    · have h := ite_t c5 h
      refine lv_iload_n hx hb dX8_rest_38 rfl (lv_at hl 2 rfl) ?_
      refine lv_if_ne (tgt := 48) hx hb dX8_rest_39 (by decide) (fun c6 => ?_) (fun c6 => ?_)
      · have h := ite_f c6 h
        refine lv_aload_n hx hb dX8_rest_48 rfl (lv_at hl 0 rfl) ?_
        refine m_get hC hH 8 (by decide) wfX8_31 rfl rfl dX8_rest_49 ?_
        refine lv_iload_n hx hb dX8_rest_52 rfl (lv_at hl 1 rfl) ?_
        obtain ⟨i7, h⟩ := ck_some h
        refine m_ald hC hH (a := 9) rfl rfl i7 dX8_rest_53 ?_
        refine lv_iload_n hx hb dX8_rest_54 rfl (lv_at hl 2 rfl) ?_
        obtain ⟨z8, h⟩ := nz_some h
        refine lv_irem hx hb dX8_rest_55 z8 ?_
        obtain rfl := some_i1 h
        exact m_iret hC hH hr rfl dX8_rest_56
      · have h := ite_t c6 h
        refine lv_ldcw (v := -1000000002) hx hb hown (hts _ wkX8_314) dX8_rest_42 ?_
        refine lv_goto (tgt := 56) hx hb dX8_rest_45 (by decide) ?_
        obtain rfl := some_i1 h
        exact m_iret (v := -1000000002) hC hH hr rfl dX8_rest_56
    · have h := ite_f c5 h
      refine lv_aload_n hx hb dX8_rest_20 rfl (lv_at hl 0 rfl) ?_
      refine m_get hC hH 7 (by decide) wfX8_28 rfl rfl dX8_rest_21 ?_
      refine lv_iload_n hx hb dX8_rest_24 rfl (lv_at hl 1 rfl) ?_
      obtain ⟨i9, h⟩ := ck_some h
      refine m_ald hC hH (a := 8) rfl rfl i9 dX8_rest_25 ?_
      refine lv_if_ne (tgt := 35) hx hb dX8_rest_26 (by decide) (fun c10 => ?_) (fun c10 => ?_)
      · have h := ite_f c10 h
        refine lv_ldc (v := -1000000012) hx hb hown (hts _ wkX8_132) dX8_rest_35 ?_
        obtain rfl := some_i1 h
        exact m_iret (v := -1000000012) hC hH hr rfl dX8_rest_37
      · have h := ite_t c10 h
        refine lv_ldcw (v := -1000000011) hx hb hown (hts _ wkX8_303) dX8_rest_29 ?_
        refine lv_goto (tgt := 37) hx hb dX8_rest_32 (by decide) ?_
        obtain rfl := some_i1 h
        exact m_iret (v := -1000000011) hC hH hr rfl dX8_rest_37
  · have h := ite_t c3 h
    refine lv_ldc (v := -1000000001) hx hb hown (hts _ wkX8_90) dX8_rest_7 ?_
    obtain rfl := some_i1 h
    exact m_iret (v := -1000000001) hC hH hr rfl dX8_rest_9

def rmM_tell : Room := { frames := 0, cells := 0, slots := 0, locals := 0 }
theorem hdX8_tell : yX8_tell.cls = RX8 ∧ yX8_tell.cls ≠ "java/lang/invoke/MethodHandle" ∧ yX8_tell.cls ≠ "java/lang/invoke/VarHandle" ∧ (parseMethodDescriptor yX8_tell.desc).map (fun d => d.parameters.length) = some 1 := by decide +kernel

def fM_tell (μ0 : MS) (x1 : Int32) : Option (Int32 × MS) :=
  if (μ0 0 32) = (60 : Int32) then (
    some ((-1000000003 : Int32), μ0))
  else (
    ck (μ0 0 32) (60) <|
    bnd (up2 μ0 32 ((μ0 0 32)).toNatClampNeg x1) fun μ3 =>
    bnd (up2 μ3 0 32 ((μ3 0 32) + (1 : Int32))) fun μ5 =>
    some ((μ5 0 32), μ5))

set_option maxHeartbeats 4000000 in
set_option maxRecDepth 100000 in
theorem cM_tell (l : Launch) (D : va_G) (cI : ClassId) (B : Nat → Nat) (μ0 : MS) (x1 : Int32) {r : Int32} {μr : MS} (h : fM_tell μ0 x1 = some (r, μr)) : ∀ sz, Met l yX8_tell (Cond.code yX8_tell cX8_tell 2 (some .int) :: Tw) rmM_tell (mP D cI B μ0 sz [.ref (B 0), .int x1]) (mQi D cI B μ0 sz μr r) 0 0 (va_A (mW B cI μ0) sz) := by
  intro sz
  refine Met.ofW (cc := cX8_tell) (maxL := 2) (ret := (some .int)) (by decide) rfl ?_
  intro p e s m args below meth c s₁ Bd hml hv
  obtain ⟨hC, hr⟩ := jC_of Bd hml
  obtain ⟨rfl, rfl, hH⟩ := m_enter hv
  have hC : jC p s m _ meth c cX8_tell 2 RX8 := hC
  have hx := hC.1.1
  have hb := hC.1.2.1
  have hown := hC.1.2.2.2.1
  have hts := hC.1.2.2.2.2
  have hl := lv_entry ([.ref (B 0), .int x1]) (n := 2) (Nat.le_of_ble_eq_true rfl)
  rw [lg_entry_eq]
  generalize (lg_sl ([.ref (B 0), .int x1]) ++ List.replicate (2 - (lg_sl ([.ref (B 0), .int x1])).length) Slot.unset).toArray = ls at hl ⊢
  have hl : lv_has ls 2 [(0, .ref (B 0)), (1, .int x1)] := hl
  unfold fM_tell at h
  refine W_nm (fun H locs eH eL => ?_)
  have hH : mH D cI B s (va_A (mW B cI μ0) s.heap.size) μ0 H locs := by rw [eH, eL]; exact hH
  show W p l e rmM_tell s m _ below meth c H locs 0 0 _ (F0 m 0 ls [])
  refine lv_aload_n hx hb dX8_tell_0 rfl (lv_at hl 0 rfl) ?_
  refine m_get hC hH 32 (by decide) wfX8_315 rfl rfl dX8_tell_1 ?_
  refine lv_bipush (v := 60) hx hb dX8_tell_4 (by decide) ?_
  refine lv_icmp_ne (tgt := 12) hx hb dX8_tell_6 (by decide) (fun c1 => ?_) (fun c1 => ?_)
  · have h := ite_f c1 h
    refine lv_aload_n hx hb dX8_tell_12 rfl (lv_at hl 0 rfl) ?_
    refine m_get hC hH 31 (by decide) wfX8_68 rfl rfl dX8_tell_13 ?_
    refine lv_aload_n hx hb dX8_tell_16 rfl (lv_at hl 0 rfl) ?_
    refine m_get hC hH 32 (by decide) wfX8_315 rfl rfl dX8_tell_17 ?_
    refine lv_iload_n hx hb dX8_tell_20 rfl (lv_at hl 1 rfl) ?_
    obtain ⟨i2, h⟩ := ck_some h
    obtain ⟨μ3, e4, h⟩ := bnd_some h
    refine m_ast hC hH (a := 32) rfl rfl e4 i2 dX8_tell_21 (fun H locs hH => ?_)
    refine lv_aload_n hx hb dX8_tell_22 rfl (lv_at hl 0 rfl) ?_
    refine lv_dup hx hb dX8_tell_23 rfl ?_
    refine m_get hC hH 32 (by decide) wfX8_315 rfl rfl dX8_tell_24 ?_
    refine lv_iconst (v := 1) hx hb dX8_tell_27 (by decide) ?_
    refine lv_iadd hx hb dX8_tell_28 ?_
    obtain ⟨μ5, e6, h⟩ := bnd_some h
    refine m_put (ty := .int) hC hH 32 (by decide) wfX8_315 rfl rfl (by decide +kernel) rfl rfl e6 (mF_32 B _ _) dX8_tell_29 (fun H locs hH => ?_)
    refine lv_aload_n hx hb dX8_tell_32 rfl (lv_at hl 0 rfl) ?_
    refine m_get hC hH 32 (by decide) wfX8_315 rfl rfl dX8_tell_33 ?_
    obtain ⟨rfl, rfl⟩ := some_i2 h
    exact m_iret hC hH hr rfl dX8_tell_36
  · have h := ite_t c1 h
    refine lv_ldc (v := -1000000003) hx hb hown (hts _ wkX8_91) dX8_tell_9 ?_
    obtain ⟨rfl, rfl⟩ := some_i2 h
    exact m_iret (v := -1000000003) hC hH hr rfl dX8_tell_11

def rmM_setAside : Room := { frames := 0, cells := 0, slots := 0, locals := 0 }
theorem hdX8_setAside : yX8_setAside.cls = RX8 ∧ yX8_setAside.cls ≠ "java/lang/invoke/MethodHandle" ∧ yX8_setAside.cls ≠ "java/lang/invoke/VarHandle" ∧ (parseMethodDescriptor yX8_setAside.desc).map (fun d => d.parameters.length) = some 2 := by decide +kernel

def fM_setAside_L2 (a1 : Nat) (a2 : Nat) (k21 : MS → Option (MS)) : Nat → Int32 → MS → Option (MS)
  | 0, _, _ => none
  | n + 1, x3, μ =>
    if (2876 : Int32) ≤ x3 then (
      k21 μ)
    else (
      ck x3 (mLen a1) <|
      ck x3 (mLen a2) <|
      bnd (up2 μ a2 (x3).toNatClampNeg (μ a1 (x3).toNatClampNeg)) fun μ4 =>
      bnd (x3 + (1 : Int32)) fun v6 =>
      (fM_setAside_L2 a1 a2 k21 n) v6 μ4)

set_option maxHeartbeats 4000000 in
set_option maxRecDepth 100000 in
theorem wM_setAside_L2 {p : Program} {l : Launch} {e : Env} {s : State} {m : MethodId} {args : Array Value} {below : List Frame} {meth : Method} {c : Code} {D : va_G} {cI : ClassId} {B : Nat → Nat} {μ0 : MS} {a1 : Nat} {a2 : Nat} {μr : MS} (hC : jC p s m args meth c cX8_setAside 4 RX8) (hr : meth.sig.returnType = none) (ha1 : mIs a1 = true) (ha2 : mIs a2 = true) {k21 : MS → Option (MS)} (hk21 : ∀ (μ : MS) (H : Heap) (locs : List Loc) (ls : Array Slot), mH D cI B s (va_A (mW B cI μ0) s.heap.size) μ H locs → lv_has ls 4 [] → k21 μ = some μr → W p l e rmM_setAside s m args below meth c H locs 0 0 (MQ below (mQv D cI B μ0 s.heap.size μr) args s 0 0 (va_A (mW B cI μ0) s.heap.size)) (F0 m 21 ls [])) : ∀ (n : Nat) (x3 : Int32) (μ : MS) (H : Heap) (locs : List Loc) (ls : Array Slot), mH D cI B s (va_A (mW B cI μ0) s.heap.size) μ H locs → lv_has ls 4 [(1, .ref (B a1)), (2, .ref (B a2)), (3, .int x3)] → fM_setAside_L2 a1 a2 k21 n x3 μ = some μr → W p l e rmM_setAside s m args below meth c H locs 0 0 (MQ below (mQv D cI B μ0 s.heap.size μr) args s 0 0 (va_A (mW B cI μ0) s.heap.size)) (F0 m 2 ls []) := by
  have hx := hC.1.1
  have hb := hC.1.2.1
  have hown := hC.1.2.2.2.1
  have hts := hC.1.2.2.2.2
  intro n
  induction n with
  | zero =>
    intro x3 μ H locs ls  hH hl h
    rw [fM_setAside_L2] at h
    cases h
  | succ n ih =>
    intro x3 μ H locs ls  hH hl h
    rw [fM_setAside_L2] at h
    refine lv_iload_n hx hb dX8_setAside_2 rfl (lv_at hl 2 rfl) ?_
    refine lv_sipush (v := 2876) hx hb dX8_setAside_3 (by decide) ?_
    refine lv_icmp_ge (tgt := 21) hx hb dX8_setAside_6 (by decide) (fun c1 => ?_) (fun c1 => ?_)
    · have h := ite_t c1 h
      exact hk21 μ H locs ls  hH (lv_sub hl [] rfl) h
    · have h := ite_f c1 h
      refine lv_aload_n hx hb dX8_setAside_9 rfl (lv_at hl 1 rfl) ?_
      refine lv_iload_n hx hb dX8_setAside_10 rfl (lv_at hl 2 rfl) ?_
      refine lv_aload_n hx hb dX8_setAside_11 rfl (lv_at hl 0 rfl) ?_
      refine lv_iload_n hx hb dX8_setAside_12 rfl (lv_at hl 2 rfl) ?_
      obtain ⟨i2, h⟩ := ck_some h
      refine m_ald hC hH (a := a1) ha1 rfl i2 dX8_setAside_13 ?_
      obtain ⟨i3, h⟩ := ck_some h
      obtain ⟨μ4, e5, h⟩ := bnd_some h
      refine m_ast hC hH (a := a2) ha2 rfl e5 i3 dX8_setAside_14 (fun H locs hH => ?_)
      obtain ⟨v6, e7, h⟩ := bnd_some h
      refine lv_iinc (v := v6) (lv' := [(3, .int v6), (1, .ref (B a1)), (2, .ref (B a2))]) hx hb dX8_setAside_15 hl (k := 2) rfl (by rw [e7]; rfl) (by decide) rfl (fun ls hl => ?_)
      refine lv_goto (tgt := 2) hx hb dX8_setAside_18 (by decide) ?_
      exact ih v6 μ4 H locs ls  hH (lv_sub hl [1, 2, 0] rfl) h

def fM_setAside (μ0 : MS) (a1 : Nat) (a2 : Nat) : Option (MS) :=
  fM_setAside_L2 a1 a2 (fun (μ : MS) => some μ) 10000 (0 : Int32) μ0

set_option maxHeartbeats 4000000 in
set_option maxRecDepth 100000 in
theorem cM_setAside (l : Launch) (D : va_G) (cI : ClassId) (B : Nat → Nat) (μ0 : MS) (a1 : Nat) (a2 : Nat) (ha1 : mIs a1 = true) (ha2 : mIs a2 = true) {μr : MS} (h : fM_setAside μ0 a1 a2 = some μr) : ∀ sz, Met l yX8_setAside (Cond.code yX8_setAside cX8_setAside 4 none :: Tw) rmM_setAside (mP D cI B μ0 sz [.ref (B 0), .ref (B a1), .ref (B a2)]) (mQv D cI B μ0 sz μr) 0 0 (va_A (mW B cI μ0) sz) := by
  intro sz
  refine Met.ofW (cc := cX8_setAside) (maxL := 4) (ret := (none)) (by decide) rfl ?_
  intro p e s m args below meth c s₁ Bd hml hv
  obtain ⟨hC, hr⟩ := jC_of Bd hml
  obtain ⟨rfl, rfl, hH⟩ := m_enter hv
  have hC : jC p s m _ meth c cX8_setAside 4 RX8 := hC
  have hx := hC.1.1
  have hb := hC.1.2.1
  have hown := hC.1.2.2.2.1
  have hts := hC.1.2.2.2.2
  have hl := lv_entry ([.ref (B 0), .ref (B a1), .ref (B a2)]) (n := 4) (Nat.le_of_ble_eq_true rfl)
  rw [lg_entry_eq]
  generalize (lg_sl ([.ref (B 0), .ref (B a1), .ref (B a2)]) ++ List.replicate (4 - (lg_sl ([.ref (B 0), .ref (B a1), .ref (B a2)])).length) Slot.unset).toArray = ls at hl ⊢
  have hl : lv_has ls 4 [(0, .ref (B 0)), (1, .ref (B a1)), (2, .ref (B a2))] := hl
  unfold fM_setAside at h
  refine W_nm (fun H locs eH eL => ?_)
  have hH : mH D cI B s (va_A (mW B cI μ0) s.heap.size) μ0 H locs := by rw [eH, eL]; exact hH
  show W p l e rmM_setAside s m _ below meth c H locs 0 0 _ (F0 m 0 ls [])
  refine lv_iconst (v := 0) hx hb dX8_setAside_0 (by decide) ?_
  refine lv_istore_n (lv' := [(3, .int (0 : Int32)), (0, .ref (B 0)), (1, .ref (B a1)), (2, .ref (B a2))]) hx hb dX8_setAside_1 rfl hl (by decide) rfl (fun ls hl => ?_)
  refine wM_setAside_L2 hC hr ha1 ha2  ?_ 10000 (0 : Int32) μ0 H locs ls  hH (lv_sub hl [2, 3, 0] rfl) h
  intro μ H locs ls  hH hl h
  obtain rfl := some_i1 h
  exact m_vret hC hH hr dX8_setAside_21

def rmM_check : Room := { frames := 6, cells := 0, slots := 0, locals := 140 }
theorem hdX8_check : yX8_check.cls = RX8 ∧ yX8_check.cls ≠ "java/lang/invoke/MethodHandle" ∧ yX8_check.cls ≠ "java/lang/invoke/VarHandle" ∧ (parseMethodDescriptor yX8_check.desc).map (fun d => d.parameters.length) = some 1 := by decide +kernel

def fM_check_L69 (k124 : Int32 → Int32 → MS → Option (Int32 × MS)) : Nat → Int32 → Int32 → Int32 → Int32 → MS → Option (Int32 × MS)
  | 0, _, _, _, _, _ => none
  | n + 1, x1, x2, x3, x4, μ =>
    if x1 ≤ x4 then (
      k124 x2 x3 μ)
    else (
      if (9999 : Int32) ≤ (μ 1 2) then (
        k124 x2 x3 μ)
      else (
        ob (fM_goesOn μ) fun μ18 =>
        ob (fM_thickOnTop μ18) fun r20 =>
        ck x3 (60) <|
        bnd (up2 μ18 34 (x3).toNatClampNeg r20) fun μ22 =>
        ck (x3 + (1 : Int32)) (60) <|
        bnd (up2 μ22 34 ((x3 + (1 : Int32))).toNatClampNeg (μ22 1 3)) fun μ25 =>
        bnd (x3 + (2 : Int32)) fun v27 =>
        bnd (x4 + (1 : Int32)) fun v29 =>
        (fM_check_L69 k124 n) x1 x2 v27 v29 μ25))

set_option maxHeartbeats 4000000 in
set_option maxRecDepth 100000 in
theorem wM_check_L69 {p : Program} {l : Launch} {e : Env} {s : State} {m : MethodId} {args : Array Value} {below : List Frame} {meth : Method} {c : Code} {D : va_G} {cI : ClassId} {B : Nat → Nat} {μ0 : MS} {r : Int32} {μr : MS} (hC : jC p s m args meth c cX8_check 5 RX8) (hr : meth.sig.returnType = some .int) {k124 : Int32 → Int32 → MS → Option (Int32 × MS)} (hk124 : ∀ (x2 : Int32) (x3 : Int32) (μ : MS) (H : Heap) (locs : List Loc) (ls : Array Slot), mH D cI B s (va_A (mW B cI μ0) s.heap.size) μ H locs → lv_has ls 5 [(0, .ref (B 0)), (2, .int x2), (3, .int x3)] → k124 x2 x3 μ = some (r, μr) → W p l e rmM_check s m args below meth c H locs 0 0 (MQ below (mQi D cI B μ0 s.heap.size μr r) args s 0 0 (va_A (mW B cI μ0) s.heap.size)) (F0 m 124 ls [])) : ∀ (n : Nat) (x1 : Int32) (x2 : Int32) (x3 : Int32) (x4 : Int32) (μ : MS) (H : Heap) (locs : List Loc) (ls : Array Slot), mH D cI B s (va_A (mW B cI μ0) s.heap.size) μ H locs → lv_has ls 5 [(0, .ref (B 0)), (1, .int x1), (2, .int x2), (3, .int x3), (4, .int x4)] → fM_check_L69 k124 n x1 x2 x3 x4 μ = some (r, μr) → W p l e rmM_check s m args below meth c H locs 0 0 (MQ below (mQi D cI B μ0 s.heap.size μr r) args s 0 0 (va_A (mW B cI μ0) s.heap.size)) (F0 m 69 ls []) := by
  have hx := hC.1.1
  have hb := hC.1.2.1
  have hown := hC.1.2.2.2.1
  have hts := hC.1.2.2.2.2
  intro n
  induction n with
  | zero =>
    intro x1 x2 x3 x4 μ H locs ls  hH hl h
    rw [fM_check_L69] at h
    cases h
  | succ n ih =>
    intro x1 x2 x3 x4 μ H locs ls  hH hl h
    rw [fM_check_L69] at h
    refine lv_iload hx hb dX8_check_69 (lv_at hl 4 rfl) ?_
    refine lv_iload_n hx hb dX8_check_71 rfl (lv_at hl 1 rfl) ?_
    refine lv_icmp_ge (tgt := 124) hx hb dX8_check_72 (by decide) (fun c15 => ?_) (fun c15 => ?_)
    · have h := ite_t c15 h
      exact hk124 x2 x3 μ H locs ls  hH (lv_sub hl [0, 2, 3] rfl) h
    · have h := ite_f c15 h
      refine lv_aload_n hx hb dX8_check_75 rfl (lv_at hl 0 rfl) ?_
      refine m_get hC hH 0 (by decide) wfX8_7 rfl rfl dX8_check_76 ?_
      refine lv_iconst (v := 2) hx hb dX8_check_79 (by decide) ?_
      refine m_ald hC hH (a := 1) rfl rfl (vp_b rfl) dX8_check_80 ?_
      refine lv_sipush (v := 9999) hx hb dX8_check_81 (by decide) ?_
      refine lv_icmp_ge (tgt := 124) hx hb dX8_check_84 (by decide) (fun c16 => ?_) (fun c16 => ?_)
      · have h := ite_t c16 h
        exact hk124 x2 x3 μ H locs ls  hH (lv_sub hl [0, 2, 3] rfl) h
      · have h := ite_f c16 h
        refine lv_aload_n hx hb dX8_check_87 rfl (lv_at hl 0 rfl) ?_
        obtain ⟨μ18, h17, h⟩ := ob_some h
        refine m_callv (As := []) (rest := []) (cM_goesOn l D cI B μ  h17) hC hH hl (cwV 0 hts (gV wmX8_159 wvX8_goesOn) rfl rfl rfl hdX8_goesOn ⟨Nat.le_of_ble_eq_true rfl, Nat.le_of_ble_eq_true rfl⟩) rfl rfl (Nat.le_of_ble_eq_true rfl) ⟨Nat.zero_le _, Nat.zero_le _⟩ dX8_check_88 (fun H locs hH => ?_)
        refine lv_aload_n hx hb dX8_check_91 rfl (lv_at hl 0 rfl) ?_
        refine m_get hC hH 33 (by decide) wfX8_71 rfl rfl dX8_check_92 ?_
        refine lv_iload_n hx hb dX8_check_95 rfl (lv_at hl 3 rfl) ?_
        refine lv_aload_n hx hb dX8_check_96 rfl (lv_at hl 0 rfl) ?_
        obtain ⟨r20, h19, h⟩ := ob_some h
        refine m_calli (As := []) (rest := [.int x3, .ref (B 34)]) (cM_thickOnTop l D cI B μ18  h19) hC hH hl (cwV 0 hts (gV wmX8_328 wvX8_thickOnTop) rfl rfl rfl hdX8_thickOnTop ⟨Nat.le_of_ble_eq_true rfl, Nat.le_of_ble_eq_true rfl⟩) rfl rfl (Nat.le_of_ble_eq_true rfl) ⟨Nat.zero_le _, Nat.zero_le _⟩ dX8_check_97 (fun H locs hH => ?_)
        obtain ⟨i21, h⟩ := ck_some h
        obtain ⟨μ22, e23, h⟩ := bnd_some h
        refine m_ast hC hH (a := 34) rfl rfl e23 i21 dX8_check_100 (fun H locs hH => ?_)
        refine lv_aload_n hx hb dX8_check_101 rfl (lv_at hl 0 rfl) ?_
        refine m_get hC hH 33 (by decide) wfX8_71 rfl rfl dX8_check_102 ?_
        refine lv_iload_n hx hb dX8_check_105 rfl (lv_at hl 3 rfl) ?_
        refine lv_iconst (v := 1) hx hb dX8_check_106 (by decide) ?_
        refine lv_iadd hx hb dX8_check_107 ?_
        refine lv_aload_n hx hb dX8_check_108 rfl (lv_at hl 0 rfl) ?_
        refine m_get hC hH 0 (by decide) wfX8_7 rfl rfl dX8_check_109 ?_
        refine lv_iconst (v := 3) hx hb dX8_check_112 (by decide) ?_
        refine m_ald hC hH (a := 1) rfl rfl (vp_b rfl) dX8_check_113 ?_
        obtain ⟨i24, h⟩ := ck_some h
        obtain ⟨μ25, e26, h⟩ := bnd_some h
        refine m_ast hC hH (a := 34) rfl rfl e26 i24 dX8_check_114 (fun H locs hH => ?_)
        obtain ⟨v27, e28, h⟩ := bnd_some h
        refine lv_iinc (v := v27) (lv' := [(3, .int v27), (0, .ref (B 0)), (1, .int x1), (2, .int x2), (4, .int x4)]) hx hb dX8_check_115 hl (k := 3) rfl (by rw [e28]; rfl) (by decide) rfl (fun ls hl => ?_)
        obtain ⟨v29, e30, h⟩ := bnd_some h
        refine lv_iinc (v := v29) (lv' := [(4, .int v29), (3, .int v27), (0, .ref (B 0)), (1, .int x1), (2, .int x2)]) hx hb dX8_check_118 hl (k := 4) rfl (by rw [e30]; rfl) (by decide) rfl (fun ls hl => ?_)
        refine lv_goto (tgt := 69) hx hb dX8_check_121 (by decide) ?_
        exact ih x1 x2 v27 v29 μ25 H locs ls  hH (lv_sub hl [2, 3, 4, 1, 0] rfl) h

def fM_check_L143 (k178 : Int32 → Int32 → Int32 → MS → Option (Int32 × MS)) : Nat → Int32 → Int32 → Int32 → MS → Option (Int32 × MS)
  | 0, _, _, _, _ => none
  | n + 1, x2, x3, x4, μ =>
    if x2 ≤ x4 then (
      k178 x2 x3 x4 μ)
    else (
      if x3 ≤ x4 then (
        k178 x2 x3 x4 μ)
      else (
        ck x4 (60) <|
        ck x4 (60) <|
        if (μ 32 (x4).toNatClampNeg) = (μ 34 (x4).toNatClampNeg) then (
          bnd (x4 + (1 : Int32)) fun v40 =>
          (fM_check_L143 k178 n) x2 x3 v40 μ)
        else (
          k178 x2 x3 x4 μ)))

set_option maxHeartbeats 4000000 in
set_option maxRecDepth 100000 in
theorem wM_check_L143 {p : Program} {l : Launch} {e : Env} {s : State} {m : MethodId} {args : Array Value} {below : List Frame} {meth : Method} {c : Code} {D : va_G} {cI : ClassId} {B : Nat → Nat} {μ0 : MS} {r : Int32} {μr : MS} (hC : jC p s m args meth c cX8_check 5 RX8) (hr : meth.sig.returnType = some .int) {k178 : Int32 → Int32 → Int32 → MS → Option (Int32 × MS)} (hk178 : ∀ (x2 : Int32) (x3 : Int32) (x4 : Int32) (μ : MS) (H : Heap) (locs : List Loc) (ls : Array Slot), mH D cI B s (va_A (mW B cI μ0) s.heap.size) μ H locs → lv_has ls 5 [(2, .int x2), (3, .int x3), (4, .int x4)] → k178 x2 x3 x4 μ = some (r, μr) → W p l e rmM_check s m args below meth c H locs 0 0 (MQ below (mQi D cI B μ0 s.heap.size μr r) args s 0 0 (va_A (mW B cI μ0) s.heap.size)) (F0 m 178 ls [])) : ∀ (n : Nat) (x2 : Int32) (x3 : Int32) (x4 : Int32) (μ : MS) (H : Heap) (locs : List Loc) (ls : Array Slot), mH D cI B s (va_A (mW B cI μ0) s.heap.size) μ H locs → lv_has ls 5 [(0, .ref (B 0)), (2, .int x2), (3, .int x3), (4, .int x4)] → fM_check_L143 k178 n x2 x3 x4 μ = some (r, μr) → W p l e rmM_check s m args below meth c H locs 0 0 (MQ below (mQi D cI B μ0 s.heap.size μr r) args s 0 0 (va_A (mW B cI μ0) s.heap.size)) (F0 m 143 ls []) := by
  have hx := hC.1.1
  have hb := hC.1.2.1
  have hown := hC.1.2.2.2.1
  have hts := hC.1.2.2.2.2
  intro n
  induction n with
  | zero =>
    intro x2 x3 x4 μ H locs ls  hH hl h
    rw [fM_check_L143] at h
    cases h
  | succ n ih =>
    intro x2 x3 x4 μ H locs ls  hH hl h
    rw [fM_check_L143] at h
    refine lv_iload hx hb dX8_check_143 (lv_at hl 3 rfl) ?_
    refine lv_iload_n hx hb dX8_check_145 rfl (lv_at hl 1 rfl) ?_
    refine lv_icmp_ge (tgt := 178) hx hb dX8_check_146 (by decide) (fun c35 => ?_) (fun c35 => ?_)
    · have h := ite_t c35 h
      exact hk178 x2 x3 x4 μ H locs ls  hH (lv_sub hl [1, 2, 3] rfl) h
    · have h := ite_f c35 h
      refine lv_iload hx hb dX8_check_149 (lv_at hl 3 rfl) ?_
      refine lv_iload_n hx hb dX8_check_151 rfl (lv_at hl 2 rfl) ?_
      refine lv_icmp_ge (tgt := 178) hx hb dX8_check_152 (by decide) (fun c36 => ?_) (fun c36 => ?_)
      · have h := ite_t c36 h
        exact hk178 x2 x3 x4 μ H locs ls  hH (lv_sub hl [1, 2, 3] rfl) h
      · have h := ite_f c36 h
        refine lv_aload_n hx hb dX8_check_155 rfl (lv_at hl 0 rfl) ?_
        refine m_get hC hH 31 (by decide) wfX8_68 rfl rfl dX8_check_156 ?_
        refine lv_iload hx hb dX8_check_159 (lv_at hl 3 rfl) ?_
        obtain ⟨i37, h⟩ := ck_some h
        refine m_ald hC hH (a := 32) rfl rfl i37 dX8_check_161 ?_
        refine lv_aload_n hx hb dX8_check_162 rfl (lv_at hl 0 rfl) ?_
        refine m_get hC hH 33 (by decide) wfX8_71 rfl rfl dX8_check_163 ?_
        refine lv_iload hx hb dX8_check_166 (lv_at hl 3 rfl) ?_
        obtain ⟨i38, h⟩ := ck_some h
        refine m_ald hC hH (a := 34) rfl rfl i38 dX8_check_168 ?_
        refine lv_icmp_ne (tgt := 178) hx hb dX8_check_169 (by decide) (fun c39 => ?_) (fun c39 => ?_)
        · have h := ite_f c39 h
          exact hk178 x2 x3 x4 μ H locs ls  hH (lv_sub hl [1, 2, 3] rfl) h
        · have h := ite_t c39 h
          obtain ⟨v40, e41, h⟩ := bnd_some h
          refine lv_iinc (v := v40) (lv' := [(4, .int v40), (0, .ref (B 0)), (2, .int x2), (3, .int x3)]) hx hb dX8_check_172 hl (k := 3) rfl (by rw [e41]; rfl) (by decide) rfl (fun ls hl => ?_)
          refine lv_goto (tgt := 143) hx hb dX8_check_175 (by decide) ?_
          exact ih x2 x3 v40 μ H locs ls  hH (lv_sub hl [1, 2, 3, 0] rfl) h

def fM_check_J178 (x2 : Int32) (x3 : Int32) (x4 : Int32) (μ : MS) : Option (Int32 × MS) :=
  if x4 = x2 then (
    if x4 = x3 then (
      some ((0 : Int32), μ))
    else (
      some (((1 : Int32) + x4), μ)))
  else (
    some (((1 : Int32) + x4), μ))

set_option maxHeartbeats 4000000 in
set_option maxRecDepth 100000 in
theorem wM_check_J178 {p : Program} {l : Launch} {e : Env} {s : State} {m : MethodId} {args : Array Value} {below : List Frame} {meth : Method} {c : Code} {D : va_G} {cI : ClassId} {B : Nat → Nat} {μ0 : MS} {r : Int32} {μr : MS} (hC : jC p s m args meth c cX8_check 5 RX8) (hr : meth.sig.returnType = some .int) (x2 : Int32) (x3 : Int32) (x4 : Int32) (μ : MS) (H : Heap) (locs : List Loc) (ls : Array Slot) (hH : mH D cI B s (va_A (mW B cI μ0) s.heap.size) μ H locs) (hl : lv_has ls 5 [(2, .int x2), (3, .int x3), (4, .int x4)]) (h : fM_check_J178 x2 x3 x4 μ = some (r, μr)) : W p l e rmM_check s m args below meth c H locs 0 0 (MQ below (mQi D cI B μ0 s.heap.size μr r) args s 0 0 (va_A (mW B cI μ0) s.heap.size)) (F0 m 178 ls []) := by
  have hx := hC.1.1
  have hb := hC.1.2.1
  have hown := hC.1.2.2.2.1
  have hts := hC.1.2.2.2.2
  unfold fM_check_J178 at h
  refine lv_iload hx hb dX8_check_178 (lv_at hl 2 rfl) ?_
  refine lv_iload_n hx hb dX8_check_180 rfl (lv_at hl 0 rfl) ?_
  refine lv_icmp_ne (tgt := 194) hx hb dX8_check_181 (by decide) (fun c42 => ?_) (fun c42 => ?_)
  · have h := ite_f c42 h
    refine lv_iconst (v := 1) hx hb dX8_check_194 (by decide) ?_
    refine lv_iload hx hb dX8_check_195 (lv_at hl 2 rfl) ?_
    refine lv_iadd hx hb dX8_check_197 ?_
    obtain ⟨rfl, rfl⟩ := some_i2 h
    exact m_iret hC hH hr rfl dX8_check_198
  · have h := ite_t c42 h
    refine lv_iload hx hb dX8_check_184 (lv_at hl 2 rfl) ?_
    refine lv_iload_n hx hb dX8_check_186 rfl (lv_at hl 1 rfl) ?_
    refine lv_icmp_ne (tgt := 194) hx hb dX8_check_187 (by decide) (fun c43 => ?_) (fun c43 => ?_)
    · have h := ite_f c43 h
      refine lv_iconst (v := 1) hx hb dX8_check_194 (by decide) ?_
      refine lv_iload hx hb dX8_check_195 (lv_at hl 2 rfl) ?_
      refine lv_iadd hx hb dX8_check_197 ?_
      obtain ⟨rfl, rfl⟩ := some_i2 h
      exact m_iret hC hH hr rfl dX8_check_198
    · have h := ite_t c43 h
      refine lv_iconst (v := 0) hx hb dX8_check_190 (by decide) ?_
      refine lv_goto (tgt := 198) hx hb dX8_check_191 (by decide) ?_
      obtain ⟨rfl, rfl⟩ := some_i2 h
      exact m_iret (v := 0) hC hH hr rfl dX8_check_198

def fM_check_J124 (x2 : Int32) (x3 : Int32) (μ : MS) : Option (Int32 × MS) :=
  ob (fM_setAside μ 3 1) fun μ32 =>
  ob (fM_forgets μ32) fun μ34 =>
  fM_check_L143 (fun (x2 : Int32) (x3 : Int32) (x4 : Int32) (μ : MS) => fM_check_J178 x2 x3 x4 μ) 10000 x2 x3 (0 : Int32) μ34

set_option maxHeartbeats 4000000 in
set_option maxRecDepth 100000 in
theorem wM_check_J124 {p : Program} {l : Launch} {e : Env} {s : State} {m : MethodId} {args : Array Value} {below : List Frame} {meth : Method} {c : Code} {D : va_G} {cI : ClassId} {B : Nat → Nat} {μ0 : MS} {r : Int32} {μr : MS} (hC : jC p s m args meth c cX8_check 5 RX8) (hr : meth.sig.returnType = some .int) (x2 : Int32) (x3 : Int32) (μ : MS) (H : Heap) (locs : List Loc) (ls : Array Slot) (hH : mH D cI B s (va_A (mW B cI μ0) s.heap.size) μ H locs) (hl : lv_has ls 5 [(0, .ref (B 0)), (2, .int x2), (3, .int x3)]) (h : fM_check_J124 x2 x3 μ = some (r, μr)) : W p l e rmM_check s m args below meth c H locs 0 0 (MQ below (mQi D cI B μ0 s.heap.size μr r) args s 0 0 (va_A (mW B cI μ0) s.heap.size)) (F0 m 124 ls []) := by
  have hx := hC.1.1
  have hb := hC.1.2.1
  have hown := hC.1.2.2.2.1
  have hts := hC.1.2.2.2.2
  unfold fM_check_J124 at h
  refine lv_aload_n hx hb dX8_check_124 rfl (lv_at hl 0 rfl) ?_
  refine lv_aload_n hx hb dX8_check_125 rfl (lv_at hl 0 rfl) ?_
  refine m_get hC hH 2 (by decide) wfX8_16 rfl rfl dX8_check_126 ?_
  refine lv_aload_n hx hb dX8_check_129 rfl (lv_at hl 0 rfl) ?_
  refine m_get hC hH 0 (by decide) wfX8_7 rfl rfl dX8_check_130 ?_
  obtain ⟨μ32, h31, h⟩ := ob_some h
  refine m_callv (As := [.ref (B 3), .ref (B 1)]) (rest := []) (cM_setAside l D cI B μ 3 1 rfl rfl h31) hC hH hl (cwV 2 hts (gV wmX8_324 wvX8_setAside) rfl rfl rfl hdX8_setAside ⟨Nat.le_of_ble_eq_true rfl, Nat.le_of_ble_eq_true rfl⟩) rfl rfl (Nat.le_of_ble_eq_true rfl) ⟨Nat.zero_le _, Nat.zero_le _⟩ dX8_check_133 (fun H locs hH => ?_)
  refine lv_aload_n hx hb dX8_check_136 rfl (lv_at hl 0 rfl) ?_
  obtain ⟨μ34, h33, h⟩ := ob_some h
  refine m_callv (As := []) (rest := []) (cM_forgets l D cI B μ32  h33) hC hH hl (cwV 0 hts (gV wmX8_285 wvX8_forgets) rfl rfl rfl hdX8_forgets ⟨Nat.le_of_ble_eq_true rfl, Nat.le_of_ble_eq_true rfl⟩) rfl rfl (Nat.le_of_ble_eq_true rfl) ⟨Nat.zero_le _, Nat.zero_le _⟩ dX8_check_137 (fun H locs hH => ?_)
  refine lv_iconst (v := 0) hx hb dX8_check_140 (by decide) ?_
  refine lv_istore (lv' := [(4, .int (0 : Int32)), (0, .ref (B 0)), (2, .int x2), (3, .int x3)]) hx hb dX8_check_141 hl (by decide) rfl (fun ls hl => ?_)
  refine wM_check_L143 hC hr  ?_ 10000 x2 x3 (0 : Int32) μ34 H locs ls  hH (lv_sub hl [1, 2, 3, 0] rfl) h
  intro x2 x3 x4 μ H locs ls  hH hl h
  exact wM_check_J178 hC hr  x2 x3 x4 μ H locs ls  hH hl h

def fM_check (μ0 : MS) (x1 : Int32) : Option (Int32 × MS) :=
  bnd (μ0 0 32) fun v1 =>
  bnd (up2 μ0 0 32 (0 : Int32)) fun μ3 =>
  ob (fM_isIn μ3 (x1).toInt64 (1 : Int64) (30 : Int64)) fun r6 =>
  if r6 = 0 then (
    some ((-1000000001 : Int32), μ3))
  else (
    if (μ3 0 3) = 0 then (
      some ((-1000000002 : Int32), μ3))
    else (
      ob (fM_setAside μ3 1 3) fun μ10 =>
      ob (fM_setAside μ10 2 1) fun μ12 =>
      ob (fM_forgets μ12) fun μ14 =>
      fM_check_L69 (fun (x2 : Int32) (x3 : Int32) (μ : MS) => fM_check_J124 x2 x3 μ) 10000 x1 v1 (0 : Int32) (0 : Int32) μ14))

set_option maxHeartbeats 4000000 in
set_option maxRecDepth 100000 in
theorem cM_check (l : Launch) (D : va_G) (cI : ClassId) (B : Nat → Nat) (μ0 : MS) (x1 : Int32) {r : Int32} {μr : MS} (h : fM_check μ0 x1 = some (r, μr)) : ∀ sz, Met l yX8_check (Cond.code yX8_check cX8_check 5 (some .int) :: Tw) rmM_check (mP D cI B μ0 sz [.ref (B 0), .int x1]) (mQi D cI B μ0 sz μr r) 0 0 (va_A (mW B cI μ0) sz) := by
  intro sz
  refine Met.ofW (cc := cX8_check) (maxL := 5) (ret := (some .int)) (by decide) rfl ?_
  intro p e s m args below meth c s₁ Bd hml hv
  obtain ⟨hC, hr⟩ := jC_of Bd hml
  obtain ⟨rfl, rfl, hH⟩ := m_enter hv
  have hC : jC p s m _ meth c cX8_check 5 RX8 := hC
  have hx := hC.1.1
  have hb := hC.1.2.1
  have hown := hC.1.2.2.2.1
  have hts := hC.1.2.2.2.2
  have hl := lv_entry ([.ref (B 0), .int x1]) (n := 5) (Nat.le_of_ble_eq_true rfl)
  rw [lg_entry_eq]
  generalize (lg_sl ([.ref (B 0), .int x1]) ++ List.replicate (5 - (lg_sl ([.ref (B 0), .int x1])).length) Slot.unset).toArray = ls at hl ⊢
  have hl : lv_has ls 5 [(0, .ref (B 0)), (1, .int x1)] := hl
  unfold fM_check at h
  refine W_nm (fun H locs eH eL => ?_)
  have hH : mH D cI B s (va_A (mW B cI μ0) s.heap.size) μ0 H locs := by rw [eH, eL]; exact hH
  show W p l e rmM_check s m _ below meth c H locs 0 0 _ (F0 m 0 ls [])
  refine lv_aload_n hx hb dX8_check_0 rfl (lv_at hl 0 rfl) ?_
  refine m_get hC hH 32 (by decide) wfX8_315 rfl rfl dX8_check_1 ?_
  obtain ⟨v1, e2, h⟩ := bnd_some h
  refine lv_tope e2 ?_
  refine lv_istore_n (lv' := [(2, .int v1), (0, .ref (B 0)), (1, .int x1)]) hx hb dX8_check_4 rfl hl (by decide) rfl (fun ls hl => ?_)
  refine lv_aload_n hx hb dX8_check_5 rfl (lv_at hl 1 rfl) ?_
  refine lv_iconst (v := 0) hx hb dX8_check_6 (by decide) ?_
  obtain ⟨μ3, e4, h⟩ := bnd_some h
  refine m_put (ty := .int) hC hH 32 (by decide) wfX8_315 rfl rfl (by decide +kernel) rfl rfl e4 (mF_32 B _ _) dX8_check_7 (fun H locs hH => ?_)
  refine lv_iload_n hx hb dX8_check_10 rfl (lv_at hl 2 rfl) ?_
  refine lv_i2l hx hb dX8_check_11 rfl ?_
  refine lv_lconst (v := 1) hx hb dX8_check_12 (by decide) ?_
  refine lv_ldc2 (v := 30) hx hb hown (hts _ wqX8_318) dX8_check_13 ?_
  obtain ⟨r6, h5, h⟩ := ob_some h
  refine m_calls (As := [.long (x1).toInt64, .long (1 : Int64), .long (30 : Int64)]) (rest := []) (cM_isIn l D cI B μ3 (x1).toInt64 (1 : Int64) (30 : Int64) h5) hC hH hl (va_cwS 3 hts (gS wmX8_75 wsX8_isIn) rfl rfl rfl hdX8_isIn ⟨Nat.le_of_ble_eq_true rfl, Nat.le_of_ble_eq_true rfl⟩) rfl rfl (Nat.le_of_ble_eq_true rfl) ⟨Nat.zero_le _, Nat.zero_le _⟩ dX8_check_16 (fun H locs hH => ?_)
  refine lv_if_ne (tgt := 25) hx hb dX8_check_19 (by decide) (fun c7 => ?_) (fun c7 => ?_)
  · have h := ite_f c7 h
    refine lv_aload_n hx hb dX8_check_25 rfl (lv_at hl 1 rfl) ?_
    refine m_get hC hH 3 (by decide) wfX8_320 rfl rfl dX8_check_26 ?_
    refine lv_if_ne (tgt := 36) hx hb dX8_check_29 (by decide) (fun c8 => ?_) (fun c8 => ?_)
    · have h := ite_f c8 h
      refine lv_aload_n hx hb dX8_check_36 rfl (lv_at hl 1 rfl) ?_
      refine lv_aload_n hx hb dX8_check_37 rfl (lv_at hl 1 rfl) ?_
      refine m_get hC hH 0 (by decide) wfX8_7 rfl rfl dX8_check_38 ?_
      refine lv_aload_n hx hb dX8_check_41 rfl (lv_at hl 1 rfl) ?_
      refine m_get hC hH 2 (by decide) wfX8_16 rfl rfl dX8_check_42 ?_
      obtain ⟨μ10, h9, h⟩ := ob_some h
      refine m_callv (As := [.ref (B 1), .ref (B 3)]) (rest := []) (cM_setAside l D cI B μ3 1 3 rfl rfl h9) hC hH hl (cwV 2 hts (gV wmX8_324 wvX8_setAside) rfl rfl rfl hdX8_setAside ⟨Nat.le_of_ble_eq_true rfl, Nat.le_of_ble_eq_true rfl⟩) rfl rfl (Nat.le_of_ble_eq_true rfl) ⟨Nat.zero_le _, Nat.zero_le _⟩ dX8_check_45 (fun H locs hH => ?_)
      refine lv_aload_n hx hb dX8_check_48 rfl (lv_at hl 1 rfl) ?_
      refine lv_aload_n hx hb dX8_check_49 rfl (lv_at hl 1 rfl) ?_
      refine m_get hC hH 1 (by decide) wfX8_13 rfl rfl dX8_check_50 ?_
      refine lv_aload_n hx hb dX8_check_53 rfl (lv_at hl 1 rfl) ?_
      refine m_get hC hH 0 (by decide) wfX8_7 rfl rfl dX8_check_54 ?_
      obtain ⟨μ12, h11, h⟩ := ob_some h
      refine m_callv (As := [.ref (B 2), .ref (B 1)]) (rest := []) (cM_setAside l D cI B μ10 2 1 rfl rfl h11) hC hH hl (cwV 2 hts (gV wmX8_324 wvX8_setAside) rfl rfl rfl hdX8_setAside ⟨Nat.le_of_ble_eq_true rfl, Nat.le_of_ble_eq_true rfl⟩) rfl rfl (Nat.le_of_ble_eq_true rfl) ⟨Nat.zero_le _, Nat.zero_le _⟩ dX8_check_57 (fun H locs hH => ?_)
      refine lv_aload_n hx hb dX8_check_60 rfl (lv_at hl 1 rfl) ?_
      obtain ⟨μ14, h13, h⟩ := ob_some h
      refine m_callv (As := []) (rest := []) (cM_forgets l D cI B μ12  h13) hC hH hl (cwV 0 hts (gV wmX8_285 wvX8_forgets) rfl rfl rfl hdX8_forgets ⟨Nat.le_of_ble_eq_true rfl, Nat.le_of_ble_eq_true rfl⟩) rfl rfl (Nat.le_of_ble_eq_true rfl) ⟨Nat.zero_le _, Nat.zero_le _⟩ dX8_check_61 (fun H locs hH => ?_)
      refine lv_iconst (v := 0) hx hb dX8_check_64 (by decide) ?_
      refine lv_istore_n (lv' := [(3, .int (0 : Int32)), (2, .int v1), (0, .ref (B 0)), (1, .int x1)]) hx hb dX8_check_65 rfl hl (by decide) rfl (fun ls hl => ?_)
      refine lv_iconst (v := 0) hx hb dX8_check_66 (by decide) ?_
      refine lv_istore (lv' := [(4, .int (0 : Int32)), (3, .int (0 : Int32)), (2, .int v1), (0, .ref (B 0)), (1, .int x1)]) hx hb dX8_check_67 hl (by decide) rfl (fun ls hl => ?_)
      refine wM_check_L69 hC hr  ?_ 10000 x1 v1 (0 : Int32) (0 : Int32) μ14 H locs ls  hH (lv_sub hl [3, 4, 2, 1, 0] rfl) h
      intro x2 x3 μ H locs ls  hH hl h
      exact wM_check_J124 hC hr  x2 x3 μ H locs ls  hH hl h
    · have h := ite_t c8 h
      refine lv_ldcw (v := -1000000002) hx hb hown (hts _ wkX8_314) dX8_check_32 ?_
      obtain ⟨rfl, rfl⟩ := some_i2 h
      exact m_iret (v := -1000000002) hC hH hr rfl dX8_check_35
  · have h := ite_t c7 h
    refine lv_ldc (v := -1000000001) hx hb hown (hts _ wkX8_90) dX8_check_22 ?_
    obtain ⟨rfl, rfl⟩ := some_i2 h
    exact m_iret (v := -1000000001) hC hH hr rfl dX8_check_24

def rmM_keep : Room := { frames := 1, cells := 0, slots := 0, locals := 23 }
theorem hdX8_keep : yX8_keep.cls = RX8 ∧ yX8_keep.cls ≠ "java/lang/invoke/MethodHandle" ∧ yX8_keep.cls ≠ "java/lang/invoke/VarHandle" ∧ (parseMethodDescriptor yX8_keep.desc).map (fun d => d.parameters.length) = some 0 := by decide +kernel

def fM_keep (μ0 : MS) : Option (Int32 × MS) :=
  bnd (up2 μ0 0 3 (1 : Int32)) fun μ1 =>
  ob (fM_setAside μ1 1 2) fun μ4 =>
  some ((μ4 1 0), μ4)

set_option maxHeartbeats 4000000 in
set_option maxRecDepth 100000 in
theorem cM_keep (l : Launch) (D : va_G) (cI : ClassId) (B : Nat → Nat) (μ0 : MS) {r : Int32} {μr : MS} (h : fM_keep μ0 = some (r, μr)) : ∀ sz, Met l yX8_keep (Cond.code yX8_keep cX8_keep 1 (some .int) :: Tw) rmM_keep (mP D cI B μ0 sz [.ref (B 0)]) (mQi D cI B μ0 sz μr r) 0 0 (va_A (mW B cI μ0) sz) := by
  intro sz
  refine Met.ofW (cc := cX8_keep) (maxL := 1) (ret := (some .int)) (by decide) rfl ?_
  intro p e s m args below meth c s₁ Bd hml hv
  obtain ⟨hC, hr⟩ := jC_of Bd hml
  obtain ⟨rfl, rfl, hH⟩ := m_enter hv
  have hC : jC p s m _ meth c cX8_keep 1 RX8 := hC
  have hx := hC.1.1
  have hb := hC.1.2.1
  have hown := hC.1.2.2.2.1
  have hts := hC.1.2.2.2.2
  have hl := lv_entry ([.ref (B 0)]) (n := 1) (Nat.le_of_ble_eq_true rfl)
  rw [lg_entry_eq]
  generalize (lg_sl ([.ref (B 0)]) ++ List.replicate (1 - (lg_sl ([.ref (B 0)])).length) Slot.unset).toArray = ls at hl ⊢
  have hl : lv_has ls 1 [(0, .ref (B 0))] := hl
  unfold fM_keep at h
  refine W_nm (fun H locs eH eL => ?_)
  have hH : mH D cI B s (va_A (mW B cI μ0) s.heap.size) μ0 H locs := by rw [eH, eL]; exact hH
  show W p l e rmM_keep s m _ below meth c H locs 0 0 _ (F0 m 0 ls [])
  refine lv_aload_n hx hb dX8_keep_0 rfl (lv_at hl 0 rfl) ?_
  refine lv_iconst (v := 1) hx hb dX8_keep_1 (by decide) ?_
  obtain ⟨μ1, e2, h⟩ := bnd_some h
  refine m_put (ty := .boolean) hC hH 3 (by decide) wfX8_320 rfl rfl (by decide +kernel) (by decide) (by decide) e2 (mF_3 B _ _) dX8_keep_2 (fun H locs hH => ?_)
  refine lv_aload_n hx hb dX8_keep_5 rfl (lv_at hl 0 rfl) ?_
  refine lv_aload_n hx hb dX8_keep_6 rfl (lv_at hl 0 rfl) ?_
  refine m_get hC hH 0 (by decide) wfX8_7 rfl rfl dX8_keep_7 ?_
  refine lv_aload_n hx hb dX8_keep_10 rfl (lv_at hl 0 rfl) ?_
  refine m_get hC hH 1 (by decide) wfX8_13 rfl rfl dX8_keep_11 ?_
  obtain ⟨μ4, h3, h⟩ := ob_some h
  refine m_callv (As := [.ref (B 1), .ref (B 2)]) (rest := []) (cM_setAside l D cI B μ1 1 2 rfl rfl h3) hC hH hl (cwV 2 hts (gV wmX8_324 wvX8_setAside) rfl rfl rfl hdX8_setAside ⟨Nat.le_of_ble_eq_true rfl, Nat.le_of_ble_eq_true rfl⟩) rfl rfl (Nat.le_of_ble_eq_true rfl) ⟨Nat.zero_le _, Nat.zero_le _⟩ dX8_keep_14 (fun H locs hH => ?_)
  refine lv_aload_n hx hb dX8_keep_17 rfl (lv_at hl 0 rfl) ?_
  refine m_get hC hH 0 (by decide) wfX8_7 rfl rfl dX8_keep_18 ?_
  refine lv_iconst (v := 0) hx hb dX8_keep_21 (by decide) ?_
  refine m_ald hC hH (a := 1) rfl rfl (vp_b rfl) dX8_keep_22 ?_
  obtain ⟨rfl, rfl⟩ := some_i2 h
  exact m_iret hC hH hr rfl dX8_keep_23

def rmM_back : Room := { frames := 3, cells := 0, slots := 0, locals := 65 }
theorem hdX8_back : yX8_back.cls = RX8 ∧ yX8_back.cls ≠ "java/lang/invoke/MethodHandle" ∧ yX8_back.cls ≠ "java/lang/invoke/VarHandle" ∧ (parseMethodDescriptor yX8_back.desc).map (fun d => d.parameters.length) = some 0 := by decide +kernel

def fM_back (μ0 : MS) : Option (Int32 × MS) :=
  if (μ0 0 3) = 0 then (
    some ((-1000000002 : Int32), μ0))
  else (
    ob (fM_setAside μ0 2 1) fun μ3 =>
    ob (fM_forgets μ3) fun μ5 =>
    some ((μ5 1 0), μ5))

set_option maxHeartbeats 4000000 in
set_option maxRecDepth 100000 in
theorem cM_back (l : Launch) (D : va_G) (cI : ClassId) (B : Nat → Nat) (μ0 : MS) {r : Int32} {μr : MS} (h : fM_back μ0 = some (r, μr)) : ∀ sz, Met l yX8_back (Cond.code yX8_back cX8_back 1 (some .int) :: Tw) rmM_back (mP D cI B μ0 sz [.ref (B 0)]) (mQi D cI B μ0 sz μr r) 0 0 (va_A (mW B cI μ0) sz) := by
  intro sz
  refine Met.ofW (cc := cX8_back) (maxL := 1) (ret := (some .int)) (by decide) rfl ?_
  intro p e s m args below meth c s₁ Bd hml hv
  obtain ⟨hC, hr⟩ := jC_of Bd hml
  obtain ⟨rfl, rfl, hH⟩ := m_enter hv
  have hC : jC p s m _ meth c cX8_back 1 RX8 := hC
  have hx := hC.1.1
  have hb := hC.1.2.1
  have hown := hC.1.2.2.2.1
  have hts := hC.1.2.2.2.2
  have hl := lv_entry ([.ref (B 0)]) (n := 1) (Nat.le_of_ble_eq_true rfl)
  rw [lg_entry_eq]
  generalize (lg_sl ([.ref (B 0)]) ++ List.replicate (1 - (lg_sl ([.ref (B 0)])).length) Slot.unset).toArray = ls at hl ⊢
  have hl : lv_has ls 1 [(0, .ref (B 0))] := hl
  unfold fM_back at h
  refine W_nm (fun H locs eH eL => ?_)
  have hH : mH D cI B s (va_A (mW B cI μ0) s.heap.size) μ0 H locs := by rw [eH, eL]; exact hH
  show W p l e rmM_back s m _ below meth c H locs 0 0 _ (F0 m 0 ls [])
  refine lv_aload_n hx hb dX8_back_0 rfl (lv_at hl 0 rfl) ?_
  refine m_get hC hH 3 (by decide) wfX8_320 rfl rfl dX8_back_1 ?_
  refine lv_if_ne (tgt := 11) hx hb dX8_back_4 (by decide) (fun c1 => ?_) (fun c1 => ?_)
  · have h := ite_f c1 h
    refine lv_aload_n hx hb dX8_back_11 rfl (lv_at hl 0 rfl) ?_
    refine lv_aload_n hx hb dX8_back_12 rfl (lv_at hl 0 rfl) ?_
    refine m_get hC hH 1 (by decide) wfX8_13 rfl rfl dX8_back_13 ?_
    refine lv_aload_n hx hb dX8_back_16 rfl (lv_at hl 0 rfl) ?_
    refine m_get hC hH 0 (by decide) wfX8_7 rfl rfl dX8_back_17 ?_
    obtain ⟨μ3, h2, h⟩ := ob_some h
    refine m_callv (As := [.ref (B 2), .ref (B 1)]) (rest := []) (cM_setAside l D cI B μ0 2 1 rfl rfl h2) hC hH hl (cwV 2 hts (gV wmX8_324 wvX8_setAside) rfl rfl rfl hdX8_setAside ⟨Nat.le_of_ble_eq_true rfl, Nat.le_of_ble_eq_true rfl⟩) rfl rfl (Nat.le_of_ble_eq_true rfl) ⟨Nat.zero_le _, Nat.zero_le _⟩ dX8_back_20 (fun H locs hH => ?_)
    refine lv_aload_n hx hb dX8_back_23 rfl (lv_at hl 0 rfl) ?_
    obtain ⟨μ5, h4, h⟩ := ob_some h
    refine m_callv (As := []) (rest := []) (cM_forgets l D cI B μ3  h4) hC hH hl (cwV 0 hts (gV wmX8_285 wvX8_forgets) rfl rfl rfl hdX8_forgets ⟨Nat.le_of_ble_eq_true rfl, Nat.le_of_ble_eq_true rfl⟩) rfl rfl (Nat.le_of_ble_eq_true rfl) ⟨Nat.zero_le _, Nat.zero_le _⟩ dX8_back_24 (fun H locs hH => ?_)
    refine lv_aload_n hx hb dX8_back_27 rfl (lv_at hl 0 rfl) ?_
    refine m_get hC hH 0 (by decide) wfX8_7 rfl rfl dX8_back_28 ?_
    refine lv_iconst (v := 0) hx hb dX8_back_31 (by decide) ?_
    refine m_ald hC hH (a := 1) rfl rfl (vp_b rfl) dX8_back_32 ?_
    obtain ⟨rfl, rfl⟩ := some_i2 h
    exact m_iret hC hH hr rfl dX8_back_33
  · have h := ite_t c1 h
    refine lv_ldcw (v := -1000000002) hx hb hown (hts _ wkX8_314) dX8_back_7 ?_
    obtain ⟨rfl, rfl⟩ := some_i2 h
    exact m_iret (v := -1000000002) hC hH hr rfl dX8_back_10

def rmM_count : Room := { frames := 2, cells := 0, slots := 0, locals := 45 }
theorem hdX8_count : yX8_count.cls = RX8 ∧ yX8_count.cls ≠ "java/lang/invoke/MethodHandle" ∧ yX8_count.cls ≠ "java/lang/invoke/VarHandle" ∧ (parseMethodDescriptor yX8_count.desc).map (fun d => d.parameters.length) = some 1 := by decide +kernel

def fM_count (μ0 : MS) (x1 : Int32) : Option (Int32) :=
  if x1 = (0 : Int32) then (
    some (μ0 1 0))
  else if x1 = (1 : Int32) then (
    some (μ0 1 2))
  else if x1 = (2 : Int32) then (
    some (μ0 1 4))
  else if x1 = (3 : Int32) then (
    ob (fM_manyTowns μ0) fun r6 =>
    some r6)
  else if x1 = (4 : Int32) then (
    some (μ0 1 1))
  else if x1 = (5 : Int32) then (
    some (μ0 0 32))
  else if x1 = (6 : Int32) then (
    some (μ0 0 17))
  else if x1 = (7 : Int32) then (
    some (μ0 1 5))
  else (
    some (-1000000001 : Int32))

set_option maxHeartbeats 4000000 in
set_option maxRecDepth 100000 in
theorem cM_count (l : Launch) (D : va_G) (cI : ClassId) (B : Nat → Nat) (μ0 : MS) (x1 : Int32) {r : Int32} (h : fM_count μ0 x1 = some r) : ∀ sz, Met l yX8_count (Cond.code yX8_count cX8_count 2 (some .int) :: Tw) rmM_count (mP D cI B μ0 sz [.ref (B 0), .int x1]) (mQi D cI B μ0 sz μ0 r) 0 0 (va_A (mW B cI μ0) sz) := by
  intro sz
  refine Met.ofW (cc := cX8_count) (maxL := 2) (ret := (some .int)) (by decide) rfl ?_
  intro p e s m args below meth c s₁ Bd hml hv
  obtain ⟨hC, hr⟩ := jC_of Bd hml
  obtain ⟨rfl, rfl, hH⟩ := m_enter hv
  have hC : jC p s m _ meth c cX8_count 2 RX8 := hC
  have hx := hC.1.1
  have hb := hC.1.2.1
  have hown := hC.1.2.2.2.1
  have hts := hC.1.2.2.2.2
  have hl := lv_entry ([.ref (B 0), .int x1]) (n := 2) (Nat.le_of_ble_eq_true rfl)
  rw [lg_entry_eq]
  generalize (lg_sl ([.ref (B 0), .int x1]) ++ List.replicate (2 - (lg_sl ([.ref (B 0), .int x1])).length) Slot.unset).toArray = ls at hl ⊢
  have hl : lv_has ls 2 [(0, .ref (B 0)), (1, .int x1)] := hl
  unfold fM_count at h
  refine W_nm (fun H locs eH eL => ?_)
  have hH : mH D cI B s (va_A (mW B cI μ0) s.heap.size) μ0 H locs := by rw [eH, eL]; exact hH
  show W p l e rmM_count s m _ below meth c H locs 0 0 _ (F0 m 0 ls [])
  refine lv_iload_n hx hb dX8_count_0 rfl (lv_at hl 1 rfl) ?_
  by_cases c1 : x1 = (0 : Int32)
  · have h := ite_t c1 h
    refine lv_tsw (tgt := 48) (off := 47) hx hb (0) c1 dX8_count_1 (by decide) (by decide) (by decide) (by decide) ?_
    refine lv_aload_n hx hb dX8_count_48 rfl (lv_at hl 0 rfl) ?_
    refine m_get hC hH 0 (by decide) wfX8_7 rfl rfl dX8_count_49 ?_
    refine lv_iconst (v := 0) hx hb dX8_count_52 (by decide) ?_
    refine m_ald hC hH (a := 1) rfl rfl (vp_b rfl) dX8_count_53 ?_
    obtain rfl := some_i1 h
    exact m_iret hC hH hr rfl dX8_count_54
  · have h := ite_f c1 h
    by_cases c2 : x1 = (1 : Int32)
    · have h := ite_t c2 h
      refine lv_tsw (tgt := 55) (off := 54) hx hb (1) c2 dX8_count_1 (by decide) (by decide) (by decide) (by decide) ?_
      refine lv_aload_n hx hb dX8_count_55 rfl (lv_at hl 0 rfl) ?_
      refine m_get hC hH 0 (by decide) wfX8_7 rfl rfl dX8_count_56 ?_
      refine lv_iconst (v := 2) hx hb dX8_count_59 (by decide) ?_
      refine m_ald hC hH (a := 1) rfl rfl (vp_b rfl) dX8_count_60 ?_
      obtain rfl := some_i1 h
      exact m_iret hC hH hr rfl dX8_count_61
    · have h := ite_f c2 h
      by_cases c3 : x1 = (2 : Int32)
      · have h := ite_t c3 h
        refine lv_tsw (tgt := 62) (off := 61) hx hb (2) c3 dX8_count_1 (by decide) (by decide) (by decide) (by decide) ?_
        refine lv_aload_n hx hb dX8_count_62 rfl (lv_at hl 0 rfl) ?_
        refine m_get hC hH 0 (by decide) wfX8_7 rfl rfl dX8_count_63 ?_
        refine lv_iconst (v := 4) hx hb dX8_count_66 (by decide) ?_
        refine m_ald hC hH (a := 1) rfl rfl (vp_b rfl) dX8_count_67 ?_
        obtain rfl := some_i1 h
        exact m_iret hC hH hr rfl dX8_count_68
      · have h := ite_f c3 h
        by_cases c4 : x1 = (3 : Int32)
        · have h := ite_t c4 h
          refine lv_tsw (tgt := 69) (off := 68) hx hb (3) c4 dX8_count_1 (by decide) (by decide) (by decide) (by decide) ?_
          refine lv_aload_n hx hb dX8_count_69 rfl (lv_at hl 0 rfl) ?_
          obtain ⟨r6, h5, h⟩ := ob_some h
          refine m_calli (As := []) (rest := []) (cM_manyTowns l D cI B μ0  h5) hC hH hl (cwV 0 hts (gV wmX8_331 wvX8_manyTowns) rfl rfl rfl hdX8_manyTowns ⟨Nat.le_of_ble_eq_true rfl, Nat.le_of_ble_eq_true rfl⟩) rfl rfl (Nat.le_of_ble_eq_true rfl) ⟨Nat.zero_le _, Nat.zero_le _⟩ dX8_count_70 (fun H locs hH => ?_)
          obtain rfl := some_i1 h
          exact m_iret hC hH hr rfl dX8_count_73
        · have h := ite_f c4 h
          by_cases c7 : x1 = (4 : Int32)
          · have h := ite_t c7 h
            refine lv_tsw (tgt := 74) (off := 73) hx hb (4) c7 dX8_count_1 (by decide) (by decide) (by decide) (by decide) ?_
            refine lv_aload_n hx hb dX8_count_74 rfl (lv_at hl 0 rfl) ?_
            refine m_get hC hH 0 (by decide) wfX8_7 rfl rfl dX8_count_75 ?_
            refine lv_iconst (v := 1) hx hb dX8_count_78 (by decide) ?_
            refine m_ald hC hH (a := 1) rfl rfl (vp_b rfl) dX8_count_79 ?_
            obtain rfl := some_i1 h
            exact m_iret hC hH hr rfl dX8_count_80
          · have h := ite_f c7 h
            by_cases c8 : x1 = (5 : Int32)
            · have h := ite_t c8 h
              refine lv_tsw (tgt := 81) (off := 80) hx hb (5) c8 dX8_count_1 (by decide) (by decide) (by decide) (by decide) ?_
              refine lv_aload_n hx hb dX8_count_81 rfl (lv_at hl 0 rfl) ?_
              refine m_get hC hH 32 (by decide) wfX8_315 rfl rfl dX8_count_82 ?_
              obtain rfl := some_i1 h
              exact m_iret hC hH hr rfl dX8_count_85
            · have h := ite_f c8 h
              by_cases c9 : x1 = (6 : Int32)
              · have h := ite_t c9 h
                refine lv_tsw (tgt := 86) (off := 85) hx hb (6) c9 dX8_count_1 (by decide) (by decide) (by decide) (by decide) ?_
                refine lv_aload_n hx hb dX8_count_86 rfl (lv_at hl 0 rfl) ?_
                refine m_get hC hH 17 (by decide) wfX8_195 rfl rfl dX8_count_87 ?_
                obtain rfl := some_i1 h
                exact m_iret hC hH hr rfl dX8_count_90
              · have h := ite_f c9 h
                by_cases c10 : x1 = (7 : Int32)
                · have h := ite_t c10 h
                  refine lv_tsw (tgt := 91) (off := 90) hx hb (7) c10 dX8_count_1 (by decide) (by decide) (by decide) (by decide) ?_
                  refine lv_aload_n hx hb dX8_count_91 rfl (lv_at hl 0 rfl) ?_
                  refine m_get hC hH 0 (by decide) wfX8_7 rfl rfl dX8_count_92 ?_
                  refine lv_iconst (v := 5) hx hb dX8_count_95 (by decide) ?_
                  refine m_ald hC hH (a := 1) rfl rfl (vp_b rfl) dX8_count_96 ?_
                  obtain rfl := some_i1 h
                  exact m_iret hC hH hr rfl dX8_count_97
                · have h := ite_f c10 h
                  refine lv_tswd (tgt := 98) hx hb [0, 1, 2, 3, 4, 5, 6, 7] (by simp only [List.mem_cons, List.not_mem_nil, or_false]; intro z hz; rcases hz with rfl | rfl | rfl | rfl | rfl | rfl | rfl | rfl <;> first | exact i32ne c1 (by decide) | exact i32ne c2 (by decide) | exact i32ne c3 (by decide) | exact i32ne c4 (by decide) | exact i32ne c7 (by decide) | exact i32ne c8 (by decide) | exact i32ne c9 (by decide) | exact i32ne c10 (by decide)) dX8_count_1 (by decide) (by decide) (by decide) ?_
                  refine lv_ldc (v := -1000000001) hx hb hown (hts _ wkX8_90) dX8_count_98 ?_
                  obtain rfl := some_i1 h
                  exact m_iret (v := -1000000001) hC hH hr rfl dX8_count_100
