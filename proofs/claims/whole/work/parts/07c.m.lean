theorem hdX8_either : yX8_either.cls = RX8 ∧ yX8_either.cls ≠ "java/lang/invoke/MethodHandle" ∧ yX8_either.cls ≠ "java/lang/invoke/VarHandle" ∧ (parseMethodDescriptor yX8_either.desc).map (fun d => d.parameters.length) = some 1 := by decide +kernel
theorem hdX8_both : yX8_both.cls = RX8 ∧ yX8_both.cls ≠ "java/lang/invoke/MethodHandle" ∧ yX8_both.cls ≠ "java/lang/invoke/VarHandle" ∧ (parseMethodDescriptor yX8_both.desc).map (fun d => d.parameters.length) = some 1 := by decide +kernel
theorem hdX8_test : yX8_test.cls = RX8 ∧ yX8_test.cls ≠ "java/lang/invoke/MethodHandle" ∧ yX8_test.cls ≠ "java/lang/invoke/VarHandle" ∧ (parseMethodDescriptor yX8_test.desc).map (fun d => d.parameters.length) = some 1 := by decide +kernel
theorem hdX8_sum : yX8_sum.cls = RX8 ∧ yX8_sum.cls ≠ "java/lang/invoke/MethodHandle" ∧ yX8_sum.cls ≠ "java/lang/invoke/VarHandle" ∧ (parseMethodDescriptor yX8_sum.desc).map (fun d => d.parameters.length) = some 1 := by decide +kernel
theorem hdX8_term : yX8_term.cls = RX8 ∧ yX8_term.cls ≠ "java/lang/invoke/MethodHandle" ∧ yX8_term.cls ≠ "java/lang/invoke/VarHandle" ∧ (parseMethodDescriptor yX8_term.desc).map (fun d => d.parameters.length) = some 1 := by decide +kernel
theorem hdX8_part0 : yX8_part0.cls = RX8 ∧ yX8_part0.cls ≠ "java/lang/invoke/MethodHandle" ∧ yX8_part0.cls ≠ "java/lang/invoke/VarHandle" ∧ (parseMethodDescriptor yX8_part0.desc).map (fun d => d.parameters.length) = some 1 := by decide +kernel

def fM_either_L10 (F_both : MS → Int32 → Option (Int32 × MS)) (k43 : MS → Option (Int32 × MS)) : Nat → Int32 → MS → Option (Int32 × MS)
  | 0, _, _ => none
  | n + 1, x1, μ =>
    ob (fM_isSign μ (124 : Int32)) fun r6 =>
    if r6 = 0 then (
      k43 μ)
    else (
      ob (fM_nextToken μ) fun μ9 =>
      ob2 (F_both μ9 x1) fun r11 μ12 =>
      if r11 = 0 then (
        some ((0 : Int32), μ12))
      else (
        ob (fM_step μ12 (2 : Int32) (124 : Int32)) fun μ15 =>
        (fM_either_L10 F_both k43 n) x1 μ15))

set_option maxHeartbeats 4000000 in
set_option maxRecDepth 100000 in
theorem wM_either_L10 {p : Program} {l : Launch} {e : Env} {s : State} {m : MethodId} {args : Array Value} {below : List Frame} {meth : Method} {c : Code} {D : va_G} {cI : ClassId} {B : Nat → Nat} {μ0 : MS} {d : Nat} {F_both : MS → Int32 → Option (Int32 × MS)} {r : Int32} {μr : MS} (hC : jC p s m args meth c cX8_either 2 RX8) (hr : meth.sig.returnType = some .boolean) (hF_both : ∀ (μ : MS) (x1 : Int32) (r : Int32) (μ1 : MS), F_both μ x1 = some (r, μ1) → ∀ sz, Met l yX8_both (Cond.code yX8_both cX8_both 2 (some .boolean) :: Tw) (rmG d) (mP D cI B μ sz [.ref (B 0), .int x1]) (mQi D cI B μ sz μ1 r) 0 0 (va_A (mW B cI μ) sz)) {k43 : MS → Option (Int32 × MS)} (hk43 : ∀ (μ : MS) (H : Heap) (locs : List Loc) (ls : Array Slot), mH D cI B s (va_A (mW B cI μ0) s.heap.size) μ H locs → lv_has ls 2 [] → k43 μ = some (r, μr) → W p l e (rmG (d + 1)) s m args below meth c H locs 0 0 (MQ below (mQi D cI B μ0 s.heap.size μr r) args s 0 0 (va_A (mW B cI μ0) s.heap.size)) (F0 m 43 ls [])) : ∀ (n : Nat) (x1 : Int32) (μ : MS) (H : Heap) (locs : List Loc) (ls : Array Slot), mH D cI B s (va_A (mW B cI μ0) s.heap.size) μ H locs → lv_has ls 2 [(0, .ref (B 0)), (1, .int x1)] → fM_either_L10 F_both k43 n x1 μ = some (r, μr) → W p l e (rmG (d + 1)) s m args below meth c H locs 0 0 (MQ below (mQi D cI B μ0 s.heap.size μr r) args s 0 0 (va_A (mW B cI μ0) s.heap.size)) (F0 m 10 ls []) := by
  have hx := hC.1.1
  have hb := hC.1.2.1
  have hown := hC.1.2.2.2.1
  have hts := hC.1.2.2.2.2
  intro n
  induction n with
  | zero =>
    intro x1 μ H locs ls  hH hl h
    rw [fM_either_L10] at h
    cases h
  | succ n ih =>
    intro x1 μ H locs ls  hH hl h
    rw [fM_either_L10] at h
    refine lv_aload_n hx hb dX8_either_10 rfl (lv_at hl 0 rfl) ?_
    refine lv_bipush (v := 124) hx hb dX8_either_11 (by decide) ?_
    obtain ⟨r6, h5, h⟩ := ob_some h
    refine m_calli (As := [.int (124 : Int32)]) (rest := []) (cM_isSign l D cI B μ (124 : Int32) h5) hC hH hl (cwV 1 hts (gV wmX8_240 wvX8_isSign) rfl rfl rfl hdX8_isSign (rmG_c d (Nat.le_of_ble_eq_true rfl) (Nat.le_of_ble_eq_true rfl))) rfl rfl (Nat.le_of_ble_eq_true rfl) ⟨Nat.zero_le _, Nat.zero_le _⟩ dX8_either_13 (fun H locs hH => ?_)
    refine lv_if_eq (tgt := 43) hx hb dX8_either_16 (by decide) (fun c7 => ?_) (fun c7 => ?_)
    · have h := ite_t c7 h
      exact hk43 μ H locs ls  hH (lv_sub hl [] rfl) h
    · have h := ite_f c7 h
      refine lv_aload_n hx hb dX8_either_19 rfl (lv_at hl 0 rfl) ?_
      obtain ⟨μ9, h8, h⟩ := ob_some h
      refine m_callv (As := []) (rest := []) (cM_nextToken l D cI B μ  h8) hC hH hl (cwV 0 hts (gV wmX8_243 wvX8_nextToken) rfl rfl rfl hdX8_nextToken (rmG_c d (Nat.le_of_ble_eq_true rfl) (Nat.le_of_ble_eq_true rfl))) rfl rfl (Nat.le_of_ble_eq_true rfl) ⟨Nat.zero_le _, Nat.zero_le _⟩ dX8_either_20 (fun H locs hH => ?_)
      refine lv_aload_n hx hb dX8_either_23 rfl (lv_at hl 0 rfl) ?_
      refine lv_iload_n hx hb dX8_either_24 rfl (lv_at hl 1 rfl) ?_
      obtain ⟨r11, μ12, h10, h⟩ := ob2_some h
      refine m_calli (As := [.int x1]) (rest := []) (hF_both _ _ _ _ h10) hC hH hl (cwV 1 hts (gV wmX8_237 wvX8_both) rfl rfl rfl hdX8_both (rmG_s d (Nat.le_of_ble_eq_true rfl))) rfl rfl (Nat.le_of_ble_eq_true rfl) ⟨Nat.zero_le _, Nat.zero_le _⟩ dX8_either_25 (fun H locs hH => ?_)
      refine lv_if_ne (tgt := 33) hx hb dX8_either_28 (by decide) (fun c13 => ?_) (fun c13 => ?_)
      · have h := ite_f c13 h
        refine lv_aload_n hx hb dX8_either_33 rfl (lv_at hl 0 rfl) ?_
        refine lv_iconst (v := 2) hx hb dX8_either_34 (by decide) ?_
        refine lv_bipush (v := 124) hx hb dX8_either_35 (by decide) ?_
        obtain ⟨μ15, h14, h⟩ := ob_some h
        refine m_callv (As := [.int (2 : Int32), .int (124 : Int32)]) (rest := []) (cM_step l D cI B μ12 (2 : Int32) (124 : Int32) h14) hC hH hl (cwV 2 hts (gV wmX8_246 wvX8_step) rfl rfl rfl hdX8_step (rmG_c d (Nat.le_of_ble_eq_true rfl) (Nat.le_of_ble_eq_true rfl))) rfl rfl (Nat.le_of_ble_eq_true rfl) ⟨Nat.zero_le _, Nat.zero_le _⟩ dX8_either_37 (fun H locs hH => ?_)
        refine lv_goto (tgt := 10) hx hb dX8_either_40 (by decide) ?_
        exact ih x1 μ15 H locs ls  hH hl h
      · have h := ite_t c13 h
        refine lv_iconst (v := 0) hx hb dX8_either_31 (by decide) ?_
        obtain ⟨rfl, rfl⟩ := some_i2 h
        exact m_iret (v := 0) hC hH hr (by decide) dX8_either_32

def fM_either (F_both : MS → Int32 → Option (Int32 × MS)) (μ0 : MS) (x1 : Int32) : Option (Int32 × MS) :=
  ob2 (F_both μ0 x1) fun r2 μ3 =>
  if r2 = 0 then (
    some ((0 : Int32), μ3))
  else (
    fM_either_L10 F_both (fun (μ : MS) => some ((1 : Int32), μ)) 10000 x1 μ3)

set_option maxHeartbeats 4000000 in
set_option maxRecDepth 100000 in
theorem cM_either (l : Launch) (D : va_G) (cI : ClassId) (B : Nat → Nat) (d : Nat) (F_both : MS → Int32 → Option (Int32 × MS)) (hF_both : ∀ (μ : MS) (x1 : Int32) (r : Int32) (μ1 : MS), F_both μ x1 = some (r, μ1) → ∀ sz, Met l yX8_both (Cond.code yX8_both cX8_both 2 (some .boolean) :: Tw) (rmG d) (mP D cI B μ sz [.ref (B 0), .int x1]) (mQi D cI B μ sz μ1 r) 0 0 (va_A (mW B cI μ) sz)) (μ0 : MS) (x1 : Int32) {r : Int32} {μr : MS} (h : fM_either F_both μ0 x1 = some (r, μr)) : ∀ sz, Met l yX8_either (Cond.code yX8_either cX8_either 2 (some .boolean) :: Tw) (rmG (d + 1)) (mP D cI B μ0 sz [.ref (B 0), .int x1]) (mQi D cI B μ0 sz μr r) 0 0 (va_A (mW B cI μ0) sz) := by
  intro sz
  refine Met.ofW (cc := cX8_either) (maxL := 2) (ret := (some .boolean)) (by decide) rfl ?_
  intro p e s m args below meth c s₁ Bd hml hv
  obtain ⟨hC, hr⟩ := jC_of Bd hml
  obtain ⟨rfl, rfl, hH⟩ := m_enter hv
  have hC : jC p s m _ meth c cX8_either 2 RX8 := hC
  have hx := hC.1.1
  have hb := hC.1.2.1
  have hown := hC.1.2.2.2.1
  have hts := hC.1.2.2.2.2
  have hl := lv_entry ([.ref (B 0), .int x1]) (n := 2) (Nat.le_of_ble_eq_true rfl)
  rw [lg_entry_eq]
  generalize (lg_sl ([.ref (B 0), .int x1]) ++ List.replicate (2 - (lg_sl ([.ref (B 0), .int x1])).length) Slot.unset).toArray = ls at hl ⊢
  have hl : lv_has ls 2 [(0, .ref (B 0)), (1, .int x1)] := hl
  unfold fM_either at h
  refine W_nm (fun H locs eH eL => ?_)
  have hH : mH D cI B s (va_A (mW B cI μ0) s.heap.size) μ0 H locs := by rw [eH, eL]; exact hH
  show W p l e (rmG (d + 1)) s m _ below meth c H locs 0 0 _ (F0 m 0 ls [])
  refine lv_aload_n hx hb dX8_either_0 rfl (lv_at hl 0 rfl) ?_
  refine lv_iload_n hx hb dX8_either_1 rfl (lv_at hl 1 rfl) ?_
  obtain ⟨r2, μ3, h1, h⟩ := ob2_some h
  refine m_calli (As := [.int x1]) (rest := []) (hF_both _ _ _ _ h1) hC hH hl (cwV 1 hts (gV wmX8_237 wvX8_both) rfl rfl rfl hdX8_both (rmG_s d (Nat.le_of_ble_eq_true rfl))) rfl rfl (Nat.le_of_ble_eq_true rfl) ⟨Nat.zero_le _, Nat.zero_le _⟩ dX8_either_2 (fun H locs hH => ?_)
  refine lv_if_ne (tgt := 10) hx hb dX8_either_5 (by decide) (fun c4 => ?_) (fun c4 => ?_)
  · have h := ite_f c4 h
    refine wM_either_L10 hC hr hF_both  ?_ 10000 x1 μ3 H locs ls  hH hl h
    intro μ H locs ls  hH hl h
    refine lv_iconst (v := 1) hx hb dX8_either_43 (by decide) ?_
    obtain ⟨rfl, rfl⟩ := some_i2 h
    exact m_iret (v := 1) hC hH hr (by decide) dX8_either_44
  · have h := ite_t c4 h
    refine lv_iconst (v := 0) hx hb dX8_either_8 (by decide) ?_
    obtain ⟨rfl, rfl⟩ := some_i2 h
    exact m_iret (v := 0) hC hH hr (by decide) dX8_either_9


def fM_both_L10 (F_test : MS → Int32 → Option (Int32 × MS)) (k43 : MS → Option (Int32 × MS)) : Nat → Int32 → MS → Option (Int32 × MS)
  | 0, _, _ => none
  | n + 1, x1, μ =>
    ob (fM_isSign μ (38 : Int32)) fun r6 =>
    if r6 = 0 then (
      k43 μ)
    else (
      ob (fM_nextToken μ) fun μ9 =>
      ob2 (F_test μ9 x1) fun r11 μ12 =>
      if r11 = 0 then (
        some ((0 : Int32), μ12))
      else (
        ob (fM_step μ12 (2 : Int32) (38 : Int32)) fun μ15 =>
        (fM_both_L10 F_test k43 n) x1 μ15))

set_option maxHeartbeats 4000000 in
set_option maxRecDepth 100000 in
theorem wM_both_L10 {p : Program} {l : Launch} {e : Env} {s : State} {m : MethodId} {args : Array Value} {below : List Frame} {meth : Method} {c : Code} {D : va_G} {cI : ClassId} {B : Nat → Nat} {μ0 : MS} {d : Nat} {F_test : MS → Int32 → Option (Int32 × MS)} {r : Int32} {μr : MS} (hC : jC p s m args meth c cX8_both 2 RX8) (hr : meth.sig.returnType = some .boolean) (hF_test : ∀ (μ : MS) (x1 : Int32) (r : Int32) (μ1 : MS), F_test μ x1 = some (r, μ1) → ∀ sz, Met l yX8_test (Cond.code yX8_test cX8_test 3 (some .boolean) :: Tw) (rmG d) (mP D cI B μ sz [.ref (B 0), .int x1]) (mQi D cI B μ sz μ1 r) 0 0 (va_A (mW B cI μ) sz)) {k43 : MS → Option (Int32 × MS)} (hk43 : ∀ (μ : MS) (H : Heap) (locs : List Loc) (ls : Array Slot), mH D cI B s (va_A (mW B cI μ0) s.heap.size) μ H locs → lv_has ls 2 [] → k43 μ = some (r, μr) → W p l e (rmG (d + 1)) s m args below meth c H locs 0 0 (MQ below (mQi D cI B μ0 s.heap.size μr r) args s 0 0 (va_A (mW B cI μ0) s.heap.size)) (F0 m 43 ls [])) : ∀ (n : Nat) (x1 : Int32) (μ : MS) (H : Heap) (locs : List Loc) (ls : Array Slot), mH D cI B s (va_A (mW B cI μ0) s.heap.size) μ H locs → lv_has ls 2 [(0, .ref (B 0)), (1, .int x1)] → fM_both_L10 F_test k43 n x1 μ = some (r, μr) → W p l e (rmG (d + 1)) s m args below meth c H locs 0 0 (MQ below (mQi D cI B μ0 s.heap.size μr r) args s 0 0 (va_A (mW B cI μ0) s.heap.size)) (F0 m 10 ls []) := by
  have hx := hC.1.1
  have hb := hC.1.2.1
  have hown := hC.1.2.2.2.1
  have hts := hC.1.2.2.2.2
  intro n
  induction n with
  | zero =>
    intro x1 μ H locs ls  hH hl h
    rw [fM_both_L10] at h
    cases h
  | succ n ih =>
    intro x1 μ H locs ls  hH hl h
    rw [fM_both_L10] at h
    refine lv_aload_n hx hb dX8_both_10 rfl (lv_at hl 0 rfl) ?_
    refine lv_bipush (v := 38) hx hb dX8_both_11 (by decide) ?_
    obtain ⟨r6, h5, h⟩ := ob_some h
    refine m_calli (As := [.int (38 : Int32)]) (rest := []) (cM_isSign l D cI B μ (38 : Int32) h5) hC hH hl (cwV 1 hts (gV wmX8_240 wvX8_isSign) rfl rfl rfl hdX8_isSign (rmG_c d (Nat.le_of_ble_eq_true rfl) (Nat.le_of_ble_eq_true rfl))) rfl rfl (Nat.le_of_ble_eq_true rfl) ⟨Nat.zero_le _, Nat.zero_le _⟩ dX8_both_13 (fun H locs hH => ?_)
    refine lv_if_eq (tgt := 43) hx hb dX8_both_16 (by decide) (fun c7 => ?_) (fun c7 => ?_)
    · have h := ite_t c7 h
      exact hk43 μ H locs ls  hH (lv_sub hl [] rfl) h
    · have h := ite_f c7 h
      refine lv_aload_n hx hb dX8_both_19 rfl (lv_at hl 0 rfl) ?_
      obtain ⟨μ9, h8, h⟩ := ob_some h
      refine m_callv (As := []) (rest := []) (cM_nextToken l D cI B μ  h8) hC hH hl (cwV 0 hts (gV wmX8_243 wvX8_nextToken) rfl rfl rfl hdX8_nextToken (rmG_c d (Nat.le_of_ble_eq_true rfl) (Nat.le_of_ble_eq_true rfl))) rfl rfl (Nat.le_of_ble_eq_true rfl) ⟨Nat.zero_le _, Nat.zero_le _⟩ dX8_both_20 (fun H locs hH => ?_)
      refine lv_aload_n hx hb dX8_both_23 rfl (lv_at hl 0 rfl) ?_
      refine lv_iload_n hx hb dX8_both_24 rfl (lv_at hl 1 rfl) ?_
      obtain ⟨r11, μ12, h10, h⟩ := ob2_some h
      refine m_calli (As := [.int x1]) (rest := []) (hF_test _ _ _ _ h10) hC hH hl (cwV 1 hts (gV wmX8_249 wvX8_test) rfl rfl rfl hdX8_test (rmG_s d (Nat.le_of_ble_eq_true rfl))) rfl rfl (Nat.le_of_ble_eq_true rfl) ⟨Nat.zero_le _, Nat.zero_le _⟩ dX8_both_25 (fun H locs hH => ?_)
      refine lv_if_ne (tgt := 33) hx hb dX8_both_28 (by decide) (fun c13 => ?_) (fun c13 => ?_)
      · have h := ite_f c13 h
        refine lv_aload_n hx hb dX8_both_33 rfl (lv_at hl 0 rfl) ?_
        refine lv_iconst (v := 2) hx hb dX8_both_34 (by decide) ?_
        refine lv_bipush (v := 38) hx hb dX8_both_35 (by decide) ?_
        obtain ⟨μ15, h14, h⟩ := ob_some h
        refine m_callv (As := [.int (2 : Int32), .int (38 : Int32)]) (rest := []) (cM_step l D cI B μ12 (2 : Int32) (38 : Int32) h14) hC hH hl (cwV 2 hts (gV wmX8_246 wvX8_step) rfl rfl rfl hdX8_step (rmG_c d (Nat.le_of_ble_eq_true rfl) (Nat.le_of_ble_eq_true rfl))) rfl rfl (Nat.le_of_ble_eq_true rfl) ⟨Nat.zero_le _, Nat.zero_le _⟩ dX8_both_37 (fun H locs hH => ?_)
        refine lv_goto (tgt := 10) hx hb dX8_both_40 (by decide) ?_
        exact ih x1 μ15 H locs ls  hH hl h
      · have h := ite_t c13 h
        refine lv_iconst (v := 0) hx hb dX8_both_31 (by decide) ?_
        obtain ⟨rfl, rfl⟩ := some_i2 h
        exact m_iret (v := 0) hC hH hr (by decide) dX8_both_32

def fM_both (F_test : MS → Int32 → Option (Int32 × MS)) (μ0 : MS) (x1 : Int32) : Option (Int32 × MS) :=
  ob2 (F_test μ0 x1) fun r2 μ3 =>
  if r2 = 0 then (
    some ((0 : Int32), μ3))
  else (
    fM_both_L10 F_test (fun (μ : MS) => some ((1 : Int32), μ)) 10000 x1 μ3)

set_option maxHeartbeats 4000000 in
set_option maxRecDepth 100000 in
theorem cM_both (l : Launch) (D : va_G) (cI : ClassId) (B : Nat → Nat) (d : Nat) (F_test : MS → Int32 → Option (Int32 × MS)) (hF_test : ∀ (μ : MS) (x1 : Int32) (r : Int32) (μ1 : MS), F_test μ x1 = some (r, μ1) → ∀ sz, Met l yX8_test (Cond.code yX8_test cX8_test 3 (some .boolean) :: Tw) (rmG d) (mP D cI B μ sz [.ref (B 0), .int x1]) (mQi D cI B μ sz μ1 r) 0 0 (va_A (mW B cI μ) sz)) (μ0 : MS) (x1 : Int32) {r : Int32} {μr : MS} (h : fM_both F_test μ0 x1 = some (r, μr)) : ∀ sz, Met l yX8_both (Cond.code yX8_both cX8_both 2 (some .boolean) :: Tw) (rmG (d + 1)) (mP D cI B μ0 sz [.ref (B 0), .int x1]) (mQi D cI B μ0 sz μr r) 0 0 (va_A (mW B cI μ0) sz) := by
  intro sz
  refine Met.ofW (cc := cX8_both) (maxL := 2) (ret := (some .boolean)) (by decide) rfl ?_
  intro p e s m args below meth c s₁ Bd hml hv
  obtain ⟨hC, hr⟩ := jC_of Bd hml
  obtain ⟨rfl, rfl, hH⟩ := m_enter hv
  have hC : jC p s m _ meth c cX8_both 2 RX8 := hC
  have hx := hC.1.1
  have hb := hC.1.2.1
  have hown := hC.1.2.2.2.1
  have hts := hC.1.2.2.2.2
  have hl := lv_entry ([.ref (B 0), .int x1]) (n := 2) (Nat.le_of_ble_eq_true rfl)
  rw [lg_entry_eq]
  generalize (lg_sl ([.ref (B 0), .int x1]) ++ List.replicate (2 - (lg_sl ([.ref (B 0), .int x1])).length) Slot.unset).toArray = ls at hl ⊢
  have hl : lv_has ls 2 [(0, .ref (B 0)), (1, .int x1)] := hl
  unfold fM_both at h
  refine W_nm (fun H locs eH eL => ?_)
  have hH : mH D cI B s (va_A (mW B cI μ0) s.heap.size) μ0 H locs := by rw [eH, eL]; exact hH
  show W p l e (rmG (d + 1)) s m _ below meth c H locs 0 0 _ (F0 m 0 ls [])
  refine lv_aload_n hx hb dX8_both_0 rfl (lv_at hl 0 rfl) ?_
  refine lv_iload_n hx hb dX8_both_1 rfl (lv_at hl 1 rfl) ?_
  obtain ⟨r2, μ3, h1, h⟩ := ob2_some h
  refine m_calli (As := [.int x1]) (rest := []) (hF_test _ _ _ _ h1) hC hH hl (cwV 1 hts (gV wmX8_249 wvX8_test) rfl rfl rfl hdX8_test (rmG_s d (Nat.le_of_ble_eq_true rfl))) rfl rfl (Nat.le_of_ble_eq_true rfl) ⟨Nat.zero_le _, Nat.zero_le _⟩ dX8_both_2 (fun H locs hH => ?_)
  refine lv_if_ne (tgt := 10) hx hb dX8_both_5 (by decide) (fun c4 => ?_) (fun c4 => ?_)
  · have h := ite_f c4 h
    refine wM_both_L10 hC hr hF_test  ?_ 10000 x1 μ3 H locs ls  hH hl h
    intro μ H locs ls  hH hl h
    refine lv_iconst (v := 1) hx hb dX8_both_43 (by decide) ?_
    obtain ⟨rfl, rfl⟩ := some_i2 h
    exact m_iret (v := 1) hC hH hr (by decide) dX8_both_44
  · have h := ite_t c4 h
    refine lv_iconst (v := 0) hx hb dX8_both_8 (by decide) ?_
    obtain ⟨rfl, rfl⟩ := some_i2 h
    exact m_iret (v := 0) hC hH hr (by decide) dX8_both_9


def fM_test_J37 (F_sum : MS → Int32 → Option (Int32 × MS)) (x1 : Int32) (μ : MS) : Option (Int32 × MS) :=
  bnd (μ 0 22) fun v8 =>
  ob (fM_nextToken μ) fun μ11 =>
  ob2 (F_sum μ11 x1) fun r13 μ14 =>
  if r13 = 0 then (
    some ((0 : Int32), μ14))
  else (
    ob (fM_step μ14 (2 : Int32) v8) fun μ17 =>
    some ((1 : Int32), μ17))

set_option maxHeartbeats 4000000 in
set_option maxRecDepth 100000 in
theorem wM_test_J37 {p : Program} {l : Launch} {e : Env} {s : State} {m : MethodId} {args : Array Value} {below : List Frame} {meth : Method} {c : Code} {D : va_G} {cI : ClassId} {B : Nat → Nat} {μ0 : MS} {d : Nat} {F_sum : MS → Int32 → Option (Int32 × MS)} {r : Int32} {μr : MS} (hC : jC p s m args meth c cX8_test 3 RX8) (hr : meth.sig.returnType = some .boolean) (hF_sum : ∀ (μ : MS) (x1 : Int32) (r : Int32) (μ1 : MS), F_sum μ x1 = some (r, μ1) → ∀ sz, Met l yX8_sum (Cond.code yX8_sum cX8_sum 3 (some .boolean) :: Tw) (rmG d) (mP D cI B μ sz [.ref (B 0), .int x1]) (mQi D cI B μ sz μ1 r) 0 0 (va_A (mW B cI μ) sz)) (x1 : Int32) (μ : MS) (H : Heap) (locs : List Loc) (ls : Array Slot) (hH : mH D cI B s (va_A (mW B cI μ0) s.heap.size) μ H locs) (hl : lv_has ls 3 [(0, .ref (B 0)), (1, .int x1)]) (h : fM_test_J37 F_sum x1 μ = some (r, μr)) : W p l e (rmG (d + 1)) s m args below meth c H locs 0 0 (MQ below (mQi D cI B μ0 s.heap.size μr r) args s 0 0 (va_A (mW B cI μ0) s.heap.size)) (F0 m 37 ls []) := by
  have hx := hC.1.1
  have hb := hC.1.2.1
  have hown := hC.1.2.2.2.1
  have hts := hC.1.2.2.2.2
  unfold fM_test_J37 at h
  refine lv_aload_n hx hb dX8_test_37 rfl (lv_at hl 0 rfl) ?_
  refine m_get hC hH 22 (by decide) wfX8_218 rfl rfl dX8_test_38 ?_
  obtain ⟨v8, e9, h⟩ := bnd_some h
  refine lv_tope e9 ?_
  refine lv_istore_n (lv' := [(2, .int v8), (0, .ref (B 0)), (1, .int x1)]) hx hb dX8_test_41 rfl hl (by decide) rfl (fun ls hl => ?_)
  refine lv_aload_n hx hb dX8_test_42 rfl (lv_at hl 1 rfl) ?_
  obtain ⟨μ11, h10, h⟩ := ob_some h
  refine m_callv (As := []) (rest := []) (cM_nextToken l D cI B μ  h10) hC hH hl (cwV 0 hts (gV wmX8_243 wvX8_nextToken) rfl rfl rfl hdX8_nextToken (rmG_c d (Nat.le_of_ble_eq_true rfl) (Nat.le_of_ble_eq_true rfl))) rfl rfl (Nat.le_of_ble_eq_true rfl) ⟨Nat.zero_le _, Nat.zero_le _⟩ dX8_test_43 (fun H locs hH => ?_)
  refine lv_aload_n hx hb dX8_test_46 rfl (lv_at hl 1 rfl) ?_
  refine lv_iload_n hx hb dX8_test_47 rfl (lv_at hl 2 rfl) ?_
  obtain ⟨r13, μ14, h12, h⟩ := ob2_some h
  refine m_calli (As := [.int x1]) (rest := []) (hF_sum _ _ _ _ h12) hC hH hl (cwV 1 hts (gV wmX8_252 wvX8_sum) rfl rfl rfl hdX8_sum (rmG_s d (Nat.le_of_ble_eq_true rfl))) rfl rfl (Nat.le_of_ble_eq_true rfl) ⟨Nat.zero_le _, Nat.zero_le _⟩ dX8_test_48 (fun H locs hH => ?_)
  refine lv_if_ne (tgt := 56) hx hb dX8_test_51 (by decide) (fun c15 => ?_) (fun c15 => ?_)
  · have h := ite_f c15 h
    refine lv_aload_n hx hb dX8_test_56 rfl (lv_at hl 1 rfl) ?_
    refine lv_iconst (v := 2) hx hb dX8_test_57 (by decide) ?_
    refine lv_iload_n hx hb dX8_test_58 rfl (lv_at hl 0 rfl) ?_
    obtain ⟨μ17, h16, h⟩ := ob_some h
    refine m_callv (As := [.int (2 : Int32), .int v8]) (rest := []) (cM_step l D cI B μ14 (2 : Int32) v8 h16) hC hH hl (cwV 2 hts (gV wmX8_246 wvX8_step) rfl rfl rfl hdX8_step (rmG_c d (Nat.le_of_ble_eq_true rfl) (Nat.le_of_ble_eq_true rfl))) rfl rfl (Nat.le_of_ble_eq_true rfl) ⟨Nat.zero_le _, Nat.zero_le _⟩ dX8_test_59 (fun H locs hH => ?_)
    refine lv_iconst (v := 1) hx hb dX8_test_62 (by decide) ?_
    obtain ⟨rfl, rfl⟩ := some_i2 h
    exact m_iret (v := 1) hC hH hr (by decide) dX8_test_63
  · have h := ite_t c15 h
    refine lv_iconst (v := 0) hx hb dX8_test_54 (by decide) ?_
    obtain ⟨rfl, rfl⟩ := some_i2 h
    exact m_iret (v := 0) hC hH hr (by decide) dX8_test_55

def fM_test (F_sum : MS → Int32 → Option (Int32 × MS)) (μ0 : MS) (x1 : Int32) : Option (Int32 × MS) :=
  ob2 (F_sum μ0 x1) fun r2 μ3 =>
  if r2 = 0 then (
    some ((0 : Int32), μ3))
  else (
    ob (fM_isSign μ3 (60 : Int32)) fun r6 =>
    if r6 = 0 then (
      ob (fM_isSign μ3 (61 : Int32)) fun r19 =>
      if r19 = 0 then (
        ob (fM_isSign μ3 (62 : Int32)) fun r22 =>
        if r22 = 0 then (
          some ((1 : Int32), μ3))
        else (
          fM_test_J37 F_sum x1 μ3))
      else (
        fM_test_J37 F_sum x1 μ3))
    else (
      fM_test_J37 F_sum x1 μ3))

set_option maxHeartbeats 4000000 in
set_option maxRecDepth 100000 in
theorem cM_test (l : Launch) (D : va_G) (cI : ClassId) (B : Nat → Nat) (d : Nat) (F_sum : MS → Int32 → Option (Int32 × MS)) (hF_sum : ∀ (μ : MS) (x1 : Int32) (r : Int32) (μ1 : MS), F_sum μ x1 = some (r, μ1) → ∀ sz, Met l yX8_sum (Cond.code yX8_sum cX8_sum 3 (some .boolean) :: Tw) (rmG d) (mP D cI B μ sz [.ref (B 0), .int x1]) (mQi D cI B μ sz μ1 r) 0 0 (va_A (mW B cI μ) sz)) (μ0 : MS) (x1 : Int32) {r : Int32} {μr : MS} (h : fM_test F_sum μ0 x1 = some (r, μr)) : ∀ sz, Met l yX8_test (Cond.code yX8_test cX8_test 3 (some .boolean) :: Tw) (rmG (d + 1)) (mP D cI B μ0 sz [.ref (B 0), .int x1]) (mQi D cI B μ0 sz μr r) 0 0 (va_A (mW B cI μ0) sz) := by
  intro sz
  refine Met.ofW (cc := cX8_test) (maxL := 3) (ret := (some .boolean)) (by decide) rfl ?_
  intro p e s m args below meth c s₁ Bd hml hv
  obtain ⟨hC, hr⟩ := jC_of Bd hml
  obtain ⟨rfl, rfl, hH⟩ := m_enter hv
  have hC : jC p s m _ meth c cX8_test 3 RX8 := hC
  have hx := hC.1.1
  have hb := hC.1.2.1
  have hown := hC.1.2.2.2.1
  have hts := hC.1.2.2.2.2
  have hl := lv_entry ([.ref (B 0), .int x1]) (n := 3) (Nat.le_of_ble_eq_true rfl)
  rw [lg_entry_eq]
  generalize (lg_sl ([.ref (B 0), .int x1]) ++ List.replicate (3 - (lg_sl ([.ref (B 0), .int x1])).length) Slot.unset).toArray = ls at hl ⊢
  have hl : lv_has ls 3 [(0, .ref (B 0)), (1, .int x1)] := hl
  unfold fM_test at h
  refine W_nm (fun H locs eH eL => ?_)
  have hH : mH D cI B s (va_A (mW B cI μ0) s.heap.size) μ0 H locs := by rw [eH, eL]; exact hH
  show W p l e (rmG (d + 1)) s m _ below meth c H locs 0 0 _ (F0 m 0 ls [])
  refine lv_aload_n hx hb dX8_test_0 rfl (lv_at hl 0 rfl) ?_
  refine lv_iload_n hx hb dX8_test_1 rfl (lv_at hl 1 rfl) ?_
  obtain ⟨r2, μ3, h1, h⟩ := ob2_some h
  refine m_calli (As := [.int x1]) (rest := []) (hF_sum _ _ _ _ h1) hC hH hl (cwV 1 hts (gV wmX8_252 wvX8_sum) rfl rfl rfl hdX8_sum (rmG_s d (Nat.le_of_ble_eq_true rfl))) rfl rfl (Nat.le_of_ble_eq_true rfl) ⟨Nat.zero_le _, Nat.zero_le _⟩ dX8_test_2 (fun H locs hH => ?_)
  refine lv_if_ne (tgt := 10) hx hb dX8_test_5 (by decide) (fun c4 => ?_) (fun c4 => ?_)
  · have h := ite_f c4 h
    refine lv_aload_n hx hb dX8_test_10 rfl (lv_at hl 0 rfl) ?_
    refine lv_bipush (v := 60) hx hb dX8_test_11 (by decide) ?_
    obtain ⟨r6, h5, h⟩ := ob_some h
    refine m_calli (As := [.int (60 : Int32)]) (rest := []) (cM_isSign l D cI B μ3 (60 : Int32) h5) hC hH hl (cwV 1 hts (gV wmX8_240 wvX8_isSign) rfl rfl rfl hdX8_isSign (rmG_c d (Nat.le_of_ble_eq_true rfl) (Nat.le_of_ble_eq_true rfl))) rfl rfl (Nat.le_of_ble_eq_true rfl) ⟨Nat.zero_le _, Nat.zero_le _⟩ dX8_test_13 (fun H locs hH => ?_)
    refine lv_if_ne (tgt := 37) hx hb dX8_test_16 (by decide) (fun c7 => ?_) (fun c7 => ?_)
    · have h := ite_f c7 h
      exact wM_test_J37 hC hr hF_sum  x1 μ3 H locs ls  hH hl h
    · have h := ite_t c7 h
      refine lv_aload_n hx hb dX8_test_19 rfl (lv_at hl 0 rfl) ?_
      refine lv_bipush (v := 61) hx hb dX8_test_20 (by decide) ?_
      obtain ⟨r19, h18, h⟩ := ob_some h
      refine m_calli (As := [.int (61 : Int32)]) (rest := []) (cM_isSign l D cI B μ3 (61 : Int32) h18) hC hH hl (cwV 1 hts (gV wmX8_240 wvX8_isSign) rfl rfl rfl hdX8_isSign (rmG_c d (Nat.le_of_ble_eq_true rfl) (Nat.le_of_ble_eq_true rfl))) rfl rfl (Nat.le_of_ble_eq_true rfl) ⟨Nat.zero_le _, Nat.zero_le _⟩ dX8_test_22 (fun H locs hH => ?_)
      refine lv_if_ne (tgt := 37) hx hb dX8_test_25 (by decide) (fun c20 => ?_) (fun c20 => ?_)
      · have h := ite_f c20 h
        exact wM_test_J37 hC hr hF_sum  x1 μ3 H locs ls  hH hl h
      · have h := ite_t c20 h
        refine lv_aload_n hx hb dX8_test_28 rfl (lv_at hl 0 rfl) ?_
        refine lv_bipush (v := 62) hx hb dX8_test_29 (by decide) ?_
        obtain ⟨r22, h21, h⟩ := ob_some h
        refine m_calli (As := [.int (62 : Int32)]) (rest := []) (cM_isSign l D cI B μ3 (62 : Int32) h21) hC hH hl (cwV 1 hts (gV wmX8_240 wvX8_isSign) rfl rfl rfl hdX8_isSign (rmG_c d (Nat.le_of_ble_eq_true rfl) (Nat.le_of_ble_eq_true rfl))) rfl rfl (Nat.le_of_ble_eq_true rfl) ⟨Nat.zero_le _, Nat.zero_le _⟩ dX8_test_31 (fun H locs hH => ?_)
        refine lv_if_eq (tgt := 62) hx hb dX8_test_34 (by decide) (fun c23 => ?_) (fun c23 => ?_)
        · have h := ite_t c23 h
          refine lv_iconst (v := 1) hx hb dX8_test_62 (by decide) ?_
          obtain ⟨rfl, rfl⟩ := some_i2 h
          exact m_iret (v := 1) hC hH hr (by decide) dX8_test_63
        · have h := ite_f c23 h
          exact wM_test_J37 hC hr hF_sum  x1 μ3 H locs ls  hH hl h
  · have h := ite_t c4 h
    refine lv_iconst (v := 0) hx hb dX8_test_8 (by decide) ?_
    obtain ⟨rfl, rfl⟩ := some_i2 h
    exact m_iret (v := 0) hC hH hr (by decide) dX8_test_9


def fM_sum_J28 (F_term : MS → Int32 → Option (Int32 × MS)) (k10 : Int32 → MS → Option (Int32 × MS)) (x1 : Int32) (μ : MS) : Option (Int32 × MS) :=
  bnd (μ 0 22) fun v8 =>
  ob (fM_nextToken μ) fun μ11 =>
  ob2 (F_term μ11 x1) fun r13 μ14 =>
  if r13 = 0 then (
    some ((0 : Int32), μ14))
  else (
    ob (fM_step μ14 (2 : Int32) v8) fun μ17 =>
    k10 x1 μ17)

set_option maxHeartbeats 4000000 in
set_option maxRecDepth 100000 in
theorem wM_sum_J28 {p : Program} {l : Launch} {e : Env} {s : State} {m : MethodId} {args : Array Value} {below : List Frame} {meth : Method} {c : Code} {D : va_G} {cI : ClassId} {B : Nat → Nat} {μ0 : MS} {d : Nat} {F_term : MS → Int32 → Option (Int32 × MS)} {r : Int32} {μr : MS} (hC : jC p s m args meth c cX8_sum 3 RX8) (hr : meth.sig.returnType = some .boolean) (hF_term : ∀ (μ : MS) (x1 : Int32) (r : Int32) (μ1 : MS), F_term μ x1 = some (r, μ1) → ∀ sz, Met l yX8_term (Cond.code yX8_term cX8_term 3 (some .boolean) :: Tw) (rmG d) (mP D cI B μ sz [.ref (B 0), .int x1]) (mQi D cI B μ sz μ1 r) 0 0 (va_A (mW B cI μ) sz)) {k10 : Int32 → MS → Option (Int32 × MS)} (hk10 : ∀ (x1 : Int32) (μ : MS) (H : Heap) (locs : List Loc) (ls : Array Slot), mH D cI B s (va_A (mW B cI μ0) s.heap.size) μ H locs → lv_has ls 3 [(0, .ref (B 0)), (1, .int x1)] → k10 x1 μ = some (r, μr) → W p l e (rmG (d + 1)) s m args below meth c H locs 0 0 (MQ below (mQi D cI B μ0 s.heap.size μr r) args s 0 0 (va_A (mW B cI μ0) s.heap.size)) (F0 m 10 ls [])) (x1 : Int32) (μ : MS) (H : Heap) (locs : List Loc) (ls : Array Slot) (hH : mH D cI B s (va_A (mW B cI μ0) s.heap.size) μ H locs) (hl : lv_has ls 3 [(0, .ref (B 0)), (1, .int x1)]) (h : fM_sum_J28 F_term k10 x1 μ = some (r, μr)) : W p l e (rmG (d + 1)) s m args below meth c H locs 0 0 (MQ below (mQi D cI B μ0 s.heap.size μr r) args s 0 0 (va_A (mW B cI μ0) s.heap.size)) (F0 m 28 ls []) := by
  have hx := hC.1.1
  have hb := hC.1.2.1
  have hown := hC.1.2.2.2.1
  have hts := hC.1.2.2.2.2
  unfold fM_sum_J28 at h
  refine lv_aload_n hx hb dX8_sum_28 rfl (lv_at hl 0 rfl) ?_
  refine m_get hC hH 22 (by decide) wfX8_218 rfl rfl dX8_sum_29 ?_
  obtain ⟨v8, e9, h⟩ := bnd_some h
  refine lv_tope e9 ?_
  refine lv_istore_n (lv' := [(2, .int v8), (0, .ref (B 0)), (1, .int x1)]) hx hb dX8_sum_32 rfl hl (by decide) rfl (fun ls hl => ?_)
  refine lv_aload_n hx hb dX8_sum_33 rfl (lv_at hl 1 rfl) ?_
  obtain ⟨μ11, h10, h⟩ := ob_some h
  refine m_callv (As := []) (rest := []) (cM_nextToken l D cI B μ  h10) hC hH hl (cwV 0 hts (gV wmX8_243 wvX8_nextToken) rfl rfl rfl hdX8_nextToken (rmG_c d (Nat.le_of_ble_eq_true rfl) (Nat.le_of_ble_eq_true rfl))) rfl rfl (Nat.le_of_ble_eq_true rfl) ⟨Nat.zero_le _, Nat.zero_le _⟩ dX8_sum_34 (fun H locs hH => ?_)
  refine lv_aload_n hx hb dX8_sum_37 rfl (lv_at hl 1 rfl) ?_
  refine lv_iload_n hx hb dX8_sum_38 rfl (lv_at hl 2 rfl) ?_
  obtain ⟨r13, μ14, h12, h⟩ := ob2_some h
  refine m_calli (As := [.int x1]) (rest := []) (hF_term _ _ _ _ h12) hC hH hl (cwV 1 hts (gV wmX8_255 wvX8_term) rfl rfl rfl hdX8_term (rmG_s d (Nat.le_of_ble_eq_true rfl))) rfl rfl (Nat.le_of_ble_eq_true rfl) ⟨Nat.zero_le _, Nat.zero_le _⟩ dX8_sum_39 (fun H locs hH => ?_)
  refine lv_if_ne (tgt := 47) hx hb dX8_sum_42 (by decide) (fun c15 => ?_) (fun c15 => ?_)
  · have h := ite_f c15 h
    refine lv_aload_n hx hb dX8_sum_47 rfl (lv_at hl 1 rfl) ?_
    refine lv_iconst (v := 2) hx hb dX8_sum_48 (by decide) ?_
    refine lv_iload_n hx hb dX8_sum_49 rfl (lv_at hl 0 rfl) ?_
    obtain ⟨μ17, h16, h⟩ := ob_some h
    refine m_callv (As := [.int (2 : Int32), .int v8]) (rest := []) (cM_step l D cI B μ14 (2 : Int32) v8 h16) hC hH hl (cwV 2 hts (gV wmX8_246 wvX8_step) rfl rfl rfl hdX8_step (rmG_c d (Nat.le_of_ble_eq_true rfl) (Nat.le_of_ble_eq_true rfl))) rfl rfl (Nat.le_of_ble_eq_true rfl) ⟨Nat.zero_le _, Nat.zero_le _⟩ dX8_sum_50 (fun H locs hH => ?_)
    refine lv_goto (tgt := 10) hx hb dX8_sum_53 (by decide) ?_
    exact hk10 x1 μ17 H locs ls  hH (lv_sub hl [1, 2] rfl) h
  · have h := ite_t c15 h
    refine lv_iconst (v := 0) hx hb dX8_sum_45 (by decide) ?_
    obtain ⟨rfl, rfl⟩ := some_i2 h
    exact m_iret (v := 0) hC hH hr (by decide) dX8_sum_46

def fM_sum_L10 (F_term : MS → Int32 → Option (Int32 × MS)) (k56 : MS → Option (Int32 × MS)) : Nat → Int32 → MS → Option (Int32 × MS)
  | 0, _, _ => none
  | n + 1, x1, μ =>
    ob (fM_isSign μ (43 : Int32)) fun r6 =>
    if r6 = 0 then (
      ob (fM_isSign μ (45 : Int32)) fun r19 =>
      if r19 = 0 then (
        k56 μ)
      else (
        fM_sum_J28 F_term (fM_sum_L10 F_term k56 n) x1 μ))
    else (
      fM_sum_J28 F_term (fM_sum_L10 F_term k56 n) x1 μ)

set_option maxHeartbeats 4000000 in
set_option maxRecDepth 100000 in
theorem wM_sum_L10 {p : Program} {l : Launch} {e : Env} {s : State} {m : MethodId} {args : Array Value} {below : List Frame} {meth : Method} {c : Code} {D : va_G} {cI : ClassId} {B : Nat → Nat} {μ0 : MS} {d : Nat} {F_term : MS → Int32 → Option (Int32 × MS)} {r : Int32} {μr : MS} (hC : jC p s m args meth c cX8_sum 3 RX8) (hr : meth.sig.returnType = some .boolean) (hF_term : ∀ (μ : MS) (x1 : Int32) (r : Int32) (μ1 : MS), F_term μ x1 = some (r, μ1) → ∀ sz, Met l yX8_term (Cond.code yX8_term cX8_term 3 (some .boolean) :: Tw) (rmG d) (mP D cI B μ sz [.ref (B 0), .int x1]) (mQi D cI B μ sz μ1 r) 0 0 (va_A (mW B cI μ) sz)) {k56 : MS → Option (Int32 × MS)} (hk56 : ∀ (μ : MS) (H : Heap) (locs : List Loc) (ls : Array Slot), mH D cI B s (va_A (mW B cI μ0) s.heap.size) μ H locs → lv_has ls 3 [] → k56 μ = some (r, μr) → W p l e (rmG (d + 1)) s m args below meth c H locs 0 0 (MQ below (mQi D cI B μ0 s.heap.size μr r) args s 0 0 (va_A (mW B cI μ0) s.heap.size)) (F0 m 56 ls [])) : ∀ (n : Nat) (x1 : Int32) (μ : MS) (H : Heap) (locs : List Loc) (ls : Array Slot), mH D cI B s (va_A (mW B cI μ0) s.heap.size) μ H locs → lv_has ls 3 [(0, .ref (B 0)), (1, .int x1)] → fM_sum_L10 F_term k56 n x1 μ = some (r, μr) → W p l e (rmG (d + 1)) s m args below meth c H locs 0 0 (MQ below (mQi D cI B μ0 s.heap.size μr r) args s 0 0 (va_A (mW B cI μ0) s.heap.size)) (F0 m 10 ls []) := by
  have hx := hC.1.1
  have hb := hC.1.2.1
  have hown := hC.1.2.2.2.1
  have hts := hC.1.2.2.2.2
  intro n
  induction n with
  | zero =>
    intro x1 μ H locs ls  hH hl h
    rw [fM_sum_L10] at h
    cases h
  | succ n ih =>
    intro x1 μ H locs ls  hH hl h
    rw [fM_sum_L10] at h
    refine lv_aload_n hx hb dX8_sum_10 rfl (lv_at hl 0 rfl) ?_
    refine lv_bipush (v := 43) hx hb dX8_sum_11 (by decide) ?_
    obtain ⟨r6, h5, h⟩ := ob_some h
    refine m_calli (As := [.int (43 : Int32)]) (rest := []) (cM_isSign l D cI B μ (43 : Int32) h5) hC hH hl (cwV 1 hts (gV wmX8_240 wvX8_isSign) rfl rfl rfl hdX8_isSign (rmG_c d (Nat.le_of_ble_eq_true rfl) (Nat.le_of_ble_eq_true rfl))) rfl rfl (Nat.le_of_ble_eq_true rfl) ⟨Nat.zero_le _, Nat.zero_le _⟩ dX8_sum_13 (fun H locs hH => ?_)
    refine lv_if_ne (tgt := 28) hx hb dX8_sum_16 (by decide) (fun c7 => ?_) (fun c7 => ?_)
    · have h := ite_f c7 h
      exact wM_sum_J28 hC hr hF_term ih x1 μ H locs ls  hH hl h
    · have h := ite_t c7 h
      refine lv_aload_n hx hb dX8_sum_19 rfl (lv_at hl 0 rfl) ?_
      refine lv_bipush (v := 45) hx hb dX8_sum_20 (by decide) ?_
      obtain ⟨r19, h18, h⟩ := ob_some h
      refine m_calli (As := [.int (45 : Int32)]) (rest := []) (cM_isSign l D cI B μ (45 : Int32) h18) hC hH hl (cwV 1 hts (gV wmX8_240 wvX8_isSign) rfl rfl rfl hdX8_isSign (rmG_c d (Nat.le_of_ble_eq_true rfl) (Nat.le_of_ble_eq_true rfl))) rfl rfl (Nat.le_of_ble_eq_true rfl) ⟨Nat.zero_le _, Nat.zero_le _⟩ dX8_sum_22 (fun H locs hH => ?_)
      refine lv_if_eq (tgt := 56) hx hb dX8_sum_25 (by decide) (fun c20 => ?_) (fun c20 => ?_)
      · have h := ite_t c20 h
        exact hk56 μ H locs ls  hH (lv_sub hl [] rfl) h
      · have h := ite_f c20 h
        exact wM_sum_J28 hC hr hF_term ih x1 μ H locs ls  hH hl h

def fM_sum (F_term : MS → Int32 → Option (Int32 × MS)) (μ0 : MS) (x1 : Int32) : Option (Int32 × MS) :=
  ob2 (F_term μ0 x1) fun r2 μ3 =>
  if r2 = 0 then (
    some ((0 : Int32), μ3))
  else (
    fM_sum_L10 F_term (fun (μ : MS) => some ((1 : Int32), μ)) 10000 x1 μ3)

set_option maxHeartbeats 4000000 in
set_option maxRecDepth 100000 in
theorem cM_sum (l : Launch) (D : va_G) (cI : ClassId) (B : Nat → Nat) (d : Nat) (F_term : MS → Int32 → Option (Int32 × MS)) (hF_term : ∀ (μ : MS) (x1 : Int32) (r : Int32) (μ1 : MS), F_term μ x1 = some (r, μ1) → ∀ sz, Met l yX8_term (Cond.code yX8_term cX8_term 3 (some .boolean) :: Tw) (rmG d) (mP D cI B μ sz [.ref (B 0), .int x1]) (mQi D cI B μ sz μ1 r) 0 0 (va_A (mW B cI μ) sz)) (μ0 : MS) (x1 : Int32) {r : Int32} {μr : MS} (h : fM_sum F_term μ0 x1 = some (r, μr)) : ∀ sz, Met l yX8_sum (Cond.code yX8_sum cX8_sum 3 (some .boolean) :: Tw) (rmG (d + 1)) (mP D cI B μ0 sz [.ref (B 0), .int x1]) (mQi D cI B μ0 sz μr r) 0 0 (va_A (mW B cI μ0) sz) := by
  intro sz
  refine Met.ofW (cc := cX8_sum) (maxL := 3) (ret := (some .boolean)) (by decide) rfl ?_
  intro p e s m args below meth c s₁ Bd hml hv
  obtain ⟨hC, hr⟩ := jC_of Bd hml
  obtain ⟨rfl, rfl, hH⟩ := m_enter hv
  have hC : jC p s m _ meth c cX8_sum 3 RX8 := hC
  have hx := hC.1.1
  have hb := hC.1.2.1
  have hown := hC.1.2.2.2.1
  have hts := hC.1.2.2.2.2
  have hl := lv_entry ([.ref (B 0), .int x1]) (n := 3) (Nat.le_of_ble_eq_true rfl)
  rw [lg_entry_eq]
  generalize (lg_sl ([.ref (B 0), .int x1]) ++ List.replicate (3 - (lg_sl ([.ref (B 0), .int x1])).length) Slot.unset).toArray = ls at hl ⊢
  have hl : lv_has ls 3 [(0, .ref (B 0)), (1, .int x1)] := hl
  unfold fM_sum at h
  refine W_nm (fun H locs eH eL => ?_)
  have hH : mH D cI B s (va_A (mW B cI μ0) s.heap.size) μ0 H locs := by rw [eH, eL]; exact hH
  show W p l e (rmG (d + 1)) s m _ below meth c H locs 0 0 _ (F0 m 0 ls [])
  refine lv_aload_n hx hb dX8_sum_0 rfl (lv_at hl 0 rfl) ?_
  refine lv_iload_n hx hb dX8_sum_1 rfl (lv_at hl 1 rfl) ?_
  obtain ⟨r2, μ3, h1, h⟩ := ob2_some h
  refine m_calli (As := [.int x1]) (rest := []) (hF_term _ _ _ _ h1) hC hH hl (cwV 1 hts (gV wmX8_255 wvX8_term) rfl rfl rfl hdX8_term (rmG_s d (Nat.le_of_ble_eq_true rfl))) rfl rfl (Nat.le_of_ble_eq_true rfl) ⟨Nat.zero_le _, Nat.zero_le _⟩ dX8_sum_2 (fun H locs hH => ?_)
  refine lv_if_ne (tgt := 10) hx hb dX8_sum_5 (by decide) (fun c4 => ?_) (fun c4 => ?_)
  · have h := ite_f c4 h
    refine wM_sum_L10 hC hr hF_term  ?_ 10000 x1 μ3 H locs ls  hH hl h
    intro μ H locs ls  hH hl h
    refine lv_iconst (v := 1) hx hb dX8_sum_56 (by decide) ?_
    obtain ⟨rfl, rfl⟩ := some_i2 h
    exact m_iret (v := 1) hC hH hr (by decide) dX8_sum_57
  · have h := ite_t c4 h
    refine lv_iconst (v := 0) hx hb dX8_sum_8 (by decide) ?_
    obtain ⟨rfl, rfl⟩ := some_i2 h
    exact m_iret (v := 0) hC hH hr (by decide) dX8_sum_9


def fM_term_J28 (F_part0 : MS → Int32 → Option (Int32 × MS)) (k10 : Int32 → MS → Option (Int32 × MS)) (x1 : Int32) (μ : MS) : Option (Int32 × MS) :=
  bnd (μ 0 22) fun v8 =>
  ob (fM_nextToken μ) fun μ11 =>
  ob2 (F_part0 μ11 x1) fun r13 μ14 =>
  if r13 = 0 then (
    some ((0 : Int32), μ14))
  else (
    ob (fM_step μ14 (2 : Int32) v8) fun μ17 =>
    k10 x1 μ17)

set_option maxHeartbeats 4000000 in
set_option maxRecDepth 100000 in
theorem wM_term_J28 {p : Program} {l : Launch} {e : Env} {s : State} {m : MethodId} {args : Array Value} {below : List Frame} {meth : Method} {c : Code} {D : va_G} {cI : ClassId} {B : Nat → Nat} {μ0 : MS} {d : Nat} {F_part0 : MS → Int32 → Option (Int32 × MS)} {r : Int32} {μr : MS} (hC : jC p s m args meth c cX8_term 3 RX8) (hr : meth.sig.returnType = some .boolean) (hF_part0 : ∀ (μ : MS) (x1 : Int32) (r : Int32) (μ1 : MS), F_part0 μ x1 = some (r, μ1) → ∀ sz, Met l yX8_part0 (Cond.code yX8_part0 cX8_part0 2 (some .boolean) :: Tw) (rmG d) (mP D cI B μ sz [.ref (B 0), .int x1]) (mQi D cI B μ sz μ1 r) 0 0 (va_A (mW B cI μ) sz)) {k10 : Int32 → MS → Option (Int32 × MS)} (hk10 : ∀ (x1 : Int32) (μ : MS) (H : Heap) (locs : List Loc) (ls : Array Slot), mH D cI B s (va_A (mW B cI μ0) s.heap.size) μ H locs → lv_has ls 3 [(0, .ref (B 0)), (1, .int x1)] → k10 x1 μ = some (r, μr) → W p l e (rmG (d + 1)) s m args below meth c H locs 0 0 (MQ below (mQi D cI B μ0 s.heap.size μr r) args s 0 0 (va_A (mW B cI μ0) s.heap.size)) (F0 m 10 ls [])) (x1 : Int32) (μ : MS) (H : Heap) (locs : List Loc) (ls : Array Slot) (hH : mH D cI B s (va_A (mW B cI μ0) s.heap.size) μ H locs) (hl : lv_has ls 3 [(0, .ref (B 0)), (1, .int x1)]) (h : fM_term_J28 F_part0 k10 x1 μ = some (r, μr)) : W p l e (rmG (d + 1)) s m args below meth c H locs 0 0 (MQ below (mQi D cI B μ0 s.heap.size μr r) args s 0 0 (va_A (mW B cI μ0) s.heap.size)) (F0 m 28 ls []) := by
  have hx := hC.1.1
  have hb := hC.1.2.1
  have hown := hC.1.2.2.2.1
  have hts := hC.1.2.2.2.2
  unfold fM_term_J28 at h
  refine lv_aload_n hx hb dX8_term_28 rfl (lv_at hl 0 rfl) ?_
  refine m_get hC hH 22 (by decide) wfX8_218 rfl rfl dX8_term_29 ?_
  obtain ⟨v8, e9, h⟩ := bnd_some h
  refine lv_tope e9 ?_
  refine lv_istore_n (lv' := [(2, .int v8), (0, .ref (B 0)), (1, .int x1)]) hx hb dX8_term_32 rfl hl (by decide) rfl (fun ls hl => ?_)
  refine lv_aload_n hx hb dX8_term_33 rfl (lv_at hl 1 rfl) ?_
  obtain ⟨μ11, h10, h⟩ := ob_some h
  refine m_callv (As := []) (rest := []) (cM_nextToken l D cI B μ  h10) hC hH hl (cwV 0 hts (gV wmX8_243 wvX8_nextToken) rfl rfl rfl hdX8_nextToken (rmG_c d (Nat.le_of_ble_eq_true rfl) (Nat.le_of_ble_eq_true rfl))) rfl rfl (Nat.le_of_ble_eq_true rfl) ⟨Nat.zero_le _, Nat.zero_le _⟩ dX8_term_34 (fun H locs hH => ?_)
  refine lv_aload_n hx hb dX8_term_37 rfl (lv_at hl 1 rfl) ?_
  refine lv_iload_n hx hb dX8_term_38 rfl (lv_at hl 2 rfl) ?_
  obtain ⟨r13, μ14, h12, h⟩ := ob2_some h
  refine m_calli (As := [.int x1]) (rest := []) (hF_part0 _ _ _ _ h12) hC hH hl (cwV 1 hts (gV wmX8_258 wvX8_part0) rfl rfl rfl hdX8_part0 (rmG_s d (Nat.le_of_ble_eq_true rfl))) rfl rfl (Nat.le_of_ble_eq_true rfl) ⟨Nat.zero_le _, Nat.zero_le _⟩ dX8_term_39 (fun H locs hH => ?_)
  refine lv_if_ne (tgt := 47) hx hb dX8_term_42 (by decide) (fun c15 => ?_) (fun c15 => ?_)
  · have h := ite_f c15 h
    refine lv_aload_n hx hb dX8_term_47 rfl (lv_at hl 1 rfl) ?_
    refine lv_iconst (v := 2) hx hb dX8_term_48 (by decide) ?_
    refine lv_iload_n hx hb dX8_term_49 rfl (lv_at hl 0 rfl) ?_
    obtain ⟨μ17, h16, h⟩ := ob_some h
    refine m_callv (As := [.int (2 : Int32), .int v8]) (rest := []) (cM_step l D cI B μ14 (2 : Int32) v8 h16) hC hH hl (cwV 2 hts (gV wmX8_246 wvX8_step) rfl rfl rfl hdX8_step (rmG_c d (Nat.le_of_ble_eq_true rfl) (Nat.le_of_ble_eq_true rfl))) rfl rfl (Nat.le_of_ble_eq_true rfl) ⟨Nat.zero_le _, Nat.zero_le _⟩ dX8_term_50 (fun H locs hH => ?_)
    refine lv_goto (tgt := 10) hx hb dX8_term_53 (by decide) ?_
    exact hk10 x1 μ17 H locs ls  hH (lv_sub hl [1, 2] rfl) h
  · have h := ite_t c15 h
    refine lv_iconst (v := 0) hx hb dX8_term_45 (by decide) ?_
    obtain ⟨rfl, rfl⟩ := some_i2 h
    exact m_iret (v := 0) hC hH hr (by decide) dX8_term_46

def fM_term_L10 (F_part0 : MS → Int32 → Option (Int32 × MS)) (k56 : MS → Option (Int32 × MS)) : Nat → Int32 → MS → Option (Int32 × MS)
  | 0, _, _ => none
  | n + 1, x1, μ =>
    ob (fM_isSign μ (42 : Int32)) fun r6 =>
    if r6 = 0 then (
      ob (fM_isSign μ (47 : Int32)) fun r19 =>
      if r19 = 0 then (
        k56 μ)
      else (
        fM_term_J28 F_part0 (fM_term_L10 F_part0 k56 n) x1 μ))
    else (
      fM_term_J28 F_part0 (fM_term_L10 F_part0 k56 n) x1 μ)

set_option maxHeartbeats 4000000 in
set_option maxRecDepth 100000 in
theorem wM_term_L10 {p : Program} {l : Launch} {e : Env} {s : State} {m : MethodId} {args : Array Value} {below : List Frame} {meth : Method} {c : Code} {D : va_G} {cI : ClassId} {B : Nat → Nat} {μ0 : MS} {d : Nat} {F_part0 : MS → Int32 → Option (Int32 × MS)} {r : Int32} {μr : MS} (hC : jC p s m args meth c cX8_term 3 RX8) (hr : meth.sig.returnType = some .boolean) (hF_part0 : ∀ (μ : MS) (x1 : Int32) (r : Int32) (μ1 : MS), F_part0 μ x1 = some (r, μ1) → ∀ sz, Met l yX8_part0 (Cond.code yX8_part0 cX8_part0 2 (some .boolean) :: Tw) (rmG d) (mP D cI B μ sz [.ref (B 0), .int x1]) (mQi D cI B μ sz μ1 r) 0 0 (va_A (mW B cI μ) sz)) {k56 : MS → Option (Int32 × MS)} (hk56 : ∀ (μ : MS) (H : Heap) (locs : List Loc) (ls : Array Slot), mH D cI B s (va_A (mW B cI μ0) s.heap.size) μ H locs → lv_has ls 3 [] → k56 μ = some (r, μr) → W p l e (rmG (d + 1)) s m args below meth c H locs 0 0 (MQ below (mQi D cI B μ0 s.heap.size μr r) args s 0 0 (va_A (mW B cI μ0) s.heap.size)) (F0 m 56 ls [])) : ∀ (n : Nat) (x1 : Int32) (μ : MS) (H : Heap) (locs : List Loc) (ls : Array Slot), mH D cI B s (va_A (mW B cI μ0) s.heap.size) μ H locs → lv_has ls 3 [(0, .ref (B 0)), (1, .int x1)] → fM_term_L10 F_part0 k56 n x1 μ = some (r, μr) → W p l e (rmG (d + 1)) s m args below meth c H locs 0 0 (MQ below (mQi D cI B μ0 s.heap.size μr r) args s 0 0 (va_A (mW B cI μ0) s.heap.size)) (F0 m 10 ls []) := by
  have hx := hC.1.1
  have hb := hC.1.2.1
  have hown := hC.1.2.2.2.1
  have hts := hC.1.2.2.2.2
  intro n
  induction n with
  | zero =>
    intro x1 μ H locs ls  hH hl h
    rw [fM_term_L10] at h
    cases h
  | succ n ih =>
    intro x1 μ H locs ls  hH hl h
    rw [fM_term_L10] at h
    refine lv_aload_n hx hb dX8_term_10 rfl (lv_at hl 0 rfl) ?_
    refine lv_bipush (v := 42) hx hb dX8_term_11 (by decide) ?_
    obtain ⟨r6, h5, h⟩ := ob_some h
    refine m_calli (As := [.int (42 : Int32)]) (rest := []) (cM_isSign l D cI B μ (42 : Int32) h5) hC hH hl (cwV 1 hts (gV wmX8_240 wvX8_isSign) rfl rfl rfl hdX8_isSign (rmG_c d (Nat.le_of_ble_eq_true rfl) (Nat.le_of_ble_eq_true rfl))) rfl rfl (Nat.le_of_ble_eq_true rfl) ⟨Nat.zero_le _, Nat.zero_le _⟩ dX8_term_13 (fun H locs hH => ?_)
    refine lv_if_ne (tgt := 28) hx hb dX8_term_16 (by decide) (fun c7 => ?_) (fun c7 => ?_)
    · have h := ite_f c7 h
      exact wM_term_J28 hC hr hF_part0 ih x1 μ H locs ls  hH hl h
    · have h := ite_t c7 h
      refine lv_aload_n hx hb dX8_term_19 rfl (lv_at hl 0 rfl) ?_
      refine lv_bipush (v := 47) hx hb dX8_term_20 (by decide) ?_
      obtain ⟨r19, h18, h⟩ := ob_some h
      refine m_calli (As := [.int (47 : Int32)]) (rest := []) (cM_isSign l D cI B μ (47 : Int32) h18) hC hH hl (cwV 1 hts (gV wmX8_240 wvX8_isSign) rfl rfl rfl hdX8_isSign (rmG_c d (Nat.le_of_ble_eq_true rfl) (Nat.le_of_ble_eq_true rfl))) rfl rfl (Nat.le_of_ble_eq_true rfl) ⟨Nat.zero_le _, Nat.zero_le _⟩ dX8_term_22 (fun H locs hH => ?_)
      refine lv_if_eq (tgt := 56) hx hb dX8_term_25 (by decide) (fun c20 => ?_) (fun c20 => ?_)
      · have h := ite_t c20 h
        exact hk56 μ H locs ls  hH (lv_sub hl [] rfl) h
      · have h := ite_f c20 h
        exact wM_term_J28 hC hr hF_part0 ih x1 μ H locs ls  hH hl h

def fM_term (F_part0 : MS → Int32 → Option (Int32 × MS)) (μ0 : MS) (x1 : Int32) : Option (Int32 × MS) :=
  ob2 (F_part0 μ0 x1) fun r2 μ3 =>
  if r2 = 0 then (
    some ((0 : Int32), μ3))
  else (
    fM_term_L10 F_part0 (fun (μ : MS) => some ((1 : Int32), μ)) 10000 x1 μ3)

set_option maxHeartbeats 4000000 in
set_option maxRecDepth 100000 in
theorem cM_term (l : Launch) (D : va_G) (cI : ClassId) (B : Nat → Nat) (d : Nat) (F_part0 : MS → Int32 → Option (Int32 × MS)) (hF_part0 : ∀ (μ : MS) (x1 : Int32) (r : Int32) (μ1 : MS), F_part0 μ x1 = some (r, μ1) → ∀ sz, Met l yX8_part0 (Cond.code yX8_part0 cX8_part0 2 (some .boolean) :: Tw) (rmG d) (mP D cI B μ sz [.ref (B 0), .int x1]) (mQi D cI B μ sz μ1 r) 0 0 (va_A (mW B cI μ) sz)) (μ0 : MS) (x1 : Int32) {r : Int32} {μr : MS} (h : fM_term F_part0 μ0 x1 = some (r, μr)) : ∀ sz, Met l yX8_term (Cond.code yX8_term cX8_term 3 (some .boolean) :: Tw) (rmG (d + 1)) (mP D cI B μ0 sz [.ref (B 0), .int x1]) (mQi D cI B μ0 sz μr r) 0 0 (va_A (mW B cI μ0) sz) := by
  intro sz
  refine Met.ofW (cc := cX8_term) (maxL := 3) (ret := (some .boolean)) (by decide) rfl ?_
  intro p e s m args below meth c s₁ Bd hml hv
  obtain ⟨hC, hr⟩ := jC_of Bd hml
  obtain ⟨rfl, rfl, hH⟩ := m_enter hv
  have hC : jC p s m _ meth c cX8_term 3 RX8 := hC
  have hx := hC.1.1
  have hb := hC.1.2.1
  have hown := hC.1.2.2.2.1
  have hts := hC.1.2.2.2.2
  have hl := lv_entry ([.ref (B 0), .int x1]) (n := 3) (Nat.le_of_ble_eq_true rfl)
  rw [lg_entry_eq]
  generalize (lg_sl ([.ref (B 0), .int x1]) ++ List.replicate (3 - (lg_sl ([.ref (B 0), .int x1])).length) Slot.unset).toArray = ls at hl ⊢
  have hl : lv_has ls 3 [(0, .ref (B 0)), (1, .int x1)] := hl
  unfold fM_term at h
  refine W_nm (fun H locs eH eL => ?_)
  have hH : mH D cI B s (va_A (mW B cI μ0) s.heap.size) μ0 H locs := by rw [eH, eL]; exact hH
  show W p l e (rmG (d + 1)) s m _ below meth c H locs 0 0 _ (F0 m 0 ls [])
  refine lv_aload_n hx hb dX8_term_0 rfl (lv_at hl 0 rfl) ?_
  refine lv_iload_n hx hb dX8_term_1 rfl (lv_at hl 1 rfl) ?_
  obtain ⟨r2, μ3, h1, h⟩ := ob2_some h
  refine m_calli (As := [.int x1]) (rest := []) (hF_part0 _ _ _ _ h1) hC hH hl (cwV 1 hts (gV wmX8_258 wvX8_part0) rfl rfl rfl hdX8_part0 (rmG_s d (Nat.le_of_ble_eq_true rfl))) rfl rfl (Nat.le_of_ble_eq_true rfl) ⟨Nat.zero_le _, Nat.zero_le _⟩ dX8_term_2 (fun H locs hH => ?_)
  refine lv_if_ne (tgt := 10) hx hb dX8_term_5 (by decide) (fun c4 => ?_) (fun c4 => ?_)
  · have h := ite_f c4 h
    refine wM_term_L10 hC hr hF_part0  ?_ 10000 x1 μ3 H locs ls  hH hl h
    intro μ H locs ls  hH hl h
    refine lv_iconst (v := 1) hx hb dX8_term_56 (by decide) ?_
    obtain ⟨rfl, rfl⟩ := some_i2 h
    exact m_iret (v := 1) hC hH hr (by decide) dX8_term_57
  · have h := ite_t c4 h
    refine lv_iconst (v := 0) hx hb dX8_term_8 (by decide) ?_
    obtain ⟨rfl, rfl⟩ := some_i2 h
    exact m_iret (v := 0) hC hH hr (by decide) dX8_term_9


def fM_part0_J145 (F_either : MS → Int32 → Option (Int32 × MS)) (F_part0 : MS → Int32 → Option (Int32 × MS)) (x1 : Int32) (μ : MS) : Option (Int32 × MS) :=
  ob (fM_isSign μ (40 : Int32)) fun r7 =>
  if r7 = 0 then (
    some ((0 : Int32), μ))
  else (
    if (μ 0 23) = (8 : Int32) then (
      some ((0 : Int32), μ))
    else (
      bnd (up2 μ 0 23 ((μ 0 23) + (1 : Int32))) fun μ10 =>
      ob (fM_nextToken μ10) fun μ13 =>
      ob2 (F_either μ13 x1) fun r15 μ16 =>
      if r15 = 0 then (
        some ((0 : Int32), μ16))
      else (
        ob (fM_isSign μ16 (41 : Int32)) fun r19 =>
        if r19 = 0 then (
          some ((0 : Int32), μ16))
        else (
          bnd (up2 μ16 0 23 ((μ16 0 23) - (1 : Int32))) fun μ21 =>
          ob (fM_nextToken μ21) fun μ24 =>
          some ((1 : Int32), μ24)))))

set_option maxHeartbeats 4000000 in
set_option maxRecDepth 100000 in
theorem wM_part0_J145 {p : Program} {l : Launch} {e : Env} {s : State} {m : MethodId} {args : Array Value} {below : List Frame} {meth : Method} {c : Code} {D : va_G} {cI : ClassId} {B : Nat → Nat} {μ0 : MS} {d : Nat} {F_either : MS → Int32 → Option (Int32 × MS)} {F_part0 : MS → Int32 → Option (Int32 × MS)} {r : Int32} {μr : MS} (hC : jC p s m args meth c cX8_part0 2 RX8) (hr : meth.sig.returnType = some .boolean) (hF_either : ∀ (μ : MS) (x1 : Int32) (r : Int32) (μ1 : MS), F_either μ x1 = some (r, μ1) → ∀ sz, Met l yX8_either (Cond.code yX8_either cX8_either 2 (some .boolean) :: Tw) (rmG d) (mP D cI B μ sz [.ref (B 0), .int x1]) (mQi D cI B μ sz μ1 r) 0 0 (va_A (mW B cI μ) sz)) (hF_part0 : ∀ (μ : MS) (x1 : Int32) (r : Int32) (μ1 : MS), F_part0 μ x1 = some (r, μ1) → ∀ sz, Met l yX8_part0 (Cond.code yX8_part0 cX8_part0 2 (some .boolean) :: Tw) (rmG d) (mP D cI B μ sz [.ref (B 0), .int x1]) (mQi D cI B μ sz μ1 r) 0 0 (va_A (mW B cI μ) sz)) (x1 : Int32) (μ : MS) (H : Heap) (locs : List Loc) (ls : Array Slot) (hH : mH D cI B s (va_A (mW B cI μ0) s.heap.size) μ H locs) (hl : lv_has ls 2 [(0, .ref (B 0)), (1, .int x1)]) (h : fM_part0_J145 F_either F_part0 x1 μ = some (r, μr)) : W p l e (rmG (d + 1)) s m args below meth c H locs 0 0 (MQ below (mQi D cI B μ0 s.heap.size μr r) args s 0 0 (va_A (mW B cI μ0) s.heap.size)) (F0 m 145 ls []) := by
  have hx := hC.1.1
  have hb := hC.1.2.1
  have hown := hC.1.2.2.2.1
  have hts := hC.1.2.2.2.2
  unfold fM_part0_J145 at h
  refine lv_aload_n hx hb dX8_part0_145 rfl (lv_at hl 0 rfl) ?_
  refine lv_bipush (v := 40) hx hb dX8_part0_146 (by decide) ?_
  obtain ⟨r7, h6, h⟩ := ob_some h
  refine m_calli (As := [.int (40 : Int32)]) (rest := []) (cM_isSign l D cI B μ (40 : Int32) h6) hC hH hl (cwV 1 hts (gV wmX8_240 wvX8_isSign) rfl rfl rfl hdX8_isSign (rmG_c d (Nat.le_of_ble_eq_true rfl) (Nat.le_of_ble_eq_true rfl))) rfl rfl (Nat.le_of_ble_eq_true rfl) ⟨Nat.zero_le _, Nat.zero_le _⟩ dX8_part0_148 (fun H locs hH => ?_)
  refine lv_if_eq (tgt := 163) hx hb dX8_part0_151 (by decide) (fun c8 => ?_) (fun c8 => ?_)
  · have h := ite_t c8 h
    refine lv_iconst (v := 0) hx hb dX8_part0_163 (by decide) ?_
    obtain ⟨rfl, rfl⟩ := some_i2 h
    exact m_iret (v := 0) hC hH hr (by decide) dX8_part0_164
  · have h := ite_f c8 h
    refine lv_aload_n hx hb dX8_part0_154 rfl (lv_at hl 0 rfl) ?_
    refine m_get hC hH 23 (by decide) wfX8_270 rfl rfl dX8_part0_155 ?_
    refine lv_bipush (v := 8) hx hb dX8_part0_158 (by decide) ?_
    refine lv_icmp_ne (tgt := 165) hx hb dX8_part0_160 (by decide) (fun c9 => ?_) (fun c9 => ?_)
    · have h := ite_f c9 h
      refine lv_aload_n hx hb dX8_part0_165 rfl (lv_at hl 0 rfl) ?_
      refine lv_dup hx hb dX8_part0_166 rfl ?_
      refine m_get hC hH 23 (by decide) wfX8_270 rfl rfl dX8_part0_167 ?_
      refine lv_iconst (v := 1) hx hb dX8_part0_170 (by decide) ?_
      refine lv_iadd hx hb dX8_part0_171 ?_
      obtain ⟨μ10, e11, h⟩ := bnd_some h
      refine m_put (ty := .int) hC hH 23 (by decide) wfX8_270 rfl rfl (by decide +kernel) rfl rfl e11 (mF_23 B _ _) dX8_part0_172 (fun H locs hH => ?_)
      refine lv_aload_n hx hb dX8_part0_175 rfl (lv_at hl 0 rfl) ?_
      obtain ⟨μ13, h12, h⟩ := ob_some h
      refine m_callv (As := []) (rest := []) (cM_nextToken l D cI B μ10  h12) hC hH hl (cwV 0 hts (gV wmX8_243 wvX8_nextToken) rfl rfl rfl hdX8_nextToken (rmG_c d (Nat.le_of_ble_eq_true rfl) (Nat.le_of_ble_eq_true rfl))) rfl rfl (Nat.le_of_ble_eq_true rfl) ⟨Nat.zero_le _, Nat.zero_le _⟩ dX8_part0_176 (fun H locs hH => ?_)
      refine lv_aload_n hx hb dX8_part0_179 rfl (lv_at hl 0 rfl) ?_
      refine lv_iload_n hx hb dX8_part0_180 rfl (lv_at hl 1 rfl) ?_
      obtain ⟨r15, μ16, h14, h⟩ := ob2_some h
      refine m_calli (As := [.int x1]) (rest := []) (hF_either _ _ _ _ h14) hC hH hl (cwV 1 hts (gV wmX8_273 wvX8_either) rfl rfl rfl hdX8_either (rmG_s d (Nat.le_of_ble_eq_true rfl))) rfl rfl (Nat.le_of_ble_eq_true rfl) ⟨Nat.zero_le _, Nat.zero_le _⟩ dX8_part0_181 (fun H locs hH => ?_)
      refine lv_if_eq (tgt := 196) hx hb dX8_part0_184 (by decide) (fun c17 => ?_) (fun c17 => ?_)
      · have h := ite_t c17 h
        refine lv_iconst (v := 0) hx hb dX8_part0_196 (by decide) ?_
        obtain ⟨rfl, rfl⟩ := some_i2 h
        exact m_iret (v := 0) hC hH hr (by decide) dX8_part0_197
      · have h := ite_f c17 h
        refine lv_aload_n hx hb dX8_part0_187 rfl (lv_at hl 0 rfl) ?_
        refine lv_bipush (v := 41) hx hb dX8_part0_188 (by decide) ?_
        obtain ⟨r19, h18, h⟩ := ob_some h
        refine m_calli (As := [.int (41 : Int32)]) (rest := []) (cM_isSign l D cI B μ16 (41 : Int32) h18) hC hH hl (cwV 1 hts (gV wmX8_240 wvX8_isSign) rfl rfl rfl hdX8_isSign (rmG_c d (Nat.le_of_ble_eq_true rfl) (Nat.le_of_ble_eq_true rfl))) rfl rfl (Nat.le_of_ble_eq_true rfl) ⟨Nat.zero_le _, Nat.zero_le _⟩ dX8_part0_190 (fun H locs hH => ?_)
        refine lv_if_ne (tgt := 198) hx hb dX8_part0_193 (by decide) (fun c20 => ?_) (fun c20 => ?_)
        · have h := ite_f c20 h
          refine lv_aload_n hx hb dX8_part0_198 rfl (lv_at hl 0 rfl) ?_
          refine lv_dup hx hb dX8_part0_199 rfl ?_
          refine m_get hC hH 23 (by decide) wfX8_270 rfl rfl dX8_part0_200 ?_
          refine lv_iconst (v := 1) hx hb dX8_part0_203 (by decide) ?_
          refine lv_isub hx hb dX8_part0_204 ?_
          obtain ⟨μ21, e22, h⟩ := bnd_some h
          refine m_put (ty := .int) hC hH 23 (by decide) wfX8_270 rfl rfl (by decide +kernel) rfl rfl e22 (mF_23 B _ _) dX8_part0_205 (fun H locs hH => ?_)
          refine lv_aload_n hx hb dX8_part0_208 rfl (lv_at hl 0 rfl) ?_
          obtain ⟨μ24, h23, h⟩ := ob_some h
          refine m_callv (As := []) (rest := []) (cM_nextToken l D cI B μ21  h23) hC hH hl (cwV 0 hts (gV wmX8_243 wvX8_nextToken) rfl rfl rfl hdX8_nextToken (rmG_c d (Nat.le_of_ble_eq_true rfl) (Nat.le_of_ble_eq_true rfl))) rfl rfl (Nat.le_of_ble_eq_true rfl) ⟨Nat.zero_le _, Nat.zero_le _⟩ dX8_part0_209 (fun H locs hH => ?_)
          refine lv_iconst (v := 1) hx hb dX8_part0_212 (by decide) ?_
          obtain ⟨rfl, rfl⟩ := some_i2 h
          exact m_iret (v := 1) hC hH hr (by decide) dX8_part0_213
        · have h := ite_t c20 h
          refine lv_iconst (v := 0) hx hb dX8_part0_196 (by decide) ?_
          obtain ⟨rfl, rfl⟩ := some_i2 h
          exact m_iret (v := 0) hC hH hr (by decide) dX8_part0_197
    · have h := ite_t c9 h
      refine lv_iconst (v := 0) hx hb dX8_part0_163 (by decide) ?_
      obtain ⟨rfl, rfl⟩ := some_i2 h
      exact m_iret (v := 0) hC hH hr (by decide) dX8_part0_164

def fM_part0_J84 (F_either : MS → Int32 → Option (Int32 × MS)) (F_part0 : MS → Int32 → Option (Int32 × MS)) (x1 : Int32) (μ : MS) : Option (Int32 × MS) :=
  ob (fM_isSign μ (33 : Int32)) fun r4 =>
  if r4 = 0 then (
    fM_part0_J145 F_either F_part0 x1 μ)
  else (
    if (8 : Int32) ≤ (μ 0 24) then (
      fM_part0_J145 F_either F_part0 x1 μ)
    else (
      bnd (up2 μ 0 24 ((μ 0 24) + (1 : Int32))) fun μ26 =>
      ob (fM_nextToken μ26) fun μ29 =>
      ob2 (F_part0 μ29 x1) fun r31 μ32 =>
      if r31 = 0 then (
        some ((0 : Int32), μ32))
      else (
        bnd (up2 μ32 0 24 ((μ32 0 24) - (1 : Int32))) fun μ34 =>
        ob (fM_step μ34 (2 : Int32) (33 : Int32)) fun μ37 =>
        some ((1 : Int32), μ37))))

set_option maxHeartbeats 4000000 in
set_option maxRecDepth 100000 in
theorem wM_part0_J84 {p : Program} {l : Launch} {e : Env} {s : State} {m : MethodId} {args : Array Value} {below : List Frame} {meth : Method} {c : Code} {D : va_G} {cI : ClassId} {B : Nat → Nat} {μ0 : MS} {d : Nat} {F_either : MS → Int32 → Option (Int32 × MS)} {F_part0 : MS → Int32 → Option (Int32 × MS)} {r : Int32} {μr : MS} (hC : jC p s m args meth c cX8_part0 2 RX8) (hr : meth.sig.returnType = some .boolean) (hF_either : ∀ (μ : MS) (x1 : Int32) (r : Int32) (μ1 : MS), F_either μ x1 = some (r, μ1) → ∀ sz, Met l yX8_either (Cond.code yX8_either cX8_either 2 (some .boolean) :: Tw) (rmG d) (mP D cI B μ sz [.ref (B 0), .int x1]) (mQi D cI B μ sz μ1 r) 0 0 (va_A (mW B cI μ) sz)) (hF_part0 : ∀ (μ : MS) (x1 : Int32) (r : Int32) (μ1 : MS), F_part0 μ x1 = some (r, μ1) → ∀ sz, Met l yX8_part0 (Cond.code yX8_part0 cX8_part0 2 (some .boolean) :: Tw) (rmG d) (mP D cI B μ sz [.ref (B 0), .int x1]) (mQi D cI B μ sz μ1 r) 0 0 (va_A (mW B cI μ) sz)) (x1 : Int32) (μ : MS) (H : Heap) (locs : List Loc) (ls : Array Slot) (hH : mH D cI B s (va_A (mW B cI μ0) s.heap.size) μ H locs) (hl : lv_has ls 2 [(0, .ref (B 0)), (1, .int x1)]) (h : fM_part0_J84 F_either F_part0 x1 μ = some (r, μr)) : W p l e (rmG (d + 1)) s m args below meth c H locs 0 0 (MQ below (mQi D cI B μ0 s.heap.size μr r) args s 0 0 (va_A (mW B cI μ0) s.heap.size)) (F0 m 84 ls []) := by
  have hx := hC.1.1
  have hb := hC.1.2.1
  have hown := hC.1.2.2.2.1
  have hts := hC.1.2.2.2.2
  unfold fM_part0_J84 at h
  refine lv_aload_n hx hb dX8_part0_84 rfl (lv_at hl 0 rfl) ?_
  refine lv_bipush (v := 33) hx hb dX8_part0_85 (by decide) ?_
  obtain ⟨r4, h3, h⟩ := ob_some h
  refine m_calli (As := [.int (33 : Int32)]) (rest := []) (cM_isSign l D cI B μ (33 : Int32) h3) hC hH hl (cwV 1 hts (gV wmX8_240 wvX8_isSign) rfl rfl rfl hdX8_isSign (rmG_c d (Nat.le_of_ble_eq_true rfl) (Nat.le_of_ble_eq_true rfl))) rfl rfl (Nat.le_of_ble_eq_true rfl) ⟨Nat.zero_le _, Nat.zero_le _⟩ dX8_part0_87 (fun H locs hH => ?_)
  refine lv_if_eq (tgt := 145) hx hb dX8_part0_90 (by decide) (fun c5 => ?_) (fun c5 => ?_)
  · have h := ite_t c5 h
    exact wM_part0_J145 hC hr hF_either hF_part0  x1 μ H locs ls  hH hl h
  · have h := ite_f c5 h
    refine lv_aload_n hx hb dX8_part0_93 rfl (lv_at hl 0 rfl) ?_
    refine m_get hC hH 24 (by decide) wfX8_267 rfl rfl dX8_part0_94 ?_
    refine lv_bipush (v := 8) hx hb dX8_part0_97 (by decide) ?_
    refine lv_icmp_ge (tgt := 145) hx hb dX8_part0_99 (by decide) (fun c25 => ?_) (fun c25 => ?_)
    · have h := ite_t c25 h
      exact wM_part0_J145 hC hr hF_either hF_part0  x1 μ H locs ls  hH hl h
    · have h := ite_f c25 h
      refine lv_aload_n hx hb dX8_part0_102 rfl (lv_at hl 0 rfl) ?_
      refine lv_dup hx hb dX8_part0_103 rfl ?_
      refine m_get hC hH 24 (by decide) wfX8_267 rfl rfl dX8_part0_104 ?_
      refine lv_iconst (v := 1) hx hb dX8_part0_107 (by decide) ?_
      refine lv_iadd hx hb dX8_part0_108 ?_
      obtain ⟨μ26, e27, h⟩ := bnd_some h
      refine m_put (ty := .int) hC hH 24 (by decide) wfX8_267 rfl rfl (by decide +kernel) rfl rfl e27 (mF_24 B _ _) dX8_part0_109 (fun H locs hH => ?_)
      refine lv_aload_n hx hb dX8_part0_112 rfl (lv_at hl 0 rfl) ?_
      obtain ⟨μ29, h28, h⟩ := ob_some h
      refine m_callv (As := []) (rest := []) (cM_nextToken l D cI B μ26  h28) hC hH hl (cwV 0 hts (gV wmX8_243 wvX8_nextToken) rfl rfl rfl hdX8_nextToken (rmG_c d (Nat.le_of_ble_eq_true rfl) (Nat.le_of_ble_eq_true rfl))) rfl rfl (Nat.le_of_ble_eq_true rfl) ⟨Nat.zero_le _, Nat.zero_le _⟩ dX8_part0_113 (fun H locs hH => ?_)
      refine lv_aload_n hx hb dX8_part0_116 rfl (lv_at hl 0 rfl) ?_
      refine lv_iload_n hx hb dX8_part0_117 rfl (lv_at hl 1 rfl) ?_
      obtain ⟨r31, μ32, h30, h⟩ := ob2_some h
      refine m_calli (As := [.int x1]) (rest := []) (hF_part0 _ _ _ _ h30) hC hH hl (cwV 1 hts (gV wmX8_258 wvX8_part0) rfl rfl rfl hdX8_part0 (rmG_s d (Nat.le_of_ble_eq_true rfl))) rfl rfl (Nat.le_of_ble_eq_true rfl) ⟨Nat.zero_le _, Nat.zero_le _⟩ dX8_part0_118 (fun H locs hH => ?_)
      refine lv_if_ne (tgt := 126) hx hb dX8_part0_121 (by decide) (fun c33 => ?_) (fun c33 => ?_)
      · have h := ite_f c33 h
        refine lv_aload_n hx hb dX8_part0_126 rfl (lv_at hl 0 rfl) ?_
        refine lv_dup hx hb dX8_part0_127 rfl ?_
        refine m_get hC hH 24 (by decide) wfX8_267 rfl rfl dX8_part0_128 ?_
        refine lv_iconst (v := 1) hx hb dX8_part0_131 (by decide) ?_
        refine lv_isub hx hb dX8_part0_132 ?_
        obtain ⟨μ34, e35, h⟩ := bnd_some h
        refine m_put (ty := .int) hC hH 24 (by decide) wfX8_267 rfl rfl (by decide +kernel) rfl rfl e35 (mF_24 B _ _) dX8_part0_133 (fun H locs hH => ?_)
        refine lv_aload_n hx hb dX8_part0_136 rfl (lv_at hl 0 rfl) ?_
        refine lv_iconst (v := 2) hx hb dX8_part0_137 (by decide) ?_
        refine lv_bipush (v := 33) hx hb dX8_part0_138 (by decide) ?_
        obtain ⟨μ37, h36, h⟩ := ob_some h
        refine m_callv (As := [.int (2 : Int32), .int (33 : Int32)]) (rest := []) (cM_step l D cI B μ34 (2 : Int32) (33 : Int32) h36) hC hH hl (cwV 2 hts (gV wmX8_246 wvX8_step) rfl rfl rfl hdX8_step (rmG_c d (Nat.le_of_ble_eq_true rfl) (Nat.le_of_ble_eq_true rfl))) rfl rfl (Nat.le_of_ble_eq_true rfl) ⟨Nat.zero_le _, Nat.zero_le _⟩ dX8_part0_140 (fun H locs hH => ?_)
        refine lv_iconst (v := 1) hx hb dX8_part0_143 (by decide) ?_
        obtain ⟨rfl, rfl⟩ := some_i2 h
        exact m_iret (v := 1) hC hH hr (by decide) dX8_part0_144
      · have h := ite_t c33 h
        refine lv_iconst (v := 0) hx hb dX8_part0_124 (by decide) ?_
        obtain ⟨rfl, rfl⟩ := some_i2 h
        exact m_iret (v := 0) hC hH hr (by decide) dX8_part0_125

def fM_part0 (F_either : MS → Int32 → Option (Int32 × MS)) (F_part0 : MS → Int32 → Option (Int32 × MS)) (μ0 : MS) (x1 : Int32) : Option (Int32 × MS) :=
  if (μ0 0 20) = (2 : Int32) then (
    ob (fM_step μ0 (0 : Int32) (μ0 0 21)) fun μ49 =>
    bnd (up2 μ49 0 27 ((μ49 0 27) + (1 : Int32))) fun μ50 =>
    ob (fM_nextToken μ50) fun μ53 =>
    some ((1 : Int32), μ53))
  else (
    if (μ0 0 20) = (1 : Int32) then (
      if (μ0 0 22) = 0 then (
        fM_part0_J84 F_either F_part0 x1 μ0)
      else (
        ob (fM_isName μ0 x1 (μ0 0 22)) fun r40 =>
        if r40 = 0 then (
          fM_part0_J84 F_either F_part0 x1 μ0)
        else (
          ob (fM_step μ0 (1 : Int32) (μ0 0 22)) fun μ43 =>
          bnd (up2 μ43 0 27 ((μ43 0 27) + (1 : Int32))) fun μ44 =>
          ob (fM_nextToken μ44) fun μ47 =>
          some ((1 : Int32), μ47))))
    else (
      fM_part0_J84 F_either F_part0 x1 μ0))

set_option maxHeartbeats 4000000 in
set_option maxRecDepth 100000 in
theorem cM_part0 (l : Launch) (D : va_G) (cI : ClassId) (B : Nat → Nat) (d : Nat) (F_either : MS → Int32 → Option (Int32 × MS)) (F_part0 : MS → Int32 → Option (Int32 × MS)) (hF_either : ∀ (μ : MS) (x1 : Int32) (r : Int32) (μ1 : MS), F_either μ x1 = some (r, μ1) → ∀ sz, Met l yX8_either (Cond.code yX8_either cX8_either 2 (some .boolean) :: Tw) (rmG d) (mP D cI B μ sz [.ref (B 0), .int x1]) (mQi D cI B μ sz μ1 r) 0 0 (va_A (mW B cI μ) sz)) (hF_part0 : ∀ (μ : MS) (x1 : Int32) (r : Int32) (μ1 : MS), F_part0 μ x1 = some (r, μ1) → ∀ sz, Met l yX8_part0 (Cond.code yX8_part0 cX8_part0 2 (some .boolean) :: Tw) (rmG d) (mP D cI B μ sz [.ref (B 0), .int x1]) (mQi D cI B μ sz μ1 r) 0 0 (va_A (mW B cI μ) sz)) (μ0 : MS) (x1 : Int32) {r : Int32} {μr : MS} (h : fM_part0 F_either F_part0 μ0 x1 = some (r, μr)) : ∀ sz, Met l yX8_part0 (Cond.code yX8_part0 cX8_part0 2 (some .boolean) :: Tw) (rmG (d + 1)) (mP D cI B μ0 sz [.ref (B 0), .int x1]) (mQi D cI B μ0 sz μr r) 0 0 (va_A (mW B cI μ0) sz) := by
  intro sz
  refine Met.ofW (cc := cX8_part0) (maxL := 2) (ret := (some .boolean)) (by decide) rfl ?_
  intro p e s m args below meth c s₁ Bd hml hv
  obtain ⟨hC, hr⟩ := jC_of Bd hml
  obtain ⟨rfl, rfl, hH⟩ := m_enter hv
  have hC : jC p s m _ meth c cX8_part0 2 RX8 := hC
  have hx := hC.1.1
  have hb := hC.1.2.1
  have hown := hC.1.2.2.2.1
  have hts := hC.1.2.2.2.2
  have hl := lv_entry ([.ref (B 0), .int x1]) (n := 2) (Nat.le_of_ble_eq_true rfl)
  rw [lg_entry_eq]
  generalize (lg_sl ([.ref (B 0), .int x1]) ++ List.replicate (2 - (lg_sl ([.ref (B 0), .int x1])).length) Slot.unset).toArray = ls at hl ⊢
  have hl : lv_has ls 2 [(0, .ref (B 0)), (1, .int x1)] := hl
  unfold fM_part0 at h
  refine W_nm (fun H locs eH eL => ?_)
  have hH : mH D cI B s (va_A (mW B cI μ0) s.heap.size) μ0 H locs := by rw [eH, eL]; exact hH
  show W p l e (rmG (d + 1)) s m _ below meth c H locs 0 0 _ (F0 m 0 ls [])
  refine lv_aload_n hx hb dX8_part0_0 rfl (lv_at hl 0 rfl) ?_
  refine m_get hC hH 20 (by decide) wfX8_209 rfl rfl dX8_part0_1 ?_
  refine lv_iconst (v := 2) hx hb dX8_part0_4 (by decide) ?_
  refine lv_icmp_ne (tgt := 33) hx hb dX8_part0_5 (by decide) (fun c1 => ?_) (fun c1 => ?_)
  · have h := ite_f c1 h
    refine lv_aload_n hx hb dX8_part0_33 rfl (lv_at hl 0 rfl) ?_
    refine m_get hC hH 20 (by decide) wfX8_209 rfl rfl dX8_part0_34 ?_
    refine lv_iconst (v := 1) hx hb dX8_part0_37 (by decide) ?_
    refine lv_icmp_ne (tgt := 84) hx hb dX8_part0_38 (by decide) (fun c2 => ?_) (fun c2 => ?_)
    · have h := ite_f c2 h
      exact wM_part0_J84 hC hr hF_either hF_part0  x1 μ0 H locs ls  hH hl h
    · have h := ite_t c2 h
      refine lv_aload_n hx hb dX8_part0_41 rfl (lv_at hl 0 rfl) ?_
      refine m_get hC hH 22 (by decide) wfX8_218 rfl rfl dX8_part0_42 ?_
      refine lv_if_eq (tgt := 84) hx hb dX8_part0_45 (by decide) (fun c38 => ?_) (fun c38 => ?_)
      · have h := ite_t c38 h
        exact wM_part0_J84 hC hr hF_either hF_part0  x1 μ0 H locs ls  hH hl h
      · have h := ite_f c38 h
        refine lv_iload_n hx hb dX8_part0_48 rfl (lv_at hl 1 rfl) ?_
        refine lv_aload_n hx hb dX8_part0_49 rfl (lv_at hl 0 rfl) ?_
        refine m_get hC hH 22 (by decide) wfX8_218 rfl rfl dX8_part0_50 ?_
        obtain ⟨r40, h39, h⟩ := ob_some h
        refine m_calls (As := [.int x1, .int (μ0 0 22)]) (rest := []) (cM_isName l D cI B μ0 x1 (μ0 0 22) h39) hC hH hl (va_cwS 2 hts (gS wmX8_264 wsX8_isName) rfl rfl rfl hdX8_isName (rmG_c d (Nat.le_of_ble_eq_true rfl) (Nat.le_of_ble_eq_true rfl))) rfl rfl (Nat.le_of_ble_eq_true rfl) ⟨Nat.zero_le _, Nat.zero_le _⟩ dX8_part0_53 (fun H locs hH => ?_)
        refine lv_if_eq (tgt := 84) hx hb dX8_part0_56 (by decide) (fun c41 => ?_) (fun c41 => ?_)
        · have h := ite_t c41 h
          exact wM_part0_J84 hC hr hF_either hF_part0  x1 μ0 H locs ls  hH hl h
        · have h := ite_f c41 h
          refine lv_aload_n hx hb dX8_part0_59 rfl (lv_at hl 0 rfl) ?_
          refine lv_iconst (v := 1) hx hb dX8_part0_60 (by decide) ?_
          refine lv_aload_n hx hb dX8_part0_61 rfl (lv_at hl 0 rfl) ?_
          refine m_get hC hH 22 (by decide) wfX8_218 rfl rfl dX8_part0_62 ?_
          obtain ⟨μ43, h42, h⟩ := ob_some h
          refine m_callv (As := [.int (1 : Int32), .int (μ0 0 22)]) (rest := []) (cM_step l D cI B μ0 (1 : Int32) (μ0 0 22) h42) hC hH hl (cwV 2 hts (gV wmX8_246 wvX8_step) rfl rfl rfl hdX8_step (rmG_c d (Nat.le_of_ble_eq_true rfl) (Nat.le_of_ble_eq_true rfl))) rfl rfl (Nat.le_of_ble_eq_true rfl) ⟨Nat.zero_le _, Nat.zero_le _⟩ dX8_part0_65 (fun H locs hH => ?_)
          refine lv_aload_n hx hb dX8_part0_68 rfl (lv_at hl 0 rfl) ?_
          refine lv_dup hx hb dX8_part0_69 rfl ?_
          refine m_get hC hH 27 (by decide) wfX8_261 rfl rfl dX8_part0_70 ?_
          refine lv_iconst (v := 1) hx hb dX8_part0_73 (by decide) ?_
          refine lv_iadd hx hb dX8_part0_74 ?_
          obtain ⟨μ44, e45, h⟩ := bnd_some h
          refine m_put (ty := .int) hC hH 27 (by decide) wfX8_261 rfl rfl (by decide +kernel) rfl rfl e45 (mF_27 B _ _) dX8_part0_75 (fun H locs hH => ?_)
          refine lv_aload_n hx hb dX8_part0_78 rfl (lv_at hl 0 rfl) ?_
          obtain ⟨μ47, h46, h⟩ := ob_some h
          refine m_callv (As := []) (rest := []) (cM_nextToken l D cI B μ44  h46) hC hH hl (cwV 0 hts (gV wmX8_243 wvX8_nextToken) rfl rfl rfl hdX8_nextToken (rmG_c d (Nat.le_of_ble_eq_true rfl) (Nat.le_of_ble_eq_true rfl))) rfl rfl (Nat.le_of_ble_eq_true rfl) ⟨Nat.zero_le _, Nat.zero_le _⟩ dX8_part0_79 (fun H locs hH => ?_)
          refine lv_iconst (v := 1) hx hb dX8_part0_82 (by decide) ?_
          obtain ⟨rfl, rfl⟩ := some_i2 h
          exact m_iret (v := 1) hC hH hr (by decide) dX8_part0_83
  · have h := ite_t c1 h
    refine lv_aload_n hx hb dX8_part0_8 rfl (lv_at hl 0 rfl) ?_
    refine lv_iconst (v := 0) hx hb dX8_part0_9 (by decide) ?_
    refine lv_aload_n hx hb dX8_part0_10 rfl (lv_at hl 0 rfl) ?_
    refine m_get hC hH 21 (by decide) wfX8_224 rfl rfl dX8_part0_11 ?_
    obtain ⟨μ49, h48, h⟩ := ob_some h
    refine m_callv (As := [.int (0 : Int32), .int (μ0 0 21)]) (rest := []) (cM_step l D cI B μ0 (0 : Int32) (μ0 0 21) h48) hC hH hl (cwV 2 hts (gV wmX8_246 wvX8_step) rfl rfl rfl hdX8_step (rmG_c d (Nat.le_of_ble_eq_true rfl) (Nat.le_of_ble_eq_true rfl))) rfl rfl (Nat.le_of_ble_eq_true rfl) ⟨Nat.zero_le _, Nat.zero_le _⟩ dX8_part0_14 (fun H locs hH => ?_)
    refine lv_aload_n hx hb dX8_part0_17 rfl (lv_at hl 0 rfl) ?_
    refine lv_dup hx hb dX8_part0_18 rfl ?_
    refine m_get hC hH 27 (by decide) wfX8_261 rfl rfl dX8_part0_19 ?_
    refine lv_iconst (v := 1) hx hb dX8_part0_22 (by decide) ?_
    refine lv_iadd hx hb dX8_part0_23 ?_
    obtain ⟨μ50, e51, h⟩ := bnd_some h
    refine m_put (ty := .int) hC hH 27 (by decide) wfX8_261 rfl rfl (by decide +kernel) rfl rfl e51 (mF_27 B _ _) dX8_part0_24 (fun H locs hH => ?_)
    refine lv_aload_n hx hb dX8_part0_27 rfl (lv_at hl 0 rfl) ?_
    obtain ⟨μ53, h52, h⟩ := ob_some h
    refine m_callv (As := []) (rest := []) (cM_nextToken l D cI B μ50  h52) hC hH hl (cwV 0 hts (gV wmX8_243 wvX8_nextToken) rfl rfl rfl hdX8_nextToken (rmG_c d (Nat.le_of_ble_eq_true rfl) (Nat.le_of_ble_eq_true rfl))) rfl rfl (Nat.le_of_ble_eq_true rfl) ⟨Nat.zero_le _, Nat.zero_le _⟩ dX8_part0_28 (fun H locs hH => ?_)
    refine lv_iconst (v := 1) hx hb dX8_part0_31 (by decide) ?_
    obtain ⟨rfl, rfl⟩ := some_i2 h
    exact m_iret (v := 1) hC hH hr (by decide) dX8_part0_32
def gM : Nat → Nat → MS → Int32 → Option (Int32 × MS)
  | 0, _, _, _ => none
  | d + 1, 0, μ, x => fM_either (gM d 1) μ x
  | d + 1, 1, μ, x => fM_both (gM d 2) μ x
  | d + 1, 2, μ, x => fM_test (gM d 3) μ x
  | d + 1, 3, μ, x => fM_sum (gM d 4) μ x
  | d + 1, 4, μ, x => fM_term (gM d 5) μ x
  | d + 1, 5, μ, x => fM_part0 (gM d 0) (gM d 5) μ x
  | _ + 1, _, _, _ => none
theorem cG_all (l : Launch) (D : va_G) (cI : ClassId) (B : Nat → Nat) : ∀ d : Nat, (∀ (μ : MS) (x1 : Int32) (r : Int32) (μ1 : MS), gM d 0 μ x1 = some (r, μ1) → ∀ sz, Met l yX8_either (Cond.code yX8_either cX8_either 2 (some .boolean) :: Tw) (rmG d) (mP D cI B μ sz [.ref (B 0), .int x1]) (mQi D cI B μ sz μ1 r) 0 0 (va_A (mW B cI μ) sz)) ∧ (∀ (μ : MS) (x1 : Int32) (r : Int32) (μ1 : MS), gM d 1 μ x1 = some (r, μ1) → ∀ sz, Met l yX8_both (Cond.code yX8_both cX8_both 2 (some .boolean) :: Tw) (rmG d) (mP D cI B μ sz [.ref (B 0), .int x1]) (mQi D cI B μ sz μ1 r) 0 0 (va_A (mW B cI μ) sz)) ∧ (∀ (μ : MS) (x1 : Int32) (r : Int32) (μ1 : MS), gM d 2 μ x1 = some (r, μ1) → ∀ sz, Met l yX8_test (Cond.code yX8_test cX8_test 3 (some .boolean) :: Tw) (rmG d) (mP D cI B μ sz [.ref (B 0), .int x1]) (mQi D cI B μ sz μ1 r) 0 0 (va_A (mW B cI μ) sz)) ∧ (∀ (μ : MS) (x1 : Int32) (r : Int32) (μ1 : MS), gM d 3 μ x1 = some (r, μ1) → ∀ sz, Met l yX8_sum (Cond.code yX8_sum cX8_sum 3 (some .boolean) :: Tw) (rmG d) (mP D cI B μ sz [.ref (B 0), .int x1]) (mQi D cI B μ sz μ1 r) 0 0 (va_A (mW B cI μ) sz)) ∧ (∀ (μ : MS) (x1 : Int32) (r : Int32) (μ1 : MS), gM d 4 μ x1 = some (r, μ1) → ∀ sz, Met l yX8_term (Cond.code yX8_term cX8_term 3 (some .boolean) :: Tw) (rmG d) (mP D cI B μ sz [.ref (B 0), .int x1]) (mQi D cI B μ sz μ1 r) 0 0 (va_A (mW B cI μ) sz)) ∧ (∀ (μ : MS) (x1 : Int32) (r : Int32) (μ1 : MS), gM d 5 μ x1 = some (r, μ1) → ∀ sz, Met l yX8_part0 (Cond.code yX8_part0 cX8_part0 2 (some .boolean) :: Tw) (rmG d) (mP D cI B μ sz [.ref (B 0), .int x1]) (mQi D cI B μ sz μ1 r) 0 0 (va_A (mW B cI μ) sz)) := by
  intro d
  induction d with
  | zero => exact ⟨(fun μ x1 r μ1 h => by have h2 : none = some (r, μ1) := h; cases h2), (fun μ x1 r μ1 h => by have h2 : none = some (r, μ1) := h; cases h2), (fun μ x1 r μ1 h => by have h2 : none = some (r, μ1) := h; cases h2), (fun μ x1 r μ1 h => by have h2 : none = some (r, μ1) := h; cases h2), (fun μ x1 r μ1 h => by have h2 : none = some (r, μ1) := h; cases h2), (fun μ x1 r μ1 h => by have h2 : none = some (r, μ1) := h; cases h2)⟩
  | succ d ih =>
    obtain ⟨i0, i1, i2, i3, i4, i5⟩ := ih
    exact ⟨(fun μ x1 r μ1 h => cM_either l D cI B d (gM d 1) i1 μ x1 h), (fun μ x1 r μ1 h => cM_both l D cI B d (gM d 2) i2 μ x1 h), (fun μ x1 r μ1 h => cM_test l D cI B d (gM d 3) i3 μ x1 h), (fun μ x1 r μ1 h => cM_sum l D cI B d (gM d 4) i4 μ x1 h), (fun μ x1 r μ1 h => cM_term l D cI B d (gM d 5) i5 μ x1 h), (fun μ x1 r μ1 h => cM_part0 l D cI B d (gM d 0) (gM d 5) i0 i5 μ x1 h)⟩
theorem cG_either (l : Launch) (D : va_G) (cI : ClassId) (B : Nat → Nat) (d : Nat) (μ : MS) (x1 : Int32) {r : Int32} {μ1 : MS} (h : gM d 0 μ x1 = some (r, μ1)) : ∀ sz, Met l yX8_either (Cond.code yX8_either cX8_either 2 (some .boolean) :: Tw) (rmG d) (mP D cI B μ sz [.ref (B 0), .int x1]) (mQi D cI B μ sz μ1 r) 0 0 (va_A (mW B cI μ) sz) := (cG_all l D cI B d).1 μ x1 r μ1 h
theorem cG_both (l : Launch) (D : va_G) (cI : ClassId) (B : Nat → Nat) (d : Nat) (μ : MS) (x1 : Int32) {r : Int32} {μ1 : MS} (h : gM d 1 μ x1 = some (r, μ1)) : ∀ sz, Met l yX8_both (Cond.code yX8_both cX8_both 2 (some .boolean) :: Tw) (rmG d) (mP D cI B μ sz [.ref (B 0), .int x1]) (mQi D cI B μ sz μ1 r) 0 0 (va_A (mW B cI μ) sz) := (cG_all l D cI B d).2.1 μ x1 r μ1 h
theorem cG_test (l : Launch) (D : va_G) (cI : ClassId) (B : Nat → Nat) (d : Nat) (μ : MS) (x1 : Int32) {r : Int32} {μ1 : MS} (h : gM d 2 μ x1 = some (r, μ1)) : ∀ sz, Met l yX8_test (Cond.code yX8_test cX8_test 3 (some .boolean) :: Tw) (rmG d) (mP D cI B μ sz [.ref (B 0), .int x1]) (mQi D cI B μ sz μ1 r) 0 0 (va_A (mW B cI μ) sz) := (cG_all l D cI B d).2.2.1 μ x1 r μ1 h
theorem cG_sum (l : Launch) (D : va_G) (cI : ClassId) (B : Nat → Nat) (d : Nat) (μ : MS) (x1 : Int32) {r : Int32} {μ1 : MS} (h : gM d 3 μ x1 = some (r, μ1)) : ∀ sz, Met l yX8_sum (Cond.code yX8_sum cX8_sum 3 (some .boolean) :: Tw) (rmG d) (mP D cI B μ sz [.ref (B 0), .int x1]) (mQi D cI B μ sz μ1 r) 0 0 (va_A (mW B cI μ) sz) := (cG_all l D cI B d).2.2.2.1 μ x1 r μ1 h
theorem cG_term (l : Launch) (D : va_G) (cI : ClassId) (B : Nat → Nat) (d : Nat) (μ : MS) (x1 : Int32) {r : Int32} {μ1 : MS} (h : gM d 4 μ x1 = some (r, μ1)) : ∀ sz, Met l yX8_term (Cond.code yX8_term cX8_term 3 (some .boolean) :: Tw) (rmG d) (mP D cI B μ sz [.ref (B 0), .int x1]) (mQi D cI B μ sz μ1 r) 0 0 (va_A (mW B cI μ) sz) := (cG_all l D cI B d).2.2.2.2.1 μ x1 r μ1 h
theorem cG_part0 (l : Launch) (D : va_G) (cI : ClassId) (B : Nat → Nat) (d : Nat) (μ : MS) (x1 : Int32) {r : Int32} {μ1 : MS} (h : gM d 5 μ x1 = some (r, μ1)) : ∀ sz, Met l yX8_part0 (Cond.code yX8_part0 cX8_part0 2 (some .boolean) :: Tw) (rmG d) (mP D cI B μ sz [.ref (B 0), .int x1]) (mQi D cI B μ sz μ1 r) 0 0 (va_A (mW B cI μ) sz) := (cG_all l D cI B d).2.2.2.2.2 μ x1 r μ1 h
