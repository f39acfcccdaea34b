def rmM_bump : Room := { frames := 1, cells := 0, slots := 0, locals := 25 }
theorem hdX8_bump : yX8_bump.cls = RX8 ∧ yX8_bump.cls ≠ "java/lang/invoke/MethodHandle" ∧ yX8_bump.cls ≠ "java/lang/invoke/VarHandle" ∧ (parseMethodDescriptor yX8_bump.desc).map (fun d => d.parameters.length) = some 1 := by decide +kernel

def fM_bump (μ0 : MS) (x1 : Int32) : Option (Int32 × MS) :=
  ob (fM_isIn μ0 (x1).toInt64 (0 : Int64) (100 : Int64)) fun r2 =>
  if r2 = 0 then (
    some ((-1000000001 : Int32), μ0))
  else (
    ob2 (fM_becomes μ0 (4 : Int32) x1) fun r5 μ6 =>
    some (r5, μ6))

set_option maxHeartbeats 4000000 in
set_option maxRecDepth 100000 in
theorem cM_bump (l : Launch) (D : va_G) (cI : ClassId) (B : Nat → Nat) (μ0 : MS) (x1 : Int32) {r : Int32} {μr : MS} (h : fM_bump μ0 x1 = some (r, μr)) : ∀ sz, Met l yX8_bump (Cond.code yX8_bump cX8_bump 2 (some .int) :: Tw) rmM_bump (mP D cI B μ0 sz [.ref (B 0), .int x1]) (mQi D cI B μ0 sz μr r) 0 0 (va_A (mW B cI μ0) sz) := by
  intro sz
  refine Met.ofW (cc := cX8_bump) (maxL := 2) (ret := (some .int)) (by decide) rfl ?_
  intro p e s m args below meth c s₁ Bd hml hv
  obtain ⟨hC, hr⟩ := jC_of Bd hml
  obtain ⟨rfl, rfl, hH⟩ := m_enter hv
  have hC : jC p s m _ meth c cX8_bump 2 RX8 := hC
  have hx := hC.1.1
  have hb := hC.1.2.1
  have hown := hC.1.2.2.2.1
  have hts := hC.1.2.2.2.2
  have hl := lv_entry ([.ref (B 0), .int x1]) (n := 2) (Nat.le_of_ble_eq_true rfl)
  rw [lg_entry_eq]
  generalize (lg_sl ([.ref (B 0), .int x1]) ++ List.replicate (2 - (lg_sl ([.ref (B 0), .int x1])).length) Slot.unset).toArray = ls at hl ⊢
  have hl : lv_has ls 2 [(0, .ref (B 0)), (1, .int x1)] := hl
  unfold fM_bump at h
  refine W_nm (fun H locs eH eL => ?_)
  have hH : mH D cI B s (va_A (mW B cI μ0) s.heap.size) μ0 H locs := by rw [eH, eL]; exact hH
  show W p l e rmM_bump s m _ below meth c H locs 0 0 _ (F0 m 0 ls [])
  refine lv_iload_n hx hb dX8_bump_0 rfl (lv_at hl 1 rfl) ?_
  refine lv_i2l hx hb dX8_bump_1 rfl ?_
  refine lv_lconst (v := 0) hx hb dX8_bump_2 (by decide) ?_
  refine lv_ldc2 (v := 100) hx hb hown (hts _ wqX8_148) dX8_bump_3 ?_
  obtain ⟨r2, h1, h⟩ := ob_some h
  refine m_calls (As := [.long (x1).toInt64, .long (0 : Int64), .long (100 : Int64)]) (rest := []) (cM_isIn l D cI B μ0 (x1).toInt64 (0 : Int64) (100 : Int64) h1) hC hH hl (va_cwS 3 hts (gS wmX8_75 wsX8_isIn) rfl rfl rfl hdX8_isIn ⟨Nat.le_of_ble_eq_true rfl, Nat.le_of_ble_eq_true rfl⟩) rfl rfl (Nat.le_of_ble_eq_true rfl) ⟨Nat.zero_le _, Nat.zero_le _⟩ dX8_bump_6 (fun H locs hH => ?_)
  refine lv_if_eq (tgt := 21) hx hb dX8_bump_9 (by decide) (fun c3 => ?_) (fun c3 => ?_)
  · have h := ite_t c3 h
    refine lv_ldc (v := -1000000001) hx hb hown (hts _ wkX8_90) dX8_bump_21 ?_
    obtain ⟨rfl, rfl⟩ := some_i2 h
    exact m_iret (v := -1000000001) hC hH hr rfl dX8_bump_23
  · have h := ite_f c3 h
    refine lv_aload_n hx hb dX8_bump_12 rfl (lv_at hl 0 rfl) ?_
    refine lv_iconst (v := 4) hx hb dX8_bump_13 (by decide) ?_
    refine lv_iload_n hx hb dX8_bump_14 rfl (lv_at hl 1 rfl) ?_
    obtain ⟨r5, μ6, h4, h⟩ := ob2_some h
    refine m_calli (As := [.int (4 : Int32), .int x1]) (rest := []) (cM_becomes l D cI B μ0 (4 : Int32) x1 h4) hC hH hl (cwV 2 hts (gV wmX8_133 wvX8_becomes) rfl rfl rfl hdX8_becomes ⟨Nat.le_of_ble_eq_true rfl, Nat.le_of_ble_eq_true rfl⟩) rfl rfl (Nat.le_of_ble_eq_true rfl) ⟨Nat.zero_le _, Nat.zero_le _⟩ dX8_bump_15 (fun H locs hH => ?_)
    refine lv_goto (tgt := 23) hx hb dX8_bump_18 (by decide) ?_
    obtain ⟨rfl, rfl⟩ := some_i2 h
    exact m_iret hC hH hr rfl dX8_bump_23

def rmM_deal : Room := { frames := 2, cells := 0, slots := 0, locals := 47 }
theorem hdX8_deal : yX8_deal.cls = RX8 ∧ yX8_deal.cls ≠ "java/lang/invoke/MethodHandle" ∧ yX8_deal.cls ≠ "java/lang/invoke/VarHandle" ∧ (parseMethodDescriptor yX8_deal.desc).map (fun d => d.parameters.length) = some 1 := by decide +kernel

def fM_deal_L17 (k72 : Int32 → MS → Option (Int32 × MS)) : Nat → Int32 → Int32 → MS → Option (Int32 × MS)
  | 0, _, _, _ => none
  | n + 1, x1, x2, μ =>
    if x1 ≤ x2 then (
      k72 x2 μ)
    else (
      if (14 : Int32) ≤ (μ 1 0) then (
        k72 x2 μ)
      else (
        ob2 (fM_drawn μ) fun r7 μ8 =>
        bnd (r7 - r7 / (6 : Int32) * (6 : Int32)) fun v9 =>
        ob2 (fM_drawn μ8) fun r12 μ13 =>
        bnd ((1 : Int32) + (r12 - r12 / (99 : Int32) * (99 : Int32))) fun v14 =>
        ob2 (fM_drawn μ13) fun r17 μ18 =>
        ob (fM_comes μ18 v9 v14 (r17 - r17 / (10 : Int32) * (10 : Int32))) fun μ20 =>
        bnd (x2 + (1 : Int32)) fun v21 =>
        (fM_deal_L17 k72 n) x1 v21 μ20))

set_option maxHeartbeats 4000000 in
set_option maxRecDepth 100000 in
theorem wM_deal_L17 {p : Program} {l : Launch} {e : Env} {s : State} {m : MethodId} {args : Array Value} {below : List Frame} {meth : Method} {c : Code} {D : va_G} {cI : ClassId} {B : Nat → Nat} {μ0 : MS} {r : Int32} {μr : MS} (hC : jC p s m args meth c cX8_deal 5 RX8) (hr : meth.sig.returnType = some .int) {k72 : Int32 → MS → Option (Int32 × MS)} (hk72 : ∀ (x2 : Int32) (μ : MS) (H : Heap) (locs : List Loc) (ls : Array Slot), mH D cI B s (va_A (mW B cI μ0) s.heap.size) μ H locs → lv_has ls 5 [(2, .int x2)] → k72 x2 μ = some (r, μr) → W p l e rmM_deal s m args below meth c H locs 0 0 (MQ below (mQi D cI B μ0 s.heap.size μr r) args s 0 0 (va_A (mW B cI μ0) s.heap.size)) (F0 m 72 ls [])) : ∀ (n : Nat) (x1 : Int32) (x2 : Int32) (μ : MS) (H : Heap) (locs : List Loc) (ls : Array Slot), mH D cI B s (va_A (mW B cI μ0) s.heap.size) μ H locs → lv_has ls 5 [(0, .ref (B 0)), (1, .int x1), (2, .int x2)] → fM_deal_L17 k72 n x1 x2 μ = some (r, μr) → W p l e rmM_deal s m args below meth c H locs 0 0 (MQ below (mQi D cI B μ0 s.heap.size μr r) args s 0 0 (va_A (mW B cI μ0) s.heap.size)) (F0 m 17 ls []) := by
  have hx := hC.1.1
  have hb := hC.1.2.1
  have hown := hC.1.2.2.2.1
  have hts := hC.1.2.2.2.2
  intro n
  induction n with
  | zero =>
    intro x1 x2 μ H locs ls  hH hl h
    rw [fM_deal_L17] at h
    cases h
  | succ n ih =>
    intro x1 x2 μ H locs ls  hH hl h
    rw [fM_deal_L17] at h
    refine lv_iload_n hx hb dX8_deal_17 rfl (lv_at hl 2 rfl) ?_
    refine lv_iload_n hx hb dX8_deal_18 rfl (lv_at hl 1 rfl) ?_
    refine lv_icmp_ge (tgt := 72) hx hb dX8_deal_19 (by decide) (fun c4 => ?_) (fun c4 => ?_)
    · have h := ite_t c4 h
      exact hk72 x2 μ H locs ls  hH (lv_sub hl [2] rfl) h
    · have h := ite_f c4 h
      refine lv_aload_n hx hb dX8_deal_22 rfl (lv_at hl 0 rfl) ?_
      refine m_get hC hH 0 (by decide) wfX8_7 rfl rfl dX8_deal_23 ?_
      refine lv_iconst (v := 0) hx hb dX8_deal_26 (by decide) ?_
      refine m_ald hC hH (a := 1) rfl rfl (vp_b rfl) dX8_deal_27 ?_
      refine lv_bipush (v := 14) hx hb dX8_deal_28 (by decide) ?_
      refine lv_icmp_ge (tgt := 72) hx hb dX8_deal_30 (by decide) (fun c5 => ?_) (fun c5 => ?_)
      · have h := ite_t c5 h
        exact hk72 x2 μ H locs ls  hH (lv_sub hl [2] rfl) h
      · have h := ite_f c5 h
        refine lv_aload_n hx hb dX8_deal_33 rfl (lv_at hl 0 rfl) ?_
        obtain ⟨r7, μ8, h6, h⟩ := ob2_some h
        refine m_calli (As := []) (rest := []) (cM_drawn l D cI B μ  h6) hC hH hl (cwV 0 hts (gV wmX8_152 wvX8_drawn) rfl rfl rfl hdX8_drawn ⟨Nat.le_of_ble_eq_true rfl, Nat.le_of_ble_eq_true rfl⟩) rfl rfl (Nat.le_of_ble_eq_true rfl) ⟨Nat.zero_le _, Nat.zero_le _⟩ dX8_deal_34 (fun H locs hH => ?_)
        refine lv_bipush (v := 6) hx hb dX8_deal_37 (by decide) ?_
        refine lv_irem hx hb dX8_deal_39 (by decide) ?_
        obtain ⟨v9, e10, h⟩ := bnd_some h
        refine lv_tope e10 ?_
        refine lv_istore_n (lv' := [(3, .int v9), (0, .ref (B 0)), (1, .int x1), (2, .int x2)]) hx hb dX8_deal_40 rfl hl (by decide) rfl (fun ls hl => ?_)
        refine lv_iconst (v := 1) hx hb dX8_deal_41 (by decide) ?_
        refine lv_aload_n hx hb dX8_deal_42 rfl (lv_at hl 1 rfl) ?_
        obtain ⟨r12, μ13, h11, h⟩ := ob2_some h
        refine m_calli (As := []) (rest := [.int (1 : Int32)]) (cM_drawn l D cI B μ8  h11) hC hH hl (cwV 0 hts (gV wmX8_152 wvX8_drawn) rfl rfl rfl hdX8_drawn ⟨Nat.le_of_ble_eq_true rfl, Nat.le_of_ble_eq_true rfl⟩) rfl rfl (Nat.le_of_ble_eq_true rfl) ⟨Nat.zero_le _, Nat.zero_le _⟩ dX8_deal_43 (fun H locs hH => ?_)
        refine lv_bipush (v := 99) hx hb dX8_deal_46 (by decide) ?_
        refine lv_irem hx hb dX8_deal_48 (by decide) ?_
        refine lv_iadd hx hb dX8_deal_49 ?_
        obtain ⟨v14, e15, h⟩ := bnd_some h
        refine lv_tope e15 ?_
        refine lv_istore (lv' := [(4, .int v14), (3, .int v9), (0, .ref (B 0)), (1, .int x1), (2, .int x2)]) hx hb dX8_deal_50 hl (by decide) rfl (fun ls hl => ?_)
        refine lv_aload_n hx hb dX8_deal_52 rfl (lv_at hl 2 rfl) ?_
        refine lv_iload_n hx hb dX8_deal_53 rfl (lv_at hl 1 rfl) ?_
        refine lv_iload hx hb dX8_deal_54 (lv_at hl 0 rfl) ?_
        refine lv_aload_n hx hb dX8_deal_56 rfl (lv_at hl 2 rfl) ?_
        obtain ⟨r17, μ18, h16, h⟩ := ob2_some h
        refine m_calli (As := []) (rest := [.int v14, .int v9, .ref (B 0)]) (cM_drawn l D cI B μ13  h16) hC hH hl (cwV 0 hts (gV wmX8_152 wvX8_drawn) rfl rfl rfl hdX8_drawn ⟨Nat.le_of_ble_eq_true rfl, Nat.le_of_ble_eq_true rfl⟩) rfl rfl (Nat.le_of_ble_eq_true rfl) ⟨Nat.zero_le _, Nat.zero_le _⟩ dX8_deal_57 (fun H locs hH => ?_)
        refine lv_bipush (v := 10) hx hb dX8_deal_60 (by decide) ?_
        refine lv_irem hx hb dX8_deal_62 (by decide) ?_
        obtain ⟨μ20, h19, h⟩ := ob_some h
        refine m_callv (As := [.int v9, .int v14, .int (r17 - r17 / (10 : Int32) * (10 : Int32))]) (rest := []) (cM_comes l D cI B μ18 v9 v14 (r17 - r17 / (10 : Int32) * (10 : Int32)) h19) hC hH hl (cwV 3 hts (gV wmX8_92 wvX8_comes) rfl rfl rfl hdX8_comes ⟨Nat.le_of_ble_eq_true rfl, Nat.le_of_ble_eq_true rfl⟩) rfl rfl (Nat.le_of_ble_eq_true rfl) ⟨Nat.zero_le _, Nat.zero_le _⟩ dX8_deal_63 (fun H locs hH => ?_)
        obtain ⟨v21, e22, h⟩ := bnd_some h
        refine lv_iinc (v := v21) (lv' := [(2, .int v21), (4, .int v14), (3, .int v9), (0, .ref (B 0)), (1, .int x1)]) hx hb dX8_deal_66 hl (k := 4) rfl (by rw [e22]; rfl) (by decide) rfl (fun ls hl => ?_)
        refine lv_goto (tgt := 17) hx hb dX8_deal_69 (by decide) ?_
        exact ih x1 v21 μ20 H locs ls  hH (lv_sub hl [3, 4, 0] rfl) h

def fM_deal (μ0 : MS) (x1 : Int32) : Option (Int32 × MS) :=
  ob (fM_isIn μ0 (x1).toInt64 (1 : Int64) (14 : Int64)) fun r2 =>
  if r2 = 0 then (
    some ((-1000000001 : Int32), μ0))
  else (
    fM_deal_L17 (fun (x2 : Int32) (μ : MS) => some (x2, μ)) 10000 x1 (0 : Int32) μ0)

set_option maxHeartbeats 4000000 in
set_option maxRecDepth 100000 in
theorem cM_deal (l : Launch) (D : va_G) (cI : ClassId) (B : Nat → Nat) (μ0 : MS) (x1 : Int32) {r : Int32} {μr : MS} (h : fM_deal μ0 x1 = some (r, μr)) : ∀ sz, Met l yX8_deal (Cond.code yX8_deal cX8_deal 5 (some .int) :: Tw) rmM_deal (mP D cI B μ0 sz [.ref (B 0), .int x1]) (mQi D cI B μ0 sz μr r) 0 0 (va_A (mW B cI μ0) sz) := by
  intro sz
  refine Met.ofW (cc := cX8_deal) (maxL := 5) (ret := (some .int)) (by decide) rfl ?_
  intro p e s m args below meth c s₁ Bd hml hv
  obtain ⟨hC, hr⟩ := jC_of Bd hml
  obtain ⟨rfl, rfl, hH⟩ := m_enter hv
  have hC : jC p s m _ meth c cX8_deal 5 RX8 := hC
  have hx := hC.1.1
  have hb := hC.1.2.1
  have hown := hC.1.2.2.2.1
  have hts := hC.1.2.2.2.2
  have hl := lv_entry ([.ref (B 0), .int x1]) (n := 5) (Nat.le_of_ble_eq_true rfl)
  rw [lg_entry_eq]
  generalize (lg_sl ([.ref (B 0), .int x1]) ++ List.replicate (5 - (lg_sl ([.ref (B 0), .int x1])).length) Slot.unset).toArray = ls at hl ⊢
  have hl : lv_has ls 5 [(0, .ref (B 0)), (1, .int x1)] := hl
  unfold fM_deal at h
  refine W_nm (fun H locs eH eL => ?_)
  have hH : mH D cI B s (va_A (mW B cI μ0) s.heap.size) μ0 H locs := by rw [eH, eL]; exact hH
  show W p l e rmM_deal s m _ below meth c H locs 0 0 _ (F0 m 0 ls [])
  refine lv_iload_n hx hb dX8_deal_0 rfl (lv_at hl 1 rfl) ?_
  refine lv_i2l hx hb dX8_deal_1 rfl ?_
  refine lv_lconst (v := 1) hx hb dX8_deal_2 (by decide) ?_
  refine lv_ldc2 (v := 14) hx hb hown (hts _ wqX8_150) dX8_deal_3 ?_
  obtain ⟨r2, h1, h⟩ := ob_some h
  refine m_calls (As := [.long (x1).toInt64, .long (1 : Int64), .long (14 : Int64)]) (rest := []) (cM_isIn l D cI B μ0 (x1).toInt64 (1 : Int64) (14 : Int64) h1) hC hH hl (va_cwS 3 hts (gS wmX8_75 wsX8_isIn) rfl rfl rfl hdX8_isIn ⟨Nat.le_of_ble_eq_true rfl, Nat.le_of_ble_eq_true rfl⟩) rfl rfl (Nat.le_of_ble_eq_true rfl) ⟨Nat.zero_le _, Nat.zero_le _⟩ dX8_deal_6 (fun H locs hH => ?_)
  refine lv_if_ne (tgt := 15) hx hb dX8_deal_9 (by decide) (fun c3 => ?_) (fun c3 => ?_)
  · have h := ite_f c3 h
    refine lv_iconst (v := 0) hx hb dX8_deal_15 (by decide) ?_
    refine lv_istore_n (lv' := [(2, .int (0 : Int32)), (0, .ref (B 0)), (1, .int x1)]) hx hb dX8_deal_16 rfl hl (by decide) rfl (fun ls hl => ?_)
    refine wM_deal_L17 hC hr  ?_ 10000 x1 (0 : Int32) μ0 H locs ls  hH (lv_sub hl [1, 2, 0] rfl) h
    intro x2 μ H locs ls  hH hl h
    refine lv_iload_n hx hb dX8_deal_72 rfl (lv_at hl 0 rfl) ?_
    obtain ⟨rfl, rfl⟩ := some_i2 h
    exact m_iret hC hH hr rfl dX8_deal_73
  · have h := ite_t c3 h
    refine lv_ldc (v := -1000000001) hx hb hown (hts _ wkX8_90) dX8_deal_12 ?_
    obtain ⟨rfl, rfl⟩ := some_i2 h
    exact m_iret (v := -1000000001) hC hH hr rfl dX8_deal_14

def rmM_seed : Room := { frames := 1, cells := 0, slots := 0, locals := 23 }
theorem hdX8_seed : yX8_seed.cls = RX8 ∧ yX8_seed.cls ≠ "java/lang/invoke/MethodHandle" ∧ yX8_seed.cls ≠ "java/lang/invoke/VarHandle" ∧ (parseMethodDescriptor yX8_seed.desc).map (fun d => d.parameters.length) = some 1 := by decide +kernel

def fM_seed (μ0 : MS) (x1 : Int32) : Option (Int32 × MS) :=
  ob2 (fM_becomes μ0 (5 : Int32) x1) fun r2 μ3 =>
  some (r2, μ3)

set_option maxHeartbeats 4000000 in
set_option maxRecDepth 100000 in
theorem cM_seed (l : Launch) (D : va_G) (cI : ClassId) (B : Nat → Nat) (μ0 : MS) (x1 : Int32) {r : Int32} {μr : MS} (h : fM_seed μ0 x1 = some (r, μr)) : ∀ sz, Met l yX8_seed (Cond.code yX8_seed cX8_seed 2 (some .int) :: Tw) rmM_seed (mP D cI B μ0 sz [.ref (B 0), .int x1]) (mQi D cI B μ0 sz μr r) 0 0 (va_A (mW B cI μ0) sz) := by
  intro sz
  refine Met.ofW (cc := cX8_seed) (maxL := 2) (ret := (some .int)) (by decide) rfl ?_
  intro p e s m args below meth c s₁ Bd hml hv
  obtain ⟨hC, hr⟩ := jC_of Bd hml
  obtain ⟨rfl, rfl, hH⟩ := m_enter hv
  have hC : jC p s m _ meth c cX8_seed 2 RX8 := hC
  have hx := hC.1.1
  have hb := hC.1.2.1
  have hown := hC.1.2.2.2.1
  have hts := hC.1.2.2.2.2
  have hl := lv_entry ([.ref (B 0), .int x1]) (n := 2) (Nat.le_of_ble_eq_true rfl)
  rw [lg_entry_eq]
  generalize (lg_sl ([.ref (B 0), .int x1]) ++ List.replicate (2 - (lg_sl ([.ref (B 0), .int x1])).length) Slot.unset).toArray = ls at hl ⊢
  have hl : lv_has ls 2 [(0, .ref (B 0)), (1, .int x1)] := hl
  unfold fM_seed at h
  refine W_nm (fun H locs eH eL => ?_)
  have hH : mH D cI B s (va_A (mW B cI μ0) s.heap.size) μ0 H locs := by rw [eH, eL]; exact hH
  show W p l e rmM_seed s m _ below meth c H locs 0 0 _ (F0 m 0 ls [])
  refine lv_aload_n hx hb dX8_seed_0 rfl (lv_at hl 0 rfl) ?_
  refine lv_iconst (v := 5) hx hb dX8_seed_1 (by decide) ?_
  refine lv_iload_n hx hb dX8_seed_2 rfl (lv_at hl 1 rfl) ?_
  obtain ⟨r2, μ3, h1, h⟩ := ob2_some h
  refine m_calli (As := [.int (5 : Int32), .int x1]) (rest := []) (cM_becomes l D cI B μ0 (5 : Int32) x1 h1) hC hH hl (cwV 2 hts (gV wmX8_133 wvX8_becomes) rfl rfl rfl hdX8_becomes ⟨Nat.le_of_ble_eq_true rfl, Nat.le_of_ble_eq_true rfl⟩) rfl rfl (Nat.le_of_ble_eq_true rfl) ⟨Nat.zero_le _, Nat.zero_le _⟩ dX8_seed_3 (fun H locs hH => ?_)
  obtain ⟨rfl, rfl⟩ := some_i2 h
  exact m_iret hC hH hr rfl dX8_seed_6

def rmM_climbs : Room := { frames := 4, cells := 0, slots := 0, locals := 96 }
theorem hdX8_climbs : yX8_climbs.cls = RX8 ∧ yX8_climbs.cls ≠ "java/lang/invoke/MethodHandle" ∧ yX8_climbs.cls ≠ "java/lang/invoke/VarHandle" ∧ (parseMethodDescriptor yX8_climbs.desc).map (fun d => d.parameters.length) = some 1 := by decide +kernel

def fM_climbs (μ0 : MS) (x1 : Int32) : Option (Int32 × MS) :=
  ck ((6 : Int32) + x1) (3076) <|
  bnd (μ0 1 (((6 : Int32) + x1)).toNatClampNeg) fun v2 =>
  ck (((6 : Int32) + x1) + (1 : Int32)) (3076) <|
  bnd (μ0 1 ((((6 : Int32) + x1) + (1 : Int32))).toNatClampNeg) fun v5 =>
  ob2 (fM_rises μ0 v5) fun r8 μ9 =>
  ob2 (fM_rises μ9 v2) fun r11 μ12 =>
  ob (fM_grips μ12 v5) fun r14 =>
  ob (fM_grips μ12 v2) fun r16 =>
  if (r8 - r11) ≤ (r14 + r16) then (
    some ((0 : Int32), μ12))
  else (
    some ((1 : Int32), μ12))

set_option maxHeartbeats 4000000 in
set_option maxRecDepth 100000 in
theorem cM_climbs (l : Launch) (D : va_G) (cI : ClassId) (B : Nat → Nat) (μ0 : MS) (x1 : Int32) {r : Int32} {μr : MS} (h : fM_climbs μ0 x1 = some (r, μr)) : ∀ sz, Met l yX8_climbs (Cond.code yX8_climbs cX8_climbs 4 (some .boolean) :: Tw) rmM_climbs (mP D cI B μ0 sz [.ref (B 0), .int x1]) (mQi D cI B μ0 sz μr r) 0 0 (va_A (mW B cI μ0) sz) := by
  intro sz
  refine Met.ofW (cc := cX8_climbs) (maxL := 4) (ret := (some .boolean)) (by decide) rfl ?_
  intro p e s m args below meth c s₁ Bd hml hv
  obtain ⟨hC, hr⟩ := jC_of Bd hml
  obtain ⟨rfl, rfl, hH⟩ := m_enter hv
  have hC : jC p s m _ meth c cX8_climbs 4 RX8 := hC
  have hx := hC.1.1
  have hb := hC.1.2.1
  have hown := hC.1.2.2.2.1
  have hts := hC.1.2.2.2.2
  have hl := lv_entry ([.ref (B 0), .int x1]) (n := 4) (Nat.le_of_ble_eq_true rfl)
  rw [lg_entry_eq]
  generalize (lg_sl ([.ref (B 0), .int x1]) ++ List.replicate (4 - (lg_sl ([.ref (B 0), .int x1])).length) Slot.unset).toArray = ls at hl ⊢
  have hl : lv_has ls 4 [(0, .ref (B 0)), (1, .int x1)] := hl
  unfold fM_climbs at h
  refine W_nm (fun H locs eH eL => ?_)
  have hH : mH D cI B s (va_A (mW B cI μ0) s.heap.size) μ0 H locs := by rw [eH, eL]; exact hH
  show W p l e rmM_climbs s m _ below meth c H locs 0 0 _ (F0 m 0 ls [])
  refine lv_aload_n hx hb dX8_climbs_0 rfl (lv_at hl 0 rfl) ?_
  refine m_get hC hH 0 (by decide) wfX8_7 rfl rfl dX8_climbs_1 ?_
  refine lv_bipush (v := 6) hx hb dX8_climbs_4 (by decide) ?_
  refine lv_iload_n hx hb dX8_climbs_6 rfl (lv_at hl 1 rfl) ?_
  refine lv_iadd hx hb dX8_climbs_7 ?_
  obtain ⟨i1, h⟩ := ck_some h
  refine m_ald hC hH (a := 1) rfl rfl i1 dX8_climbs_8 ?_
  obtain ⟨v2, e3, h⟩ := bnd_some h
  refine lv_tope e3 ?_
  refine lv_istore_n (lv' := [(2, .int v2), (0, .ref (B 0)), (1, .int x1)]) hx hb dX8_climbs_9 rfl hl (by decide) rfl (fun ls hl => ?_)
  refine lv_aload_n hx hb dX8_climbs_10 rfl (lv_at hl 1 rfl) ?_
  refine m_get hC hH 0 (by decide) wfX8_7 rfl rfl dX8_climbs_11 ?_
  refine lv_bipush (v := 6) hx hb dX8_climbs_14 (by decide) ?_
  refine lv_iload_n hx hb dX8_climbs_16 rfl (lv_at hl 2 rfl) ?_
  refine lv_iadd hx hb dX8_climbs_17 ?_
  refine lv_iconst (v := 1) hx hb dX8_climbs_18 (by decide) ?_
  refine lv_iadd hx hb dX8_climbs_19 ?_
  obtain ⟨i4, h⟩ := ck_some h
  refine m_ald hC hH (a := 1) rfl rfl i4 dX8_climbs_20 ?_
  obtain ⟨v5, e6, h⟩ := bnd_some h
  refine lv_tope e6 ?_
  refine lv_istore_n (lv' := [(3, .int v5), (2, .int v2), (0, .ref (B 0)), (1, .int x1)]) hx hb dX8_climbs_21 rfl hl (by decide) rfl (fun ls hl => ?_)
  refine lv_aload_n hx hb dX8_climbs_22 rfl (lv_at hl 2 rfl) ?_
  refine lv_iload_n hx hb dX8_climbs_23 rfl (lv_at hl 0 rfl) ?_
  obtain ⟨r8, μ9, h7, h⟩ := ob2_some h
  refine m_calli (As := [.int v5]) (rest := []) (cM_rises l D cI B μ0 v5 h7) hC hH hl (cwV 1 hts (gV wmX8_119 wvX8_rises) rfl rfl rfl hdX8_rises ⟨Nat.le_of_ble_eq_true rfl, Nat.le_of_ble_eq_true rfl⟩) rfl rfl (Nat.le_of_ble_eq_true rfl) ⟨Nat.zero_le _, Nat.zero_le _⟩ dX8_climbs_24 (fun H locs hH => ?_)
  refine lv_aload_n hx hb dX8_climbs_27 rfl (lv_at hl 2 rfl) ?_
  refine lv_iload_n hx hb dX8_climbs_28 rfl (lv_at hl 1 rfl) ?_
  obtain ⟨r11, μ12, h10, h⟩ := ob2_some h
  refine m_calli (As := [.int v2]) (rest := [.int r8]) (cM_rises l D cI B μ9 v2 h10) hC hH hl (cwV 1 hts (gV wmX8_119 wvX8_rises) rfl rfl rfl hdX8_rises ⟨Nat.le_of_ble_eq_true rfl, Nat.le_of_ble_eq_true rfl⟩) rfl rfl (Nat.le_of_ble_eq_true rfl) ⟨Nat.zero_le _, Nat.zero_le _⟩ dX8_climbs_29 (fun H locs hH => ?_)
  refine lv_isub hx hb dX8_climbs_32 ?_
  refine lv_aload_n hx hb dX8_climbs_33 rfl (lv_at hl 2 rfl) ?_
  refine lv_iload_n hx hb dX8_climbs_34 rfl (lv_at hl 0 rfl) ?_
  obtain ⟨r14, h13, h⟩ := ob_some h
  refine m_calli (As := [.int v5]) (rest := [.int (r8 - r11)]) (cM_grips l D cI B μ12 v5 h13) hC hH hl (cwV 1 hts (gV wmX8_122 wvX8_grips) rfl rfl rfl hdX8_grips ⟨Nat.le_of_ble_eq_true rfl, Nat.le_of_ble_eq_true rfl⟩) rfl rfl (Nat.le_of_ble_eq_true rfl) ⟨Nat.zero_le _, Nat.zero_le _⟩ dX8_climbs_35 (fun H locs hH => ?_)
  refine lv_aload_n hx hb dX8_climbs_38 rfl (lv_at hl 2 rfl) ?_
  refine lv_iload_n hx hb dX8_climbs_39 rfl (lv_at hl 1 rfl) ?_
  obtain ⟨r16, h15, h⟩ := ob_some h
  refine m_calli (As := [.int v2]) (rest := [.int r14, .int (r8 - r11)]) (cM_grips l D cI B μ12 v2 h15) hC hH hl (cwV 1 hts (gV wmX8_122 wvX8_grips) rfl rfl rfl hdX8_grips ⟨Nat.le_of_ble_eq_true rfl, Nat.le_of_ble_eq_true rfl⟩) rfl rfl (Nat.le_of_ble_eq_true rfl) ⟨Nat.zero_le _, Nat.zero_le _⟩ dX8_climbs_40 (fun H locs hH => ?_)
  refine lv_iadd hx hb dX8_climbs_43 ?_
  refine lv_icmp_le (tgt := 51) hx hb dX8_climbs_44 (by decide) (fun c17 => ?_) (fun c17 => ?_)
  · have h := ite_t c17 h
    refine lv_iconst (v := 0) hx hb dX8_climbs_51 (by decide) ?_
    obtain ⟨rfl, rfl⟩ := some_i2 h
    exact m_iret (v := 0) hC hH hr (by decide) dX8_climbs_52
  · have h := ite_f c17 h
    refine lv_iconst (v := 1) hx hb dX8_climbs_47 (by decide) ?_
    refine lv_goto (tgt := 52) hx hb dX8_climbs_48 (by decide) ?_
    obtain ⟨rfl, rfl⟩ := some_i2 h
    exact m_iret (v := 1) hC hH hr (by decide) dX8_climbs_52

def rmM_goesOn : Room := { frames := 5, cells := 0, slots := 0, locals := 119 }
theorem hdX8_goesOn : yX8_goesOn.cls = RX8 ∧ yX8_goesOn.cls ≠ "java/lang/invoke/MethodHandle" ∧ yX8_goesOn.cls ≠ "java/lang/invoke/VarHandle" ∧ (parseMethodDescriptor yX8_goesOn.desc).map (fun d => d.parameters.length) = some 0 := by decide +kernel

def fM_goesOn_L9 (k117 : MS → Option (MS)) : Nat → Int32 → MS → Option (MS)
  | 0, _, _ => none
  | n + 1, x1, μ =>
    if (μ 1 0) ≤ (x1 + (1 : Int32)) then (
      k117 μ)
    else (
      ob2 (fM_climbs μ x1) fun r5 μ6 =>
      if r5 = 0 then (
        bnd (x1 + (2 : Int32)) fun v8 =>
        (fM_goesOn_L9 k117 n) v8 μ6)
      else (
        ob (fM_swaps μ6 x1 (x1 + (1 : Int32))) fun μ11 =>
        ck ((6 : Int32) + x1) (3076) <|
        ck ((6 : Int32) + x1) (3076) <|
        ob (fM_of μ11 (μ11 1 (((6 : Int32) + x1)).toNatClampNeg) (3 : Int32)) fun r15 =>
        ob (fM_sets μ11 (μ11 1 (((6 : Int32) + x1)).toNatClampNeg) (3 : Int32) (r15 + (1 : Int32))) fun μ17 =>
        ck (((6 : Int32) + x1) + (1 : Int32)) (3076) <|
        ck (((6 : Int32) + x1) + (1 : Int32)) (3076) <|
        ob (fM_of μ17 (μ17 1 ((((6 : Int32) + x1) + (1 : Int32))).toNatClampNeg) (3 : Int32)) fun r21 =>
        ob (fM_sets μ17 (μ17 1 ((((6 : Int32) + x1) + (1 : Int32))).toNatClampNeg) (3 : Int32) (r21 + (1 : Int32))) fun μ23 =>
        bnd (up2 μ23 1 3 ((μ23 1 3) + (1 : Int32))) fun μ24 =>
        bnd (x1 + (2 : Int32)) fun v26 =>
        (fM_goesOn_L9 k117 n) v26 μ24))

set_option maxHeartbeats 4000000 in
set_option maxRecDepth 100000 in
theorem wM_goesOn_L9 {p : Program} {l : Launch} {e : Env} {s : State} {m : MethodId} {args : Array Value} {below : List Frame} {meth : Method} {c : Code} {D : va_G} {cI : ClassId} {B : Nat → Nat} {μ0 : MS} {μr : MS} (hC : jC p s m args meth c cX8_goesOn 2 RX8) (hr : meth.sig.returnType = none) {k117 : MS → Option (MS)} (hk117 : ∀ (μ : MS) (H : Heap) (locs : List Loc) (ls : Array Slot), mH D cI B s (va_A (mW B cI μ0) s.heap.size) μ H locs → lv_has ls 2 [(0, .ref (B 0))] → k117 μ = some μr → W p l e rmM_goesOn s m args below meth c H locs 0 0 (MQ below (mQv D cI B μ0 s.heap.size μr) args s 0 0 (va_A (mW B cI μ0) s.heap.size)) (F0 m 117 ls [])) : ∀ (n : Nat) (x1 : Int32) (μ : MS) (H : Heap) (locs : List Loc) (ls : Array Slot), mH D cI B s (va_A (mW B cI μ0) s.heap.size) μ H locs → lv_has ls 2 [(0, .ref (B 0)), (1, .int x1)] → fM_goesOn_L9 k117 n x1 μ = some μr → W p l e rmM_goesOn s m args below meth c H locs 0 0 (MQ below (mQv D cI B μ0 s.heap.size μr) args s 0 0 (va_A (mW B cI μ0) s.heap.size)) (F0 m 9 ls []) := by
  have hx := hC.1.1
  have hb := hC.1.2.1
  have hown := hC.1.2.2.2.1
  have hts := hC.1.2.2.2.2
  intro n
  induction n with
  | zero =>
    intro x1 μ H locs ls  hH hl h
    rw [fM_goesOn_L9] at h
    cases h
  | succ n ih =>
    intro x1 μ H locs ls  hH hl h
    rw [fM_goesOn_L9] at h
    refine lv_iload_n hx hb dX8_goesOn_9 rfl (lv_at hl 1 rfl) ?_
    refine lv_iconst (v := 1) hx hb dX8_goesOn_10 (by decide) ?_
    refine lv_iadd hx hb dX8_goesOn_11 ?_
    refine lv_aload_n hx hb dX8_goesOn_12 rfl (lv_at hl 0 rfl) ?_
    refine m_get hC hH 0 (by decide) wfX8_7 rfl rfl dX8_goesOn_13 ?_
    refine lv_iconst (v := 0) hx hb dX8_goesOn_16 (by decide) ?_
    refine m_ald hC hH (a := 1) rfl rfl (vp_b rfl) dX8_goesOn_17 ?_
    refine lv_icmp_ge (tgt := 117) hx hb dX8_goesOn_18 (by decide) (fun c3 => ?_) (fun c3 => ?_)
    · have h := ite_t c3 h
      exact hk117 μ H locs ls  hH (lv_sub hl [0] rfl) h
    · have h := ite_f c3 h
      refine lv_aload_n hx hb dX8_goesOn_21 rfl (lv_at hl 0 rfl) ?_
      refine lv_iload_n hx hb dX8_goesOn_22 rfl (lv_at hl 1 rfl) ?_
      obtain ⟨r5, μ6, h4, h⟩ := ob2_some h
      refine m_calli (As := [.int x1]) (rest := []) (cM_climbs l D cI B μ x1 h4) hC hH hl (cwV 1 hts (gV wmX8_156 wvX8_climbs) rfl rfl rfl hdX8_climbs ⟨Nat.le_of_ble_eq_true rfl, Nat.le_of_ble_eq_true rfl⟩) rfl rfl (Nat.le_of_ble_eq_true rfl) ⟨Nat.zero_le _, Nat.zero_le _⟩ dX8_goesOn_23 (fun H locs hH => ?_)
      refine lv_if_eq (tgt := 111) hx hb dX8_goesOn_26 (by decide) (fun c7 => ?_) (fun c7 => ?_)
      · have h := ite_t c7 h
        obtain ⟨v8, e9, h⟩ := bnd_some h
        refine lv_iinc (v := v8) (lv' := [(1, .int v8), (0, .ref (B 0))]) hx hb dX8_goesOn_111 hl (k := 1) rfl (by rw [e9]; rfl) (by decide) rfl (fun ls hl => ?_)
        refine lv_goto (tgt := 9) hx hb dX8_goesOn_114 (by decide) ?_
        exact ih v8 μ6 H locs ls  hH (lv_sub hl [1, 0] rfl) h
      · have h := ite_f c7 h
        refine lv_aload_n hx hb dX8_goesOn_29 rfl (lv_at hl 0 rfl) ?_
        refine lv_iload_n hx hb dX8_goesOn_30 rfl (lv_at hl 1 rfl) ?_
        refine lv_iload_n hx hb dX8_goesOn_31 rfl (lv_at hl 1 rfl) ?_
        refine lv_iconst (v := 1) hx hb dX8_goesOn_32 (by decide) ?_
        refine lv_iadd hx hb dX8_goesOn_33 ?_
        obtain ⟨μ11, h10, h⟩ := ob_some h
        refine m_callv (As := [.int x1, .int (x1 + (1 : Int32))]) (rest := []) (cM_swaps l D cI B μ6 x1 (x1 + (1 : Int32)) h10) hC hH hl (cwV 2 hts (gV wmX8_142 wvX8_swaps) rfl rfl rfl hdX8_swaps ⟨Nat.le_of_ble_eq_true rfl, Nat.le_of_ble_eq_true rfl⟩) rfl rfl (Nat.le_of_ble_eq_true rfl) ⟨Nat.zero_le _, Nat.zero_le _⟩ dX8_goesOn_34 (fun H locs hH => ?_)
        refine lv_aload_n hx hb dX8_goesOn_37 rfl (lv_at hl 0 rfl) ?_
        refine lv_aload_n hx hb dX8_goesOn_38 rfl (lv_at hl 0 rfl) ?_
        refine m_get hC hH 0 (by decide) wfX8_7 rfl rfl dX8_goesOn_39 ?_
        refine lv_bipush (v := 6) hx hb dX8_goesOn_42 (by decide) ?_
        refine lv_iload_n hx hb dX8_goesOn_44 rfl (lv_at hl 1 rfl) ?_
        refine lv_iadd hx hb dX8_goesOn_45 ?_
        obtain ⟨i12, h⟩ := ck_some h
        refine m_ald hC hH (a := 1) rfl rfl i12 dX8_goesOn_46 ?_
        refine lv_iconst (v := 3) hx hb dX8_goesOn_47 (by decide) ?_
        refine lv_aload_n hx hb dX8_goesOn_48 rfl (lv_at hl 0 rfl) ?_
        refine lv_aload_n hx hb dX8_goesOn_49 rfl (lv_at hl 0 rfl) ?_
        refine m_get hC hH 0 (by decide) wfX8_7 rfl rfl dX8_goesOn_50 ?_
        refine lv_bipush (v := 6) hx hb dX8_goesOn_53 (by decide) ?_
        refine lv_iload_n hx hb dX8_goesOn_55 rfl (lv_at hl 1 rfl) ?_
        refine lv_iadd hx hb dX8_goesOn_56 ?_
        obtain ⟨i13, h⟩ := ck_some h
        refine m_ald hC hH (a := 1) rfl rfl i13 dX8_goesOn_57 ?_
        refine lv_iconst (v := 3) hx hb dX8_goesOn_58 (by decide) ?_
        obtain ⟨r15, h14, h⟩ := ob_some h
        refine m_calli (As := [.int (μ11 1 (((6 : Int32) + x1)).toNatClampNeg), .int (3 : Int32)]) (rest := [.int (3 : Int32), .int (μ11 1 (((6 : Int32) + x1)).toNatClampNeg), .ref (B 0)]) (cM_of l D cI B μ11 (μ11 1 (((6 : Int32) + x1)).toNatClampNeg) (3 : Int32) h14) hC hH hl (cwV 2 hts (gV wmX8_99 wvX8_of) rfl rfl rfl hdX8_of ⟨Nat.le_of_ble_eq_true rfl, Nat.le_of_ble_eq_true rfl⟩) rfl rfl (Nat.le_of_ble_eq_true rfl) ⟨Nat.zero_le _, Nat.zero_le _⟩ dX8_goesOn_59 (fun H locs hH => ?_)
        refine lv_iconst (v := 1) hx hb dX8_goesOn_62 (by decide) ?_
        refine lv_iadd hx hb dX8_goesOn_63 ?_
        obtain ⟨μ17, h16, h⟩ := ob_some h
        refine m_callv (As := [.int (μ11 1 (((6 : Int32) + x1)).toNatClampNeg), .int (3 : Int32), .int (r15 + (1 : Int32))]) (rest := []) (cM_sets l D cI B μ11 (μ11 1 (((6 : Int32) + x1)).toNatClampNeg) (3 : Int32) (r15 + (1 : Int32)) h16) hC hH hl (cwV 3 hts (gV wmX8_80 wvX8_sets) rfl rfl rfl hdX8_sets ⟨Nat.le_of_ble_eq_true rfl, Nat.le_of_ble_eq_true rfl⟩) rfl rfl (Nat.le_of_ble_eq_true rfl) ⟨Nat.zero_le _, Nat.zero_le _⟩ dX8_goesOn_64 (fun H locs hH => ?_)
        refine lv_aload_n hx hb dX8_goesOn_67 rfl (lv_at hl 0 rfl) ?_
        refine lv_aload_n hx hb dX8_goesOn_68 rfl (lv_at hl 0 rfl) ?_
        refine m_get hC hH 0 (by decide) wfX8_7 rfl rfl dX8_goesOn_69 ?_
        refine lv_bipush (v := 6) hx hb dX8_goesOn_72 (by decide) ?_
        refine lv_iload_n hx hb dX8_goesOn_74 rfl (lv_at hl 1 rfl) ?_
        refine lv_iadd hx hb dX8_goesOn_75 ?_
        refine lv_iconst (v := 1) hx hb dX8_goesOn_76 (by decide) ?_
        refine lv_iadd hx hb dX8_goesOn_77 ?_
        obtain ⟨i18, h⟩ := ck_some h
        refine m_ald hC hH (a := 1) rfl rfl i18 dX8_goesOn_78 ?_
        refine lv_iconst (v := 3) hx hb dX8_goesOn_79 (by decide) ?_
        refine lv_aload_n hx hb dX8_goesOn_80 rfl (lv_at hl 0 rfl) ?_
        refine lv_aload_n hx hb dX8_goesOn_81 rfl (lv_at hl 0 rfl) ?_
        refine m_get hC hH 0 (by decide) wfX8_7 rfl rfl dX8_goesOn_82 ?_
        refine lv_bipush (v := 6) hx hb dX8_goesOn_85 (by decide) ?_
        refine lv_iload_n hx hb dX8_goesOn_87 rfl (lv_at hl 1 rfl) ?_
        refine lv_iadd hx hb dX8_goesOn_88 ?_
        refine lv_iconst (v := 1) hx hb dX8_goesOn_89 (by decide) ?_
        refine lv_iadd hx hb dX8_goesOn_90 ?_
        obtain ⟨i19, h⟩ := ck_some h
        refine m_ald hC hH (a := 1) rfl rfl i19 dX8_goesOn_91 ?_
        refine lv_iconst (v := 3) hx hb dX8_goesOn_92 (by decide) ?_
        obtain ⟨r21, h20, h⟩ := ob_some h
        refine m_calli (As := [.int (μ17 1 ((((6 : Int32) + x1) + (1 : Int32))).toNatClampNeg), .int (3 : Int32)]) (rest := [.int (3 : Int32), .int (μ17 1 ((((6 : Int32) + x1) + (1 : Int32))).toNatClampNeg), .ref (B 0)]) (cM_of l D cI B μ17 (μ17 1 ((((6 : Int32) + x1) + (1 : Int32))).toNatClampNeg) (3 : Int32) h20) hC hH hl (cwV 2 hts (gV wmX8_99 wvX8_of) rfl rfl rfl hdX8_of ⟨Nat.le_of_ble_eq_true rfl, Nat.le_of_ble_eq_true rfl⟩) rfl rfl (Nat.le_of_ble_eq_true rfl) ⟨Nat.zero_le _, Nat.zero_le _⟩ dX8_goesOn_93 (fun H locs hH => ?_)
        refine lv_iconst (v := 1) hx hb dX8_goesOn_96 (by decide) ?_
        refine lv_iadd hx hb dX8_goesOn_97 ?_
        obtain ⟨μ23, h22, h⟩ := ob_some h
        refine m_callv (As := [.int (μ17 1 ((((6 : Int32) + x1) + (1 : Int32))).toNatClampNeg), .int (3 : Int32), .int (r21 + (1 : Int32))]) (rest := []) (cM_sets l D cI B μ17 (μ17 1 ((((6 : Int32) + x1) + (1 : Int32))).toNatClampNeg) (3 : Int32) (r21 + (1 : Int32)) h22) hC hH hl (cwV 3 hts (gV wmX8_80 wvX8_sets) rfl rfl rfl hdX8_sets ⟨Nat.le_of_ble_eq_true rfl, Nat.le_of_ble_eq_true rfl⟩) rfl rfl (Nat.le_of_ble_eq_true rfl) ⟨Nat.zero_le _, Nat.zero_le _⟩ dX8_goesOn_98 (fun H locs hH => ?_)
        refine lv_aload_n hx hb dX8_goesOn_101 rfl (lv_at hl 0 rfl) ?_
        refine m_get hC hH 0 (by decide) wfX8_7 rfl rfl dX8_goesOn_102 ?_
        refine lv_iconst (v := 3) hx hb dX8_goesOn_105 (by decide) ?_
        refine lv_dup2_11 hx hb dX8_goesOn_106 rfl rfl ?_
        refine m_ald hC hH (a := 1) rfl rfl (vp_b rfl) dX8_goesOn_107 ?_
        refine lv_iconst (v := 1) hx hb dX8_goesOn_108 (by decide) ?_
        refine lv_iadd hx hb dX8_goesOn_109 ?_
        obtain ⟨μ24, e25, h⟩ := bnd_some h
        refine m_ast hC hH (a := 1) rfl rfl e25 (vp_b rfl) dX8_goesOn_110 (fun H locs hH => ?_)
        obtain ⟨v26, e27, h⟩ := bnd_some h
        refine lv_iinc (v := v26) (lv' := [(1, .int v26), (0, .ref (B 0))]) hx hb dX8_goesOn_111 hl (k := 1) rfl (by rw [e27]; rfl) (by decide) rfl (fun ls hl => ?_)
        refine lv_goto (tgt := 9) hx hb dX8_goesOn_114 (by decide) ?_
        exact ih v26 μ24 H locs ls  hH (lv_sub hl [1, 0] rfl) h

def fM_goesOn_J158 (μ : MS) : Option (MS) :=
  bnd (up2 μ 1 2 ((μ 1 2) + (1 : Int32))) fun μ29 =>
  some μ29

set_option maxHeartbeats 4000000 in
set_option maxRecDepth 100000 in
theorem wM_goesOn_J158 {p : Program} {l : Launch} {e : Env} {s : State} {m : MethodId} {args : Array Value} {below : List Frame} {meth : Method} {c : Code} {D : va_G} {cI : ClassId} {B : Nat → Nat} {μ0 : MS} {μr : MS} (hC : jC p s m args meth c cX8_goesOn 2 RX8) (hr : meth.sig.returnType = none) (μ : MS) (H : Heap) (locs : List Loc) (ls : Array Slot) (hH : mH D cI B s (va_A (mW B cI μ0) s.heap.size) μ H locs) (hl : lv_has ls 2 [(0, .ref (B 0))]) (h : fM_goesOn_J158 μ = some μr) : W p l e rmM_goesOn s m args below meth c H locs 0 0 (MQ below (mQv D cI B μ0 s.heap.size μr) args s 0 0 (va_A (mW B cI μ0) s.heap.size)) (F0 m 158 ls []) := by
  have hx := hC.1.1
  have hb := hC.1.2.1
  have hown := hC.1.2.2.2.1
  have hts := hC.1.2.2.2.2
  unfold fM_goesOn_J158 at h
  refine lv_aload_n hx hb dX8_goesOn_158 rfl (lv_at hl 0 rfl) ?_
  refine m_get hC hH 0 (by decide) wfX8_7 rfl rfl dX8_goesOn_159 ?_
  refine lv_iconst (v := 2) hx hb dX8_goesOn_162 (by decide) ?_
  refine lv_dup2_11 hx hb dX8_goesOn_163 rfl rfl ?_
  refine m_ald hC hH (a := 1) rfl rfl (vp_b rfl) dX8_goesOn_164 ?_
  refine lv_iconst (v := 1) hx hb dX8_goesOn_165 (by decide) ?_
  refine lv_iadd hx hb dX8_goesOn_166 ?_
  obtain ⟨μ29, e30, h⟩ := bnd_some h
  refine m_ast hC hH (a := 1) rfl rfl e30 (vp_b rfl) dX8_goesOn_167 (fun H locs hH => ?_)
  obtain rfl := some_i1 h
  exact m_vret hC hH hr dX8_goesOn_168

def fM_goesOn (μ0 : MS) : Option (MS) :=
  bnd ((μ0 1 2) - (μ0 1 2) / (2 : Int32) * (2 : Int32)) fun v1 =>
  fM_goesOn_L9 (fun (μ : MS) => if (μ 1 0) ≤ 0 then (
      fM_goesOn_J158 μ)
    else (
      ob2 (fM_drawn μ) fun r32 μ33 =>
      if (μ33 1 4) ≤ (r32 - r32 / (100 : Int32) * (100 : Int32)) then (
        fM_goesOn_J158 μ33)
      else (
        ob2 (fM_drawn μ33) fun r36 μ37 =>
        nz (μ37 1 0) <|
        ob (fM_goesTo μ37 (r36 - r36 / (μ37 1 0) * (μ37 1 0)) (0 : Int32)) fun μ40 =>
        fM_goesOn_J158 μ40))) 10000 v1 μ0

set_option maxHeartbeats 4000000 in
set_option maxRecDepth 100000 in
theorem cM_goesOn (l : Launch) (D : va_G) (cI : ClassId) (B : Nat → Nat) (μ0 : MS) {μr : MS} (h : fM_goesOn μ0 = some μr) : ∀ sz, Met l yX8_goesOn (Cond.code yX8_goesOn cX8_goesOn 2 none :: Tw) rmM_goesOn (mP D cI B μ0 sz [.ref (B 0)]) (mQv D cI B μ0 sz μr) 0 0 (va_A (mW B cI μ0) sz) := by
  intro sz
  refine Met.ofW (cc := cX8_goesOn) (maxL := 2) (ret := (none)) (by decide) rfl ?_
  intro p e s m args below meth c s₁ Bd hml hv
  obtain ⟨hC, hr⟩ := jC_of Bd hml
  obtain ⟨rfl, rfl, hH⟩ := m_enter hv
  have hC : jC p s m _ meth c cX8_goesOn 2 RX8 := hC
  have hx := hC.1.1
  have hb := hC.1.2.1
  have hown := hC.1.2.2.2.1
  have hts := hC.1.2.2.2.2
  have hl := lv_entry ([.ref (B 0)]) (n := 2) (Nat.le_of_ble_eq_true rfl)
  rw [lg_entry_eq]
  generalize (lg_sl ([.ref (B 0)]) ++ List.replicate (2 - (lg_sl ([.ref (B 0)])).length) Slot.unset).toArray = ls at hl ⊢
  have hl : lv_has ls 2 [(0, .ref (B 0))] := hl
  unfold fM_goesOn at h
  refine W_nm (fun H locs eH eL => ?_)
  have hH : mH D cI B s (va_A (mW B cI μ0) s.heap.size) μ0 H locs := by rw [eH, eL]; exact hH
  show W p l e rmM_goesOn s m _ below meth c H locs 0 0 _ (F0 m 0 ls [])
  refine lv_aload_n hx hb dX8_goesOn_0 rfl (lv_at hl 0 rfl) ?_
  refine m_get hC hH 0 (by decide) wfX8_7 rfl rfl dX8_goesOn_1 ?_
  refine lv_iconst (v := 2) hx hb dX8_goesOn_4 (by decide) ?_
  refine m_ald hC hH (a := 1) rfl rfl (vp_b rfl) dX8_goesOn_5 ?_
  refine lv_iconst (v := 2) hx hb dX8_goesOn_6 (by decide) ?_
  refine lv_irem hx hb dX8_goesOn_7 (by decide) ?_
  obtain ⟨v1, e2, h⟩ := bnd_some h
  refine lv_tope e2 ?_
  refine lv_istore_n (lv' := [(1, .int v1), (0, .ref (B 0))]) hx hb dX8_goesOn_8 rfl hl (by decide) rfl (fun ls hl => ?_)
  refine wM_goesOn_L9 hC hr  ?_ 10000 v1 μ0 H locs ls  hH (lv_sub hl [1, 0] rfl) h
  intro μ H locs ls  hH hl h
  refine lv_aload_n hx hb dX8_goesOn_117 rfl (lv_at hl 0 rfl) ?_
  refine m_get hC hH 0 (by decide) wfX8_7 rfl rfl dX8_goesOn_118 ?_
  refine lv_iconst (v := 0) hx hb dX8_goesOn_121 (by decide) ?_
  refine m_ald hC hH (a := 1) rfl rfl (vp_b rfl) dX8_goesOn_122 ?_
  refine lv_if_le (tgt := 158) hx hb dX8_goesOn_123 (by decide) (fun c28 => ?_) (fun c28 => ?_)
  · have h := ite_t c28 h
    exact wM_goesOn_J158 hC hr  μ H locs ls  hH hl h
  · have h := ite_f c28 h
    refine lv_aload_n hx hb dX8_goesOn_126 rfl (lv_at hl 0 rfl) ?_
    obtain ⟨r32, μ33, h31, h⟩ := ob2_some h
    refine m_calli (As := []) (rest := []) (cM_drawn l D cI B μ  h31) hC hH hl (cwV 0 hts (gV wmX8_152 wvX8_drawn) rfl rfl rfl hdX8_drawn ⟨Nat.le_of_ble_eq_true rfl, Nat.le_of_ble_eq_true rfl⟩) rfl rfl (Nat.le_of_ble_eq_true rfl) ⟨Nat.zero_le _, Nat.zero_le _⟩ dX8_goesOn_127 (fun H locs hH => ?_)
    refine lv_bipush (v := 100) hx hb dX8_goesOn_130 (by decide) ?_
    refine lv_irem hx hb dX8_goesOn_132 (by decide) ?_
    refine lv_aload_n hx hb dX8_goesOn_133 rfl (lv_at hl 0 rfl) ?_
    refine m_get hC hH 0 (by decide) wfX8_7 rfl rfl dX8_goesOn_134 ?_
    refine lv_iconst (v := 4) hx hb dX8_goesOn_137 (by decide) ?_
    refine m_ald hC hH (a := 1) rfl rfl (vp_b rfl) dX8_goesOn_138 ?_
    refine lv_icmp_ge (tgt := 158) hx hb dX8_goesOn_139 (by decide) (fun c34 => ?_) (fun c34 => ?_)
    · have h := ite_t c34 h
      exact wM_goesOn_J158 hC hr  μ33 H locs ls  hH hl h
    · have h := ite_f c34 h
      refine lv_aload_n hx hb dX8_goesOn_142 rfl (lv_at hl 0 rfl) ?_
      refine lv_aload_n hx hb dX8_goesOn_143 rfl (lv_at hl 0 rfl) ?_
      obtain ⟨r36, μ37, h35, h⟩ := ob2_some h
      refine m_calli (As := []) (rest := [.ref (B 0)]) (cM_drawn l D cI B μ33  h35) hC hH hl (cwV 0 hts (gV wmX8_152 wvX8_drawn) rfl rfl rfl hdX8_drawn ⟨Nat.le_of_ble_eq_true rfl, Nat.le_of_ble_eq_true rfl⟩) rfl rfl (Nat.le_of_ble_eq_true rfl) ⟨Nat.zero_le _, Nat.zero_le _⟩ dX8_goesOn_144 (fun H locs hH => ?_)
      refine lv_aload_n hx hb dX8_goesOn_147 rfl (lv_at hl 0 rfl) ?_
      refine m_get hC hH 0 (by decide) wfX8_7 rfl rfl dX8_goesOn_148 ?_
      refine lv_iconst (v := 0) hx hb dX8_goesOn_151 (by decide) ?_
      refine m_ald hC hH (a := 1) rfl rfl (vp_b rfl) dX8_goesOn_152 ?_
      obtain ⟨z38, h⟩ := nz_some h
      refine lv_irem hx hb dX8_goesOn_153 z38 ?_
      refine lv_iconst (v := 0) hx hb dX8_goesOn_154 (by decide) ?_
      obtain ⟨μ40, h39, h⟩ := ob_some h
      refine m_callv (As := [.int (r36 - r36 / (μ37 1 0) * (μ37 1 0)), .int (0 : Int32)]) (rest := []) (cM_goesTo l D cI B μ37 (r36 - r36 / (μ37 1 0) * (μ37 1 0)) (0 : Int32) h39) hC hH hl (cwV 2 hts (gV wmX8_138 wvX8_goesTo) rfl rfl rfl hdX8_goesTo ⟨Nat.le_of_ble_eq_true rfl, Nat.le_of_ble_eq_true rfl⟩) rfl rfl (Nat.le_of_ble_eq_true rfl) ⟨Nat.zero_le _, Nat.zero_le _⟩ dX8_goesOn_155 (fun H locs hH => ?_)
      exact wM_goesOn_J158 hC hr  μ40 H locs ls  hH hl h

def rmM_goesOnMany : Room := { frames := 6, cells := 0, slots := 0, locals := 140 }
theorem hdX8_goesOnMany : yX8_goesOnMany.cls = RX8 ∧ yX8_goesOnMany.cls ≠ "java/lang/invoke/MethodHandle" ∧ yX8_goesOnMany.cls ≠ "java/lang/invoke/VarHandle" ∧ (parseMethodDescriptor yX8_goesOnMany.desc).map (fun d => d.parameters.length) = some 1 := by decide +kernel

def fM_goesOnMany_L2 (k17 : MS → Option (MS)) : Nat → Int32 → Int32 → MS → Option (MS)
  | 0, _, _, _ => none
  | n + 1, x1, x2, μ =>
    if x1 ≤ x2 then (
      k17 μ)
    else (
      ob (fM_goesOn μ) fun μ3 =>
      bnd (x2 + (1 : Int32)) fun v4 =>
      (fM_goesOnMany_L2 k17 n) x1 v4 μ3)

set_option maxHeartbeats 4000000 in
set_option maxRecDepth 100000 in
theorem wM_goesOnMany_L2 {p : Program} {l : Launch} {e : Env} {s : State} {m : MethodId} {args : Array Value} {below : List Frame} {meth : Method} {c : Code} {D : va_G} {cI : ClassId} {B : Nat → Nat} {μ0 : MS} {μr : MS} (hC : jC p s m args meth c cX8_goesOnMany 3 RX8) (hr : meth.sig.returnType = none) {k17 : MS → Option (MS)} (hk17 : ∀ (μ : MS) (H : Heap) (locs : List Loc) (ls : Array Slot), mH D cI B s (va_A (mW B cI μ0) s.heap.size) μ H locs → lv_has ls 3 [] → k17 μ = some μr → W p l e rmM_goesOnMany s m args below meth c H locs 0 0 (MQ below (mQv D cI B μ0 s.heap.size μr) args s 0 0 (va_A (mW B cI μ0) s.heap.size)) (F0 m 17 ls [])) : ∀ (n : Nat) (x1 : Int32) (x2 : Int32) (μ : MS) (H : Heap) (locs : List Loc) (ls : Array Slot), mH D cI B s (va_A (mW B cI μ0) s.heap.size) μ H locs → lv_has ls 3 [(0, .ref (B 0)), (1, .int x1), (2, .int x2)] → fM_goesOnMany_L2 k17 n x1 x2 μ = some μr → W p l e rmM_goesOnMany s m args below meth c H locs 0 0 (MQ below (mQv D cI B μ0 s.heap.size μr) args s 0 0 (va_A (mW B cI μ0) s.heap.size)) (F0 m 2 ls []) := by
  have hx := hC.1.1
  have hb := hC.1.2.1
  have hown := hC.1.2.2.2.1
  have hts := hC.1.2.2.2.2
  intro n
  induction n with
  | zero =>
    intro x1 x2 μ H locs ls  hH hl h
    rw [fM_goesOnMany_L2] at h
    cases h
  | succ n ih =>
    intro x1 x2 μ H locs ls  hH hl h
    rw [fM_goesOnMany_L2] at h
    refine lv_iload_n hx hb dX8_goesOnMany_2 rfl (lv_at hl 2 rfl) ?_
    refine lv_iload_n hx hb dX8_goesOnMany_3 rfl (lv_at hl 1 rfl) ?_
    refine lv_icmp_ge (tgt := 17) hx hb dX8_goesOnMany_4 (by decide) (fun c1 => ?_) (fun c1 => ?_)
    · have h := ite_t c1 h
      exact hk17 μ H locs ls  hH (lv_sub hl [] rfl) h
    · have h := ite_f c1 h
      refine lv_aload_n hx hb dX8_goesOnMany_7 rfl (lv_at hl 0 rfl) ?_
      obtain ⟨μ3, h2, h⟩ := ob_some h
      refine m_callv (As := []) (rest := []) (cM_goesOn l D cI B μ  h2) hC hH hl (cwV 0 hts (gV wmX8_159 wvX8_goesOn) rfl rfl rfl hdX8_goesOn ⟨Nat.le_of_ble_eq_true rfl, Nat.le_of_ble_eq_true rfl⟩) rfl rfl (Nat.le_of_ble_eq_true rfl) ⟨Nat.zero_le _, Nat.zero_le _⟩ dX8_goesOnMany_8 (fun H locs hH => ?_)
      obtain ⟨v4, e5, h⟩ := bnd_some h
      refine lv_iinc (v := v4) (lv' := [(2, .int v4), (0, .ref (B 0)), (1, .int x1)]) hx hb dX8_goesOnMany_11 hl (k := 2) rfl (by rw [e5]; rfl) (by decide) rfl (fun ls hl => ?_)
      refine lv_goto (tgt := 2) hx hb dX8_goesOnMany_14 (by decide) ?_
      exact ih x1 v4 μ3 H locs ls  hH (lv_sub hl [1, 2, 0] rfl) h

def fM_goesOnMany (μ0 : MS) (x1 : Int32) : Option (MS) :=
  fM_goesOnMany_L2 (fun (μ : MS) => some μ) 10000 x1 (0 : Int32) μ0

set_option maxHeartbeats 4000000 in
set_option maxRecDepth 100000 in
theorem cM_goesOnMany (l : Launch) (D : va_G) (cI : ClassId) (B : Nat → Nat) (μ0 : MS) (x1 : Int32) {μr : MS} (h : fM_goesOnMany μ0 x1 = some μr) : ∀ sz, Met l yX8_goesOnMany (Cond.code yX8_goesOnMany cX8_goesOnMany 3 none :: Tw) rmM_goesOnMany (mP D cI B μ0 sz [.ref (B 0), .int x1]) (mQv D cI B μ0 sz μr) 0 0 (va_A (mW B cI μ0) sz) := by
  intro sz
  refine Met.ofW (cc := cX8_goesOnMany) (maxL := 3) (ret := (none)) (by decide) rfl ?_
  intro p e s m args below meth c s₁ Bd hml hv
  obtain ⟨hC, hr⟩ := jC_of Bd hml
  obtain ⟨rfl, rfl, hH⟩ := m_enter hv
  have hC : jC p s m _ meth c cX8_goesOnMany 3 RX8 := hC
  have hx := hC.1.1
  have hb := hC.1.2.1
  have hown := hC.1.2.2.2.1
  have hts := hC.1.2.2.2.2
  have hl := lv_entry ([.ref (B 0), .int x1]) (n := 3) (Nat.le_of_ble_eq_true rfl)
  rw [lg_entry_eq]
  generalize (lg_sl ([.ref (B 0), .int x1]) ++ List.replicate (3 - (lg_sl ([.ref (B 0), .int x1])).length) Slot.unset).toArray = ls at hl ⊢
  have hl : lv_has ls 3 [(0, .ref (B 0)), (1, .int x1)] := hl
  unfold fM_goesOnMany at h
  refine W_nm (fun H locs eH eL => ?_)
  have hH : mH D cI B s (va_A (mW B cI μ0) s.heap.size) μ0 H locs := by rw [eH, eL]; exact hH
  show W p l e rmM_goesOnMany s m _ below meth c H locs 0 0 _ (F0 m 0 ls [])
  refine lv_iconst (v := 0) hx hb dX8_goesOnMany_0 (by decide) ?_
  refine lv_istore_n (lv' := [(2, .int (0 : Int32)), (0, .ref (B 0)), (1, .int x1)]) hx hb dX8_goesOnMany_1 rfl hl (by decide) rfl (fun ls hl => ?_)
  refine wM_goesOnMany_L2 hC hr  ?_ 10000 x1 (0 : Int32) μ0 H locs ls  hH (lv_sub hl [1, 2, 0] rfl) h
  intro μ H locs ls  hH hl h
  obtain rfl := some_i1 h
  exact m_vret hC hH hr dX8_goesOnMany_17

def rmM_jolts : Room := { frames := 6, cells := 0, slots := 0, locals := 140 }
theorem hdX8_jolts : yX8_jolts.cls = RX8 ∧ yX8_jolts.cls ≠ "java/lang/invoke/MethodHandle" ∧ yX8_jolts.cls ≠ "java/lang/invoke/VarHandle" ∧ (parseMethodDescriptor yX8_jolts.desc).map (fun d => d.parameters.length) = some 1 := by decide +kernel

def fM_jolts_L24 (k51 : Int32 → MS → Option (Int32 × MS)) : Nat → Int32 → Int32 → Int32 → MS → Option (Int32 × MS)
  | 0, _, _, _, _ => none
  | n + 1, x1, x2, x3, μ =>
    if x1 ≤ x3 then (
      k51 x2 μ)
    else (
      if (9999 : Int32) ≤ (μ 1 2) then (
        k51 x2 μ)
      else (
        ob (fM_goesOn μ) fun μ9 =>
        bnd (x3 + (1 : Int32)) fun v10 =>
        (fM_jolts_L24 k51 n) x1 x2 v10 μ9))

set_option maxHeartbeats 4000000 in
set_option maxRecDepth 100000 in
theorem wM_jolts_L24 {p : Program} {l : Launch} {e : Env} {s : State} {m : MethodId} {args : Array Value} {below : List Frame} {meth : Method} {c : Code} {D : va_G} {cI : ClassId} {B : Nat → Nat} {μ0 : MS} {r : Int32} {μr : MS} (hC : jC p s m args meth c cX8_jolts 4 RX8) (hr : meth.sig.returnType = some .int) {k51 : Int32 → MS → Option (Int32 × MS)} (hk51 : ∀ (x2 : Int32) (μ : MS) (H : Heap) (locs : List Loc) (ls : Array Slot), mH D cI B s (va_A (mW B cI μ0) s.heap.size) μ H locs → lv_has ls 4 [(0, .ref (B 0)), (2, .int x2)] → k51 x2 μ = some (r, μr) → W p l e rmM_jolts s m args below meth c H locs 0 0 (MQ below (mQi D cI B μ0 s.heap.size μr r) args s 0 0 (va_A (mW B cI μ0) s.heap.size)) (F0 m 51 ls [])) : ∀ (n : Nat) (x1 : Int32) (x2 : Int32) (x3 : Int32) (μ : MS) (H : Heap) (locs : List Loc) (ls : Array Slot), mH D cI B s (va_A (mW B cI μ0) s.heap.size) μ H locs → lv_has ls 4 [(0, .ref (B 0)), (1, .int x1), (2, .int x2), (3, .int x3)] → fM_jolts_L24 k51 n x1 x2 x3 μ = some (r, μr) → W p l e rmM_jolts s m args below meth c H locs 0 0 (MQ below (mQi D cI B μ0 s.heap.size μr r) args s 0 0 (va_A (mW B cI μ0) s.heap.size)) (F0 m 24 ls []) := by
  have hx := hC.1.1
  have hb := hC.1.2.1
  have hown := hC.1.2.2.2.1
  have hts := hC.1.2.2.2.2
  intro n
  induction n with
  | zero =>
    intro x1 x2 x3 μ H locs ls  hH hl h
    rw [fM_jolts_L24] at h
    cases h
  | succ n ih =>
    intro x1 x2 x3 μ H locs ls  hH hl h
    rw [fM_jolts_L24] at h
    refine lv_iload_n hx hb dX8_jolts_24 rfl (lv_at hl 3 rfl) ?_
    refine lv_iload_n hx hb dX8_jolts_25 rfl (lv_at hl 1 rfl) ?_
    refine lv_icmp_ge (tgt := 51) hx hb dX8_jolts_26 (by decide) (fun c6 => ?_) (fun c6 => ?_)
    · have h := ite_t c6 h
      exact hk51 x2 μ H locs ls  hH (lv_sub hl [0, 2] rfl) h
    · have h := ite_f c6 h
      refine lv_aload_n hx hb dX8_jolts_29 rfl (lv_at hl 0 rfl) ?_
      refine m_get hC hH 0 (by decide) wfX8_7 rfl rfl dX8_jolts_30 ?_
      refine lv_iconst (v := 2) hx hb dX8_jolts_33 (by decide) ?_
      refine m_ald hC hH (a := 1) rfl rfl (vp_b rfl) dX8_jolts_34 ?_
      refine lv_sipush (v := 9999) hx hb dX8_jolts_35 (by decide) ?_
      refine lv_icmp_ge (tgt := 51) hx hb dX8_jolts_38 (by decide) (fun c7 => ?_) (fun c7 => ?_)
      · have h := ite_t c7 h
        exact hk51 x2 μ H locs ls  hH (lv_sub hl [0, 2] rfl) h
      · have h := ite_f c7 h
        refine lv_aload_n hx hb dX8_jolts_41 rfl (lv_at hl 0 rfl) ?_
        obtain ⟨μ9, h8, h⟩ := ob_some h
        refine m_callv (As := []) (rest := []) (cM_goesOn l D cI B μ  h8) hC hH hl (cwV 0 hts (gV wmX8_159 wvX8_goesOn) rfl rfl rfl hdX8_goesOn ⟨Nat.le_of_ble_eq_true rfl, Nat.le_of_ble_eq_true rfl⟩) rfl rfl (Nat.le_of_ble_eq_true rfl) ⟨Nat.zero_le _, Nat.zero_le _⟩ dX8_jolts_42 (fun H locs hH => ?_)
        obtain ⟨v10, e11, h⟩ := bnd_some h
        refine lv_iinc (v := v10) (lv' := [(3, .int v10), (0, .ref (B 0)), (1, .int x1), (2, .int x2)]) hx hb dX8_jolts_45 hl (k := 3) rfl (by rw [e11]; rfl) (by decide) rfl (fun ls hl => ?_)
        refine lv_goto (tgt := 24) hx hb dX8_jolts_48 (by decide) ?_
        exact ih x1 x2 v10 μ9 H locs ls  hH (lv_sub hl [1, 2, 3, 0] rfl) h

def fM_jolts (μ0 : MS) (x1 : Int32) : Option (Int32 × MS) :=
  ob (fM_isIn μ0 (x1).toInt64 (1 : Int64) (100 : Int64)) fun r2 =>
  if r2 = 0 then (
    some ((-1000000001 : Int32), μ0))
  else (
    bnd (μ0 1 3) fun v4 =>
    fM_jolts_L24 (fun (x2 : Int32) (μ : MS) => some (((μ 1 3) - x2), μ)) 10000 x1 v4 (0 : Int32) μ0)

set_option maxHeartbeats 4000000 in
set_option maxRecDepth 100000 in
theorem cM_jolts (l : Launch) (D : va_G) (cI : ClassId) (B : Nat → Nat) (μ0 : MS) (x1 : Int32) {r : Int32} {μr : MS} (h : fM_jolts μ0 x1 = some (r, μr)) : ∀ sz, Met l yX8_jolts (Cond.code yX8_jolts cX8_jolts 4 (some .int) :: Tw) rmM_jolts (mP D cI B μ0 sz [.ref (B 0), .int x1]) (mQi D cI B μ0 sz μr r) 0 0 (va_A (mW B cI μ0) sz) := by
  intro sz
  refine Met.ofW (cc := cX8_jolts) (maxL := 4) (ret := (some .int)) (by decide) rfl ?_
  intro p e s m args below meth c s₁ Bd hml hv
  obtain ⟨hC, hr⟩ := jC_of Bd hml
  obtain ⟨rfl, rfl, hH⟩ := m_enter hv
  have hC : jC p s m _ meth c cX8_jolts 4 RX8 := hC
  have hx := hC.1.1
  have hb := hC.1.2.1
  have hown := hC.1.2.2.2.1
  have hts := hC.1.2.2.2.2
  have hl := lv_entry ([.ref (B 0), .int x1]) (n := 4) (Nat.le_of_ble_eq_true rfl)
  rw [lg_entry_eq]
  generalize (lg_sl ([.ref (B 0), .int x1]) ++ List.replicate (4 - (lg_sl ([.ref (B 0), .int x1])).length) Slot.unset).toArray = ls at hl ⊢
  have hl : lv_has ls 4 [(0, .ref (B 0)), (1, .int x1)] := hl
  unfold fM_jolts at h
  refine W_nm (fun H locs eH eL => ?_)
  have hH : mH D cI B s (va_A (mW B cI μ0) s.heap.size) μ0 H locs := by rw [eH, eL]; exact hH
  show W p l e rmM_jolts s m _ below meth c H locs 0 0 _ (F0 m 0 ls [])
  refine lv_iload_n hx hb dX8_jolts_0 rfl (lv_at hl 1 rfl) ?_
  refine lv_i2l hx hb dX8_jolts_1 rfl ?_
  refine lv_lconst (v := 1) hx hb dX8_jolts_2 (by decide) ?_
  refine lv_ldc2 (v := 100) hx hb hown (hts _ wqX8_148) dX8_jolts_3 ?_
  obtain ⟨r2, h1, h⟩ := ob_some h
  refine m_calls (As := [.long (x1).toInt64, .long (1 : Int64), .long (100 : Int64)]) (rest := []) (cM_isIn l D cI B μ0 (x1).toInt64 (1 : Int64) (100 : Int64) h1) hC hH hl (va_cwS 3 hts (gS wmX8_75 wsX8_isIn) rfl rfl rfl hdX8_isIn ⟨Nat.le_of_ble_eq_true rfl, Nat.le_of_ble_eq_true rfl⟩) rfl rfl (Nat.le_of_ble_eq_true rfl) ⟨Nat.zero_le _, Nat.zero_le _⟩ dX8_jolts_6 (fun H locs hH => ?_)
  refine lv_if_ne (tgt := 15) hx hb dX8_jolts_9 (by decide) (fun c3 => ?_) (fun c3 => ?_)
  · have h := ite_f c3 h
    refine lv_aload_n hx hb dX8_jolts_15 rfl (lv_at hl 0 rfl) ?_
    refine m_get hC hH 0 (by decide) wfX8_7 rfl rfl dX8_jolts_16 ?_
    refine lv_iconst (v := 3) hx hb dX8_jolts_19 (by decide) ?_
    refine m_ald hC hH (a := 1) rfl rfl (vp_b rfl) dX8_jolts_20 ?_
    obtain ⟨v4, e5, h⟩ := bnd_some h
    refine lv_tope e5 ?_
    refine lv_istore_n (lv' := [(2, .int v4), (0, .ref (B 0)), (1, .int x1)]) hx hb dX8_jolts_21 rfl hl (by decide) rfl (fun ls hl => ?_)
    refine lv_iconst (v := 0) hx hb dX8_jolts_22 (by decide) ?_
    refine lv_istore_n (lv' := [(3, .int (0 : Int32)), (2, .int v4), (0, .ref (B 0)), (1, .int x1)]) hx hb dX8_jolts_23 rfl hl (by decide) rfl (fun ls hl => ?_)
    refine wM_jolts_L24 hC hr  ?_ 10000 x1 v4 (0 : Int32) μ0 H locs ls  hH (lv_sub hl [2, 3, 1, 0] rfl) h
    intro x2 μ H locs ls  hH hl h
    refine lv_aload_n hx hb dX8_jolts_51 rfl (lv_at hl 0 rfl) ?_
    refine m_get hC hH 0 (by decide) wfX8_7 rfl rfl dX8_jolts_52 ?_
    refine lv_iconst (v := 3) hx hb dX8_jolts_55 (by decide) ?_
    refine m_ald hC hH (a := 1) rfl rfl (vp_b rfl) dX8_jolts_56 ?_
    refine lv_iload_n hx hb dX8_jolts_57 rfl (lv_at hl 1 rfl) ?_
    refine lv_isub hx hb dX8_jolts_58 ?_
    obtain ⟨rfl, rfl⟩ := some_i2 h
    exact m_iret hC hH hr rfl dX8_jolts_59
  · have h := ite_t c3 h
    refine lv_ldc (v := -1000000001) hx hb hown (hts _ wkX8_90) dX8_jolts_12 ?_
    obtain ⟨rfl, rfl⟩ := some_i2 h
    exact m_iret (v := -1000000001) hC hH hr rfl dX8_jolts_14

def rmM_mess : Room := { frames := 4, cells := 0, slots := 0, locals := 96 }
theorem hdX8_mess : yX8_mess.cls = RX8 ∧ yX8_mess.cls ≠ "java/lang/invoke/MethodHandle" ∧ yX8_mess.cls ≠ "java/lang/invoke/VarHandle" ∧ (parseMethodDescriptor yX8_mess.desc).map (fun d => d.parameters.length) = some 0 := by decide +kernel

def fM_mess_L18 (k71 : Int32 → Int32 → MS → Option (Int32 × MS)) : Nat → Int32 → Int32 → Int32 → MS → Option (Int32 × MS)
  | 0, _, _, _, _ => none
  | n + 1, x1, x2, x3, μ =>
    if (μ 1 0) ≤ x3 then (
      k71 x1 x2 μ)
    else (
      ck ((6 : Int32) + x3) (3076) <|
      ob2 (fM_rises μ (μ 1 (((6 : Int32) + x3)).toNatClampNeg)) fun r7 μ8 =>
      ck ((6 : Int32) + x2) (3076) <|
      ob2 (fM_rises μ8 (μ8 1 (((6 : Int32) + x2)).toNatClampNeg)) fun r11 μ12 =>
      if r7 ≤ r11 then (
        bnd (x1 + (0 : Int32)) fun v14 =>
        bnd (x3 + (1 : Int32)) fun v16 =>
        (fM_mess_L18 k71 n) v14 x2 v16 μ12)
      else (
        bnd (x1 + (1 : Int32)) fun v18 =>
        bnd (x3 + (1 : Int32)) fun v20 =>
        (fM_mess_L18 k71 n) v18 x2 v20 μ12))

set_option maxHeartbeats 4000000 in
set_option maxRecDepth 100000 in
theorem wM_mess_L18 {p : Program} {l : Launch} {e : Env} {s : State} {m : MethodId} {args : Array Value} {below : List Frame} {meth : Method} {c : Code} {D : va_G} {cI : ClassId} {B : Nat → Nat} {μ0 : MS} {r : Int32} {μr : MS} (hC : jC p s m args meth c cX8_mess 4 RX8) (hr : meth.sig.returnType = some .int) {k71 : Int32 → Int32 → MS → Option (Int32 × MS)} (hk71 : ∀ (x1 : Int32) (x2 : Int32) (μ : MS) (H : Heap) (locs : List Loc) (ls : Array Slot), mH D cI B s (va_A (mW B cI μ0) s.heap.size) μ H locs → lv_has ls 4 [(0, .ref (B 0)), (1, .int x1), (2, .int x2)] → k71 x1 x2 μ = some (r, μr) → W p l e rmM_mess s m args below meth c H locs 0 0 (MQ below (mQi D cI B μ0 s.heap.size μr r) args s 0 0 (va_A (mW B cI μ0) s.heap.size)) (F0 m 71 ls [])) : ∀ (n : Nat) (x1 : Int32) (x2 : Int32) (x3 : Int32) (μ : MS) (H : Heap) (locs : List Loc) (ls : Array Slot), mH D cI B s (va_A (mW B cI μ0) s.heap.size) μ H locs → lv_has ls 4 [(0, .ref (B 0)), (1, .int x1), (2, .int x2), (3, .int x3)] → fM_mess_L18 k71 n x1 x2 x3 μ = some (r, μr) → W p l e rmM_mess s m args below meth c H locs 0 0 (MQ below (mQi D cI B μ0 s.heap.size μr r) args s 0 0 (va_A (mW B cI μ0) s.heap.size)) (F0 m 18 ls []) := by
  have hx := hC.1.1
  have hb := hC.1.2.1
  have hown := hC.1.2.2.2.1
  have hts := hC.1.2.2.2.2
  intro n
  induction n with
  | zero =>
    intro x1 x2 x3 μ H locs ls  hH hl h
    rw [fM_mess_L18] at h
    cases h
  | succ n ih =>
    intro x1 x2 x3 μ H locs ls  hH hl h
    rw [fM_mess_L18] at h
    refine lv_iload_n hx hb dX8_mess_18 rfl (lv_at hl 3 rfl) ?_
    refine lv_aload_n hx hb dX8_mess_19 rfl (lv_at hl 0 rfl) ?_
    refine m_get hC hH 0 (by decide) wfX8_7 rfl rfl dX8_mess_20 ?_
    refine lv_iconst (v := 0) hx hb dX8_mess_23 (by decide) ?_
    refine m_ald hC hH (a := 1) rfl rfl (vp_b rfl) dX8_mess_24 ?_
    refine lv_icmp_ge (tgt := 71) hx hb dX8_mess_25 (by decide) (fun c4 => ?_) (fun c4 => ?_)
    · have h := ite_t c4 h
      exact hk71 x1 x2 μ H locs ls  hH (lv_sub hl [0, 1, 2] rfl) h
    · have h := ite_f c4 h
      refine lv_iload_n hx hb dX8_mess_28 rfl (lv_at hl 1 rfl) ?_
      refine lv_aload_n hx hb dX8_mess_29 rfl (lv_at hl 0 rfl) ?_
      refine lv_aload_n hx hb dX8_mess_30 rfl (lv_at hl 0 rfl) ?_
      refine m_get hC hH 0 (by decide) wfX8_7 rfl rfl dX8_mess_31 ?_
      refine lv_bipush (v := 6) hx hb dX8_mess_34 (by decide) ?_
      refine lv_iload_n hx hb dX8_mess_36 rfl (lv_at hl 3 rfl) ?_
      refine lv_iadd hx hb dX8_mess_37 ?_
      obtain ⟨i5, h⟩ := ck_some h
      refine m_ald hC hH (a := 1) rfl rfl i5 dX8_mess_38 ?_
      obtain ⟨r7, μ8, h6, h⟩ := ob2_some h
      refine m_calli (As := [.int (μ 1 (((6 : Int32) + x3)).toNatClampNeg)]) (rest := [.int x1]) (cM_rises l D cI B μ (μ 1 (((6 : Int32) + x3)).toNatClampNeg) h6) hC hH hl (cwV 1 hts (gV wmX8_119 wvX8_rises) rfl rfl rfl hdX8_rises ⟨Nat.le_of_ble_eq_true rfl, Nat.le_of_ble_eq_true rfl⟩) rfl rfl (Nat.le_of_ble_eq_true rfl) ⟨Nat.zero_le _, Nat.zero_le _⟩ dX8_mess_39 (fun H locs hH => ?_)
      refine lv_aload_n hx hb dX8_mess_42 rfl (lv_at hl 0 rfl) ?_
      refine lv_aload_n hx hb dX8_mess_43 rfl (lv_at hl 0 rfl) ?_
      refine m_get hC hH 0 (by decide) wfX8_7 rfl rfl dX8_mess_44 ?_
      refine lv_bipush (v := 6) hx hb dX8_mess_47 (by decide) ?_
      refine lv_iload_n hx hb dX8_mess_49 rfl (lv_at hl 2 rfl) ?_
      refine lv_iadd hx hb dX8_mess_50 ?_
      obtain ⟨i9, h⟩ := ck_some h
      refine m_ald hC hH (a := 1) rfl rfl i9 dX8_mess_51 ?_
      obtain ⟨r11, μ12, h10, h⟩ := ob2_some h
      refine m_calli (As := [.int (μ8 1 (((6 : Int32) + x2)).toNatClampNeg)]) (rest := [.int r7, .int x1]) (cM_rises l D cI B μ8 (μ8 1 (((6 : Int32) + x2)).toNatClampNeg) h10) hC hH hl (cwV 1 hts (gV wmX8_119 wvX8_rises) rfl rfl rfl hdX8_rises ⟨Nat.le_of_ble_eq_true rfl, Nat.le_of_ble_eq_true rfl⟩) rfl rfl (Nat.le_of_ble_eq_true rfl) ⟨Nat.zero_le _, Nat.zero_le _⟩ dX8_mess_52 (fun H locs hH => ?_)
      refine lv_icmp_le (tgt := 62) hx hb dX8_mess_55 (by decide) (fun c13 => ?_) (fun c13 => ?_)
      · have h := ite_t c13 h
        refine lv_iconst (v := 0) hx hb dX8_mess_62 (by decide) ?_
        refine lv_iadd hx hb dX8_mess_63 ?_
        obtain ⟨v14, e15, h⟩ := bnd_some h
        refine lv_tope e15 ?_
        refine lv_istore_n (lv' := [(1, .int v14), (0, .ref (B 0)), (2, .int x2), (3, .int x3)]) hx hb dX8_mess_64 rfl hl (by decide) rfl (fun ls hl => ?_)
        obtain ⟨v16, e17, h⟩ := bnd_some h
        refine lv_iinc (v := v16) (lv' := [(3, .int v16), (1, .int v14), (0, .ref (B 0)), (2, .int x2)]) hx hb dX8_mess_65 hl (k := 3) rfl (by rw [e17]; rfl) (by decide) rfl (fun ls hl => ?_)
        refine lv_goto (tgt := 18) hx hb dX8_mess_68 (by decide) ?_
        exact ih v14 x2 v16 μ12 H locs ls  hH (lv_sub hl [2, 1, 3, 0] rfl) h
      · have h := ite_f c13 h
        refine lv_iconst (v := 1) hx hb dX8_mess_58 (by decide) ?_
        refine lv_goto (tgt := 63) hx hb dX8_mess_59 (by decide) ?_
        refine lv_iadd hx hb dX8_mess_63 ?_
        obtain ⟨v18, e19, h⟩ := bnd_some h
        refine lv_tope e19 ?_
        refine lv_istore_n (lv' := [(1, .int v18), (0, .ref (B 0)), (2, .int x2), (3, .int x3)]) hx hb dX8_mess_64 rfl hl (by decide) rfl (fun ls hl => ?_)
        obtain ⟨v20, e21, h⟩ := bnd_some h
        refine lv_iinc (v := v20) (lv' := [(3, .int v20), (1, .int v18), (0, .ref (B 0)), (2, .int x2)]) hx hb dX8_mess_65 hl (k := 3) rfl (by rw [e21]; rfl) (by decide) rfl (fun ls hl => ?_)
        refine lv_goto (tgt := 18) hx hb dX8_mess_68 (by decide) ?_
        exact ih v18 x2 v20 μ12 H locs ls  hH (lv_sub hl [2, 1, 3, 0] rfl) h

def fM_mess_L4 (k77 : Int32 → MS → Option (Int32 × MS)) : Nat → Int32 → Int32 → MS → Option (Int32 × MS)
  | 0, _, _, _ => none
  | n + 1, x1, x2, μ =>
    if (μ 1 0) ≤ x2 then (
      k77 x1 μ)
    else (
      bnd (x2 + (1 : Int32)) fun v2 =>
      fM_mess_L18 (fun (x1 : Int32) (x2 : Int32) (μ : MS) => bnd (x2 + (1 : Int32)) fun v22 =>
        (fM_mess_L4 k77 n) x1 v22 μ) 10000 x1 x2 v2 μ)

set_option maxHeartbeats 4000000 in
set_option maxRecDepth 100000 in
theorem wM_mess_L4 {p : Program} {l : Launch} {e : Env} {s : State} {m : MethodId} {args : Array Value} {below : List Frame} {meth : Method} {c : Code} {D : va_G} {cI : ClassId} {B : Nat → Nat} {μ0 : MS} {r : Int32} {μr : MS} (hC : jC p s m args meth c cX8_mess 4 RX8) (hr : meth.sig.returnType = some .int) {k77 : Int32 → MS → Option (Int32 × MS)} (hk77 : ∀ (x1 : Int32) (μ : MS) (H : Heap) (locs : List Loc) (ls : Array Slot), mH D cI B s (va_A (mW B cI μ0) s.heap.size) μ H locs → lv_has ls 4 [(1, .int x1)] → k77 x1 μ = some (r, μr) → W p l e rmM_mess s m args below meth c H locs 0 0 (MQ below (mQi D cI B μ0 s.heap.size μr r) args s 0 0 (va_A (mW B cI μ0) s.heap.size)) (F0 m 77 ls [])) : ∀ (n : Nat) (x1 : Int32) (x2 : Int32) (μ : MS) (H : Heap) (locs : List Loc) (ls : Array Slot), mH D cI B s (va_A (mW B cI μ0) s.heap.size) μ H locs → lv_has ls 4 [(0, .ref (B 0)), (1, .int x1), (2, .int x2)] → fM_mess_L4 k77 n x1 x2 μ = some (r, μr) → W p l e rmM_mess s m args below meth c H locs 0 0 (MQ below (mQi D cI B μ0 s.heap.size μr r) args s 0 0 (va_A (mW B cI μ0) s.heap.size)) (F0 m 4 ls []) := by
  have hx := hC.1.1
  have hb := hC.1.2.1
  have hown := hC.1.2.2.2.1
  have hts := hC.1.2.2.2.2
  intro n
  induction n with
  | zero =>
    intro x1 x2 μ H locs ls  hH hl h
    rw [fM_mess_L4] at h
    cases h
  | succ n ih =>
    intro x1 x2 μ H locs ls  hH hl h
    rw [fM_mess_L4] at h
    refine lv_iload_n hx hb dX8_mess_4 rfl (lv_at hl 2 rfl) ?_
    refine lv_aload_n hx hb dX8_mess_5 rfl (lv_at hl 0 rfl) ?_
    refine m_get hC hH 0 (by decide) wfX8_7 rfl rfl dX8_mess_6 ?_
    refine lv_iconst (v := 0) hx hb dX8_mess_9 (by decide) ?_
    refine m_ald hC hH (a := 1) rfl rfl (vp_b rfl) dX8_mess_10 ?_
    refine lv_icmp_ge (tgt := 77) hx hb dX8_mess_11 (by decide) (fun c1 => ?_) (fun c1 => ?_)
    · have h := ite_t c1 h
      exact hk77 x1 μ H locs ls  hH (lv_sub hl [1] rfl) h
    · have h := ite_f c1 h
      refine lv_iload_n hx hb dX8_mess_14 rfl (lv_at hl 2 rfl) ?_
      refine lv_iconst (v := 1) hx hb dX8_mess_15 (by decide) ?_
      refine lv_iadd hx hb dX8_mess_16 ?_
      obtain ⟨v2, e3, h⟩ := bnd_some h
      refine lv_tope e3 ?_
      refine lv_istore_n (lv' := [(3, .int v2), (0, .ref (B 0)), (1, .int x1), (2, .int x2)]) hx hb dX8_mess_17 rfl hl (by decide) rfl (fun ls hl => ?_)
      refine wM_mess_L18 hC hr  ?_ 10000 x1 x2 v2 μ H locs ls  hH (lv_sub hl [1, 2, 3, 0] rfl) h
      intro x1 x2 μ H locs ls  hH hl h
      obtain ⟨v22, e23, h⟩ := bnd_some h
      refine lv_iinc (v := v22) (lv' := [(2, .int v22), (0, .ref (B 0)), (1, .int x1)]) hx hb dX8_mess_71 hl (k := 2) rfl (by rw [e23]; rfl) (by decide) rfl (fun ls hl => ?_)
      refine lv_goto (tgt := 4) hx hb dX8_mess_74 (by decide) ?_
      exact ih x1 v22 μ H locs ls  hH (lv_sub hl [1, 2, 0] rfl) h

def fM_mess (μ0 : MS) : Option (Int32 × MS) :=
  fM_mess_L4 (fun (x1 : Int32) (μ : MS) => some (x1, μ)) 10000 (0 : Int32) (0 : Int32) μ0

set_option maxHeartbeats 4000000 in
set_option maxRecDepth 100000 in
theorem cM_mess (l : Launch) (D : va_G) (cI : ClassId) (B : Nat → Nat) (μ0 : MS) {r : Int32} {μr : MS} (h : fM_mess μ0 = some (r, μr)) : ∀ sz, Met l yX8_mess (Cond.code yX8_mess cX8_mess 4 (some .int) :: Tw) rmM_mess (mP D cI B μ0 sz [.ref (B 0)]) (mQi D cI B μ0 sz μr r) 0 0 (va_A (mW B cI μ0) sz) := by
  intro sz
  refine Met.ofW (cc := cX8_mess) (maxL := 4) (ret := (some .int)) (by decide) rfl ?_
  intro p e s m args below meth c s₁ Bd hml hv
  obtain ⟨hC, hr⟩ := jC_of Bd hml
  obtain ⟨rfl, rfl, hH⟩ := m_enter hv
  have hC : jC p s m _ meth c cX8_mess 4 RX8 := hC
  have hx := hC.1.1
  have hb := hC.1.2.1
  have hown := hC.1.2.2.2.1
  have hts := hC.1.2.2.2.2
  have hl := lv_entry ([.ref (B 0)]) (n := 4) (Nat.le_of_ble_eq_true rfl)
  rw [lg_entry_eq]
  generalize (lg_sl ([.ref (B 0)]) ++ List.replicate (4 - (lg_sl ([.ref (B 0)])).length) Slot.unset).toArray = ls at hl ⊢
  have hl : lv_has ls 4 [(0, .ref (B 0))] := hl
  unfold fM_mess at h
  refine W_nm (fun H locs eH eL => ?_)
  have hH : mH D cI B s (va_A (mW B cI μ0) s.heap.size) μ0 H locs := by rw [eH, eL]; exact hH
  show W p l e rmM_mess s m _ below meth c H locs 0 0 _ (F0 m 0 ls [])
  refine lv_iconst (v := 0) hx hb dX8_mess_0 (by decide) ?_
  refine lv_istore_n (lv' := [(1, .int (0 : Int32)), (0, .ref (B 0))]) hx hb dX8_mess_1 rfl hl (by decide) rfl (fun ls hl => ?_)
  refine lv_iconst (v := 0) hx hb dX8_mess_2 (by decide) ?_
  refine lv_istore_n (lv' := [(2, .int (0 : Int32)), (1, .int (0 : Int32)), (0, .ref (B 0))]) hx hb dX8_mess_3 rfl hl (by decide) rfl (fun ls hl => ?_)
  refine wM_mess_L4 hC hr  ?_ 10000 (0 : Int32) (0 : Int32) μ0 H locs ls  hH (lv_sub hl [2, 1, 0] rfl) h
  intro x1 μ H locs ls  hH hl h
  refine lv_iload_n hx hb dX8_mess_77 rfl (lv_at hl 0 rfl) ?_
  obtain ⟨rfl, rfl⟩ := some_i2 h
  exact m_iret hC hH hr rfl dX8_mess_78

def rmM_townAt : Room := { frames := 1, cells := 0, slots := 0, locals := 22 }
theorem hdX8_townAt : yX8_townAt.cls = RX8 ∧ yX8_townAt.cls ≠ "java/lang/invoke/MethodHandle" ∧ yX8_townAt.cls ≠ "java/lang/invoke/VarHandle" ∧ (parseMethodDescriptor yX8_townAt.desc).map (fun d => d.parameters.length) = some 1 := by decide +kernel

def fM_townAt (μ0 : MS) (x1 : Int32) : Option (Int32) :=
  ck ((6 : Int32) + x1) (3076) <|
  ob (fM_of μ0 (μ0 1 (((6 : Int32) + x1)).toNatClampNeg) (2 : Int32)) fun r3 =>
  some r3

set_option maxHeartbeats 4000000 in
set_option maxRecDepth 100000 in
theorem cM_townAt (l : Launch) (D : va_G) (cI : ClassId) (B : Nat → Nat) (μ0 : MS) (x1 : Int32) {r : Int32} (h : fM_townAt μ0 x1 = some r) : ∀ sz, Met l yX8_townAt (Cond.code yX8_townAt cX8_townAt 2 (some .int) :: Tw) rmM_townAt (mP D cI B μ0 sz [.ref (B 0), .int x1]) (mQi D cI B μ0 sz μ0 r) 0 0 (va_A (mW B cI μ0) sz) := by
  intro sz
  refine Met.ofW (cc := cX8_townAt) (maxL := 2) (ret := (some .int)) (by decide) rfl ?_
  intro p e s m args below meth c s₁ Bd hml hv
  obtain ⟨hC, hr⟩ := jC_of Bd hml
  obtain ⟨rfl, rfl, hH⟩ := m_enter hv
  have hC : jC p s m _ meth c cX8_townAt 2 RX8 := hC
  have hx := hC.1.1
  have hb := hC.1.2.1
  have hown := hC.1.2.2.2.1
  have hts := hC.1.2.2.2.2
  have hl := lv_entry ([.ref (B 0), .int x1]) (n := 2) (Nat.le_of_ble_eq_true rfl)
  rw [lg_entry_eq]
  generalize (lg_sl ([.ref (B 0), .int x1]) ++ List.replicate (2 - (lg_sl ([.ref (B 0), .int x1])).length) Slot.unset).toArray = ls at hl ⊢
  have hl : lv_has ls 2 [(0, .ref (B 0)), (1, .int x1)] := hl
  unfold fM_townAt at h
  refine W_nm (fun H locs eH eL => ?_)
  have hH : mH D cI B s (va_A (mW B cI μ0) s.heap.size) μ0 H locs := by rw [eH, eL]; exact hH
  show W p l e rmM_townAt s m _ below meth c H locs 0 0 _ (F0 m 0 ls [])
  refine lv_aload_n hx hb dX8_townAt_0 rfl (lv_at hl 0 rfl) ?_
  refine lv_aload_n hx hb dX8_townAt_1 rfl (lv_at hl 0 rfl) ?_
  refine m_get hC hH 0 (by decide) wfX8_7 rfl rfl dX8_townAt_2 ?_
  refine lv_bipush (v := 6) hx hb dX8_townAt_5 (by decide) ?_
  refine lv_iload_n hx hb dX8_townAt_7 rfl (lv_at hl 1 rfl) ?_
  refine lv_iadd hx hb dX8_townAt_8 ?_
  obtain ⟨i1, h⟩ := ck_some h
  refine m_ald hC hH (a := 1) rfl rfl i1 dX8_townAt_9 ?_
  refine lv_iconst (v := 2) hx hb dX8_townAt_10 (by decide) ?_
  obtain ⟨r3, h2, h⟩ := ob_some h
  refine m_calli (As := [.int (μ0 1 (((6 : Int32) + x1)).toNatClampNeg), .int (2 : Int32)]) (rest := []) (cM_of l D cI B μ0 (μ0 1 (((6 : Int32) + x1)).toNatClampNeg) (2 : Int32) h2) hC hH hl (cwV 2 hts (gV wmX8_99 wvX8_of) rfl rfl rfl hdX8_of ⟨Nat.le_of_ble_eq_true rfl, Nat.le_of_ble_eq_true rfl⟩) rfl rfl (Nat.le_of_ble_eq_true rfl) ⟨Nat.zero_le _, Nat.zero_le _⟩ dX8_townAt_11 (fun H locs hH => ?_)
  obtain rfl := some_i1 h
  exact m_iret hC hH hr rfl dX8_townAt_14

def rmM_layers : Room := { frames := 2, cells := 0, slots := 0, locals := 43 }
theorem hdX8_layers : yX8_layers.cls = RX8 ∧ yX8_layers.cls ≠ "java/lang/invoke/MethodHandle" ∧ yX8_layers.cls ≠ "java/lang/invoke/VarHandle" ∧ (parseMethodDescriptor yX8_layers.desc).map (fun d => d.parameters.length) = some 0 := by decide +kernel

def fM_layers_L4 (μ0 : MS) (k47 : Int32 → Option (Int32)) : Nat → Int32 → Int32 → Option (Int32)
  | 0, _, _ => none
  | n + 1, x1, x2 =>
    if (μ0 1 0) ≤ x2 then (
      k47 x1)
    else (
      if x2 = 0 then (
        bnd (x1 + (1 : Int32)) fun v3 =>
        bnd (x2 + (1 : Int32)) fun v5 =>
        (fM_layers_L4 μ0 k47 n) v3 v5)
      else (
        ob (fM_townAt μ0 x2) fun r8 =>
        ob (fM_townAt μ0 (x2 - (1 : Int32))) fun r10 =>
        if r8 = r10 then (
          bnd (x1 + (0 : Int32)) fun v12 =>
          bnd (x2 + (1 : Int32)) fun v14 =>
          (fM_layers_L4 μ0 k47 n) v12 v14)
        else (
          bnd (x1 + (1 : Int32)) fun v16 =>
          bnd (x2 + (1 : Int32)) fun v18 =>
          (fM_layers_L4 μ0 k47 n) v16 v18)))

set_option maxHeartbeats 4000000 in
set_option maxRecDepth 100000 in
theorem wM_layers_L4 {p : Program} {l : Launch} {e : Env} {s : State} {m : MethodId} {args : Array Value} {below : List Frame} {meth : Method} {c : Code} {D : va_G} {cI : ClassId} {B : Nat → Nat} {μ0 : MS} {r : Int32} (hC : jC p s m args meth c cX8_layers 3 RX8) (hr : meth.sig.returnType = some .int) {k47 : Int32 → Option (Int32)} (hk47 : ∀ (x1 : Int32) (H : Heap) (locs : List Loc) (ls : Array Slot), mH D cI B s (va_A (mW B cI μ0) s.heap.size) μ0 H locs → lv_has ls 3 [(1, .int x1)] → k47 x1 = some r → W p l e rmM_layers s m args below meth c H locs 0 0 (MQ below (mQi D cI B μ0 s.heap.size μ0 r) args s 0 0 (va_A (mW B cI μ0) s.heap.size)) (F0 m 47 ls [])) : ∀ (n : Nat) (x1 : Int32) (x2 : Int32) (H : Heap) (locs : List Loc) (ls : Array Slot), mH D cI B s (va_A (mW B cI μ0) s.heap.size) μ0 H locs → lv_has ls 3 [(0, .ref (B 0)), (1, .int x1), (2, .int x2)] → fM_layers_L4 μ0 k47 n x1 x2 = some r → W p l e rmM_layers s m args below meth c H locs 0 0 (MQ below (mQi D cI B μ0 s.heap.size μ0 r) args s 0 0 (va_A (mW B cI μ0) s.heap.size)) (F0 m 4 ls []) := by
  have hx := hC.1.1
  have hb := hC.1.2.1
  have hown := hC.1.2.2.2.1
  have hts := hC.1.2.2.2.2
  intro n
  induction n with
  | zero =>
    intro x1 x2 H locs ls  hH hl h
    rw [fM_layers_L4] at h
    cases h
  | succ n ih =>
    intro x1 x2 H locs ls  hH hl h
    rw [fM_layers_L4] at h
    refine lv_iload_n hx hb dX8_layers_4 rfl (lv_at hl 2 rfl) ?_
    refine lv_aload_n hx hb dX8_layers_5 rfl (lv_at hl 0 rfl) ?_
    refine m_get hC hH 0 (by decide) wfX8_7 rfl rfl dX8_layers_6 ?_
    refine lv_iconst (v := 0) hx hb dX8_layers_9 (by decide) ?_
    refine m_ald hC hH (a := 1) rfl rfl (vp_b rfl) dX8_layers_10 ?_
    refine lv_icmp_ge (tgt := 47) hx hb dX8_layers_11 (by decide) (fun c1 => ?_) (fun c1 => ?_)
    · have h := ite_t c1 h
      exact hk47 x1 H locs ls  hH (lv_sub hl [1] rfl) h
    · have h := ite_f c1 h
      refine lv_iload_n hx hb dX8_layers_14 rfl (lv_at hl 1 rfl) ?_
      refine lv_iload_n hx hb dX8_layers_15 rfl (lv_at hl 2 rfl) ?_
      refine lv_if_eq (tgt := 34) hx hb dX8_layers_16 (by decide) (fun c2 => ?_) (fun c2 => ?_)
      · have h := ite_t c2 h
        refine lv_iconst (v := 1) hx hb dX8_layers_34 (by decide) ?_
        refine lv_goto (tgt := 39) hx hb dX8_layers_35 (by decide) ?_
        refine lv_iadd hx hb dX8_layers_39 ?_
        obtain ⟨v3, e4, h⟩ := bnd_some h
        refine lv_tope e4 ?_
        refine lv_istore_n (lv' := [(1, .int v3), (0, .ref (B 0)), (2, .int x2)]) hx hb dX8_layers_40 rfl hl (by decide) rfl (fun ls hl => ?_)
        obtain ⟨v5, e6, h⟩ := bnd_some h
        refine lv_iinc (v := v5) (lv' := [(2, .int v5), (1, .int v3), (0, .ref (B 0))]) hx hb dX8_layers_41 hl (k := 2) rfl (by rw [e6]; rfl) (by decide) rfl (fun ls hl => ?_)
        refine lv_goto (tgt := 4) hx hb dX8_layers_44 (by decide) ?_
        exact ih v3 v5 H locs ls  hH (lv_sub hl [2, 1, 0] rfl) h
      · have h := ite_f c2 h
        refine lv_aload_n hx hb dX8_layers_19 rfl (lv_at hl 0 rfl) ?_
        refine lv_iload_n hx hb dX8_layers_20 rfl (lv_at hl 2 rfl) ?_
        obtain ⟨r8, h7, h⟩ := ob_some h
        refine m_calli (As := [.int x2]) (rest := [.int x1]) (cM_townAt l D cI B μ0 x2 h7) hC hH hl (cwV 1 hts (gV wmX8_162 wvX8_townAt) rfl rfl rfl hdX8_townAt ⟨Nat.le_of_ble_eq_true rfl, Nat.le_of_ble_eq_true rfl⟩) rfl rfl (Nat.le_of_ble_eq_true rfl) ⟨Nat.zero_le _, Nat.zero_le _⟩ dX8_layers_21 (fun H locs hH => ?_)
        refine lv_aload_n hx hb dX8_layers_24 rfl (lv_at hl 0 rfl) ?_
        refine lv_iload_n hx hb dX8_layers_25 rfl (lv_at hl 2 rfl) ?_
        refine lv_iconst (v := 1) hx hb dX8_layers_26 (by decide) ?_
        refine lv_isub hx hb dX8_layers_27 ?_
        obtain ⟨r10, h9, h⟩ := ob_some h
        refine m_calli (As := [.int (x2 - (1 : Int32))]) (rest := [.int r8, .int x1]) (cM_townAt l D cI B μ0 (x2 - (1 : Int32)) h9) hC hH hl (cwV 1 hts (gV wmX8_162 wvX8_townAt) rfl rfl rfl hdX8_townAt ⟨Nat.le_of_ble_eq_true rfl, Nat.le_of_ble_eq_true rfl⟩) rfl rfl (Nat.le_of_ble_eq_true rfl) ⟨Nat.zero_le _, Nat.zero_le _⟩ dX8_layers_28 (fun H locs hH => ?_)
        refine lv_icmp_eq (tgt := 38) hx hb dX8_layers_31 (by decide) (fun c11 => ?_) (fun c11 => ?_)
        · have h := ite_t c11 h
          refine lv_iconst (v := 0) hx hb dX8_layers_38 (by decide) ?_
          refine lv_iadd hx hb dX8_layers_39 ?_
          obtain ⟨v12, e13, h⟩ := bnd_some h
          refine lv_tope e13 ?_
          refine lv_istore_n (lv' := [(1, .int v12), (0, .ref (B 0)), (2, .int x2)]) hx hb dX8_layers_40 rfl hl (by decide) rfl (fun ls hl => ?_)
          obtain ⟨v14, e15, h⟩ := bnd_some h
          refine lv_iinc (v := v14) (lv' := [(2, .int v14), (1, .int v12), (0, .ref (B 0))]) hx hb dX8_layers_41 hl (k := 2) rfl (by rw [e15]; rfl) (by decide) rfl (fun ls hl => ?_)
          refine lv_goto (tgt := 4) hx hb dX8_layers_44 (by decide) ?_
          exact ih v12 v14 H locs ls  hH (lv_sub hl [2, 1, 0] rfl) h
        · have h := ite_f c11 h
          refine lv_iconst (v := 1) hx hb dX8_layers_34 (by decide) ?_
          refine lv_goto (tgt := 39) hx hb dX8_layers_35 (by decide) ?_
          refine lv_iadd hx hb dX8_layers_39 ?_
          obtain ⟨v16, e17, h⟩ := bnd_some h
          refine lv_tope e17 ?_
          refine lv_istore_n (lv' := [(1, .int v16), (0, .ref (B 0)), (2, .int x2)]) hx hb dX8_layers_40 rfl hl (by decide) rfl (fun ls hl => ?_)
          obtain ⟨v18, e19, h⟩ := bnd_some h
          refine lv_iinc (v := v18) (lv' := [(2, .int v18), (1, .int v16), (0, .ref (B 0))]) hx hb dX8_layers_41 hl (k := 2) rfl (by rw [e19]; rfl) (by decide) rfl (fun ls hl => ?_)
          refine lv_goto (tgt := 4) hx hb dX8_layers_44 (by decide) ?_
          exact ih v16 v18 H locs ls  hH (lv_sub hl [2, 1, 0] rfl) h

def fM_layers (μ0 : MS) : Option (Int32) :=
  fM_layers_L4 μ0 (fun (x1 : Int32) => some x1) 10000 (0 : Int32) (0 : Int32)

set_option maxHeartbeats 4000000 in
set_option maxRecDepth 100000 in
theorem cM_layers (l : Launch) (D : va_G) (cI : ClassId) (B : Nat → Nat) (μ0 : MS) {r : Int32} (h : fM_layers μ0 = some r) : ∀ sz, Met l yX8_layers (Cond.code yX8_layers cX8_layers 3 (some .int) :: Tw) rmM_layers (mP D cI B μ0 sz [.ref (B 0)]) (mQi D cI B μ0 sz μ0 r) 0 0 (va_A (mW B cI μ0) sz) := by
  intro sz
  refine Met.ofW (cc := cX8_layers) (maxL := 3) (ret := (some .int)) (by decide) rfl ?_
  intro p e s m args below meth c s₁ Bd hml hv
  obtain ⟨hC, hr⟩ := jC_of Bd hml
  obtain ⟨rfl, rfl, hH⟩ := m_enter hv
  have hC : jC p s m _ meth c cX8_layers 3 RX8 := hC
  have hx := hC.1.1
  have hb := hC.1.2.1
  have hown := hC.1.2.2.2.1
  have hts := hC.1.2.2.2.2
  have hl := lv_entry ([.ref (B 0)]) (n := 3) (Nat.le_of_ble_eq_true rfl)
  rw [lg_entry_eq]
  generalize (lg_sl ([.ref (B 0)]) ++ List.replicate (3 - (lg_sl ([.ref (B 0)])).length) Slot.unset).toArray = ls at hl ⊢
  have hl : lv_has ls 3 [(0, .ref (B 0))] := hl
  unfold fM_layers at h
  refine W_nm (fun H locs eH eL => ?_)
  have hH : mH D cI B s (va_A (mW B cI μ0) s.heap.size) μ0 H locs := by rw [eH, eL]; exact hH
  show W p l e rmM_layers s m _ below meth c H locs 0 0 _ (F0 m 0 ls [])
  refine lv_iconst (v := 0) hx hb dX8_layers_0 (by decide) ?_
  refine lv_istore_n (lv' := [(1, .int (0 : Int32)), (0, .ref (B 0))]) hx hb dX8_layers_1 rfl hl (by decide) rfl (fun ls hl => ?_)
  refine lv_iconst (v := 0) hx hb dX8_layers_2 (by decide) ?_
  refine lv_istore_n (lv' := [(2, .int (0 : Int32)), (1, .int (0 : Int32)), (0, .ref (B 0))]) hx hb dX8_layers_3 rfl hl (by decide) rfl (fun ls hl => ?_)
  refine wM_layers_L4 hC hr  ?_ 10000 (0 : Int32) (0 : Int32) H locs ls  hH (lv_sub hl [2, 1, 0] rfl) h
  intro x1 H locs ls  hH hl h
  refine lv_iload_n hx hb dX8_layers_47 rfl (lv_at hl 0 rfl) ?_
  obtain rfl := some_i1 h
  exact m_iret hC hH hr rfl dX8_layers_48

def rmM_climbing : Room := { frames := 5, cells := 0, slots := 0, locals := 119 }
theorem hdX8_climbing : yX8_climbing.cls = RX8 ∧ yX8_climbing.cls ≠ "java/lang/invoke/MethodHandle" ∧ yX8_climbing.cls ≠ "java/lang/invoke/VarHandle" ∧ (parseMethodDescriptor yX8_climbing.desc).map (fun d => d.parameters.length) = some 0 := by decide +kernel

def fM_climbing_L4 (k38 : Int32 → MS → Option (Int32 × MS)) : Nat → Int32 → Int32 → MS → Option (Int32 × MS)
  | 0, _, _, _ => none
  | n + 1, x1, x2, μ =>
    if (μ 1 0) ≤ (x2 + (1 : Int32)) then (
      k38 x1 μ)
    else (
      ob2 (fM_climbs μ x2) fun r3 μ4 =>
      if r3 = 0 then (
        bnd (x1 + (0 : Int32)) fun v6 =>
        bnd (x2 + (1 : Int32)) fun v8 =>
        (fM_climbing_L4 k38 n) v6 v8 μ4)
      else (
        bnd (x1 + (1 : Int32)) fun v10 =>
        bnd (x2 + (1 : Int32)) fun v12 =>
        (fM_climbing_L4 k38 n) v10 v12 μ4))

set_option maxHeartbeats 4000000 in
set_option maxRecDepth 100000 in
theorem wM_climbing_L4 {p : Program} {l : Launch} {e : Env} {s : State} {m : MethodId} {args : Array Value} {below : List Frame} {meth : Method} {c : Code} {D : va_G} {cI : ClassId} {B : Nat → Nat} {μ0 : MS} {r : Int32} {μr : MS} (hC : jC p s m args meth c cX8_climbing 3 RX8) (hr : meth.sig.returnType = some .int) {k38 : Int32 → MS → Option (Int32 × MS)} (hk38 : ∀ (x1 : Int32) (μ : MS) (H : Heap) (locs : List Loc) (ls : Array Slot), mH D cI B s (va_A (mW B cI μ0) s.heap.size) μ H locs → lv_has ls 3 [(1, .int x1)] → k38 x1 μ = some (r, μr) → W p l e rmM_climbing s m args below meth c H locs 0 0 (MQ below (mQi D cI B μ0 s.heap.size μr r) args s 0 0 (va_A (mW B cI μ0) s.heap.size)) (F0 m 38 ls [])) : ∀ (n : Nat) (x1 : Int32) (x2 : Int32) (μ : MS) (H : Heap) (locs : List Loc) (ls : Array Slot), mH D cI B s (va_A (mW B cI μ0) s.heap.size) μ H locs → lv_has ls 3 [(0, .ref (B 0)), (1, .int x1), (2, .int x2)] → fM_climbing_L4 k38 n x1 x2 μ = some (r, μr) → W p l e rmM_climbing s m args below meth c H locs 0 0 (MQ below (mQi D cI B μ0 s.heap.size μr r) args s 0 0 (va_A (mW B cI μ0) s.heap.size)) (F0 m 4 ls []) := by
  have hx := hC.1.1
  have hb := hC.1.2.1
  have hown := hC.1.2.2.2.1
  have hts := hC.1.2.2.2.2
  intro n
  induction n with
  | zero =>
    intro x1 x2 μ H locs ls  hH hl h
    rw [fM_climbing_L4] at h
    cases h
  | succ n ih =>
    intro x1 x2 μ H locs ls  hH hl h
    rw [fM_climbing_L4] at h
    refine lv_iload_n hx hb dX8_climbing_4 rfl (lv_at hl 2 rfl) ?_
    refine lv_iconst (v := 1) hx hb dX8_climbing_5 (by decide) ?_
    refine lv_iadd hx hb dX8_climbing_6 ?_
    refine lv_aload_n hx hb dX8_climbing_7 rfl (lv_at hl 0 rfl) ?_
    refine m_get hC hH 0 (by decide) wfX8_7 rfl rfl dX8_climbing_8 ?_
    refine lv_iconst (v := 0) hx hb dX8_climbing_11 (by decide) ?_
    refine m_ald hC hH (a := 1) rfl rfl (vp_b rfl) dX8_climbing_12 ?_
    refine lv_icmp_ge (tgt := 38) hx hb dX8_climbing_13 (by decide) (fun c1 => ?_) (fun c1 => ?_)
    · have h := ite_t c1 h
      exact hk38 x1 μ H locs ls  hH (lv_sub hl [1] rfl) h
    · have h := ite_f c1 h
      refine lv_iload_n hx hb dX8_climbing_16 rfl (lv_at hl 1 rfl) ?_
      refine lv_aload_n hx hb dX8_climbing_17 rfl (lv_at hl 0 rfl) ?_
      refine lv_iload_n hx hb dX8_climbing_18 rfl (lv_at hl 2 rfl) ?_
      obtain ⟨r3, μ4, h2, h⟩ := ob2_some h
      refine m_calli (As := [.int x2]) (rest := [.int x1]) (cM_climbs l D cI B μ x2 h2) hC hH hl (cwV 1 hts (gV wmX8_156 wvX8_climbs) rfl rfl rfl hdX8_climbs ⟨Nat.le_of_ble_eq_true rfl, Nat.le_of_ble_eq_true rfl⟩) rfl rfl (Nat.le_of_ble_eq_true rfl) ⟨Nat.zero_le _, Nat.zero_le _⟩ dX8_climbing_19 (fun H locs hH => ?_)
      refine lv_if_eq (tgt := 29) hx hb dX8_climbing_22 (by decide) (fun c5 => ?_) (fun c5 => ?_)
      · have h := ite_t c5 h
        refine lv_iconst (v := 0) hx hb dX8_climbing_29 (by decide) ?_
        refine lv_iadd hx hb dX8_climbing_30 ?_
        obtain ⟨v6, e7, h⟩ := bnd_some h
        refine lv_tope e7 ?_
        refine lv_istore_n (lv' := [(1, .int v6), (0, .ref (B 0)), (2, .int x2)]) hx hb dX8_climbing_31 rfl hl (by decide) rfl (fun ls hl => ?_)
        obtain ⟨v8, e9, h⟩ := bnd_some h
        refine lv_iinc (v := v8) (lv' := [(2, .int v8), (1, .int v6), (0, .ref (B 0))]) hx hb dX8_climbing_32 hl (k := 2) rfl (by rw [e9]; rfl) (by decide) rfl (fun ls hl => ?_)
        refine lv_goto (tgt := 4) hx hb dX8_climbing_35 (by decide) ?_
        exact ih v6 v8 μ4 H locs ls  hH (lv_sub hl [2, 1, 0] rfl) h
      · have h := ite_f c5 h
        refine lv_iconst (v := 1) hx hb dX8_climbing_25 (by decide) ?_
        refine lv_goto (tgt := 30) hx hb dX8_climbing_26 (by decide) ?_
        refine lv_iadd hx hb dX8_climbing_30 ?_
        obtain ⟨v10, e11, h⟩ := bnd_some h
        refine lv_tope e11 ?_
        refine lv_istore_n (lv' := [(1, .int v10), (0, .ref (B 0)), (2, .int x2)]) hx hb dX8_climbing_31 rfl hl (by decide) rfl (fun ls hl => ?_)
        obtain ⟨v12, e13, h⟩ := bnd_some h
        refine lv_iinc (v := v12) (lv' := [(2, .int v12), (1, .int v10), (0, .ref (B 0))]) hx hb dX8_climbing_32 hl (k := 2) rfl (by rw [e13]; rfl) (by decide) rfl (fun ls hl => ?_)
        refine lv_goto (tgt := 4) hx hb dX8_climbing_35 (by decide) ?_
        exact ih v10 v12 μ4 H locs ls  hH (lv_sub hl [2, 1, 0] rfl) h

def fM_climbing (μ0 : MS) : Option (Int32 × MS) :=
  fM_climbing_L4 (fun (x1 : Int32) (μ : MS) => some (x1, μ)) 10000 (0 : Int32) (0 : Int32) μ0

set_option maxHeartbeats 4000000 in
set_option maxRecDepth 100000 in
theorem cM_climbing (l : Launch) (D : va_G) (cI : ClassId) (B : Nat → Nat) (μ0 : MS) {r : Int32} {μr : MS} (h : fM_climbing μ0 = some (r, μr)) : ∀ sz, Met l yX8_climbing (Cond.code yX8_climbing cX8_climbing 3 (some .int) :: Tw) rmM_climbing (mP D cI B μ0 sz [.ref (B 0)]) (mQi D cI B μ0 sz μr r) 0 0 (va_A (mW B cI μ0) sz) := by
  intro sz
  refine Met.ofW (cc := cX8_climbing) (maxL := 3) (ret := (some .int)) (by decide) rfl ?_
  intro p e s m args below meth c s₁ Bd hml hv
  obtain ⟨hC, hr⟩ := jC_of Bd hml
  obtain ⟨rfl, rfl, hH⟩ := m_enter hv
  have hC : jC p s m _ meth c cX8_climbing 3 RX8 := hC
  have hx := hC.1.1
  have hb := hC.1.2.1
  have hown := hC.1.2.2.2.1
  have hts := hC.1.2.2.2.2
  have hl := lv_entry ([.ref (B 0)]) (n := 3) (Nat.le_of_ble_eq_true rfl)
  rw [lg_entry_eq]
  generalize (lg_sl ([.ref (B 0)]) ++ List.replicate (3 - (lg_sl ([.ref (B 0)])).length) Slot.unset).toArray = ls at hl ⊢
  have hl : lv_has ls 3 [(0, .ref (B 0))] := hl
  unfold fM_climbing at h
  refine W_nm (fun H locs eH eL => ?_)
  have hH : mH D cI B s (va_A (mW B cI μ0) s.heap.size) μ0 H locs := by rw [eH, eL]; exact hH
  show W p l e rmM_climbing s m _ below meth c H locs 0 0 _ (F0 m 0 ls [])
  refine lv_iconst (v := 0) hx hb dX8_climbing_0 (by decide) ?_
  refine lv_istore_n (lv' := [(1, .int (0 : Int32)), (0, .ref (B 0))]) hx hb dX8_climbing_1 rfl hl (by decide) rfl (fun ls hl => ?_)
  refine lv_iconst (v := 0) hx hb dX8_climbing_2 (by decide) ?_
  refine lv_istore_n (lv' := [(2, .int (0 : Int32)), (1, .int (0 : Int32)), (0, .ref (B 0))]) hx hb dX8_climbing_3 rfl hl (by decide) rfl (fun ls hl => ?_)
  refine wM_climbing_L4 hC hr  ?_ 10000 (0 : Int32) (0 : Int32) μ0 H locs ls  hH (lv_sub hl [2, 1, 0] rfl) h
  intro x1 μ H locs ls  hH hl h
  refine lv_iload_n hx hb dX8_climbing_38 rfl (lv_at hl 0 rfl) ?_
  obtain ⟨rfl, rfl⟩ := some_i2 h
  exact m_iret hC hH hr rfl dX8_climbing_39

def rmM_thickOfAll : Room := { frames := 1, cells := 0, slots := 0, locals := 22 }
theorem hdX8_thickOfAll : yX8_thickOfAll.cls = RX8 ∧ yX8_thickOfAll.cls ≠ "java/lang/invoke/MethodHandle" ∧ yX8_thickOfAll.cls ≠ "java/lang/invoke/VarHandle" ∧ (parseMethodDescriptor yX8_thickOfAll.desc).map (fun d => d.parameters.length) = some 0 := by decide +kernel

def fM_thickOfAll_L4 (μ0 : MS) (k29 : Int32 → Option (Int32)) : Nat → Int32 → Int32 → Option (Int32)
  | 0, _, _ => none
  | n + 1, x1, x2 =>
    if (μ0 1 0) ≤ x2 then (
      k29 x1)
    else (
      ob (fM_of μ0 x2 (1 : Int32)) fun r3 =>
      bnd (x1 + r3) fun v4 =>
      bnd (x2 + (1 : Int32)) fun v6 =>
      (fM_thickOfAll_L4 μ0 k29 n) v4 v6)

set_option maxHeartbeats 4000000 in
set_option maxRecDepth 100000 in
theorem wM_thickOfAll_L4 {p : Program} {l : Launch} {e : Env} {s : State} {m : MethodId} {args : Array Value} {below : List Frame} {meth : Method} {c : Code} {D : va_G} {cI : ClassId} {B : Nat → Nat} {μ0 : MS} {r : Int32} (hC : jC p s m args meth c cX8_thickOfAll 3 RX8) (hr : meth.sig.returnType = some .int) {k29 : Int32 → Option (Int32)} (hk29 : ∀ (x1 : Int32) (H : Heap) (locs : List Loc) (ls : Array Slot), mH D cI B s (va_A (mW B cI μ0) s.heap.size) μ0 H locs → lv_has ls 3 [(1, .int x1)] → k29 x1 = some r → W p l e rmM_thickOfAll s m args below meth c H locs 0 0 (MQ below (mQi D cI B μ0 s.heap.size μ0 r) args s 0 0 (va_A (mW B cI μ0) s.heap.size)) (F0 m 29 ls [])) : ∀ (n : Nat) (x1 : Int32) (x2 : Int32) (H : Heap) (locs : List Loc) (ls : Array Slot), mH D cI B s (va_A (mW B cI μ0) s.heap.size) μ0 H locs → lv_has ls 3 [(0, .ref (B 0)), (1, .int x1), (2, .int x2)] → fM_thickOfAll_L4 μ0 k29 n x1 x2 = some r → W p l e rmM_thickOfAll s m args below meth c H locs 0 0 (MQ below (mQi D cI B μ0 s.heap.size μ0 r) args s 0 0 (va_A (mW B cI μ0) s.heap.size)) (F0 m 4 ls []) := by
  have hx := hC.1.1
  have hb := hC.1.2.1
  have hown := hC.1.2.2.2.1
  have hts := hC.1.2.2.2.2
  intro n
  induction n with
  | zero =>
    intro x1 x2 H locs ls  hH hl h
    rw [fM_thickOfAll_L4] at h
    cases h
  | succ n ih =>
    intro x1 x2 H locs ls  hH hl h
    rw [fM_thickOfAll_L4] at h
    refine lv_iload_n hx hb dX8_thickOfAll_4 rfl (lv_at hl 2 rfl) ?_
    refine lv_aload_n hx hb dX8_thickOfAll_5 rfl (lv_at hl 0 rfl) ?_
    refine m_get hC hH 0 (by decide) wfX8_7 rfl rfl dX8_thickOfAll_6 ?_
    refine lv_iconst (v := 0) hx hb dX8_thickOfAll_9 (by decide) ?_
    refine m_ald hC hH (a := 1) rfl rfl (vp_b rfl) dX8_thickOfAll_10 ?_
    refine lv_icmp_ge (tgt := 29) hx hb dX8_thickOfAll_11 (by decide) (fun c1 => ?_) (fun c1 => ?_)
    · have h := ite_t c1 h
      exact hk29 x1 H locs ls  hH (lv_sub hl [1] rfl) h
    · have h := ite_f c1 h
      refine lv_iload_n hx hb dX8_thickOfAll_14 rfl (lv_at hl 1 rfl) ?_
      refine lv_aload_n hx hb dX8_thickOfAll_15 rfl (lv_at hl 0 rfl) ?_
      refine lv_iload_n hx hb dX8_thickOfAll_16 rfl (lv_at hl 2 rfl) ?_
      refine lv_iconst (v := 1) hx hb dX8_thickOfAll_17 (by decide) ?_
      obtain ⟨r3, h2, h⟩ := ob_some h
      refine m_calli (As := [.int x2, .int (1 : Int32)]) (rest := [.int x1]) (cM_of l D cI B μ0 x2 (1 : Int32) h2) hC hH hl (cwV 2 hts (gV wmX8_99 wvX8_of) rfl rfl rfl hdX8_of ⟨Nat.le_of_ble_eq_true rfl, Nat.le_of_ble_eq_true rfl⟩) rfl rfl (Nat.le_of_ble_eq_true rfl) ⟨Nat.zero_le _, Nat.zero_le _⟩ dX8_thickOfAll_18 (fun H locs hH => ?_)
      refine lv_iadd hx hb dX8_thickOfAll_21 ?_
      obtain ⟨v4, e5, h⟩ := bnd_some h
      refine lv_tope e5 ?_
      refine lv_istore_n (lv' := [(1, .int v4), (0, .ref (B 0)), (2, .int x2)]) hx hb dX8_thickOfAll_22 rfl hl (by decide) rfl (fun ls hl => ?_)
      obtain ⟨v6, e7, h⟩ := bnd_some h
      refine lv_iinc (v := v6) (lv' := [(2, .int v6), (1, .int v4), (0, .ref (B 0))]) hx hb dX8_thickOfAll_23 hl (k := 2) rfl (by rw [e7]; rfl) (by decide) rfl (fun ls hl => ?_)
      refine lv_goto (tgt := 4) hx hb dX8_thickOfAll_26 (by decide) ?_
      exact ih v4 v6 H locs ls  hH (lv_sub hl [2, 1, 0] rfl) h

def fM_thickOfAll (μ0 : MS) : Option (Int32) :=
  fM_thickOfAll_L4 μ0 (fun (x1 : Int32) => some x1) 10000 (0 : Int32) (0 : Int32)

set_option maxHeartbeats 4000000 in
set_option maxRecDepth 100000 in
theorem cM_thickOfAll (l : Launch) (D : va_G) (cI : ClassId) (B : Nat → Nat) (μ0 : MS) {r : Int32} (h : fM_thickOfAll μ0 = some r) : ∀ sz, Met l yX8_thickOfAll (Cond.code yX8_thickOfAll cX8_thickOfAll 3 (some .int) :: Tw) rmM_thickOfAll (mP D cI B μ0 sz [.ref (B 0)]) (mQi D cI B μ0 sz μ0 r) 0 0 (va_A (mW B cI μ0) sz) := by
  intro sz
  refine Met.ofW (cc := cX8_thickOfAll) (maxL := 3) (ret := (some .int)) (by decide) rfl ?_
  intro p e s m args below meth c s₁ Bd hml hv
  obtain ⟨hC, hr⟩ := jC_of Bd hml
  obtain ⟨rfl, rfl, hH⟩ := m_enter hv
  have hC : jC p s m _ meth c cX8_thickOfAll 3 RX8 := hC
  have hx := hC.1.1
  have hb := hC.1.2.1
  have hown := hC.1.2.2.2.1
  have hts := hC.1.2.2.2.2
  have hl := lv_entry ([.ref (B 0)]) (n := 3) (Nat.le_of_ble_eq_true rfl)
  rw [lg_entry_eq]
  generalize (lg_sl ([.ref (B 0)]) ++ List.replicate (3 - (lg_sl ([.ref (B 0)])).length) Slot.unset).toArray = ls at hl ⊢
  have hl : lv_has ls 3 [(0, .ref (B 0))] := hl
  unfold fM_thickOfAll at h
  refine W_nm (fun H locs eH eL => ?_)
  have hH : mH D cI B s (va_A (mW B cI μ0) s.heap.size) μ0 H locs := by rw [eH, eL]; exact hH
  show W p l e rmM_thickOfAll s m _ below meth c H locs 0 0 _ (F0 m 0 ls [])
  refine lv_iconst (v := 0) hx hb dX8_thickOfAll_0 (by decide) ?_
  refine lv_istore_n (lv' := [(1, .int (0 : Int32)), (0, .ref (B 0))]) hx hb dX8_thickOfAll_1 rfl hl (by decide) rfl (fun ls hl => ?_)
  refine lv_iconst (v := 0) hx hb dX8_thickOfAll_2 (by decide) ?_
  refine lv_istore_n (lv' := [(2, .int (0 : Int32)), (1, .int (0 : Int32)), (0, .ref (B 0))]) hx hb dX8_thickOfAll_3 rfl hl (by decide) rfl (fun ls hl => ?_)
  refine wM_thickOfAll_L4 hC hr  ?_ 10000 (0 : Int32) (0 : Int32) H locs ls  hH (lv_sub hl [2, 1, 0] rfl) h
  intro x1 H locs ls  hH hl h
  refine lv_iload_n hx hb dX8_thickOfAll_29 rfl (lv_at hl 0 rfl) ?_
  obtain rfl := some_i1 h
  exact m_iret hC hH hr rfl dX8_thickOfAll_30

def rmM_bag : Room := { frames := 6, cells := 0, slots := 0, locals := 141 }
theorem hdX8_bag : yX8_bag.cls = RX8 ∧ yX8_bag.cls ≠ "java/lang/invoke/MethodHandle" ∧ yX8_bag.cls ≠ "java/lang/invoke/VarHandle" ∧ (parseMethodDescriptor yX8_bag.desc).map (fun d => d.parameters.length) = some 1 := by decide +kernel

def fM_bag (μ0 : MS) (x1 : Int32) : Option (Int32 × MS) :=
  if x1 = (0 : Int32) then (
    ob2 (fM_mess μ0) fun r3 μ4 =>
    some (r3, μ4))
  else if x1 = (1 : Int32) then (
    ob (fM_layers μ0) fun r7 =>
    some (r7, μ0))
  else if x1 = (2 : Int32) then (
    some ((μ0 1 3), μ0))
  else if x1 = (3 : Int32) then (
    ob2 (fM_climbing μ0) fun r11 μ12 =>
    some (r11, μ12))
  else if x1 = (4 : Int32) then (
    ob (fM_thickOfAll μ0) fun r15 =>
    some (r15, μ0))
  else (
    some ((-1000000001 : Int32), μ0))

set_option maxHeartbeats 4000000 in
set_option maxRecDepth 100000 in
theorem cM_bag (l : Launch) (D : va_G) (cI : ClassId) (B : Nat → Nat) (μ0 : MS) (x1 : Int32) {r : Int32} {μr : MS} (h : fM_bag μ0 x1 = some (r, μr)) : ∀ sz, Met l yX8_bag (Cond.code yX8_bag cX8_bag 2 (some .int) :: Tw) rmM_bag (mP D cI B μ0 sz [.ref (B 0), .int x1]) (mQi D cI B μ0 sz μr r) 0 0 (va_A (mW B cI μ0) sz) := by
  intro sz
  refine Met.ofW (cc := cX8_bag) (maxL := 2) (ret := (some .int)) (by decide) rfl ?_
  intro p e s m args below meth c s₁ Bd hml hv
  obtain ⟨hC, hr⟩ := jC_of Bd hml
  obtain ⟨rfl, rfl, hH⟩ := m_enter hv
  have hC : jC p s m _ meth c cX8_bag 2 RX8 := hC
  have hx := hC.1.1
  have hb := hC.1.2.1
  have hown := hC.1.2.2.2.1
  have hts := hC.1.2.2.2.2
  have hl := lv_entry ([.ref (B 0), .int x1]) (n := 2) (Nat.le_of_ble_eq_true rfl)
  rw [lg_entry_eq]
  generalize (lg_sl ([.ref (B 0), .int x1]) ++ List.replicate (2 - (lg_sl ([.ref (B 0), .int x1])).length) Slot.unset).toArray = ls at hl ⊢
  have hl : lv_has ls 2 [(0, .ref (B 0)), (1, .int x1)] := hl
  unfold fM_bag at h
  refine W_nm (fun H locs eH eL => ?_)
  have hH : mH D cI B s (va_A (mW B cI μ0) s.heap.size) μ0 H locs := by rw [eH, eL]; exact hH
  show W p l e rmM_bag s m _ below meth c H locs 0 0 _ (F0 m 0 ls [])
  refine lv_iload_n hx hb dX8_bag_0 rfl (lv_at hl 1 rfl) ?_
  by_cases c1 : x1 = (0 : Int32)
  · have h := ite_t c1 h
    refine lv_tsw (tgt := 36) (off := 35) hx hb (0) c1 dX8_bag_1 (by decide) (by decide) (by decide) (by decide) ?_
    refine lv_aload_n hx hb dX8_bag_36 rfl (lv_at hl 0 rfl) ?_
    obtain ⟨r3, μ4, h2, h⟩ := ob2_some h
    refine m_calli (As := []) (rest := []) (cM_mess l D cI B μ0  h2) hC hH hl (cwV 0 hts (gV wmX8_165 wvX8_mess) rfl rfl rfl hdX8_mess ⟨Nat.le_of_ble_eq_true rfl, Nat.le_of_ble_eq_true rfl⟩) rfl rfl (Nat.le_of_ble_eq_true rfl) ⟨Nat.zero_le _, Nat.zero_le _⟩ dX8_bag_37 (fun H locs hH => ?_)
    obtain ⟨rfl, rfl⟩ := some_i2 h
    exact m_iret hC hH hr rfl dX8_bag_40
  · have h := ite_f c1 h
    by_cases c5 : x1 = (1 : Int32)
    · have h := ite_t c5 h
      refine lv_tsw (tgt := 41) (off := 40) hx hb (1) c5 dX8_bag_1 (by decide) (by decide) (by decide) (by decide) ?_
      refine lv_aload_n hx hb dX8_bag_41 rfl (lv_at hl 0 rfl) ?_
      obtain ⟨r7, h6, h⟩ := ob_some h
      refine m_calli (As := []) (rest := []) (cM_layers l D cI B μ0  h6) hC hH hl (cwV 0 hts (gV wmX8_168 wvX8_layers) rfl rfl rfl hdX8_layers ⟨Nat.le_of_ble_eq_true rfl, Nat.le_of_ble_eq_true rfl⟩) rfl rfl (Nat.le_of_ble_eq_true rfl) ⟨Nat.zero_le _, Nat.zero_le _⟩ dX8_bag_42 (fun H locs hH => ?_)
      obtain ⟨rfl, rfl⟩ := some_i2 h
      exact m_iret hC hH hr rfl dX8_bag_45
    · have h := ite_f c5 h
      by_cases c8 : x1 = (2 : Int32)
      · have h := ite_t c8 h
        refine lv_tsw (tgt := 46) (off := 45) hx hb (2) c8 dX8_bag_1 (by decide) (by decide) (by decide) (by decide) ?_
        refine lv_aload_n hx hb dX8_bag_46 rfl (lv_at hl 0 rfl) ?_
        refine m_get hC hH 0 (by decide) wfX8_7 rfl rfl dX8_bag_47 ?_
        refine lv_iconst (v := 3) hx hb dX8_bag_50 (by decide) ?_
        refine m_ald hC hH (a := 1) rfl rfl (vp_b rfl) dX8_bag_51 ?_
        obtain ⟨rfl, rfl⟩ := some_i2 h
        exact m_iret hC hH hr rfl dX8_bag_52
      · have h := ite_f c8 h
        by_cases c9 : x1 = (3 : Int32)
        · have h := ite_t c9 h
          refine lv_tsw (tgt := 53) (off := 52) hx hb (3) c9 dX8_bag_1 (by decide) (by decide) (by decide) (by decide) ?_
          refine lv_aload_n hx hb dX8_bag_53 rfl (lv_at hl 0 rfl) ?_
          obtain ⟨r11, μ12, h10, h⟩ := ob2_some h
          refine m_calli (As := []) (rest := []) (cM_climbing l D cI B μ0  h10) hC hH hl (cwV 0 hts (gV wmX8_171 wvX8_climbing) rfl rfl rfl hdX8_climbing ⟨Nat.le_of_ble_eq_true rfl, Nat.le_of_ble_eq_true rfl⟩) rfl rfl (Nat.le_of_ble_eq_true rfl) ⟨Nat.zero_le _, Nat.zero_le _⟩ dX8_bag_54 (fun H locs hH => ?_)
          obtain ⟨rfl, rfl⟩ := some_i2 h
          exact m_iret hC hH hr rfl dX8_bag_57
        · have h := ite_f c9 h
          by_cases c13 : x1 = (4 : Int32)
          · have h := ite_t c13 h
            refine lv_tsw (tgt := 58) (off := 57) hx hb (4) c13 dX8_bag_1 (by decide) (by decide) (by decide) (by decide) ?_
            refine lv_aload_n hx hb dX8_bag_58 rfl (lv_at hl 0 rfl) ?_
            obtain ⟨r15, h14, h⟩ := ob_some h
            refine m_calli (As := []) (rest := []) (cM_thickOfAll l D cI B μ0  h14) hC hH hl (cwV 0 hts (gV wmX8_174 wvX8_thickOfAll) rfl rfl rfl hdX8_thickOfAll ⟨Nat.le_of_ble_eq_true rfl, Nat.le_of_ble_eq_true rfl⟩) rfl rfl (Nat.le_of_ble_eq_true rfl) ⟨Nat.zero_le _, Nat.zero_le _⟩ dX8_bag_59 (fun H locs hH => ?_)
            obtain ⟨rfl, rfl⟩ := some_i2 h
            exact m_iret hC hH hr rfl dX8_bag_62
          · have h := ite_f c13 h
            refine lv_tswd (tgt := 63) hx hb [0, 1, 2, 3, 4] (by simp only [List.mem_cons, List.not_mem_nil, or_false]; intro z hz; rcases hz with rfl | rfl | rfl | rfl | rfl <;> first | exact i32ne c1 (by decide) | exact i32ne c5 (by decide) | exact i32ne c8 (by decide) | exact i32ne c9 (by decide) | exact i32ne c13 (by decide)) dX8_bag_1 (by decide) (by decide) (by decide) ?_
            refine lv_ldc (v := -1000000001) hx hb hown (hts _ wkX8_90) dX8_bag_63 ?_
            obtain ⟨rfl, rfl⟩ := some_i2 h
            exact m_iret (v := -1000000001) hC hH hr rfl dX8_bag_65

def rmM_thickOnTop : Room := { frames := 1, cells := 0, slots := 0, locals := 22 }
theorem hdX8_thickOnTop : yX8_thickOnTop.cls = RX8 ∧ yX8_thickOnTop.cls ≠ "java/lang/invoke/MethodHandle" ∧ yX8_thickOnTop.cls ≠ "java/lang/invoke/VarHandle" ∧ (parseMethodDescriptor yX8_thickOnTop.desc).map (fun d => d.parameters.length) = some 0 := by decide +kernel

def fM_thickOnTop (μ0 : MS) : Option (Int32) :=
  if (μ0 1 0) = 0 then (
    some (0 : Int32))
  else (
    ob (fM_of μ0 (μ0 1 6) (1 : Int32)) fun r3 =>
    some r3)

set_option maxHeartbeats 4000000 in
set_option maxRecDepth 100000 in
theorem cM_thickOnTop (l : Launch) (D : va_G) (cI : ClassId) (B : Nat → Nat) (μ0 : MS) {r : Int32} (h : fM_thickOnTop μ0 = some r) : ∀ sz, Met l yX8_thickOnTop (Cond.code yX8_thickOnTop cX8_thickOnTop 1 (some .int) :: Tw) rmM_thickOnTop (mP D cI B μ0 sz [.ref (B 0)]) (mQi D cI B μ0 sz μ0 r) 0 0 (va_A (mW B cI μ0) sz) := by
  intro sz
  refine Met.ofW (cc := cX8_thickOnTop) (maxL := 1) (ret := (some .int)) (by decide) rfl ?_
  intro p e s m args below meth c s₁ Bd hml hv
  obtain ⟨hC, hr⟩ := jC_of Bd hml
  obtain ⟨rfl, rfl, hH⟩ := m_enter hv
  have hC : jC p s m _ meth c cX8_thickOnTop 1 RX8 := hC
  have hx := hC.1.1
  have hb := hC.1.2.1
  have hown := hC.1.2.2.2.1
  have hts := hC.1.2.2.2.2
  have hl := lv_entry ([.ref (B 0)]) (n := 1) (Nat.le_of_ble_eq_true rfl)
  rw [lg_entry_eq]
  generalize (lg_sl ([.ref (B 0)]) ++ List.replicate (1 - (lg_sl ([.ref (B 0)])).length) Slot.unset).toArray = ls at hl ⊢
  have hl : lv_has ls 1 [(0, .ref (B 0))] := hl
  unfold fM_thickOnTop at h
  refine W_nm (fun H locs eH eL => ?_)
  have hH : mH D cI B s (va_A (mW B cI μ0) s.heap.size) μ0 H locs := by rw [eH, eL]; exact hH
  show W p l e rmM_thickOnTop s m _ below meth c H locs 0 0 _ (F0 m 0 ls [])
  refine lv_aload_n hx hb dX8_thickOnTop_0 rfl (lv_at hl 0 rfl) ?_
  refine m_get hC hH 0 (by decide) wfX8_7 rfl rfl dX8_thickOnTop_1 ?_
  refine lv_iconst (v := 0) hx hb dX8_thickOnTop_4 (by decide) ?_
  refine m_ald hC hH (a := 1) rfl rfl (vp_b rfl) dX8_thickOnTop_5 ?_
  refine lv_if_ne (tgt := 13) hx hb dX8_thickOnTop_6 (by decide) (fun c1 => ?_) (fun c1 => ?_)
  · have h := ite_f c1 h
    refine lv_aload_n hx hb dX8_thickOnTop_13 rfl (lv_at hl 0 rfl) ?_
    refine lv_aload_n hx hb dX8_thickOnTop_14 rfl (lv_at hl 0 rfl) ?_
    refine m_get hC hH 0 (by decide) wfX8_7 rfl rfl dX8_thickOnTop_15 ?_
    refine lv_bipush (v := 6) hx hb dX8_thickOnTop_18 (by decide) ?_
    refine m_ald hC hH (a := 1) rfl rfl (vp_b rfl) dX8_thickOnTop_20 ?_
    refine lv_iconst (v := 1) hx hb dX8_thickOnTop_21 (by decide) ?_
    obtain ⟨r3, h2, h⟩ := ob_some h
    refine m_calli (As := [.int (μ0 1 6), .int (1 : Int32)]) (rest := []) (cM_of l D cI B μ0 (μ0 1 6) (1 : Int32) h2) hC hH hl (cwV 2 hts (gV wmX8_99 wvX8_of) rfl rfl rfl hdX8_of ⟨Nat.le_of_ble_eq_true rfl, Nat.le_of_ble_eq_true rfl⟩) rfl rfl (Nat.le_of_ble_eq_true rfl) ⟨Nat.zero_le _, Nat.zero_le _⟩ dX8_thickOnTop_22 (fun H locs hH => ?_)
    obtain rfl := some_i1 h
    exact m_iret hC hH hr rfl dX8_thickOnTop_25
  · have h := ite_t c1 h
    refine lv_iconst (v := 0) hx hb dX8_thickOnTop_9 (by decide) ?_
    refine lv_goto (tgt := 25) hx hb dX8_thickOnTop_10 (by decide) ?_
    obtain rfl := some_i1 h
    exact m_iret (v := 0) hC hH hr rfl dX8_thickOnTop_25

def rmM_manyTowns : Room := { frames := 1, cells := 0, slots := 0, locals := 22 }
theorem hdX8_manyTowns : yX8_manyTowns.cls = RX8 ∧ yX8_manyTowns.cls ≠ "java/lang/invoke/MethodHandle" ∧ yX8_manyTowns.cls ≠ "java/lang/invoke/VarHandle" ∧ (parseMethodDescriptor yX8_manyTowns.desc).map (fun d => d.parameters.length) = some 0 := by decide +kernel

def fM_manyTowns_J35 (μ0 : MS) (k6 : Int32 → Int32 → Int32 → Option (Int32)) (x1 : Int32) (x3 : Int32) (y0 : Int32) (y1 : Int32) : Option (Int32) :=
  bnd (y0 + y1) fun v5 =>
  ob (fM_of μ0 x3 (2 : Int32)) fun r8 =>
  bnd (x1 ||| ((1 : Int32) <<< (r8 &&& 31))) fun v9 =>
  bnd (x3 + (1 : Int32)) fun v11 =>
  k6 v9 v5 v11

set_option maxHeartbeats 4000000 in
set_option maxRecDepth 100000 in
theorem wM_manyTowns_J35 {p : Program} {l : Launch} {e : Env} {s : State} {m : MethodId} {args : Array Value} {below : List Frame} {meth : Method} {c : Code} {D : va_G} {cI : ClassId} {B : Nat → Nat} {μ0 : MS} {r : Int32} (hC : jC p s m args meth c cX8_manyTowns 4 RX8) (hr : meth.sig.returnType = some .int) {k6 : Int32 → Int32 → Int32 → Option (Int32)} (hk6 : ∀ (x1 : Int32) (x2 : Int32) (x3 : Int32) (H : Heap) (locs : List Loc) (ls : Array Slot), mH D cI B s (va_A (mW B cI μ0) s.heap.size) μ0 H locs → lv_has ls 4 [(0, .ref (B 0)), (1, .int x1), (2, .int x2), (3, .int x3)] → k6 x1 x2 x3 = some r → W p l e rmM_manyTowns s m args below meth c H locs 0 0 (MQ below (mQi D cI B μ0 s.heap.size μ0 r) args s 0 0 (va_A (mW B cI μ0) s.heap.size)) (F0 m 6 ls [])) (x1 : Int32) (x3 : Int32) (y0 : Int32) (y1 : Int32) (H : Heap) (locs : List Loc) (ls : Array Slot) (hH : mH D cI B s (va_A (mW B cI μ0) s.heap.size) μ0 H locs) (hl : lv_has ls 4 [(0, .ref (B 0)), (1, .int x1), (3, .int x3)]) (h : fM_manyTowns_J35 μ0 k6 x1 x3 y0 y1 = some r) : W p l e rmM_manyTowns s m args below meth c H locs 0 0 (MQ below (mQi D cI B μ0 s.heap.size μ0 r) args s 0 0 (va_A (mW B cI μ0) s.heap.size)) (F0 m 35 ls [.int y1, .int y0]) := by
  have hx := hC.1.1
  have hb := hC.1.2.1
  have hown := hC.1.2.2.2.1
  have hts := hC.1.2.2.2.2
  unfold fM_manyTowns_J35 at h
  refine lv_iadd hx hb dX8_manyTowns_35 ?_
  obtain ⟨v5, e6, h⟩ := bnd_some h
  refine lv_tope e6 ?_
  refine lv_istore_n (lv' := [(2, .int v5), (0, .ref (B 0)), (1, .int x1), (3, .int x3)]) hx hb dX8_manyTowns_36 rfl hl (by decide) rfl (fun ls hl => ?_)
  refine lv_iload_n hx hb dX8_manyTowns_37 rfl (lv_at hl 2 rfl) ?_
  refine lv_iconst (v := 1) hx hb dX8_manyTowns_38 (by decide) ?_
  refine lv_aload_n hx hb dX8_manyTowns_39 rfl (lv_at hl 1 rfl) ?_
  refine lv_iload_n hx hb dX8_manyTowns_40 rfl (lv_at hl 3 rfl) ?_
  refine lv_iconst (v := 2) hx hb dX8_manyTowns_41 (by decide) ?_
  obtain ⟨r8, h7, h⟩ := ob_some h
  refine m_calli (As := [.int x3, .int (2 : Int32)]) (rest := [.int (1 : Int32), .int x1]) (cM_of l D cI B μ0 x3 (2 : Int32) h7) hC hH hl (cwV 2 hts (gV wmX8_99 wvX8_of) rfl rfl rfl hdX8_of ⟨Nat.le_of_ble_eq_true rfl, Nat.le_of_ble_eq_true rfl⟩) rfl rfl (Nat.le_of_ble_eq_true rfl) ⟨Nat.zero_le _, Nat.zero_le _⟩ dX8_manyTowns_42 (fun H locs hH => ?_)
  refine lv_ishl hx hb dX8_manyTowns_45 ?_
  refine lv_ior hx hb dX8_manyTowns_46 ?_
  obtain ⟨v9, e10, h⟩ := bnd_some h
  refine lv_tope e10 ?_
  refine lv_istore_n (lv' := [(1, .int v9), (2, .int v5), (0, .ref (B 0)), (3, .int x3)]) hx hb dX8_manyTowns_47 rfl hl (by decide) rfl (fun ls hl => ?_)
  obtain ⟨v11, e12, h⟩ := bnd_some h
  refine lv_iinc (v := v11) (lv' := [(3, .int v11), (1, .int v9), (2, .int v5), (0, .ref (B 0))]) hx hb dX8_manyTowns_48 hl (k := 3) rfl (by rw [e12]; rfl) (by decide) rfl (fun ls hl => ?_)
  refine lv_goto (tgt := 6) hx hb dX8_manyTowns_51 (by decide) ?_
  exact hk6 v9 v5 v11 H locs ls  hH (lv_sub hl [3, 1, 2, 0] rfl) h

def fM_manyTowns_L6 (μ0 : MS) (k54 : Int32 → Option (Int32)) : Nat → Int32 → Int32 → Int32 → Option (Int32)
  | 0, _, _, _ => none
  | n + 1, x1, x2, x3 =>
    if (μ0 1 0) ≤ x3 then (
      k54 x2)
    else (
      ob (fM_of μ0 x3 (2 : Int32)) fun r3 =>
      if ((x1 >>> (r3 &&& 31)) &&& (1 : Int32)) = 0 then (
        fM_manyTowns_J35 μ0 (fM_manyTowns_L6 μ0 k54 n) x1 x3 x2 (1 : Int32))
      else (
        fM_manyTowns_J35 μ0 (fM_manyTowns_L6 μ0 k54 n) x1 x3 x2 (0 : Int32)))

set_option maxHeartbeats 4000000 in
set_option maxRecDepth 100000 in
theorem wM_manyTowns_L6 {p : Program} {l : Launch} {e : Env} {s : State} {m : MethodId} {args : Array Value} {below : List Frame} {meth : Method} {c : Code} {D : va_G} {cI : ClassId} {B : Nat → Nat} {μ0 : MS} {r : Int32} (hC : jC p s m args meth c cX8_manyTowns 4 RX8) (hr : meth.sig.returnType = some .int) {k54 : Int32 → Option (Int32)} (hk54 : ∀ (x2 : Int32) (H : Heap) (locs : List Loc) (ls : Array Slot), mH D cI B s (va_A (mW B cI μ0) s.heap.size) μ0 H locs → lv_has ls 4 [(2, .int x2)] → k54 x2 = some r → W p l e rmM_manyTowns s m args below meth c H locs 0 0 (MQ below (mQi D cI B μ0 s.heap.size μ0 r) args s 0 0 (va_A (mW B cI μ0) s.heap.size)) (F0 m 54 ls [])) : ∀ (n : Nat) (x1 : Int32) (x2 : Int32) (x3 : Int32) (H : Heap) (locs : List Loc) (ls : Array Slot), mH D cI B s (va_A (mW B cI μ0) s.heap.size) μ0 H locs → lv_has ls 4 [(0, .ref (B 0)), (1, .int x1), (2, .int x2), (3, .int x3)] → fM_manyTowns_L6 μ0 k54 n x1 x2 x3 = some r → W p l e rmM_manyTowns s m args below meth c H locs 0 0 (MQ below (mQi D cI B μ0 s.heap.size μ0 r) args s 0 0 (va_A (mW B cI μ0) s.heap.size)) (F0 m 6 ls []) := by
  have hx := hC.1.1
  have hb := hC.1.2.1
  have hown := hC.1.2.2.2.1
  have hts := hC.1.2.2.2.2
  intro n
  induction n with
  | zero =>
    intro x1 x2 x3 H locs ls  hH hl h
    rw [fM_manyTowns_L6] at h
    cases h
  | succ n ih =>
    intro x1 x2 x3 H locs ls  hH hl h
    rw [fM_manyTowns_L6] at h
    refine lv_iload_n hx hb dX8_manyTowns_6 rfl (lv_at hl 3 rfl) ?_
    refine lv_aload_n hx hb dX8_manyTowns_7 rfl (lv_at hl 0 rfl) ?_
    refine m_get hC hH 0 (by decide) wfX8_7 rfl rfl dX8_manyTowns_8 ?_
    refine lv_iconst (v := 0) hx hb dX8_manyTowns_11 (by decide) ?_
    refine m_ald hC hH (a := 1) rfl rfl (vp_b rfl) dX8_manyTowns_12 ?_
    refine lv_icmp_ge (tgt := 54) hx hb dX8_manyTowns_13 (by decide) (fun c1 => ?_) (fun c1 => ?_)
    · have h := ite_t c1 h
      exact hk54 x2 H locs ls  hH (lv_sub hl [2] rfl) h
    · have h := ite_f c1 h
      refine lv_iload_n hx hb dX8_manyTowns_16 rfl (lv_at hl 2 rfl) ?_
      refine lv_iload_n hx hb dX8_manyTowns_17 rfl (lv_at hl 1 rfl) ?_
      refine lv_aload_n hx hb dX8_manyTowns_18 rfl (lv_at hl 0 rfl) ?_
      refine lv_iload_n hx hb dX8_manyTowns_19 rfl (lv_at hl 3 rfl) ?_
      refine lv_iconst (v := 2) hx hb dX8_manyTowns_20 (by decide) ?_
      obtain ⟨r3, h2, h⟩ := ob_some h
      refine m_calli (As := [.int x3, .int (2 : Int32)]) (rest := [.int x1, .int x2]) (cM_of l D cI B μ0 x3 (2 : Int32) h2) hC hH hl (cwV 2 hts (gV wmX8_99 wvX8_of) rfl rfl rfl hdX8_of ⟨Nat.le_of_ble_eq_true rfl, Nat.le_of_ble_eq_true rfl⟩) rfl rfl (Nat.le_of_ble_eq_true rfl) ⟨Nat.zero_le _, Nat.zero_le _⟩ dX8_manyTowns_21 (fun H locs hH => ?_)
      refine lv_ishr hx hb dX8_manyTowns_24 ?_
      refine lv_iconst (v := 1) hx hb dX8_manyTowns_25 (by decide) ?_
      refine lv_iand hx hb dX8_manyTowns_26 ?_
      refine lv_if_ne (tgt := 34) hx hb dX8_manyTowns_27 (by decide) (fun c4 => ?_) (fun c4 => ?_)
      · have h := ite_f c4 h
        refine lv_iconst (v := 0) hx hb dX8_manyTowns_34 (by decide) ?_
        exact wM_manyTowns_J35 hC hr ih x1 x3 x2 (0 : Int32) H locs ls  hH (lv_sub hl [0, 1, 3] rfl) h
      · have h := ite_t c4 h
        refine lv_iconst (v := 1) hx hb dX8_manyTowns_30 (by decide) ?_
        refine lv_goto (tgt := 35) hx hb dX8_manyTowns_31 (by decide) ?_
        exact wM_manyTowns_J35 hC hr ih x1 x3 x2 (1 : Int32) H locs ls  hH (lv_sub hl [0, 1, 3] rfl) h

def fM_manyTowns (μ0 : MS) : Option (Int32) :=
  fM_manyTowns_L6 μ0 (fun (x2 : Int32) => some x2) 10000 (0 : Int32) (0 : Int32) (0 : Int32)

set_option maxHeartbeats 4000000 in
set_option maxRecDepth 100000 in
theorem cM_manyTowns (l : Launch) (D : va_G) (cI : ClassId) (B : Nat → Nat) (μ0 : MS) {r : Int32} (h : fM_manyTowns μ0 = some r) : ∀ sz, Met l yX8_manyTowns (Cond.code yX8_manyTowns cX8_manyTowns 4 (some .int) :: Tw) rmM_manyTowns (mP D cI B μ0 sz [.ref (B 0)]) (mQi D cI B μ0 sz μ0 r) 0 0 (va_A (mW B cI μ0) sz) := by
  intro sz
  refine Met.ofW (cc := cX8_manyTowns) (maxL := 4) (ret := (some .int)) (by decide) rfl ?_
  intro p e s m args below meth c s₁ Bd hml hv
  obtain ⟨hC, hr⟩ := jC_of Bd hml
  obtain ⟨rfl, rfl, hH⟩ := m_enter hv
  have hC : jC p s m _ meth c cX8_manyTowns 4 RX8 := hC
  have hx := hC.1.1
  have hb := hC.1.2.1
  have hown := hC.1.2.2.2.1
  have hts := hC.1.2.2.2.2
  have hl := lv_entry ([.ref (B 0)]) (n := 4) (Nat.le_of_ble_eq_true rfl)
  rw [lg_entry_eq]
  generalize (lg_sl ([.ref (B 0)]) ++ List.replicate (4 - (lg_sl ([.ref (B 0)])).length) Slot.unset).toArray = ls at hl ⊢
  have hl : lv_has ls 4 [(0, .ref (B 0))] := hl
  unfold fM_manyTowns at h
  refine W_nm (fun H locs eH eL => ?_)
  have hH : mH D cI B s (va_A (mW B cI μ0) s.heap.size) μ0 H locs := by rw [eH, eL]; exact hH
  show W p l e rmM_manyTowns s m _ below meth c H locs 0 0 _ (F0 m 0 ls [])
  refine lv_iconst (v := 0) hx hb dX8_manyTowns_0 (by decide) ?_
  refine lv_istore_n (lv' := [(1, .int (0 : Int32)), (0, .ref (B 0))]) hx hb dX8_manyTowns_1 rfl hl (by decide) rfl (fun ls hl => ?_)
  refine lv_iconst (v := 0) hx hb dX8_manyTowns_2 (by decide) ?_
  refine lv_istore_n (lv' := [(2, .int (0 : Int32)), (1, .int (0 : Int32)), (0, .ref (B 0))]) hx hb dX8_manyTowns_3 rfl hl (by decide) rfl (fun ls hl => ?_)
  refine lv_iconst (v := 0) hx hb dX8_manyTowns_4 (by decide) ?_
  refine lv_istore_n (lv' := [(3, .int (0 : Int32)), (2, .int (0 : Int32)), (1, .int (0 : Int32)), (0, .ref (B 0))]) hx hb dX8_manyTowns_5 rfl hl (by decide) rfl (fun ls hl => ?_)
  refine wM_manyTowns_L6 hC hr  ?_ 10000 (0 : Int32) (0 : Int32) (0 : Int32) H locs ls  hH (lv_sub hl [3, 2, 1, 0] rfl) h
  intro x2 H locs ls  hH hl h
  refine lv_iload_n hx hb dX8_manyTowns_54 rfl (lv_at hl 0 rfl) ?_
  obtain rfl := some_i1 h
  exact m_iret hC hH hr rfl dX8_manyTowns_55

def rmM_laysBy : Room := { frames := 0, cells := 0, slots := 0, locals := 0 }
theorem hdX8_laysBy : yX8_laysBy.cls = RX8 ∧ yX8_laysBy.cls ≠ "java/lang/invoke/MethodHandle" ∧ yX8_laysBy.cls ≠ "java/lang/invoke/VarHandle" ∧ (parseMethodDescriptor yX8_laysBy.desc).map (fun d => d.parameters.length) = some 0 := by decide +kernel

def fM_laysBy_L2 (k26 : MS → Option (MS)) : Nat → Int32 → MS → Option (MS)
  | 0, _, _ => none
  | n + 1, x1, μ =>
    if (76 : Int32) ≤ x1 then (
      k26 μ)
    else (
      ck x1 (3076) <|
      ck x1 (76) <|
      bnd (up2 μ 16 (x1).toNatClampNeg (μ 1 (x1).toNatClampNeg)) fun μ4 =>
      bnd (x1 + (1 : Int32)) fun v6 =>
      (fM_laysBy_L2 k26 n) v6 μ4)

set_option maxHeartbeats 4000000 in
set_option maxRecDepth 100000 in
theorem wM_laysBy_L2 {p : Program} {l : Launch} {e : Env} {s : State} {m : MethodId} {args : Array Value} {below : List Frame} {meth : Method} {c : Code} {D : va_G} {cI : ClassId} {B : Nat → Nat} {μ0 : MS} {μr : MS} (hC : jC p s m args meth c cX8_laysBy 2 RX8) (hr : meth.sig.returnType = none) {k26 : MS → Option (MS)} (hk26 : ∀ (μ : MS) (H : Heap) (locs : List Loc) (ls : Array Slot), mH D cI B s (va_A (mW B cI μ0) s.heap.size) μ H locs → lv_has ls 2 [] → k26 μ = some μr → W p l e rmM_laysBy s m args below meth c H locs 0 0 (MQ below (mQv D cI B μ0 s.heap.size μr) args s 0 0 (va_A (mW B cI μ0) s.heap.size)) (F0 m 26 ls [])) : ∀ (n : Nat) (x1 : Int32) (μ : MS) (H : Heap) (locs : List Loc) (ls : Array Slot), mH D cI B s (va_A (mW B cI μ0) s.heap.size) μ H locs → lv_has ls 2 [(0, .ref (B 0)), (1, .int x1)] → fM_laysBy_L2 k26 n x1 μ = some μr → W p l e rmM_laysBy s m args below meth c H locs 0 0 (MQ below (mQv D cI B μ0 s.heap.size μr) args s 0 0 (va_A (mW B cI μ0) s.heap.size)) (F0 m 2 ls []) := by
  have hx := hC.1.1
  have hb := hC.1.2.1
  have hown := hC.1.2.2.2.1
  have hts := hC.1.2.2.2.2
  intro n
  induction n with
  | zero =>
    intro x1 μ H locs ls  hH hl h
    rw [fM_laysBy_L2] at h
    cases h
  | succ n ih =>
    intro x1 μ H locs ls  hH hl h
    rw [fM_laysBy_L2] at h
    refine lv_iload_n hx hb dX8_laysBy_2 rfl (lv_at hl 1 rfl) ?_
    refine lv_bipush (v := 76) hx hb dX8_laysBy_3 (by decide) ?_
    refine lv_icmp_ge (tgt := 26) hx hb dX8_laysBy_5 (by decide) (fun c1 => ?_) (fun c1 => ?_)
    · have h := ite_t c1 h
      exact hk26 μ H locs ls  hH (lv_sub hl [] rfl) h
    · have h := ite_f c1 h
      refine lv_aload_n hx hb dX8_laysBy_8 rfl (lv_at hl 0 rfl) ?_
      refine m_get hC hH 15 (by decide) wfX8_53 rfl rfl dX8_laysBy_9 ?_
      refine lv_iload_n hx hb dX8_laysBy_12 rfl (lv_at hl 1 rfl) ?_
      refine lv_aload_n hx hb dX8_laysBy_13 rfl (lv_at hl 0 rfl) ?_
      refine m_get hC hH 0 (by decide) wfX8_7 rfl rfl dX8_laysBy_14 ?_
      refine lv_iload_n hx hb dX8_laysBy_17 rfl (lv_at hl 1 rfl) ?_
      obtain ⟨i2, h⟩ := ck_some h
      refine m_ald hC hH (a := 1) rfl rfl i2 dX8_laysBy_18 ?_
      obtain ⟨i3, h⟩ := ck_some h
      obtain ⟨μ4, e5, h⟩ := bnd_some h
      refine m_ast hC hH (a := 16) rfl rfl e5 i3 dX8_laysBy_19 (fun H locs hH => ?_)
      obtain ⟨v6, e7, h⟩ := bnd_some h
      refine lv_iinc (v := v6) (lv' := [(1, .int v6), (0, .ref (B 0))]) hx hb dX8_laysBy_20 hl (k := 1) rfl (by rw [e7]; rfl) (by decide) rfl (fun ls hl => ?_)
      refine lv_goto (tgt := 2) hx hb dX8_laysBy_23 (by decide) ?_
      exact ih v6 μ4 H locs ls  hH (lv_sub hl [1, 0] rfl) h

def fM_laysBy (μ0 : MS) : Option (MS) :=
  fM_laysBy_L2 (fun (μ : MS) => some μ) 10000 (0 : Int32) μ0

set_option maxHeartbeats 4000000 in
set_option maxRecDepth 100000 in
theorem cM_laysBy (l : Launch) (D : va_G) (cI : ClassId) (B : Nat → Nat) (μ0 : MS) {μr : MS} (h : fM_laysBy μ0 = some μr) : ∀ sz, Met l yX8_laysBy (Cond.code yX8_laysBy cX8_laysBy 2 none :: Tw) rmM_laysBy (mP D cI B μ0 sz [.ref (B 0)]) (mQv D cI B μ0 sz μr) 0 0 (va_A (mW B cI μ0) sz) := by
  intro sz
  refine Met.ofW (cc := cX8_laysBy) (maxL := 2) (ret := (none)) (by decide) rfl ?_
  intro p e s m args below meth c s₁ Bd hml hv
  obtain ⟨hC, hr⟩ := jC_of Bd hml
  obtain ⟨rfl, rfl, hH⟩ := m_enter hv
  have hC : jC p s m _ meth c cX8_laysBy 2 RX8 := hC
  have hx := hC.1.1
  have hb := hC.1.2.1
  have hown := hC.1.2.2.2.1
  have hts := hC.1.2.2.2.2
  have hl := lv_entry ([.ref (B 0)]) (n := 2) (Nat.le_of_ble_eq_true rfl)
  rw [lg_entry_eq]
  generalize (lg_sl ([.ref (B 0)]) ++ List.replicate (2 - (lg_sl ([.ref (B 0)])).length) Slot.unset).toArray = ls at hl ⊢
  have hl : lv_has ls 2 [(0, .ref (B 0))] := hl
  unfold fM_laysBy at h
  refine W_nm (fun H locs eH eL => ?_)
  have hH : mH D cI B s (va_A (mW B cI μ0) s.heap.size) μ0 H locs := by rw [eH, eL]; exact hH
  show W p l e rmM_laysBy s m _ below meth c H locs 0 0 _ (F0 m 0 ls [])
  refine lv_iconst (v := 0) hx hb dX8_laysBy_0 (by decide) ?_
  refine lv_istore_n (lv' := [(1, .int (0 : Int32)), (0, .ref (B 0))]) hx hb dX8_laysBy_1 rfl hl (by decide) rfl (fun ls hl => ?_)
  refine wM_laysBy_L2 hC hr  ?_ 10000 (0 : Int32) μ0 H locs ls  hH (lv_sub hl [1, 0] rfl) h
  intro μ H locs ls  hH hl h
  obtain rfl := some_i1 h
  exact m_vret hC hH hr dX8_laysBy_26

def rmM_laysBack : Room := { frames := 0, cells := 0, slots := 0, locals := 0 }
theorem hdX8_laysBack : yX8_laysBack.cls = RX8 ∧ yX8_laysBack.cls ≠ "java/lang/invoke/MethodHandle" ∧ yX8_laysBack.cls ≠ "java/lang/invoke/VarHandle" ∧ (parseMethodDescriptor yX8_laysBack.desc).map (fun d => d.parameters.length) = some 0 := by decide +kernel

def fM_laysBack_L2 (k26 : MS → Option (MS)) : Nat → Int32 → MS → Option (MS)
  | 0, _, _ => none
  | n + 1, x1, μ =>
    if (76 : Int32) ≤ x1 then (
      k26 μ)
    else (
      ck x1 (76) <|
      ck x1 (3076) <|
      bnd (up2 μ 1 (x1).toNatClampNeg (μ 16 (x1).toNatClampNeg)) fun μ4 =>
      bnd (x1 + (1 : Int32)) fun v6 =>
      (fM_laysBack_L2 k26 n) v6 μ4)

set_option maxHeartbeats 4000000 in
set_option maxRecDepth 100000 in
theorem wM_laysBack_L2 {p : Program} {l : Launch} {e : Env} {s : State} {m : MethodId} {args : Array Value} {below : List Frame} {meth : Method} {c : Code} {D : va_G} {cI : ClassId} {B : Nat → Nat} {μ0 : MS} {μr : MS} (hC : jC p s m args meth c cX8_laysBack 2 RX8) (hr : meth.sig.returnType = none) {k26 : MS → Option (MS)} (hk26 : ∀ (μ : MS) (H : Heap) (locs : List Loc) (ls : Array Slot), mH D cI B s (va_A (mW B cI μ0) s.heap.size) μ H locs → lv_has ls 2 [] → k26 μ = some μr → W p l e rmM_laysBack s m args below meth c H locs 0 0 (MQ below (mQv D cI B μ0 s.heap.size μr) args s 0 0 (va_A (mW B cI μ0) s.heap.size)) (F0 m 26 ls [])) : ∀ (n : Nat) (x1 : Int32) (μ : MS) (H : Heap) (locs : List Loc) (ls : Array Slot), mH D cI B s (va_A (mW B cI μ0) s.heap.size) μ H locs → lv_has ls 2 [(0, .ref (B 0)), (1, .int x1)] → fM_laysBack_L2 k26 n x1 μ = some μr → W p l e rmM_laysBack s m args below meth c H locs 0 0 (MQ below (mQv D cI B μ0 s.heap.size μr) args s 0 0 (va_A (mW B cI μ0) s.heap.size)) (F0 m 2 ls []) := by
  have hx := hC.1.1
  have hb := hC.1.2.1
  have hown := hC.1.2.2.2.1
  have hts := hC.1.2.2.2.2
  intro n
  induction n with
  | zero =>
    intro x1 μ H locs ls  hH hl h
    rw [fM_laysBack_L2] at h
    cases h
  | succ n ih =>
    intro x1 μ H locs ls  hH hl h
    rw [fM_laysBack_L2] at h
    refine lv_iload_n hx hb dX8_laysBack_2 rfl (lv_at hl 1 rfl) ?_
    refine lv_bipush (v := 76) hx hb dX8_laysBack_3 (by decide) ?_
    refine lv_icmp_ge (tgt := 26) hx hb dX8_laysBack_5 (by decide) (fun c1 => ?_) (fun c1 => ?_)
    · have h := ite_t c1 h
      exact hk26 μ H locs ls  hH (lv_sub hl [] rfl) h
    · have h := ite_f c1 h
      refine lv_aload_n hx hb dX8_laysBack_8 rfl (lv_at hl 0 rfl) ?_
      refine m_get hC hH 0 (by decide) wfX8_7 rfl rfl dX8_laysBack_9 ?_
      refine lv_iload_n hx hb dX8_laysBack_12 rfl (lv_at hl 1 rfl) ?_
      refine lv_aload_n hx hb dX8_laysBack_13 rfl (lv_at hl 0 rfl) ?_
      refine m_get hC hH 15 (by decide) wfX8_53 rfl rfl dX8_laysBack_14 ?_
      refine lv_iload_n hx hb dX8_laysBack_17 rfl (lv_at hl 1 rfl) ?_
      obtain ⟨i2, h⟩ := ck_some h
      refine m_ald hC hH (a := 16) rfl rfl i2 dX8_laysBack_18 ?_
      obtain ⟨i3, h⟩ := ck_some h
      obtain ⟨μ4, e5, h⟩ := bnd_some h
      refine m_ast hC hH (a := 1) rfl rfl e5 i3 dX8_laysBack_19 (fun H locs hH => ?_)
      obtain ⟨v6, e7, h⟩ := bnd_some h
      refine lv_iinc (v := v6) (lv' := [(1, .int v6), (0, .ref (B 0))]) hx hb dX8_laysBack_20 hl (k := 1) rfl (by rw [e7]; rfl) (by decide) rfl (fun ls hl => ?_)
      refine lv_goto (tgt := 2) hx hb dX8_laysBack_23 (by decide) ?_
      exact ih v6 μ4 H locs ls  hH (lv_sub hl [1, 0] rfl) h

def fM_laysBack (μ0 : MS) : Option (MS) :=
  fM_laysBack_L2 (fun (μ : MS) => some μ) 10000 (0 : Int32) μ0

set_option maxHeartbeats 4000000 in
set_option maxRecDepth 100000 in
theorem cM_laysBack (l : Launch) (D : va_G) (cI : ClassId) (B : Nat → Nat) (μ0 : MS) {μr : MS} (h : fM_laysBack μ0 = some μr) : ∀ sz, Met l yX8_laysBack (Cond.code yX8_laysBack cX8_laysBack 2 none :: Tw) rmM_laysBack (mP D cI B μ0 sz [.ref (B 0)]) (mQv D cI B μ0 sz μr) 0 0 (va_A (mW B cI μ0) sz) := by
  intro sz
  refine Met.ofW (cc := cX8_laysBack) (maxL := 2) (ret := (none)) (by decide) rfl ?_
  intro p e s m args below meth c s₁ Bd hml hv
  obtain ⟨hC, hr⟩ := jC_of Bd hml
  obtain ⟨rfl, rfl, hH⟩ := m_enter hv
  have hC : jC p s m _ meth c cX8_laysBack 2 RX8 := hC
  have hx := hC.1.1
  have hb := hC.1.2.1
  have hown := hC.1.2.2.2.1
  have hts := hC.1.2.2.2.2
  have hl := lv_entry ([.ref (B 0)]) (n := 2) (Nat.le_of_ble_eq_true rfl)
  rw [lg_entry_eq]
  generalize (lg_sl ([.ref (B 0)]) ++ List.replicate (2 - (lg_sl ([.ref (B 0)])).length) Slot.unset).toArray = ls at hl ⊢
  have hl : lv_has ls 2 [(0, .ref (B 0))] := hl
  unfold fM_laysBack at h
  refine W_nm (fun H locs eH eL => ?_)
  have hH : mH D cI B s (va_A (mW B cI μ0) s.heap.size) μ0 H locs := by rw [eH, eL]; exact hH
  show W p l e rmM_laysBack s m _ below meth c H locs 0 0 _ (F0 m 0 ls [])
  refine lv_iconst (v := 0) hx hb dX8_laysBack_0 (by decide) ?_
  refine lv_istore_n (lv' := [(1, .int (0 : Int32)), (0, .ref (B 0))]) hx hb dX8_laysBack_1 rfl hl (by decide) rfl (fun ls hl => ?_)
  refine wM_laysBack_L2 hC hr  ?_ 10000 (0 : Int32) μ0 H locs ls  hH (lv_sub hl [1, 0] rfl) h
  intro μ H locs ls  hH hl h
  obtain rfl := some_i1 h
  exact m_vret hC hH hr dX8_laysBack_26

def rmM_behind : Room := { frames := 7, cells := 0, slots := 0, locals := 162 }
theorem hdX8_behind : yX8_behind.cls = RX8 ∧ yX8_behind.cls ≠ "java/lang/invoke/MethodHandle" ∧ yX8_behind.cls ≠ "java/lang/invoke/VarHandle" ∧ (parseMethodDescriptor yX8_behind.desc).map (fun d => d.parameters.length) = some 2 := by decide +kernel

def fM_behind (μ0 : MS) (x1 : Int32) (x2 : Int32) : Option (Int32 × MS) :=
  ob (fM_isIn μ0 (x1).toInt64 (0 : Int64) (100 : Int64)) fun r2 =>
  if r2 = 0 then (
    some ((-1000000001 : Int32), μ0))
  else (
    ob (fM_isIn μ0 (x2).toInt64 (0 : Int64) (((1 : Int32) + (μ0 1 0))).toInt64) fun r5 =>
    if r5 = 0 then (
      some ((-1000000001 : Int32), μ0))
    else (
      ob (fM_laysBy μ0) fun μ8 =>
      ob (fM_goesOnMany μ8 x1) fun μ10 =>
      if x2 = 0 then (
        ob2 (fM_mess μ10) fun r23 μ24 =>
        ob (fM_laysBack μ24) fun μ26 =>
        some (r23, μ26))
      else (
        if x2 = (1 : Int32) then (
          bnd (μ10 1 3) fun v18 =>
          ob (fM_laysBack μ10) fun μ21 =>
          some (v18, μ21))
        else (
          ck (((6 : Int32) + x2) - (2 : Int32)) (3076) <|
          bnd (μ10 1 ((((6 : Int32) + x2) - (2 : Int32))).toNatClampNeg) fun v14 =>
          ob (fM_laysBack μ10) fun μ17 =>
          some (v14, μ17)))))

set_option maxHeartbeats 4000000 in
set_option maxRecDepth 100000 in
theorem cM_behind (l : Launch) (D : va_G) (cI : ClassId) (B : Nat → Nat) (μ0 : MS) (x1 : Int32) (x2 : Int32) {r : Int32} {μr : MS} (h : fM_behind μ0 x1 x2 = some (r, μr)) : ∀ sz, Met l yX8_behind (Cond.code yX8_behind cX8_behind 4 (some .int) :: Tw) rmM_behind (mP D cI B μ0 sz [.ref (B 0), .int x1, .int x2]) (mQi D cI B μ0 sz μr r) 0 0 (va_A (mW B cI μ0) sz) := by
  intro sz
  refine Met.ofW (cc := cX8_behind) (maxL := 4) (ret := (some .int)) (by decide) rfl ?_
  intro p e s m args below meth c s₁ Bd hml hv
  obtain ⟨hC, hr⟩ := jC_of Bd hml
  obtain ⟨rfl, rfl, hH⟩ := m_enter hv
  have hC : jC p s m _ meth c cX8_behind 4 RX8 := hC
  have hx := hC.1.1
  have hb := hC.1.2.1
  have hown := hC.1.2.2.2.1
  have hts := hC.1.2.2.2.2
  have hl := lv_entry ([.ref (B 0), .int x1, .int x2]) (n := 4) (Nat.le_of_ble_eq_true rfl)
  rw [lg_entry_eq]
  generalize (lg_sl ([.ref (B 0), .int x1, .int x2]) ++ List.replicate (4 - (lg_sl ([.ref (B 0), .int x1, .int x2])).length) Slot.unset).toArray = ls at hl ⊢
  have hl : lv_has ls 4 [(0, .ref (B 0)), (1, .int x1), (2, .int x2)] := hl
  unfold fM_behind at h
  refine W_nm (fun H locs eH eL => ?_)
  have hH : mH D cI B s (va_A (mW B cI μ0) s.heap.size) μ0 H locs := by rw [eH, eL]; exact hH
  show W p l e rmM_behind s m _ below meth c H locs 0 0 _ (F0 m 0 ls [])
  refine lv_iload_n hx hb dX8_behind_0 rfl (lv_at hl 1 rfl) ?_
  refine lv_i2l hx hb dX8_behind_1 rfl ?_
  refine lv_lconst (v := 0) hx hb dX8_behind_2 (by decide) ?_
  refine lv_ldc2 (v := 100) hx hb hown (hts _ wqX8_148) dX8_behind_3 ?_
  obtain ⟨r2, h1, h⟩ := ob_some h
  refine m_calls (As := [.long (x1).toInt64, .long (0 : Int64), .long (100 : Int64)]) (rest := []) (cM_isIn l D cI B μ0 (x1).toInt64 (0 : Int64) (100 : Int64) h1) hC hH hl (va_cwS 3 hts (gS wmX8_75 wsX8_isIn) rfl rfl rfl hdX8_isIn ⟨Nat.le_of_ble_eq_true rfl, Nat.le_of_ble_eq_true rfl⟩) rfl rfl (Nat.le_of_ble_eq_true rfl) ⟨Nat.zero_le _, Nat.zero_le _⟩ dX8_behind_6 (fun H locs hH => ?_)
  refine lv_if_eq (tgt := 30) hx hb dX8_behind_9 (by decide) (fun c3 => ?_) (fun c3 => ?_)
  · have h := ite_t c3 h
    refine lv_ldc (v := -1000000001) hx hb hown (hts _ wkX8_90) dX8_behind_30 ?_
    obtain ⟨rfl, rfl⟩ := some_i2 h
    exact m_iret (v := -1000000001) hC hH hr rfl dX8_behind_32
  · have h := ite_f c3 h
    refine lv_iload_n hx hb dX8_behind_12 rfl (lv_at hl 2 rfl) ?_
    refine lv_i2l hx hb dX8_behind_13 rfl ?_
    refine lv_lconst (v := 0) hx hb dX8_behind_14 (by decide) ?_
    refine lv_iconst (v := 1) hx hb dX8_behind_15 (by decide) ?_
    refine lv_aload_n hx hb dX8_behind_16 rfl (lv_at hl 0 rfl) ?_
    refine m_get hC hH 0 (by decide) wfX8_7 rfl rfl dX8_behind_17 ?_
    refine lv_iconst (v := 0) hx hb dX8_behind_20 (by decide) ?_
    refine m_ald hC hH (a := 1) rfl rfl (vp_b rfl) dX8_behind_21 ?_
    refine lv_iadd hx hb dX8_behind_22 ?_
    refine lv_i2l hx hb dX8_behind_23 rfl ?_
    obtain ⟨r5, h4, h⟩ := ob_some h
    refine m_calls (As := [.long (x2).toInt64, .long (0 : Int64), .long (((1 : Int32) + (μ0 1 0))).toInt64]) (rest := []) (cM_isIn l D cI B μ0 (x2).toInt64 (0 : Int64) (((1 : Int32) + (μ0 1 0))).toInt64 h4) hC hH hl (va_cwS 3 hts (gS wmX8_75 wsX8_isIn) rfl rfl rfl hdX8_isIn ⟨Nat.le_of_ble_eq_true rfl, Nat.le_of_ble_eq_true rfl⟩) rfl rfl (Nat.le_of_ble_eq_true rfl) ⟨Nat.zero_le _, Nat.zero_le _⟩ dX8_behind_24 (fun H locs hH => ?_)
    refine lv_if_ne (tgt := 33) hx hb dX8_behind_27 (by decide) (fun c6 => ?_) (fun c6 => ?_)
    · have h := ite_f c6 h
      refine lv_aload_n hx hb dX8_behind_33 rfl (lv_at hl 0 rfl) ?_
      obtain ⟨μ8, h7, h⟩ := ob_some h
      refine m_callv (As := []) (rest := []) (cM_laysBy l D cI B μ0  h7) hC hH hl (cwV 0 hts (gV wmX8_177 wvX8_laysBy) rfl rfl rfl hdX8_laysBy ⟨Nat.le_of_ble_eq_true rfl, Nat.le_of_ble_eq_true rfl⟩) rfl rfl (Nat.le_of_ble_eq_true rfl) ⟨Nat.zero_le _, Nat.zero_le _⟩ dX8_behind_34 (fun H locs hH => ?_)
      refine lv_aload_n hx hb dX8_behind_37 rfl (lv_at hl 0 rfl) ?_
      refine lv_iload_n hx hb dX8_behind_38 rfl (lv_at hl 1 rfl) ?_
      obtain ⟨μ10, h9, h⟩ := ob_some h
      refine m_callv (As := [.int x1]) (rest := []) (cM_goesOnMany l D cI B μ8 x1 h9) hC hH hl (cwV 1 hts (gV wmX8_180 wvX8_goesOnMany) rfl rfl rfl hdX8_goesOnMany ⟨Nat.le_of_ble_eq_true rfl, Nat.le_of_ble_eq_true rfl⟩) rfl rfl (Nat.le_of_ble_eq_true rfl) ⟨Nat.zero_le _, Nat.zero_le _⟩ dX8_behind_39 (fun H locs hH => ?_)
      refine lv_iload_n hx hb dX8_behind_42 rfl (lv_at hl 2 rfl) ?_
      refine lv_if_ne (tgt := 53) hx hb dX8_behind_43 (by decide) (fun c11 => ?_) (fun c11 => ?_)
      · have h := ite_f c11 h
        refine lv_iload_n hx hb dX8_behind_53 rfl (lv_at hl 2 rfl) ?_
        refine lv_iconst (v := 1) hx hb dX8_behind_54 (by decide) ?_
        refine lv_icmp_ne (tgt := 67) hx hb dX8_behind_55 (by decide) (fun c12 => ?_) (fun c12 => ?_)
        · have h := ite_f c12 h
          refine lv_aload_n hx hb dX8_behind_67 rfl (lv_at hl 0 rfl) ?_
          refine m_get hC hH 0 (by decide) wfX8_7 rfl rfl dX8_behind_68 ?_
          refine lv_bipush (v := 6) hx hb dX8_behind_71 (by decide) ?_
          refine lv_iload_n hx hb dX8_behind_73 rfl (lv_at hl 2 rfl) ?_
          refine lv_iadd hx hb dX8_behind_74 ?_
          refine lv_iconst (v := 2) hx hb dX8_behind_75 (by decide) ?_
          refine lv_isub hx hb dX8_behind_76 ?_
          obtain ⟨i13, h⟩ := ck_some h
          refine m_ald hC hH (a := 1) rfl rfl i13 dX8_behind_77 ?_
          obtain ⟨v14, e15, h⟩ := bnd_some h
          refine lv_tope e15 ?_
          refine lv_istore_n (lv' := [(3, .int v14), (0, .ref (B 0)), (1, .int x1), (2, .int x2)]) hx hb dX8_behind_78 rfl hl (by decide) rfl (fun ls hl => ?_)
          refine lv_aload_n hx hb dX8_behind_79 rfl (lv_at hl 1 rfl) ?_
          obtain ⟨μ17, h16, h⟩ := ob_some h
          refine m_callv (As := []) (rest := []) (cM_laysBack l D cI B μ10  h16) hC hH hl (cwV 0 hts (gV wmX8_184 wvX8_laysBack) rfl rfl rfl hdX8_laysBack ⟨Nat.le_of_ble_eq_true rfl, Nat.le_of_ble_eq_true rfl⟩) rfl rfl (Nat.le_of_ble_eq_true rfl) ⟨Nat.zero_le _, Nat.zero_le _⟩ dX8_behind_80 (fun H locs hH => ?_)
          refine lv_iload_n hx hb dX8_behind_83 rfl (lv_at hl 0 rfl) ?_
          obtain ⟨rfl, rfl⟩ := some_i2 h
          exact m_iret hC hH hr rfl dX8_behind_84
        · have h := ite_t c12 h
          refine lv_aload_n hx hb dX8_behind_58 rfl (lv_at hl 0 rfl) ?_
          refine m_get hC hH 0 (by decide) wfX8_7 rfl rfl dX8_behind_59 ?_
          refine lv_iconst (v := 3) hx hb dX8_behind_62 (by decide) ?_
          refine m_ald hC hH (a := 1) rfl rfl (vp_b rfl) dX8_behind_63 ?_
          refine lv_goto (tgt := 78) hx hb dX8_behind_64 (by decide) ?_
          obtain ⟨v18, e19, h⟩ := bnd_some h
          refine lv_tope e19 ?_
          refine lv_istore_n (lv' := [(3, .int v18), (0, .ref (B 0)), (1, .int x1), (2, .int x2)]) hx hb dX8_behind_78 rfl hl (by decide) rfl (fun ls hl => ?_)
          refine lv_aload_n hx hb dX8_behind_79 rfl (lv_at hl 1 rfl) ?_
          obtain ⟨μ21, h20, h⟩ := ob_some h
          refine m_callv (As := []) (rest := []) (cM_laysBack l D cI B μ10  h20) hC hH hl (cwV 0 hts (gV wmX8_184 wvX8_laysBack) rfl rfl rfl hdX8_laysBack ⟨Nat.le_of_ble_eq_true rfl, Nat.le_of_ble_eq_true rfl⟩) rfl rfl (Nat.le_of_ble_eq_true rfl) ⟨Nat.zero_le _, Nat.zero_le _⟩ dX8_behind_80 (fun H locs hH => ?_)
          refine lv_iload_n hx hb dX8_behind_83 rfl (lv_at hl 0 rfl) ?_
          obtain ⟨rfl, rfl⟩ := some_i2 h
          exact m_iret hC hH hr rfl dX8_behind_84
      · have h := ite_t c11 h
        refine lv_aload_n hx hb dX8_behind_46 rfl (lv_at hl 0 rfl) ?_
        obtain ⟨r23, μ24, h22, h⟩ := ob2_some h
        refine m_calli (As := []) (rest := []) (cM_mess l D cI B μ10  h22) hC hH hl (cwV 0 hts (gV wmX8_165 wvX8_mess) rfl rfl rfl hdX8_mess ⟨Nat.le_of_ble_eq_true rfl, Nat.le_of_ble_eq_true rfl⟩) rfl rfl (Nat.le_of_ble_eq_true rfl) ⟨Nat.zero_le _, Nat.zero_le _⟩ dX8_behind_47 (fun H locs hH => ?_)
        refine lv_goto (tgt := 78) hx hb dX8_behind_50 (by decide) ?_
        refine lv_istore_n (lv' := [(3, .int r23), (0, .ref (B 0)), (1, .int x1), (2, .int x2)]) hx hb dX8_behind_78 rfl hl (by decide) rfl (fun ls hl => ?_)
        refine lv_aload_n hx hb dX8_behind_79 rfl (lv_at hl 1 rfl) ?_
        obtain ⟨μ26, h25, h⟩ := ob_some h
        refine m_callv (As := []) (rest := []) (cM_laysBack l D cI B μ24  h25) hC hH hl (cwV 0 hts (gV wmX8_184 wvX8_laysBack) rfl rfl rfl hdX8_laysBack ⟨Nat.le_of_ble_eq_true rfl, Nat.le_of_ble_eq_true rfl⟩) rfl rfl (Nat.le_of_ble_eq_true rfl) ⟨Nat.zero_le _, Nat.zero_le _⟩ dX8_behind_80 (fun H locs hH => ?_)
        refine lv_iload_n hx hb dX8_behind_83 rfl (lv_at hl 0 rfl) ?_
        obtain ⟨rfl, rfl⟩ := some_i2 h
        exact m_iret hC hH hr rfl dX8_behind_84
    · have h := ite_t c6 h
      refine lv_ldc (v := -1000000001) hx hb hown (hts _ wkX8_90) dX8_behind_30 ?_
      obtain ⟨rfl, rfl⟩ := some_i2 h
      exact m_iret (v := -1000000001) hC hH hr rfl dX8_behind_32

def rmM_rests : Room := { frames := 6, cells := 0, slots := 0, locals := 141 }
theorem hdX8_rests : yX8_rests.cls = RX8 ∧ yX8_rests.cls ≠ "java/lang/invoke/MethodHandle" ∧ yX8_rests.cls ≠ "java/lang/invoke/VarHandle" ∧ (parseMethodDescriptor yX8_rests.desc).map (fun d => d.parameters.length) = some 0 := by decide +kernel

def fM_rests_L8 (k42 : Int32 → MS → Option (Int32 × MS)) : Nat → Int32 → Int32 → MS → Option (Int32 × MS)
  | 0, _, _, _ => none
  | n + 1, x1, x2, μ =>
    if (300 : Int32) < x2 then (
      k42 x1 μ)
    else (
      if 0 ≤ x1 then (
        k42 x1 μ)
      else (
        ob2 (fM_climbing μ) fun r6 μ7 =>
        if r6 = 0 then (
          ob (fM_goesOn μ7) fun μ14 =>
          bnd (x2 + (1 : Int32)) fun v15 =>
          (fM_rests_L8 k42 n) x2 v15 μ14)
        else (
          ob (fM_goesOn μ7) fun μ10 =>
          bnd (x2 + (1 : Int32)) fun v11 =>
          (fM_rests_L8 k42 n) (-1 : Int32) v11 μ10)))

set_option maxHeartbeats 4000000 in
set_option maxRecDepth 100000 in
theorem wM_rests_L8 {p : Program} {l : Launch} {e : Env} {s : State} {m : MethodId} {args : Array Value} {below : List Frame} {meth : Method} {c : Code} {D : va_G} {cI : ClassId} {B : Nat → Nat} {μ0 : MS} {r : Int32} {μr : MS} (hC : jC p s m args meth c cX8_rests 3 RX8) (hr : meth.sig.returnType = some .int) {k42 : Int32 → MS → Option (Int32 × MS)} (hk42 : ∀ (x1 : Int32) (μ : MS) (H : Heap) (locs : List Loc) (ls : Array Slot), mH D cI B s (va_A (mW B cI μ0) s.heap.size) μ H locs → lv_has ls 3 [(0, .ref (B 0)), (1, .int x1)] → k42 x1 μ = some (r, μr) → W p l e rmM_rests s m args below meth c H locs 0 0 (MQ below (mQi D cI B μ0 s.heap.size μr r) args s 0 0 (va_A (mW B cI μ0) s.heap.size)) (F0 m 42 ls [])) : ∀ (n : Nat) (x1 : Int32) (x2 : Int32) (μ : MS) (H : Heap) (locs : List Loc) (ls : Array Slot), mH D cI B s (va_A (mW B cI μ0) s.heap.size) μ H locs → lv_has ls 3 [(0, .ref (B 0)), (1, .int x1), (2, .int x2)] → fM_rests_L8 k42 n x1 x2 μ = some (r, μr) → W p l e rmM_rests s m args below meth c H locs 0 0 (MQ below (mQi D cI B μ0 s.heap.size μr r) args s 0 0 (va_A (mW B cI μ0) s.heap.size)) (F0 m 8 ls []) := by
  have hx := hC.1.1
  have hb := hC.1.2.1
  have hown := hC.1.2.2.2.1
  have hts := hC.1.2.2.2.2
  intro n
  induction n with
  | zero =>
    intro x1 x2 μ H locs ls  hH hl h
    rw [fM_rests_L8] at h
    cases h
  | succ n ih =>
    intro x1 x2 μ H locs ls  hH hl h
    rw [fM_rests_L8] at h
    refine lv_iload_n hx hb dX8_rests_8 rfl (lv_at hl 2 rfl) ?_
    refine lv_sipush (v := 300) hx hb dX8_rests_9 (by decide) ?_
    refine lv_icmp_gt (tgt := 42) hx hb dX8_rests_12 (by decide) (fun c3 => ?_) (fun c3 => ?_)
    · have h := ite_t c3 h
      exact hk42 x1 μ H locs ls  hH (lv_sub hl [0, 1] rfl) h
    · have h := ite_f c3 h
      refine lv_iload_n hx hb dX8_rests_15 rfl (lv_at hl 1 rfl) ?_
      refine lv_if_ge (tgt := 42) hx hb dX8_rests_16 (by decide) (fun c4 => ?_) (fun c4 => ?_)
      · have h := ite_t c4 h
        exact hk42 x1 μ H locs ls  hH (lv_sub hl [0, 1] rfl) h
      · have h := ite_f c4 h
        refine lv_aload_n hx hb dX8_rests_19 rfl (lv_at hl 0 rfl) ?_
        obtain ⟨r6, μ7, h5, h⟩ := ob2_some h
        refine m_calli (As := []) (rest := []) (cM_climbing l D cI B μ  h5) hC hH hl (cwV 0 hts (gV wmX8_171 wvX8_climbing) rfl rfl rfl hdX8_climbing ⟨Nat.le_of_ble_eq_true rfl, Nat.le_of_ble_eq_true rfl⟩) rfl rfl (Nat.le_of_ble_eq_true rfl) ⟨Nat.zero_le _, Nat.zero_le _⟩ dX8_rests_20 (fun H locs hH => ?_)
        refine lv_if_ne (tgt := 30) hx hb dX8_rests_23 (by decide) (fun c8 => ?_) (fun c8 => ?_)
        · have h := ite_f c8 h
          refine lv_iconst (v := -1) hx hb dX8_rests_30 (by decide) ?_
          refine lv_istore_n (lv' := [(1, .int (-1 : Int32)), (0, .ref (B 0)), (2, .int x2)]) hx hb dX8_rests_31 rfl hl (by decide) rfl (fun ls hl => ?_)
          refine lv_aload_n hx hb dX8_rests_32 rfl (lv_at hl 1 rfl) ?_
          obtain ⟨μ10, h9, h⟩ := ob_some h
          refine m_callv (As := []) (rest := []) (cM_goesOn l D cI B μ7  h9) hC hH hl (cwV 0 hts (gV wmX8_159 wvX8_goesOn) rfl rfl rfl hdX8_goesOn ⟨Nat.le_of_ble_eq_true rfl, Nat.le_of_ble_eq_true rfl⟩) rfl rfl (Nat.le_of_ble_eq_true rfl) ⟨Nat.zero_le _, Nat.zero_le _⟩ dX8_rests_33 (fun H locs hH => ?_)
          obtain ⟨v11, e12, h⟩ := bnd_some h
          refine lv_iinc (v := v11) (lv' := [(2, .int v11), (1, .int (-1 : Int32)), (0, .ref (B 0))]) hx hb dX8_rests_36 hl (k := 2) rfl (by rw [e12]; rfl) (by decide) rfl (fun ls hl => ?_)
          refine lv_goto (tgt := 8) hx hb dX8_rests_39 (by decide) ?_
          exact ih (-1 : Int32) v11 μ10 H locs ls  hH (lv_sub hl [2, 1, 0] rfl) h
        · have h := ite_t c8 h
          refine lv_iload_n hx hb dX8_rests_26 rfl (lv_at hl 2 rfl) ?_
          refine lv_goto (tgt := 31) hx hb dX8_rests_27 (by decide) ?_
          refine lv_istore_n (lv' := [(1, .int x2), (0, .ref (B 0)), (2, .int x2)]) hx hb dX8_rests_31 rfl hl (by decide) rfl (fun ls hl => ?_)
          refine lv_aload_n hx hb dX8_rests_32 rfl (lv_at hl 1 rfl) ?_
          obtain ⟨μ14, h13, h⟩ := ob_some h
          refine m_callv (As := []) (rest := []) (cM_goesOn l D cI B μ7  h13) hC hH hl (cwV 0 hts (gV wmX8_159 wvX8_goesOn) rfl rfl rfl hdX8_goesOn ⟨Nat.le_of_ble_eq_true rfl, Nat.le_of_ble_eq_true rfl⟩) rfl rfl (Nat.le_of_ble_eq_true rfl) ⟨Nat.zero_le _, Nat.zero_le _⟩ dX8_rests_33 (fun H locs hH => ?_)
          obtain ⟨v15, e16, h⟩ := bnd_some h
          refine lv_iinc (v := v15) (lv' := [(2, .int v15), (1, .int x2), (0, .ref (B 0))]) hx hb dX8_rests_36 hl (k := 2) rfl (by rw [e16]; rfl) (by decide) rfl (fun ls hl => ?_)
          refine lv_goto (tgt := 8) hx hb dX8_rests_39 (by decide) ?_
          exact ih x2 v15 μ14 H locs ls  hH (lv_sub hl [2, 1, 0] rfl) h

def fM_rests (μ0 : MS) : Option (Int32 × MS) :=
  ob (fM_laysBy μ0) fun μ2 =>
  fM_rests_L8 (fun (x1 : Int32) (μ : MS) => ob (fM_laysBack μ) fun μ18 =>
    ob (fM_orNone μ18 x1) fun r20 =>
    some (r20, μ18)) 10000 (-1 : Int32) (0 : Int32) μ2

set_option maxHeartbeats 4000000 in
set_option maxRecDepth 100000 in
theorem cM_rests (l : Launch) (D : va_G) (cI : ClassId) (B : Nat → Nat) (μ0 : MS) {r : Int32} {μr : MS} (h : fM_rests μ0 = some (r, μr)) : ∀ sz, Met l yX8_rests (Cond.code yX8_rests cX8_rests 3 (some .int) :: Tw) rmM_rests (mP D cI B μ0 sz [.ref (B 0)]) (mQi D cI B μ0 sz μr r) 0 0 (va_A (mW B cI μ0) sz) := by
  intro sz
  refine Met.ofW (cc := cX8_rests) (maxL := 3) (ret := (some .int)) (by decide) rfl ?_
  intro p e s m args below meth c s₁ Bd hml hv
  obtain ⟨hC, hr⟩ := jC_of Bd hml
  obtain ⟨rfl, rfl, hH⟩ := m_enter hv
  have hC : jC p s m _ meth c cX8_rests 3 RX8 := hC
  have hx := hC.1.1
  have hb := hC.1.2.1
  have hown := hC.1.2.2.2.1
  have hts := hC.1.2.2.2.2
  have hl := lv_entry ([.ref (B 0)]) (n := 3) (Nat.le_of_ble_eq_true rfl)
  rw [lg_entry_eq]
  generalize (lg_sl ([.ref (B 0)]) ++ List.replicate (3 - (lg_sl ([.ref (B 0)])).length) Slot.unset).toArray = ls at hl ⊢
  have hl : lv_has ls 3 [(0, .ref (B 0))] := hl
  unfold fM_rests at h
  refine W_nm (fun H locs eH eL => ?_)
  have hH : mH D cI B s (va_A (mW B cI μ0) s.heap.size) μ0 H locs := by rw [eH, eL]; exact hH
  show W p l e rmM_rests s m _ below meth c H locs 0 0 _ (F0 m 0 ls [])
  refine lv_aload_n hx hb dX8_rests_0 rfl (lv_at hl 0 rfl) ?_
  obtain ⟨μ2, h1, h⟩ := ob_some h
  refine m_callv (As := []) (rest := []) (cM_laysBy l D cI B μ0  h1) hC hH hl (cwV 0 hts (gV wmX8_177 wvX8_laysBy) rfl rfl rfl hdX8_laysBy ⟨Nat.le_of_ble_eq_true rfl, Nat.le_of_ble_eq_true rfl⟩) rfl rfl (Nat.le_of_ble_eq_true rfl) ⟨Nat.zero_le _, Nat.zero_le _⟩ dX8_rests_1 (fun H locs hH => ?_)
  refine lv_iconst (v := -1) hx hb dX8_rests_4 (by decide) ?_
  refine lv_istore_n (lv' := [(1, .int (-1 : Int32)), (0, .ref (B 0))]) hx hb dX8_rests_5 rfl hl (by decide) rfl (fun ls hl => ?_)
  refine lv_iconst (v := 0) hx hb dX8_rests_6 (by decide) ?_
  refine lv_istore_n (lv' := [(2, .int (0 : Int32)), (1, .int (-1 : Int32)), (0, .ref (B 0))]) hx hb dX8_rests_7 rfl hl (by decide) rfl (fun ls hl => ?_)
  refine wM_rests_L8 hC hr  ?_ 10000 (-1 : Int32) (0 : Int32) μ2 H locs ls  hH (lv_sub hl [2, 1, 0] rfl) h
  intro x1 μ H locs ls  hH hl h
  refine lv_aload_n hx hb dX8_rests_42 rfl (lv_at hl 0 rfl) ?_
  obtain ⟨μ18, h17, h⟩ := ob_some h
  refine m_callv (As := []) (rest := []) (cM_laysBack l D cI B μ  h17) hC hH hl (cwV 0 hts (gV wmX8_184 wvX8_laysBack) rfl rfl rfl hdX8_laysBack ⟨Nat.le_of_ble_eq_true rfl, Nat.le_of_ble_eq_true rfl⟩) rfl rfl (Nat.le_of_ble_eq_true rfl) ⟨Nat.zero_le _, Nat.zero_le _⟩ dX8_rests_43 (fun H locs hH => ?_)
  refine lv_iload_n hx hb dX8_rests_46 rfl (lv_at hl 1 rfl) ?_
  obtain ⟨r20, h19, h⟩ := ob_some h
  refine m_calls (As := [.int x1]) (rest := []) (cM_orNone l D cI B μ18 x1 h19) hC hH hl (va_cwS 1 hts (gS wmX8_187 wsX8_orNone) rfl rfl rfl hdX8_orNone ⟨Nat.le_of_ble_eq_true rfl, Nat.le_of_ble_eq_true rfl⟩) rfl rfl (Nat.le_of_ble_eq_true rfl) ⟨Nat.zero_le _, Nat.zero_le _⟩ dX8_rests_47 (fun H locs hH => ?_)
  obtain ⟨rfl, rfl⟩ := some_i2 h
  exact m_iret hC hH hr rfl dX8_rests_50

def rmM_padding : Room := { frames := 7, cells := 0, slots := 0, locals := 162 }
theorem hdX8_padding : yX8_padding.cls = RX8 ∧ yX8_padding.cls ≠ "java/lang/invoke/MethodHandle" ∧ yX8_padding.cls ≠ "java/lang/invoke/VarHandle" ∧ (parseMethodDescriptor yX8_padding.desc).map (fun d => d.parameters.length) = some 3 := by decide +kernel

def fM_padding_L54 (k120 : Int32 → MS → Option (Int32 × MS)) : Nat → Int32 → Int32 → Int32 → Int32 → Int32 → Int32 → MS → Option (Int32 × MS)
  | 0, _, _, _, _, _, _, _ => none
  | n + 1, x1, x2, x3, x4, x5, x6, μ =>
    if (99 : Int32) < (x4 + x6) then (
      k120 x5 μ)
    else (
      if 0 ≤ x5 then (
        k120 x5 μ)
      else (
        ob (fM_sets μ x1 (1 : Int32) (x4 + x6)) fun μ18 =>
        ob (fM_goesOnMany μ18 x3) fun μ20 =>
        ob (fM_placeOf μ20 x1) fun r22 =>
        ob (fM_placeOf μ20 x2) fun r24 =>
        ob (fM_off μ20 r22 r24) fun r26 =>
        if r26 = (1 : Int32) then (
          ob (fM_laysBack μ20) fun μ33 =>
          bnd (x6 + (1 : Int32)) fun v34 =>
          (fM_padding_L54 k120 n) x1 x2 x3 x4 x6 v34 μ33)
        else (
          ob (fM_laysBack μ20) fun μ29 =>
          bnd (x6 + (1 : Int32)) fun v30 =>
          (fM_padding_L54 k120 n) x1 x2 x3 x4 (-1 : Int32) v30 μ29)))

set_option maxHeartbeats 4000000 in
set_option maxRecDepth 100000 in
theorem wM_padding_L54 {p : Program} {l : Launch} {e : Env} {s : State} {m : MethodId} {args : Array Value} {below : List Frame} {meth : Method} {c : Code} {D : va_G} {cI : ClassId} {B : Nat → Nat} {μ0 : MS} {r : Int32} {μr : MS} (hC : jC p s m args meth c cX8_padding 7 RX8) (hr : meth.sig.returnType = some .int) {k120 : Int32 → MS → Option (Int32 × MS)} (hk120 : ∀ (x5 : Int32) (μ : MS) (H : Heap) (locs : List Loc) (ls : Array Slot), mH D cI B s (va_A (mW B cI μ0) s.heap.size) μ H locs → lv_has ls 7 [(5, .int x5)] → k120 x5 μ = some (r, μr) → W p l e rmM_padding s m args below meth c H locs 0 0 (MQ below (mQi D cI B μ0 s.heap.size μr r) args s 0 0 (va_A (mW B cI μ0) s.heap.size)) (F0 m 120 ls [])) : ∀ (n : Nat) (x1 : Int32) (x2 : Int32) (x3 : Int32) (x4 : Int32) (x5 : Int32) (x6 : Int32) (μ : MS) (H : Heap) (locs : List Loc) (ls : Array Slot), mH D cI B s (va_A (mW B cI μ0) s.heap.size) μ H locs → lv_has ls 7 [(0, .ref (B 0)), (1, .int x1), (2, .int x2), (3, .int x3), (4, .int x4), (5, .int x5), (6, .int x6)] → fM_padding_L54 k120 n x1 x2 x3 x4 x5 x6 μ = some (r, μr) → W p l e rmM_padding s m args below meth c H locs 0 0 (MQ below (mQi D cI B μ0 s.heap.size μr r) args s 0 0 (va_A (mW B cI μ0) s.heap.size)) (F0 m 54 ls []) := by
  have hx := hC.1.1
  have hb := hC.1.2.1
  have hown := hC.1.2.2.2.1
  have hts := hC.1.2.2.2.2
  intro n
  induction n with
  | zero =>
    intro x1 x2 x3 x4 x5 x6 μ H locs ls  hH hl h
    rw [fM_padding_L54] at h
    cases h
  | succ n ih =>
    intro x1 x2 x3 x4 x5 x6 μ H locs ls  hH hl h
    rw [fM_padding_L54] at h
    refine lv_iload hx hb dX8_padding_54 (lv_at hl 4 rfl) ?_
    refine lv_iload hx hb dX8_padding_56 (lv_at hl 6 rfl) ?_
    refine lv_iadd hx hb dX8_padding_58 ?_
    refine lv_bipush (v := 99) hx hb dX8_padding_59 (by decide) ?_
    refine lv_icmp_gt (tgt := 120) hx hb dX8_padding_61 (by decide) (fun c15 => ?_) (fun c15 => ?_)
    · have h := ite_t c15 h
      exact hk120 x5 μ H locs ls  hH (lv_sub hl [5] rfl) h
    · have h := ite_f c15 h
      refine lv_iload hx hb dX8_padding_64 (lv_at hl 5 rfl) ?_
      refine lv_if_ge (tgt := 120) hx hb dX8_padding_66 (by decide) (fun c16 => ?_) (fun c16 => ?_)
      · have h := ite_t c16 h
        exact hk120 x5 μ H locs ls  hH (lv_sub hl [5] rfl) h
      · have h := ite_f c16 h
        refine lv_aload_n hx hb dX8_padding_69 rfl (lv_at hl 0 rfl) ?_
        refine lv_iload_n hx hb dX8_padding_70 rfl (lv_at hl 1 rfl) ?_
        refine lv_iconst (v := 1) hx hb dX8_padding_71 (by decide) ?_
        refine lv_iload hx hb dX8_padding_72 (lv_at hl 4 rfl) ?_
        refine lv_iload hx hb dX8_padding_74 (lv_at hl 6 rfl) ?_
        refine lv_iadd hx hb dX8_padding_76 ?_
        obtain ⟨μ18, h17, h⟩ := ob_some h
        refine m_callv (As := [.int x1, .int (1 : Int32), .int (x4 + x6)]) (rest := []) (cM_sets l D cI B μ x1 (1 : Int32) (x4 + x6) h17) hC hH hl (cwV 3 hts (gV wmX8_80 wvX8_sets) rfl rfl rfl hdX8_sets ⟨Nat.le_of_ble_eq_true rfl, Nat.le_of_ble_eq_true rfl⟩) rfl rfl (Nat.le_of_ble_eq_true rfl) ⟨Nat.zero_le _, Nat.zero_le _⟩ dX8_padding_77 (fun H locs hH => ?_)
        refine lv_aload_n hx hb dX8_padding_80 rfl (lv_at hl 0 rfl) ?_
        refine lv_iload_n hx hb dX8_padding_81 rfl (lv_at hl 3 rfl) ?_
        obtain ⟨μ20, h19, h⟩ := ob_some h
        refine m_callv (As := [.int x3]) (rest := []) (cM_goesOnMany l D cI B μ18 x3 h19) hC hH hl (cwV 1 hts (gV wmX8_180 wvX8_goesOnMany) rfl rfl rfl hdX8_goesOnMany ⟨Nat.le_of_ble_eq_true rfl, Nat.le_of_ble_eq_true rfl⟩) rfl rfl (Nat.le_of_ble_eq_true rfl) ⟨Nat.zero_le _, Nat.zero_le _⟩ dX8_padding_82 (fun H locs hH => ?_)
        refine lv_aload_n hx hb dX8_padding_85 rfl (lv_at hl 0 rfl) ?_
        refine lv_iload_n hx hb dX8_padding_86 rfl (lv_at hl 1 rfl) ?_
        obtain ⟨r22, h21, h⟩ := ob_some h
        refine m_calli (As := [.int x1]) (rest := []) (cM_placeOf l D cI B μ20 x1 h21) hC hH hl (cwV 1 hts (gV wmX8_116 wvX8_placeOf) rfl rfl rfl hdX8_placeOf ⟨Nat.le_of_ble_eq_true rfl, Nat.le_of_ble_eq_true rfl⟩) rfl rfl (Nat.le_of_ble_eq_true rfl) ⟨Nat.zero_le _, Nat.zero_le _⟩ dX8_padding_87 (fun H locs hH => ?_)
        refine lv_aload_n hx hb dX8_padding_90 rfl (lv_at hl 0 rfl) ?_
        refine lv_iload_n hx hb dX8_padding_91 rfl (lv_at hl 2 rfl) ?_
        obtain ⟨r24, h23, h⟩ := ob_some h
        refine m_calli (As := [.int x2]) (rest := [.int r22]) (cM_placeOf l D cI B μ20 x2 h23) hC hH hl (cwV 1 hts (gV wmX8_116 wvX8_placeOf) rfl rfl rfl hdX8_placeOf ⟨Nat.le_of_ble_eq_true rfl, Nat.le_of_ble_eq_true rfl⟩) rfl rfl (Nat.le_of_ble_eq_true rfl) ⟨Nat.zero_le _, Nat.zero_le _⟩ dX8_padding_92 (fun H locs hH => ?_)
        obtain ⟨r26, h25, h⟩ := ob_some h
        refine m_calls (As := [.int r22, .int r24]) (rest := []) (cM_off l D cI B μ20 r22 r24 h25) hC hH hl (va_cwS 2 hts (gS wmX8_192 wsX8_off) rfl rfl rfl hdX8_off ⟨Nat.le_of_ble_eq_true rfl, Nat.le_of_ble_eq_true rfl⟩) rfl rfl (Nat.le_of_ble_eq_true rfl) ⟨Nat.zero_le _, Nat.zero_le _⟩ dX8_padding_95 (fun H locs hH => ?_)
        refine lv_iconst (v := 1) hx hb dX8_padding_98 (by decide) ?_
        refine lv_icmp_ne (tgt := 107) hx hb dX8_padding_99 (by decide) (fun c27 => ?_) (fun c27 => ?_)
        · have h := ite_f c27 h
          refine lv_iconst (v := -1) hx hb dX8_padding_107 (by decide) ?_
          refine lv_istore (lv' := [(5, .int (-1 : Int32)), (0, .ref (B 0)), (1, .int x1), (2, .int x2), (3, .int x3), (4, .int x4), (6, .int x6)]) hx hb dX8_padding_108 hl (by decide) rfl (fun ls hl => ?_)
          refine lv_aload_n hx hb dX8_padding_110 rfl (lv_at hl 1 rfl) ?_
          obtain ⟨μ29, h28, h⟩ := ob_some h
          refine m_callv (As := []) (rest := []) (cM_laysBack l D cI B μ20  h28) hC hH hl (cwV 0 hts (gV wmX8_184 wvX8_laysBack) rfl rfl rfl hdX8_laysBack ⟨Nat.le_of_ble_eq_true rfl, Nat.le_of_ble_eq_true rfl⟩) rfl rfl (Nat.le_of_ble_eq_true rfl) ⟨Nat.zero_le _, Nat.zero_le _⟩ dX8_padding_111 (fun H locs hH => ?_)
          obtain ⟨v30, e31, h⟩ := bnd_some h
          refine lv_iinc (v := v30) (lv' := [(6, .int v30), (5, .int (-1 : Int32)), (0, .ref (B 0)), (1, .int x1), (2, .int x2), (3, .int x3), (4, .int x4)]) hx hb dX8_padding_114 hl (k := 6) rfl (by rw [e31]; rfl) (by decide) rfl (fun ls hl => ?_)
          refine lv_goto (tgt := 54) hx hb dX8_padding_117 (by decide) ?_
          exact ih x1 x2 x3 x4 (-1 : Int32) v30 μ29 H locs ls  hH (lv_sub hl [2, 3, 4, 5, 6, 1, 0] rfl) h
        · have h := ite_t c27 h
          refine lv_iload hx hb dX8_padding_102 (lv_at hl 6 rfl) ?_
          refine lv_goto (tgt := 108) hx hb dX8_padding_104 (by decide) ?_
          refine lv_istore (lv' := [(5, .int x6), (0, .ref (B 0)), (1, .int x1), (2, .int x2), (3, .int x3), (4, .int x4), (6, .int x6)]) hx hb dX8_padding_108 hl (by decide) rfl (fun ls hl => ?_)
          refine lv_aload_n hx hb dX8_padding_110 rfl (lv_at hl 1 rfl) ?_
          obtain ⟨μ33, h32, h⟩ := ob_some h
          refine m_callv (As := []) (rest := []) (cM_laysBack l D cI B μ20  h32) hC hH hl (cwV 0 hts (gV wmX8_184 wvX8_laysBack) rfl rfl rfl hdX8_laysBack ⟨Nat.le_of_ble_eq_true rfl, Nat.le_of_ble_eq_true rfl⟩) rfl rfl (Nat.le_of_ble_eq_true rfl) ⟨Nat.zero_le _, Nat.zero_le _⟩ dX8_padding_111 (fun H locs hH => ?_)
          obtain ⟨v34, e35, h⟩ := bnd_some h
          refine lv_iinc (v := v34) (lv' := [(6, .int v34), (5, .int x6), (0, .ref (B 0)), (1, .int x1), (2, .int x2), (3, .int x3), (4, .int x4)]) hx hb dX8_padding_114 hl (k := 6) rfl (by rw [e35]; rfl) (by decide) rfl (fun ls hl => ?_)
          refine lv_goto (tgt := 54) hx hb dX8_padding_117 (by decide) ?_
          exact ih x1 x2 x3 x4 x6 v34 μ33 H locs ls  hH (lv_sub hl [2, 3, 4, 5, 6, 1, 0] rfl) h

def fM_padding (μ0 : MS) (x1 : Int32) (x2 : Int32) (x3 : Int32) : Option (Int32 × MS) :=
  ob (fM_isOne μ0 x1) fun r2 =>
  if r2 = 0 then (
    some ((-1000000001 : Int32), μ0))
  else (
    ob (fM_isOne μ0 x2) fun r5 =>
    if r5 = 0 then (
      some ((-1000000001 : Int32), μ0))
    else (
      if x1 = x2 then (
        some ((-1000000001 : Int32), μ0))
      else (
        ob (fM_isIn μ0 (x3).toInt64 (0 : Int64) (40 : Int64)) fun r9 =>
        if r9 = 0 then (
          some ((-1000000001 : Int32), μ0))
        else (
          ob (fM_laysBy μ0) fun μ12 =>
          ob (fM_of μ12 x1 (1 : Int32)) fun r14 =>
          fM_padding_L54 (fun (x5 : Int32) (μ : MS) => ob (fM_orNone μ x5) fun r37 =>
            some (r37, μ)) 10000 x1 x2 x3 r14 (-1 : Int32) (0 : Int32) μ12))))

set_option maxHeartbeats 4000000 in
set_option maxRecDepth 100000 in
theorem cM_padding (l : Launch) (D : va_G) (cI : ClassId) (B : Nat → Nat) (μ0 : MS) (x1 : Int32) (x2 : Int32) (x3 : Int32) {r : Int32} {μr : MS} (h : fM_padding μ0 x1 x2 x3 = some (r, μr)) : ∀ sz, Met l yX8_padding (Cond.code yX8_padding cX8_padding 7 (some .int) :: Tw) rmM_padding (mP D cI B μ0 sz [.ref (B 0), .int x1, .int x2, .int x3]) (mQi D cI B μ0 sz μr r) 0 0 (va_A (mW B cI μ0) sz) := by
  intro sz
  refine Met.ofW (cc := cX8_padding) (maxL := 7) (ret := (some .int)) (by decide) rfl ?_
  intro p e s m args below meth c s₁ Bd hml hv
  obtain ⟨hC, hr⟩ := jC_of Bd hml
  obtain ⟨rfl, rfl, hH⟩ := m_enter hv
  have hC : jC p s m _ meth c cX8_padding 7 RX8 := hC
  have hx := hC.1.1
  have hb := hC.1.2.1
  have hown := hC.1.2.2.2.1
  have hts := hC.1.2.2.2.2
  have hl := lv_entry ([.ref (B 0), .int x1, .int x2, .int x3]) (n := 7) (Nat.le_of_ble_eq_true rfl)
  rw [lg_entry_eq]
  generalize (lg_sl ([.ref (B 0), .int x1, .int x2, .int x3]) ++ List.replicate (7 - (lg_sl ([.ref (B 0), .int x1, .int x2, .int x3])).length) Slot.unset).toArray = ls at hl ⊢
  have hl : lv_has ls 7 [(0, .ref (B 0)), (1, .int x1), (2, .int x2), (3, .int x3)] := hl
  unfold fM_padding at h
  refine W_nm (fun H locs eH eL => ?_)
  have hH : mH D cI B s (va_A (mW B cI μ0) s.heap.size) μ0 H locs := by rw [eH, eL]; exact hH
  show W p l e rmM_padding s m _ below meth c H locs 0 0 _ (F0 m 0 ls [])
  refine lv_aload_n hx hb dX8_padding_0 rfl (lv_at hl 0 rfl) ?_
  refine lv_iload_n hx hb dX8_padding_1 rfl (lv_at hl 1 rfl) ?_
  obtain ⟨r2, h1, h⟩ := ob_some h
  refine m_calli (As := [.int x1]) (rest := []) (cM_isOne l D cI B μ0 x1 h1) hC hH hl (cwV 1 hts (gV wmX8_112 wvX8_isOne) rfl rfl rfl hdX8_isOne ⟨Nat.le_of_ble_eq_true rfl, Nat.le_of_ble_eq_true rfl⟩) rfl rfl (Nat.le_of_ble_eq_true rfl) ⟨Nat.zero_le _, Nat.zero_le _⟩ dX8_padding_2 (fun H locs hH => ?_)
  refine lv_if_eq (tgt := 33) hx hb dX8_padding_5 (by decide) (fun c3 => ?_) (fun c3 => ?_)
  · have h := ite_t c3 h
    refine lv_ldc (v := -1000000001) hx hb hown (hts _ wkX8_90) dX8_padding_33 ?_
    obtain ⟨rfl, rfl⟩ := some_i2 h
    exact m_iret (v := -1000000001) hC hH hr rfl dX8_padding_35
  · have h := ite_f c3 h
    refine lv_aload_n hx hb dX8_padding_8 rfl (lv_at hl 0 rfl) ?_
    refine lv_iload_n hx hb dX8_padding_9 rfl (lv_at hl 2 rfl) ?_
    obtain ⟨r5, h4, h⟩ := ob_some h
    refine m_calli (As := [.int x2]) (rest := []) (cM_isOne l D cI B μ0 x2 h4) hC hH hl (cwV 1 hts (gV wmX8_112 wvX8_isOne) rfl rfl rfl hdX8_isOne ⟨Nat.le_of_ble_eq_true rfl, Nat.le_of_ble_eq_true rfl⟩) rfl rfl (Nat.le_of_ble_eq_true rfl) ⟨Nat.zero_le _, Nat.zero_le _⟩ dX8_padding_10 (fun H locs hH => ?_)
    refine lv_if_eq (tgt := 33) hx hb dX8_padding_13 (by decide) (fun c6 => ?_) (fun c6 => ?_)
    · have h := ite_t c6 h
      refine lv_ldc (v := -1000000001) hx hb hown (hts _ wkX8_90) dX8_padding_33 ?_
      obtain ⟨rfl, rfl⟩ := some_i2 h
      exact m_iret (v := -1000000001) hC hH hr rfl dX8_padding_35
    · have h := ite_f c6 h
      refine lv_iload_n hx hb dX8_padding_16 rfl (lv_at hl 1 rfl) ?_
      refine lv_iload_n hx hb dX8_padding_17 rfl (lv_at hl 2 rfl) ?_
      refine lv_icmp_eq (tgt := 33) hx hb dX8_padding_18 (by decide) (fun c7 => ?_) (fun c7 => ?_)
      · have h := ite_t c7 h
        refine lv_ldc (v := -1000000001) hx hb hown (hts _ wkX8_90) dX8_padding_33 ?_
        obtain ⟨rfl, rfl⟩ := some_i2 h
        exact m_iret (v := -1000000001) hC hH hr rfl dX8_padding_35
      · have h := ite_f c7 h
        refine lv_iload_n hx hb dX8_padding_21 rfl (lv_at hl 3 rfl) ?_
        refine lv_i2l hx hb dX8_padding_22 rfl ?_
        refine lv_lconst (v := 0) hx hb dX8_padding_23 (by decide) ?_
        refine lv_ldc2 (v := 40) hx hb hown (hts _ wqX8_190) dX8_padding_24 ?_
        obtain ⟨r9, h8, h⟩ := ob_some h
        refine m_calls (As := [.long (x3).toInt64, .long (0 : Int64), .long (40 : Int64)]) (rest := []) (cM_isIn l D cI B μ0 (x3).toInt64 (0 : Int64) (40 : Int64) h8) hC hH hl (va_cwS 3 hts (gS wmX8_75 wsX8_isIn) rfl rfl rfl hdX8_isIn ⟨Nat.le_of_ble_eq_true rfl, Nat.le_of_ble_eq_true rfl⟩) rfl rfl (Nat.le_of_ble_eq_true rfl) ⟨Nat.zero_le _, Nat.zero_le _⟩ dX8_padding_27 (fun H locs hH => ?_)
        refine lv_if_ne (tgt := 36) hx hb dX8_padding_30 (by decide) (fun c10 => ?_) (fun c10 => ?_)
        · have h := ite_f c10 h
          refine lv_aload_n hx hb dX8_padding_36 rfl (lv_at hl 0 rfl) ?_
          obtain ⟨μ12, h11, h⟩ := ob_some h
          refine m_callv (As := []) (rest := []) (cM_laysBy l D cI B μ0  h11) hC hH hl (cwV 0 hts (gV wmX8_177 wvX8_laysBy) rfl rfl rfl hdX8_laysBy ⟨Nat.le_of_ble_eq_true rfl, Nat.le_of_ble_eq_true rfl⟩) rfl rfl (Nat.le_of_ble_eq_true rfl) ⟨Nat.zero_le _, Nat.zero_le _⟩ dX8_padding_37 (fun H locs hH => ?_)
          refine lv_aload_n hx hb dX8_padding_40 rfl (lv_at hl 0 rfl) ?_
          refine lv_iload_n hx hb dX8_padding_41 rfl (lv_at hl 1 rfl) ?_
          refine lv_iconst (v := 1) hx hb dX8_padding_42 (by decide) ?_
          obtain ⟨r14, h13, h⟩ := ob_some h
          refine m_calli (As := [.int x1, .int (1 : Int32)]) (rest := []) (cM_of l D cI B μ12 x1 (1 : Int32) h13) hC hH hl (cwV 2 hts (gV wmX8_99 wvX8_of) rfl rfl rfl hdX8_of ⟨Nat.le_of_ble_eq_true rfl, Nat.le_of_ble_eq_true rfl⟩) rfl rfl (Nat.le_of_ble_eq_true rfl) ⟨Nat.zero_le _, Nat.zero_le _⟩ dX8_padding_43 (fun H locs hH => ?_)
          refine lv_istore (lv' := [(4, .int r14), (0, .ref (B 0)), (1, .int x1), (2, .int x2), (3, .int x3)]) hx hb dX8_padding_46 hl (by decide) rfl (fun ls hl => ?_)
          refine lv_iconst (v := -1) hx hb dX8_padding_48 (by decide) ?_
          refine lv_istore (lv' := [(5, .int (-1 : Int32)), (4, .int r14), (0, .ref (B 0)), (1, .int x1), (2, .int x2), (3, .int x3)]) hx hb dX8_padding_49 hl (by decide) rfl (fun ls hl => ?_)
          refine lv_iconst (v := 0) hx hb dX8_padding_51 (by decide) ?_
          refine lv_istore (lv' := [(6, .int (0 : Int32)), (5, .int (-1 : Int32)), (4, .int r14), (0, .ref (B 0)), (1, .int x1), (2, .int x2), (3, .int x3)]) hx hb dX8_padding_52 hl (by decide) rfl (fun ls hl => ?_)
          refine wM_padding_L54 hC hr  ?_ 10000 x1 x2 x3 r14 (-1 : Int32) (0 : Int32) μ12 H locs ls  hH (lv_sub hl [3, 4, 5, 6, 2, 1, 0] rfl) h
          intro x5 μ H locs ls  hH hl h
          refine lv_iload hx hb dX8_padding_120 (lv_at hl 0 rfl) ?_
          obtain ⟨r37, h36, h⟩ := ob_some h
          refine m_calls (As := [.int x5]) (rest := []) (cM_orNone l D cI B μ x5 h36) hC hH hl (va_cwS 1 hts (gS wmX8_187 wsX8_orNone) rfl rfl rfl hdX8_orNone ⟨Nat.le_of_ble_eq_true rfl, Nat.le_of_ble_eq_true rfl⟩) rfl rfl (Nat.le_of_ble_eq_true rfl) ⟨Nat.zero_le _, Nat.zero_le _⟩ dX8_padding_122 (fun H locs hH => ?_)
          obtain ⟨rfl, rfl⟩ := some_i2 h
          exact m_iret hC hH hr rfl dX8_padding_125
        · have h := ite_t c10 h
          refine lv_ldc (v := -1000000001) hx hb hown (hts _ wkX8_90) dX8_padding_33 ?_
          obtain ⟨rfl, rfl⟩ := some_i2 h
          exact m_iret (v := -1000000001) hC hH hr rfl dX8_padding_35

def rmM_stays : Room := { frames := 7, cells := 0, slots := 0, locals := 162 }
theorem hdX8_stays : yX8_stays.cls = RX8 ∧ yX8_stays.cls ≠ "java/lang/invoke/MethodHandle" ∧ yX8_stays.cls ≠ "java/lang/invoke/VarHandle" ∧ (parseMethodDescriptor yX8_stays.desc).map (fun d => d.parameters.length) = some 1 := by decide +kernel

def fM_stays_L28 (k83 : Int32 → MS → Option (Int32 × MS)) : Nat → Int32 → Int32 → MS → Option (Int32 × MS)
  | 0, _, _, _ => none
  | n + 1, x2, x3, μ =>
    if (μ 1 0) ≤ x3 then (
      k83 x2 μ)
    else (
      ck ((6 : Int32) + x3) (3076) <|
      ck ((6 : Int32) + x3) (76) <|
      if (μ 1 (((6 : Int32) + x3)).toNatClampNeg) = (μ 16 (((6 : Int32) + x3)).toNatClampNeg) then (
        ck ((6 : Int32) + x3) (3076) <|
        bnd (x2 ||| ((1 : Int32) <<< ((μ 1 (((6 : Int32) + x3)).toNatClampNeg) &&& 31))) fun v17 =>
        bnd (x3 + (1 : Int32)) fun v19 =>
        (fM_stays_L28 k83 n) v17 v19 μ)
      else (
        bnd (x2 ||| (0 : Int32)) fun v12 =>
        bnd (x3 + (1 : Int32)) fun v14 =>
        (fM_stays_L28 k83 n) v12 v14 μ))

set_option maxHeartbeats 4000000 in
set_option maxRecDepth 100000 in
theorem wM_stays_L28 {p : Program} {l : Launch} {e : Env} {s : State} {m : MethodId} {args : Array Value} {below : List Frame} {meth : Method} {c : Code} {D : va_G} {cI : ClassId} {B : Nat → Nat} {μ0 : MS} {r : Int32} {μr : MS} (hC : jC p s m args meth c cX8_stays 4 RX8) (hr : meth.sig.returnType = some .int) {k83 : Int32 → MS → Option (Int32 × MS)} (hk83 : ∀ (x2 : Int32) (μ : MS) (H : Heap) (locs : List Loc) (ls : Array Slot), mH D cI B s (va_A (mW B cI μ0) s.heap.size) μ H locs → lv_has ls 4 [(0, .ref (B 0)), (2, .int x2)] → k83 x2 μ = some (r, μr) → W p l e rmM_stays s m args below meth c H locs 0 0 (MQ below (mQi D cI B μ0 s.heap.size μr r) args s 0 0 (va_A (mW B cI μ0) s.heap.size)) (F0 m 83 ls [])) : ∀ (n : Nat) (x2 : Int32) (x3 : Int32) (μ : MS) (H : Heap) (locs : List Loc) (ls : Array Slot), mH D cI B s (va_A (mW B cI μ0) s.heap.size) μ H locs → lv_has ls 4 [(0, .ref (B 0)), (2, .int x2), (3, .int x3)] → fM_stays_L28 k83 n x2 x3 μ = some (r, μr) → W p l e rmM_stays s m args below meth c H locs 0 0 (MQ below (mQi D cI B μ0 s.heap.size μr r) args s 0 0 (va_A (mW B cI μ0) s.heap.size)) (F0 m 28 ls []) := by
  have hx := hC.1.1
  have hb := hC.1.2.1
  have hown := hC.1.2.2.2.1
  have hts := hC.1.2.2.2.2
  intro n
  induction n with
  | zero =>
    intro x2 x3 μ H locs ls  hH hl h
    rw [fM_stays_L28] at h
    cases h
  | succ n ih =>
    intro x2 x3 μ H locs ls  hH hl h
    rw [fM_stays_L28] at h
    refine lv_iload_n hx hb dX8_stays_28 rfl (lv_at hl 2 rfl) ?_
    refine lv_aload_n hx hb dX8_stays_29 rfl (lv_at hl 0 rfl) ?_
    refine m_get hC hH 0 (by decide) wfX8_7 rfl rfl dX8_stays_30 ?_
    refine lv_iconst (v := 0) hx hb dX8_stays_33 (by decide) ?_
    refine m_ald hC hH (a := 1) rfl rfl (vp_b rfl) dX8_stays_34 ?_
    refine lv_icmp_ge (tgt := 83) hx hb dX8_stays_35 (by decide) (fun c8 => ?_) (fun c8 => ?_)
    · have h := ite_t c8 h
      exact hk83 x2 μ H locs ls  hH (lv_sub hl [0, 1] rfl) h
    · have h := ite_f c8 h
      refine lv_iload_n hx hb dX8_stays_38 rfl (lv_at hl 1 rfl) ?_
      refine lv_aload_n hx hb dX8_stays_39 rfl (lv_at hl 0 rfl) ?_
      refine m_get hC hH 0 (by decide) wfX8_7 rfl rfl dX8_stays_40 ?_
      refine lv_bipush (v := 6) hx hb dX8_stays_43 (by decide) ?_
      refine lv_iload_n hx hb dX8_stays_45 rfl (lv_at hl 2 rfl) ?_
      refine lv_iadd hx hb dX8_stays_46 ?_
      obtain ⟨i9, h⟩ := ck_some h
      refine m_ald hC hH (a := 1) rfl rfl i9 dX8_stays_47 ?_
      refine lv_aload_n hx hb dX8_stays_48 rfl (lv_at hl 0 rfl) ?_
      refine m_get hC hH 15 (by decide) wfX8_53 rfl rfl dX8_stays_49 ?_
      refine lv_bipush (v := 6) hx hb dX8_stays_52 (by decide) ?_
      refine lv_iload_n hx hb dX8_stays_54 rfl (lv_at hl 2 rfl) ?_
      refine lv_iadd hx hb dX8_stays_55 ?_
      obtain ⟨i10, h⟩ := ck_some h
      refine m_ald hC hH (a := 16) rfl rfl i10 dX8_stays_56 ?_
      refine lv_icmp_ne (tgt := 74) hx hb dX8_stays_57 (by decide) (fun c11 => ?_) (fun c11 => ?_)
      · have h := ite_f c11 h
        refine lv_iconst (v := 0) hx hb dX8_stays_74 (by decide) ?_
        refine lv_ior hx hb dX8_stays_75 ?_
        obtain ⟨v12, e13, h⟩ := bnd_some h
        refine lv_tope e13 ?_
        refine lv_istore_n (lv' := [(2, .int v12), (0, .ref (B 0)), (3, .int x3)]) hx hb dX8_stays_76 rfl hl (by decide) rfl (fun ls hl => ?_)
        obtain ⟨v14, e15, h⟩ := bnd_some h
        refine lv_iinc (v := v14) (lv' := [(3, .int v14), (2, .int v12), (0, .ref (B 0))]) hx hb dX8_stays_77 hl (k := 2) rfl (by rw [e15]; rfl) (by decide) rfl (fun ls hl => ?_)
        refine lv_goto (tgt := 28) hx hb dX8_stays_80 (by decide) ?_
        exact ih v12 v14 μ H locs ls  hH (lv_sub hl [2, 1, 0] rfl) h
      · have h := ite_t c11 h
        refine lv_iconst (v := 1) hx hb dX8_stays_60 (by decide) ?_
        refine lv_aload_n hx hb dX8_stays_61 rfl (lv_at hl 0 rfl) ?_
        refine m_get hC hH 0 (by decide) wfX8_7 rfl rfl dX8_stays_62 ?_
        refine lv_bipush (v := 6) hx hb dX8_stays_65 (by decide) ?_
        refine lv_iload_n hx hb dX8_stays_67 rfl (lv_at hl 2 rfl) ?_
        refine lv_iadd hx hb dX8_stays_68 ?_
        obtain ⟨i16, h⟩ := ck_some h
        refine m_ald hC hH (a := 1) rfl rfl i16 dX8_stays_69 ?_
        refine lv_ishl hx hb dX8_stays_70 ?_
        refine lv_goto (tgt := 75) hx hb dX8_stays_71 (by decide) ?_
        refine lv_ior hx hb dX8_stays_75 ?_
        obtain ⟨v17, e18, h⟩ := bnd_some h
        refine lv_tope e18 ?_
        refine lv_istore_n (lv' := [(2, .int v17), (0, .ref (B 0)), (3, .int x3)]) hx hb dX8_stays_76 rfl hl (by decide) rfl (fun ls hl => ?_)
        obtain ⟨v19, e20, h⟩ := bnd_some h
        refine lv_iinc (v := v19) (lv' := [(3, .int v19), (2, .int v17), (0, .ref (B 0))]) hx hb dX8_stays_77 hl (k := 2) rfl (by rw [e20]; rfl) (by decide) rfl (fun ls hl => ?_)
        refine lv_goto (tgt := 28) hx hb dX8_stays_80 (by decide) ?_
        exact ih v17 v19 μ H locs ls  hH (lv_sub hl [2, 1, 0] rfl) h

def fM_stays (μ0 : MS) (x1 : Int32) : Option (Int32 × MS) :=
  ob (fM_isIn μ0 (x1).toInt64 (0 : Int64) (100 : Int64)) fun r2 =>
  if r2 = 0 then (
    some ((-1000000001 : Int32), μ0))
  else (
    ob (fM_laysBy μ0) fun μ5 =>
    ob (fM_goesOnMany μ5 x1) fun μ7 =>
    fM_stays_L28 (fun (x2 : Int32) (μ : MS) => ob (fM_laysBack μ) fun μ22 =>
      some (x2, μ22)) 10000 (0 : Int32) (0 : Int32) μ7)

set_option maxHeartbeats 4000000 in
set_option maxRecDepth 100000 in
theorem cM_stays (l : Launch) (D : va_G) (cI : ClassId) (B : Nat → Nat) (μ0 : MS) (x1 : Int32) {r : Int32} {μr : MS} (h : fM_stays μ0 x1 = some (r, μr)) : ∀ sz, Met l yX8_stays (Cond.code yX8_stays cX8_stays 4 (some .int) :: Tw) rmM_stays (mP D cI B μ0 sz [.ref (B 0), .int x1]) (mQi D cI B μ0 sz μr r) 0 0 (va_A (mW B cI μ0) sz) := by
  intro sz
  refine Met.ofW (cc := cX8_stays) (maxL := 4) (ret := (some .int)) (by decide) rfl ?_
  intro p e s m args below meth c s₁ Bd hml hv
  obtain ⟨hC, hr⟩ := jC_of Bd hml
  obtain ⟨rfl, rfl, hH⟩ := m_enter hv
  have hC : jC p s m _ meth c cX8_stays 4 RX8 := hC
  have hx := hC.1.1
  have hb := hC.1.2.1
  have hown := hC.1.2.2.2.1
  have hts := hC.1.2.2.2.2
  have hl := lv_entry ([.ref (B 0), .int x1]) (n := 4) (Nat.le_of_ble_eq_true rfl)
  rw [lg_entry_eq]
  generalize (lg_sl ([.ref (B 0), .int x1]) ++ List.replicate (4 - (lg_sl ([.ref (B 0), .int x1])).length) Slot.unset).toArray = ls at hl ⊢
  have hl : lv_has ls 4 [(0, .ref (B 0)), (1, .int x1)] := hl
  unfold fM_stays at h
  refine W_nm (fun H locs eH eL => ?_)
  have hH : mH D cI B s (va_A (mW B cI μ0) s.heap.size) μ0 H locs := by rw [eH, eL]; exact hH
  show W p l e rmM_stays s m _ below meth c H locs 0 0 _ (F0 m 0 ls [])
  refine lv_iload_n hx hb dX8_stays_0 rfl (lv_at hl 1 rfl) ?_
  refine lv_i2l hx hb dX8_stays_1 rfl ?_
  refine lv_lconst (v := 0) hx hb dX8_stays_2 (by decide) ?_
  refine lv_ldc2 (v := 100) hx hb hown (hts _ wqX8_148) dX8_stays_3 ?_
  obtain ⟨r2, h1, h⟩ := ob_some h
  refine m_calls (As := [.long (x1).toInt64, .long (0 : Int64), .long (100 : Int64)]) (rest := []) (cM_isIn l D cI B μ0 (x1).toInt64 (0 : Int64) (100 : Int64) h1) hC hH hl (va_cwS 3 hts (gS wmX8_75 wsX8_isIn) rfl rfl rfl hdX8_isIn ⟨Nat.le_of_ble_eq_true rfl, Nat.le_of_ble_eq_true rfl⟩) rfl rfl (Nat.le_of_ble_eq_true rfl) ⟨Nat.zero_le _, Nat.zero_le _⟩ dX8_stays_6 (fun H locs hH => ?_)
  refine lv_if_ne (tgt := 15) hx hb dX8_stays_9 (by decide) (fun c3 => ?_) (fun c3 => ?_)
  · have h := ite_f c3 h
    refine lv_aload_n hx hb dX8_stays_15 rfl (lv_at hl 0 rfl) ?_
    obtain ⟨μ5, h4, h⟩ := ob_some h
    refine m_callv (As := []) (rest := []) (cM_laysBy l D cI B μ0  h4) hC hH hl (cwV 0 hts (gV wmX8_177 wvX8_laysBy) rfl rfl rfl hdX8_laysBy ⟨Nat.le_of_ble_eq_true rfl, Nat.le_of_ble_eq_true rfl⟩) rfl rfl (Nat.le_of_ble_eq_true rfl) ⟨Nat.zero_le _, Nat.zero_le _⟩ dX8_stays_16 (fun H locs hH => ?_)
    refine lv_aload_n hx hb dX8_stays_19 rfl (lv_at hl 0 rfl) ?_
    refine lv_iload_n hx hb dX8_stays_20 rfl (lv_at hl 1 rfl) ?_
    obtain ⟨μ7, h6, h⟩ := ob_some h
    refine m_callv (As := [.int x1]) (rest := []) (cM_goesOnMany l D cI B μ5 x1 h6) hC hH hl (cwV 1 hts (gV wmX8_180 wvX8_goesOnMany) rfl rfl rfl hdX8_goesOnMany ⟨Nat.le_of_ble_eq_true rfl, Nat.le_of_ble_eq_true rfl⟩) rfl rfl (Nat.le_of_ble_eq_true rfl) ⟨Nat.zero_le _, Nat.zero_le _⟩ dX8_stays_21 (fun H locs hH => ?_)
    refine lv_iconst (v := 0) hx hb dX8_stays_24 (by decide) ?_
    refine lv_istore_n (lv' := [(2, .int (0 : Int32)), (0, .ref (B 0)), (1, .int x1)]) hx hb dX8_stays_25 rfl hl (by decide) rfl (fun ls hl => ?_)
    refine lv_iconst (v := 0) hx hb dX8_stays_26 (by decide) ?_
    refine lv_istore_n (lv' := [(3, .int (0 : Int32)), (2, .int (0 : Int32)), (0, .ref (B 0)), (1, .int x1)]) hx hb dX8_stays_27 rfl hl (by decide) rfl (fun ls hl => ?_)
    refine wM_stays_L28 hC hr  ?_ 10000 (0 : Int32) (0 : Int32) μ7 H locs ls  hH (lv_sub hl [2, 1, 0] rfl) h
    intro x2 μ H locs ls  hH hl h
    refine lv_aload_n hx hb dX8_stays_83 rfl (lv_at hl 0 rfl) ?_
    obtain ⟨μ22, h21, h⟩ := ob_some h
    refine m_callv (As := []) (rest := []) (cM_laysBack l D cI B μ  h21) hC hH hl (cwV 0 hts (gV wmX8_184 wvX8_laysBack) rfl rfl rfl hdX8_laysBack ⟨Nat.le_of_ble_eq_true rfl, Nat.le_of_ble_eq_true rfl⟩) rfl rfl (Nat.le_of_ble_eq_true rfl) ⟨Nat.zero_le _, Nat.zero_le _⟩ dX8_stays_84 (fun H locs hH => ?_)
    refine lv_iload_n hx hb dX8_stays_87 rfl (lv_at hl 1 rfl) ?_
    obtain ⟨rfl, rfl⟩ := some_i2 h
    exact m_iret hC hH hr rfl dX8_stays_88
  · have h := ite_t c3 h
    refine lv_ldc (v := -1000000001) hx hb hown (hts _ wkX8_90) dX8_stays_12 ?_
    obtain ⟨rfl, rfl⟩ := some_i2 h
    exact m_iret (v := -1000000001) hC hH hr rfl dX8_stays_14

def rmM_bundle : Room := { frames := 7, cells := 0, slots := 0, locals := 162 }
theorem hdX8_bundle : yX8_bundle.cls = RX8 ∧ yX8_bundle.cls ≠ "java/lang/invoke/MethodHandle" ∧ yX8_bundle.cls ≠ "java/lang/invoke/VarHandle" ∧ (parseMethodDescriptor yX8_bundle.desc).map (fun d => d.parameters.length) = some 2 := by decide +kernel

def fM_bundle_L41 (k93 : Int32 → MS → Option (Int32 × MS)) : Nat → Int32 → Int32 → Int32 → MS → Option (Int32 × MS)
  | 0, _, _, _, _ => none
  | n + 1, x1, x3, x4, μ =>
    if (μ 1 0) ≤ x4 then (
      k93 x3 μ)
    else (
      ob (fM_townAt μ x4) fun r13 =>
      if r13 = x1 then (
        if x4 = 0 then (
          bnd (x3 + (1 : Int32)) fun v20 =>
          bnd (x4 + (1 : Int32)) fun v22 =>
          (fM_bundle_L41 k93 n) x1 v20 v22 μ)
        else (
          ob (fM_townAt μ (x4 - (1 : Int32))) fun r25 =>
          if r25 = x1 then (
            bnd (x3 + (0 : Int32)) fun v27 =>
            bnd (x4 + (1 : Int32)) fun v29 =>
            (fM_bundle_L41 k93 n) x1 v27 v29 μ)
          else (
            bnd (x3 + (1 : Int32)) fun v31 =>
            bnd (x4 + (1 : Int32)) fun v33 =>
            (fM_bundle_L41 k93 n) x1 v31 v33 μ)))
      else (
        bnd (x3 + (0 : Int32)) fun v15 =>
        bnd (x4 + (1 : Int32)) fun v17 =>
        (fM_bundle_L41 k93 n) x1 v15 v17 μ))

set_option maxHeartbeats 4000000 in
set_option maxRecDepth 100000 in
theorem wM_bundle_L41 {p : Program} {l : Launch} {e : Env} {s : State} {m : MethodId} {args : Array Value} {below : List Frame} {meth : Method} {c : Code} {D : va_G} {cI : ClassId} {B : Nat → Nat} {μ0 : MS} {r : Int32} {μr : MS} (hC : jC p s m args meth c cX8_bundle 5 RX8) (hr : meth.sig.returnType = some .int) {k93 : Int32 → MS → Option (Int32 × MS)} (hk93 : ∀ (x3 : Int32) (μ : MS) (H : Heap) (locs : List Loc) (ls : Array Slot), mH D cI B s (va_A (mW B cI μ0) s.heap.size) μ H locs → lv_has ls 5 [(0, .ref (B 0)), (3, .int x3)] → k93 x3 μ = some (r, μr) → W p l e rmM_bundle s m args below meth c H locs 0 0 (MQ below (mQi D cI B μ0 s.heap.size μr r) args s 0 0 (va_A (mW B cI μ0) s.heap.size)) (F0 m 93 ls [])) : ∀ (n : Nat) (x1 : Int32) (x3 : Int32) (x4 : Int32) (μ : MS) (H : Heap) (locs : List Loc) (ls : Array Slot), mH D cI B s (va_A (mW B cI μ0) s.heap.size) μ H locs → lv_has ls 5 [(0, .ref (B 0)), (1, .int x1), (3, .int x3), (4, .int x4)] → fM_bundle_L41 k93 n x1 x3 x4 μ = some (r, μr) → W p l e rmM_bundle s m args below meth c H locs 0 0 (MQ below (mQi D cI B μ0 s.heap.size μr r) args s 0 0 (va_A (mW B cI μ0) s.heap.size)) (F0 m 41 ls []) := by
  have hx := hC.1.1
  have hb := hC.1.2.1
  have hown := hC.1.2.2.2.1
  have hts := hC.1.2.2.2.2
  intro n
  induction n with
  | zero =>
    intro x1 x3 x4 μ H locs ls  hH hl h
    rw [fM_bundle_L41] at h
    cases h
  | succ n ih =>
    intro x1 x3 x4 μ H locs ls  hH hl h
    rw [fM_bundle_L41] at h
    refine lv_iload hx hb dX8_bundle_41 (lv_at hl 3 rfl) ?_
    refine lv_aload_n hx hb dX8_bundle_43 rfl (lv_at hl 0 rfl) ?_
    refine m_get hC hH 0 (by decide) wfX8_7 rfl rfl dX8_bundle_44 ?_
    refine lv_iconst (v := 0) hx hb dX8_bundle_47 (by decide) ?_
    refine m_ald hC hH (a := 1) rfl rfl (vp_b rfl) dX8_bundle_48 ?_
    refine lv_icmp_ge (tgt := 93) hx hb dX8_bundle_49 (by decide) (fun c11 => ?_) (fun c11 => ?_)
    · have h := ite_t c11 h
      exact hk93 x3 μ H locs ls  hH (lv_sub hl [0, 2] rfl) h
    · have h := ite_f c11 h
      refine lv_iload_n hx hb dX8_bundle_52 rfl (lv_at hl 2 rfl) ?_
      refine lv_aload_n hx hb dX8_bundle_53 rfl (lv_at hl 0 rfl) ?_
      refine lv_iload hx hb dX8_bundle_54 (lv_at hl 3 rfl) ?_
      obtain ⟨r13, h12, h⟩ := ob_some h
      refine m_calli (As := [.int x4]) (rest := [.int x3]) (cM_townAt l D cI B μ x4 h12) hC hH hl (cwV 1 hts (gV wmX8_162 wvX8_townAt) rfl rfl rfl hdX8_townAt ⟨Nat.le_of_ble_eq_true rfl, Nat.le_of_ble_eq_true rfl⟩) rfl rfl (Nat.le_of_ble_eq_true rfl) ⟨Nat.zero_le _, Nat.zero_le _⟩ dX8_bundle_56 (fun H locs hH => ?_)
      refine lv_iload_n hx hb dX8_bundle_59 rfl (lv_at hl 1 rfl) ?_
      refine lv_icmp_ne (tgt := 84) hx hb dX8_bundle_60 (by decide) (fun c14 => ?_) (fun c14 => ?_)
      · have h := ite_f c14 h
        refine lv_iconst (v := 0) hx hb dX8_bundle_84 (by decide) ?_
        refine lv_iadd hx hb dX8_bundle_85 ?_
        obtain ⟨v15, e16, h⟩ := bnd_some h
        refine lv_tope e16 ?_
        refine lv_istore_n (lv' := [(3, .int v15), (0, .ref (B 0)), (1, .int x1), (4, .int x4)]) hx hb dX8_bundle_86 rfl hl (by decide) rfl (fun ls hl => ?_)
        obtain ⟨v17, e18, h⟩ := bnd_some h
        refine lv_iinc (v := v17) (lv' := [(4, .int v17), (3, .int v15), (0, .ref (B 0)), (1, .int x1)]) hx hb dX8_bundle_87 hl (k := 3) rfl (by rw [e18]; rfl) (by decide) rfl (fun ls hl => ?_)
        refine lv_goto (tgt := 41) hx hb dX8_bundle_90 (by decide) ?_
        exact ih x1 v15 v17 μ H locs ls  hH (lv_sub hl [2, 3, 1, 0] rfl) h
      · have h := ite_t c14 h
        refine lv_iload hx hb dX8_bundle_63 (lv_at hl 3 rfl) ?_
        refine lv_if_eq (tgt := 80) hx hb dX8_bundle_65 (by decide) (fun c19 => ?_) (fun c19 => ?_)
        · have h := ite_t c19 h
          refine lv_iconst (v := 1) hx hb dX8_bundle_80 (by decide) ?_
          refine lv_goto (tgt := 85) hx hb dX8_bundle_81 (by decide) ?_
          refine lv_iadd hx hb dX8_bundle_85 ?_
          obtain ⟨v20, e21, h⟩ := bnd_some h
          refine lv_tope e21 ?_
          refine lv_istore_n (lv' := [(3, .int v20), (0, .ref (B 0)), (1, .int x1), (4, .int x4)]) hx hb dX8_bundle_86 rfl hl (by decide) rfl (fun ls hl => ?_)
          obtain ⟨v22, e23, h⟩ := bnd_some h
          refine lv_iinc (v := v22) (lv' := [(4, .int v22), (3, .int v20), (0, .ref (B 0)), (1, .int x1)]) hx hb dX8_bundle_87 hl (k := 3) rfl (by rw [e23]; rfl) (by decide) rfl (fun ls hl => ?_)
          refine lv_goto (tgt := 41) hx hb dX8_bundle_90 (by decide) ?_
          exact ih x1 v20 v22 μ H locs ls  hH (lv_sub hl [2, 3, 1, 0] rfl) h
        · have h := ite_f c19 h
          refine lv_aload_n hx hb dX8_bundle_68 rfl (lv_at hl 0 rfl) ?_
          refine lv_iload hx hb dX8_bundle_69 (lv_at hl 3 rfl) ?_
          refine lv_iconst (v := 1) hx hb dX8_bundle_71 (by decide) ?_
          refine lv_isub hx hb dX8_bundle_72 ?_
          obtain ⟨r25, h24, h⟩ := ob_some h
          refine m_calli (As := [.int (x4 - (1 : Int32))]) (rest := [.int x3]) (cM_townAt l D cI B μ (x4 - (1 : Int32)) h24) hC hH hl (cwV 1 hts (gV wmX8_162 wvX8_townAt) rfl rfl rfl hdX8_townAt ⟨Nat.le_of_ble_eq_true rfl, Nat.le_of_ble_eq_true rfl⟩) rfl rfl (Nat.le_of_ble_eq_true rfl) ⟨Nat.zero_le _, Nat.zero_le _⟩ dX8_bundle_73 (fun H locs hH => ?_)
          refine lv_iload_n hx hb dX8_bundle_76 rfl (lv_at hl 1 rfl) ?_
          refine lv_icmp_eq (tgt := 84) hx hb dX8_bundle_77 (by decide) (fun c26 => ?_) (fun c26 => ?_)
          · have h := ite_t c26 h
            refine lv_iconst (v := 0) hx hb dX8_bundle_84 (by decide) ?_
            refine lv_iadd hx hb dX8_bundle_85 ?_
            obtain ⟨v27, e28, h⟩ := bnd_some h
            refine lv_tope e28 ?_
            refine lv_istore_n (lv' := [(3, .int v27), (0, .ref (B 0)), (1, .int x1), (4, .int x4)]) hx hb dX8_bundle_86 rfl hl (by decide) rfl (fun ls hl => ?_)
            obtain ⟨v29, e30, h⟩ := bnd_some h
            refine lv_iinc (v := v29) (lv' := [(4, .int v29), (3, .int v27), (0, .ref (B 0)), (1, .int x1)]) hx hb dX8_bundle_87 hl (k := 3) rfl (by rw [e30]; rfl) (by decide) rfl (fun ls hl => ?_)
            refine lv_goto (tgt := 41) hx hb dX8_bundle_90 (by decide) ?_
            exact ih x1 v27 v29 μ H locs ls  hH (lv_sub hl [2, 3, 1, 0] rfl) h
          · have h := ite_f c26 h
            refine lv_iconst (v := 1) hx hb dX8_bundle_80 (by decide) ?_
            refine lv_goto (tgt := 85) hx hb dX8_bundle_81 (by decide) ?_
            refine lv_iadd hx hb dX8_bundle_85 ?_
            obtain ⟨v31, e32, h⟩ := bnd_some h
            refine lv_tope e32 ?_
            refine lv_istore_n (lv' := [(3, .int v31), (0, .ref (B 0)), (1, .int x1), (4, .int x4)]) hx hb dX8_bundle_86 rfl hl (by decide) rfl (fun ls hl => ?_)
            obtain ⟨v33, e34, h⟩ := bnd_some h
            refine lv_iinc (v := v33) (lv' := [(4, .int v33), (3, .int v31), (0, .ref (B 0)), (1, .int x1)]) hx hb dX8_bundle_87 hl (k := 3) rfl (by rw [e34]; rfl) (by decide) rfl (fun ls hl => ?_)
            refine lv_goto (tgt := 41) hx hb dX8_bundle_90 (by decide) ?_
            exact ih x1 v31 v33 μ H locs ls  hH (lv_sub hl [2, 3, 1, 0] rfl) h

def fM_bundle (μ0 : MS) (x1 : Int32) (x2 : Int32) : Option (Int32 × MS) :=
  ob (fM_isIn μ0 (x1).toInt64 (0 : Int64) (9 : Int64)) fun r2 =>
  if r2 = 0 then (
    some ((-1000000001 : Int32), μ0))
  else (
    ob (fM_isIn μ0 (x2).toInt64 (0 : Int64) (100 : Int64)) fun r5 =>
    if r5 = 0 then (
      some ((-1000000001 : Int32), μ0))
    else (
      ob (fM_laysBy μ0) fun μ8 =>
      ob (fM_goesOnMany μ8 x2) fun μ10 =>
      fM_bundle_L41 (fun (x3 : Int32) (μ : MS) => ob (fM_laysBack μ) fun μ36 =>
        if (2 : Int32) ≤ x3 then (
          some ((0 : Int32), μ36))
        else (
          some ((1 : Int32), μ36))) 10000 x1 (0 : Int32) (0 : Int32) μ10))

set_option maxHeartbeats 4000000 in
set_option maxRecDepth 100000 in
theorem cM_bundle (l : Launch) (D : va_G) (cI : ClassId) (B : Nat → Nat) (μ0 : MS) (x1 : Int32) (x2 : Int32) {r : Int32} {μr : MS} (h : fM_bundle μ0 x1 x2 = some (r, μr)) : ∀ sz, Met l yX8_bundle (Cond.code yX8_bundle cX8_bundle 5 (some .int) :: Tw) rmM_bundle (mP D cI B μ0 sz [.ref (B 0), .int x1, .int x2]) (mQi D cI B μ0 sz μr r) 0 0 (va_A (mW B cI μ0) sz) := by
  intro sz
  refine Met.ofW (cc := cX8_bundle) (maxL := 5) (ret := (some .int)) (by decide) rfl ?_
  intro p e s m args below meth c s₁ Bd hml hv
  obtain ⟨hC, hr⟩ := jC_of Bd hml
  obtain ⟨rfl, rfl, hH⟩ := m_enter hv
  have hC : jC p s m _ meth c cX8_bundle 5 RX8 := hC
  have hx := hC.1.1
  have hb := hC.1.2.1
  have hown := hC.1.2.2.2.1
  have hts := hC.1.2.2.2.2
  have hl := lv_entry ([.ref (B 0), .int x1, .int x2]) (n := 5) (Nat.le_of_ble_eq_true rfl)
  rw [lg_entry_eq]
  generalize (lg_sl ([.ref (B 0), .int x1, .int x2]) ++ List.replicate (5 - (lg_sl ([.ref (B 0), .int x1, .int x2])).length) Slot.unset).toArray = ls at hl ⊢
  have hl : lv_has ls 5 [(0, .ref (B 0)), (1, .int x1), (2, .int x2)] := hl
  unfold fM_bundle at h
  refine W_nm (fun H locs eH eL => ?_)
  have hH : mH D cI B s (va_A (mW B cI μ0) s.heap.size) μ0 H locs := by rw [eH, eL]; exact hH
  show W p l e rmM_bundle s m _ below meth c H locs 0 0 _ (F0 m 0 ls [])
  refine lv_iload_n hx hb dX8_bundle_0 rfl (lv_at hl 1 rfl) ?_
  refine lv_i2l hx hb dX8_bundle_1 rfl ?_
  refine lv_lconst (v := 0) hx hb dX8_bundle_2 (by decide) ?_
  refine lv_ldc2 (v := 9) hx hb hown (hts _ wqX8_88) dX8_bundle_3 ?_
  obtain ⟨r2, h1, h⟩ := ob_some h
  refine m_calls (As := [.long (x1).toInt64, .long (0 : Int64), .long (9 : Int64)]) (rest := []) (cM_isIn l D cI B μ0 (x1).toInt64 (0 : Int64) (9 : Int64) h1) hC hH hl (va_cwS 3 hts (gS wmX8_75 wsX8_isIn) rfl rfl rfl hdX8_isIn ⟨Nat.le_of_ble_eq_true rfl, Nat.le_of_ble_eq_true rfl⟩) rfl rfl (Nat.le_of_ble_eq_true rfl) ⟨Nat.zero_le _, Nat.zero_le _⟩ dX8_bundle_6 (fun H locs hH => ?_)
  refine lv_if_eq (tgt := 24) hx hb dX8_bundle_9 (by decide) (fun c3 => ?_) (fun c3 => ?_)
  · have h := ite_t c3 h
    refine lv_ldc (v := -1000000001) hx hb hown (hts _ wkX8_90) dX8_bundle_24 ?_
    obtain ⟨rfl, rfl⟩ := some_i2 h
    exact m_iret (v := -1000000001) hC hH hr rfl dX8_bundle_26
  · have h := ite_f c3 h
    refine lv_iload_n hx hb dX8_bundle_12 rfl (lv_at hl 2 rfl) ?_
    refine lv_i2l hx hb dX8_bundle_13 rfl ?_
    refine lv_lconst (v := 0) hx hb dX8_bundle_14 (by decide) ?_
    refine lv_ldc2 (v := 100) hx hb hown (hts _ wqX8_148) dX8_bundle_15 ?_
    obtain ⟨r5, h4, h⟩ := ob_some h
    refine m_calls (As := [.long (x2).toInt64, .long (0 : Int64), .long (100 : Int64)]) (rest := []) (cM_isIn l D cI B μ0 (x2).toInt64 (0 : Int64) (100 : Int64) h4) hC hH hl (va_cwS 3 hts (gS wmX8_75 wsX8_isIn) rfl rfl rfl hdX8_isIn ⟨Nat.le_of_ble_eq_true rfl, Nat.le_of_ble_eq_true rfl⟩) rfl rfl (Nat.le_of_ble_eq_true rfl) ⟨Nat.zero_le _, Nat.zero_le _⟩ dX8_bundle_18 (fun H locs hH => ?_)
    refine lv_if_ne (tgt := 27) hx hb dX8_bundle_21 (by decide) (fun c6 => ?_) (fun c6 => ?_)
    · have h := ite_f c6 h
      refine lv_aload_n hx hb dX8_bundle_27 rfl (lv_at hl 0 rfl) ?_
      obtain ⟨μ8, h7, h⟩ := ob_some h
      refine m_callv (As := []) (rest := []) (cM_laysBy l D cI B μ0  h7) hC hH hl (cwV 0 hts (gV wmX8_177 wvX8_laysBy) rfl rfl rfl hdX8_laysBy ⟨Nat.le_of_ble_eq_true rfl, Nat.le_of_ble_eq_true rfl⟩) rfl rfl (Nat.le_of_ble_eq_true rfl) ⟨Nat.zero_le _, Nat.zero_le _⟩ dX8_bundle_28 (fun H locs hH => ?_)
      refine lv_aload_n hx hb dX8_bundle_31 rfl (lv_at hl 0 rfl) ?_
      refine lv_iload_n hx hb dX8_bundle_32 rfl (lv_at hl 2 rfl) ?_
      obtain ⟨μ10, h9, h⟩ := ob_some h
      refine m_callv (As := [.int x2]) (rest := []) (cM_goesOnMany l D cI B μ8 x2 h9) hC hH hl (cwV 1 hts (gV wmX8_180 wvX8_goesOnMany) rfl rfl rfl hdX8_goesOnMany ⟨Nat.le_of_ble_eq_true rfl, Nat.le_of_ble_eq_true rfl⟩) rfl rfl (Nat.le_of_ble_eq_true rfl) ⟨Nat.zero_le _, Nat.zero_le _⟩ dX8_bundle_33 (fun H locs hH => ?_)
      refine lv_iconst (v := 0) hx hb dX8_bundle_36 (by decide) ?_
      refine lv_istore_n (lv' := [(3, .int (0 : Int32)), (0, .ref (B 0)), (1, .int x1), (2, .int x2)]) hx hb dX8_bundle_37 rfl hl (by decide) rfl (fun ls hl => ?_)
      refine lv_iconst (v := 0) hx hb dX8_bundle_38 (by decide) ?_
      refine lv_istore (lv' := [(4, .int (0 : Int32)), (3, .int (0 : Int32)), (0, .ref (B 0)), (1, .int x1), (2, .int x2)]) hx hb dX8_bundle_39 hl (by decide) rfl (fun ls hl => ?_)
      refine wM_bundle_L41 hC hr  ?_ 10000 x1 (0 : Int32) (0 : Int32) μ10 H locs ls  hH (lv_sub hl [2, 3, 1, 0] rfl) h
      intro x3 μ H locs ls  hH hl h
      refine lv_aload_n hx hb dX8_bundle_93 rfl (lv_at hl 0 rfl) ?_
      obtain ⟨μ36, h35, h⟩ := ob_some h
      refine m_callv (As := []) (rest := []) (cM_laysBack l D cI B μ  h35) hC hH hl (cwV 0 hts (gV wmX8_184 wvX8_laysBack) rfl rfl rfl hdX8_laysBack ⟨Nat.le_of_ble_eq_true rfl, Nat.le_of_ble_eq_true rfl⟩) rfl rfl (Nat.le_of_ble_eq_true rfl) ⟨Nat.zero_le _, Nat.zero_le _⟩ dX8_bundle_94 (fun H locs hH => ?_)
      refine lv_iload_n hx hb dX8_bundle_97 rfl (lv_at hl 1 rfl) ?_
      refine lv_iconst (v := 2) hx hb dX8_bundle_98 (by decide) ?_
      refine lv_icmp_ge (tgt := 106) hx hb dX8_bundle_99 (by decide) (fun c37 => ?_) (fun c37 => ?_)
      · have h := ite_t c37 h
        refine lv_iconst (v := 0) hx hb dX8_bundle_106 (by decide) ?_
        obtain ⟨rfl, rfl⟩ := some_i2 h
        exact m_iret (v := 0) hC hH hr rfl dX8_bundle_107
      · have h := ite_f c37 h
        refine lv_iconst (v := 1) hx hb dX8_bundle_102 (by decide) ?_
        refine lv_goto (tgt := 107) hx hb dX8_bundle_103 (by decide) ?_
        obtain ⟨rfl, rfl⟩ := some_i2 h
        exact m_iret (v := 1) hC hH hr rfl dX8_bundle_107
    · have h := ite_t c6 h
      refine lv_ldc (v := -1000000001) hx hb hown (hts _ wkX8_90) dX8_bundle_24 ?_
      obtain ⟨rfl, rfl⟩ := some_i2 h
      exact m_iret (v := -1000000001) hC hH hr rfl dX8_bundle_26

def rmM_halts : Room := { frames := 7, cells := 0, slots := 0, locals := 162 }
theorem hdX8_halts : yX8_halts.cls = RX8 ∧ yX8_halts.cls ≠ "java/lang/invoke/MethodHandle" ∧ yX8_halts.cls ≠ "java/lang/invoke/VarHandle" ∧ (parseMethodDescriptor yX8_halts.desc).map (fun d => d.parameters.length) = some 2 := by decide +kernel

def fM_halts_L37 (k95 : Int32 → Int32 → Int32 → MS → Option (Int32 × MS)) : Nat → Int32 → Int32 → Int32 → Int32 → Int32 → MS → Option (Int32 × MS)
  | 0, _, _, _, _, _, _ => none
  | n + 1, x1, x2, x3, x4, x5, μ =>
    if x1 < x5 then (
      k95 x2 x3 x4 μ)
    else (
      ob (fM_goesOnMany μ x5) fun μ11 =>
      ob (fM_turnsOver μ11) fun μ13 =>
      ob (fM_goesOnMany μ13 (x1 - x5)) fun μ15 =>
      ob2 (fM_mess μ15) fun r17 μ18 =>
      ob (fM_laysBack μ18) fun μ20 =>
      if x3 < 0 then (
        bnd (x5 + (1 : Int32)) fun v22 =>
        (fM_halts_L37 k95 n) x1 x2 x5 r17 v22 μ20)
      else (
        if x4 ≤ r17 then (
          bnd (x5 + (1 : Int32)) fun v25 =>
          (fM_halts_L37 k95 n) x1 x2 x3 x4 v25 μ20)
        else (
          bnd (x5 + (1 : Int32)) fun v27 =>
          (fM_halts_L37 k95 n) x1 x2 x5 r17 v27 μ20)))

set_option maxHeartbeats 4000000 in
set_option maxRecDepth 100000 in
theorem wM_halts_L37 {p : Program} {l : Launch} {e : Env} {s : State} {m : MethodId} {args : Array Value} {below : List Frame} {meth : Method} {c : Code} {D : va_G} {cI : ClassId} {B : Nat → Nat} {μ0 : MS} {r : Int32} {μr : MS} (hC : jC p s m args meth c cX8_halts 7 RX8) (hr : meth.sig.returnType = some .int) {k95 : Int32 → Int32 → Int32 → MS → Option (Int32 × MS)} (hk95 : ∀ (x2 : Int32) (x3 : Int32) (x4 : Int32) (μ : MS) (H : Heap) (locs : List Loc) (ls : Array Slot), mH D cI B s (va_A (mW B cI μ0) s.heap.size) μ H locs → lv_has ls 7 [(2, .int x2), (3, .int x3), (4, .int x4)] → k95 x2 x3 x4 μ = some (r, μr) → W p l e rmM_halts s m args below meth c H locs 0 0 (MQ below (mQi D cI B μ0 s.heap.size μr r) args s 0 0 (va_A (mW B cI μ0) s.heap.size)) (F0 m 95 ls [])) : ∀ (n : Nat) (x1 : Int32) (x2 : Int32) (x3 : Int32) (x4 : Int32) (x5 : Int32) (μ : MS) (H : Heap) (locs : List Loc) (ls : Array Slot), mH D cI B s (va_A (mW B cI μ0) s.heap.size) μ H locs → lv_has ls 7 [(0, .ref (B 0)), (1, .int x1), (2, .int x2), (3, .int x3), (4, .int x4), (5, .int x5)] → fM_halts_L37 k95 n x1 x2 x3 x4 x5 μ = some (r, μr) → W p l e rmM_halts s m args below meth c H locs 0 0 (MQ below (mQi D cI B μ0 s.heap.size μr r) args s 0 0 (va_A (mW B cI μ0) s.heap.size)) (F0 m 37 ls []) := by
  have hx := hC.1.1
  have hb := hC.1.2.1
  have hown := hC.1.2.2.2.1
  have hts := hC.1.2.2.2.2
  intro n
  induction n with
  | zero =>
    intro x1 x2 x3 x4 x5 μ H locs ls  hH hl h
    rw [fM_halts_L37] at h
    cases h
  | succ n ih =>
    intro x1 x2 x3 x4 x5 μ H locs ls  hH hl h
    rw [fM_halts_L37] at h
    refine lv_iload hx hb dX8_halts_37 (lv_at hl 5 rfl) ?_
    refine lv_iload_n hx hb dX8_halts_39 rfl (lv_at hl 1 rfl) ?_
    refine lv_icmp_gt (tgt := 95) hx hb dX8_halts_40 (by decide) (fun c9 => ?_) (fun c9 => ?_)
    · have h := ite_t c9 h
      exact hk95 x2 x3 x4 μ H locs ls  hH (lv_sub hl [2, 3, 4] rfl) h
    · have h := ite_f c9 h
      refine lv_aload_n hx hb dX8_halts_43 rfl (lv_at hl 0 rfl) ?_
      refine lv_iload hx hb dX8_halts_44 (lv_at hl 5 rfl) ?_
      obtain ⟨μ11, h10, h⟩ := ob_some h
      refine m_callv (As := [.int x5]) (rest := []) (cM_goesOnMany l D cI B μ x5 h10) hC hH hl (cwV 1 hts (gV wmX8_180 wvX8_goesOnMany) rfl rfl rfl hdX8_goesOnMany ⟨Nat.le_of_ble_eq_true rfl, Nat.le_of_ble_eq_true rfl⟩) rfl rfl (Nat.le_of_ble_eq_true rfl) ⟨Nat.zero_le _, Nat.zero_le _⟩ dX8_halts_46 (fun H locs hH => ?_)
      refine lv_aload_n hx hb dX8_halts_49 rfl (lv_at hl 0 rfl) ?_
      obtain ⟨μ13, h12, h⟩ := ob_some h
      refine m_callv (As := []) (rest := []) (cM_turnsOver l D cI B μ11  h12) hC hH hl (cwV 0 hts (gV wmX8_145 wvX8_turnsOver) rfl rfl rfl hdX8_turnsOver ⟨Nat.le_of_ble_eq_true rfl, Nat.le_of_ble_eq_true rfl⟩) rfl rfl (Nat.le_of_ble_eq_true rfl) ⟨Nat.zero_le _, Nat.zero_le _⟩ dX8_halts_50 (fun H locs hH => ?_)
      refine lv_aload_n hx hb dX8_halts_53 rfl (lv_at hl 0 rfl) ?_
      refine lv_iload_n hx hb dX8_halts_54 rfl (lv_at hl 1 rfl) ?_
      refine lv_iload hx hb dX8_halts_55 (lv_at hl 5 rfl) ?_
      refine lv_isub hx hb dX8_halts_57 ?_
      obtain ⟨μ15, h14, h⟩ := ob_some h
      refine m_callv (As := [.int (x1 - x5)]) (rest := []) (cM_goesOnMany l D cI B μ13 (x1 - x5) h14) hC hH hl (cwV 1 hts (gV wmX8_180 wvX8_goesOnMany) rfl rfl rfl hdX8_goesOnMany ⟨Nat.le_of_ble_eq_true rfl, Nat.le_of_ble_eq_true rfl⟩) rfl rfl (Nat.le_of_ble_eq_true rfl) ⟨Nat.zero_le _, Nat.zero_le _⟩ dX8_halts_58 (fun H locs hH => ?_)
      refine lv_aload_n hx hb dX8_halts_61 rfl (lv_at hl 0 rfl) ?_
      obtain ⟨r17, μ18, h16, h⟩ := ob2_some h
      refine m_calli (As := []) (rest := []) (cM_mess l D cI B μ15  h16) hC hH hl (cwV 0 hts (gV wmX8_165 wvX8_mess) rfl rfl rfl hdX8_mess ⟨Nat.le_of_ble_eq_true rfl, Nat.le_of_ble_eq_true rfl⟩) rfl rfl (Nat.le_of_ble_eq_true rfl) ⟨Nat.zero_le _, Nat.zero_le _⟩ dX8_halts_62 (fun H locs hH => ?_)
      refine lv_istore (lv' := [(6, .int r17), (0, .ref (B 0)), (1, .int x1), (2, .int x2), (3, .int x3), (4, .int x4), (5, .int x5)]) hx hb dX8_halts_65 hl (by decide) rfl (fun ls hl => ?_)
      refine lv_aload_n hx hb dX8_halts_67 rfl (lv_at hl 1 rfl) ?_
      obtain ⟨μ20, h19, h⟩ := ob_some h
      refine m_callv (As := []) (rest := []) (cM_laysBack l D cI B μ18  h19) hC hH hl (cwV 0 hts (gV wmX8_184 wvX8_laysBack) rfl rfl rfl hdX8_laysBack ⟨Nat.le_of_ble_eq_true rfl, Nat.le_of_ble_eq_true rfl⟩) rfl rfl (Nat.le_of_ble_eq_true rfl) ⟨Nat.zero_le _, Nat.zero_le _⟩ dX8_halts_68 (fun H locs hH => ?_)
      refine lv_iload_n hx hb dX8_halts_71 rfl (lv_at hl 4 rfl) ?_
      refine lv_if_lt (tgt := 82) hx hb dX8_halts_72 (by decide) (fun c21 => ?_) (fun c21 => ?_)
      · have h := ite_t c21 h
        refine lv_iload hx hb dX8_halts_82 (lv_at hl 6 rfl) ?_
        refine lv_istore_n (lv' := [(3, .int x5), (6, .int r17), (0, .ref (B 0)), (1, .int x1), (2, .int x2), (4, .int x4), (5, .int x5)]) hx hb dX8_halts_84 rfl hl (by decide) rfl (fun ls hl => ?_)
        refine lv_iload hx hb dX8_halts_85 (lv_at hl 1 rfl) ?_
        refine lv_istore (lv' := [(4, .int r17), (3, .int x5), (6, .int r17), (0, .ref (B 0)), (1, .int x1), (2, .int x2), (5, .int x5)]) hx hb dX8_halts_87 hl (by decide) rfl (fun ls hl => ?_)
        obtain ⟨v22, e23, h⟩ := bnd_some h
        refine lv_iinc (v := v22) (lv' := [(5, .int v22), (4, .int r17), (3, .int x5), (6, .int r17), (0, .ref (B 0)), (1, .int x1), (2, .int x2)]) hx hb dX8_halts_89 hl (k := 6) rfl (by rw [e23]; rfl) (by decide) rfl (fun ls hl => ?_)
        refine lv_goto (tgt := 37) hx hb dX8_halts_92 (by decide) ?_
        exact ih x1 x2 x5 r17 v22 μ20 H locs ls  hH (lv_sub hl [4, 5, 6, 2, 1, 0] rfl) h
      · have h := ite_f c21 h
        refine lv_iload hx hb dX8_halts_75 (lv_at hl 0 rfl) ?_
        refine lv_iload hx hb dX8_halts_77 (lv_at hl 5 rfl) ?_
        refine lv_icmp_ge (tgt := 89) hx hb dX8_halts_79 (by decide) (fun c24 => ?_) (fun c24 => ?_)
        · have h := ite_t c24 h
          obtain ⟨v25, e26, h⟩ := bnd_some h
          refine lv_iinc (v := v25) (lv' := [(5, .int v25), (6, .int r17), (0, .ref (B 0)), (1, .int x1), (2, .int x2), (3, .int x3), (4, .int x4)]) hx hb dX8_halts_89 hl (k := 6) rfl (by rw [e26]; rfl) (by decide) rfl (fun ls hl => ?_)
          refine lv_goto (tgt := 37) hx hb dX8_halts_92 (by decide) ?_
          exact ih x1 x2 x3 x4 v25 μ20 H locs ls  hH (lv_sub hl [2, 3, 4, 5, 6, 0] rfl) h
        · have h := ite_f c24 h
          refine lv_iload hx hb dX8_halts_82 (lv_at hl 6 rfl) ?_
          refine lv_istore_n (lv' := [(3, .int x5), (6, .int r17), (0, .ref (B 0)), (1, .int x1), (2, .int x2), (4, .int x4), (5, .int x5)]) hx hb dX8_halts_84 rfl hl (by decide) rfl (fun ls hl => ?_)
          refine lv_iload hx hb dX8_halts_85 (lv_at hl 1 rfl) ?_
          refine lv_istore (lv' := [(4, .int r17), (3, .int x5), (6, .int r17), (0, .ref (B 0)), (1, .int x1), (2, .int x2), (5, .int x5)]) hx hb dX8_halts_87 hl (by decide) rfl (fun ls hl => ?_)
          obtain ⟨v27, e28, h⟩ := bnd_some h
          refine lv_iinc (v := v27) (lv' := [(5, .int v27), (4, .int r17), (3, .int x5), (6, .int r17), (0, .ref (B 0)), (1, .int x1), (2, .int x2)]) hx hb dX8_halts_89 hl (k := 6) rfl (by rw [e28]; rfl) (by decide) rfl (fun ls hl => ?_)
          refine lv_goto (tgt := 37) hx hb dX8_halts_92 (by decide) ?_
          exact ih x1 x2 x5 r17 v27 μ20 H locs ls  hH (lv_sub hl [4, 5, 6, 2, 1, 0] rfl) h

def fM_halts (μ0 : MS) (x1 : Int32) (x2 : Int32) : Option (Int32 × MS) :=
  ob (fM_isIn μ0 (x1).toInt64 (0 : Int64) (40 : Int64)) fun r2 =>
  if r2 = 0 then (
    some ((-1000000001 : Int32), μ0))
  else (
    ob (fM_isIn μ0 (x2).toInt64 (0 : Int64) (1 : Int64)) fun r5 =>
    if r5 = 0 then (
      some ((-1000000001 : Int32), μ0))
    else (
      ob (fM_laysBy μ0) fun μ8 =>
      fM_halts_L37 (fun (x2 : Int32) (x3 : Int32) (x4 : Int32) (μ : MS) => if x2 = 0 then (
          some (x3, μ))
        else (
          some (x4, μ))) 10000 x1 x2 (-1 : Int32) (0 : Int32) (0 : Int32) μ8))

set_option maxHeartbeats 4000000 in
set_option maxRecDepth 100000 in
theorem cM_halts (l : Launch) (D : va_G) (cI : ClassId) (B : Nat → Nat) (μ0 : MS) (x1 : Int32) (x2 : Int32) {r : Int32} {μr : MS} (h : fM_halts μ0 x1 x2 = some (r, μr)) : ∀ sz, Met l yX8_halts (Cond.code yX8_halts cX8_halts 7 (some .int) :: Tw) rmM_halts (mP D cI B μ0 sz [.ref (B 0), .int x1, .int x2]) (mQi D cI B μ0 sz μr r) 0 0 (va_A (mW B cI μ0) sz) := by
  intro sz
  refine Met.ofW (cc := cX8_halts) (maxL := 7) (ret := (some .int)) (by decide) rfl ?_
  intro p e s m args below meth c s₁ Bd hml hv
  obtain ⟨hC, hr⟩ := jC_of Bd hml
  obtain ⟨rfl, rfl, hH⟩ := m_enter hv
  have hC : jC p s m _ meth c cX8_halts 7 RX8 := hC
  have hx := hC.1.1
  have hb := hC.1.2.1
  have hown := hC.1.2.2.2.1
  have hts := hC.1.2.2.2.2
  have hl := lv_entry ([.ref (B 0), .int x1, .int x2]) (n := 7) (Nat.le_of_ble_eq_true rfl)
  rw [lg_entry_eq]
  generalize (lg_sl ([.ref (B 0), .int x1, .int x2]) ++ List.replicate (7 - (lg_sl ([.ref (B 0), .int x1, .int x2])).length) Slot.unset).toArray = ls at hl ⊢
  have hl : lv_has ls 7 [(0, .ref (B 0)), (1, .int x1), (2, .int x2)] := hl
  unfold fM_halts at h
  refine W_nm (fun H locs eH eL => ?_)
  have hH : mH D cI B s (va_A (mW B cI μ0) s.heap.size) μ0 H locs := by rw [eH, eL]; exact hH
  show W p l e rmM_halts s m _ below meth c H locs 0 0 _ (F0 m 0 ls [])
  refine lv_iload_n hx hb dX8_halts_0 rfl (lv_at hl 1 rfl) ?_
  refine lv_i2l hx hb dX8_halts_1 rfl ?_
  refine lv_lconst (v := 0) hx hb dX8_halts_2 (by decide) ?_
  refine lv_ldc2 (v := 40) hx hb hown (hts _ wqX8_190) dX8_halts_3 ?_
  obtain ⟨r2, h1, h⟩ := ob_some h
  refine m_calls (As := [.long (x1).toInt64, .long (0 : Int64), .long (40 : Int64)]) (rest := []) (cM_isIn l D cI B μ0 (x1).toInt64 (0 : Int64) (40 : Int64) h1) hC hH hl (va_cwS 3 hts (gS wmX8_75 wsX8_isIn) rfl rfl rfl hdX8_isIn ⟨Nat.le_of_ble_eq_true rfl, Nat.le_of_ble_eq_true rfl⟩) rfl rfl (Nat.le_of_ble_eq_true rfl) ⟨Nat.zero_le _, Nat.zero_le _⟩ dX8_halts_6 (fun H locs hH => ?_)
  refine lv_if_eq (tgt := 22) hx hb dX8_halts_9 (by decide) (fun c3 => ?_) (fun c3 => ?_)
  · have h := ite_t c3 h
    refine lv_ldc (v := -1000000001) hx hb hown (hts _ wkX8_90) dX8_halts_22 ?_
    obtain ⟨rfl, rfl⟩ := some_i2 h
    exact m_iret (v := -1000000001) hC hH hr rfl dX8_halts_24
  · have h := ite_f c3 h
    refine lv_iload_n hx hb dX8_halts_12 rfl (lv_at hl 2 rfl) ?_
    refine lv_i2l hx hb dX8_halts_13 rfl ?_
    refine lv_lconst (v := 0) hx hb dX8_halts_14 (by decide) ?_
    refine lv_lconst (v := 1) hx hb dX8_halts_15 (by decide) ?_
    obtain ⟨r5, h4, h⟩ := ob_some h
    refine m_calls (As := [.long (x2).toInt64, .long (0 : Int64), .long (1 : Int64)]) (rest := []) (cM_isIn l D cI B μ0 (x2).toInt64 (0 : Int64) (1 : Int64) h4) hC hH hl (va_cwS 3 hts (gS wmX8_75 wsX8_isIn) rfl rfl rfl hdX8_isIn ⟨Nat.le_of_ble_eq_true rfl, Nat.le_of_ble_eq_true rfl⟩) rfl rfl (Nat.le_of_ble_eq_true rfl) ⟨Nat.zero_le _, Nat.zero_le _⟩ dX8_halts_16 (fun H locs hH => ?_)
    refine lv_if_ne (tgt := 25) hx hb dX8_halts_19 (by decide) (fun c6 => ?_) (fun c6 => ?_)
    · have h := ite_f c6 h
      refine lv_aload_n hx hb dX8_halts_25 rfl (lv_at hl 0 rfl) ?_
      obtain ⟨μ8, h7, h⟩ := ob_some h
      refine m_callv (As := []) (rest := []) (cM_laysBy l D cI B μ0  h7) hC hH hl (cwV 0 hts (gV wmX8_177 wvX8_laysBy) rfl rfl rfl hdX8_laysBy ⟨Nat.le_of_ble_eq_true rfl, Nat.le_of_ble_eq_true rfl⟩) rfl rfl (Nat.le_of_ble_eq_true rfl) ⟨Nat.zero_le _, Nat.zero_le _⟩ dX8_halts_26 (fun H locs hH => ?_)
      refine lv_iconst (v := -1) hx hb dX8_halts_29 (by decide) ?_
      refine lv_istore_n (lv' := [(3, .int (-1 : Int32)), (0, .ref (B 0)), (1, .int x1), (2, .int x2)]) hx hb dX8_halts_30 rfl hl (by decide) rfl (fun ls hl => ?_)
      refine lv_iconst (v := 0) hx hb dX8_halts_31 (by decide) ?_
      refine lv_istore (lv' := [(4, .int (0 : Int32)), (3, .int (-1 : Int32)), (0, .ref (B 0)), (1, .int x1), (2, .int x2)]) hx hb dX8_halts_32 hl (by decide) rfl (fun ls hl => ?_)
      refine lv_iconst (v := 0) hx hb dX8_halts_34 (by decide) ?_
      refine lv_istore (lv' := [(5, .int (0 : Int32)), (4, .int (0 : Int32)), (3, .int (-1 : Int32)), (0, .ref (B 0)), (1, .int x1), (2, .int x2)]) hx hb dX8_halts_35 hl (by decide) rfl (fun ls hl => ?_)
      refine wM_halts_L37 hC hr  ?_ 10000 x1 x2 (-1 : Int32) (0 : Int32) (0 : Int32) μ8 H locs ls  hH (lv_sub hl [3, 4, 5, 2, 1, 0] rfl) h
      intro x2 x3 x4 μ H locs ls  hH hl h
      refine lv_iload_n hx hb dX8_halts_95 rfl (lv_at hl 0 rfl) ?_
      refine lv_if_ne (tgt := 103) hx hb dX8_halts_96 (by decide) (fun c29 => ?_) (fun c29 => ?_)
      · have h := ite_f c29 h
        refine lv_iload hx hb dX8_halts_103 (lv_at hl 2 rfl) ?_
        obtain ⟨rfl, rfl⟩ := some_i2 h
        exact m_iret hC hH hr rfl dX8_halts_105
      · have h := ite_t c29 h
        refine lv_iload_n hx hb dX8_halts_99 rfl (lv_at hl 1 rfl) ?_
        refine lv_goto (tgt := 105) hx hb dX8_halts_100 (by decide) ?_
        obtain ⟨rfl, rfl⟩ := some_i2 h
        exact m_iret hC hH hr rfl dX8_halts_105
    · have h := ite_t c6 h
      refine lv_ldc (v := -1000000001) hx hb hown (hts _ wkX8_90) dX8_halts_22 ?_
      obtain ⟨rfl, rfl⟩ := some_i2 h
      exact m_iret (v := -1000000001) hC hH hr rfl dX8_halts_24

def rmM_fee : Room := { frames := 5, cells := 0, slots := 0, locals := 119 }
theorem hdX8_fee : yX8_fee.cls = RX8 ∧ yX8_fee.cls ≠ "java/lang/invoke/MethodHandle" ∧ yX8_fee.cls ≠ "java/lang/invoke/VarHandle" ∧ (parseMethodDescriptor yX8_fee.desc).map (fun d => d.parameters.length) = some 0 := by decide +kernel

def fM_fee (μ0 : MS) : Option (Int32 × MS) :=
  ob (fM_counts μ0 (1 : Int32)) fun r2 =>
  if 0 ≤ r2 then (
    ob2 (fM_mess μ0) fun r5 μ6 =>
    bnd (up2 μ6 29 109 r5) fun μ7 =>
    bnd (up2 μ7 29 106 (μ7 1 2)) fun μ9 =>
    ob2 (fM_worked μ9 r2) fun r12 μ13 =>
    some (r12, μ13))
  else (
    ob2 (fM_mess μ0) fun r15 μ16 =>
    some (r15, μ16))

set_option maxHeartbeats 4000000 in
set_option maxRecDepth 100000 in
theorem cM_fee (l : Launch) (D : va_G) (cI : ClassId) (B : Nat → Nat) (μ0 : MS) {r : Int32} {μr : MS} (h : fM_fee μ0 = some (r, μr)) : ∀ sz, Met l yX8_fee (Cond.code yX8_fee cX8_fee 2 (some .int) :: Tw) rmM_fee (mP D cI B μ0 sz [.ref (B 0)]) (mQi D cI B μ0 sz μr r) 0 0 (va_A (mW B cI μ0) sz) := by
  intro sz
  refine Met.ofW (cc := cX8_fee) (maxL := 2) (ret := (some .int)) (by decide) rfl ?_
  intro p e s m args below meth c s₁ Bd hml hv
  obtain ⟨hC, hr⟩ := jC_of Bd hml
  obtain ⟨rfl, rfl, hH⟩ := m_enter hv
  have hC : jC p s m _ meth c cX8_fee 2 RX8 := hC
  have hx := hC.1.1
  have hb := hC.1.2.1
  have hown := hC.1.2.2.2.1
  have hts := hC.1.2.2.2.2
  have hl := lv_entry ([.ref (B 0)]) (n := 2) (Nat.le_of_ble_eq_true rfl)
  rw [lg_entry_eq]
  generalize (lg_sl ([.ref (B 0)]) ++ List.replicate (2 - (lg_sl ([.ref (B 0)])).length) Slot.unset).toArray = ls at hl ⊢
  have hl : lv_has ls 2 [(0, .ref (B 0))] := hl
  unfold fM_fee at h
  refine W_nm (fun H locs eH eL => ?_)
  have hH : mH D cI B s (va_A (mW B cI μ0) s.heap.size) μ0 H locs := by rw [eH, eL]; exact hH
  show W p l e rmM_fee s m _ below meth c H locs 0 0 _ (F0 m 0 ls [])
  refine lv_aload_n hx hb dX8_fee_0 rfl (lv_at hl 0 rfl) ?_
  refine lv_iconst (v := 1) hx hb dX8_fee_1 (by decide) ?_
  obtain ⟨r2, h1, h⟩ := ob_some h
  refine m_calli (As := [.int (1 : Int32)]) (rest := []) (cM_counts l D cI B μ0 (1 : Int32) h1) hC hH hl (cwV 1 hts (gV wmX8_95 wvX8_counts) rfl rfl rfl hdX8_counts ⟨Nat.le_of_ble_eq_true rfl, Nat.le_of_ble_eq_true rfl⟩) rfl rfl (Nat.le_of_ble_eq_true rfl) ⟨Nat.zero_le _, Nat.zero_le _⟩ dX8_fee_2 (fun H locs hH => ?_)
  refine lv_istore_n (lv' := [(1, .int r2), (0, .ref (B 0))]) hx hb dX8_fee_5 rfl hl (by decide) rfl (fun ls hl => ?_)
  refine lv_iload_n hx hb dX8_fee_6 rfl (lv_at hl 0 rfl) ?_
  refine lv_if_ge (tgt := 15) hx hb dX8_fee_7 (by decide) (fun c3 => ?_) (fun c3 => ?_)
  · have h := ite_t c3 h
    refine lv_aload_n hx hb dX8_fee_15 rfl (lv_at hl 1 rfl) ?_
    refine m_get hC hH 28 (by decide) wfX8_59 rfl rfl dX8_fee_16 ?_
    refine lv_bipush (v := 109) hx hb dX8_fee_19 (by decide) ?_
    refine lv_aload_n hx hb dX8_fee_21 rfl (lv_at hl 1 rfl) ?_
    obtain ⟨r5, μ6, h4, h⟩ := ob2_some h
    refine m_calli (As := []) (rest := [.int (109 : Int32), .ref (B 29)]) (cM_mess l D cI B μ0  h4) hC hH hl (cwV 0 hts (gV wmX8_165 wvX8_mess) rfl rfl rfl hdX8_mess ⟨Nat.le_of_ble_eq_true rfl, Nat.le_of_ble_eq_true rfl⟩) rfl rfl (Nat.le_of_ble_eq_true rfl) ⟨Nat.zero_le _, Nat.zero_le _⟩ dX8_fee_22 (fun H locs hH => ?_)
    obtain ⟨μ7, e8, h⟩ := bnd_some h
    refine m_ast hC hH (a := 29) rfl rfl e8 (vp_b rfl) dX8_fee_25 (fun H locs hH => ?_)
    refine lv_aload_n hx hb dX8_fee_26 rfl (lv_at hl 1 rfl) ?_
    refine m_get hC hH 28 (by decide) wfX8_59 rfl rfl dX8_fee_27 ?_
    refine lv_bipush (v := 106) hx hb dX8_fee_30 (by decide) ?_
    refine lv_aload_n hx hb dX8_fee_32 rfl (lv_at hl 1 rfl) ?_
    refine m_get hC hH 0 (by decide) wfX8_7 rfl rfl dX8_fee_33 ?_
    refine lv_iconst (v := 2) hx hb dX8_fee_36 (by decide) ?_
    refine m_ald hC hH (a := 1) rfl rfl (vp_b rfl) dX8_fee_37 ?_
    obtain ⟨μ9, e10, h⟩ := bnd_some h
    refine m_ast hC hH (a := 29) rfl rfl e10 (vp_b rfl) dX8_fee_38 (fun H locs hH => ?_)
    refine lv_aload_n hx hb dX8_fee_39 rfl (lv_at hl 1 rfl) ?_
    refine lv_iload_n hx hb dX8_fee_40 rfl (lv_at hl 0 rfl) ?_
    obtain ⟨r12, μ13, h11, h⟩ := ob2_some h
    refine m_calli (As := [.int r2]) (rest := []) (cM_worked l D cI B μ9 r2 h11) hC hH hl (cwV 1 hts (gV wmX8_103 wvX8_worked) rfl rfl rfl hdX8_worked ⟨Nat.le_of_ble_eq_true rfl, Nat.le_of_ble_eq_true rfl⟩) rfl rfl (Nat.le_of_ble_eq_true rfl) ⟨Nat.zero_le _, Nat.zero_le _⟩ dX8_fee_41 (fun H locs hH => ?_)
    obtain ⟨rfl, rfl⟩ := some_i2 h
    exact m_iret hC hH hr rfl dX8_fee_44
  · have h := ite_f c3 h
    refine lv_aload_n hx hb dX8_fee_10 rfl (lv_at hl 1 rfl) ?_
    obtain ⟨r15, μ16, h14, h⟩ := ob2_some h
    refine m_calli (As := []) (rest := []) (cM_mess l D cI B μ0  h14) hC hH hl (cwV 0 hts (gV wmX8_165 wvX8_mess) rfl rfl rfl hdX8_mess ⟨Nat.le_of_ble_eq_true rfl, Nat.le_of_ble_eq_true rfl⟩) rfl rfl (Nat.le_of_ble_eq_true rfl) ⟨Nat.zero_le _, Nat.zero_le _⟩ dX8_fee_11 (fun H locs hH => ?_)
    obtain ⟨rfl, rfl⟩ := some_i2 h
    exact m_iret hC hH hr rfl dX8_fee_14

def rmM_fine : Room := { frames := 2, cells := 0, slots := 0, locals := 48 }
theorem hdX8_fine : yX8_fine.cls = RX8 ∧ yX8_fine.cls ≠ "java/lang/invoke/MethodHandle" ∧ yX8_fine.cls ≠ "java/lang/invoke/VarHandle" ∧ (parseMethodDescriptor yX8_fine.desc).map (fun d => d.parameters.length) = some 1 := by decide +kernel

def fM_fine (μ0 : MS) (x1 : Int32) : Option (Int32 × MS) :=
  ob (fM_isOne μ0 x1) fun r2 =>
  if r2 = 0 then (
    some ((-1000000001 : Int32), μ0))
  else (
    ob (fM_counts μ0 (2 : Int32)) fun r5 =>
    if 0 ≤ r5 then (
      ob (fM_of μ0 x1 (1 : Int32)) fun r8 =>
      bnd (up2 μ0 29 116 r8) fun μ9 =>
      ob (fM_placeOf μ9 x1) fun r12 =>
      bnd (up2 μ9 29 112 r12) fun μ13 =>
      ob2 (fM_worked μ13 r5) fun r16 μ17 =>
      some (r16, μ17))
    else (
      ob (fM_placeOf μ0 x1) fun r19 =>
      some (r19, μ0)))

set_option maxHeartbeats 4000000 in
set_option maxRecDepth 100000 in
theorem cM_fine (l : Launch) (D : va_G) (cI : ClassId) (B : Nat → Nat) (μ0 : MS) (x1 : Int32) {r : Int32} {μr : MS} (h : fM_fine μ0 x1 = some (r, μr)) : ∀ sz, Met l yX8_fine (Cond.code yX8_fine cX8_fine 3 (some .int) :: Tw) rmM_fine (mP D cI B μ0 sz [.ref (B 0), .int x1]) (mQi D cI B μ0 sz μr r) 0 0 (va_A (mW B cI μ0) sz) := by
  intro sz
  refine Met.ofW (cc := cX8_fine) (maxL := 3) (ret := (some .int)) (by decide) rfl ?_
  intro p e s m args below meth c s₁ Bd hml hv
  obtain ⟨hC, hr⟩ := jC_of Bd hml
  obtain ⟨rfl, rfl, hH⟩ := m_enter hv
  have hC : jC p s m _ meth c cX8_fine 3 RX8 := hC
  have hx := hC.1.1
  have hb := hC.1.2.1
  have hown := hC.1.2.2.2.1
  have hts := hC.1.2.2.2.2
  have hl := lv_entry ([.ref (B 0), .int x1]) (n := 3) (Nat.le_of_ble_eq_true rfl)
  rw [lg_entry_eq]
  generalize (lg_sl ([.ref (B 0), .int x1]) ++ List.replicate (3 - (lg_sl ([.ref (B 0), .int x1])).length) Slot.unset).toArray = ls at hl ⊢
  have hl : lv_has ls 3 [(0, .ref (B 0)), (1, .int x1)] := hl
  unfold fM_fine at h
  refine W_nm (fun H locs eH eL => ?_)
  have hH : mH D cI B s (va_A (mW B cI μ0) s.heap.size) μ0 H locs := by rw [eH, eL]; exact hH
  show W p l e rmM_fine s m _ below meth c H locs 0 0 _ (F0 m 0 ls [])
  refine lv_aload_n hx hb dX8_fine_0 rfl (lv_at hl 0 rfl) ?_
  refine lv_iload_n hx hb dX8_fine_1 rfl (lv_at hl 1 rfl) ?_
  obtain ⟨r2, h1, h⟩ := ob_some h
  refine m_calli (As := [.int x1]) (rest := []) (cM_isOne l D cI B μ0 x1 h1) hC hH hl (cwV 1 hts (gV wmX8_112 wvX8_isOne) rfl rfl rfl hdX8_isOne ⟨Nat.le_of_ble_eq_true rfl, Nat.le_of_ble_eq_true rfl⟩) rfl rfl (Nat.le_of_ble_eq_true rfl) ⟨Nat.zero_le _, Nat.zero_le _⟩ dX8_fine_2 (fun H locs hH => ?_)
  refine lv_if_ne (tgt := 11) hx hb dX8_fine_5 (by decide) (fun c3 => ?_) (fun c3 => ?_)
  · have h := ite_f c3 h
    refine lv_aload_n hx hb dX8_fine_11 rfl (lv_at hl 0 rfl) ?_
    refine lv_iconst (v := 2) hx hb dX8_fine_12 (by decide) ?_
    obtain ⟨r5, h4, h⟩ := ob_some h
    refine m_calli (As := [.int (2 : Int32)]) (rest := []) (cM_counts l D cI B μ0 (2 : Int32) h4) hC hH hl (cwV 1 hts (gV wmX8_95 wvX8_counts) rfl rfl rfl hdX8_counts ⟨Nat.le_of_ble_eq_true rfl, Nat.le_of_ble_eq_true rfl⟩) rfl rfl (Nat.le_of_ble_eq_true rfl) ⟨Nat.zero_le _, Nat.zero_le _⟩ dX8_fine_13 (fun H locs hH => ?_)
    refine lv_istore_n (lv' := [(2, .int r5), (0, .ref (B 0)), (1, .int x1)]) hx hb dX8_fine_16 rfl hl (by decide) rfl (fun ls hl => ?_)
    refine lv_iload_n hx hb dX8_fine_17 rfl (lv_at hl 0 rfl) ?_
    refine lv_if_ge (tgt := 27) hx hb dX8_fine_18 (by decide) (fun c6 => ?_) (fun c6 => ?_)
    · have h := ite_t c6 h
      refine lv_aload_n hx hb dX8_fine_27 rfl (lv_at hl 1 rfl) ?_
      refine m_get hC hH 28 (by decide) wfX8_59 rfl rfl dX8_fine_28 ?_
      refine lv_bipush (v := 116) hx hb dX8_fine_31 (by decide) ?_
      refine lv_aload_n hx hb dX8_fine_33 rfl (lv_at hl 1 rfl) ?_
      refine lv_iload_n hx hb dX8_fine_34 rfl (lv_at hl 2 rfl) ?_
      refine lv_iconst (v := 1) hx hb dX8_fine_35 (by decide) ?_
      obtain ⟨r8, h7, h⟩ := ob_some h
      refine m_calli (As := [.int x1, .int (1 : Int32)]) (rest := [.int (116 : Int32), .ref (B 29)]) (cM_of l D cI B μ0 x1 (1 : Int32) h7) hC hH hl (cwV 2 hts (gV wmX8_99 wvX8_of) rfl rfl rfl hdX8_of ⟨Nat.le_of_ble_eq_true rfl, Nat.le_of_ble_eq_true rfl⟩) rfl rfl (Nat.le_of_ble_eq_true rfl) ⟨Nat.zero_le _, Nat.zero_le _⟩ dX8_fine_36 (fun H locs hH => ?_)
      obtain ⟨μ9, e10, h⟩ := bnd_some h
      refine m_ast hC hH (a := 29) rfl rfl e10 (vp_b rfl) dX8_fine_39 (fun H locs hH => ?_)
      refine lv_aload_n hx hb dX8_fine_40 rfl (lv_at hl 1 rfl) ?_
      refine m_get hC hH 28 (by decide) wfX8_59 rfl rfl dX8_fine_41 ?_
      refine lv_bipush (v := 112) hx hb dX8_fine_44 (by decide) ?_
      refine lv_aload_n hx hb dX8_fine_46 rfl (lv_at hl 1 rfl) ?_
      refine lv_iload_n hx hb dX8_fine_47 rfl (lv_at hl 2 rfl) ?_
      obtain ⟨r12, h11, h⟩ := ob_some h
      refine m_calli (As := [.int x1]) (rest := [.int (112 : Int32), .ref (B 29)]) (cM_placeOf l D cI B μ9 x1 h11) hC hH hl (cwV 1 hts (gV wmX8_116 wvX8_placeOf) rfl rfl rfl hdX8_placeOf ⟨Nat.le_of_ble_eq_true rfl, Nat.le_of_ble_eq_true rfl⟩) rfl rfl (Nat.le_of_ble_eq_true rfl) ⟨Nat.zero_le _, Nat.zero_le _⟩ dX8_fine_48 (fun H locs hH => ?_)
      obtain ⟨μ13, e14, h⟩ := bnd_some h
      refine m_ast hC hH (a := 29) rfl rfl e14 (vp_b rfl) dX8_fine_51 (fun H locs hH => ?_)
      refine lv_aload_n hx hb dX8_fine_52 rfl (lv_at hl 1 rfl) ?_
      refine lv_iload_n hx hb dX8_fine_53 rfl (lv_at hl 0 rfl) ?_
      obtain ⟨r16, μ17, h15, h⟩ := ob2_some h
      refine m_calli (As := [.int r5]) (rest := []) (cM_worked l D cI B μ13 r5 h15) hC hH hl (cwV 1 hts (gV wmX8_103 wvX8_worked) rfl rfl rfl hdX8_worked ⟨Nat.le_of_ble_eq_true rfl, Nat.le_of_ble_eq_true rfl⟩) rfl rfl (Nat.le_of_ble_eq_true rfl) ⟨Nat.zero_le _, Nat.zero_le _⟩ dX8_fine_54 (fun H locs hH => ?_)
      obtain ⟨rfl, rfl⟩ := some_i2 h
      exact m_iret hC hH hr rfl dX8_fine_57
    · have h := ite_f c6 h
      refine lv_aload_n hx hb dX8_fine_21 rfl (lv_at hl 1 rfl) ?_
      refine lv_iload_n hx hb dX8_fine_22 rfl (lv_at hl 2 rfl) ?_
      obtain ⟨r19, h18, h⟩ := ob_some h
      refine m_calli (As := [.int x1]) (rest := []) (cM_placeOf l D cI B μ0 x1 h18) hC hH hl (cwV 1 hts (gV wmX8_116 wvX8_placeOf) rfl rfl rfl hdX8_placeOf ⟨Nat.le_of_ble_eq_true rfl, Nat.le_of_ble_eq_true rfl⟩) rfl rfl (Nat.le_of_ble_eq_true rfl) ⟨Nat.zero_le _, Nat.zero_le _⟩ dX8_fine_23 (fun H locs hH => ?_)
      obtain ⟨rfl, rfl⟩ := some_i2 h
      exact m_iret hC hH hr rfl dX8_fine_26
  · have h := ite_t c3 h
    refine lv_ldc (v := -1000000001) hx hb hown (hts _ wkX8_90) dX8_fine_8 ?_
    obtain ⟨rfl, rfl⟩ := some_i2 h
    exact m_iret (v := -1000000001) hC hH hr rfl dX8_fine_10

def rmM_feed : Room := { frames := 0, cells := 0, slots := 0, locals := 0 }
theorem hdX8_feed : yX8_feed.cls = RX8 ∧ yX8_feed.cls ≠ "java/lang/invoke/MethodHandle" ∧ yX8_feed.cls ≠ "java/lang/invoke/VarHandle" ∧ (parseMethodDescriptor yX8_feed.desc).map (fun d => d.parameters.length) = some 3 := by decide +kernel

def fM_feed_J47 (k18 : Int32 → Int32 → Int32 → Int32 → MS → Option (Int32 × MS)) (x1 : Int32) (x2 : Int32) (x3 : Int32) (x4 : Int32) (y0 : Int32) (μ : MS) : Option (Int32 × MS) :=
  ck (μ 0 17) (96) <|
  bnd (up2 μ 17 ((μ 0 17)).toNatClampNeg ((y0 >>> (((24 : Int32) - ((8 : Int32) * (x4 - x4 / (4 : Int32) * (4 : Int32)))) &&& 31)) &&& (255 : Int32))) fun μ6 =>
  bnd (up2 μ6 0 17 ((μ6 0 17) + (1 : Int32))) fun μ8 =>
  bnd (x4 + (1 : Int32)) fun v10 =>
  k18 x1 x2 x3 v10 μ8

set_option maxHeartbeats 4000000 in
set_option maxRecDepth 100000 in
theorem wM_feed_J47 {p : Program} {l : Launch} {e : Env} {s : State} {m : MethodId} {args : Array Value} {below : List Frame} {meth : Method} {c : Code} {D : va_G} {cI : ClassId} {B : Nat → Nat} {μ0 : MS} {r : Int32} {μr : MS} (hC : jC p s m args meth c cX8_feed 6 RX8) (hr : meth.sig.returnType = some .int) {k18 : Int32 → Int32 → Int32 → Int32 → MS → Option (Int32 × MS)} (hk18 : ∀ (x1 : Int32) (x2 : Int32) (x3 : Int32) (x4 : Int32) (μ : MS) (H : Heap) (locs : List Loc) (ls : Array Slot), mH D cI B s (va_A (mW B cI μ0) s.heap.size) μ H locs → lv_has ls 6 [(0, .ref (B 0)), (1, .int x1), (2, .int x2), (3, .int x3), (4, .int x4)] → k18 x1 x2 x3 x4 μ = some (r, μr) → W p l e rmM_feed s m args below meth c H locs 0 0 (MQ below (mQi D cI B μ0 s.heap.size μr r) args s 0 0 (va_A (mW B cI μ0) s.heap.size)) (F0 m 18 ls [])) (x1 : Int32) (x2 : Int32) (x3 : Int32) (x4 : Int32) (y0 : Int32) (μ : MS) (H : Heap) (locs : List Loc) (ls : Array Slot) (hH : mH D cI B s (va_A (mW B cI μ0) s.heap.size) μ H locs) (hl : lv_has ls 6 [(0, .ref (B 0)), (1, .int x1), (2, .int x2), (3, .int x3), (4, .int x4)]) (h : fM_feed_J47 k18 x1 x2 x3 x4 y0 μ = some (r, μr)) : W p l e rmM_feed s m args below meth c H locs 0 0 (MQ below (mQi D cI B μ0 s.heap.size μr r) args s 0 0 (va_A (mW B cI μ0) s.heap.size)) (F0 m 47 ls [.int y0]) := by
  have hx := hC.1.1
  have hb := hC.1.2.1
  have hown := hC.1.2.2.2.1
  have hts := hC.1.2.2.2.2
  unfold fM_feed_J47 at h
  refine lv_istore (lv' := [(5, .int y0), (0, .ref (B 0)), (1, .int x1), (2, .int x2), (3, .int x3), (4, .int x4)]) hx hb dX8_feed_47 hl (by decide) rfl (fun ls hl => ?_)
  refine lv_aload_n hx hb dX8_feed_49 rfl (lv_at hl 1 rfl) ?_
  refine m_get hC hH 16 (by decide) wfX8_56 rfl rfl dX8_feed_50 ?_
  refine lv_aload_n hx hb dX8_feed_53 rfl (lv_at hl 1 rfl) ?_
  refine m_get hC hH 17 (by decide) wfX8_195 rfl rfl dX8_feed_54 ?_
  refine lv_iload hx hb dX8_feed_57 (lv_at hl 0 rfl) ?_
  refine lv_bipush (v := 24) hx hb dX8_feed_59 (by decide) ?_
  refine lv_bipush (v := 8) hx hb dX8_feed_61 (by decide) ?_
  refine lv_iload hx hb dX8_feed_63 (lv_at hl 5 rfl) ?_
  refine lv_iconst (v := 4) hx hb dX8_feed_65 (by decide) ?_
  refine lv_irem hx hb dX8_feed_66 (by decide) ?_
  refine lv_imul hx hb dX8_feed_67 ?_
  refine lv_isub hx hb dX8_feed_68 ?_
  refine lv_ishr hx hb dX8_feed_69 ?_
  refine lv_sipush (v := 255) hx hb dX8_feed_70 (by decide) ?_
  refine lv_iand hx hb dX8_feed_73 ?_
  obtain ⟨i5, h⟩ := ck_some h
  obtain ⟨μ6, e7, h⟩ := bnd_some h
  refine m_ast hC hH (a := 17) rfl rfl e7 i5 dX8_feed_74 (fun H locs hH => ?_)
  refine lv_aload_n hx hb dX8_feed_75 rfl (lv_at hl 1 rfl) ?_
  refine lv_dup hx hb dX8_feed_76 rfl ?_
  refine m_get hC hH 17 (by decide) wfX8_195 rfl rfl dX8_feed_77 ?_
  refine lv_iconst (v := 1) hx hb dX8_feed_80 (by decide) ?_
  refine lv_iadd hx hb dX8_feed_81 ?_
  obtain ⟨μ8, e9, h⟩ := bnd_some h
  refine m_put (ty := .int) hC hH 17 (by decide) wfX8_195 rfl rfl (by decide +kernel) rfl rfl e9 (mF_17 B _ _) dX8_feed_82 (fun H locs hH => ?_)
  obtain ⟨v10, e11, h⟩ := bnd_some h
  refine lv_iinc (v := v10) (lv' := [(4, .int v10), (5, .int y0), (0, .ref (B 0)), (1, .int x1), (2, .int x2), (3, .int x3)]) hx hb dX8_feed_85 hl (k := 5) rfl (by rw [e11]; rfl) (by decide) rfl (fun ls hl => ?_)
  refine lv_goto (tgt := 18) hx hb dX8_feed_88 (by decide) ?_
  exact hk18 x1 x2 x3 v10 μ8 H locs ls  hH (lv_sub hl [2, 3, 4, 5, 0] rfl) h

def fM_feed_L18 (k91 : MS → Option (Int32 × MS)) : Nat → Int32 → Int32 → Int32 → Int32 → MS → Option (Int32 × MS)
  | 0, _, _, _, _, _ => none
  | n + 1, x1, x2, x3, x4, μ =>
    if (12 : Int32) ≤ x4 then (
      k91 μ)
    else (
      if (4 : Int32) ≤ x4 then (
        if (8 : Int32) ≤ x4 then (
          fM_feed_J47 (fM_feed_L18 k91 n) x1 x2 x3 x4 x3 μ)
        else (
          fM_feed_J47 (fM_feed_L18 k91 n) x1 x2 x3 x4 x2 μ))
      else (
        fM_feed_J47 (fM_feed_L18 k91 n) x1 x2 x3 x4 x1 μ))

set_option maxHeartbeats 4000000 in
set_option maxRecDepth 100000 in
theorem wM_feed_L18 {p : Program} {l : Launch} {e : Env} {s : State} {m : MethodId} {args : Array Value} {below : List Frame} {meth : Method} {c : Code} {D : va_G} {cI : ClassId} {B : Nat → Nat} {μ0 : MS} {r : Int32} {μr : MS} (hC : jC p s m args meth c cX8_feed 6 RX8) (hr : meth.sig.returnType = some .int) {k91 : MS → Option (Int32 × MS)} (hk91 : ∀ (μ : MS) (H : Heap) (locs : List Loc) (ls : Array Slot), mH D cI B s (va_A (mW B cI μ0) s.heap.size) μ H locs → lv_has ls 6 [(0, .ref (B 0))] → k91 μ = some (r, μr) → W p l e rmM_feed s m args below meth c H locs 0 0 (MQ below (mQi D cI B μ0 s.heap.size μr r) args s 0 0 (va_A (mW B cI μ0) s.heap.size)) (F0 m 91 ls [])) : ∀ (n : Nat) (x1 : Int32) (x2 : Int32) (x3 : Int32) (x4 : Int32) (μ : MS) (H : Heap) (locs : List Loc) (ls : Array Slot), mH D cI B s (va_A (mW B cI μ0) s.heap.size) μ H locs → lv_has ls 6 [(0, .ref (B 0)), (1, .int x1), (2, .int x2), (3, .int x3), (4, .int x4)] → fM_feed_L18 k91 n x1 x2 x3 x4 μ = some (r, μr) → W p l e rmM_feed s m args below meth c H locs 0 0 (MQ below (mQi D cI B μ0 s.heap.size μr r) args s 0 0 (va_A (mW B cI μ0) s.heap.size)) (F0 m 18 ls []) := by
  have hx := hC.1.1
  have hb := hC.1.2.1
  have hown := hC.1.2.2.2.1
  have hts := hC.1.2.2.2.2
  intro n
  induction n with
  | zero =>
    intro x1 x2 x3 x4 μ H locs ls  hH hl h
    rw [fM_feed_L18] at h
    cases h
  | succ n ih =>
    intro x1 x2 x3 x4 μ H locs ls  hH hl h
    rw [fM_feed_L18] at h
    refine lv_iload hx hb dX8_feed_18 (lv_at hl 4 rfl) ?_
    refine lv_bipush (v := 12) hx hb dX8_feed_20 (by decide) ?_
    refine lv_icmp_ge (tgt := 91) hx hb dX8_feed_22 (by decide) (fun c2 => ?_) (fun c2 => ?_)
    · have h := ite_t c2 h
      exact hk91 μ H locs ls  hH (lv_sub hl [0] rfl) h
    · have h := ite_f c2 h
      refine lv_iload hx hb dX8_feed_25 (lv_at hl 4 rfl) ?_
      refine lv_iconst (v := 4) hx hb dX8_feed_27 (by decide) ?_
      refine lv_icmp_ge (tgt := 35) hx hb dX8_feed_28 (by decide) (fun c3 => ?_) (fun c3 => ?_)
      · have h := ite_t c3 h
        refine lv_iload hx hb dX8_feed_35 (lv_at hl 4 rfl) ?_
        refine lv_bipush (v := 8) hx hb dX8_feed_37 (by decide) ?_
        refine lv_icmp_ge (tgt := 46) hx hb dX8_feed_39 (by decide) (fun c4 => ?_) (fun c4 => ?_)
        · have h := ite_t c4 h
          refine lv_iload_n hx hb dX8_feed_46 rfl (lv_at hl 3 rfl) ?_
          exact wM_feed_J47 hC hr ih x1 x2 x3 x4 x3 μ H locs ls  hH hl h
        · have h := ite_f c4 h
          refine lv_iload_n hx hb dX8_feed_42 rfl (lv_at hl 2 rfl) ?_
          refine lv_goto (tgt := 47) hx hb dX8_feed_43 (by decide) ?_
          exact wM_feed_J47 hC hr ih x1 x2 x3 x4 x2 μ H locs ls  hH hl h
      · have h := ite_f c3 h
        refine lv_iload_n hx hb dX8_feed_31 rfl (lv_at hl 1 rfl) ?_
        refine lv_goto (tgt := 47) hx hb dX8_feed_32 (by decide) ?_
        exact wM_feed_J47 hC hr ih x1 x2 x3 x4 x1 μ H locs ls  hH hl h

def fM_feed (μ0 : MS) (x1 : Int32) (x2 : Int32) (x3 : Int32) : Option (Int32 × MS) :=
  if ((μ0 0 17) + (12 : Int32)) ≤ (96 : Int32) then (
    fM_feed_L18 (fun (μ : MS) => some ((μ 0 17), μ)) 10000 x1 x2 x3 (0 : Int32) μ0)
  else (
    some ((-1000000003 : Int32), μ0))

set_option maxHeartbeats 4000000 in
set_option maxRecDepth 100000 in
theorem cM_feed (l : Launch) (D : va_G) (cI : ClassId) (B : Nat → Nat) (μ0 : MS) (x1 : Int32) (x2 : Int32) (x3 : Int32) {r : Int32} {μr : MS} (h : fM_feed μ0 x1 x2 x3 = some (r, μr)) : ∀ sz, Met l yX8_feed (Cond.code yX8_feed cX8_feed 6 (some .int) :: Tw) rmM_feed (mP D cI B μ0 sz [.ref (B 0), .int x1, .int x2, .int x3]) (mQi D cI B μ0 sz μr r) 0 0 (va_A (mW B cI μ0) sz) := by
  intro sz
  refine Met.ofW (cc := cX8_feed) (maxL := 6) (ret := (some .int)) (by decide) rfl ?_
  intro p e s m args below meth c s₁ Bd hml hv
  obtain ⟨hC, hr⟩ := jC_of Bd hml
  obtain ⟨rfl, rfl, hH⟩ := m_enter hv
  have hC : jC p s m _ meth c cX8_feed 6 RX8 := hC
  have hx := hC.1.1
  have hb := hC.1.2.1
  have hown := hC.1.2.2.2.1
  have hts := hC.1.2.2.2.2
  have hl := lv_entry ([.ref (B 0), .int x1, .int x2, .int x3]) (n := 6) (Nat.le_of_ble_eq_true rfl)
  rw [lg_entry_eq]
  generalize (lg_sl ([.ref (B 0), .int x1, .int x2, .int x3]) ++ List.replicate (6 - (lg_sl ([.ref (B 0), .int x1, .int x2, .int x3])).length) Slot.unset).toArray = ls at hl ⊢
  have hl : lv_has ls 6 [(0, .ref (B 0)), (1, .int x1), (2, .int x2), (3, .int x3)] := hl
  unfold fM_feed at h
  refine W_nm (fun H locs eH eL => ?_)
  have hH : mH D cI B s (va_A (mW B cI μ0) s.heap.size) μ0 H locs := by rw [eH, eL]; exact hH
  show W p l e rmM_feed s m _ below meth c H locs 0 0 _ (F0 m 0 ls [])
  refine lv_aload_n hx hb dX8_feed_0 rfl (lv_at hl 0 rfl) ?_
  refine m_get hC hH 17 (by decide) wfX8_195 rfl rfl dX8_feed_1 ?_
  refine lv_bipush (v := 12) hx hb dX8_feed_4 (by decide) ?_
  refine lv_iadd hx hb dX8_feed_6 ?_
  refine lv_bipush (v := 96) hx hb dX8_feed_7 (by decide) ?_
  refine lv_icmp_le (tgt := 15) hx hb dX8_feed_9 (by decide) (fun c1 => ?_) (fun c1 => ?_)
  · have h := ite_t c1 h
    refine lv_iconst (v := 0) hx hb dX8_feed_15 (by decide) ?_
    refine lv_istore (lv' := [(4, .int (0 : Int32)), (0, .ref (B 0)), (1, .int x1), (2, .int x2), (3, .int x3)]) hx hb dX8_feed_16 hl (by decide) rfl (fun ls hl => ?_)
    refine wM_feed_L18 hC hr  ?_ 10000 x1 x2 x3 (0 : Int32) μ0 H locs ls  hH (lv_sub hl [1, 2, 3, 4, 0] rfl) h
    intro μ H locs ls  hH hl h
    refine lv_aload_n hx hb dX8_feed_91 rfl (lv_at hl 0 rfl) ?_
    refine m_get hC hH 17 (by decide) wfX8_195 rfl rfl dX8_feed_92 ?_
    obtain ⟨rfl, rfl⟩ := some_i2 h
    exact m_iret hC hH hr rfl dX8_feed_95
  · have h := ite_f c1 h
    refine lv_ldc (v := -1000000003) hx hb hown (hts _ wkX8_91) dX8_feed_12 ?_
    obtain ⟨rfl, rfl⟩ := some_i2 h
    exact m_iret (v := -1000000003) hC hH hr rfl dX8_feed_14

def rmM_trim : Room := { frames := 1, cells := 0, slots := 0, locals := 25 }
theorem hdX8_trim : yX8_trim.cls = RX8 ∧ yX8_trim.cls ≠ "java/lang/invoke/MethodHandle" ∧ yX8_trim.cls ≠ "java/lang/invoke/VarHandle" ∧ (parseMethodDescriptor yX8_trim.desc).map (fun d => d.parameters.length) = some 1 := by decide +kernel

def fM_trim (μ0 : MS) (x1 : Int32) : Option (Int32 × MS) :=
  ob (fM_isIn μ0 (x1).toInt64 (0 : Int64) ((μ0 0 17)).toInt64) fun r2 =>
  if r2 = 0 then (
    some ((-1000000001 : Int32), μ0))
  else (
    bnd (up2 μ0 0 17 x1) fun μ4 =>
    some (x1, μ4))

set_option maxHeartbeats 4000000 in
set_option maxRecDepth 100000 in
theorem cM_trim (l : Launch) (D : va_G) (cI : ClassId) (B : Nat → Nat) (μ0 : MS) (x1 : Int32) {r : Int32} {μr : MS} (h : fM_trim μ0 x1 = some (r, μr)) : ∀ sz, Met l yX8_trim (Cond.code yX8_trim cX8_trim 2 (some .int) :: Tw) rmM_trim (mP D cI B μ0 sz [.ref (B 0), .int x1]) (mQi D cI B μ0 sz μr r) 0 0 (va_A (mW B cI μ0) sz) := by
  intro sz
  refine Met.ofW (cc := cX8_trim) (maxL := 2) (ret := (some .int)) (by decide) rfl ?_
  intro p e s m args below meth c s₁ Bd hml hv
  obtain ⟨hC, hr⟩ := jC_of Bd hml
  obtain ⟨rfl, rfl, hH⟩ := m_enter hv
  have hC : jC p s m _ meth c cX8_trim 2 RX8 := hC
  have hx := hC.1.1
  have hb := hC.1.2.1
  have hown := hC.1.2.2.2.1
  have hts := hC.1.2.2.2.2
  have hl := lv_entry ([.ref (B 0), .int x1]) (n := 2) (Nat.le_of_ble_eq_true rfl)
  rw [lg_entry_eq]
  generalize (lg_sl ([.ref (B 0), .int x1]) ++ List.replicate (2 - (lg_sl ([.ref (B 0), .int x1])).length) Slot.unset).toArray = ls at hl ⊢
  have hl : lv_has ls 2 [(0, .ref (B 0)), (1, .int x1)] := hl
  unfold fM_trim at h
  refine W_nm (fun H locs eH eL => ?_)
  have hH : mH D cI B s (va_A (mW B cI μ0) s.heap.size) μ0 H locs := by rw [eH, eL]; exact hH
  show W p l e rmM_trim s m _ below meth c H locs 0 0 _ (F0 m 0 ls [])
  refine lv_iload_n hx hb dX8_trim_0 rfl (lv_at hl 1 rfl) ?_
  refine lv_i2l hx hb dX8_trim_1 rfl ?_
  refine lv_lconst (v := 0) hx hb dX8_trim_2 (by decide) ?_
  refine lv_aload_n hx hb dX8_trim_3 rfl (lv_at hl 0 rfl) ?_
  refine m_get hC hH 17 (by decide) wfX8_195 rfl rfl dX8_trim_4 ?_
  refine lv_i2l hx hb dX8_trim_7 rfl ?_
  obtain ⟨r2, h1, h⟩ := ob_some h
  refine m_calls (As := [.long (x1).toInt64, .long (0 : Int64), .long ((μ0 0 17)).toInt64]) (rest := []) (cM_isIn l D cI B μ0 (x1).toInt64 (0 : Int64) ((μ0 0 17)).toInt64 h1) hC hH hl (va_cwS 3 hts (gS wmX8_75 wsX8_isIn) rfl rfl rfl hdX8_isIn ⟨Nat.le_of_ble_eq_true rfl, Nat.le_of_ble_eq_true rfl⟩) rfl rfl (Nat.le_of_ble_eq_true rfl) ⟨Nat.zero_le _, Nat.zero_le _⟩ dX8_trim_8 (fun H locs hH => ?_)
  refine lv_if_ne (tgt := 17) hx hb dX8_trim_11 (by decide) (fun c3 => ?_) (fun c3 => ?_)
  · have h := ite_f c3 h
    refine lv_aload_n hx hb dX8_trim_17 rfl (lv_at hl 0 rfl) ?_
    refine lv_iload_n hx hb dX8_trim_18 rfl (lv_at hl 1 rfl) ?_
    obtain ⟨μ4, e5, h⟩ := bnd_some h
    refine m_put (ty := .int) hC hH 17 (by decide) wfX8_195 rfl rfl (by decide +kernel) rfl rfl e5 (mF_17 B _ _) dX8_trim_19 (fun H locs hH => ?_)
    refine lv_iload_n hx hb dX8_trim_22 rfl (lv_at hl 1 rfl) ?_
    obtain ⟨rfl, rfl⟩ := some_i2 h
    exact m_iret hC hH hr rfl dX8_trim_23
  · have h := ite_t c3 h
    refine lv_ldc (v := -1000000001) hx hb hown (hts _ wkX8_90) dX8_trim_14 ?_
    obtain ⟨rfl, rfl⟩ := some_i2 h
    exact m_iret (v := -1000000001) hC hH hr rfl dX8_trim_16

def rmM_isLetter : Room := { frames := 1, cells := 0, slots := 0, locals := 25 }
theorem hdX8_isLetter : yX8_isLetter.cls = RX8 ∧ yX8_isLetter.cls ≠ "java/lang/invoke/MethodHandle" ∧ yX8_isLetter.cls ≠ "java/lang/invoke/VarHandle" ∧ (parseMethodDescriptor yX8_isLetter.desc).map (fun d => d.parameters.length) = some 1 := by decide +kernel

def fM_isLetter (μ0 : MS) (x1 : Int32) : Option (Int32) :=
  if (μ0 0 17) ≤ x1 then (
    some (0 : Int32))
  else (
    ck x1 (96) <|
    ob (fM_isIn μ0 ((μ0 17 (x1).toNatClampNeg)).toInt64 (97 : Int64) (122 : Int64)) fun r4 =>
    if r4 = 0 then (
      some (0 : Int32))
    else (
      some (1 : Int32)))

set_option maxHeartbeats 4000000 in
set_option maxRecDepth 100000 in
theorem cM_isLetter (l : Launch) (D : va_G) (cI : ClassId) (B : Nat → Nat) (μ0 : MS) (x1 : Int32) {r : Int32} (h : fM_isLetter μ0 x1 = some r) : ∀ sz, Met l yX8_isLetter (Cond.code yX8_isLetter cX8_isLetter 2 (some .boolean) :: Tw) rmM_isLetter (mP D cI B μ0 sz [.ref (B 0), .int x1]) (mQi D cI B μ0 sz μ0 r) 0 0 (va_A (mW B cI μ0) sz) := by
  intro sz
  refine Met.ofW (cc := cX8_isLetter) (maxL := 2) (ret := (some .boolean)) (by decide) rfl ?_
  intro p e s m args below meth c s₁ Bd hml hv
  obtain ⟨hC, hr⟩ := jC_of Bd hml
  obtain ⟨rfl, rfl, hH⟩ := m_enter hv
  have hC : jC p s m _ meth c cX8_isLetter 2 RX8 := hC
  have hx := hC.1.1
  have hb := hC.1.2.1
  have hown := hC.1.2.2.2.1
  have hts := hC.1.2.2.2.2
  have hl := lv_entry ([.ref (B 0), .int x1]) (n := 2) (Nat.le_of_ble_eq_true rfl)
  rw [lg_entry_eq]
  generalize (lg_sl ([.ref (B 0), .int x1]) ++ List.replicate (2 - (lg_sl ([.ref (B 0), .int x1])).length) Slot.unset).toArray = ls at hl ⊢
  have hl : lv_has ls 2 [(0, .ref (B 0)), (1, .int x1)] := hl
  unfold fM_isLetter at h
  refine W_nm (fun H locs eH eL => ?_)
  have hH : mH D cI B s (va_A (mW B cI μ0) s.heap.size) μ0 H locs := by rw [eH, eL]; exact hH
  show W p l e rmM_isLetter s m _ below meth c H locs 0 0 _ (F0 m 0 ls [])
  refine lv_iload_n hx hb dX8_isLetter_0 rfl (lv_at hl 1 rfl) ?_
  refine lv_aload_n hx hb dX8_isLetter_1 rfl (lv_at hl 0 rfl) ?_
  refine m_get hC hH 17 (by decide) wfX8_195 rfl rfl dX8_isLetter_2 ?_
  refine lv_icmp_ge (tgt := 31) hx hb dX8_isLetter_5 (by decide) (fun c1 => ?_) (fun c1 => ?_)
  · have h := ite_t c1 h
    refine lv_iconst (v := 0) hx hb dX8_isLetter_31 (by decide) ?_
    obtain rfl := some_i1 h
    exact m_iret (v := 0) hC hH hr (by decide) dX8_isLetter_32
  · have h := ite_f c1 h
    refine lv_aload_n hx hb dX8_isLetter_8 rfl (lv_at hl 0 rfl) ?_
    refine m_get hC hH 16 (by decide) wfX8_56 rfl rfl dX8_isLetter_9 ?_
    refine lv_iload_n hx hb dX8_isLetter_12 rfl (lv_at hl 1 rfl) ?_
    obtain ⟨i2, h⟩ := ck_some h
    refine m_ald hC hH (a := 17) rfl rfl i2 dX8_isLetter_13 ?_
    refine lv_i2l hx hb dX8_isLetter_14 rfl ?_
    refine lv_ldc2 (v := 97) hx hb hown (hts _ wqX8_198) dX8_isLetter_15 ?_
    refine lv_ldc2 (v := 122) hx hb hown (hts _ wqX8_200) dX8_isLetter_18 ?_
    obtain ⟨r4, h3, h⟩ := ob_some h
    refine m_calls (As := [.long ((μ0 17 (x1).toNatClampNeg)).toInt64, .long (97 : Int64), .long (122 : Int64)]) (rest := []) (cM_isIn l D cI B μ0 ((μ0 17 (x1).toNatClampNeg)).toInt64 (97 : Int64) (122 : Int64) h3) hC hH hl (va_cwS 3 hts (gS wmX8_75 wsX8_isIn) rfl rfl rfl hdX8_isIn ⟨Nat.le_of_ble_eq_true rfl, Nat.le_of_ble_eq_true rfl⟩) rfl rfl (Nat.le_of_ble_eq_true rfl) ⟨Nat.zero_le _, Nat.zero_le _⟩ dX8_isLetter_21 (fun H locs hH => ?_)
    refine lv_if_eq (tgt := 31) hx hb dX8_isLetter_24 (by decide) (fun c5 => ?_) (fun c5 => ?_)
    · have h := ite_t c5 h
      refine lv_iconst (v := 0) hx hb dX8_isLetter_31 (by decide) ?_
      obtain rfl := some_i1 h
      exact m_iret (v := 0) hC hH hr (by decide) dX8_isLetter_32
    · have h := ite_f c5 h
      refine lv_iconst (v := 1) hx hb dX8_isLetter_27 (by decide) ?_
      refine lv_goto (tgt := 32) hx hb dX8_isLetter_28 (by decide) ?_
      obtain rfl := some_i1 h
      exact m_iret (v := 1) hC hH hr (by decide) dX8_isLetter_32

def rmM_isDigit : Room := { frames := 1, cells := 0, slots := 0, locals := 25 }
theorem hdX8_isDigit : yX8_isDigit.cls = RX8 ∧ yX8_isDigit.cls ≠ "java/lang/invoke/MethodHandle" ∧ yX8_isDigit.cls ≠ "java/lang/invoke/VarHandle" ∧ (parseMethodDescriptor yX8_isDigit.desc).map (fun d => d.parameters.length) = some 1 := by decide +kernel

def fM_isDigit (μ0 : MS) (x1 : Int32) : Option (Int32) :=
  if (μ0 0 17) ≤ x1 then (
    some (0 : Int32))
  else (
    ck x1 (96) <|
    ob (fM_isIn μ0 ((μ0 17 (x1).toNatClampNeg)).toInt64 (48 : Int64) (57 : Int64)) fun r4 =>
    if r4 = 0 then (
      some (0 : Int32))
    else (
      some (1 : Int32)))

set_option maxHeartbeats 4000000 in
set_option maxRecDepth 100000 in
theorem cM_isDigit (l : Launch) (D : va_G) (cI : ClassId) (B : Nat → Nat) (μ0 : MS) (x1 : Int32) {r : Int32} (h : fM_isDigit μ0 x1 = some r) : ∀ sz, Met l yX8_isDigit (Cond.code yX8_isDigit cX8_isDigit 2 (some .boolean) :: Tw) rmM_isDigit (mP D cI B μ0 sz [.ref (B 0), .int x1]) (mQi D cI B μ0 sz μ0 r) 0 0 (va_A (mW B cI μ0) sz) := by
  intro sz
  refine Met.ofW (cc := cX8_isDigit) (maxL := 2) (ret := (some .boolean)) (by decide) rfl ?_
  intro p e s m args below meth c s₁ Bd hml hv
  obtain ⟨hC, hr⟩ := jC_of Bd hml
  obtain ⟨rfl, rfl, hH⟩ := m_enter hv
  have hC : jC p s m _ meth c cX8_isDigit 2 RX8 := hC
  have hx := hC.1.1
  have hb := hC.1.2.1
  have hown := hC.1.2.2.2.1
  have hts := hC.1.2.2.2.2
  have hl := lv_entry ([.ref (B 0), .int x1]) (n := 2) (Nat.le_of_ble_eq_true rfl)
  rw [lg_entry_eq]
  generalize (lg_sl ([.ref (B 0), .int x1]) ++ List.replicate (2 - (lg_sl ([.ref (B 0), .int x1])).length) Slot.unset).toArray = ls at hl ⊢
  have hl : lv_has ls 2 [(0, .ref (B 0)), (1, .int x1)] := hl
  unfold fM_isDigit at h
  refine W_nm (fun H locs eH eL => ?_)
  have hH : mH D cI B s (va_A (mW B cI μ0) s.heap.size) μ0 H locs := by rw [eH, eL]; exact hH
  show W p l e rmM_isDigit s m _ below meth c H locs 0 0 _ (F0 m 0 ls [])
  refine lv_iload_n hx hb dX8_isDigit_0 rfl (lv_at hl 1 rfl) ?_
  refine lv_aload_n hx hb dX8_isDigit_1 rfl (lv_at hl 0 rfl) ?_
  refine m_get hC hH 17 (by decide) wfX8_195 rfl rfl dX8_isDigit_2 ?_
  refine lv_icmp_ge (tgt := 31) hx hb dX8_isDigit_5 (by decide) (fun c1 => ?_) (fun c1 => ?_)
  · have h := ite_t c1 h
    refine lv_iconst (v := 0) hx hb dX8_isDigit_31 (by decide) ?_
    obtain rfl := some_i1 h
    exact m_iret (v := 0) hC hH hr (by decide) dX8_isDigit_32
  · have h := ite_f c1 h
    refine lv_aload_n hx hb dX8_isDigit_8 rfl (lv_at hl 0 rfl) ?_
    refine m_get hC hH 16 (by decide) wfX8_56 rfl rfl dX8_isDigit_9 ?_
    refine lv_iload_n hx hb dX8_isDigit_12 rfl (lv_at hl 1 rfl) ?_
    obtain ⟨i2, h⟩ := ck_some h
    refine m_ald hC hH (a := 17) rfl rfl i2 dX8_isDigit_13 ?_
    refine lv_i2l hx hb dX8_isDigit_14 rfl ?_
    refine lv_ldc2 (v := 48) hx hb hown (hts _ wqX8_202) dX8_isDigit_15 ?_
    refine lv_ldc2 (v := 57) hx hb hown (hts _ wqX8_204) dX8_isDigit_18 ?_
    obtain ⟨r4, h3, h⟩ := ob_some h
    refine m_calls (As := [.long ((μ0 17 (x1).toNatClampNeg)).toInt64, .long (48 : Int64), .long (57 : Int64)]) (rest := []) (cM_isIn l D cI B μ0 ((μ0 17 (x1).toNatClampNeg)).toInt64 (48 : Int64) (57 : Int64) h3) hC hH hl (va_cwS 3 hts (gS wmX8_75 wsX8_isIn) rfl rfl rfl hdX8_isIn ⟨Nat.le_of_ble_eq_true rfl, Nat.le_of_ble_eq_true rfl⟩) rfl rfl (Nat.le_of_ble_eq_true rfl) ⟨Nat.zero_le _, Nat.zero_le _⟩ dX8_isDigit_21 (fun H locs hH => ?_)
    refine lv_if_eq (tgt := 31) hx hb dX8_isDigit_24 (by decide) (fun c5 => ?_) (fun c5 => ?_)
    · have h := ite_t c5 h
      refine lv_iconst (v := 0) hx hb dX8_isDigit_31 (by decide) ?_
      obtain rfl := some_i1 h
      exact m_iret (v := 0) hC hH hr (by decide) dX8_isDigit_32
    · have h := ite_f c5 h
      refine lv_iconst (v := 1) hx hb dX8_isDigit_27 (by decide) ?_
      refine lv_goto (tgt := 32) hx hb dX8_isDigit_28 (by decide) ?_
      obtain rfl := some_i1 h
      exact m_iret (v := 1) hC hH hr (by decide) dX8_isDigit_32

def rmM_nextToken : Room := { frames := 2, cells := 0, slots := 0, locals := 46 }
theorem hdX8_nextToken : yX8_nextToken.cls = RX8 ∧ yX8_nextToken.cls ≠ "java/lang/invoke/MethodHandle" ∧ yX8_nextToken.cls ≠ "java/lang/invoke/VarHandle" ∧ (parseMethodDescriptor yX8_nextToken.desc).map (fun d => d.parameters.length) = some 0 := by decide +kernel

def fM_nextToken_L34 (k72 : Int32 → Int32 → MS → Option (MS)) : Nat → Int32 → Int32 → MS → Option (MS)
  | 0, _, _, _ => none
  | n + 1, x1, x2, μ =>
    if (μ 0 17) ≤ (μ 0 19) then (
      k72 x1 x2 μ)
    else (
      ck (μ 0 19) (96) <|
      if (μ 17 ((μ 0 19)).toNatClampNeg) = (32 : Int32) then (
        bnd (up2 μ 0 19 ((μ 0 19) + (1 : Int32))) fun μ7 =>
        (fM_nextToken_L34 k72 n) x1 x2 μ7)
      else (
        k72 x1 x2 μ))

set_option maxHeartbeats 4000000 in
set_option maxRecDepth 100000 in
theorem wM_nextToken_L34 {p : Program} {l : Launch} {e : Env} {s : State} {m : MethodId} {args : Array Value} {below : List Frame} {meth : Method} {c : Code} {D : va_G} {cI : ClassId} {B : Nat → Nat} {μ0 : MS} {μr : MS} (hC : jC p s m args meth c cX8_nextToken 3 RX8) (hr : meth.sig.returnType = none) {k72 : Int32 → Int32 → MS → Option (MS)} (hk72 : ∀ (x1 : Int32) (x2 : Int32) (μ : MS) (H : Heap) (locs : List Loc) (ls : Array Slot), mH D cI B s (va_A (mW B cI μ0) s.heap.size) μ H locs → lv_has ls 3 [(0, .ref (B 0)), (1, .int x1), (2, .int x2)] → k72 x1 x2 μ = some μr → W p l e rmM_nextToken s m args below meth c H locs 0 0 (MQ below (mQv D cI B μ0 s.heap.size μr) args s 0 0 (va_A (mW B cI μ0) s.heap.size)) (F0 m 72 ls [])) : ∀ (n : Nat) (x1 : Int32) (x2 : Int32) (μ : MS) (H : Heap) (locs : List Loc) (ls : Array Slot), mH D cI B s (va_A (mW B cI μ0) s.heap.size) μ H locs → lv_has ls 3 [(0, .ref (B 0)), (1, .int x1), (2, .int x2)] → fM_nextToken_L34 k72 n x1 x2 μ = some μr → W p l e rmM_nextToken s m args below meth c H locs 0 0 (MQ below (mQv D cI B μ0 s.heap.size μr) args s 0 0 (va_A (mW B cI μ0) s.heap.size)) (F0 m 34 ls []) := by
  have hx := hC.1.1
  have hb := hC.1.2.1
  have hown := hC.1.2.2.2.1
  have hts := hC.1.2.2.2.2
  intro n
  induction n with
  | zero =>
    intro x1 x2 μ H locs ls  hH hl h
    rw [fM_nextToken_L34] at h
    cases h
  | succ n ih =>
    intro x1 x2 μ H locs ls  hH hl h
    rw [fM_nextToken_L34] at h
    refine lv_aload_n hx hb dX8_nextToken_34 rfl (lv_at hl 0 rfl) ?_
    refine m_get hC hH 19 (by decide) wfX8_206 rfl rfl dX8_nextToken_35 ?_
    refine lv_aload_n hx hb dX8_nextToken_38 rfl (lv_at hl 0 rfl) ?_
    refine m_get hC hH 17 (by decide) wfX8_195 rfl rfl dX8_nextToken_39 ?_
    refine lv_icmp_ge (tgt := 72) hx hb dX8_nextToken_42 (by decide) (fun c4 => ?_) (fun c4 => ?_)
    · have h := ite_t c4 h
      exact hk72 x1 x2 μ H locs ls  hH hl h
    · have h := ite_f c4 h
      refine lv_aload_n hx hb dX8_nextToken_45 rfl (lv_at hl 0 rfl) ?_
      refine m_get hC hH 16 (by decide) wfX8_56 rfl rfl dX8_nextToken_46 ?_
      refine lv_aload_n hx hb dX8_nextToken_49 rfl (lv_at hl 0 rfl) ?_
      refine m_get hC hH 19 (by decide) wfX8_206 rfl rfl dX8_nextToken_50 ?_
      obtain ⟨i5, h⟩ := ck_some h
      refine m_ald hC hH (a := 17) rfl rfl i5 dX8_nextToken_53 ?_
      refine lv_bipush (v := 32) hx hb dX8_nextToken_54 (by decide) ?_
      refine lv_icmp_ne (tgt := 72) hx hb dX8_nextToken_56 (by decide) (fun c6 => ?_) (fun c6 => ?_)
      · have h := ite_f c6 h
        exact hk72 x1 x2 μ H locs ls  hH hl h
      · have h := ite_t c6 h
        refine lv_aload_n hx hb dX8_nextToken_59 rfl (lv_at hl 0 rfl) ?_
        refine lv_dup hx hb dX8_nextToken_60 rfl ?_
        refine m_get hC hH 19 (by decide) wfX8_206 rfl rfl dX8_nextToken_61 ?_
        refine lv_iconst (v := 1) hx hb dX8_nextToken_64 (by decide) ?_
        refine lv_iadd hx hb dX8_nextToken_65 ?_
        obtain ⟨μ7, e8, h⟩ := bnd_some h
        refine m_put (ty := .int) hC hH 19 (by decide) wfX8_206 rfl rfl (by decide +kernel) rfl rfl e8 (mF_19 B _ _) dX8_nextToken_66 (fun H locs hH => ?_)
        refine lv_goto (tgt := 34) hx hb dX8_nextToken_69 (by decide) ?_
        exact ih x1 x2 μ7 H locs ls  hH hl h

def fM_nextToken_J266 (k214 : Int32 → MS → Option (MS)) (x1 : Int32) (y1 : Int32) (μ : MS) : Option (MS) :=
  bnd (up2 μ 0 21 y1) fun μ32 =>
  bnd (up2 μ32 0 19 ((μ32 0 19) + (1 : Int32))) fun μ34 =>
  k214 x1 μ34

set_option maxHeartbeats 4000000 in
set_option maxRecDepth 100000 in
theorem wM_nextToken_J266 {p : Program} {l : Launch} {e : Env} {s : State} {m : MethodId} {args : Array Value} {below : List Frame} {meth : Method} {c : Code} {D : va_G} {cI : ClassId} {B : Nat → Nat} {μ0 : MS} {μr : MS} (hC : jC p s m args meth c cX8_nextToken 3 RX8) (hr : meth.sig.returnType = none) {k214 : Int32 → MS → Option (MS)} (hk214 : ∀ (x1 : Int32) (μ : MS) (H : Heap) (locs : List Loc) (ls : Array Slot), mH D cI B s (va_A (mW B cI μ0) s.heap.size) μ H locs → lv_has ls 3 [(0, .ref (B 0)), (1, .int x1)] → k214 x1 μ = some μr → W p l e rmM_nextToken s m args below meth c H locs 0 0 (MQ below (mQv D cI B μ0 s.heap.size μr) args s 0 0 (va_A (mW B cI μ0) s.heap.size)) (F0 m 214 ls [])) (x1 : Int32) (y1 : Int32) (μ : MS) (H : Heap) (locs : List Loc) (ls : Array Slot) (hH : mH D cI B s (va_A (mW B cI μ0) s.heap.size) μ H locs) (hl : lv_has ls 3 [(0, .ref (B 0)), (1, .int x1)]) (h : fM_nextToken_J266 k214 x1 y1 μ = some μr) : W p l e rmM_nextToken s m args below meth c H locs 0 0 (MQ below (mQv D cI B μ0 s.heap.size μr) args s 0 0 (va_A (mW B cI μ0) s.heap.size)) (F0 m 266 ls [.int y1, .ref (B 0)]) := by
  have hx := hC.1.1
  have hb := hC.1.2.1
  have hown := hC.1.2.2.2.1
  have hts := hC.1.2.2.2.2
  unfold fM_nextToken_J266 at h
  obtain ⟨μ32, e33, h⟩ := bnd_some h
  refine m_put (ty := .int) hC hH 21 (by decide) wfX8_224 rfl rfl (by decide +kernel) rfl rfl e33 (mF_21 B _ _) dX8_nextToken_266 (fun H locs hH => ?_)
  refine lv_aload_n hx hb dX8_nextToken_269 rfl (lv_at hl 0 rfl) ?_
  refine lv_dup hx hb dX8_nextToken_270 rfl ?_
  refine m_get hC hH 19 (by decide) wfX8_206 rfl rfl dX8_nextToken_271 ?_
  refine lv_iconst (v := 1) hx hb dX8_nextToken_274 (by decide) ?_
  refine lv_iadd hx hb dX8_nextToken_275 ?_
  obtain ⟨μ34, e35, h⟩ := bnd_some h
  refine m_put (ty := .int) hC hH 19 (by decide) wfX8_206 rfl rfl (by decide +kernel) rfl rfl e35 (mF_19 B _ _) dX8_nextToken_276 (fun H locs hH => ?_)
  refine lv_goto (tgt := 214) hx hb dX8_nextToken_279 (by decide) ?_
  exact hk214 x1 μ34 H locs ls  hH hl h

def fM_nextToken_L214 (k282 : Int32 → MS → Option (MS)) : Nat → Int32 → MS → Option (MS)
  | 0, _, _ => none
  | n + 1, x1, μ =>
    ob (fM_isDigit μ (μ 0 19)) fun r29 =>
    if r29 = 0 then (
      k282 x1 μ)
    else (
      if (4 : Int32) ≤ ((μ 0 19) - (μ 0 18)) then (
        fM_nextToken_J266 (fM_nextToken_L214 k282 n) x1 (μ 0 21) μ)
      else (
        ck (μ 0 19) (96) <|
        fM_nextToken_J266 (fM_nextToken_L214 k282 n) x1 ((((10 : Int32) * (μ 0 21)) + (μ 17 ((μ 0 19)).toNatClampNeg)) - (48 : Int32)) μ))

set_option maxHeartbeats 4000000 in
set_option maxRecDepth 100000 in
theorem wM_nextToken_L214 {p : Program} {l : Launch} {e : Env} {s : State} {m : MethodId} {args : Array Value} {below : List Frame} {meth : Method} {c : Code} {D : va_G} {cI : ClassId} {B : Nat → Nat} {μ0 : MS} {μr : MS} (hC : jC p s m args meth c cX8_nextToken 3 RX8) (hr : meth.sig.returnType = none) {k282 : Int32 → MS → Option (MS)} (hk282 : ∀ (x1 : Int32) (μ : MS) (H : Heap) (locs : List Loc) (ls : Array Slot), mH D cI B s (va_A (mW B cI μ0) s.heap.size) μ H locs → lv_has ls 3 [(0, .ref (B 0)), (1, .int x1)] → k282 x1 μ = some μr → W p l e rmM_nextToken s m args below meth c H locs 0 0 (MQ below (mQv D cI B μ0 s.heap.size μr) args s 0 0 (va_A (mW B cI μ0) s.heap.size)) (F0 m 282 ls [])) : ∀ (n : Nat) (x1 : Int32) (μ : MS) (H : Heap) (locs : List Loc) (ls : Array Slot), mH D cI B s (va_A (mW B cI μ0) s.heap.size) μ H locs → lv_has ls 3 [(0, .ref (B 0)), (1, .int x1)] → fM_nextToken_L214 k282 n x1 μ = some μr → W p l e rmM_nextToken s m args below meth c H locs 0 0 (MQ below (mQv D cI B μ0 s.heap.size μr) args s 0 0 (va_A (mW B cI μ0) s.heap.size)) (F0 m 214 ls []) := by
  have hx := hC.1.1
  have hb := hC.1.2.1
  have hown := hC.1.2.2.2.1
  have hts := hC.1.2.2.2.2
  intro n
  induction n with
  | zero =>
    intro x1 μ H locs ls  hH hl h
    rw [fM_nextToken_L214] at h
    cases h
  | succ n ih =>
    intro x1 μ H locs ls  hH hl h
    rw [fM_nextToken_L214] at h
    refine lv_aload_n hx hb dX8_nextToken_214 rfl (lv_at hl 0 rfl) ?_
    refine lv_aload_n hx hb dX8_nextToken_215 rfl (lv_at hl 0 rfl) ?_
    refine m_get hC hH 19 (by decide) wfX8_206 rfl rfl dX8_nextToken_216 ?_
    obtain ⟨r29, h28, h⟩ := ob_some h
    refine m_calli (As := [.int (μ 0 19)]) (rest := []) (cM_isDigit l D cI B μ (μ 0 19) h28) hC hH hl (cwV 1 hts (gV wmX8_221 wvX8_isDigit) rfl rfl rfl hdX8_isDigit ⟨Nat.le_of_ble_eq_true rfl, Nat.le_of_ble_eq_true rfl⟩) rfl rfl (Nat.le_of_ble_eq_true rfl) ⟨Nat.zero_le _, Nat.zero_le _⟩ dX8_nextToken_219 (fun H locs hH => ?_)
    refine lv_if_eq (tgt := 282) hx hb dX8_nextToken_222 (by decide) (fun c30 => ?_) (fun c30 => ?_)
    · have h := ite_t c30 h
      exact hk282 x1 μ H locs ls  hH hl h
    · have h := ite_f c30 h
      refine lv_aload_n hx hb dX8_nextToken_225 rfl (lv_at hl 0 rfl) ?_
      refine lv_aload_n hx hb dX8_nextToken_226 rfl (lv_at hl 0 rfl) ?_
      refine m_get hC hH 19 (by decide) wfX8_206 rfl rfl dX8_nextToken_227 ?_
      refine lv_aload_n hx hb dX8_nextToken_230 rfl (lv_at hl 0 rfl) ?_
      refine m_get hC hH 18 (by decide) wfX8_212 rfl rfl dX8_nextToken_231 ?_
      refine lv_isub hx hb dX8_nextToken_234 ?_
      refine lv_iconst (v := 4) hx hb dX8_nextToken_235 (by decide) ?_
      refine lv_icmp_ge (tgt := 262) hx hb dX8_nextToken_236 (by decide) (fun c31 => ?_) (fun c31 => ?_)
      · have h := ite_t c31 h
        refine lv_aload_n hx hb dX8_nextToken_262 rfl (lv_at hl 0 rfl) ?_
        refine m_get hC hH 21 (by decide) wfX8_224 rfl rfl dX8_nextToken_263 ?_
        exact wM_nextToken_J266 hC hr ih x1 (μ 0 21) μ H locs ls  hH hl h
      · have h := ite_f c31 h
        refine lv_bipush (v := 10) hx hb dX8_nextToken_239 (by decide) ?_
        refine lv_aload_n hx hb dX8_nextToken_241 rfl (lv_at hl 0 rfl) ?_
        refine m_get hC hH 21 (by decide) wfX8_224 rfl rfl dX8_nextToken_242 ?_
        refine lv_imul hx hb dX8_nextToken_245 ?_
        refine lv_aload_n hx hb dX8_nextToken_246 rfl (lv_at hl 0 rfl) ?_
        refine m_get hC hH 16 (by decide) wfX8_56 rfl rfl dX8_nextToken_247 ?_
        refine lv_aload_n hx hb dX8_nextToken_250 rfl (lv_at hl 0 rfl) ?_
        refine m_get hC hH 19 (by decide) wfX8_206 rfl rfl dX8_nextToken_251 ?_
        obtain ⟨i36, h⟩ := ck_some h
        refine m_ald hC hH (a := 17) rfl rfl i36 dX8_nextToken_254 ?_
        refine lv_iadd hx hb dX8_nextToken_255 ?_
        refine lv_bipush (v := 48) hx hb dX8_nextToken_256 (by decide) ?_
        refine lv_isub hx hb dX8_nextToken_258 ?_
        refine lv_goto (tgt := 266) hx hb dX8_nextToken_259 (by decide) ?_
        exact wM_nextToken_J266 hC hr ih x1 ((((10 : Int32) * (μ 0 21)) + (μ 17 ((μ 0 19)).toNatClampNeg)) - (48 : Int32)) μ H locs ls  hH hl h

def fM_nextToken_L128 (k152 : Int32 → MS → Option (MS)) : Nat → Int32 → MS → Option (MS)
  | 0, _, _ => none
  | n + 1, x1, μ =>
    ob (fM_isLetter μ (μ 0 19)) fun r46 =>
    if r46 = 0 then (
      k152 x1 μ)
    else (
      bnd (up2 μ 0 19 ((μ 0 19) + (1 : Int32))) fun μ48 =>
      (fM_nextToken_L128 k152 n) x1 μ48)

set_option maxHeartbeats 4000000 in
set_option maxRecDepth 100000 in
theorem wM_nextToken_L128 {p : Program} {l : Launch} {e : Env} {s : State} {m : MethodId} {args : Array Value} {below : List Frame} {meth : Method} {c : Code} {D : va_G} {cI : ClassId} {B : Nat → Nat} {μ0 : MS} {μr : MS} (hC : jC p s m args meth c cX8_nextToken 3 RX8) (hr : meth.sig.returnType = none) {k152 : Int32 → MS → Option (MS)} (hk152 : ∀ (x1 : Int32) (μ : MS) (H : Heap) (locs : List Loc) (ls : Array Slot), mH D cI B s (va_A (mW B cI μ0) s.heap.size) μ H locs → lv_has ls 3 [(0, .ref (B 0)), (1, .int x1)] → k152 x1 μ = some μr → W p l e rmM_nextToken s m args below meth c H locs 0 0 (MQ below (mQv D cI B μ0 s.heap.size μr) args s 0 0 (va_A (mW B cI μ0) s.heap.size)) (F0 m 152 ls [])) : ∀ (n : Nat) (x1 : Int32) (μ : MS) (H : Heap) (locs : List Loc) (ls : Array Slot), mH D cI B s (va_A (mW B cI μ0) s.heap.size) μ H locs → lv_has ls 3 [(0, .ref (B 0)), (1, .int x1)] → fM_nextToken_L128 k152 n x1 μ = some μr → W p l e rmM_nextToken s m args below meth c H locs 0 0 (MQ below (mQv D cI B μ0 s.heap.size μr) args s 0 0 (va_A (mW B cI μ0) s.heap.size)) (F0 m 128 ls []) := by
  have hx := hC.1.1
  have hb := hC.1.2.1
  have hown := hC.1.2.2.2.1
  have hts := hC.1.2.2.2.2
  intro n
  induction n with
  | zero =>
    intro x1 μ H locs ls  hH hl h
    rw [fM_nextToken_L128] at h
    cases h
  | succ n ih =>
    intro x1 μ H locs ls  hH hl h
    rw [fM_nextToken_L128] at h
    refine lv_aload_n hx hb dX8_nextToken_128 rfl (lv_at hl 0 rfl) ?_
    refine lv_aload_n hx hb dX8_nextToken_129 rfl (lv_at hl 0 rfl) ?_
    refine m_get hC hH 19 (by decide) wfX8_206 rfl rfl dX8_nextToken_130 ?_
    obtain ⟨r46, h45, h⟩ := ob_some h
    refine m_calli (As := [.int (μ 0 19)]) (rest := []) (cM_isLetter l D cI B μ (μ 0 19) h45) hC hH hl (cwV 1 hts (gV wmX8_215 wvX8_isLetter) rfl rfl rfl hdX8_isLetter ⟨Nat.le_of_ble_eq_true rfl, Nat.le_of_ble_eq_true rfl⟩) rfl rfl (Nat.le_of_ble_eq_true rfl) ⟨Nat.zero_le _, Nat.zero_le _⟩ dX8_nextToken_133 (fun H locs hH => ?_)
    refine lv_if_eq (tgt := 152) hx hb dX8_nextToken_136 (by decide) (fun c47 => ?_) (fun c47 => ?_)
    · have h := ite_t c47 h
      exact hk152 x1 μ H locs ls  hH hl h
    · have h := ite_f c47 h
      refine lv_aload_n hx hb dX8_nextToken_139 rfl (lv_at hl 0 rfl) ?_
      refine lv_dup hx hb dX8_nextToken_140 rfl ?_
      refine m_get hC hH 19 (by decide) wfX8_206 rfl rfl dX8_nextToken_141 ?_
      refine lv_iconst (v := 1) hx hb dX8_nextToken_144 (by decide) ?_
      refine lv_iadd hx hb dX8_nextToken_145 ?_
      obtain ⟨μ48, e49, h⟩ := bnd_some h
      refine m_put (ty := .int) hC hH 19 (by decide) wfX8_206 rfl rfl (by decide +kernel) rfl rfl e49 (mF_19 B _ _) dX8_nextToken_146 (fun H locs hH => ?_)
      refine lv_goto (tgt := 128) hx hb dX8_nextToken_149 (by decide) ?_
      exact ih x1 μ48 H locs ls  hH hl h

def fM_nextToken_J162 (y1 : Int32) (μ : MS) : Option (MS) :=
  bnd (up2 μ 0 20 y1) fun μ51 =>
  if ((μ51 0 19) - (μ51 0 18)) = (1 : Int32) then (
    ck (μ51 0 18) (96) <|
    bnd (up2 μ51 0 22 (μ51 17 ((μ51 0 18)).toNatClampNeg)) fun μ57 =>
    some μ57)
  else (
    bnd (up2 μ51 0 22 (0 : Int32)) fun μ54 =>
    some μ54)

set_option maxHeartbeats 4000000 in
set_option maxRecDepth 100000 in
theorem wM_nextToken_J162 {p : Program} {l : Launch} {e : Env} {s : State} {m : MethodId} {args : Array Value} {below : List Frame} {meth : Method} {c : Code} {D : va_G} {cI : ClassId} {B : Nat → Nat} {μ0 : MS} {μr : MS} (hC : jC p s m args meth c cX8_nextToken 3 RX8) (hr : meth.sig.returnType = none) (y1 : Int32) (μ : MS) (H : Heap) (locs : List Loc) (ls : Array Slot) (hH : mH D cI B s (va_A (mW B cI μ0) s.heap.size) μ H locs) (hl : lv_has ls 3 [(0, .ref (B 0))]) (h : fM_nextToken_J162 y1 μ = some μr) : W p l e rmM_nextToken s m args below meth c H locs 0 0 (MQ below (mQv D cI B μ0 s.heap.size μr) args s 0 0 (va_A (mW B cI μ0) s.heap.size)) (F0 m 162 ls [.int y1, .ref (B 0)]) := by
  have hx := hC.1.1
  have hb := hC.1.2.1
  have hown := hC.1.2.2.2.1
  have hts := hC.1.2.2.2.2
  unfold fM_nextToken_J162 at h
  obtain ⟨μ51, e52, h⟩ := bnd_some h
  refine m_put (ty := .int) hC hH 20 (by decide) wfX8_209 rfl rfl (by decide +kernel) rfl rfl e52 (mF_20 B _ _) dX8_nextToken_162 (fun H locs hH => ?_)
  refine lv_aload_n hx hb dX8_nextToken_165 rfl (lv_at hl 0 rfl) ?_
  refine lv_aload_n hx hb dX8_nextToken_166 rfl (lv_at hl 0 rfl) ?_
  refine m_get hC hH 19 (by decide) wfX8_206 rfl rfl dX8_nextToken_167 ?_
  refine lv_aload_n hx hb dX8_nextToken_170 rfl (lv_at hl 0 rfl) ?_
  refine m_get hC hH 18 (by decide) wfX8_212 rfl rfl dX8_nextToken_171 ?_
  refine lv_isub hx hb dX8_nextToken_174 ?_
  refine lv_iconst (v := 1) hx hb dX8_nextToken_175 (by decide) ?_
  refine lv_icmp_ne (tgt := 191) hx hb dX8_nextToken_176 (by decide) (fun c53 => ?_) (fun c53 => ?_)
  · have h := ite_f c53 h
    refine lv_iconst (v := 0) hx hb dX8_nextToken_191 (by decide) ?_
    obtain ⟨μ54, e55, h⟩ := bnd_some h
    refine m_put (ty := .int) hC hH 22 (by decide) wfX8_218 rfl rfl (by decide +kernel) rfl rfl e55 (mF_22 B _ _) dX8_nextToken_192 (fun H locs hH => ?_)
    refine lv_goto (tgt := 339) hx hb dX8_nextToken_195 (by decide) ?_
    obtain rfl := some_i1 h
    exact m_vret hC hH hr dX8_nextToken_339
  · have h := ite_t c53 h
    refine lv_aload_n hx hb dX8_nextToken_179 rfl (lv_at hl 0 rfl) ?_
    refine m_get hC hH 16 (by decide) wfX8_56 rfl rfl dX8_nextToken_180 ?_
    refine lv_aload_n hx hb dX8_nextToken_183 rfl (lv_at hl 0 rfl) ?_
    refine m_get hC hH 18 (by decide) wfX8_212 rfl rfl dX8_nextToken_184 ?_
    obtain ⟨i56, h⟩ := ck_some h
    refine m_ald hC hH (a := 17) rfl rfl i56 dX8_nextToken_187 ?_
    refine lv_goto (tgt := 192) hx hb dX8_nextToken_188 (by decide) ?_
    obtain ⟨μ57, e58, h⟩ := bnd_some h
    refine m_put (ty := .int) hC hH 22 (by decide) wfX8_218 rfl rfl (by decide +kernel) rfl rfl e58 (mF_22 B _ _) dX8_nextToken_192 (fun H locs hH => ?_)
    refine lv_goto (tgt := 339) hx hb dX8_nextToken_195 (by decide) ?_
    obtain rfl := some_i1 h
    exact m_vret hC hH hr dX8_nextToken_339

def fM_nextToken_J89 (y0 : Int32) (μ : MS) : Option (MS) :=
  bnd (up2 μ 0 18 (μ 0 19)) fun μ10 =>
  if (μ10 0 18) = (μ10 0 17) then (
    bnd (up2 μ10 0 20 (0 : Int32)) fun μ59 =>
    some μ59)
  else (
    ob (fM_isLetter μ10 (μ10 0 18)) fun r14 =>
    if r14 = 0 then (
      ob (fM_isDigit μ10 (μ10 0 18)) fun r17 =>
      if r17 = 0 then (
        bnd (up2 μ10 0 20 (3 : Int32)) fun μ19 =>
        ck (μ19 0 18) (96) <|
        bnd (up2 μ19 0 22 (μ19 17 ((μ19 0 18)).toNatClampNeg)) fun μ22 =>
        bnd (up2 μ22 0 19 ((μ22 0 19) + (1 : Int32))) fun μ24 =>
        some μ24)
      else (
        bnd (up2 μ10 0 21 (0 : Int32)) fun μ26 =>
        fM_nextToken_L214 (fun (x1 : Int32) (μ : MS) => if x1 = 0 then (
            if ((μ 0 19) - (μ 0 18)) ≤ (4 : Int32) then (
              bnd (up2 μ 0 20 (2 : Int32)) fun μ41 =>
              some μ41)
            else (
              bnd (up2 μ 0 20 (4 : Int32)) fun μ43 =>
              some μ43))
          else (
            bnd (up2 μ 0 20 (4 : Int32)) fun μ38 =>
            some μ38)) 10000 y0 μ26))
    else (
      fM_nextToken_L128 (fun (x1 : Int32) (μ : MS) => if x1 = 0 then (
          fM_nextToken_J162 (1 : Int32) μ)
        else (
          fM_nextToken_J162 (4 : Int32) μ)) 10000 y0 μ10))

set_option maxHeartbeats 4000000 in
set_option maxRecDepth 100000 in
theorem wM_nextToken_J89 {p : Program} {l : Launch} {e : Env} {s : State} {m : MethodId} {args : Array Value} {below : List Frame} {meth : Method} {c : Code} {D : va_G} {cI : ClassId} {B : Nat → Nat} {μ0 : MS} {μr : MS} (hC : jC p s m args meth c cX8_nextToken 3 RX8) (hr : meth.sig.returnType = none) (y0 : Int32) (μ : MS) (H : Heap) (locs : List Loc) (ls : Array Slot) (hH : mH D cI B s (va_A (mW B cI μ0) s.heap.size) μ H locs) (hl : lv_has ls 3 [(0, .ref (B 0))]) (h : fM_nextToken_J89 y0 μ = some μr) : W p l e rmM_nextToken s m args below meth c H locs 0 0 (MQ below (mQv D cI B μ0 s.heap.size μr) args s 0 0 (va_A (mW B cI μ0) s.heap.size)) (F0 m 89 ls [.int y0]) := by
  have hx := hC.1.1
  have hb := hC.1.2.1
  have hown := hC.1.2.2.2.1
  have hts := hC.1.2.2.2.2
  unfold fM_nextToken_J89 at h
  refine lv_istore_n (lv' := [(1, .int y0), (0, .ref (B 0))]) hx hb dX8_nextToken_89 rfl hl (by decide) rfl (fun ls hl => ?_)
  refine lv_aload_n hx hb dX8_nextToken_90 rfl (lv_at hl 1 rfl) ?_
  refine lv_aload_n hx hb dX8_nextToken_91 rfl (lv_at hl 1 rfl) ?_
  refine m_get hC hH 19 (by decide) wfX8_206 rfl rfl dX8_nextToken_92 ?_
  obtain ⟨μ10, e11, h⟩ := bnd_some h
  refine m_put (ty := .int) hC hH 18 (by decide) wfX8_212 rfl rfl (by decide +kernel) rfl rfl e11 (mF_18 B _ _) dX8_nextToken_95 (fun H locs hH => ?_)
  refine lv_aload_n hx hb dX8_nextToken_98 rfl (lv_at hl 1 rfl) ?_
  refine m_get hC hH 18 (by decide) wfX8_212 rfl rfl dX8_nextToken_99 ?_
  refine lv_aload_n hx hb dX8_nextToken_102 rfl (lv_at hl 1 rfl) ?_
  refine m_get hC hH 17 (by decide) wfX8_195 rfl rfl dX8_nextToken_103 ?_
  refine lv_icmp_ne (tgt := 117) hx hb dX8_nextToken_106 (by decide) (fun c12 => ?_) (fun c12 => ?_)
  · have h := ite_f c12 h
    refine lv_aload_n hx hb dX8_nextToken_117 rfl (lv_at hl 1 rfl) ?_
    refine lv_aload_n hx hb dX8_nextToken_118 rfl (lv_at hl 1 rfl) ?_
    refine m_get hC hH 18 (by decide) wfX8_212 rfl rfl dX8_nextToken_119 ?_
    obtain ⟨r14, h13, h⟩ := ob_some h
    refine m_calli (As := [.int (μ10 0 18)]) (rest := []) (cM_isLetter l D cI B μ10 (μ10 0 18) h13) hC hH hl (cwV 1 hts (gV wmX8_215 wvX8_isLetter) rfl rfl rfl hdX8_isLetter ⟨Nat.le_of_ble_eq_true rfl, Nat.le_of_ble_eq_true rfl⟩) rfl rfl (Nat.le_of_ble_eq_true rfl) ⟨Nat.zero_le _, Nat.zero_le _⟩ dX8_nextToken_122 (fun H locs hH => ?_)
    refine lv_if_eq (tgt := 198) hx hb dX8_nextToken_125 (by decide) (fun c15 => ?_) (fun c15 => ?_)
    · have h := ite_t c15 h
      refine lv_aload_n hx hb dX8_nextToken_198 rfl (lv_at hl 1 rfl) ?_
      refine lv_aload_n hx hb dX8_nextToken_199 rfl (lv_at hl 1 rfl) ?_
      refine m_get hC hH 18 (by decide) wfX8_212 rfl rfl dX8_nextToken_200 ?_
      obtain ⟨r17, h16, h⟩ := ob_some h
      refine m_calli (As := [.int (μ10 0 18)]) (rest := []) (cM_isDigit l D cI B μ10 (μ10 0 18) h16) hC hH hl (cwV 1 hts (gV wmX8_221 wvX8_isDigit) rfl rfl rfl hdX8_isDigit ⟨Nat.le_of_ble_eq_true rfl, Nat.le_of_ble_eq_true rfl⟩) rfl rfl (Nat.le_of_ble_eq_true rfl) ⟨Nat.zero_le _, Nat.zero_le _⟩ dX8_nextToken_203 (fun H locs hH => ?_)
      refine lv_if_eq (tgt := 311) hx hb dX8_nextToken_206 (by decide) (fun c18 => ?_) (fun c18 => ?_)
      · have h := ite_t c18 h
        refine lv_aload_n hx hb dX8_nextToken_311 rfl (lv_at hl 1 rfl) ?_
        refine lv_iconst (v := 3) hx hb dX8_nextToken_312 (by decide) ?_
        obtain ⟨μ19, e20, h⟩ := bnd_some h
        refine m_put (ty := .int) hC hH 20 (by decide) wfX8_209 rfl rfl (by decide +kernel) rfl rfl e20 (mF_20 B _ _) dX8_nextToken_313 (fun H locs hH => ?_)
        refine lv_aload_n hx hb dX8_nextToken_316 rfl (lv_at hl 1 rfl) ?_
        refine lv_aload_n hx hb dX8_nextToken_317 rfl (lv_at hl 1 rfl) ?_
        refine m_get hC hH 16 (by decide) wfX8_56 rfl rfl dX8_nextToken_318 ?_
        refine lv_aload_n hx hb dX8_nextToken_321 rfl (lv_at hl 1 rfl) ?_
        refine m_get hC hH 18 (by decide) wfX8_212 rfl rfl dX8_nextToken_322 ?_
        obtain ⟨i21, h⟩ := ck_some h
        refine m_ald hC hH (a := 17) rfl rfl i21 dX8_nextToken_325 ?_
        obtain ⟨μ22, e23, h⟩ := bnd_some h
        refine m_put (ty := .int) hC hH 22 (by decide) wfX8_218 rfl rfl (by decide +kernel) rfl rfl e23 (mF_22 B _ _) dX8_nextToken_326 (fun H locs hH => ?_)
        refine lv_aload_n hx hb dX8_nextToken_329 rfl (lv_at hl 1 rfl) ?_
        refine lv_dup hx hb dX8_nextToken_330 rfl ?_
        refine m_get hC hH 19 (by decide) wfX8_206 rfl rfl dX8_nextToken_331 ?_
        refine lv_iconst (v := 1) hx hb dX8_nextToken_334 (by decide) ?_
        refine lv_iadd hx hb dX8_nextToken_335 ?_
        obtain ⟨μ24, e25, h⟩ := bnd_some h
        refine m_put (ty := .int) hC hH 19 (by decide) wfX8_206 rfl rfl (by decide +kernel) rfl rfl e25 (mF_19 B _ _) dX8_nextToken_336 (fun H locs hH => ?_)
        obtain rfl := some_i1 h
        exact m_vret hC hH hr dX8_nextToken_339
      · have h := ite_f c18 h
        refine lv_aload_n hx hb dX8_nextToken_209 rfl (lv_at hl 1 rfl) ?_
        refine lv_iconst (v := 0) hx hb dX8_nextToken_210 (by decide) ?_
        obtain ⟨μ26, e27, h⟩ := bnd_some h
        refine m_put (ty := .int) hC hH 21 (by decide) wfX8_224 rfl rfl (by decide +kernel) rfl rfl e27 (mF_21 B _ _) dX8_nextToken_211 (fun H locs hH => ?_)
        refine wM_nextToken_L214 hC hr  ?_ 10000 y0 μ26 H locs ls  hH (lv_sub hl [1, 0] rfl) h
        intro x1 μ H locs ls  hH hl h
        refine lv_aload_n hx hb dX8_nextToken_282 rfl (lv_at hl 0 rfl) ?_
        refine lv_iload_n hx hb dX8_nextToken_283 rfl (lv_at hl 1 rfl) ?_
        refine lv_if_ne (tgt := 300) hx hb dX8_nextToken_284 (by decide) (fun c37 => ?_) (fun c37 => ?_)
        · have h := ite_f c37 h
          refine lv_iconst (v := 4) hx hb dX8_nextToken_300 (by decide) ?_
          refine lv_goto (tgt := 305) hx hb dX8_nextToken_301 (by decide) ?_
          obtain ⟨μ38, e39, h⟩ := bnd_some h
          refine m_put (ty := .int) hC hH 20 (by decide) wfX8_209 rfl rfl (by decide +kernel) rfl rfl e39 (mF_20 B _ _) dX8_nextToken_305 (fun H locs hH => ?_)
          refine lv_goto (tgt := 339) hx hb dX8_nextToken_308 (by decide) ?_
          obtain rfl := some_i1 h
          exact m_vret hC hH hr dX8_nextToken_339
        · have h := ite_t c37 h
          refine lv_aload_n hx hb dX8_nextToken_287 rfl (lv_at hl 0 rfl) ?_
          refine m_get hC hH 19 (by decide) wfX8_206 rfl rfl dX8_nextToken_288 ?_
          refine lv_aload_n hx hb dX8_nextToken_291 rfl (lv_at hl 0 rfl) ?_
          refine m_get hC hH 18 (by decide) wfX8_212 rfl rfl dX8_nextToken_292 ?_
          refine lv_isub hx hb dX8_nextToken_295 ?_
          refine lv_iconst (v := 4) hx hb dX8_nextToken_296 (by decide) ?_
          refine lv_icmp_le (tgt := 304) hx hb dX8_nextToken_297 (by decide) (fun c40 => ?_) (fun c40 => ?_)
          · have h := ite_t c40 h
            refine lv_iconst (v := 2) hx hb dX8_nextToken_304 (by decide) ?_
            obtain ⟨μ41, e42, h⟩ := bnd_some h
            refine m_put (ty := .int) hC hH 20 (by decide) wfX8_209 rfl rfl (by decide +kernel) rfl rfl e42 (mF_20 B _ _) dX8_nextToken_305 (fun H locs hH => ?_)
            refine lv_goto (tgt := 339) hx hb dX8_nextToken_308 (by decide) ?_
            obtain rfl := some_i1 h
            exact m_vret hC hH hr dX8_nextToken_339
          · have h := ite_f c40 h
            refine lv_iconst (v := 4) hx hb dX8_nextToken_300 (by decide) ?_
            refine lv_goto (tgt := 305) hx hb dX8_nextToken_301 (by decide) ?_
            obtain ⟨μ43, e44, h⟩ := bnd_some h
            refine m_put (ty := .int) hC hH 20 (by decide) wfX8_209 rfl rfl (by decide +kernel) rfl rfl e44 (mF_20 B _ _) dX8_nextToken_305 (fun H locs hH => ?_)
            refine lv_goto (tgt := 339) hx hb dX8_nextToken_308 (by decide) ?_
            obtain rfl := some_i1 h
            exact m_vret hC hH hr dX8_nextToken_339
    · have h := ite_f c15 h
      refine wM_nextToken_L128 hC hr  ?_ 10000 y0 μ10 H locs ls  hH (lv_sub hl [1, 0] rfl) h
      intro x1 μ H locs ls  hH hl h
      refine lv_aload_n hx hb dX8_nextToken_152 rfl (lv_at hl 0 rfl) ?_
      refine lv_iload_n hx hb dX8_nextToken_153 rfl (lv_at hl 1 rfl) ?_
      refine lv_if_eq (tgt := 161) hx hb dX8_nextToken_154 (by decide) (fun c50 => ?_) (fun c50 => ?_)
      · have h := ite_t c50 h
        refine lv_iconst (v := 1) hx hb dX8_nextToken_161 (by decide) ?_
        exact wM_nextToken_J162 hC hr  (1 : Int32) μ H locs ls  hH (lv_sub hl [0] rfl) h
      · have h := ite_f c50 h
        refine lv_iconst (v := 4) hx hb dX8_nextToken_157 (by decide) ?_
        refine lv_goto (tgt := 162) hx hb dX8_nextToken_158 (by decide) ?_
        exact wM_nextToken_J162 hC hr  (4 : Int32) μ H locs ls  hH (lv_sub hl [0] rfl) h
  · have h := ite_t c12 h
    refine lv_aload_n hx hb dX8_nextToken_109 rfl (lv_at hl 1 rfl) ?_
    refine lv_iconst (v := 0) hx hb dX8_nextToken_110 (by decide) ?_
    obtain ⟨μ59, e60, h⟩ := bnd_some h
    refine m_put (ty := .int) hC hH 20 (by decide) wfX8_209 rfl rfl (by decide +kernel) rfl rfl e60 (mF_20 B _ _) dX8_nextToken_111 (fun H locs hH => ?_)
    refine lv_goto (tgt := 339) hx hb dX8_nextToken_114 (by decide) ?_
    obtain rfl := some_i1 h
    exact m_vret hC hH hr dX8_nextToken_339

def fM_nextToken_J88 (μ : MS) : Option (MS) :=
  fM_nextToken_J89 (0 : Int32) μ

set_option maxHeartbeats 4000000 in
set_option maxRecDepth 100000 in
theorem wM_nextToken_J88 {p : Program} {l : Launch} {e : Env} {s : State} {m : MethodId} {args : Array Value} {below : List Frame} {meth : Method} {c : Code} {D : va_G} {cI : ClassId} {B : Nat → Nat} {μ0 : MS} {μr : MS} (hC : jC p s m args meth c cX8_nextToken 3 RX8) (hr : meth.sig.returnType = none) (μ : MS) (H : Heap) (locs : List Loc) (ls : Array Slot) (hH : mH D cI B s (va_A (mW B cI μ0) s.heap.size) μ H locs) (hl : lv_has ls 3 [(0, .ref (B 0))]) (h : fM_nextToken_J88 μ = some μr) : W p l e rmM_nextToken s m args below meth c H locs 0 0 (MQ below (mQv D cI B μ0 s.heap.size μr) args s 0 0 (va_A (mW B cI μ0) s.heap.size)) (F0 m 88 ls []) := by
  have hx := hC.1.1
  have hb := hC.1.2.1
  have hown := hC.1.2.2.2.1
  have hts := hC.1.2.2.2.2
  unfold fM_nextToken_J88 at h
  refine lv_iconst (v := 0) hx hb dX8_nextToken_88 (by decide) ?_
  exact wM_nextToken_J89 hC hr  (0 : Int32) μ H locs ls  hH hl h

def fM_nextToken_J72 (x1 : Int32) (x2 : Int32) (μ : MS) : Option (MS) :=
  if x1 = 0 then (
    fM_nextToken_J88 μ)
  else (
    if x2 = (μ 0 19) then (
      fM_nextToken_J89 (1 : Int32) μ)
    else (
      fM_nextToken_J88 μ))

set_option maxHeartbeats 4000000 in
set_option maxRecDepth 100000 in
theorem wM_nextToken_J72 {p : Program} {l : Launch} {e : Env} {s : State} {m : MethodId} {args : Array Value} {below : List Frame} {meth : Method} {c : Code} {D : va_G} {cI : ClassId} {B : Nat → Nat} {μ0 : MS} {μr : MS} (hC : jC p s m args meth c cX8_nextToken 3 RX8) (hr : meth.sig.returnType = none) (x1 : Int32) (x2 : Int32) (μ : MS) (H : Heap) (locs : List Loc) (ls : Array Slot) (hH : mH D cI B s (va_A (mW B cI μ0) s.heap.size) μ H locs) (hl : lv_has ls 3 [(0, .ref (B 0)), (1, .int x1), (2, .int x2)]) (h : fM_nextToken_J72 x1 x2 μ = some μr) : W p l e rmM_nextToken s m args below meth c H locs 0 0 (MQ below (mQv D cI B μ0 s.heap.size μr) args s 0 0 (va_A (mW B cI μ0) s.heap.size)) (F0 m 72 ls []) := by
  have hx := hC.1.1
  have hb := hC.1.2.1
  have hown := hC.1.2.2.2.1
  have hts := hC.1.2.2.2.2
  unfold fM_nextToken_J72 at h
  refine lv_iload_n hx hb dX8_nextToken_72 rfl (lv_at hl 1 rfl) ?_
  refine lv_if_eq (tgt := 88) hx hb dX8_nextToken_73 (by decide) (fun c9 => ?_) (fun c9 => ?_)
  · have h := ite_t c9 h
    exact wM_nextToken_J88 hC hr  μ H locs ls  hH (lv_sub hl [0] rfl) h
  · have h := ite_f c9 h
    refine lv_iload_n hx hb dX8_nextToken_76 rfl (lv_at hl 2 rfl) ?_
    refine lv_aload_n hx hb dX8_nextToken_77 rfl (lv_at hl 0 rfl) ?_
    refine m_get hC hH 19 (by decide) wfX8_206 rfl rfl dX8_nextToken_78 ?_
    refine lv_icmp_ne (tgt := 88) hx hb dX8_nextToken_81 (by decide) (fun c61 => ?_) (fun c61 => ?_)
    · have h := ite_f c61 h
      exact wM_nextToken_J88 hC hr  μ H locs ls  hH (lv_sub hl [0] rfl) h
    · have h := ite_t c61 h
      refine lv_iconst (v := 1) hx hb dX8_nextToken_84 (by decide) ?_
      refine lv_goto (tgt := 89) hx hb dX8_nextToken_85 (by decide) ?_
      exact wM_nextToken_J89 hC hr  (1 : Int32) μ H locs ls  hH (lv_sub hl [0] rfl) h

def fM_nextToken_J28 (y0 : Int32) (μ : MS) : Option (MS) :=
  bnd (μ 0 19) fun v2 =>
  fM_nextToken_L34 (fun (x1 : Int32) (x2 : Int32) (μ : MS) => fM_nextToken_J72 x1 x2 μ) 10000 y0 v2 μ

set_option maxHeartbeats 4000000 in
set_option maxRecDepth 100000 in
theorem wM_nextToken_J28 {p : Program} {l : Launch} {e : Env} {s : State} {m : MethodId} {args : Array Value} {below : List Frame} {meth : Method} {c : Code} {D : va_G} {cI : ClassId} {B : Nat → Nat} {μ0 : MS} {μr : MS} (hC : jC p s m args meth c cX8_nextToken 3 RX8) (hr : meth.sig.returnType = none) (y0 : Int32) (μ : MS) (H : Heap) (locs : List Loc) (ls : Array Slot) (hH : mH D cI B s (va_A (mW B cI μ0) s.heap.size) μ H locs) (hl : lv_has ls 3 [(0, .ref (B 0))]) (h : fM_nextToken_J28 y0 μ = some μr) : W p l e rmM_nextToken s m args below meth c H locs 0 0 (MQ below (mQv D cI B μ0 s.heap.size μr) args s 0 0 (va_A (mW B cI μ0) s.heap.size)) (F0 m 28 ls [.int y0]) := by
  have hx := hC.1.1
  have hb := hC.1.2.1
  have hown := hC.1.2.2.2.1
  have hts := hC.1.2.2.2.2
  unfold fM_nextToken_J28 at h
  refine lv_istore_n (lv' := [(1, .int y0), (0, .ref (B 0))]) hx hb dX8_nextToken_28 rfl hl (by decide) rfl (fun ls hl => ?_)
  refine lv_aload_n hx hb dX8_nextToken_29 rfl (lv_at hl 1 rfl) ?_
  refine m_get hC hH 19 (by decide) wfX8_206 rfl rfl dX8_nextToken_30 ?_
  obtain ⟨v2, e3, h⟩ := bnd_some h
  refine lv_tope e3 ?_
  refine lv_istore_n (lv' := [(2, .int v2), (1, .int y0), (0, .ref (B 0))]) hx hb dX8_nextToken_33 rfl hl (by decide) rfl (fun ls hl => ?_)
  refine wM_nextToken_L34 hC hr  ?_ 10000 y0 v2 μ H locs ls  hH (lv_sub hl [2, 1, 0] rfl) h
  intro x1 x2 μ H locs ls  hH hl h
  exact wM_nextToken_J72 hC hr  x1 x2 μ H locs ls  hH hl h

def fM_nextToken_J27 (μ : MS) : Option (MS) :=
  fM_nextToken_J28 (0 : Int32) μ

set_option maxHeartbeats 4000000 in
set_option maxRecDepth 100000 in
theorem wM_nextToken_J27 {p : Program} {l : Launch} {e : Env} {s : State} {m : MethodId} {args : Array Value} {below : List Frame} {meth : Method} {c : Code} {D : va_G} {cI : ClassId} {B : Nat → Nat} {μ0 : MS} {μr : MS} (hC : jC p s m args meth c cX8_nextToken 3 RX8) (hr : meth.sig.returnType = none) (μ : MS) (H : Heap) (locs : List Loc) (ls : Array Slot) (hH : mH D cI B s (va_A (mW B cI μ0) s.heap.size) μ H locs) (hl : lv_has ls 3 [(0, .ref (B 0))]) (h : fM_nextToken_J27 μ = some μr) : W p l e rmM_nextToken s m args below meth c H locs 0 0 (MQ below (mQv D cI B μ0 s.heap.size μr) args s 0 0 (va_A (mW B cI μ0) s.heap.size)) (F0 m 27 ls []) := by
  have hx := hC.1.1
  have hb := hC.1.2.1
  have hown := hC.1.2.2.2.1
  have hts := hC.1.2.2.2.2
  unfold fM_nextToken_J27 at h
  refine lv_iconst (v := 0) hx hb dX8_nextToken_27 (by decide) ?_
  exact wM_nextToken_J28 hC hr  (0 : Int32) μ H locs ls  hH hl h

def fM_nextToken_J23 (μ : MS) : Option (MS) :=
  fM_nextToken_J28 (1 : Int32) μ

set_option maxHeartbeats 4000000 in
set_option maxRecDepth 100000 in
theorem wM_nextToken_J23 {p : Program} {l : Launch} {e : Env} {s : State} {m : MethodId} {args : Array Value} {below : List Frame} {meth : Method} {c : Code} {D : va_G} {cI : ClassId} {B : Nat → Nat} {μ0 : MS} {μr : MS} (hC : jC p s m args meth c cX8_nextToken 3 RX8) (hr : meth.sig.returnType = none) (μ : MS) (H : Heap) (locs : List Loc) (ls : Array Slot) (hH : mH D cI B s (va_A (mW B cI μ0) s.heap.size) μ H locs) (hl : lv_has ls 3 [(0, .ref (B 0))]) (h : fM_nextToken_J23 μ = some μr) : W p l e rmM_nextToken s m args below meth c H locs 0 0 (MQ below (mQv D cI B μ0 s.heap.size μr) args s 0 0 (va_A (mW B cI μ0) s.heap.size)) (F0 m 23 ls []) := by
  have hx := hC.1.1
  have hb := hC.1.2.1
  have hown := hC.1.2.2.2.1
  have hts := hC.1.2.2.2.2
  unfold fM_nextToken_J23 at h
  refine lv_iconst (v := 1) hx hb dX8_nextToken_23 (by decide) ?_
  refine lv_goto (tgt := 28) hx hb dX8_nextToken_24 (by decide) ?_
  exact wM_nextToken_J28 hC hr  (1 : Int32) μ H locs ls  hH hl h

def fM_nextToken (μ0 : MS) : Option (MS) :=
  if (μ0 0 19) ≤ 0 then (
    fM_nextToken_J27 μ0)
  else (
    if (μ0 0 20) = (1 : Int32) then (
      fM_nextToken_J23 μ0)
    else (
      if (μ0 0 20) = (2 : Int32) then (
        fM_nextToken_J23 μ0)
      else (
        fM_nextToken_J27 μ0)))

set_option maxHeartbeats 4000000 in
set_option maxRecDepth 100000 in
theorem cM_nextToken (l : Launch) (D : va_G) (cI : ClassId) (B : Nat → Nat) (μ0 : MS) {μr : MS} (h : fM_nextToken μ0 = some μr) : ∀ sz, Met l yX8_nextToken (Cond.code yX8_nextToken cX8_nextToken 3 none :: Tw) rmM_nextToken (mP D cI B μ0 sz [.ref (B 0)]) (mQv D cI B μ0 sz μr) 0 0 (va_A (mW B cI μ0) sz) := by
  intro sz
  refine Met.ofW (cc := cX8_nextToken) (maxL := 3) (ret := (none)) (by decide) rfl ?_
  intro p e s m args below meth c s₁ Bd hml hv
  obtain ⟨hC, hr⟩ := jC_of Bd hml
  obtain ⟨rfl, rfl, hH⟩ := m_enter hv
  have hC : jC p s m _ meth c cX8_nextToken 3 RX8 := hC
  have hx := hC.1.1
  have hb := hC.1.2.1
  have hown := hC.1.2.2.2.1
  have hts := hC.1.2.2.2.2
  have hl := lv_entry ([.ref (B 0)]) (n := 3) (Nat.le_of_ble_eq_true rfl)
  rw [lg_entry_eq]
  generalize (lg_sl ([.ref (B 0)]) ++ List.replicate (3 - (lg_sl ([.ref (B 0)])).length) Slot.unset).toArray = ls at hl ⊢
  have hl : lv_has ls 3 [(0, .ref (B 0))] := hl
  unfold fM_nextToken at h
  refine W_nm (fun H locs eH eL => ?_)
  have hH : mH D cI B s (va_A (mW B cI μ0) s.heap.size) μ0 H locs := by rw [eH, eL]; exact hH
  show W p l e rmM_nextToken s m _ below meth c H locs 0 0 _ (F0 m 0 ls [])
  refine lv_aload_n hx hb dX8_nextToken_0 rfl (lv_at hl 0 rfl) ?_
  refine m_get hC hH 19 (by decide) wfX8_206 rfl rfl dX8_nextToken_1 ?_
  refine lv_if_le (tgt := 27) hx hb dX8_nextToken_4 (by decide) (fun c1 => ?_) (fun c1 => ?_)
  · have h := ite_t c1 h
    exact wM_nextToken_J27 hC hr  μ0 H locs ls  hH hl h
  · have h := ite_f c1 h
    refine lv_aload_n hx hb dX8_nextToken_7 rfl (lv_at hl 0 rfl) ?_
    refine m_get hC hH 20 (by decide) wfX8_209 rfl rfl dX8_nextToken_8 ?_
    refine lv_iconst (v := 1) hx hb dX8_nextToken_11 (by decide) ?_
    refine lv_icmp_eq (tgt := 23) hx hb dX8_nextToken_12 (by decide) (fun c62 => ?_) (fun c62 => ?_)
    · have h := ite_t c62 h
      exact wM_nextToken_J23 hC hr  μ0 H locs ls  hH hl h
    · have h := ite_f c62 h
      refine lv_aload_n hx hb dX8_nextToken_15 rfl (lv_at hl 0 rfl) ?_
      refine m_get hC hH 20 (by decide) wfX8_209 rfl rfl dX8_nextToken_16 ?_
      refine lv_iconst (v := 2) hx hb dX8_nextToken_19 (by decide) ?_
      refine lv_icmp_ne (tgt := 27) hx hb dX8_nextToken_20 (by decide) (fun c63 => ?_) (fun c63 => ?_)
      · have h := ite_f c63 h
        exact wM_nextToken_J27 hC hr  μ0 H locs ls  hH hl h
      · have h := ite_t c63 h
        exact wM_nextToken_J23 hC hr  μ0 H locs ls  hH hl h

def rmM_isSign : Room := { frames := 0, cells := 0, slots := 0, locals := 0 }
theorem hdX8_isSign : yX8_isSign.cls = RX8 ∧ yX8_isSign.cls ≠ "java/lang/invoke/MethodHandle" ∧ yX8_isSign.cls ≠ "java/lang/invoke/VarHandle" ∧ (parseMethodDescriptor yX8_isSign.desc).map (fun d => d.parameters.length) = some 1 := by decide +kernel

def fM_isSign (μ0 : MS) (x1 : Int32) : Option (Int32) :=
  if (μ0 0 20) = (3 : Int32) then (
    if (μ0 0 22) = x1 then (
      some (1 : Int32))
    else (
      some (0 : Int32)))
  else (
    some (0 : Int32))

set_option maxHeartbeats 4000000 in
set_option maxRecDepth 100000 in
theorem cM_isSign (l : Launch) (D : va_G) (cI : ClassId) (B : Nat → Nat) (μ0 : MS) (x1 : Int32) {r : Int32} (h : fM_isSign μ0 x1 = some r) : ∀ sz, Met l yX8_isSign (Cond.code yX8_isSign cX8_isSign 2 (some .boolean) :: Tw) rmM_isSign (mP D cI B μ0 sz [.ref (B 0), .int x1]) (mQi D cI B μ0 sz μ0 r) 0 0 (va_A (mW B cI μ0) sz) := by
  intro sz
  refine Met.ofW (cc := cX8_isSign) (maxL := 2) (ret := (some .boolean)) (by decide) rfl ?_
  intro p e s m args below meth c s₁ Bd hml hv
  obtain ⟨hC, hr⟩ := jC_of Bd hml
  obtain ⟨rfl, rfl, hH⟩ := m_enter hv
  have hC : jC p s m _ meth c cX8_isSign 2 RX8 := hC
  have hx := hC.1.1
  have hb := hC.1.2.1
  have hown := hC.1.2.2.2.1
  have hts := hC.1.2.2.2.2
  have hl := lv_entry ([.ref (B 0), .int x1]) (n := 2) (Nat.le_of_ble_eq_true rfl)
  rw [lg_entry_eq]
  generalize (lg_sl ([.ref (B 0), .int x1]) ++ List.replicate (2 - (lg_sl ([.ref (B 0), .int x1])).length) Slot.unset).toArray = ls at hl ⊢
  have hl : lv_has ls 2 [(0, .ref (B 0)), (1, .int x1)] := hl
  unfold fM_isSign at h
  refine W_nm (fun H locs eH eL => ?_)
  have hH : mH D cI B s (va_A (mW B cI μ0) s.heap.size) μ0 H locs := by rw [eH, eL]; exact hH
  show W p l e rmM_isSign s m _ below meth c H locs 0 0 _ (F0 m 0 ls [])
  refine lv_aload_n hx hb dX8_isSign_0 rfl (lv_at hl 0 rfl) ?_
  refine m_get hC hH 20 (by decide) wfX8_209 rfl rfl dX8_isSign_1 ?_
  refine lv_iconst (v := 3) hx hb dX8_isSign_4 (by decide) ?_
  refine lv_icmp_ne (tgt := 20) hx hb dX8_isSign_5 (by decide) (fun c1 => ?_) (fun c1 => ?_)
  · have h := ite_f c1 h
    refine lv_iconst (v := 0) hx hb dX8_isSign_20 (by decide) ?_
    obtain rfl := some_i1 h
    exact m_iret (v := 0) hC hH hr (by decide) dX8_isSign_21
  · have h := ite_t c1 h
    refine lv_aload_n hx hb dX8_isSign_8 rfl (lv_at hl 0 rfl) ?_
    refine m_get hC hH 22 (by decide) wfX8_218 rfl rfl dX8_isSign_9 ?_
    refine lv_iload_n hx hb dX8_isSign_12 rfl (lv_at hl 1 rfl) ?_
    refine lv_icmp_ne (tgt := 20) hx hb dX8_isSign_13 (by decide) (fun c2 => ?_) (fun c2 => ?_)
    · have h := ite_f c2 h
      refine lv_iconst (v := 0) hx hb dX8_isSign_20 (by decide) ?_
      obtain rfl := some_i1 h
      exact m_iret (v := 0) hC hH hr (by decide) dX8_isSign_21
    · have h := ite_t c2 h
      refine lv_iconst (v := 1) hx hb dX8_isSign_16 (by decide) ?_
      refine lv_goto (tgt := 21) hx hb dX8_isSign_17 (by decide) ?_
      obtain rfl := some_i1 h
      exact m_iret (v := 1) hC hH hr (by decide) dX8_isSign_21

def rmM_isWordAt : Room := { frames := 0, cells := 0, slots := 0, locals := 0 }
theorem hdX8_isWordAt : yX8_isWordAt.cls = RX8 ∧ yX8_isWordAt.cls ≠ "java/lang/invoke/MethodHandle" ∧ yX8_isWordAt.cls ≠ "java/lang/invoke/VarHandle" ∧ (parseMethodDescriptor yX8_isWordAt.desc).map (fun d => d.parameters.length) = some 4 := by decide +kernel

def fM_isWordAt_J10 (μ0 : MS) (x1 : Int32) (x2 : Int32) (x3 : Int32) (x4 : Int32) (y0 : Int32) : Option (Int32) :=
  if (μ0 0 20) = (1 : Int32) then (
    if ((μ0 0 19) - (μ0 0 18)) = y0 then (
      ck (μ0 0 18) (96) <|
      if (μ0 17 ((μ0 0 18)).toNatClampNeg) = x1 then (
        ck ((μ0 0 18) + (1 : Int32)) (96) <|
        if (μ0 17 (((μ0 0 18) + (1 : Int32))).toNatClampNeg) = x2 then (
          ck ((μ0 0 18) + (2 : Int32)) (96) <|
          if (μ0 17 (((μ0 0 18) + (2 : Int32))).toNatClampNeg) = x3 then (
            if x4 = 0 then (
              some (1 : Int32))
            else (
              ck ((μ0 0 18) + (3 : Int32)) (96) <|
              if (μ0 17 (((μ0 0 18) + (3 : Int32))).toNatClampNeg) = x4 then (
                some (1 : Int32))
              else (
                some (0 : Int32))))
          else (
            some (0 : Int32)))
        else (
          some (0 : Int32)))
      else (
        some (0 : Int32)))
    else (
      some (0 : Int32)))
  else (
    some (0 : Int32))

set_option maxHeartbeats 4000000 in
set_option maxRecDepth 100000 in
theorem wM_isWordAt_J10 {p : Program} {l : Launch} {e : Env} {s : State} {m : MethodId} {args : Array Value} {below : List Frame} {meth : Method} {c : Code} {D : va_G} {cI : ClassId} {B : Nat → Nat} {μ0 : MS} {r : Int32} (hC : jC p s m args meth c cX8_isWordAt 6 RX8) (hr : meth.sig.returnType = some .boolean) (x1 : Int32) (x2 : Int32) (x3 : Int32) (x4 : Int32) (y0 : Int32) (H : Heap) (locs : List Loc) (ls : Array Slot) (hH : mH D cI B s (va_A (mW B cI μ0) s.heap.size) μ0 H locs) (hl : lv_has ls 6 [(0, .ref (B 0)), (1, .int x1), (2, .int x2), (3, .int x3), (4, .int x4)]) (h : fM_isWordAt_J10 μ0 x1 x2 x3 x4 y0 = some r) : W p l e rmM_isWordAt s m args below meth c H locs 0 0 (MQ below (mQi D cI B μ0 s.heap.size μ0 r) args s 0 0 (va_A (mW B cI μ0) s.heap.size)) (F0 m 10 ls [.int y0]) := by
  have hx := hC.1.1
  have hb := hC.1.2.1
  have hown := hC.1.2.2.2.1
  have hts := hC.1.2.2.2.2
  unfold fM_isWordAt_J10 at h
  refine lv_istore (lv' := [(5, .int y0), (0, .ref (B 0)), (1, .int x1), (2, .int x2), (3, .int x3), (4, .int x4)]) hx hb dX8_isWordAt_10 hl (by decide) rfl (fun ls hl => ?_)
  refine lv_aload_n hx hb dX8_isWordAt_12 rfl (lv_at hl 1 rfl) ?_
  refine m_get hC hH 20 (by decide) wfX8_209 rfl rfl dX8_isWordAt_13 ?_
  refine lv_iconst (v := 1) hx hb dX8_isWordAt_16 (by decide) ?_
  refine lv_icmp_ne (tgt := 102) hx hb dX8_isWordAt_17 (by decide) (fun c2 => ?_) (fun c2 => ?_)
  · have h := ite_f c2 h
    refine lv_iconst (v := 0) hx hb dX8_isWordAt_102 (by decide) ?_
    obtain rfl := some_i1 h
    exact m_iret (v := 0) hC hH hr (by decide) dX8_isWordAt_103
  · have h := ite_t c2 h
    refine lv_aload_n hx hb dX8_isWordAt_20 rfl (lv_at hl 1 rfl) ?_
    refine m_get hC hH 19 (by decide) wfX8_206 rfl rfl dX8_isWordAt_21 ?_
    refine lv_aload_n hx hb dX8_isWordAt_24 rfl (lv_at hl 1 rfl) ?_
    refine m_get hC hH 18 (by decide) wfX8_212 rfl rfl dX8_isWordAt_25 ?_
    refine lv_isub hx hb dX8_isWordAt_28 ?_
    refine lv_iload hx hb dX8_isWordAt_29 (lv_at hl 0 rfl) ?_
    refine lv_icmp_ne (tgt := 102) hx hb dX8_isWordAt_31 (by decide) (fun c3 => ?_) (fun c3 => ?_)
    · have h := ite_f c3 h
      refine lv_iconst (v := 0) hx hb dX8_isWordAt_102 (by decide) ?_
      obtain rfl := some_i1 h
      exact m_iret (v := 0) hC hH hr (by decide) dX8_isWordAt_103
    · have h := ite_t c3 h
      refine lv_aload_n hx hb dX8_isWordAt_34 rfl (lv_at hl 1 rfl) ?_
      refine m_get hC hH 16 (by decide) wfX8_56 rfl rfl dX8_isWordAt_35 ?_
      refine lv_aload_n hx hb dX8_isWordAt_38 rfl (lv_at hl 1 rfl) ?_
      refine m_get hC hH 18 (by decide) wfX8_212 rfl rfl dX8_isWordAt_39 ?_
      obtain ⟨i4, h⟩ := ck_some h
      refine m_ald hC hH (a := 17) rfl rfl i4 dX8_isWordAt_42 ?_
      refine lv_iload_n hx hb dX8_isWordAt_43 rfl (lv_at hl 2 rfl) ?_
      refine lv_icmp_ne (tgt := 102) hx hb dX8_isWordAt_44 (by decide) (fun c5 => ?_) (fun c5 => ?_)
      · have h := ite_f c5 h
        refine lv_iconst (v := 0) hx hb dX8_isWordAt_102 (by decide) ?_
        obtain rfl := some_i1 h
        exact m_iret (v := 0) hC hH hr (by decide) dX8_isWordAt_103
      · have h := ite_t c5 h
        refine lv_aload_n hx hb dX8_isWordAt_47 rfl (lv_at hl 1 rfl) ?_
        refine m_get hC hH 16 (by decide) wfX8_56 rfl rfl dX8_isWordAt_48 ?_
        refine lv_aload_n hx hb dX8_isWordAt_51 rfl (lv_at hl 1 rfl) ?_
        refine m_get hC hH 18 (by decide) wfX8_212 rfl rfl dX8_isWordAt_52 ?_
        refine lv_iconst (v := 1) hx hb dX8_isWordAt_55 (by decide) ?_
        refine lv_iadd hx hb dX8_isWordAt_56 ?_
        obtain ⟨i6, h⟩ := ck_some h
        refine m_ald hC hH (a := 17) rfl rfl i6 dX8_isWordAt_57 ?_
        refine lv_iload_n hx hb dX8_isWordAt_58 rfl (lv_at hl 3 rfl) ?_
        refine lv_icmp_ne (tgt := 102) hx hb dX8_isWordAt_59 (by decide) (fun c7 => ?_) (fun c7 => ?_)
        · have h := ite_f c7 h
          refine lv_iconst (v := 0) hx hb dX8_isWordAt_102 (by decide) ?_
          obtain rfl := some_i1 h
          exact m_iret (v := 0) hC hH hr (by decide) dX8_isWordAt_103
        · have h := ite_t c7 h
          refine lv_aload_n hx hb dX8_isWordAt_62 rfl (lv_at hl 1 rfl) ?_
          refine m_get hC hH 16 (by decide) wfX8_56 rfl rfl dX8_isWordAt_63 ?_
          refine lv_aload_n hx hb dX8_isWordAt_66 rfl (lv_at hl 1 rfl) ?_
          refine m_get hC hH 18 (by decide) wfX8_212 rfl rfl dX8_isWordAt_67 ?_
          refine lv_iconst (v := 2) hx hb dX8_isWordAt_70 (by decide) ?_
          refine lv_iadd hx hb dX8_isWordAt_71 ?_
          obtain ⟨i8, h⟩ := ck_some h
          refine m_ald hC hH (a := 17) rfl rfl i8 dX8_isWordAt_72 ?_
          refine lv_iload_n hx hb dX8_isWordAt_73 rfl (lv_at hl 4 rfl) ?_
          refine lv_icmp_ne (tgt := 102) hx hb dX8_isWordAt_74 (by decide) (fun c9 => ?_) (fun c9 => ?_)
          · have h := ite_f c9 h
            refine lv_iconst (v := 0) hx hb dX8_isWordAt_102 (by decide) ?_
            obtain rfl := some_i1 h
            exact m_iret (v := 0) hC hH hr (by decide) dX8_isWordAt_103
          · have h := ite_t c9 h
            refine lv_iload hx hb dX8_isWordAt_77 (lv_at hl 5 rfl) ?_
            refine lv_if_eq (tgt := 98) hx hb dX8_isWordAt_79 (by decide) (fun c10 => ?_) (fun c10 => ?_)
            · have h := ite_t c10 h
              refine lv_iconst (v := 1) hx hb dX8_isWordAt_98 (by decide) ?_
              refine lv_goto (tgt := 103) hx hb dX8_isWordAt_99 (by decide) ?_
              obtain rfl := some_i1 h
              exact m_iret (v := 1) hC hH hr (by decide) dX8_isWordAt_103
            · have h := ite_f c10 h
              refine lv_aload_n hx hb dX8_isWordAt_82 rfl (lv_at hl 1 rfl) ?_
              refine m_get hC hH 16 (by decide) wfX8_56 rfl rfl dX8_isWordAt_83 ?_
              refine lv_aload_n hx hb dX8_isWordAt_86 rfl (lv_at hl 1 rfl) ?_
              refine m_get hC hH 18 (by decide) wfX8_212 rfl rfl dX8_isWordAt_87 ?_
              refine lv_iconst (v := 3) hx hb dX8_isWordAt_90 (by decide) ?_
              refine lv_iadd hx hb dX8_isWordAt_91 ?_
              obtain ⟨i11, h⟩ := ck_some h
              refine m_ald hC hH (a := 17) rfl rfl i11 dX8_isWordAt_92 ?_
              refine lv_iload hx hb dX8_isWordAt_93 (lv_at hl 5 rfl) ?_
              refine lv_icmp_ne (tgt := 102) hx hb dX8_isWordAt_95 (by decide) (fun c12 => ?_) (fun c12 => ?_)
              · have h := ite_f c12 h
                refine lv_iconst (v := 0) hx hb dX8_isWordAt_102 (by decide) ?_
                obtain rfl := some_i1 h
                exact m_iret (v := 0) hC hH hr (by decide) dX8_isWordAt_103
              · have h := ite_t c12 h
                refine lv_iconst (v := 1) hx hb dX8_isWordAt_98 (by decide) ?_
                refine lv_goto (tgt := 103) hx hb dX8_isWordAt_99 (by decide) ?_
                obtain rfl := some_i1 h
                exact m_iret (v := 1) hC hH hr (by decide) dX8_isWordAt_103

def fM_isWordAt (μ0 : MS) (x1 : Int32) (x2 : Int32) (x3 : Int32) (x4 : Int32) : Option (Int32) :=
  if x4 = 0 then (
    fM_isWordAt_J10 μ0 x1 x2 x3 x4 (3 : Int32))
  else (
    fM_isWordAt_J10 μ0 x1 x2 x3 x4 (4 : Int32))

set_option maxHeartbeats 4000000 in
set_option maxRecDepth 100000 in
theorem cM_isWordAt (l : Launch) (D : va_G) (cI : ClassId) (B : Nat → Nat) (μ0 : MS) (x1 : Int32) (x2 : Int32) (x3 : Int32) (x4 : Int32) {r : Int32} (h : fM_isWordAt μ0 x1 x2 x3 x4 = some r) : ∀ sz, Met l yX8_isWordAt (Cond.code yX8_isWordAt cX8_isWordAt 6 (some .boolean) :: Tw) rmM_isWordAt (mP D cI B μ0 sz [.ref (B 0), .int x1, .int x2, .int x3, .int x4]) (mQi D cI B μ0 sz μ0 r) 0 0 (va_A (mW B cI μ0) sz) := by
  intro sz
  refine Met.ofW (cc := cX8_isWordAt) (maxL := 6) (ret := (some .boolean)) (by decide) rfl ?_
  intro p e s m args below meth c s₁ Bd hml hv
  obtain ⟨hC, hr⟩ := jC_of Bd hml
  obtain ⟨rfl, rfl, hH⟩ := m_enter hv
  have hC : jC p s m _ meth c cX8_isWordAt 6 RX8 := hC
  have hx := hC.1.1
  have hb := hC.1.2.1
  have hown := hC.1.2.2.2.1
  have hts := hC.1.2.2.2.2
  have hl := lv_entry ([.ref (B 0), .int x1, .int x2, .int x3, .int x4]) (n := 6) (Nat.le_of_ble_eq_true rfl)
  rw [lg_entry_eq]
  generalize (lg_sl ([.ref (B 0), .int x1, .int x2, .int x3, .int x4]) ++ List.replicate (6 - (lg_sl ([.ref (B 0), .int x1, .int x2, .int x3, .int x4])).length) Slot.unset).toArray = ls at hl ⊢
  have hl : lv_has ls 6 [(0, .ref (B 0)), (1, .int x1), (2, .int x2), (3, .int x3), (4, .int x4)] := hl
  unfold fM_isWordAt at h
  refine W_nm (fun H locs eH eL => ?_)
  have hH : mH D cI B s (va_A (mW B cI μ0) s.heap.size) μ0 H locs := by rw [eH, eL]; exact hH
  show W p l e rmM_isWordAt s m _ below meth c H locs 0 0 _ (F0 m 0 ls [])
  refine lv_iload hx hb dX8_isWordAt_0 (lv_at hl 4 rfl) ?_
  refine lv_if_ne (tgt := 9) hx hb dX8_isWordAt_2 (by decide) (fun c1 => ?_) (fun c1 => ?_)
  · have h := ite_f c1 h
    refine lv_iconst (v := 4) hx hb dX8_isWordAt_9 (by decide) ?_
    exact wM_isWordAt_J10 hC hr  x1 x2 x3 x4 (4 : Int32) H locs ls  hH hl h
  · have h := ite_t c1 h
    refine lv_iconst (v := 3) hx hb dX8_isWordAt_5 (by decide) ?_
    refine lv_goto (tgt := 10) hx hb dX8_isWordAt_6 (by decide) ?_
    exact wM_isWordAt_J10 hC hr  x1 x2 x3 x4 (3 : Int32) H locs ls  hH hl h

def rmM_key : Room := { frames := 1, cells := 0, slots := 0, locals := 25 }
theorem hdX8_key : yX8_key.cls = RX8 ∧ yX8_key.cls ≠ "java/lang/invoke/MethodHandle" ∧ yX8_key.cls ≠ "java/lang/invoke/VarHandle" ∧ (parseMethodDescriptor yX8_key.desc).map (fun d => d.parameters.length) = some 0 := by decide +kernel

def fM_key (μ0 : MS) : Option (Int32) :=
  ob (fM_isWordAt μ0 (114 : Int32) (105 : Int32) (115 : Int32) (101 : Int32)) fun r2 =>
  if r2 = 0 then (
    ob (fM_isWordAt μ0 (102 : Int32) (101 : Int32) (101 : Int32) (0 : Int32)) fun r5 =>
    if r5 = 0 then (
      ob (fM_isWordAt μ0 (102 : Int32) (105 : Int32) (110 : Int32) (101 : Int32)) fun r8 =>
      if r8 = 0 then (
        some (-1 : Int32))
      else (
        some (2 : Int32)))
    else (
      some (1 : Int32)))
  else (
    some (0 : Int32))

set_option maxHeartbeats 4000000 in
set_option maxRecDepth 100000 in
theorem cM_key (l : Launch) (D : va_G) (cI : ClassId) (B : Nat → Nat) (μ0 : MS) {r : Int32} (h : fM_key μ0 = some r) : ∀ sz, Met l yX8_key (Cond.code yX8_key cX8_key 1 (some .int) :: Tw) rmM_key (mP D cI B μ0 sz [.ref (B 0)]) (mQi D cI B μ0 sz μ0 r) 0 0 (va_A (mW B cI μ0) sz) := by
  intro sz
  refine Met.ofW (cc := cX8_key) (maxL := 1) (ret := (some .int)) (by decide) rfl ?_
  intro p e s m args below meth c s₁ Bd hml hv
  obtain ⟨hC, hr⟩ := jC_of Bd hml
  obtain ⟨rfl, rfl, hH⟩ := m_enter hv
  have hC : jC p s m _ meth c cX8_key 1 RX8 := hC
  have hx := hC.1.1
  have hb := hC.1.2.1
  have hown := hC.1.2.2.2.1
  have hts := hC.1.2.2.2.2
  have hl := lv_entry ([.ref (B 0)]) (n := 1) (Nat.le_of_ble_eq_true rfl)
  rw [lg_entry_eq]
  generalize (lg_sl ([.ref (B 0)]) ++ List.replicate (1 - (lg_sl ([.ref (B 0)])).length) Slot.unset).toArray = ls at hl ⊢
  have hl : lv_has ls 1 [(0, .ref (B 0))] := hl
  unfold fM_key at h
  refine W_nm (fun H locs eH eL => ?_)
  have hH : mH D cI B s (va_A (mW B cI μ0) s.heap.size) μ0 H locs := by rw [eH, eL]; exact hH
  show W p l e rmM_key s m _ below meth c H locs 0 0 _ (F0 m 0 ls [])
  refine lv_aload_n hx hb dX8_key_0 rfl (lv_at hl 0 rfl) ?_
  refine lv_bipush (v := 114) hx hb dX8_key_1 (by decide) ?_
  refine lv_bipush (v := 105) hx hb dX8_key_3 (by decide) ?_
  refine lv_bipush (v := 115) hx hb dX8_key_5 (by decide) ?_
  refine lv_bipush (v := 101) hx hb dX8_key_7 (by decide) ?_
  obtain ⟨r2, h1, h⟩ := ob_some h
  refine m_calli (As := [.int (114 : Int32), .int (105 : Int32), .int (115 : Int32), .int (101 : Int32)]) (rest := []) (cM_isWordAt l D cI B μ0 (114 : Int32) (105 : Int32) (115 : Int32) (101 : Int32) h1) hC hH hl (cwV 4 hts (gV wmX8_227 wvX8_isWordAt) rfl rfl rfl hdX8_isWordAt ⟨Nat.le_of_ble_eq_true rfl, Nat.le_of_ble_eq_true rfl⟩) rfl rfl (Nat.le_of_ble_eq_true rfl) ⟨Nat.zero_le _, Nat.zero_le _⟩ dX8_key_9 (fun H locs hH => ?_)
  refine lv_if_eq (tgt := 17) hx hb dX8_key_12 (by decide) (fun c3 => ?_) (fun c3 => ?_)
  · have h := ite_t c3 h
    refine lv_aload_n hx hb dX8_key_17 rfl (lv_at hl 0 rfl) ?_
    refine lv_bipush (v := 102) hx hb dX8_key_18 (by decide) ?_
    refine lv_bipush (v := 101) hx hb dX8_key_20 (by decide) ?_
    refine lv_bipush (v := 101) hx hb dX8_key_22 (by decide) ?_
    refine lv_iconst (v := 0) hx hb dX8_key_24 (by decide) ?_
    obtain ⟨r5, h4, h⟩ := ob_some h
    refine m_calli (As := [.int (102 : Int32), .int (101 : Int32), .int (101 : Int32), .int (0 : Int32)]) (rest := []) (cM_isWordAt l D cI B μ0 (102 : Int32) (101 : Int32) (101 : Int32) (0 : Int32) h4) hC hH hl (cwV 4 hts (gV wmX8_227 wvX8_isWordAt) rfl rfl rfl hdX8_isWordAt ⟨Nat.le_of_ble_eq_true rfl, Nat.le_of_ble_eq_true rfl⟩) rfl rfl (Nat.le_of_ble_eq_true rfl) ⟨Nat.zero_le _, Nat.zero_le _⟩ dX8_key_25 (fun H locs hH => ?_)
    refine lv_if_eq (tgt := 33) hx hb dX8_key_28 (by decide) (fun c6 => ?_) (fun c6 => ?_)
    · have h := ite_t c6 h
      refine lv_aload_n hx hb dX8_key_33 rfl (lv_at hl 0 rfl) ?_
      refine lv_bipush (v := 102) hx hb dX8_key_34 (by decide) ?_
      refine lv_bipush (v := 105) hx hb dX8_key_36 (by decide) ?_
      refine lv_bipush (v := 110) hx hb dX8_key_38 (by decide) ?_
      refine lv_bipush (v := 101) hx hb dX8_key_40 (by decide) ?_
      obtain ⟨r8, h7, h⟩ := ob_some h
      refine m_calli (As := [.int (102 : Int32), .int (105 : Int32), .int (110 : Int32), .int (101 : Int32)]) (rest := []) (cM_isWordAt l D cI B μ0 (102 : Int32) (105 : Int32) (110 : Int32) (101 : Int32) h7) hC hH hl (cwV 4 hts (gV wmX8_227 wvX8_isWordAt) rfl rfl rfl hdX8_isWordAt ⟨Nat.le_of_ble_eq_true rfl, Nat.le_of_ble_eq_true rfl⟩) rfl rfl (Nat.le_of_ble_eq_true rfl) ⟨Nat.zero_le _, Nat.zero_le _⟩ dX8_key_42 (fun H locs hH => ?_)
      refine lv_if_eq (tgt := 52) hx hb dX8_key_45 (by decide) (fun c9 => ?_) (fun c9 => ?_)
      · have h := ite_t c9 h
        refine lv_iconst (v := -1) hx hb dX8_key_52 (by decide) ?_
        obtain rfl := some_i1 h
        exact m_iret (v := -1) hC hH hr rfl dX8_key_53
      · have h := ite_f c9 h
        refine lv_iconst (v := 2) hx hb dX8_key_48 (by decide) ?_
        refine lv_goto (tgt := 53) hx hb dX8_key_49 (by decide) ?_
        obtain rfl := some_i1 h
        exact m_iret (v := 2) hC hH hr rfl dX8_key_53
    · have h := ite_f c6 h
      refine lv_iconst (v := 1) hx hb dX8_key_31 (by decide) ?_
      obtain rfl := some_i1 h
      exact m_iret (v := 1) hC hH hr rfl dX8_key_32
  · have h := ite_f c3 h
    refine lv_iconst (v := 0) hx hb dX8_key_15 (by decide) ?_
    obtain rfl := some_i1 h
    exact m_iret (v := 0) hC hH hr rfl dX8_key_16

def rmM_isName : Room := { frames := 0, cells := 0, slots := 0, locals := 0 }
theorem hdX8_isName : yX8_isName.cls ≠ "java/lang/invoke/MethodHandle" ∧ yX8_isName.cls ≠ "java/lang/invoke/VarHandle" ∧ (parseMethodDescriptor yX8_isName.desc).map (fun d => d.parameters.length) = some 2 := by decide +kernel

def fM_isName (μ0 : MS) (x0 : Int32) (x1 : Int32) : Option (Int32) :=
  if x0 = (0 : Int32) then (
    if x1 = (116 : Int32) then (
      some (1 : Int32))
    else (
      if x1 = (100 : Int32) then (
        some (1 : Int32))
      else (
        if x1 = (109 : Int32) then (
          some (1 : Int32))
        else (
          some (0 : Int32)))))
  else if x0 = (1 : Int32) then (
    if x1 = (109 : Int32) then (
      some (1 : Int32))
    else (
      if x1 = (106 : Int32) then (
        some (1 : Int32))
      else (
        some (0 : Int32))))
  else (
    if x1 = (116 : Int32) then (
      some (1 : Int32))
    else (
      if x1 = (112 : Int32) then (
        some (1 : Int32))
      else (
        some (0 : Int32))))

set_option maxHeartbeats 4000000 in
set_option maxRecDepth 100000 in
theorem cM_isName (l : Launch) (D : va_G) (cI : ClassId) (B : Nat → Nat) (μ0 : MS) (x0 : Int32) (x1 : Int32) {r : Int32} (h : fM_isName μ0 x0 x1 = some r) : ∀ sz, Met l yX8_isName (Cond.code yX8_isName cX8_isName 2 (some .boolean) :: Tw) rmM_isName (mP D cI B μ0 sz [.int x0, .int x1]) (mQi D cI B μ0 sz μ0 r) 0 0 (va_A (mW B cI μ0) sz) := by
  intro sz
  refine Met.ofW (cc := cX8_isName) (maxL := 2) (ret := (some .boolean)) (by decide) rfl ?_
  intro p e s m args below meth c s₁ Bd hml hv
  obtain ⟨hC, hr⟩ := jC_of Bd hml
  obtain ⟨rfl, rfl, hH⟩ := m_enter hv
  have hC : jC p s m _ meth c cX8_isName 2 RX8 := hC
  have hx := hC.1.1
  have hb := hC.1.2.1
  have hown := hC.1.2.2.2.1
  have hts := hC.1.2.2.2.2
  have hl := lv_entry ([.int x0, .int x1]) (n := 2) (Nat.le_of_ble_eq_true rfl)
  rw [lg_entry_eq]
  generalize (lg_sl ([.int x0, .int x1]) ++ List.replicate (2 - (lg_sl ([.int x0, .int x1])).length) Slot.unset).toArray = ls at hl ⊢
  have hl : lv_has ls 2 [(0, .int x0), (1, .int x1)] := hl
  unfold fM_isName at h
  refine W_nm (fun H locs eH eL => ?_)
  have hH : mH D cI B s (va_A (mW B cI μ0) s.heap.size) μ0 H locs := by rw [eH, eL]; exact hH
  show W p l e rmM_isName s m _ below meth c H locs 0 0 _ (F0 m 0 ls [])
  refine lv_iload_n hx hb dX8_isName_0 rfl (lv_at hl 0 rfl) ?_
  by_cases c1 : x0 = (0 : Int32)
  · have h := ite_t c1 h
    refine lv_lsw (tgt := 28) (off := 27) hx hb (0) c1 dX8_isName_1 (by decide) (by decide) (by decide) ?_
    refine lv_iload_n hx hb dX8_isName_28 rfl (lv_at hl 1 rfl) ?_
    refine lv_bipush (v := 116) hx hb dX8_isName_29 (by decide) ?_
    refine lv_icmp_eq (tgt := 46) hx hb dX8_isName_31 (by decide) (fun c2 => ?_) (fun c2 => ?_)
    · have h := ite_t c2 h
      refine lv_iconst (v := 1) hx hb dX8_isName_46 (by decide) ?_
      refine lv_goto (tgt := 51) hx hb dX8_isName_47 (by decide) ?_
      obtain rfl := some_i1 h
      exact m_iret (v := 1) hC hH hr (by decide) dX8_isName_51
    · have h := ite_f c2 h
      refine lv_iload_n hx hb dX8_isName_34 rfl (lv_at hl 1 rfl) ?_
      refine lv_bipush (v := 100) hx hb dX8_isName_35 (by decide) ?_
      refine lv_icmp_eq (tgt := 46) hx hb dX8_isName_37 (by decide) (fun c3 => ?_) (fun c3 => ?_)
      · have h := ite_t c3 h
        refine lv_iconst (v := 1) hx hb dX8_isName_46 (by decide) ?_
        refine lv_goto (tgt := 51) hx hb dX8_isName_47 (by decide) ?_
        obtain rfl := some_i1 h
        exact m_iret (v := 1) hC hH hr (by decide) dX8_isName_51
      · have h := ite_f c3 h
        refine lv_iload_n hx hb dX8_isName_40 rfl (lv_at hl 1 rfl) ?_
        refine lv_bipush (v := 109) hx hb dX8_isName_41 (by decide) ?_
        refine lv_icmp_ne (tgt := 50) hx hb dX8_isName_43 (by decide) (fun c4 => ?_) (fun c4 => ?_)
        · have h := ite_f c4 h
          refine lv_iconst (v := 0) hx hb dX8_isName_50 (by decide) ?_
          obtain rfl := some_i1 h
          exact m_iret (v := 0) hC hH hr (by decide) dX8_isName_51
        · have h := ite_t c4 h
          refine lv_iconst (v := 1) hx hb dX8_isName_46 (by decide) ?_
          refine lv_goto (tgt := 51) hx hb dX8_isName_47 (by decide) ?_
          obtain rfl := some_i1 h
          exact m_iret (v := 1) hC hH hr (by decide) dX8_isName_51
  · have h := ite_f c1 h
    by_cases c5 : x0 = (1 : Int32)
    · have h := ite_t c5 h
      refine lv_lsw (tgt := 52) (off := 51) hx hb (1) c5 dX8_isName_1 (by decide) (by decide) (by decide) ?_
      refine lv_iload_n hx hb dX8_isName_52 rfl (lv_at hl 1 rfl) ?_
      refine lv_bipush (v := 109) hx hb dX8_isName_53 (by decide) ?_
      refine lv_icmp_eq (tgt := 64) hx hb dX8_isName_55 (by decide) (fun c6 => ?_) (fun c6 => ?_)
      · have h := ite_t c6 h
        refine lv_iconst (v := 1) hx hb dX8_isName_64 (by decide) ?_
        refine lv_goto (tgt := 69) hx hb dX8_isName_65 (by decide) ?_
        obtain rfl := some_i1 h
        exact m_iret (v := 1) hC hH hr (by decide) dX8_isName_69
      · have h := ite_f c6 h
        refine lv_iload_n hx hb dX8_isName_58 rfl (lv_at hl 1 rfl) ?_
        refine lv_bipush (v := 106) hx hb dX8_isName_59 (by decide) ?_
        refine lv_icmp_ne (tgt := 68) hx hb dX8_isName_61 (by decide) (fun c7 => ?_) (fun c7 => ?_)
        · have h := ite_f c7 h
          refine lv_iconst (v := 0) hx hb dX8_isName_68 (by decide) ?_
          obtain rfl := some_i1 h
          exact m_iret (v := 0) hC hH hr (by decide) dX8_isName_69
        · have h := ite_t c7 h
          refine lv_iconst (v := 1) hx hb dX8_isName_64 (by decide) ?_
          refine lv_goto (tgt := 69) hx hb dX8_isName_65 (by decide) ?_
          obtain rfl := some_i1 h
          exact m_iret (v := 1) hC hH hr (by decide) dX8_isName_69
    · have h := ite_f c5 h
      refine lv_lookup (tgt := 70) (off := 69) hx hb dX8_isName_1 (by decide) ((lv_osw c1 (by decide)).trans ((lv_osw c5 (by decide)).trans rfl)) (by decide) ?_
      refine lv_iload_n hx hb dX8_isName_70 rfl (lv_at hl 1 rfl) ?_
      refine lv_bipush (v := 116) hx hb dX8_isName_71 (by decide) ?_
      refine lv_icmp_eq (tgt := 82) hx hb dX8_isName_73 (by decide) (fun c8 => ?_) (fun c8 => ?_)
      · have h := ite_t c8 h
        refine lv_iconst (v := 1) hx hb dX8_isName_82 (by decide) ?_
        refine lv_goto (tgt := 87) hx hb dX8_isName_83 (by decide) ?_
        obtain rfl := some_i1 h
        exact m_iret (v := 1) hC hH hr (by decide) dX8_isName_87
      · have h := ite_f c8 h
        refine lv_iload_n hx hb dX8_isName_76 rfl (lv_at hl 1 rfl) ?_
        refine lv_bipush (v := 112) hx hb dX8_isName_77 (by decide) ?_
        refine lv_icmp_ne (tgt := 86) hx hb dX8_isName_79 (by decide) (fun c9 => ?_) (fun c9 => ?_)
        · have h := ite_f c9 h
          refine lv_iconst (v := 0) hx hb dX8_isName_86 (by decide) ?_
          obtain rfl := some_i1 h
          exact m_iret (v := 0) hC hH hr (by decide) dX8_isName_87
        · have h := ite_t c9 h
          refine lv_iconst (v := 1) hx hb dX8_isName_82 (by decide) ?_
          refine lv_goto (tgt := 87) hx hb dX8_isName_83 (by decide) ?_
          obtain rfl := some_i1 h
          exact m_iret (v := 1) hC hH hr (by decide) dX8_isName_87

def rmM_step : Room := { frames := 0, cells := 0, slots := 0, locals := 0 }
theorem hdX8_step : yX8_step.cls = RX8 ∧ yX8_step.cls ≠ "java/lang/invoke/MethodHandle" ∧ yX8_step.cls ≠ "java/lang/invoke/VarHandle" ∧ (parseMethodDescriptor yX8_step.desc).map (fun d => d.parameters.length) = some 2 := by decide +kernel

def fM_step (μ0 : MS) (x1 : Int32) (x2 : Int32) : Option (MS) :=
  ck ((μ0 0 26) + ((2 : Int32) * (μ0 0 25))) (3076) <|
  bnd (up2 μ0 1 (((μ0 0 26) + ((2 : Int32) * (μ0 0 25)))).toNatClampNeg x1) fun μ2 =>
  ck (((μ2 0 26) + ((2 : Int32) * (μ2 0 25))) + (1 : Int32)) (3076) <|
  bnd (up2 μ2 1 ((((μ2 0 26) + ((2 : Int32) * (μ2 0 25))) + (1 : Int32))).toNatClampNeg x2) fun μ5 =>
  bnd (up2 μ5 0 25 ((μ5 0 25) + (1 : Int32))) fun μ7 =>
  some μ7

set_option maxHeartbeats 4000000 in
set_option maxRecDepth 100000 in
theorem cM_step (l : Launch) (D : va_G) (cI : ClassId) (B : Nat → Nat) (μ0 : MS) (x1 : Int32) (x2 : Int32) {μr : MS} (h : fM_step μ0 x1 x2 = some μr) : ∀ sz, Met l yX8_step (Cond.code yX8_step cX8_step 3 none :: Tw) rmM_step (mP D cI B μ0 sz [.ref (B 0), .int x1, .int x2]) (mQv D cI B μ0 sz μr) 0 0 (va_A (mW B cI μ0) sz) := by
  intro sz
  refine Met.ofW (cc := cX8_step) (maxL := 3) (ret := (none)) (by decide) rfl ?_
  intro p e s m args below meth c s₁ Bd hml hv
  obtain ⟨hC, hr⟩ := jC_of Bd hml
  obtain ⟨rfl, rfl, hH⟩ := m_enter hv
  have hC : jC p s m _ meth c cX8_step 3 RX8 := hC
  have hx := hC.1.1
  have hb := hC.1.2.1
  have hown := hC.1.2.2.2.1
  have hts := hC.1.2.2.2.2
  have hl := lv_entry ([.ref (B 0), .int x1, .int x2]) (n := 3) (Nat.le_of_ble_eq_true rfl)
  rw [lg_entry_eq]
  generalize (lg_sl ([.ref (B 0), .int x1, .int x2]) ++ List.replicate (3 - (lg_sl ([.ref (B 0), .int x1, .int x2])).length) Slot.unset).toArray = ls at hl ⊢
  have hl : lv_has ls 3 [(0, .ref (B 0)), (1, .int x1), (2, .int x2)] := hl
  unfold fM_step at h
  refine W_nm (fun H locs eH eL => ?_)
  have hH : mH D cI B s (va_A (mW B cI μ0) s.heap.size) μ0 H locs := by rw [eH, eL]; exact hH
  show W p l e rmM_step s m _ below meth c H locs 0 0 _ (F0 m 0 ls [])
  refine lv_aload_n hx hb dX8_step_0 rfl (lv_at hl 0 rfl) ?_
  refine m_get hC hH 0 (by decide) wfX8_7 rfl rfl dX8_step_1 ?_
  refine lv_aload_n hx hb dX8_step_4 rfl (lv_at hl 0 rfl) ?_
  refine m_get hC hH 26 (by decide) wfX8_231 rfl rfl dX8_step_5 ?_
  refine lv_iconst (v := 2) hx hb dX8_step_8 (by decide) ?_
  refine lv_aload_n hx hb dX8_step_9 rfl (lv_at hl 0 rfl) ?_
  refine m_get hC hH 25 (by decide) wfX8_234 rfl rfl dX8_step_10 ?_
  refine lv_imul hx hb dX8_step_13 ?_
  refine lv_iadd hx hb dX8_step_14 ?_
  refine lv_iload_n hx hb dX8_step_15 rfl (lv_at hl 1 rfl) ?_
  obtain ⟨i1, h⟩ := ck_some h
  obtain ⟨μ2, e3, h⟩ := bnd_some h
  refine m_ast hC hH (a := 1) rfl rfl e3 i1 dX8_step_16 (fun H locs hH => ?_)
  refine lv_aload_n hx hb dX8_step_17 rfl (lv_at hl 0 rfl) ?_
  refine m_get hC hH 0 (by decide) wfX8_7 rfl rfl dX8_step_18 ?_
  refine lv_aload_n hx hb dX8_step_21 rfl (lv_at hl 0 rfl) ?_
  refine m_get hC hH 26 (by decide) wfX8_231 rfl rfl dX8_step_22 ?_
  refine lv_iconst (v := 2) hx hb dX8_step_25 (by decide) ?_
  refine lv_aload_n hx hb dX8_step_26 rfl (lv_at hl 0 rfl) ?_
  refine m_get hC hH 25 (by decide) wfX8_234 rfl rfl dX8_step_27 ?_
  refine lv_imul hx hb dX8_step_30 ?_
  refine lv_iadd hx hb dX8_step_31 ?_
  refine lv_iconst (v := 1) hx hb dX8_step_32 (by decide) ?_
  refine lv_iadd hx hb dX8_step_33 ?_
  refine lv_iload_n hx hb dX8_step_34 rfl (lv_at hl 2 rfl) ?_
  obtain ⟨i4, h⟩ := ck_some h
  obtain ⟨μ5, e6, h⟩ := bnd_some h
  refine m_ast hC hH (a := 1) rfl rfl e6 i4 dX8_step_35 (fun H locs hH => ?_)
  refine lv_aload_n hx hb dX8_step_36 rfl (lv_at hl 0 rfl) ?_
  refine lv_dup hx hb dX8_step_37 rfl ?_
  refine m_get hC hH 25 (by decide) wfX8_234 rfl rfl dX8_step_38 ?_
  refine lv_iconst (v := 1) hx hb dX8_step_41 (by decide) ?_
  refine lv_iadd hx hb dX8_step_42 ?_
  obtain ⟨μ7, e8, h⟩ := bnd_some h
  refine m_put (ty := .int) hC hH 25 (by decide) wfX8_234 rfl rfl (by decide +kernel) rfl rfl e8 (mF_25 B _ _) dX8_step_43 (fun H locs hH => ?_)
  obtain rfl := some_i1 h
  exact m_vret hC hH hr dX8_step_46
