theorem some_i1 {α : Type} {a c : α} (h : some a = some c) : c = a := (Option.some.inj h).symm
theorem some_i2 {α β : Type} {a c : α} {b d : β} (h : some (a, b) = some (c, d)) : c = a ∧ d = b := by
  have h1 := Option.some.inj h
  exact ⟨(congrArg Prod.fst h1).symm, (congrArg Prod.snd h1).symm⟩
theorem W_nm {p : Program} {l : Launch} {e : Env} {R : Room} {s : State} {m : MethodId} {args : Array Value} {below : List Frame} {meth : Method} {c : Code} {cells slots : Nat} {Q : State → Prop} {g : JFrame} (h : ∀ (H : Heap) (locs : List Loc), H = s.heap → locs = [] → W p l e R s m args below meth c H locs cells slots Q g) : W p l e R s m args below meth c s.heap [] cells slots Q g := h _ _ rfl rfl
def zb {α : Type} (v : Int32) (k : Option α) : Option α := if v = 0 ∨ v = 1 then k else none
theorem zb_some {α : Type} {v : Int32} {k : Option α} {r : α} (h : zb v k = some r) : narrow .boolean (.int v) = .int v ∧ k = some r := by
  unfold zb at h
  by_cases c : v = 0 ∨ v = 1
  · rw [if_pos c] at h
    refine ⟨?_, h⟩
    rcases c with rfl | rfl <;> decide
  · rw [if_neg c] at h; cases h
def rmG (d : Nat) : Room := { frames := 4 + d, cells := 0, slots := 0, locals := 100 + 40 * d }
theorem rmG_s (d : Nat) {k : Nat} (h : k ≤ 21) : (rmG d).frames + 1 ≤ (rmG (d + 1)).frames ∧ 8 + (k + 11) + (rmG d).locals ≤ (rmG (d + 1)).locals := by
  constructor
  · show 4 + d + 1 ≤ 4 + (d + 1); omega
  · show 8 + (k + 11) + (100 + 40 * d) ≤ 100 + 40 * (d + 1); omega
theorem rmG_c (d : Nat) {a b : Nat} (h : a ≤ 5) (h2 : b ≤ 140) : a ≤ (rmG (d + 1)).frames ∧ b ≤ (rmG (d + 1)).locals := by
  constructor
  · show a ≤ 4 + (d + 1); omega
  · show b ≤ 100 + 40 * (d + 1); omega

def rmM_isIn : Room := { frames := 0, cells := 0, slots := 0, locals := 0 }
theorem hdX8_isIn : yX8_isIn.cls ≠ "java/lang/invoke/MethodHandle" ∧ yX8_isIn.cls ≠ "java/lang/invoke/VarHandle" ∧ (parseMethodDescriptor yX8_isIn.desc).map (fun d => d.parameters.length) = some 3 := by decide +kernel

def fM_isIn (μ0 : MS) (x0 : Int64) (x2 : Int64) (x4 : Int64) : Option (Int32) :=
  if (lg_cmp x0 x2) < 0 then (
    some (0 : Int32))
  else (
    if 0 < (lg_cmp x0 x4) then (
      some (0 : Int32))
    else (
      some (1 : Int32)))

set_option maxHeartbeats 4000000 in
set_option maxRecDepth 100000 in
theorem cM_isIn (l : Launch) (D : va_G) (cI : ClassId) (B : Nat → Nat) (μ0 : MS) (x0 : Int64) (x2 : Int64) (x4 : Int64) {r : Int32} (h : fM_isIn μ0 x0 x2 x4 = some r) : ∀ sz, Met l yX8_isIn (Cond.code yX8_isIn cX8_isIn 6 (some .boolean) :: Tw) rmM_isIn (mP D cI B μ0 sz [.long x0, .long x2, .long x4]) (mQi D cI B μ0 sz μ0 r) 0 0 (va_A (mW B cI μ0) sz) := by
  intro sz
  refine Met.ofW (cc := cX8_isIn) (maxL := 6) (ret := (some .boolean)) (by decide) rfl ?_
  intro p e s m args below meth c s₁ Bd hml hv
  obtain ⟨hC, hr⟩ := jC_of Bd hml
  obtain ⟨rfl, rfl, hH⟩ := m_enter hv
  have hC : jC p s m _ meth c cX8_isIn 6 RX8 := hC
  have hx := hC.1.1
  have hb := hC.1.2.1
  have hown := hC.1.2.2.2.1
  have hts := hC.1.2.2.2.2
  have hl := lv_entry ([.long x0, .long x2, .long x4]) (n := 6) (Nat.le_of_ble_eq_true rfl)
  rw [lg_entry_eq]
  generalize (lg_sl ([.long x0, .long x2, .long x4]) ++ List.replicate (6 - (lg_sl ([.long x0, .long x2, .long x4])).length) Slot.unset).toArray = ls at hl ⊢
  have hl : lv_has ls 6 [(0, .long x0), (2, .long x2), (4, .long x4)] := hl
  unfold fM_isIn at h
  refine W_nm (fun H locs eH eL => ?_)
  have hH : mH D cI B s (va_A (mW B cI μ0) s.heap.size) μ0 H locs := by rw [eH, eL]; exact hH
  show W p l e rmM_isIn s m _ below meth c H locs 0 0 _ (F0 m 0 ls [])
  refine lv_lload_n hx hb dX8_isIn_0 rfl (lv_at hl 0 rfl) ?_
  refine lv_lload_n hx hb dX8_isIn_1 rfl (lv_at hl 1 rfl) ?_
  refine W.lcmp hx hb dX8_isIn_2 ?_
  refine lv_if_lt (tgt := 17) hx hb dX8_isIn_3 (by decide) (fun c1 => ?_) (fun c1 => ?_)
  · have h := ite_t c1 h
    refine lv_iconst (v := 0) hx hb dX8_isIn_17 (by decide) ?_
    obtain rfl := some_i1 h
    exact m_iret (v := 0) hC hH hr (by decide) dX8_isIn_18
  · have h := ite_f c1 h
    refine lv_lload_n hx hb dX8_isIn_6 rfl (lv_at hl 0 rfl) ?_
    refine lv_lload hx hb dX8_isIn_7 (lv_at hl 2 rfl) ?_
    refine W.lcmp hx hb dX8_isIn_9 ?_
    refine lv_if_gt (tgt := 17) hx hb dX8_isIn_10 (by decide) (fun c2 => ?_) (fun c2 => ?_)
    · have h := ite_t c2 h
      refine lv_iconst (v := 0) hx hb dX8_isIn_17 (by decide) ?_
      obtain rfl := some_i1 h
      exact m_iret (v := 0) hC hH hr (by decide) dX8_isIn_18
    · have h := ite_f c2 h
      refine lv_iconst (v := 1) hx hb dX8_isIn_13 (by decide) ?_
      refine lv_goto (tgt := 18) hx hb dX8_isIn_14 (by decide) ?_
      obtain rfl := some_i1 h
      exact m_iret (v := 1) hC hH hr (by decide) dX8_isIn_18

def rmM_orNone : Room := { frames := 0, cells := 0, slots := 0, locals := 0 }
theorem hdX8_orNone : yX8_orNone.cls ≠ "java/lang/invoke/MethodHandle" ∧ yX8_orNone.cls ≠ "java/lang/invoke/VarHandle" ∧ (parseMethodDescriptor yX8_orNone.desc).map (fun d => d.parameters.length) = some 1 := by decide +kernel

def fM_orNone (μ0 : MS) (x0 : Int32) : Option (Int32) :=
  if 0 ≤ x0 then (
    some x0)
  else (
    some (-1000000005 : Int32))

set_option maxHeartbeats 4000000 in
set_option maxRecDepth 100000 in
theorem cM_orNone (l : Launch) (D : va_G) (cI : ClassId) (B : Nat → Nat) (μ0 : MS) (x0 : Int32) {r : Int32} (h : fM_orNone μ0 x0 = some r) : ∀ sz, Met l yX8_orNone (Cond.code yX8_orNone cX8_orNone 1 (some .int) :: Tw) rmM_orNone (mP D cI B μ0 sz [.int x0]) (mQi D cI B μ0 sz μ0 r) 0 0 (va_A (mW B cI μ0) sz) := by
  intro sz
  refine Met.ofW (cc := cX8_orNone) (maxL := 1) (ret := (some .int)) (by decide) rfl ?_
  intro p e s m args below meth c s₁ Bd hml hv
  obtain ⟨hC, hr⟩ := jC_of Bd hml
  obtain ⟨rfl, rfl, hH⟩ := m_enter hv
  have hC : jC p s m _ meth c cX8_orNone 1 RX8 := hC
  have hx := hC.1.1
  have hb := hC.1.2.1
  have hown := hC.1.2.2.2.1
  have hts := hC.1.2.2.2.2
  have hl := lv_entry ([.int x0]) (n := 1) (Nat.le_of_ble_eq_true rfl)
  rw [lg_entry_eq]
  generalize (lg_sl ([.int x0]) ++ List.replicate (1 - (lg_sl ([.int x0])).length) Slot.unset).toArray = ls at hl ⊢
  have hl : lv_has ls 1 [(0, .int x0)] := hl
  unfold fM_orNone at h
  refine W_nm (fun H locs eH eL => ?_)
  have hH : mH D cI B s (va_A (mW B cI μ0) s.heap.size) μ0 H locs := by rw [eH, eL]; exact hH
  show W p l e rmM_orNone s m _ below meth c H locs 0 0 _ (F0 m 0 ls [])
  refine lv_iload_n hx hb dX8_orNone_0 rfl (lv_at hl 0 rfl) ?_
  refine lv_if_ge (tgt := 9) hx hb dX8_orNone_1 (by decide) (fun c1 => ?_) (fun c1 => ?_)
  · have h := ite_t c1 h
    refine lv_iload_n hx hb dX8_orNone_9 rfl (lv_at hl 0 rfl) ?_
    obtain rfl := some_i1 h
    exact m_iret hC hH hr rfl dX8_orNone_10
  · have h := ite_f c1 h
    refine lv_ldc (v := -1000000005) hx hb hown (hts _ wkX8_74) dX8_orNone_4 ?_
    refine lv_goto (tgt := 10) hx hb dX8_orNone_6 (by decide) ?_
    obtain rfl := some_i1 h
    exact m_iret (v := -1000000005) hC hH hr rfl dX8_orNone_10

def rmM_within : Room := { frames := 0, cells := 0, slots := 0, locals := 0 }
theorem hdX8_within : yX8_within.cls ≠ "java/lang/invoke/MethodHandle" ∧ yX8_within.cls ≠ "java/lang/invoke/VarHandle" ∧ (parseMethodDescriptor yX8_within.desc).map (fun d => d.parameters.length) = some 2 := by decide +kernel

def fM_within (μ0 : MS) (x0 : Int32) (x1 : Int32) : Option (Int32) :=
  if 0 ≤ x0 then (
    if x0 ≤ x1 then (
      some x0)
    else (
      some x1))
  else (
    some (0 : Int32))

set_option maxHeartbeats 4000000 in
set_option maxRecDepth 100000 in
theorem cM_within (l : Launch) (D : va_G) (cI : ClassId) (B : Nat → Nat) (μ0 : MS) (x0 : Int32) (x1 : Int32) {r : Int32} (h : fM_within μ0 x0 x1 = some r) : ∀ sz, Met l yX8_within (Cond.code yX8_within cX8_within 2 (some .int) :: Tw) rmM_within (mP D cI B μ0 sz [.int x0, .int x1]) (mQi D cI B μ0 sz μ0 r) 0 0 (va_A (mW B cI μ0) sz) := by
  intro sz
  refine Met.ofW (cc := cX8_within) (maxL := 2) (ret := (some .int)) (by decide) rfl ?_
  intro p e s m args below meth c s₁ Bd hml hv
  obtain ⟨hC, hr⟩ := jC_of Bd hml
  obtain ⟨rfl, rfl, hH⟩ := m_enter hv
  have hC : jC p s m _ meth c cX8_within 2 RX8 := hC
  have hx := hC.1.1
  have hb := hC.1.2.1
  have hown := hC.1.2.2.2.1
  have hts := hC.1.2.2.2.2
  have hl := lv_entry ([.int x0, .int x1]) (n := 2) (Nat.le_of_ble_eq_true rfl)
  rw [lg_entry_eq]
  generalize (lg_sl ([.int x0, .int x1]) ++ List.replicate (2 - (lg_sl ([.int x0, .int x1])).length) Slot.unset).toArray = ls at hl ⊢
  have hl : lv_has ls 2 [(0, .int x0), (1, .int x1)] := hl
  unfold fM_within at h
  refine W_nm (fun H locs eH eL => ?_)
  have hH : mH D cI B s (va_A (mW B cI μ0) s.heap.size) μ0 H locs := by rw [eH, eL]; exact hH
  show W p l e rmM_within s m _ below meth c H locs 0 0 _ (F0 m 0 ls [])
  refine lv_iload_n hx hb dX8_within_0 rfl (lv_at hl 0 rfl) ?_
  refine lv_if_ge (tgt := 8) hx hb dX8_within_1 (by decide) (fun c1 => ?_) (fun c1 => ?_)
  · have h := ite_t c1 h
    refine lv_iload_n hx hb dX8_within_8 rfl (lv_at hl 0 rfl) ?_
    refine lv_iload_n hx hb dX8_within_9 rfl (lv_at hl 1 rfl) ?_
    refine lv_icmp_le (tgt := 17) hx hb dX8_within_10 (by decide) (fun c2 => ?_) (fun c2 => ?_)
    · have h := ite_t c2 h
      refine lv_iload_n hx hb dX8_within_17 rfl (lv_at hl 0 rfl) ?_
      obtain rfl := some_i1 h
      exact m_iret hC hH hr rfl dX8_within_18
    · have h := ite_f c2 h
      refine lv_iload_n hx hb dX8_within_13 rfl (lv_at hl 1 rfl) ?_
      refine lv_goto (tgt := 18) hx hb dX8_within_14 (by decide) ?_
      obtain rfl := some_i1 h
      exact m_iret hC hH hr rfl dX8_within_18
  · have h := ite_f c1 h
    refine lv_iconst (v := 0) hx hb dX8_within_4 (by decide) ?_
    refine lv_goto (tgt := 18) hx hb dX8_within_5 (by decide) ?_
    obtain rfl := some_i1 h
    exact m_iret (v := 0) hC hH hr rfl dX8_within_18

def rmM_off : Room := { frames := 0, cells := 0, slots := 0, locals := 0 }
theorem hdX8_off : yX8_off.cls ≠ "java/lang/invoke/MethodHandle" ∧ yX8_off.cls ≠ "java/lang/invoke/VarHandle" ∧ (parseMethodDescriptor yX8_off.desc).map (fun d => d.parameters.length) = some 2 := by decide +kernel

def fM_off (μ0 : MS) (x0 : Int32) (x1 : Int32) : Option (Int32) :=
  if x1 ≤ x0 then (
    some (x0 - x1))
  else (
    some (x1 - x0))

set_option maxHeartbeats 4000000 in
set_option maxRecDepth 100000 in
theorem cM_off (l : Launch) (D : va_G) (cI : ClassId) (B : Nat → Nat) (μ0 : MS) (x0 : Int32) (x1 : Int32) {r : Int32} (h : fM_off μ0 x0 x1 = some r) : ∀ sz, Met l yX8_off (Cond.code yX8_off cX8_off 2 (some .int) :: Tw) rmM_off (mP D cI B μ0 sz [.int x0, .int x1]) (mQi D cI B μ0 sz μ0 r) 0 0 (va_A (mW B cI μ0) sz) := by
  intro sz
  refine Met.ofW (cc := cX8_off) (maxL := 2) (ret := (some .int)) (by decide) rfl ?_
  intro p e s m args below meth c s₁ Bd hml hv
  obtain ⟨hC, hr⟩ := jC_of Bd hml
  obtain ⟨rfl, rfl, hH⟩ := m_enter hv
  have hC : jC p s m _ meth c cX8_off 2 RX8 := hC
  have hx := hC.1.1
  have hb := hC.1.2.1
  have hown := hC.1.2.2.2.1
  have hts := hC.1.2.2.2.2
  have hl := lv_entry ([.int x0, .int x1]) (n := 2) (Nat.le_of_ble_eq_true rfl)
  rw [lg_entry_eq]
  generalize (lg_sl ([.int x0, .int x1]) ++ List.replicate (2 - (lg_sl ([.int x0, .int x1])).length) Slot.unset).toArray = ls at hl ⊢
  have hl : lv_has ls 2 [(0, .int x0), (1, .int x1)] := hl
  unfold fM_off at h
  refine W_nm (fun H locs eH eL => ?_)
  have hH : mH D cI B s (va_A (mW B cI μ0) s.heap.size) μ0 H locs := by rw [eH, eL]; exact hH
  show W p l e rmM_off s m _ below meth c H locs 0 0 _ (F0 m 0 ls [])
  refine lv_iload_n hx hb dX8_off_0 rfl (lv_at hl 0 rfl) ?_
  refine lv_iload_n hx hb dX8_off_1 rfl (lv_at hl 1 rfl) ?_
  refine lv_icmp_ge (tgt := 11) hx hb dX8_off_2 (by decide) (fun c1 => ?_) (fun c1 => ?_)
  · have h := ite_t c1 h
    refine lv_iload_n hx hb dX8_off_11 rfl (lv_at hl 0 rfl) ?_
    refine lv_iload_n hx hb dX8_off_12 rfl (lv_at hl 1 rfl) ?_
    refine lv_isub hx hb dX8_off_13 ?_
    obtain rfl := some_i1 h
    exact m_iret hC hH hr rfl dX8_off_14
  · have h := ite_f c1 h
    refine lv_iload_n hx hb dX8_off_5 rfl (lv_at hl 1 rfl) ?_
    refine lv_iload_n hx hb dX8_off_6 rfl (lv_at hl 0 rfl) ?_
    refine lv_isub hx hb dX8_off_7 ?_
    refine lv_goto (tgt := 14) hx hb dX8_off_8 (by decide) ?_
    obtain rfl := some_i1 h
    exact m_iret hC hH hr rfl dX8_off_14

def rmM_becomes : Room := { frames := 0, cells := 0, slots := 0, locals := 0 }
theorem hdX8_becomes : yX8_becomes.cls = RX8 ∧ yX8_becomes.cls ≠ "java/lang/invoke/MethodHandle" ∧ yX8_becomes.cls ≠ "java/lang/invoke/VarHandle" ∧ (parseMethodDescriptor yX8_becomes.desc).map (fun d => d.parameters.length) = some 2 := by decide +kernel

def fM_becomes (μ0 : MS) (x1 : Int32) (x2 : Int32) : Option (Int32 × MS) :=
  ck x1 (3076) <|
  bnd (μ0 1 (x1).toNatClampNeg) fun v2 =>
  ck x1 (3076) <|
  bnd (up2 μ0 1 (x1).toNatClampNeg x2) fun μ5 =>
  some (v2, μ5)

set_option maxHeartbeats 4000000 in
set_option maxRecDepth 100000 in
theorem cM_becomes (l : Launch) (D : va_G) (cI : ClassId) (B : Nat → Nat) (μ0 : MS) (x1 : Int32) (x2 : Int32) {r : Int32} {μr : MS} (h : fM_becomes μ0 x1 x2 = some (r, μr)) : ∀ sz, Met l yX8_becomes (Cond.code yX8_becomes cX8_becomes 4 (some .int) :: Tw) rmM_becomes (mP D cI B μ0 sz [.ref (B 0), .int x1, .int x2]) (mQi D cI B μ0 sz μr r) 0 0 (va_A (mW B cI μ0) sz) := by
  intro sz
  refine Met.ofW (cc := cX8_becomes) (maxL := 4) (ret := (some .int)) (by decide) rfl ?_
  intro p e s m args below meth c s₁ Bd hml hv
  obtain ⟨hC, hr⟩ := jC_of Bd hml
  obtain ⟨rfl, rfl, hH⟩ := m_enter hv
  have hC : jC p s m _ meth c cX8_becomes 4 RX8 := hC
  have hx := hC.1.1
  have hb := hC.1.2.1
  have hown := hC.1.2.2.2.1
  have hts := hC.1.2.2.2.2
  have hl := lv_entry ([.ref (B 0), .int x1, .int x2]) (n := 4) (Nat.le_of_ble_eq_true rfl)
  rw [lg_entry_eq]
  generalize (lg_sl ([.ref (B 0), .int x1, .int x2]) ++ List.replicate (4 - (lg_sl ([.ref (B 0), .int x1, .int x2])).length) Slot.unset).toArray = ls at hl ⊢
  have hl : lv_has ls 4 [(0, .ref (B 0)), (1, .int x1), (2, .int x2)] := hl
  unfold fM_becomes at h
  refine W_nm (fun H locs eH eL => ?_)
  have hH : mH D cI B s (va_A (mW B cI μ0) s.heap.size) μ0 H locs := by rw [eH, eL]; exact hH
  show W p l e rmM_becomes s m _ below meth c H locs 0 0 _ (F0 m 0 ls [])
  refine lv_aload_n hx hb dX8_becomes_0 rfl (lv_at hl 0 rfl) ?_
  refine m_get hC hH 0 (by decide) wfX8_7 rfl rfl dX8_becomes_1 ?_
  refine lv_iload_n hx hb dX8_becomes_4 rfl (lv_at hl 1 rfl) ?_
  obtain ⟨i1, h⟩ := ck_some h
  refine m_ald hC hH (a := 1) rfl rfl i1 dX8_becomes_5 ?_
  obtain ⟨v2, e3, h⟩ := bnd_some h
  refine lv_tope e3 ?_
  refine lv_istore_n (lv' := [(3, .int v2), (0, .ref (B 0)), (1, .int x1), (2, .int x2)]) hx hb dX8_becomes_6 rfl hl (by decide) rfl (fun ls hl => ?_)
  refine lv_aload_n hx hb dX8_becomes_7 rfl (lv_at hl 1 rfl) ?_
  refine m_get hC hH 0 (by decide) wfX8_7 rfl rfl dX8_becomes_8 ?_
  refine lv_iload_n hx hb dX8_becomes_11 rfl (lv_at hl 2 rfl) ?_
  refine lv_iload_n hx hb dX8_becomes_12 rfl (lv_at hl 3 rfl) ?_
  obtain ⟨i4, h⟩ := ck_some h
  obtain ⟨μ5, e6, h⟩ := bnd_some h
  refine m_ast hC hH (a := 1) rfl rfl e6 i4 dX8_becomes_13 (fun H locs hH => ?_)
  refine lv_iload_n hx hb dX8_becomes_14 rfl (lv_at hl 0 rfl) ?_
  obtain ⟨rfl, rfl⟩ := some_i2 h
  exact m_iret hC hH hr rfl dX8_becomes_15

def rmM_textAt : Room := { frames := 0, cells := 0, slots := 0, locals := 0 }
theorem hdX8_textAt : yX8_textAt.cls = RX8 ∧ yX8_textAt.cls ≠ "java/lang/invoke/MethodHandle" ∧ yX8_textAt.cls ≠ "java/lang/invoke/VarHandle" ∧ (parseMethodDescriptor yX8_textAt.desc).map (fun d => d.parameters.length) = some 1 := by decide +kernel

def fM_textAt (μ0 : MS) (x1 : Int32) : Option (Int32) :=
  some ((76 : Int32) + ((200 : Int32) * x1))

set_option maxHeartbeats 4000000 in
set_option maxRecDepth 100000 in
theorem cM_textAt (l : Launch) (D : va_G) (cI : ClassId) (B : Nat → Nat) (μ0 : MS) (x1 : Int32) {r : Int32} (h : fM_textAt μ0 x1 = some r) : ∀ sz, Met l yX8_textAt (Cond.code yX8_textAt cX8_textAt 2 (some .int) :: Tw) rmM_textAt (mP D cI B μ0 sz [.ref (B 0), .int x1]) (mQi D cI B μ0 sz μ0 r) 0 0 (va_A (mW B cI μ0) sz) := by
  intro sz
  refine Met.ofW (cc := cX8_textAt) (maxL := 2) (ret := (some .int)) (by decide) rfl ?_
  intro p e s m args below meth c s₁ Bd hml hv
  obtain ⟨hC, hr⟩ := jC_of Bd hml
  obtain ⟨rfl, rfl, hH⟩ := m_enter hv
  have hC : jC p s m _ meth c cX8_textAt 2 RX8 := hC
  have hx := hC.1.1
  have hb := hC.1.2.1
  have hown := hC.1.2.2.2.1
  have hts := hC.1.2.2.2.2
  have hl := lv_entry ([.ref (B 0), .int x1]) (n := 2) (Nat.le_of_ble_eq_true rfl)
  rw [lg_entry_eq]
  generalize (lg_sl ([.ref (B 0), .int x1]) ++ List.replicate (2 - (lg_sl ([.ref (B 0), .int x1])).length) Slot.unset).toArray = ls at hl ⊢
  have hl : lv_has ls 2 [(0, .ref (B 0)), (1, .int x1)] := hl
  unfold fM_textAt at h
  refine W_nm (fun H locs eH eL => ?_)
  have hH : mH D cI B s (va_A (mW B cI μ0) s.heap.size) μ0 H locs := by rw [eH, eL]; exact hH
  show W p l e rmM_textAt s m _ below meth c H locs 0 0 _ (F0 m 0 ls [])
  refine lv_bipush (v := 76) hx hb dX8_textAt_0 (by decide) ?_
  refine lv_sipush (v := 200) hx hb dX8_textAt_2 (by decide) ?_
  refine lv_iload_n hx hb dX8_textAt_5 rfl (lv_at hl 1 rfl) ?_
  refine lv_imul hx hb dX8_textAt_6 ?_
  refine lv_iadd hx hb dX8_textAt_7 ?_
  obtain rfl := some_i1 h
  exact m_iret hC hH hr rfl dX8_textAt_8

def rmM_of : Room := { frames := 0, cells := 0, slots := 0, locals := 0 }
theorem hdX8_of : yX8_of.cls = RX8 ∧ yX8_of.cls ≠ "java/lang/invoke/MethodHandle" ∧ yX8_of.cls ≠ "java/lang/invoke/VarHandle" ∧ (parseMethodDescriptor yX8_of.desc).map (fun d => d.parameters.length) = some 2 := by decide +kernel

def fM_of (μ0 : MS) (x1 : Int32) (x2 : Int32) : Option (Int32) :=
  ck (((20 : Int32) + ((4 : Int32) * x1)) + x2) (3076) <|
  some (μ0 1 ((((20 : Int32) + ((4 : Int32) * x1)) + x2)).toNatClampNeg)

set_option maxHeartbeats 4000000 in
set_option maxRecDepth 100000 in
theorem cM_of (l : Launch) (D : va_G) (cI : ClassId) (B : Nat → Nat) (μ0 : MS) (x1 : Int32) (x2 : Int32) {r : Int32} (h : fM_of μ0 x1 x2 = some r) : ∀ sz, Met l yX8_of (Cond.code yX8_of cX8_of 3 (some .int) :: Tw) rmM_of (mP D cI B μ0 sz [.ref (B 0), .int x1, .int x2]) (mQi D cI B μ0 sz μ0 r) 0 0 (va_A (mW B cI μ0) sz) := by
  intro sz
  refine Met.ofW (cc := cX8_of) (maxL := 3) (ret := (some .int)) (by decide) rfl ?_
  intro p e s m args below meth c s₁ Bd hml hv
  obtain ⟨hC, hr⟩ := jC_of Bd hml
  obtain ⟨rfl, rfl, hH⟩ := m_enter hv
  have hC : jC p s m _ meth c cX8_of 3 RX8 := hC
  have hx := hC.1.1
  have hb := hC.1.2.1
  have hown := hC.1.2.2.2.1
  have hts := hC.1.2.2.2.2
  have hl := lv_entry ([.ref (B 0), .int x1, .int x2]) (n := 3) (Nat.le_of_ble_eq_true rfl)
  rw [lg_entry_eq]
  generalize (lg_sl ([.ref (B 0), .int x1, .int x2]) ++ List.replicate (3 - (lg_sl ([.ref (B 0), .int x1, .int x2])).length) Slot.unset).toArray = ls at hl ⊢
  have hl : lv_has ls 3 [(0, .ref (B 0)), (1, .int x1), (2, .int x2)] := hl
  unfold fM_of at h
  refine W_nm (fun H locs eH eL => ?_)
  have hH : mH D cI B s (va_A (mW B cI μ0) s.heap.size) μ0 H locs := by rw [eH, eL]; exact hH
  show W p l e rmM_of s m _ below meth c H locs 0 0 _ (F0 m 0 ls [])
  refine lv_aload_n hx hb dX8_of_0 rfl (lv_at hl 0 rfl) ?_
  refine m_get hC hH 0 (by decide) wfX8_7 rfl rfl dX8_of_1 ?_
  refine lv_bipush (v := 20) hx hb dX8_of_4 (by decide) ?_
  refine lv_iconst (v := 4) hx hb dX8_of_6 (by decide) ?_
  refine lv_iload_n hx hb dX8_of_7 rfl (lv_at hl 1 rfl) ?_
  refine lv_imul hx hb dX8_of_8 ?_
  refine lv_iadd hx hb dX8_of_9 ?_
  refine lv_iload_n hx hb dX8_of_10 rfl (lv_at hl 2 rfl) ?_
  refine lv_iadd hx hb dX8_of_11 ?_
  obtain ⟨i1, h⟩ := ck_some h
  refine m_ald hC hH (a := 1) rfl rfl i1 dX8_of_12 ?_
  obtain rfl := some_i1 h
  exact m_iret hC hH hr rfl dX8_of_13

def rmM_sets : Room := { frames := 0, cells := 0, slots := 0, locals := 0 }
theorem hdX8_sets : yX8_sets.cls = RX8 ∧ yX8_sets.cls ≠ "java/lang/invoke/MethodHandle" ∧ yX8_sets.cls ≠ "java/lang/invoke/VarHandle" ∧ (parseMethodDescriptor yX8_sets.desc).map (fun d => d.parameters.length) = some 3 := by decide +kernel

def fM_sets (μ0 : MS) (x1 : Int32) (x2 : Int32) (x3 : Int32) : Option (MS) :=
  ck (((20 : Int32) + ((4 : Int32) * x1)) + x2) (3076) <|
  bnd (up2 μ0 1 ((((20 : Int32) + ((4 : Int32) * x1)) + x2)).toNatClampNeg x3) fun μ2 =>
  some μ2

set_option maxHeartbeats 4000000 in
set_option maxRecDepth 100000 in
theorem cM_sets (l : Launch) (D : va_G) (cI : ClassId) (B : Nat → Nat) (μ0 : MS) (x1 : Int32) (x2 : Int32) (x3 : Int32) {μr : MS} (h : fM_sets μ0 x1 x2 x3 = some μr) : ∀ sz, Met l yX8_sets (Cond.code yX8_sets cX8_sets 4 none :: Tw) rmM_sets (mP D cI B μ0 sz [.ref (B 0), .int x1, .int x2, .int x3]) (mQv D cI B μ0 sz μr) 0 0 (va_A (mW B cI μ0) sz) := by
  intro sz
  refine Met.ofW (cc := cX8_sets) (maxL := 4) (ret := (none)) (by decide) rfl ?_
  intro p e s m args below meth c s₁ Bd hml hv
  obtain ⟨hC, hr⟩ := jC_of Bd hml
  obtain ⟨rfl, rfl, hH⟩ := m_enter hv
  have hC : jC p s m _ meth c cX8_sets 4 RX8 := hC
  have hx := hC.1.1
  have hb := hC.1.2.1
  have hown := hC.1.2.2.2.1
  have hts := hC.1.2.2.2.2
  have hl := lv_entry ([.ref (B 0), .int x1, .int x2, .int x3]) (n := 4) (Nat.le_of_ble_eq_true rfl)
  rw [lg_entry_eq]
  generalize (lg_sl ([.ref (B 0), .int x1, .int x2, .int x3]) ++ List.replicate (4 - (lg_sl ([.ref (B 0), .int x1, .int x2, .int x3])).length) Slot.unset).toArray = ls at hl ⊢
  have hl : lv_has ls 4 [(0, .ref (B 0)), (1, .int x1), (2, .int x2), (3, .int x3)] := hl
  unfold fM_sets at h
  refine W_nm (fun H locs eH eL => ?_)
  have hH : mH D cI B s (va_A (mW B cI μ0) s.heap.size) μ0 H locs := by rw [eH, eL]; exact hH
  show W p l e rmM_sets s m _ below meth c H locs 0 0 _ (F0 m 0 ls [])
  refine lv_aload_n hx hb dX8_sets_0 rfl (lv_at hl 0 rfl) ?_
  refine m_get hC hH 0 (by decide) wfX8_7 rfl rfl dX8_sets_1 ?_
  refine lv_bipush (v := 20) hx hb dX8_sets_4 (by decide) ?_
  refine lv_iconst (v := 4) hx hb dX8_sets_6 (by decide) ?_
  refine lv_iload_n hx hb dX8_sets_7 rfl (lv_at hl 1 rfl) ?_
  refine lv_imul hx hb dX8_sets_8 ?_
  refine lv_iadd hx hb dX8_sets_9 ?_
  refine lv_iload_n hx hb dX8_sets_10 rfl (lv_at hl 2 rfl) ?_
  refine lv_iadd hx hb dX8_sets_11 ?_
  refine lv_iload_n hx hb dX8_sets_12 rfl (lv_at hl 3 rfl) ?_
  obtain ⟨i1, h⟩ := ck_some h
  obtain ⟨μ2, e3, h⟩ := bnd_some h
  refine m_ast hC hH (a := 1) rfl rfl e3 i1 dX8_sets_13 (fun H locs hH => ?_)
  obtain rfl := some_i1 h
  exact m_vret hC hH hr dX8_sets_14

def rmM_isOne : Room := { frames := 1, cells := 0, slots := 0, locals := 25 }
theorem hdX8_isOne : yX8_isOne.cls = RX8 ∧ yX8_isOne.cls ≠ "java/lang/invoke/MethodHandle" ∧ yX8_isOne.cls ≠ "java/lang/invoke/VarHandle" ∧ (parseMethodDescriptor yX8_isOne.desc).map (fun d => d.parameters.length) = some 1 := by decide +kernel

def fM_isOne (μ0 : MS) (x1 : Int32) : Option (Int32) :=
  ob (fM_isIn μ0 (x1).toInt64 (0 : Int64) (((μ0 1 0) - (1 : Int32))).toInt64) fun r2 =>
  zb r2 <|
  some r2

set_option maxHeartbeats 4000000 in
set_option maxRecDepth 100000 in
theorem cM_isOne (l : Launch) (D : va_G) (cI : ClassId) (B : Nat → Nat) (μ0 : MS) (x1 : Int32) {r : Int32} (h : fM_isOne μ0 x1 = some r) : ∀ sz, Met l yX8_isOne (Cond.code yX8_isOne cX8_isOne 2 (some .boolean) :: Tw) rmM_isOne (mP D cI B μ0 sz [.ref (B 0), .int x1]) (mQi D cI B μ0 sz μ0 r) 0 0 (va_A (mW B cI μ0) sz) := by
  intro sz
  refine Met.ofW (cc := cX8_isOne) (maxL := 2) (ret := (some .boolean)) (by decide) rfl ?_
  intro p e s m args below meth c s₁ Bd hml hv
  obtain ⟨hC, hr⟩ := jC_of Bd hml
  obtain ⟨rfl, rfl, hH⟩ := m_enter hv
  have hC : jC p s m _ meth c cX8_isOne 2 RX8 := hC
  have hx := hC.1.1
  have hb := hC.1.2.1
  have hown := hC.1.2.2.2.1
  have hts := hC.1.2.2.2.2
  have hl := lv_entry ([.ref (B 0), .int x1]) (n := 2) (Nat.le_of_ble_eq_true rfl)
  rw [lg_entry_eq]
  generalize (lg_sl ([.ref (B 0), .int x1]) ++ List.replicate (2 - (lg_sl ([.ref (B 0), .int x1])).length) Slot.unset).toArray = ls at hl ⊢
  have hl : lv_has ls 2 [(0, .ref (B 0)), (1, .int x1)] := hl
  unfold fM_isOne at h
  refine W_nm (fun H locs eH eL => ?_)
  have hH : mH D cI B s (va_A (mW B cI μ0) s.heap.size) μ0 H locs := by rw [eH, eL]; exact hH
  show W p l e rmM_isOne s m _ below meth c H locs 0 0 _ (F0 m 0 ls [])
  refine lv_iload_n hx hb dX8_isOne_0 rfl (lv_at hl 1 rfl) ?_
  refine lv_i2l hx hb dX8_isOne_1 rfl ?_
  refine lv_lconst (v := 0) hx hb dX8_isOne_2 (by decide) ?_
  refine lv_aload_n hx hb dX8_isOne_3 rfl (lv_at hl 0 rfl) ?_
  refine m_get hC hH 0 (by decide) wfX8_7 rfl rfl dX8_isOne_4 ?_
  refine lv_iconst (v := 0) hx hb dX8_isOne_7 (by decide) ?_
  refine m_ald hC hH (a := 1) rfl rfl (vp_b rfl) dX8_isOne_8 ?_
  refine lv_iconst (v := 1) hx hb dX8_isOne_9 (by decide) ?_
  refine lv_isub hx hb dX8_isOne_10 ?_
  refine lv_i2l hx hb dX8_isOne_11 rfl ?_
  obtain ⟨r2, h1, h⟩ := ob_some h
  refine m_calls (As := [.long (x1).toInt64, .long (0 : Int64), .long (((μ0 1 0) - (1 : Int32))).toInt64]) (rest := []) (cM_isIn l D cI B μ0 (x1).toInt64 (0 : Int64) (((μ0 1 0) - (1 : Int32))).toInt64 h1) hC hH hl (va_cwS 3 hts (gS wmX8_75 wsX8_isIn) rfl rfl rfl hdX8_isIn ⟨Nat.le_of_ble_eq_true rfl, Nat.le_of_ble_eq_true rfl⟩) rfl rfl (Nat.le_of_ble_eq_true rfl) ⟨Nat.zero_le _, Nat.zero_le _⟩ dX8_isOne_12 (fun H locs hH => ?_)
  obtain ⟨z3, h⟩ := zb_some h
  obtain rfl := some_i1 h
  exact m_iret hC hH hr z3 dX8_isOne_15

def rmM_isText : Room := { frames := 1, cells := 0, slots := 0, locals := 25 }
theorem hdX8_isText : yX8_isText.cls = RX8 ∧ yX8_isText.cls ≠ "java/lang/invoke/MethodHandle" ∧ yX8_isText.cls ≠ "java/lang/invoke/VarHandle" ∧ (parseMethodDescriptor yX8_isText.desc).map (fun d => d.parameters.length) = some 1 := by decide +kernel

def fM_isText (μ0 : MS) (x1 : Int32) : Option (Int32) :=
  ob (fM_isIn μ0 (x1).toInt64 (0 : Int64) (((μ0 1 1) - (1 : Int32))).toInt64) fun r2 =>
  zb r2 <|
  some r2

set_option maxHeartbeats 4000000 in
set_option maxRecDepth 100000 in
theorem cM_isText (l : Launch) (D : va_G) (cI : ClassId) (B : Nat → Nat) (μ0 : MS) (x1 : Int32) {r : Int32} (h : fM_isText μ0 x1 = some r) : ∀ sz, Met l yX8_isText (Cond.code yX8_isText cX8_isText 2 (some .boolean) :: Tw) rmM_isText (mP D cI B μ0 sz [.ref (B 0), .int x1]) (mQi D cI B μ0 sz μ0 r) 0 0 (va_A (mW B cI μ0) sz) := by
  intro sz
  refine Met.ofW (cc := cX8_isText) (maxL := 2) (ret := (some .boolean)) (by decide) rfl ?_
  intro p e s m args below meth c s₁ Bd hml hv
  obtain ⟨hC, hr⟩ := jC_of Bd hml
  obtain ⟨rfl, rfl, hH⟩ := m_enter hv
  have hC : jC p s m _ meth c cX8_isText 2 RX8 := hC
  have hx := hC.1.1
  have hb := hC.1.2.1
  have hown := hC.1.2.2.2.1
  have hts := hC.1.2.2.2.2
  have hl := lv_entry ([.ref (B 0), .int x1]) (n := 2) (Nat.le_of_ble_eq_true rfl)
  rw [lg_entry_eq]
  generalize (lg_sl ([.ref (B 0), .int x1]) ++ List.replicate (2 - (lg_sl ([.ref (B 0), .int x1])).length) Slot.unset).toArray = ls at hl ⊢
  have hl : lv_has ls 2 [(0, .ref (B 0)), (1, .int x1)] := hl
  unfold fM_isText at h
  refine W_nm (fun H locs eH eL => ?_)
  have hH : mH D cI B s (va_A (mW B cI μ0) s.heap.size) μ0 H locs := by rw [eH, eL]; exact hH
  show W p l e rmM_isText s m _ below meth c H locs 0 0 _ (F0 m 0 ls [])
  refine lv_iload_n hx hb dX8_isText_0 rfl (lv_at hl 1 rfl) ?_
  refine lv_i2l hx hb dX8_isText_1 rfl ?_
  refine lv_lconst (v := 0) hx hb dX8_isText_2 (by decide) ?_
  refine lv_aload_n hx hb dX8_isText_3 rfl (lv_at hl 0 rfl) ?_
  refine m_get hC hH 0 (by decide) wfX8_7 rfl rfl dX8_isText_4 ?_
  refine lv_iconst (v := 1) hx hb dX8_isText_7 (by decide) ?_
  refine m_ald hC hH (a := 1) rfl rfl (vp_b rfl) dX8_isText_8 ?_
  refine lv_iconst (v := 1) hx hb dX8_isText_9 (by decide) ?_
  refine lv_isub hx hb dX8_isText_10 ?_
  refine lv_i2l hx hb dX8_isText_11 rfl ?_
  obtain ⟨r2, h1, h⟩ := ob_some h
  refine m_calls (As := [.long (x1).toInt64, .long (0 : Int64), .long (((μ0 1 1) - (1 : Int32))).toInt64]) (rest := []) (cM_isIn l D cI B μ0 (x1).toInt64 (0 : Int64) (((μ0 1 1) - (1 : Int32))).toInt64 h1) hC hH hl (va_cwS 3 hts (gS wmX8_75 wsX8_isIn) rfl rfl rfl hdX8_isIn ⟨Nat.le_of_ble_eq_true rfl, Nat.le_of_ble_eq_true rfl⟩) rfl rfl (Nat.le_of_ble_eq_true rfl) ⟨Nat.zero_le _, Nat.zero_le _⟩ dX8_isText_12 (fun H locs hH => ?_)
  obtain ⟨z3, h⟩ := zb_some h
  obtain rfl := some_i1 h
  exact m_iret hC hH hr z3 dX8_isText_15

def rmM_drawn : Room := { frames := 0, cells := 0, slots := 0, locals := 0 }
theorem hdX8_drawn : yX8_drawn.cls = RX8 ∧ yX8_drawn.cls ≠ "java/lang/invoke/MethodHandle" ∧ yX8_drawn.cls ≠ "java/lang/invoke/VarHandle" ∧ (parseMethodDescriptor yX8_drawn.desc).map (fun d => d.parameters.length) = some 0 := by decide +kernel

def fM_drawn (μ0 : MS) : Option (Int32 × MS) :=
  bnd (up2 μ0 1 5 (((μ0 1 5) * (1103515245 : Int32)) + (12345 : Int32))) fun μ1 =>
  some ((((μ1 1 5)).toUInt32 >>> (((8 : Int32)).toUInt32 &&& Int32.toUInt32 31)).toInt32, μ1)

set_option maxHeartbeats 4000000 in
set_option maxRecDepth 100000 in
theorem cM_drawn (l : Launch) (D : va_G) (cI : ClassId) (B : Nat → Nat) (μ0 : MS) {r : Int32} {μr : MS} (h : fM_drawn μ0 = some (r, μr)) : ∀ sz, Met l yX8_drawn (Cond.code yX8_drawn cX8_drawn 1 (some .int) :: Tw) rmM_drawn (mP D cI B μ0 sz [.ref (B 0)]) (mQi D cI B μ0 sz μr r) 0 0 (va_A (mW B cI μ0) sz) := by
  intro sz
  refine Met.ofW (cc := cX8_drawn) (maxL := 1) (ret := (some .int)) (by decide) rfl ?_
  intro p e s m args below meth c s₁ Bd hml hv
  obtain ⟨hC, hr⟩ := jC_of Bd hml
  obtain ⟨rfl, rfl, hH⟩ := m_enter hv
  have hC : jC p s m _ meth c cX8_drawn 1 RX8 := hC
  have hx := hC.1.1
  have hb := hC.1.2.1
  have hown := hC.1.2.2.2.1
  have hts := hC.1.2.2.2.2
  have hl := lv_entry ([.ref (B 0)]) (n := 1) (Nat.le_of_ble_eq_true rfl)
  rw [lg_entry_eq]
  generalize (lg_sl ([.ref (B 0)]) ++ List.replicate (1 - (lg_sl ([.ref (B 0)])).length) Slot.unset).toArray = ls at hl ⊢
  have hl : lv_has ls 1 [(0, .ref (B 0))] := hl
  unfold fM_drawn at h
  refine W_nm (fun H locs eH eL => ?_)
  have hH : mH D cI B s (va_A (mW B cI μ0) s.heap.size) μ0 H locs := by rw [eH, eL]; exact hH
  show W p l e rmM_drawn s m _ below meth c H locs 0 0 _ (F0 m 0 ls [])
  refine lv_aload_n hx hb dX8_drawn_0 rfl (lv_at hl 0 rfl) ?_
  refine m_get hC hH 0 (by decide) wfX8_7 rfl rfl dX8_drawn_1 ?_
  refine lv_iconst (v := 5) hx hb dX8_drawn_4 (by decide) ?_
  refine lv_aload_n hx hb dX8_drawn_5 rfl (lv_at hl 0 rfl) ?_
  refine m_get hC hH 0 (by decide) wfX8_7 rfl rfl dX8_drawn_6 ?_
  refine lv_iconst (v := 5) hx hb dX8_drawn_9 (by decide) ?_
  refine m_ald hC hH (a := 1) rfl rfl (vp_b rfl) dX8_drawn_10 ?_
  refine lv_ldc (v := 1103515245) hx hb hown (hts _ wkX8_79) dX8_drawn_11 ?_
  refine lv_imul hx hb dX8_drawn_13 ?_
  refine lv_sipush (v := 12345) hx hb dX8_drawn_14 (by decide) ?_
  refine lv_iadd hx hb dX8_drawn_17 ?_
  obtain ⟨μ1, e2, h⟩ := bnd_some h
  refine m_ast hC hH (a := 1) rfl rfl e2 (vp_b rfl) dX8_drawn_18 (fun H locs hH => ?_)
  refine lv_aload_n hx hb dX8_drawn_19 rfl (lv_at hl 0 rfl) ?_
  refine m_get hC hH 0 (by decide) wfX8_7 rfl rfl dX8_drawn_20 ?_
  refine lv_iconst (v := 5) hx hb dX8_drawn_23 (by decide) ?_
  refine m_ald hC hH (a := 1) rfl rfl (vp_b rfl) dX8_drawn_24 ?_
  refine lv_bipush (v := 8) hx hb dX8_drawn_25 (by decide) ?_
  refine t_iushr hx hb dX8_drawn_27 rfl ?_
  obtain ⟨rfl, rfl⟩ := some_i2 h
  exact m_iret hC hH hr rfl dX8_drawn_28

def rmM_comes : Room := { frames := 1, cells := 0, slots := 0, locals := 23 }
theorem hdX8_comes : yX8_comes.cls = RX8 ∧ yX8_comes.cls ≠ "java/lang/invoke/MethodHandle" ∧ yX8_comes.cls ≠ "java/lang/invoke/VarHandle" ∧ (parseMethodDescriptor yX8_comes.desc).map (fun d => d.parameters.length) = some 3 := by decide +kernel

def fM_comes (μ0 : MS) (x1 : Int32) (x2 : Int32) (x3 : Int32) : Option (MS) :=
  bnd (μ0 1 0) fun v1 =>
  ck ((6 : Int32) + v1) (3076) <|
  bnd (up2 μ0 1 (((6 : Int32) + v1)).toNatClampNeg v1) fun μ4 =>
  bnd (up2 μ4 1 0 ((μ4 1 0) + (1 : Int32))) fun μ6 =>
  ob (fM_sets μ6 v1 (0 : Int32) x1) fun μ9 =>
  ob (fM_sets μ9 v1 (1 : Int32) x2) fun μ11 =>
  ob (fM_sets μ11 v1 (2 : Int32) x3) fun μ13 =>
  ob (fM_sets μ13 v1 (3 : Int32) (0 : Int32)) fun μ15 =>
  some μ15

set_option maxHeartbeats 4000000 in
set_option maxRecDepth 100000 in
theorem cM_comes (l : Launch) (D : va_G) (cI : ClassId) (B : Nat → Nat) (μ0 : MS) (x1 : Int32) (x2 : Int32) (x3 : Int32) {μr : MS} (h : fM_comes μ0 x1 x2 x3 = some μr) : ∀ sz, Met l yX8_comes (Cond.code yX8_comes cX8_comes 5 none :: Tw) rmM_comes (mP D cI B μ0 sz [.ref (B 0), .int x1, .int x2, .int x3]) (mQv D cI B μ0 sz μr) 0 0 (va_A (mW B cI μ0) sz) := by
  intro sz
  refine Met.ofW (cc := cX8_comes) (maxL := 5) (ret := (none)) (by decide) rfl ?_
  intro p e s m args below meth c s₁ Bd hml hv
  obtain ⟨hC, hr⟩ := jC_of Bd hml
  obtain ⟨rfl, rfl, hH⟩ := m_enter hv
  have hC : jC p s m _ meth c cX8_comes 5 RX8 := hC
  have hx := hC.1.1
  have hb := hC.1.2.1
  have hown := hC.1.2.2.2.1
  have hts := hC.1.2.2.2.2
  have hl := lv_entry ([.ref (B 0), .int x1, .int x2, .int x3]) (n := 5) (Nat.le_of_ble_eq_true rfl)
  rw [lg_entry_eq]
  generalize (lg_sl ([.ref (B 0), .int x1, .int x2, .int x3]) ++ List.replicate (5 - (lg_sl ([.ref (B 0), .int x1, .int x2, .int x3])).length) Slot.unset).toArray = ls at hl ⊢
  have hl : lv_has ls 5 [(0, .ref (B 0)), (1, .int x1), (2, .int x2), (3, .int x3)] := hl
  unfold fM_comes at h
  refine W_nm (fun H locs eH eL => ?_)
  have hH : mH D cI B s (va_A (mW B cI μ0) s.heap.size) μ0 H locs := by rw [eH, eL]; exact hH
  show W p l e rmM_comes s m _ below meth c H locs 0 0 _ (F0 m 0 ls [])
  refine lv_aload_n hx hb dX8_comes_0 rfl (lv_at hl 0 rfl) ?_
  refine m_get hC hH 0 (by decide) wfX8_7 rfl rfl dX8_comes_1 ?_
  refine lv_iconst (v := 0) hx hb dX8_comes_4 (by decide) ?_
  refine m_ald hC hH (a := 1) rfl rfl (vp_b rfl) dX8_comes_5 ?_
  obtain ⟨v1, e2, h⟩ := bnd_some h
  refine lv_tope e2 ?_
  refine lv_istore (lv' := [(4, .int v1), (0, .ref (B 0)), (1, .int x1), (2, .int x2), (3, .int x3)]) hx hb dX8_comes_6 hl (by decide) rfl (fun ls hl => ?_)
  refine lv_aload_n hx hb dX8_comes_8 rfl (lv_at hl 1 rfl) ?_
  refine m_get hC hH 0 (by decide) wfX8_7 rfl rfl dX8_comes_9 ?_
  refine lv_bipush (v := 6) hx hb dX8_comes_12 (by decide) ?_
  refine lv_iload hx hb dX8_comes_14 (lv_at hl 0 rfl) ?_
  refine lv_iadd hx hb dX8_comes_16 ?_
  refine lv_iload hx hb dX8_comes_17 (lv_at hl 0 rfl) ?_
  obtain ⟨i3, h⟩ := ck_some h
  obtain ⟨μ4, e5, h⟩ := bnd_some h
  refine m_ast hC hH (a := 1) rfl rfl e5 i3 dX8_comes_19 (fun H locs hH => ?_)
  refine lv_aload_n hx hb dX8_comes_20 rfl (lv_at hl 1 rfl) ?_
  refine m_get hC hH 0 (by decide) wfX8_7 rfl rfl dX8_comes_21 ?_
  refine lv_iconst (v := 0) hx hb dX8_comes_24 (by decide) ?_
  refine lv_dup2_11 hx hb dX8_comes_25 rfl rfl ?_
  refine m_ald hC hH (a := 1) rfl rfl (vp_b rfl) dX8_comes_26 ?_
  refine lv_iconst (v := 1) hx hb dX8_comes_27 (by decide) ?_
  refine lv_iadd hx hb dX8_comes_28 ?_
  obtain ⟨μ6, e7, h⟩ := bnd_some h
  refine m_ast hC hH (a := 1) rfl rfl e7 (vp_b rfl) dX8_comes_29 (fun H locs hH => ?_)
  refine lv_aload_n hx hb dX8_comes_30 rfl (lv_at hl 1 rfl) ?_
  refine lv_iload hx hb dX8_comes_31 (lv_at hl 0 rfl) ?_
  refine lv_iconst (v := 0) hx hb dX8_comes_33 (by decide) ?_
  refine lv_iload_n hx hb dX8_comes_34 rfl (lv_at hl 2 rfl) ?_
  obtain ⟨μ9, h8, h⟩ := ob_some h
  refine m_callv (As := [.int v1, .int (0 : Int32), .int x1]) (rest := []) (cM_sets l D cI B μ6 v1 (0 : Int32) x1 h8) hC hH hl (cwV 3 hts (gV wmX8_80 wvX8_sets) rfl rfl rfl hdX8_sets ⟨Nat.le_of_ble_eq_true rfl, Nat.le_of_ble_eq_true rfl⟩) rfl rfl (Nat.le_of_ble_eq_true rfl) ⟨Nat.zero_le _, Nat.zero_le _⟩ dX8_comes_35 (fun H locs hH => ?_)
  refine lv_aload_n hx hb dX8_comes_38 rfl (lv_at hl 1 rfl) ?_
  refine lv_iload hx hb dX8_comes_39 (lv_at hl 0 rfl) ?_
  refine lv_iconst (v := 1) hx hb dX8_comes_41 (by decide) ?_
  refine lv_iload_n hx hb dX8_comes_42 rfl (lv_at hl 3 rfl) ?_
  obtain ⟨μ11, h10, h⟩ := ob_some h
  refine m_callv (As := [.int v1, .int (1 : Int32), .int x2]) (rest := []) (cM_sets l D cI B μ9 v1 (1 : Int32) x2 h10) hC hH hl (cwV 3 hts (gV wmX8_80 wvX8_sets) rfl rfl rfl hdX8_sets ⟨Nat.le_of_ble_eq_true rfl, Nat.le_of_ble_eq_true rfl⟩) rfl rfl (Nat.le_of_ble_eq_true rfl) ⟨Nat.zero_le _, Nat.zero_le _⟩ dX8_comes_43 (fun H locs hH => ?_)
  refine lv_aload_n hx hb dX8_comes_46 rfl (lv_at hl 1 rfl) ?_
  refine lv_iload hx hb dX8_comes_47 (lv_at hl 0 rfl) ?_
  refine lv_iconst (v := 2) hx hb dX8_comes_49 (by decide) ?_
  refine lv_iload_n hx hb dX8_comes_50 rfl (lv_at hl 4 rfl) ?_
  obtain ⟨μ13, h12, h⟩ := ob_some h
  refine m_callv (As := [.int v1, .int (2 : Int32), .int x3]) (rest := []) (cM_sets l D cI B μ11 v1 (2 : Int32) x3 h12) hC hH hl (cwV 3 hts (gV wmX8_80 wvX8_sets) rfl rfl rfl hdX8_sets ⟨Nat.le_of_ble_eq_true rfl, Nat.le_of_ble_eq_true rfl⟩) rfl rfl (Nat.le_of_ble_eq_true rfl) ⟨Nat.zero_le _, Nat.zero_le _⟩ dX8_comes_51 (fun H locs hH => ?_)
  refine lv_aload_n hx hb dX8_comes_54 rfl (lv_at hl 1 rfl) ?_
  refine lv_iload hx hb dX8_comes_55 (lv_at hl 0 rfl) ?_
  refine lv_iconst (v := 3) hx hb dX8_comes_57 (by decide) ?_
  refine lv_iconst (v := 0) hx hb dX8_comes_58 (by decide) ?_
  obtain ⟨μ15, h14, h⟩ := ob_some h
  refine m_callv (As := [.int v1, .int (3 : Int32), .int (0 : Int32)]) (rest := []) (cM_sets l D cI B μ13 v1 (3 : Int32) (0 : Int32) h14) hC hH hl (cwV 3 hts (gV wmX8_80 wvX8_sets) rfl rfl rfl hdX8_sets ⟨Nat.le_of_ble_eq_true rfl, Nat.le_of_ble_eq_true rfl⟩) rfl rfl (Nat.le_of_ble_eq_true rfl) ⟨Nat.zero_le _, Nat.zero_le _⟩ dX8_comes_59 (fun H locs hH => ?_)
  obtain rfl := some_i1 h
  exact m_vret hC hH hr dX8_comes_62

def rmM_letter : Room := { frames := 2, cells := 0, slots := 0, locals := 47 }
theorem hdX8_letter : yX8_letter.cls = RX8 ∧ yX8_letter.cls ≠ "java/lang/invoke/MethodHandle" ∧ yX8_letter.cls ≠ "java/lang/invoke/VarHandle" ∧ (parseMethodDescriptor yX8_letter.desc).map (fun d => d.parameters.length) = some 3 := by decide +kernel

def fM_letter (μ0 : MS) (x1 : Int32) (x2 : Int32) (x3 : Int32) : Option (Int32 × MS) :=
  ob (fM_isIn μ0 (x1).toInt64 (0 : Int64) (5 : Int64)) fun r2 =>
  if r2 = 0 then (
    some ((-1000000001 : Int32), μ0))
  else (
    ob (fM_isIn μ0 (x2).toInt64 (1 : Int64) (99 : Int64)) fun r5 =>
    if r5 = 0 then (
      some ((-1000000001 : Int32), μ0))
    else (
      ob (fM_isIn μ0 (x3).toInt64 (0 : Int64) (9 : Int64)) fun r8 =>
      if r8 = 0 then (
        some ((-1000000001 : Int32), μ0))
      else (
        if (μ0 1 0) = (14 : Int32) then (
          some ((-1000000003 : Int32), μ0))
        else (
          ob (fM_comes μ0 x1 x2 x3) fun μ12 =>
          some (((μ12 1 0) - (1 : Int32)), μ12)))))

set_option maxHeartbeats 4000000 in
set_option maxRecDepth 100000 in
theorem cM_letter (l : Launch) (D : va_G) (cI : ClassId) (B : Nat → Nat) (μ0 : MS) (x1 : Int32) (x2 : Int32) (x3 : Int32) {r : Int32} {μr : MS} (h : fM_letter μ0 x1 x2 x3 = some (r, μr)) : ∀ sz, Met l yX8_letter (Cond.code yX8_letter cX8_letter 4 (some .int) :: Tw) rmM_letter (mP D cI B μ0 sz [.ref (B 0), .int x1, .int x2, .int x3]) (mQi D cI B μ0 sz μr r) 0 0 (va_A (mW B cI μ0) sz) := by
  intro sz
  refine Met.ofW (cc := cX8_letter) (maxL := 4) (ret := (some .int)) (by decide) rfl ?_
  intro p e s m args below meth c s₁ Bd hml hv
  obtain ⟨hC, hr⟩ := jC_of Bd hml
  obtain ⟨rfl, rfl, hH⟩ := m_enter hv
  have hC : jC p s m _ meth c cX8_letter 4 RX8 := hC
  have hx := hC.1.1
  have hb := hC.1.2.1
  have hown := hC.1.2.2.2.1
  have hts := hC.1.2.2.2.2
  have hl := lv_entry ([.ref (B 0), .int x1, .int x2, .int x3]) (n := 4) (Nat.le_of_ble_eq_true rfl)
  rw [lg_entry_eq]
  generalize (lg_sl ([.ref (B 0), .int x1, .int x2, .int x3]) ++ List.replicate (4 - (lg_sl ([.ref (B 0), .int x1, .int x2, .int x3])).length) Slot.unset).toArray = ls at hl ⊢
  have hl : lv_has ls 4 [(0, .ref (B 0)), (1, .int x1), (2, .int x2), (3, .int x3)] := hl
  unfold fM_letter at h
  refine W_nm (fun H locs eH eL => ?_)
  have hH : mH D cI B s (va_A (mW B cI μ0) s.heap.size) μ0 H locs := by rw [eH, eL]; exact hH
  show W p l e rmM_letter s m _ below meth c H locs 0 0 _ (F0 m 0 ls [])
  refine lv_iload_n hx hb dX8_letter_0 rfl (lv_at hl 1 rfl) ?_
  refine lv_i2l hx hb dX8_letter_1 rfl ?_
  refine lv_lconst (v := 0) hx hb dX8_letter_2 (by decide) ?_
  refine lv_ldc2 (v := 5) hx hb hown (hts _ wqX8_84) dX8_letter_3 ?_
  obtain ⟨r2, h1, h⟩ := ob_some h
  refine m_calls (As := [.long (x1).toInt64, .long (0 : Int64), .long (5 : Int64)]) (rest := []) (cM_isIn l D cI B μ0 (x1).toInt64 (0 : Int64) (5 : Int64) h1) hC hH hl (va_cwS 3 hts (gS wmX8_75 wsX8_isIn) rfl rfl rfl hdX8_isIn ⟨Nat.le_of_ble_eq_true rfl, Nat.le_of_ble_eq_true rfl⟩) rfl rfl (Nat.le_of_ble_eq_true rfl) ⟨Nat.zero_le _, Nat.zero_le _⟩ dX8_letter_6 (fun H locs hH => ?_)
  refine lv_if_eq (tgt := 36) hx hb dX8_letter_9 (by decide) (fun c3 => ?_) (fun c3 => ?_)
  · have h := ite_t c3 h
    refine lv_ldc (v := -1000000001) hx hb hown (hts _ wkX8_90) dX8_letter_36 ?_
    obtain ⟨rfl, rfl⟩ := some_i2 h
    exact m_iret (v := -1000000001) hC hH hr rfl dX8_letter_38
  · have h := ite_f c3 h
    refine lv_iload_n hx hb dX8_letter_12 rfl (lv_at hl 2 rfl) ?_
    refine lv_i2l hx hb dX8_letter_13 rfl ?_
    refine lv_lconst (v := 1) hx hb dX8_letter_14 (by decide) ?_
    refine lv_ldc2 (v := 99) hx hb hown (hts _ wqX8_86) dX8_letter_15 ?_
    obtain ⟨r5, h4, h⟩ := ob_some h
    refine m_calls (As := [.long (x2).toInt64, .long (1 : Int64), .long (99 : Int64)]) (rest := []) (cM_isIn l D cI B μ0 (x2).toInt64 (1 : Int64) (99 : Int64) h4) hC hH hl (va_cwS 3 hts (gS wmX8_75 wsX8_isIn) rfl rfl rfl hdX8_isIn ⟨Nat.le_of_ble_eq_true rfl, Nat.le_of_ble_eq_true rfl⟩) rfl rfl (Nat.le_of_ble_eq_true rfl) ⟨Nat.zero_le _, Nat.zero_le _⟩ dX8_letter_18 (fun H locs hH => ?_)
    refine lv_if_eq (tgt := 36) hx hb dX8_letter_21 (by decide) (fun c6 => ?_) (fun c6 => ?_)
    · have h := ite_t c6 h
      refine lv_ldc (v := -1000000001) hx hb hown (hts _ wkX8_90) dX8_letter_36 ?_
      obtain ⟨rfl, rfl⟩ := some_i2 h
      exact m_iret (v := -1000000001) hC hH hr rfl dX8_letter_38
    · have h := ite_f c6 h
      refine lv_iload_n hx hb dX8_letter_24 rfl (lv_at hl 3 rfl) ?_
      refine lv_i2l hx hb dX8_letter_25 rfl ?_
      refine lv_lconst (v := 0) hx hb dX8_letter_26 (by decide) ?_
      refine lv_ldc2 (v := 9) hx hb hown (hts _ wqX8_88) dX8_letter_27 ?_
      obtain ⟨r8, h7, h⟩ := ob_some h
      refine m_calls (As := [.long (x3).toInt64, .long (0 : Int64), .long (9 : Int64)]) (rest := []) (cM_isIn l D cI B μ0 (x3).toInt64 (0 : Int64) (9 : Int64) h7) hC hH hl (va_cwS 3 hts (gS wmX8_75 wsX8_isIn) rfl rfl rfl hdX8_isIn ⟨Nat.le_of_ble_eq_true rfl, Nat.le_of_ble_eq_true rfl⟩) rfl rfl (Nat.le_of_ble_eq_true rfl) ⟨Nat.zero_le _, Nat.zero_le _⟩ dX8_letter_30 (fun H locs hH => ?_)
      refine lv_if_ne (tgt := 39) hx hb dX8_letter_33 (by decide) (fun c9 => ?_) (fun c9 => ?_)
      · have h := ite_f c9 h
        refine lv_aload_n hx hb dX8_letter_39 rfl (lv_at hl 0 rfl) ?_
        refine m_get hC hH 0 (by decide) wfX8_7 rfl rfl dX8_letter_40 ?_
        refine lv_iconst (v := 0) hx hb dX8_letter_43 (by decide) ?_
        refine m_ald hC hH (a := 1) rfl rfl (vp_b rfl) dX8_letter_44 ?_
        refine lv_bipush (v := 14) hx hb dX8_letter_45 (by decide) ?_
        refine lv_icmp_ne (tgt := 53) hx hb dX8_letter_47 (by decide) (fun c10 => ?_) (fun c10 => ?_)
        · have h := ite_f c10 h
          refine lv_aload_n hx hb dX8_letter_53 rfl (lv_at hl 0 rfl) ?_
          refine lv_iload_n hx hb dX8_letter_54 rfl (lv_at hl 1 rfl) ?_
          refine lv_iload_n hx hb dX8_letter_55 rfl (lv_at hl 2 rfl) ?_
          refine lv_iload_n hx hb dX8_letter_56 rfl (lv_at hl 3 rfl) ?_
          obtain ⟨μ12, h11, h⟩ := ob_some h
          refine m_callv (As := [.int x1, .int x2, .int x3]) (rest := []) (cM_comes l D cI B μ0 x1 x2 x3 h11) hC hH hl (cwV 3 hts (gV wmX8_92 wvX8_comes) rfl rfl rfl hdX8_comes ⟨Nat.le_of_ble_eq_true rfl, Nat.le_of_ble_eq_true rfl⟩) rfl rfl (Nat.le_of_ble_eq_true rfl) ⟨Nat.zero_le _, Nat.zero_le _⟩ dX8_letter_57 (fun H locs hH => ?_)
          refine lv_aload_n hx hb dX8_letter_60 rfl (lv_at hl 0 rfl) ?_
          refine m_get hC hH 0 (by decide) wfX8_7 rfl rfl dX8_letter_61 ?_
          refine lv_iconst (v := 0) hx hb dX8_letter_64 (by decide) ?_
          refine m_ald hC hH (a := 1) rfl rfl (vp_b rfl) dX8_letter_65 ?_
          refine lv_iconst (v := 1) hx hb dX8_letter_66 (by decide) ?_
          refine lv_isub hx hb dX8_letter_67 ?_
          obtain ⟨rfl, rfl⟩ := some_i2 h
          exact m_iret hC hH hr rfl dX8_letter_68
        · have h := ite_t c10 h
          refine lv_ldc (v := -1000000003) hx hb hown (hts _ wkX8_91) dX8_letter_50 ?_
          obtain ⟨rfl, rfl⟩ := some_i2 h
          exact m_iret (v := -1000000003) hC hH hr rfl dX8_letter_52
      · have h := ite_t c9 h
        refine lv_ldc (v := -1000000001) hx hb hown (hts _ wkX8_90) dX8_letter_36 ?_
        obtain ⟨rfl, rfl⟩ := some_i2 h
        exact m_iret (v := -1000000001) hC hH hr rfl dX8_letter_38

def rmM_counts : Room := { frames := 1, cells := 0, slots := 0, locals := 21 }
theorem hdX8_counts : yX8_counts.cls = RX8 ∧ yX8_counts.cls ≠ "java/lang/invoke/MethodHandle" ∧ yX8_counts.cls ≠ "java/lang/invoke/VarHandle" ∧ (parseMethodDescriptor yX8_counts.desc).map (fun d => d.parameters.length) = some 1 := by decide +kernel

def fM_counts_L4 (μ0 : MS) (k40 : Int32 → Option (Int32)) : Nat → Int32 → Int32 → Int32 → Option (Int32)
  | 0, _, _, _ => none
  | n + 1, x1, x2, x3 =>
    if (μ0 1 1) ≤ x3 then (
      k40 x2)
    else (
      ob (fM_textAt μ0 x3) fun r3 =>
      ck r3 (3076) <|
      if (μ0 1 (r3).toNatClampNeg) = x1 then (
        bnd (x3 + (1 : Int32)) fun v8 =>
        (fM_counts_L4 μ0 k40 n) x1 x3 v8)
      else (
        bnd (x3 + (1 : Int32)) fun v6 =>
        (fM_counts_L4 μ0 k40 n) x1 x2 v6))

set_option maxHeartbeats 4000000 in
set_option maxRecDepth 100000 in
theorem wM_counts_L4 {p : Program} {l : Launch} {e : Env} {s : State} {m : MethodId} {args : Array Value} {below : List Frame} {meth : Method} {c : Code} {D : va_G} {cI : ClassId} {B : Nat → Nat} {μ0 : MS} {r : Int32} (hC : jC p s m args meth c cX8_counts 4 RX8) (hr : meth.sig.returnType = some .int) {k40 : Int32 → Option (Int32)} (hk40 : ∀ (x2 : Int32) (H : Heap) (locs : List Loc) (ls : Array Slot), mH D cI B s (va_A (mW B cI μ0) s.heap.size) μ0 H locs → lv_has ls 4 [(2, .int x2)] → k40 x2 = some r → W p l e rmM_counts s m args below meth c H locs 0 0 (MQ below (mQi D cI B μ0 s.heap.size μ0 r) args s 0 0 (va_A (mW B cI μ0) s.heap.size)) (F0 m 40 ls [])) : ∀ (n : Nat) (x1 : Int32) (x2 : Int32) (x3 : Int32) (H : Heap) (locs : List Loc) (ls : Array Slot), mH D cI B s (va_A (mW B cI μ0) s.heap.size) μ0 H locs → lv_has ls 4 [(0, .ref (B 0)), (1, .int x1), (2, .int x2), (3, .int x3)] → fM_counts_L4 μ0 k40 n x1 x2 x3 = some r → W p l e rmM_counts s m args below meth c H locs 0 0 (MQ below (mQi D cI B μ0 s.heap.size μ0 r) args s 0 0 (va_A (mW B cI μ0) s.heap.size)) (F0 m 4 ls []) := by
  have hx := hC.1.1
  have hb := hC.1.2.1
  have hown := hC.1.2.2.2.1
  have hts := hC.1.2.2.2.2
  intro n
  induction n with
  | zero =>
    intro x1 x2 x3 H locs ls  hH hl h
    rw [fM_counts_L4] at h
    cases h
  | succ n ih =>
    intro x1 x2 x3 H locs ls  hH hl h
    rw [fM_counts_L4] at h
    refine lv_iload_n hx hb dX8_counts_4 rfl (lv_at hl 3 rfl) ?_
    refine lv_aload_n hx hb dX8_counts_5 rfl (lv_at hl 0 rfl) ?_
    refine m_get hC hH 0 (by decide) wfX8_7 rfl rfl dX8_counts_6 ?_
    refine lv_iconst (v := 1) hx hb dX8_counts_9 (by decide) ?_
    refine m_ald hC hH (a := 1) rfl rfl (vp_b rfl) dX8_counts_10 ?_
    refine lv_icmp_ge (tgt := 40) hx hb dX8_counts_11 (by decide) (fun c1 => ?_) (fun c1 => ?_)
    · have h := ite_t c1 h
      exact hk40 x2 H locs ls  hH (lv_sub hl [2] rfl) h
    · have h := ite_f c1 h
      refine lv_aload_n hx hb dX8_counts_14 rfl (lv_at hl 0 rfl) ?_
      refine m_get hC hH 0 (by decide) wfX8_7 rfl rfl dX8_counts_15 ?_
      refine lv_aload_n hx hb dX8_counts_18 rfl (lv_at hl 0 rfl) ?_
      refine lv_iload_n hx hb dX8_counts_19 rfl (lv_at hl 3 rfl) ?_
      obtain ⟨r3, h2, h⟩ := ob_some h
      refine m_calli (As := [.int x3]) (rest := [.ref (B 1)]) (cM_textAt l D cI B μ0 x3 h2) hC hH hl (cwV 1 hts (gV wmX8_276 wvX8_textAt) rfl rfl rfl hdX8_textAt ⟨Nat.le_of_ble_eq_true rfl, Nat.le_of_ble_eq_true rfl⟩) rfl rfl (Nat.le_of_ble_eq_true rfl) ⟨Nat.zero_le _, Nat.zero_le _⟩ dX8_counts_20 (fun H locs hH => ?_)
      obtain ⟨i4, h⟩ := ck_some h
      refine m_ald hC hH (a := 1) rfl rfl i4 dX8_counts_23 ?_
      refine lv_iload_n hx hb dX8_counts_24 rfl (lv_at hl 1 rfl) ?_
      refine lv_icmp_ne (tgt := 32) hx hb dX8_counts_25 (by decide) (fun c5 => ?_) (fun c5 => ?_)
      · have h := ite_f c5 h
        refine lv_iload_n hx hb dX8_counts_32 rfl (lv_at hl 2 rfl) ?_
        refine lv_istore_n (lv' := [(2, .int x2), (0, .ref (B 0)), (1, .int x1), (3, .int x3)]) hx hb dX8_counts_33 rfl hl (by decide) rfl (fun ls hl => ?_)
        obtain ⟨v6, e7, h⟩ := bnd_some h
        refine lv_iinc (v := v6) (lv' := [(3, .int v6), (2, .int x2), (0, .ref (B 0)), (1, .int x1)]) hx hb dX8_counts_34 hl (k := 3) rfl (by rw [e7]; rfl) (by decide) rfl (fun ls hl => ?_)
        refine lv_goto (tgt := 4) hx hb dX8_counts_37 (by decide) ?_
        exact ih x1 x2 v6 H locs ls  hH (lv_sub hl [2, 3, 1, 0] rfl) h
      · have h := ite_t c5 h
        refine lv_iload_n hx hb dX8_counts_28 rfl (lv_at hl 3 rfl) ?_
        refine lv_goto (tgt := 33) hx hb dX8_counts_29 (by decide) ?_
        refine lv_istore_n (lv' := [(2, .int x3), (0, .ref (B 0)), (1, .int x1), (3, .int x3)]) hx hb dX8_counts_33 rfl hl (by decide) rfl (fun ls hl => ?_)
        obtain ⟨v8, e9, h⟩ := bnd_some h
        refine lv_iinc (v := v8) (lv' := [(3, .int v8), (2, .int x3), (0, .ref (B 0)), (1, .int x1)]) hx hb dX8_counts_34 hl (k := 3) rfl (by rw [e9]; rfl) (by decide) rfl (fun ls hl => ?_)
        refine lv_goto (tgt := 4) hx hb dX8_counts_37 (by decide) ?_
        exact ih x1 x3 v8 H locs ls  hH (lv_sub hl [2, 3, 1, 0] rfl) h

def fM_counts (μ0 : MS) (x1 : Int32) : Option (Int32) :=
  fM_counts_L4 μ0 (fun (x2 : Int32) => some x2) 10000 x1 (-1 : Int32) (0 : Int32)

set_option maxHeartbeats 4000000 in
set_option maxRecDepth 100000 in
theorem cM_counts (l : Launch) (D : va_G) (cI : ClassId) (B : Nat → Nat) (μ0 : MS) (x1 : Int32) {r : Int32} (h : fM_counts μ0 x1 = some r) : ∀ sz, Met l yX8_counts (Cond.code yX8_counts cX8_counts 4 (some .int) :: Tw) rmM_counts (mP D cI B μ0 sz [.ref (B 0), .int x1]) (mQi D cI B μ0 sz μ0 r) 0 0 (va_A (mW B cI μ0) sz) := by
  intro sz
  refine Met.ofW (cc := cX8_counts) (maxL := 4) (ret := (some .int)) (by decide) rfl ?_
  intro p e s m args below meth c s₁ Bd hml hv
  obtain ⟨hC, hr⟩ := jC_of Bd hml
  obtain ⟨rfl, rfl, hH⟩ := m_enter hv
  have hC : jC p s m _ meth c cX8_counts 4 RX8 := hC
  have hx := hC.1.1
  have hb := hC.1.2.1
  have hown := hC.1.2.2.2.1
  have hts := hC.1.2.2.2.2
  have hl := lv_entry ([.ref (B 0), .int x1]) (n := 4) (Nat.le_of_ble_eq_true rfl)
  rw [lg_entry_eq]
  generalize (lg_sl ([.ref (B 0), .int x1]) ++ List.replicate (4 - (lg_sl ([.ref (B 0), .int x1])).length) Slot.unset).toArray = ls at hl ⊢
  have hl : lv_has ls 4 [(0, .ref (B 0)), (1, .int x1)] := hl
  unfold fM_counts at h
  refine W_nm (fun H locs eH eL => ?_)
  have hH : mH D cI B s (va_A (mW B cI μ0) s.heap.size) μ0 H locs := by rw [eH, eL]; exact hH
  show W p l e rmM_counts s m _ below meth c H locs 0 0 _ (F0 m 0 ls [])
  refine lv_iconst (v := -1) hx hb dX8_counts_0 (by decide) ?_
  refine lv_istore_n (lv' := [(2, .int (-1 : Int32)), (0, .ref (B 0)), (1, .int x1)]) hx hb dX8_counts_1 rfl hl (by decide) rfl (fun ls hl => ?_)
  refine lv_iconst (v := 0) hx hb dX8_counts_2 (by decide) ?_
  refine lv_istore_n (lv' := [(3, .int (0 : Int32)), (2, .int (-1 : Int32)), (0, .ref (B 0)), (1, .int x1)]) hx hb dX8_counts_3 rfl hl (by decide) rfl (fun ls hl => ?_)
  refine wM_counts_L4 hC hr  ?_ 10000 x1 (-1 : Int32) (0 : Int32) H locs ls  hH (lv_sub hl [2, 3, 1, 0] rfl) h
  intro x2 H locs ls  hH hl h
  refine lv_iload_n hx hb dX8_counts_40 rfl (lv_at hl 0 rfl) ?_
  obtain rfl := some_i1 h
  exact m_iret hC hH hr rfl dX8_counts_41

def rmM_forgets : Room := { frames := 2, cells := 0, slots := 0, locals := 44 }
theorem hdX8_forgets : yX8_forgets.cls = RX8 ∧ yX8_forgets.cls ≠ "java/lang/invoke/MethodHandle" ∧ yX8_forgets.cls ≠ "java/lang/invoke/VarHandle" ∧ (parseMethodDescriptor yX8_forgets.desc).map (fun d => d.parameters.length) = some 0 := by decide +kernel

def fM_forgets_L11 (k31 : MS → Option (MS)) : Nat → Int32 → MS → Option (MS)
  | 0, _, _ => none
  | n + 1, x1, μ =>
    if (4096 : Int32) ≤ x1 then (
      k31 μ)
    else (
      ck x1 (4096) <|
      bnd (up2 μ 14 (x1).toNatClampNeg (0 : Int32)) fun μ7 =>
      bnd (x1 + (1 : Int32)) fun v9 =>
      (fM_forgets_L11 k31 n) v9 μ7)

set_option maxHeartbeats 4000000 in
set_option maxRecDepth 100000 in
theorem wM_forgets_L11 {p : Program} {l : Launch} {e : Env} {s : State} {m : MethodId} {args : Array Value} {below : List Frame} {meth : Method} {c : Code} {D : va_G} {cI : ClassId} {B : Nat → Nat} {μ0 : MS} {μr : MS} (hC : jC p s m args meth c cX8_forgets 2 RX8) (hr : meth.sig.returnType = none) {k31 : MS → Option (MS)} (hk31 : ∀ (μ : MS) (H : Heap) (locs : List Loc) (ls : Array Slot), mH D cI B s (va_A (mW B cI μ0) s.heap.size) μ H locs → lv_has ls 2 [] → k31 μ = some μr → W p l e rmM_forgets s m args below meth c H locs 0 0 (MQ below (mQv D cI B μ0 s.heap.size μr) args s 0 0 (va_A (mW B cI μ0) s.heap.size)) (F0 m 31 ls [])) : ∀ (n : Nat) (x1 : Int32) (μ : MS) (H : Heap) (locs : List Loc) (ls : Array Slot), mH D cI B s (va_A (mW B cI μ0) s.heap.size) μ H locs → lv_has ls 2 [(0, .ref (B 0)), (1, .int x1)] → fM_forgets_L11 k31 n x1 μ = some μr → W p l e rmM_forgets s m args below meth c H locs 0 0 (MQ below (mQv D cI B μ0 s.heap.size μr) args s 0 0 (va_A (mW B cI μ0) s.heap.size)) (F0 m 11 ls []) := by
  have hx := hC.1.1
  have hb := hC.1.2.1
  have hown := hC.1.2.2.2.1
  have hts := hC.1.2.2.2.2
  intro n
  induction n with
  | zero =>
    intro x1 μ H locs ls  hH hl h
    rw [fM_forgets_L11] at h
    cases h
  | succ n ih =>
    intro x1 μ H locs ls  hH hl h
    rw [fM_forgets_L11] at h
    refine lv_iload_n hx hb dX8_forgets_11 rfl (lv_at hl 1 rfl) ?_
    refine lv_sipush (v := 4096) hx hb dX8_forgets_12 (by decide) ?_
    refine lv_icmp_ge (tgt := 31) hx hb dX8_forgets_15 (by decide) (fun c5 => ?_) (fun c5 => ?_)
    · have h := ite_t c5 h
      exact hk31 μ H locs ls  hH (lv_sub hl [] rfl) h
    · have h := ite_f c5 h
      refine lv_aload_n hx hb dX8_forgets_18 rfl (lv_at hl 0 rfl) ?_
      refine m_get hC hH 13 (by decide) wfX8_47 rfl rfl dX8_forgets_19 ?_
      refine lv_iload_n hx hb dX8_forgets_22 rfl (lv_at hl 1 rfl) ?_
      refine lv_iconst (v := 0) hx hb dX8_forgets_23 (by decide) ?_
      obtain ⟨i6, h⟩ := ck_some h
      obtain ⟨μ7, e8, h⟩ := bnd_some h
      refine m_ast hC hH (a := 14) rfl rfl e8 i6 dX8_forgets_24 (fun H locs hH => ?_)
      obtain ⟨v9, e10, h⟩ := bnd_some h
      refine lv_iinc (v := v9) (lv' := [(1, .int v9), (0, .ref (B 0))]) hx hb dX8_forgets_25 hl (k := 1) rfl (by rw [e10]; rfl) (by decide) rfl (fun ls hl => ?_)
      refine lv_goto (tgt := 11) hx hb dX8_forgets_28 (by decide) ?_
      exact ih v9 μ7 H locs ls  hH (lv_sub hl [1, 0] rfl) h

def fM_forgets (μ0 : MS) : Option (MS) :=
  ob (fM_counts μ0 (0 : Int32)) fun r2 =>
  bnd (up2 μ0 0 12 r2) fun μ3 =>
  fM_forgets_L11 (fun (μ : MS) => some μ) 10000 (0 : Int32) μ3

set_option maxHeartbeats 4000000 in
set_option maxRecDepth 100000 in
theorem cM_forgets (l : Launch) (D : va_G) (cI : ClassId) (B : Nat → Nat) (μ0 : MS) {μr : MS} (h : fM_forgets μ0 = some μr) : ∀ sz, Met l yX8_forgets (Cond.code yX8_forgets cX8_forgets 2 none :: Tw) rmM_forgets (mP D cI B μ0 sz [.ref (B 0)]) (mQv D cI B μ0 sz μr) 0 0 (va_A (mW B cI μ0) sz) := by
  intro sz
  refine Met.ofW (cc := cX8_forgets) (maxL := 2) (ret := (none)) (by decide) rfl ?_
  intro p e s m args below meth c s₁ Bd hml hv
  obtain ⟨hC, hr⟩ := jC_of Bd hml
  obtain ⟨rfl, rfl, hH⟩ := m_enter hv
  have hC : jC p s m _ meth c cX8_forgets 2 RX8 := hC
  have hx := hC.1.1
  have hb := hC.1.2.1
  have hown := hC.1.2.2.2.1
  have hts := hC.1.2.2.2.2
  have hl := lv_entry ([.ref (B 0)]) (n := 2) (Nat.le_of_ble_eq_true rfl)
  rw [lg_entry_eq]
  generalize (lg_sl ([.ref (B 0)]) ++ List.replicate (2 - (lg_sl ([.ref (B 0)])).length) Slot.unset).toArray = ls at hl ⊢
  have hl : lv_has ls 2 [(0, .ref (B 0))] := hl
  unfold fM_forgets at h
  refine W_nm (fun H locs eH eL => ?_)
  have hH : mH D cI B s (va_A (mW B cI μ0) s.heap.size) μ0 H locs := by rw [eH, eL]; exact hH
  show W p l e rmM_forgets s m _ below meth c H locs 0 0 _ (F0 m 0 ls [])
  refine lv_aload_n hx hb dX8_forgets_0 rfl (lv_at hl 0 rfl) ?_
  refine lv_aload_n hx hb dX8_forgets_1 rfl (lv_at hl 0 rfl) ?_
  refine lv_iconst (v := 0) hx hb dX8_forgets_2 (by decide) ?_
  obtain ⟨r2, h1, h⟩ := ob_some h
  refine m_calli (As := [.int (0 : Int32)]) (rest := [.ref (B 0)]) (cM_counts l D cI B μ0 (0 : Int32) h1) hC hH hl (cwV 1 hts (gV wmX8_95 wvX8_counts) rfl rfl rfl hdX8_counts ⟨Nat.le_of_ble_eq_true rfl, Nat.le_of_ble_eq_true rfl⟩) rfl rfl (Nat.le_of_ble_eq_true rfl) ⟨Nat.zero_le _, Nat.zero_le _⟩ dX8_forgets_3 (fun H locs hH => ?_)
  obtain ⟨μ3, e4, h⟩ := bnd_some h
  refine m_put (ty := .int) hC hH 12 (by decide) wfX8_43 rfl rfl (by decide +kernel) rfl rfl e4 (mF_12 B _ _) dX8_forgets_6 (fun H locs hH => ?_)
  refine lv_iconst (v := 0) hx hb dX8_forgets_9 (by decide) ?_
  refine lv_istore_n (lv' := [(1, .int (0 : Int32)), (0, .ref (B 0))]) hx hb dX8_forgets_10 rfl hl (by decide) rfl (fun ls hl => ?_)
  refine wM_forgets_L11 hC hr  ?_ 10000 (0 : Int32) μ3 H locs ls  hH (lv_sub hl [1, 0] rfl) h
  intro μ H locs ls  hH hl h
  obtain rfl := some_i1 h
  exact m_vret hC hH hr dX8_forgets_31

def rmM_joined : Room := { frames := 0, cells := 0, slots := 0, locals := 0 }
theorem hdX8_joined : yX8_joined.cls ≠ "java/lang/invoke/MethodHandle" ∧ yX8_joined.cls ≠ "java/lang/invoke/VarHandle" ∧ (parseMethodDescriptor yX8_joined.desc).map (fun d => d.parameters.length) = some 3 := by decide +kernel

def fM_joined (μ0 : MS) (x0 : Int32) (x1 : Int32) (x2 : Int32) : Option (Int32) :=
  if x0 = (38 : Int32) then (
    if x1 = 0 then (
      some (0 : Int32))
    else (
      if x2 = 0 then (
        some (0 : Int32))
      else (
        some (1 : Int32))))
  else if x0 = (42 : Int32) then (
    some (x1 * x2))
  else if x0 = (43 : Int32) then (
    some (x1 + x2))
  else if x0 = (45 : Int32) then (
    some (x1 - x2))
  else if x0 = (47 : Int32) then (
    if x2 = 0 then (
      some (0 : Int32))
    else (
      if x2 = (-1 : Int32) then (
        some (-x1))
      else (
        nz x2 <|
        some (x1 / x2))))
  else if x0 = (60 : Int32) then (
    if x2 ≤ x1 then (
      some (0 : Int32))
    else (
      some (1 : Int32)))
  else if x0 = (61 : Int32) then (
    if x1 = x2 then (
      some (1 : Int32))
    else (
      some (0 : Int32)))
  else if x0 = (62 : Int32) then (
    if x1 ≤ x2 then (
      some (0 : Int32))
    else (
      some (1 : Int32)))
  else (
    if x1 = 0 then (
      if x2 = 0 then (
        some (0 : Int32))
      else (
        some (1 : Int32)))
    else (
      some (1 : Int32)))

set_option maxHeartbeats 4000000 in
set_option maxRecDepth 100000 in
theorem cM_joined (l : Launch) (D : va_G) (cI : ClassId) (B : Nat → Nat) (μ0 : MS) (x0 : Int32) (x1 : Int32) (x2 : Int32) {r : Int32} (h : fM_joined μ0 x0 x1 x2 = some r) : ∀ sz, Met l yX8_joined (Cond.code yX8_joined cX8_joined 3 (some .int) :: Tw) rmM_joined (mP D cI B μ0 sz [.int x0, .int x1, .int x2]) (mQi D cI B μ0 sz μ0 r) 0 0 (va_A (mW B cI μ0) sz) := by
  intro sz
  refine Met.ofW (cc := cX8_joined) (maxL := 3) (ret := (some .int)) (by decide) rfl ?_
  intro p e s m args below meth c s₁ Bd hml hv
  obtain ⟨hC, hr⟩ := jC_of Bd hml
  obtain ⟨rfl, rfl, hH⟩ := m_enter hv
  have hC : jC p s m _ meth c cX8_joined 3 RX8 := hC
  have hx := hC.1.1
  have hb := hC.1.2.1
  have hown := hC.1.2.2.2.1
  have hts := hC.1.2.2.2.2
  have hl := lv_entry ([.int x0, .int x1, .int x2]) (n := 3) (Nat.le_of_ble_eq_true rfl)
  rw [lg_entry_eq]
  generalize (lg_sl ([.int x0, .int x1, .int x2]) ++ List.replicate (3 - (lg_sl ([.int x0, .int x1, .int x2])).length) Slot.unset).toArray = ls at hl ⊢
  have hl : lv_has ls 3 [(0, .int x0), (1, .int x1), (2, .int x2)] := hl
  unfold fM_joined at h
  refine W_nm (fun H locs eH eL => ?_)
  have hH : mH D cI B s (va_A (mW B cI μ0) s.heap.size) μ0 H locs := by rw [eH, eL]; exact hH
  show W p l e rmM_joined s m _ below meth c H locs 0 0 _ (F0 m 0 ls [])
  refine lv_iload_n hx hb dX8_joined_0 rfl (lv_at hl 0 rfl) ?_
  by_cases c1 : x0 = (38 : Int32)
  · have h := ite_t c1 h
    refine lv_tsw (tgt := 183) (off := 182) hx hb (38) c1 dX8_joined_1 (by decide) (by decide) (by decide) (by decide) ?_
    refine lv_iload_n hx hb dX8_joined_183 rfl (lv_at hl 1 rfl) ?_
    refine lv_if_eq (tgt := 195) hx hb dX8_joined_184 (by decide) (fun c2 => ?_) (fun c2 => ?_)
    · have h := ite_t c2 h
      refine lv_iconst (v := 0) hx hb dX8_joined_195 (by decide) ?_
      obtain rfl := some_i1 h
      exact m_iret (v := 0) hC hH hr rfl dX8_joined_196
    · have h := ite_f c2 h
      refine lv_iload_n hx hb dX8_joined_187 rfl (lv_at hl 2 rfl) ?_
      refine lv_if_eq (tgt := 195) hx hb dX8_joined_188 (by decide) (fun c3 => ?_) (fun c3 => ?_)
      · have h := ite_t c3 h
        refine lv_iconst (v := 0) hx hb dX8_joined_195 (by decide) ?_
        obtain rfl := some_i1 h
        exact m_iret (v := 0) hC hH hr rfl dX8_joined_196
      · have h := ite_f c3 h
        refine lv_iconst (v := 1) hx hb dX8_joined_191 (by decide) ?_
        refine lv_goto (tgt := 196) hx hb dX8_joined_192 (by decide) ?_
        obtain rfl := some_i1 h
        exact m_iret (v := 1) hC hH hr rfl dX8_joined_196
  · have h := ite_f c1 h
    by_cases c4 : x0 = (42 : Int32)
    · have h := ite_t c4 h
      refine lv_tsw (tgt := 124) (off := 123) hx hb (42) c4 dX8_joined_1 (by decide) (by decide) (by decide) (by decide) ?_
      refine lv_iload_n hx hb dX8_joined_124 rfl (lv_at hl 1 rfl) ?_
      refine lv_iload_n hx hb dX8_joined_125 rfl (lv_at hl 2 rfl) ?_
      refine lv_imul hx hb dX8_joined_126 ?_
      obtain rfl := some_i1 h
      exact m_iret hC hH hr rfl dX8_joined_127
    · have h := ite_f c4 h
      by_cases c5 : x0 = (43 : Int32)
      · have h := ite_t c5 h
        refine lv_tsw (tgt := 116) (off := 115) hx hb (43) c5 dX8_joined_1 (by decide) (by decide) (by decide) (by decide) ?_
        refine lv_iload_n hx hb dX8_joined_116 rfl (lv_at hl 1 rfl) ?_
        refine lv_iload_n hx hb dX8_joined_117 rfl (lv_at hl 2 rfl) ?_
        refine lv_iadd hx hb dX8_joined_118 ?_
        obtain rfl := some_i1 h
        exact m_iret hC hH hr rfl dX8_joined_119
      · have h := ite_f c5 h
        by_cases c6 : x0 = (45 : Int32)
        · have h := ite_t c6 h
          refine lv_tsw (tgt := 120) (off := 119) hx hb (45) c6 dX8_joined_1 (by decide) (by decide) (by decide) (by decide) ?_
          refine lv_iload_n hx hb dX8_joined_120 rfl (lv_at hl 1 rfl) ?_
          refine lv_iload_n hx hb dX8_joined_121 rfl (lv_at hl 2 rfl) ?_
          refine lv_isub hx hb dX8_joined_122 ?_
          obtain rfl := some_i1 h
          exact m_iret hC hH hr rfl dX8_joined_123
        · have h := ite_f c6 h
          by_cases c7 : x0 = (47 : Int32)
          · have h := ite_t c7 h
            refine lv_tsw (tgt := 128) (off := 127) hx hb (47) c7 dX8_joined_1 (by decide) (by decide) (by decide) (by decide) ?_
            refine lv_iload_n hx hb dX8_joined_128 rfl (lv_at hl 2 rfl) ?_
            refine lv_if_ne (tgt := 136) hx hb dX8_joined_129 (by decide) (fun c8 => ?_) (fun c8 => ?_)
            · have h := ite_f c8 h
              refine lv_iload_n hx hb dX8_joined_136 rfl (lv_at hl 2 rfl) ?_
              refine lv_iconst (v := -1) hx hb dX8_joined_137 (by decide) ?_
              refine lv_icmp_ne (tgt := 146) hx hb dX8_joined_138 (by decide) (fun c9 => ?_) (fun c9 => ?_)
              · have h := ite_f c9 h
                refine lv_iload_n hx hb dX8_joined_146 rfl (lv_at hl 1 rfl) ?_
                refine lv_iload_n hx hb dX8_joined_147 rfl (lv_at hl 2 rfl) ?_
                obtain ⟨z10, h⟩ := nz_some h
                refine lv_idiv hx hb dX8_joined_148 z10 ?_
                obtain rfl := some_i1 h
                exact m_iret hC hH hr rfl dX8_joined_149
              · have h := ite_t c9 h
                refine lv_iload_n hx hb dX8_joined_141 rfl (lv_at hl 1 rfl) ?_
                refine lv_ineg hx hb dX8_joined_142 ?_
                refine lv_goto (tgt := 149) hx hb dX8_joined_143 (by decide) ?_
                obtain rfl := some_i1 h
                exact m_iret hC hH hr rfl dX8_joined_149
            · have h := ite_t c8 h
              refine lv_iconst (v := 0) hx hb dX8_joined_132 (by decide) ?_
              refine lv_goto (tgt := 149) hx hb dX8_joined_133 (by decide) ?_
              obtain rfl := some_i1 h
              exact m_iret (v := 0) hC hH hr rfl dX8_joined_149
          · have h := ite_f c7 h
            by_cases c11 : x0 = (60 : Int32)
            · have h := ite_t c11 h
              refine lv_tsw (tgt := 150) (off := 149) hx hb (60) c11 dX8_joined_1 (by decide) (by decide) (by decide) (by decide) ?_
              refine lv_iload_n hx hb dX8_joined_150 rfl (lv_at hl 1 rfl) ?_
              refine lv_iload_n hx hb dX8_joined_151 rfl (lv_at hl 2 rfl) ?_
              refine lv_icmp_ge (tgt := 159) hx hb dX8_joined_152 (by decide) (fun c12 => ?_) (fun c12 => ?_)
              · have h := ite_t c12 h
                refine lv_iconst (v := 0) hx hb dX8_joined_159 (by decide) ?_
                obtain rfl := some_i1 h
                exact m_iret (v := 0) hC hH hr rfl dX8_joined_160
              · have h := ite_f c12 h
                refine lv_iconst (v := 1) hx hb dX8_joined_155 (by decide) ?_
                refine lv_goto (tgt := 160) hx hb dX8_joined_156 (by decide) ?_
                obtain rfl := some_i1 h
                exact m_iret (v := 1) hC hH hr rfl dX8_joined_160
            · have h := ite_f c11 h
              by_cases c13 : x0 = (61 : Int32)
              · have h := ite_t c13 h
                refine lv_tsw (tgt := 172) (off := 171) hx hb (61) c13 dX8_joined_1 (by decide) (by decide) (by decide) (by decide) ?_
                refine lv_iload_n hx hb dX8_joined_172 rfl (lv_at hl 1 rfl) ?_
                refine lv_iload_n hx hb dX8_joined_173 rfl (lv_at hl 2 rfl) ?_
                refine lv_icmp_ne (tgt := 181) hx hb dX8_joined_174 (by decide) (fun c14 => ?_) (fun c14 => ?_)
                · have h := ite_f c14 h
                  refine lv_iconst (v := 0) hx hb dX8_joined_181 (by decide) ?_
                  obtain rfl := some_i1 h
                  exact m_iret (v := 0) hC hH hr rfl dX8_joined_182
                · have h := ite_t c14 h
                  refine lv_iconst (v := 1) hx hb dX8_joined_177 (by decide) ?_
                  refine lv_goto (tgt := 182) hx hb dX8_joined_178 (by decide) ?_
                  obtain rfl := some_i1 h
                  exact m_iret (v := 1) hC hH hr rfl dX8_joined_182
              · have h := ite_f c13 h
                by_cases c15 : x0 = (62 : Int32)
                · have h := ite_t c15 h
                  refine lv_tsw (tgt := 161) (off := 160) hx hb (62) c15 dX8_joined_1 (by decide) (by decide) (by decide) (by decide) ?_
                  refine lv_iload_n hx hb dX8_joined_161 rfl (lv_at hl 1 rfl) ?_
                  refine lv_iload_n hx hb dX8_joined_162 rfl (lv_at hl 2 rfl) ?_
                  refine lv_icmp_le (tgt := 170) hx hb dX8_joined_163 (by decide) (fun c16 => ?_) (fun c16 => ?_)
                  · have h := ite_t c16 h
                    refine lv_iconst (v := 0) hx hb dX8_joined_170 (by decide) ?_
                    obtain rfl := some_i1 h
                    exact m_iret (v := 0) hC hH hr rfl dX8_joined_171
                  · have h := ite_f c16 h
                    refine lv_iconst (v := 1) hx hb dX8_joined_166 (by decide) ?_
                    refine lv_goto (tgt := 171) hx hb dX8_joined_167 (by decide) ?_
                    obtain rfl := some_i1 h
                    exact m_iret (v := 1) hC hH hr rfl dX8_joined_171
                · have h := ite_f c15 h
                  refine lv_tswd (tgt := 197) hx hb [38, 42, 43, 45, 47, 60, 61, 62] (by simp only [List.mem_cons, List.not_mem_nil, or_false]; intro z hz; rcases hz with rfl | rfl | rfl | rfl | rfl | rfl | rfl | rfl <;> first | exact i32ne c1 (by decide) | exact i32ne c4 (by decide) | exact i32ne c5 (by decide) | exact i32ne c6 (by decide) | exact i32ne c7 (by decide) | exact i32ne c11 (by decide) | exact i32ne c13 (by decide) | exact i32ne c15 (by decide)) dX8_joined_1 (by decide) (by decide) (by decide) ?_
                  refine lv_iload_n hx hb dX8_joined_197 rfl (lv_at hl 1 rfl) ?_
                  refine lv_if_ne (tgt := 205) hx hb dX8_joined_198 (by decide) (fun c17 => ?_) (fun c17 => ?_)
                  · have h := ite_f c17 h
                    refine lv_iconst (v := 1) hx hb dX8_joined_205 (by decide) ?_
                    refine lv_goto (tgt := 210) hx hb dX8_joined_206 (by decide) ?_
                    obtain rfl := some_i1 h
                    exact m_iret (v := 1) hC hH hr rfl dX8_joined_210
                  · have h := ite_t c17 h
                    refine lv_iload_n hx hb dX8_joined_201 rfl (lv_at hl 2 rfl) ?_
                    refine lv_if_eq (tgt := 209) hx hb dX8_joined_202 (by decide) (fun c18 => ?_) (fun c18 => ?_)
                    · have h := ite_t c18 h
                      refine lv_iconst (v := 0) hx hb dX8_joined_209 (by decide) ?_
                      obtain rfl := some_i1 h
                      exact m_iret (v := 0) hC hH hr rfl dX8_joined_210
                    · have h := ite_f c18 h
                      refine lv_iconst (v := 1) hx hb dX8_joined_205 (by decide) ?_
                      refine lv_goto (tgt := 210) hx hb dX8_joined_206 (by decide) ?_
                      obtain rfl := some_i1 h
                      exact m_iret (v := 1) hC hH hr rfl dX8_joined_210

def rmM_worked : Room := { frames := 1, cells := 0, slots := 0, locals := 22 }
theorem hdX8_worked : yX8_worked.cls = RX8 ∧ yX8_worked.cls ≠ "java/lang/invoke/MethodHandle" ∧ yX8_worked.cls ≠ "java/lang/invoke/VarHandle" ∧ (parseMethodDescriptor yX8_worked.desc).map (fun d => d.parameters.length) = some 1 := by decide +kernel

def fM_worked_L34 (k165 : MS → Option (Int32 × MS)) : Nat → Int32 → Int32 → Int32 → MS → Option (Int32 × MS)
  | 0, _, _, _, _ => none
  | n + 1, x2, x3, x4, μ =>
    if x3 ≤ x4 then (
      k165 μ)
    else (
      ck x4 (3076) <|
      bnd (μ 1 (x4).toNatClampNeg) fun v14 =>
      ck (x4 + (1 : Int32)) (3076) <|
      bnd (μ 1 ((x4 + (1 : Int32))).toNatClampNeg) fun v17 =>
      if v14 = (2 : Int32) then (
        if v17 = (33 : Int32) then (
          ck (x2 - (1 : Int32)) (100) <|
          if (μ 30 ((x2 - (1 : Int32))).toNatClampNeg) = 0 then (
            ck (x2 - (1 : Int32)) (100) <|
            bnd (up2 μ 30 ((x2 - (1 : Int32))).toNatClampNeg (1 : Int32)) fun μ40 =>
            bnd (x4 + (2 : Int32)) fun v42 =>
            (fM_worked_L34 k165 n) x2 x3 v42 μ40)
          else (
            ck (x2 - (1 : Int32)) (100) <|
            bnd (up2 μ 30 ((x2 - (1 : Int32))).toNatClampNeg (0 : Int32)) fun μ35 =>
            bnd (x4 + (2 : Int32)) fun v37 =>
            (fM_worked_L34 k165 n) x2 x3 v37 μ35))
        else (
          bnd (x2 + (-1 : Int32)) fun v21 =>
          ck (v21 - (1 : Int32)) (100) <|
          ck v21 (100) <|
          ob (fM_joined μ v17 (μ 30 ((v21 - (1 : Int32))).toNatClampNeg) (μ 30 (v21).toNatClampNeg)) fun r26 =>
          ck (v21 - (1 : Int32)) (100) <|
          bnd (up2 μ 30 ((v21 - (1 : Int32))).toNatClampNeg r26) fun μ28 =>
          bnd (x4 + (2 : Int32)) fun v30 =>
          (fM_worked_L34 k165 n) v21 x3 v30 μ28))
      else (
        if v14 = 0 then (
          ck x2 (100) <|
          bnd (up2 μ 30 (x2).toNatClampNeg v17) fun μ54 =>
          bnd (x2 + (1 : Int32)) fun v56 =>
          bnd (x4 + (2 : Int32)) fun v58 =>
          (fM_worked_L34 k165 n) v56 x3 v58 μ54)
        else (
          ck v17 (128) <|
          ck x2 (100) <|
          bnd (up2 μ 30 (x2).toNatClampNeg (μ 29 (v17).toNatClampNeg)) fun μ47 =>
          bnd (x2 + (1 : Int32)) fun v49 =>
          bnd (x4 + (2 : Int32)) fun v51 =>
          (fM_worked_L34 k165 n) v49 x3 v51 μ47)))

set_option maxHeartbeats 4000000 in
set_option maxRecDepth 100000 in
theorem wM_worked_L34 {p : Program} {l : Launch} {e : Env} {s : State} {m : MethodId} {args : Array Value} {below : List Frame} {meth : Method} {c : Code} {D : va_G} {cI : ClassId} {B : Nat → Nat} {μ0 : MS} {r : Int32} {μr : MS} (hC : jC p s m args meth c cX8_worked 7 RX8) (hr : meth.sig.returnType = some .int) {k165 : MS → Option (Int32 × MS)} (hk165 : ∀ (μ : MS) (H : Heap) (locs : List Loc) (ls : Array Slot), mH D cI B s (va_A (mW B cI μ0) s.heap.size) μ H locs → lv_has ls 7 [(0, .ref (B 0))] → k165 μ = some (r, μr) → W p l e rmM_worked s m args below meth c H locs 0 0 (MQ below (mQi D cI B μ0 s.heap.size μr r) args s 0 0 (va_A (mW B cI μ0) s.heap.size)) (F0 m 165 ls [])) : ∀ (n : Nat) (x2 : Int32) (x3 : Int32) (x4 : Int32) (μ : MS) (H : Heap) (locs : List Loc) (ls : Array Slot), mH D cI B s (va_A (mW B cI μ0) s.heap.size) μ H locs → lv_has ls 7 [(0, .ref (B 0)), (2, .int x2), (3, .int x3), (4, .int x4)] → fM_worked_L34 k165 n x2 x3 x4 μ = some (r, μr) → W p l e rmM_worked s m args below meth c H locs 0 0 (MQ below (mQi D cI B μ0 s.heap.size μr r) args s 0 0 (va_A (mW B cI μ0) s.heap.size)) (F0 m 34 ls []) := by
  have hx := hC.1.1
  have hb := hC.1.2.1
  have hown := hC.1.2.2.2.1
  have hts := hC.1.2.2.2.2
  intro n
  induction n with
  | zero =>
    intro x2 x3 x4 μ H locs ls  hH hl h
    rw [fM_worked_L34] at h
    cases h
  | succ n ih =>
    intro x2 x3 x4 μ H locs ls  hH hl h
    rw [fM_worked_L34] at h
    refine lv_iload hx hb dX8_worked_34 (lv_at hl 3 rfl) ?_
    refine lv_iload_n hx hb dX8_worked_36 rfl (lv_at hl 2 rfl) ?_
    refine lv_icmp_ge (tgt := 165) hx hb dX8_worked_37 (by decide) (fun c12 => ?_) (fun c12 => ?_)
    · have h := ite_t c12 h
      exact hk165 μ H locs ls  hH (lv_sub hl [0] rfl) h
    · have h := ite_f c12 h
      refine lv_aload_n hx hb dX8_worked_40 rfl (lv_at hl 0 rfl) ?_
      refine m_get hC hH 0 (by decide) wfX8_7 rfl rfl dX8_worked_41 ?_
      refine lv_iload hx hb dX8_worked_44 (lv_at hl 3 rfl) ?_
      obtain ⟨i13, h⟩ := ck_some h
      refine m_ald hC hH (a := 1) rfl rfl i13 dX8_worked_46 ?_
      obtain ⟨v14, e15, h⟩ := bnd_some h
      refine lv_tope e15 ?_
      refine lv_istore (lv' := [(5, .int v14), (0, .ref (B 0)), (2, .int x2), (3, .int x3), (4, .int x4)]) hx hb dX8_worked_47 hl (by decide) rfl (fun ls hl => ?_)
      refine lv_aload_n hx hb dX8_worked_49 rfl (lv_at hl 1 rfl) ?_
      refine m_get hC hH 0 (by decide) wfX8_7 rfl rfl dX8_worked_50 ?_
      refine lv_iload hx hb dX8_worked_53 (lv_at hl 4 rfl) ?_
      refine lv_iconst (v := 1) hx hb dX8_worked_55 (by decide) ?_
      refine lv_iadd hx hb dX8_worked_56 ?_
      obtain ⟨i16, h⟩ := ck_some h
      refine m_ald hC hH (a := 1) rfl rfl i16 dX8_worked_57 ?_
      obtain ⟨v17, e18, h⟩ := bnd_some h
      refine lv_tope e18 ?_
      refine lv_istore (lv' := [(6, .int v17), (5, .int v14), (0, .ref (B 0)), (2, .int x2), (3, .int x3), (4, .int x4)]) hx hb dX8_worked_58 hl (by decide) rfl (fun ls hl => ?_)
      refine lv_iload hx hb dX8_worked_60 (lv_at hl 1 rfl) ?_
      refine lv_iconst (v := 2) hx hb dX8_worked_62 (by decide) ?_
      refine lv_icmp_eq (tgt := 95) hx hb dX8_worked_63 (by decide) (fun c19 => ?_) (fun c19 => ?_)
      · have h := ite_t c19 h
        refine lv_iload hx hb dX8_worked_95 (lv_at hl 0 rfl) ?_
        refine lv_bipush (v := 33) hx hb dX8_worked_97 (by decide) ?_
        refine lv_icmp_ne (tgt := 129) hx hb dX8_worked_99 (by decide) (fun c20 => ?_) (fun c20 => ?_)
        · have h := ite_f c20 h
          obtain ⟨v21, e22, h⟩ := bnd_some h
          refine lv_iinc (v := v21) (lv' := [(2, .int v21), (6, .int v17), (5, .int v14), (0, .ref (B 0)), (3, .int x3), (4, .int x4)]) hx hb dX8_worked_129 hl (k := 3) rfl (by rw [e22]; rfl) (by decide) rfl (fun ls hl => ?_)
          refine lv_aload_n hx hb dX8_worked_132 rfl (lv_at hl 3 rfl) ?_
          refine m_get hC hH 29 (by decide) wfX8_62 rfl rfl dX8_worked_133 ?_
          refine lv_iload_n hx hb dX8_worked_136 rfl (lv_at hl 0 rfl) ?_
          refine lv_iconst (v := 1) hx hb dX8_worked_137 (by decide) ?_
          refine lv_isub hx hb dX8_worked_138 ?_
          refine lv_iload hx hb dX8_worked_139 (lv_at hl 1 rfl) ?_
          refine lv_aload_n hx hb dX8_worked_141 rfl (lv_at hl 3 rfl) ?_
          refine m_get hC hH 29 (by decide) wfX8_62 rfl rfl dX8_worked_142 ?_
          refine lv_iload_n hx hb dX8_worked_145 rfl (lv_at hl 0 rfl) ?_
          refine lv_iconst (v := 1) hx hb dX8_worked_146 (by decide) ?_
          refine lv_isub hx hb dX8_worked_147 ?_
          obtain ⟨i23, h⟩ := ck_some h
          refine m_ald hC hH (a := 30) rfl rfl i23 dX8_worked_148 ?_
          refine lv_aload_n hx hb dX8_worked_149 rfl (lv_at hl 3 rfl) ?_
          refine m_get hC hH 29 (by decide) wfX8_62 rfl rfl dX8_worked_150 ?_
          refine lv_iload_n hx hb dX8_worked_153 rfl (lv_at hl 0 rfl) ?_
          obtain ⟨i24, h⟩ := ck_some h
          refine m_ald hC hH (a := 30) rfl rfl i24 dX8_worked_154 ?_
          obtain ⟨r26, h25, h⟩ := ob_some h
          refine m_calls (As := [.int v17, .int (μ 30 ((v21 - (1 : Int32))).toNatClampNeg), .int (μ 30 (v21).toNatClampNeg)]) (rest := [.int (v21 - (1 : Int32)), .ref (B 30)]) (cM_joined l D cI B μ v17 (μ 30 ((v21 - (1 : Int32))).toNatClampNeg) (μ 30 (v21).toNatClampNeg) h25) hC hH hl (va_cwS 3 hts (gS wmX8_291 wsX8_joined) rfl rfl rfl hdX8_joined ⟨Nat.le_of_ble_eq_true rfl, Nat.le_of_ble_eq_true rfl⟩) rfl rfl (Nat.le_of_ble_eq_true rfl) ⟨Nat.zero_le _, Nat.zero_le _⟩ dX8_worked_155 (fun H locs hH => ?_)
          obtain ⟨i27, h⟩ := ck_some h
          obtain ⟨μ28, e29, h⟩ := bnd_some h
          refine m_ast hC hH (a := 30) rfl rfl e29 i27 dX8_worked_158 (fun H locs hH => ?_)
          obtain ⟨v30, e31, h⟩ := bnd_some h
          refine lv_iinc (v := v30) (lv' := [(4, .int v30), (2, .int v21), (6, .int v17), (5, .int v14), (0, .ref (B 0)), (3, .int x3)]) hx hb dX8_worked_159 hl (k := 5) rfl (by rw [e31]; rfl) (by decide) rfl (fun ls hl => ?_)
          refine lv_goto (tgt := 34) hx hb dX8_worked_162 (by decide) ?_
          exact ih v21 x3 v30 μ28 H locs ls  hH (lv_sub hl [4, 1, 5, 0] rfl) h
        · have h := ite_t c20 h
          refine lv_aload_n hx hb dX8_worked_102 rfl (lv_at hl 2 rfl) ?_
          refine m_get hC hH 29 (by decide) wfX8_62 rfl rfl dX8_worked_103 ?_
          refine lv_iload_n hx hb dX8_worked_106 rfl (lv_at hl 3 rfl) ?_
          refine lv_iconst (v := 1) hx hb dX8_worked_107 (by decide) ?_
          refine lv_isub hx hb dX8_worked_108 ?_
          refine lv_aload_n hx hb dX8_worked_109 rfl (lv_at hl 2 rfl) ?_
          refine m_get hC hH 29 (by decide) wfX8_62 rfl rfl dX8_worked_110 ?_
          refine lv_iload_n hx hb dX8_worked_113 rfl (lv_at hl 3 rfl) ?_
          refine lv_iconst (v := 1) hx hb dX8_worked_114 (by decide) ?_
          refine lv_isub hx hb dX8_worked_115 ?_
          obtain ⟨i32, h⟩ := ck_some h
          refine m_ald hC hH (a := 30) rfl rfl i32 dX8_worked_116 ?_
          refine lv_if_ne (tgt := 124) hx hb dX8_worked_117 (by decide) (fun c33 => ?_) (fun c33 => ?_)
          · have h := ite_f c33 h
            refine lv_iconst (v := 0) hx hb dX8_worked_124 (by decide) ?_
            obtain ⟨i34, h⟩ := ck_some h
            obtain ⟨μ35, e36, h⟩ := bnd_some h
            refine m_ast hC hH (a := 30) rfl rfl e36 i34 dX8_worked_125 (fun H locs hH => ?_)
            refine lv_goto (tgt := 159) hx hb dX8_worked_126 (by decide) ?_
            obtain ⟨v37, e38, h⟩ := bnd_some h
            refine lv_iinc (v := v37) (lv' := [(4, .int v37), (6, .int v17), (5, .int v14), (0, .ref (B 0)), (2, .int x2), (3, .int x3)]) hx hb dX8_worked_159 hl (k := 5) rfl (by rw [e38]; rfl) (by decide) rfl (fun ls hl => ?_)
            refine lv_goto (tgt := 34) hx hb dX8_worked_162 (by decide) ?_
            exact ih x2 x3 v37 μ35 H locs ls  hH (lv_sub hl [3, 4, 5, 0] rfl) h
          · have h := ite_t c33 h
            refine lv_iconst (v := 1) hx hb dX8_worked_120 (by decide) ?_
            refine lv_goto (tgt := 125) hx hb dX8_worked_121 (by decide) ?_
            obtain ⟨i39, h⟩ := ck_some h
            obtain ⟨μ40, e41, h⟩ := bnd_some h
            refine m_ast hC hH (a := 30) rfl rfl e41 i39 dX8_worked_125 (fun H locs hH => ?_)
            refine lv_goto (tgt := 159) hx hb dX8_worked_126 (by decide) ?_
            obtain ⟨v42, e43, h⟩ := bnd_some h
            refine lv_iinc (v := v42) (lv' := [(4, .int v42), (6, .int v17), (5, .int v14), (0, .ref (B 0)), (2, .int x2), (3, .int x3)]) hx hb dX8_worked_159 hl (k := 5) rfl (by rw [e43]; rfl) (by decide) rfl (fun ls hl => ?_)
            refine lv_goto (tgt := 34) hx hb dX8_worked_162 (by decide) ?_
            exact ih x2 x3 v42 μ40 H locs ls  hH (lv_sub hl [3, 4, 5, 0] rfl) h
      · have h := ite_f c19 h
        refine lv_aload_n hx hb dX8_worked_66 rfl (lv_at hl 2 rfl) ?_
        refine m_get hC hH 29 (by decide) wfX8_62 rfl rfl dX8_worked_67 ?_
        refine lv_iload_n hx hb dX8_worked_70 rfl (lv_at hl 3 rfl) ?_
        refine lv_iload hx hb dX8_worked_71 (lv_at hl 1 rfl) ?_
        refine lv_if_ne (tgt := 81) hx hb dX8_worked_73 (by decide) (fun c44 => ?_) (fun c44 => ?_)
        · have h := ite_f c44 h
          refine lv_aload_n hx hb dX8_worked_81 rfl (lv_at hl 2 rfl) ?_
          refine m_get hC hH 28 (by decide) wfX8_59 rfl rfl dX8_worked_82 ?_
          refine lv_iload hx hb dX8_worked_85 (lv_at hl 0 rfl) ?_
          obtain ⟨i45, h⟩ := ck_some h
          refine m_ald hC hH (a := 29) rfl rfl i45 dX8_worked_87 ?_
          obtain ⟨i46, h⟩ := ck_some h
          obtain ⟨μ47, e48, h⟩ := bnd_some h
          refine m_ast hC hH (a := 30) rfl rfl e48 i46 dX8_worked_88 (fun H locs hH => ?_)
          obtain ⟨v49, e50, h⟩ := bnd_some h
          refine lv_iinc (v := v49) (lv' := [(2, .int v49), (6, .int v17), (5, .int v14), (0, .ref (B 0)), (3, .int x3), (4, .int x4)]) hx hb dX8_worked_89 hl (k := 3) rfl (by rw [e50]; rfl) (by decide) rfl (fun ls hl => ?_)
          refine lv_goto (tgt := 159) hx hb dX8_worked_92 (by decide) ?_
          obtain ⟨v51, e52, h⟩ := bnd_some h
          refine lv_iinc (v := v51) (lv' := [(4, .int v51), (2, .int v49), (6, .int v17), (5, .int v14), (0, .ref (B 0)), (3, .int x3)]) hx hb dX8_worked_159 hl (k := 5) rfl (by rw [e52]; rfl) (by decide) rfl (fun ls hl => ?_)
          refine lv_goto (tgt := 34) hx hb dX8_worked_162 (by decide) ?_
          exact ih v49 x3 v51 μ47 H locs ls  hH (lv_sub hl [4, 1, 5, 0] rfl) h
        · have h := ite_t c44 h
          refine lv_iload hx hb dX8_worked_76 (lv_at hl 0 rfl) ?_
          refine lv_goto (tgt := 88) hx hb dX8_worked_78 (by decide) ?_
          obtain ⟨i53, h⟩ := ck_some h
          obtain ⟨μ54, e55, h⟩ := bnd_some h
          refine m_ast hC hH (a := 30) rfl rfl e55 i53 dX8_worked_88 (fun H locs hH => ?_)
          obtain ⟨v56, e57, h⟩ := bnd_some h
          refine lv_iinc (v := v56) (lv' := [(2, .int v56), (6, .int v17), (5, .int v14), (0, .ref (B 0)), (3, .int x3), (4, .int x4)]) hx hb dX8_worked_89 hl (k := 3) rfl (by rw [e57]; rfl) (by decide) rfl (fun ls hl => ?_)
          refine lv_goto (tgt := 159) hx hb dX8_worked_92 (by decide) ?_
          obtain ⟨v58, e59, h⟩ := bnd_some h
          refine lv_iinc (v := v58) (lv' := [(4, .int v58), (2, .int v56), (6, .int v17), (5, .int v14), (0, .ref (B 0)), (3, .int x3)]) hx hb dX8_worked_159 hl (k := 5) rfl (by rw [e59]; rfl) (by decide) rfl (fun ls hl => ?_)
          refine lv_goto (tgt := 34) hx hb dX8_worked_162 (by decide) ?_
          exact ih v56 x3 v58 μ54 H locs ls  hH (lv_sub hl [4, 1, 5, 0] rfl) h

def fM_worked (μ0 : MS) (x1 : Int32) : Option (Int32 × MS) :=
  ob (fM_textAt μ0 x1) fun r2 =>
  ob (fM_textAt μ0 x1) fun r4 =>
  ck (r4 + (2 : Int32)) (3076) <|
  bnd ((r2 + (4 : Int32)) + ((2 : Int32) * (μ0 1 ((r4 + (2 : Int32))).toNatClampNeg))) fun v6 =>
  ob (fM_textAt μ0 x1) fun r9 =>
  bnd (r9 + (4 : Int32)) fun v10 =>
  fM_worked_L34 (fun (μ : MS) => some ((μ 30 0), μ)) 10000 (0 : Int32) v6 v10 μ0

set_option maxHeartbeats 4000000 in
set_option maxRecDepth 100000 in
theorem cM_worked (l : Launch) (D : va_G) (cI : ClassId) (B : Nat → Nat) (μ0 : MS) (x1 : Int32) {r : Int32} {μr : MS} (h : fM_worked μ0 x1 = some (r, μr)) : ∀ sz, Met l yX8_worked (Cond.code yX8_worked cX8_worked 7 (some .int) :: Tw) rmM_worked (mP D cI B μ0 sz [.ref (B 0), .int x1]) (mQi D cI B μ0 sz μr r) 0 0 (va_A (mW B cI μ0) sz) := by
  intro sz
  refine Met.ofW (cc := cX8_worked) (maxL := 7) (ret := (some .int)) (by decide) rfl ?_
  intro p e s m args below meth c s₁ Bd hml hv
  obtain ⟨hC, hr⟩ := jC_of Bd hml
  obtain ⟨rfl, rfl, hH⟩ := m_enter hv
  have hC : jC p s m _ meth c cX8_worked 7 RX8 := hC
  have hx := hC.1.1
  have hb := hC.1.2.1
  have hown := hC.1.2.2.2.1
  have hts := hC.1.2.2.2.2
  have hl := lv_entry ([.ref (B 0), .int x1]) (n := 7) (Nat.le_of_ble_eq_true rfl)
  rw [lg_entry_eq]
  generalize (lg_sl ([.ref (B 0), .int x1]) ++ List.replicate (7 - (lg_sl ([.ref (B 0), .int x1])).length) Slot.unset).toArray = ls at hl ⊢
  have hl : lv_has ls 7 [(0, .ref (B 0)), (1, .int x1)] := hl
  unfold fM_worked at h
  refine W_nm (fun H locs eH eL => ?_)
  have hH : mH D cI B s (va_A (mW B cI μ0) s.heap.size) μ0 H locs := by rw [eH, eL]; exact hH
  show W p l e rmM_worked s m _ below meth c H locs 0 0 _ (F0 m 0 ls [])
  refine lv_iconst (v := 0) hx hb dX8_worked_0 (by decide) ?_
  refine lv_istore_n (lv' := [(2, .int (0 : Int32)), (0, .ref (B 0)), (1, .int x1)]) hx hb dX8_worked_1 rfl hl (by decide) rfl (fun ls hl => ?_)
  refine lv_aload_n hx hb dX8_worked_2 rfl (lv_at hl 1 rfl) ?_
  refine lv_iload_n hx hb dX8_worked_3 rfl (lv_at hl 2 rfl) ?_
  obtain ⟨r2, h1, h⟩ := ob_some h
  refine m_calli (As := [.int x1]) (rest := []) (cM_textAt l D cI B μ0 x1 h1) hC hH hl (cwV 1 hts (gV wmX8_276 wvX8_textAt) rfl rfl rfl hdX8_textAt ⟨Nat.le_of_ble_eq_true rfl, Nat.le_of_ble_eq_true rfl⟩) rfl rfl (Nat.le_of_ble_eq_true rfl) ⟨Nat.zero_le _, Nat.zero_le _⟩ dX8_worked_4 (fun H locs hH => ?_)
  refine lv_iconst (v := 4) hx hb dX8_worked_7 (by decide) ?_
  refine lv_iadd hx hb dX8_worked_8 ?_
  refine lv_iconst (v := 2) hx hb dX8_worked_9 (by decide) ?_
  refine lv_aload_n hx hb dX8_worked_10 rfl (lv_at hl 1 rfl) ?_
  refine m_get hC hH 0 (by decide) wfX8_7 rfl rfl dX8_worked_11 ?_
  refine lv_aload_n hx hb dX8_worked_14 rfl (lv_at hl 1 rfl) ?_
  refine lv_iload_n hx hb dX8_worked_15 rfl (lv_at hl 2 rfl) ?_
  obtain ⟨r4, h3, h⟩ := ob_some h
  refine m_calli (As := [.int x1]) (rest := [.ref (B 1), .int (2 : Int32), .int (r2 + (4 : Int32))]) (cM_textAt l D cI B μ0 x1 h3) hC hH hl (cwV 1 hts (gV wmX8_276 wvX8_textAt) rfl rfl rfl hdX8_textAt ⟨Nat.le_of_ble_eq_true rfl, Nat.le_of_ble_eq_true rfl⟩) rfl rfl (Nat.le_of_ble_eq_true rfl) ⟨Nat.zero_le _, Nat.zero_le _⟩ dX8_worked_16 (fun H locs hH => ?_)
  refine lv_iconst (v := 2) hx hb dX8_worked_19 (by decide) ?_
  refine lv_iadd hx hb dX8_worked_20 ?_
  obtain ⟨i5, h⟩ := ck_some h
  refine m_ald hC hH (a := 1) rfl rfl i5 dX8_worked_21 ?_
  refine lv_imul hx hb dX8_worked_22 ?_
  refine lv_iadd hx hb dX8_worked_23 ?_
  obtain ⟨v6, e7, h⟩ := bnd_some h
  refine lv_tope e7 ?_
  refine lv_istore_n (lv' := [(3, .int v6), (2, .int (0 : Int32)), (0, .ref (B 0)), (1, .int x1)]) hx hb dX8_worked_24 rfl hl (by decide) rfl (fun ls hl => ?_)
  refine lv_aload_n hx hb dX8_worked_25 rfl (lv_at hl 2 rfl) ?_
  refine lv_iload_n hx hb dX8_worked_26 rfl (lv_at hl 3 rfl) ?_
  obtain ⟨r9, h8, h⟩ := ob_some h
  refine m_calli (As := [.int x1]) (rest := []) (cM_textAt l D cI B μ0 x1 h8) hC hH hl (cwV 1 hts (gV wmX8_276 wvX8_textAt) rfl rfl rfl hdX8_textAt ⟨Nat.le_of_ble_eq_true rfl, Nat.le_of_ble_eq_true rfl⟩) rfl rfl (Nat.le_of_ble_eq_true rfl) ⟨Nat.zero_le _, Nat.zero_le _⟩ dX8_worked_27 (fun H locs hH => ?_)
  refine lv_iconst (v := 4) hx hb dX8_worked_30 (by decide) ?_
  refine lv_iadd hx hb dX8_worked_31 ?_
  obtain ⟨v10, e11, h⟩ := bnd_some h
  refine lv_tope e11 ?_
  refine lv_istore (lv' := [(4, .int v10), (3, .int v6), (2, .int (0 : Int32)), (0, .ref (B 0)), (1, .int x1)]) hx hb dX8_worked_32 hl (by decide) rfl (fun ls hl => ?_)
  refine wM_worked_L34 hC hr  ?_ 10000 (0 : Int32) v6 v10 μ0 H locs ls  hH (lv_sub hl [3, 2, 1, 0] rfl) h
  intro μ H locs ls  hH hl h
  refine lv_aload_n hx hb dX8_worked_165 rfl (lv_at hl 0 rfl) ?_
  refine m_get hC hH 29 (by decide) wfX8_62 rfl rfl dX8_worked_166 ?_
  refine lv_iconst (v := 0) hx hb dX8_worked_169 (by decide) ?_
  refine m_ald hC hH (a := 30) rfl rfl (vp_b rfl) dX8_worked_170 ?_
  obtain ⟨rfl, rfl⟩ := some_i2 h
  exact m_iret hC hH hr rfl dX8_worked_171

def rmM_givenRise : Room := { frames := 2, cells := 0, slots := 0, locals := 48 }
theorem hdX8_givenRise : yX8_givenRise.cls = RX8 ∧ yX8_givenRise.cls ≠ "java/lang/invoke/MethodHandle" ∧ yX8_givenRise.cls ≠ "java/lang/invoke/VarHandle" ∧ (parseMethodDescriptor yX8_givenRise.desc).map (fun d => d.parameters.length) = some 1 := by decide +kernel

def fM_givenRise (μ0 : MS) (x1 : Int32) : Option (Int32 × MS) :=
  ob (fM_of μ0 x1 (1 : Int32)) fun r2 =>
  ob (fM_of μ0 x1 (2 : Int32)) fun r4 =>
  ob (fM_of μ0 x1 (3 : Int32)) fun r6 =>
  bnd ((1 : Int32) + (((r6 <<< ((11 : Int32) &&& 31)) ||| (r4 <<< ((7 : Int32) &&& 31))) ||| r2)) fun v7 =>
  bnd ((((r6 <<< ((7 : Int32) &&& 31)) ^^^ ((37 : Int32) * r4)) ^^^ r2) &&& (4095 : Int32)) fun v9 =>
  ck v9 (4096) <|
  if (μ0 14 (v9).toNatClampNeg) = v7 then (
    ck v9 (4096) <|
    some ((μ0 15 (v9).toNatClampNeg), μ0))
  else (
    bnd (up2 μ0 29 116 r2) fun μ14 =>
    bnd (up2 μ14 29 100 r4) fun μ16 =>
    bnd (up2 μ16 29 109 r6) fun μ18 =>
    ob2 (fM_worked μ18 (μ18 0 12)) fun r21 μ22 =>
    ob (fM_within μ22 r21 (999 : Int32)) fun r24 =>
    ck v9 (4096) <|
    bnd (up2 μ22 15 (v9).toNatClampNeg r24) fun μ26 =>
    ck v9 (4096) <|
    bnd (up2 μ26 14 (v9).toNatClampNeg v7) fun μ29 =>
    ck v9 (4096) <|
    some ((μ29 15 (v9).toNatClampNeg), μ29))

set_option maxHeartbeats 4000000 in
set_option maxRecDepth 100000 in
theorem cM_givenRise (l : Launch) (D : va_G) (cI : ClassId) (B : Nat → Nat) (μ0 : MS) (x1 : Int32) {r : Int32} {μr : MS} (h : fM_givenRise μ0 x1 = some (r, μr)) : ∀ sz, Met l yX8_givenRise (Cond.code yX8_givenRise cX8_givenRise 7 (some .int) :: Tw) rmM_givenRise (mP D cI B μ0 sz [.ref (B 0), .int x1]) (mQi D cI B μ0 sz μr r) 0 0 (va_A (mW B cI μ0) sz) := by
  intro sz
  refine Met.ofW (cc := cX8_givenRise) (maxL := 7) (ret := (some .int)) (by decide) rfl ?_
  intro p e s m args below meth c s₁ Bd hml hv
  obtain ⟨hC, hr⟩ := jC_of Bd hml
  obtain ⟨rfl, rfl, hH⟩ := m_enter hv
  have hC : jC p s m _ meth c cX8_givenRise 7 RX8 := hC
  have hx := hC.1.1
  have hb := hC.1.2.1
  have hown := hC.1.2.2.2.1
  have hts := hC.1.2.2.2.2
  have hl := lv_entry ([.ref (B 0), .int x1]) (n := 7) (Nat.le_of_ble_eq_true rfl)
  rw [lg_entry_eq]
  generalize (lg_sl ([.ref (B 0), .int x1]) ++ List.replicate (7 - (lg_sl ([.ref (B 0), .int x1])).length) Slot.unset).toArray = ls at hl ⊢
  have hl : lv_has ls 7 [(0, .ref (B 0)), (1, .int x1)] := hl
  unfold fM_givenRise at h
  refine W_nm (fun H locs eH eL => ?_)
  have hH : mH D cI B s (va_A (mW B cI μ0) s.heap.size) μ0 H locs := by rw [eH, eL]; exact hH
  show W p l e rmM_givenRise s m _ below meth c H locs 0 0 _ (F0 m 0 ls [])
  refine lv_aload_n hx hb dX8_givenRise_0 rfl (lv_at hl 0 rfl) ?_
  refine lv_iload_n hx hb dX8_givenRise_1 rfl (lv_at hl 1 rfl) ?_
  refine lv_iconst (v := 1) hx hb dX8_givenRise_2 (by decide) ?_
  obtain ⟨r2, h1, h⟩ := ob_some h
  refine m_calli (As := [.int x1, .int (1 : Int32)]) (rest := []) (cM_of l D cI B μ0 x1 (1 : Int32) h1) hC hH hl (cwV 2 hts (gV wmX8_99 wvX8_of) rfl rfl rfl hdX8_of ⟨Nat.le_of_ble_eq_true rfl, Nat.le_of_ble_eq_true rfl⟩) rfl rfl (Nat.le_of_ble_eq_true rfl) ⟨Nat.zero_le _, Nat.zero_le _⟩ dX8_givenRise_3 (fun H locs hH => ?_)
  refine lv_istore_n (lv' := [(2, .int r2), (0, .ref (B 0)), (1, .int x1)]) hx hb dX8_givenRise_6 rfl hl (by decide) rfl (fun ls hl => ?_)
  refine lv_aload_n hx hb dX8_givenRise_7 rfl (lv_at hl 1 rfl) ?_
  refine lv_iload_n hx hb dX8_givenRise_8 rfl (lv_at hl 2 rfl) ?_
  refine lv_iconst (v := 2) hx hb dX8_givenRise_9 (by decide) ?_
  obtain ⟨r4, h3, h⟩ := ob_some h
  refine m_calli (As := [.int x1, .int (2 : Int32)]) (rest := []) (cM_of l D cI B μ0 x1 (2 : Int32) h3) hC hH hl (cwV 2 hts (gV wmX8_99 wvX8_of) rfl rfl rfl hdX8_of ⟨Nat.le_of_ble_eq_true rfl, Nat.le_of_ble_eq_true rfl⟩) rfl rfl (Nat.le_of_ble_eq_true rfl) ⟨Nat.zero_le _, Nat.zero_le _⟩ dX8_givenRise_10 (fun H locs hH => ?_)
  refine lv_istore_n (lv' := [(3, .int r4), (2, .int r2), (0, .ref (B 0)), (1, .int x1)]) hx hb dX8_givenRise_13 rfl hl (by decide) rfl (fun ls hl => ?_)
  refine lv_aload_n hx hb dX8_givenRise_14 rfl (lv_at hl 2 rfl) ?_
  refine lv_iload_n hx hb dX8_givenRise_15 rfl (lv_at hl 3 rfl) ?_
  refine lv_iconst (v := 3) hx hb dX8_givenRise_16 (by decide) ?_
  obtain ⟨r6, h5, h⟩ := ob_some h
  refine m_calli (As := [.int x1, .int (3 : Int32)]) (rest := []) (cM_of l D cI B μ0 x1 (3 : Int32) h5) hC hH hl (cwV 2 hts (gV wmX8_99 wvX8_of) rfl rfl rfl hdX8_of ⟨Nat.le_of_ble_eq_true rfl, Nat.le_of_ble_eq_true rfl⟩) rfl rfl (Nat.le_of_ble_eq_true rfl) ⟨Nat.zero_le _, Nat.zero_le _⟩ dX8_givenRise_17 (fun H locs hH => ?_)
  refine lv_istore (lv' := [(4, .int r6), (3, .int r4), (2, .int r2), (0, .ref (B 0)), (1, .int x1)]) hx hb dX8_givenRise_20 hl (by decide) rfl (fun ls hl => ?_)
  refine lv_iconst (v := 1) hx hb dX8_givenRise_22 (by decide) ?_
  refine lv_iload hx hb dX8_givenRise_23 (lv_at hl 0 rfl) ?_
  refine lv_bipush (v := 11) hx hb dX8_givenRise_25 (by decide) ?_
  refine lv_ishl hx hb dX8_givenRise_27 ?_
  refine lv_iload_n hx hb dX8_givenRise_28 rfl (lv_at hl 1 rfl) ?_
  refine lv_bipush (v := 7) hx hb dX8_givenRise_29 (by decide) ?_
  refine lv_ishl hx hb dX8_givenRise_31 ?_
  refine lv_ior hx hb dX8_givenRise_32 ?_
  refine lv_iload_n hx hb dX8_givenRise_33 rfl (lv_at hl 2 rfl) ?_
  refine lv_ior hx hb dX8_givenRise_34 ?_
  refine lv_iadd hx hb dX8_givenRise_35 ?_
  obtain ⟨v7, e8, h⟩ := bnd_some h
  refine lv_tope e8 ?_
  refine lv_istore (lv' := [(5, .int v7), (4, .int r6), (3, .int r4), (2, .int r2), (0, .ref (B 0)), (1, .int x1)]) hx hb dX8_givenRise_36 hl (by decide) rfl (fun ls hl => ?_)
  refine lv_iload hx hb dX8_givenRise_38 (lv_at hl 1 rfl) ?_
  refine lv_bipush (v := 7) hx hb dX8_givenRise_40 (by decide) ?_
  refine lv_ishl hx hb dX8_givenRise_42 ?_
  refine lv_bipush (v := 37) hx hb dX8_givenRise_43 (by decide) ?_
  refine lv_iload_n hx hb dX8_givenRise_45 rfl (lv_at hl 2 rfl) ?_
  refine lv_imul hx hb dX8_givenRise_46 ?_
  refine lv_ixor hx hb dX8_givenRise_47 ?_
  refine lv_iload_n hx hb dX8_givenRise_48 rfl (lv_at hl 3 rfl) ?_
  refine lv_ixor hx hb dX8_givenRise_49 ?_
  refine lv_sipush (v := 4095) hx hb dX8_givenRise_50 (by decide) ?_
  refine lv_iand hx hb dX8_givenRise_53 ?_
  obtain ⟨v9, e10, h⟩ := bnd_some h
  refine lv_tope e10 ?_
  refine lv_istore (lv' := [(6, .int v9), (5, .int v7), (4, .int r6), (3, .int r4), (2, .int r2), (0, .ref (B 0)), (1, .int x1)]) hx hb dX8_givenRise_54 hl (by decide) rfl (fun ls hl => ?_)
  refine lv_aload_n hx hb dX8_givenRise_56 rfl (lv_at hl 5 rfl) ?_
  refine m_get hC hH 13 (by decide) wfX8_47 rfl rfl dX8_givenRise_57 ?_
  refine lv_iload hx hb dX8_givenRise_60 (lv_at hl 0 rfl) ?_
  obtain ⟨i11, h⟩ := ck_some h
  refine m_ald hC hH (a := 14) rfl rfl i11 dX8_givenRise_62 ?_
  refine lv_iload hx hb dX8_givenRise_63 (lv_at hl 1 rfl) ?_
  refine lv_icmp_eq (tgt := 123) hx hb dX8_givenRise_65 (by decide) (fun c12 => ?_) (fun c12 => ?_)
  · have h := ite_t c12 h
    refine lv_aload_n hx hb dX8_givenRise_123 rfl (lv_at hl 5 rfl) ?_
    refine m_get hC hH 14 (by decide) wfX8_50 rfl rfl dX8_givenRise_124 ?_
    refine lv_iload hx hb dX8_givenRise_127 (lv_at hl 0 rfl) ?_
    obtain ⟨i13, h⟩ := ck_some h
    refine m_ald hC hH (a := 15) rfl rfl i13 dX8_givenRise_129 ?_
    obtain ⟨rfl, rfl⟩ := some_i2 h
    exact m_iret hC hH hr rfl dX8_givenRise_130
  · have h := ite_f c12 h
    refine lv_aload_n hx hb dX8_givenRise_68 rfl (lv_at hl 5 rfl) ?_
    refine m_get hC hH 28 (by decide) wfX8_59 rfl rfl dX8_givenRise_69 ?_
    refine lv_bipush (v := 116) hx hb dX8_givenRise_72 (by decide) ?_
    refine lv_iload_n hx hb dX8_givenRise_74 rfl (lv_at hl 4 rfl) ?_
    obtain ⟨μ14, e15, h⟩ := bnd_some h
    refine m_ast hC hH (a := 29) rfl rfl e15 (vp_b rfl) dX8_givenRise_75 (fun H locs hH => ?_)
    refine lv_aload_n hx hb dX8_givenRise_76 rfl (lv_at hl 5 rfl) ?_
    refine m_get hC hH 28 (by decide) wfX8_59 rfl rfl dX8_givenRise_77 ?_
    refine lv_bipush (v := 100) hx hb dX8_givenRise_80 (by decide) ?_
    refine lv_iload_n hx hb dX8_givenRise_82 rfl (lv_at hl 3 rfl) ?_
    obtain ⟨μ16, e17, h⟩ := bnd_some h
    refine m_ast hC hH (a := 29) rfl rfl e17 (vp_b rfl) dX8_givenRise_83 (fun H locs hH => ?_)
    refine lv_aload_n hx hb dX8_givenRise_84 rfl (lv_at hl 5 rfl) ?_
    refine m_get hC hH 28 (by decide) wfX8_59 rfl rfl dX8_givenRise_85 ?_
    refine lv_bipush (v := 109) hx hb dX8_givenRise_88 (by decide) ?_
    refine lv_iload hx hb dX8_givenRise_90 (lv_at hl 2 rfl) ?_
    obtain ⟨μ18, e19, h⟩ := bnd_some h
    refine m_ast hC hH (a := 29) rfl rfl e19 (vp_b rfl) dX8_givenRise_92 (fun H locs hH => ?_)
    refine lv_aload_n hx hb dX8_givenRise_93 rfl (lv_at hl 5 rfl) ?_
    refine m_get hC hH 14 (by decide) wfX8_50 rfl rfl dX8_givenRise_94 ?_
    refine lv_iload hx hb dX8_givenRise_97 (lv_at hl 0 rfl) ?_
    refine lv_aload_n hx hb dX8_givenRise_99 rfl (lv_at hl 5 rfl) ?_
    refine lv_aload_n hx hb dX8_givenRise_100 rfl (lv_at hl 5 rfl) ?_
    refine m_get hC hH 12 (by decide) wfX8_43 rfl rfl dX8_givenRise_101 ?_
    obtain ⟨r21, μ22, h20, h⟩ := ob2_some h
    refine m_calli (As := [.int (μ18 0 12)]) (rest := [.int v9, .ref (B 15)]) (cM_worked l D cI B μ18 (μ18 0 12) h20) hC hH hl (cwV 1 hts (gV wmX8_103 wvX8_worked) rfl rfl rfl hdX8_worked ⟨Nat.le_of_ble_eq_true rfl, Nat.le_of_ble_eq_true rfl⟩) rfl rfl (Nat.le_of_ble_eq_true rfl) ⟨Nat.zero_le _, Nat.zero_le _⟩ dX8_givenRise_104 (fun H locs hH => ?_)
    refine lv_sipush (v := 999) hx hb dX8_givenRise_107 (by decide) ?_
    obtain ⟨r24, h23, h⟩ := ob_some h
    refine m_calls (As := [.int r21, .int (999 : Int32)]) (rest := [.int v9, .ref (B 15)]) (cM_within l D cI B μ22 r21 (999 : Int32) h23) hC hH hl (va_cwS 2 hts (gS wmX8_106 wsX8_within) rfl rfl rfl hdX8_within ⟨Nat.le_of_ble_eq_true rfl, Nat.le_of_ble_eq_true rfl⟩) rfl rfl (Nat.le_of_ble_eq_true rfl) ⟨Nat.zero_le _, Nat.zero_le _⟩ dX8_givenRise_110 (fun H locs hH => ?_)
    obtain ⟨i25, h⟩ := ck_some h
    obtain ⟨μ26, e27, h⟩ := bnd_some h
    refine m_ast hC hH (a := 15) rfl rfl e27 i25 dX8_givenRise_113 (fun H locs hH => ?_)
    refine lv_aload_n hx hb dX8_givenRise_114 rfl (lv_at hl 5 rfl) ?_
    refine m_get hC hH 13 (by decide) wfX8_47 rfl rfl dX8_givenRise_115 ?_
    refine lv_iload hx hb dX8_givenRise_118 (lv_at hl 0 rfl) ?_
    refine lv_iload hx hb dX8_givenRise_120 (lv_at hl 1 rfl) ?_
    obtain ⟨i28, h⟩ := ck_some h
    obtain ⟨μ29, e30, h⟩ := bnd_some h
    refine m_ast hC hH (a := 14) rfl rfl e30 i28 dX8_givenRise_122 (fun H locs hH => ?_)
    refine lv_aload_n hx hb dX8_givenRise_123 rfl (lv_at hl 5 rfl) ?_
    refine m_get hC hH 14 (by decide) wfX8_50 rfl rfl dX8_givenRise_124 ?_
    refine lv_iload hx hb dX8_givenRise_127 (lv_at hl 0 rfl) ?_
    obtain ⟨i31, h⟩ := ck_some h
    refine m_ald hC hH (a := 15) rfl rfl i31 dX8_givenRise_129 ?_
    obtain ⟨rfl, rfl⟩ := some_i2 h
    exact m_iret hC hH hr rfl dX8_givenRise_130

def rmM_rises : Room := { frames := 3, cells := 0, slots := 0, locals := 74 }
theorem hdX8_rises : yX8_rises.cls = RX8 ∧ yX8_rises.cls ≠ "java/lang/invoke/MethodHandle" ∧ yX8_rises.cls ≠ "java/lang/invoke/VarHandle" ∧ (parseMethodDescriptor yX8_rises.desc).map (fun d => d.parameters.length) = some 1 := by decide +kernel

def fM_rises_J21 (x1 : Int32) (y0 : Int32) (μ : MS) : Option (Int32 × MS) :=
  ob (fM_of μ x1 (0 : Int32)) fun r6 =>
  if r6 = (1 : Int32) then (
    ob (fM_within μ (y0 - (20 : Int32)) (999 : Int32)) fun r9 =>
    some (r9, μ))
  else if r6 = (2 : Int32) then (
    ob (fM_within μ (y0 - (5 : Int32)) (999 : Int32)) fun r12 =>
    some (r12, μ))
  else if r6 = (3 : Int32) then (
    ob (fM_within μ (y0 - (20 : Int32)) (999 : Int32)) fun r15 =>
    some ((r15 / (2 : Int32)), μ))
  else if r6 = (4 : Int32) then (
    some ((0 : Int32), μ))
  else if r6 = (5 : Int32) then (
    some (((2 : Int32) * y0), μ))
  else (
    some (y0, μ))

set_option maxHeartbeats 4000000 in
set_option maxRecDepth 100000 in
theorem wM_rises_J21 {p : Program} {l : Launch} {e : Env} {s : State} {m : MethodId} {args : Array Value} {below : List Frame} {meth : Method} {c : Code} {D : va_G} {cI : ClassId} {B : Nat → Nat} {μ0 : MS} {r : Int32} {μr : MS} (hC : jC p s m args meth c cX8_rises 3 RX8) (hr : meth.sig.returnType = some .int) (x1 : Int32) (y0 : Int32) (μ : MS) (H : Heap) (locs : List Loc) (ls : Array Slot) (hH : mH D cI B s (va_A (mW B cI μ0) s.heap.size) μ H locs) (hl : lv_has ls 3 [(0, .ref (B 0)), (1, .int x1)]) (h : fM_rises_J21 x1 y0 μ = some (r, μr)) : W p l e rmM_rises s m args below meth c H locs 0 0 (MQ below (mQi D cI B μ0 s.heap.size μr r) args s 0 0 (va_A (mW B cI μ0) s.heap.size)) (F0 m 21 ls [.int y0]) := by
  have hx := hC.1.1
  have hb := hC.1.2.1
  have hown := hC.1.2.2.2.1
  have hts := hC.1.2.2.2.2
  unfold fM_rises_J21 at h
  refine lv_istore_n (lv' := [(2, .int y0), (0, .ref (B 0)), (1, .int x1)]) hx hb dX8_rises_21 rfl hl (by decide) rfl (fun ls hl => ?_)
  refine lv_aload_n hx hb dX8_rises_22 rfl (lv_at hl 1 rfl) ?_
  refine lv_iload_n hx hb dX8_rises_23 rfl (lv_at hl 2 rfl) ?_
  refine lv_iconst (v := 0) hx hb dX8_rises_24 (by decide) ?_
  obtain ⟨r6, h5, h⟩ := ob_some h
  refine m_calli (As := [.int x1, .int (0 : Int32)]) (rest := []) (cM_of l D cI B μ x1 (0 : Int32) h5) hC hH hl (cwV 2 hts (gV wmX8_99 wvX8_of) rfl rfl rfl hdX8_of ⟨Nat.le_of_ble_eq_true rfl, Nat.le_of_ble_eq_true rfl⟩) rfl rfl (Nat.le_of_ble_eq_true rfl) ⟨Nat.zero_le _, Nat.zero_le _⟩ dX8_rises_25 (fun H locs hH => ?_)
  by_cases c7 : r6 = (1 : Int32)
  · have h := ite_t c7 h
    refine lv_tsw (tgt := 64) (off := 36) hx hb (1) c7 dX8_rises_28 (by decide) (by decide) (by decide) (by decide) ?_
    refine lv_iload_n hx hb dX8_rises_64 rfl (lv_at hl 0 rfl) ?_
    refine lv_bipush (v := 20) hx hb dX8_rises_65 (by decide) ?_
    refine lv_isub hx hb dX8_rises_67 ?_
    refine lv_sipush (v := 999) hx hb dX8_rises_68 (by decide) ?_
    obtain ⟨r9, h8, h⟩ := ob_some h
    refine m_calls (As := [.int (y0 - (20 : Int32)), .int (999 : Int32)]) (rest := []) (cM_within l D cI B μ (y0 - (20 : Int32)) (999 : Int32) h8) hC hH hl (va_cwS 2 hts (gS wmX8_106 wsX8_within) rfl rfl rfl hdX8_within ⟨Nat.le_of_ble_eq_true rfl, Nat.le_of_ble_eq_true rfl⟩) rfl rfl (Nat.le_of_ble_eq_true rfl) ⟨Nat.zero_le _, Nat.zero_le _⟩ dX8_rises_71 (fun H locs hH => ?_)
    obtain ⟨rfl, rfl⟩ := some_i2 h
    exact m_iret hC hH hr rfl dX8_rises_74
  · have h := ite_f c7 h
    by_cases c10 : r6 = (2 : Int32)
    · have h := ite_t c10 h
      refine lv_tsw (tgt := 75) (off := 47) hx hb (2) c10 dX8_rises_28 (by decide) (by decide) (by decide) (by decide) ?_
      refine lv_iload_n hx hb dX8_rises_75 rfl (lv_at hl 0 rfl) ?_
      refine lv_iconst (v := 5) hx hb dX8_rises_76 (by decide) ?_
      refine lv_isub hx hb dX8_rises_77 ?_
      refine lv_sipush (v := 999) hx hb dX8_rises_78 (by decide) ?_
      obtain ⟨r12, h11, h⟩ := ob_some h
      refine m_calls (As := [.int (y0 - (5 : Int32)), .int (999 : Int32)]) (rest := []) (cM_within l D cI B μ (y0 - (5 : Int32)) (999 : Int32) h11) hC hH hl (va_cwS 2 hts (gS wmX8_106 wsX8_within) rfl rfl rfl hdX8_within ⟨Nat.le_of_ble_eq_true rfl, Nat.le_of_ble_eq_true rfl⟩) rfl rfl (Nat.le_of_ble_eq_true rfl) ⟨Nat.zero_le _, Nat.zero_le _⟩ dX8_rises_81 (fun H locs hH => ?_)
      obtain ⟨rfl, rfl⟩ := some_i2 h
      exact m_iret hC hH hr rfl dX8_rises_84
    · have h := ite_f c10 h
      by_cases c13 : r6 = (3 : Int32)
      · have h := ite_t c13 h
        refine lv_tsw (tgt := 85) (off := 57) hx hb (3) c13 dX8_rises_28 (by decide) (by decide) (by decide) (by decide) ?_
        refine lv_iload_n hx hb dX8_rises_85 rfl (lv_at hl 0 rfl) ?_
        refine lv_bipush (v := 20) hx hb dX8_rises_86 (by decide) ?_
        refine lv_isub hx hb dX8_rises_88 ?_
        refine lv_sipush (v := 999) hx hb dX8_rises_89 (by decide) ?_
        obtain ⟨r15, h14, h⟩ := ob_some h
        refine m_calls (As := [.int (y0 - (20 : Int32)), .int (999 : Int32)]) (rest := []) (cM_within l D cI B μ (y0 - (20 : Int32)) (999 : Int32) h14) hC hH hl (va_cwS 2 hts (gS wmX8_106 wsX8_within) rfl rfl rfl hdX8_within ⟨Nat.le_of_ble_eq_true rfl, Nat.le_of_ble_eq_true rfl⟩) rfl rfl (Nat.le_of_ble_eq_true rfl) ⟨Nat.zero_le _, Nat.zero_le _⟩ dX8_rises_92 (fun H locs hH => ?_)
        refine lv_iconst (v := 2) hx hb dX8_rises_95 (by decide) ?_
        refine lv_idiv hx hb dX8_rises_96 (by decide) ?_
        obtain ⟨rfl, rfl⟩ := some_i2 h
        exact m_iret hC hH hr rfl dX8_rises_97
      · have h := ite_f c13 h
        by_cases c16 : r6 = (4 : Int32)
        · have h := ite_t c16 h
          refine lv_tsw (tgt := 98) (off := 70) hx hb (4) c16 dX8_rises_28 (by decide) (by decide) (by decide) (by decide) ?_
          refine lv_iconst (v := 0) hx hb dX8_rises_98 (by decide) ?_
          obtain ⟨rfl, rfl⟩ := some_i2 h
          exact m_iret (v := 0) hC hH hr rfl dX8_rises_99
        · have h := ite_f c16 h
          by_cases c17 : r6 = (5 : Int32)
          · have h := ite_t c17 h
            refine lv_tsw (tgt := 100) (off := 72) hx hb (5) c17 dX8_rises_28 (by decide) (by decide) (by decide) (by decide) ?_
            refine lv_iconst (v := 2) hx hb dX8_rises_100 (by decide) ?_
            refine lv_iload_n hx hb dX8_rises_101 rfl (lv_at hl 0 rfl) ?_
            refine lv_imul hx hb dX8_rises_102 ?_
            obtain ⟨rfl, rfl⟩ := some_i2 h
            exact m_iret hC hH hr rfl dX8_rises_103
          · have h := ite_f c17 h
            refine lv_tswd (tgt := 104) hx hb [1, 2, 3, 4, 5] (by simp only [List.mem_cons, List.not_mem_nil, or_false]; intro z hz; rcases hz with rfl | rfl | rfl | rfl | rfl <;> first | exact i32ne c7 (by decide) | exact i32ne c10 (by decide) | exact i32ne c13 (by decide) | exact i32ne c16 (by decide) | exact i32ne c17 (by decide)) dX8_rises_28 (by decide) (by decide) (by decide) ?_
            refine lv_iload_n hx hb dX8_rises_104 rfl (lv_at hl 0 rfl) ?_
            obtain ⟨rfl, rfl⟩ := some_i2 h
            exact m_iret hC hH hr rfl dX8_rises_105

def fM_rises (μ0 : MS) (x1 : Int32) : Option (Int32 × MS) :=
  if 0 ≤ (μ0 0 12) then (
    ob2 (fM_givenRise μ0 x1) fun r3 μ4 =>
    fM_rises_J21 x1 r3 μ4)
  else (
    ob (fM_of μ0 x1 (1 : Int32)) fun r19 =>
    fM_rises_J21 x1 r19 μ0)

set_option maxHeartbeats 4000000 in
set_option maxRecDepth 100000 in
theorem cM_rises (l : Launch) (D : va_G) (cI : ClassId) (B : Nat → Nat) (μ0 : MS) (x1 : Int32) {r : Int32} {μr : MS} (h : fM_rises μ0 x1 = some (r, μr)) : ∀ sz, Met l yX8_rises (Cond.code yX8_rises cX8_rises 3 (some .int) :: Tw) rmM_rises (mP D cI B μ0 sz [.ref (B 0), .int x1]) (mQi D cI B μ0 sz μr r) 0 0 (va_A (mW B cI μ0) sz) := by
  intro sz
  refine Met.ofW (cc := cX8_rises) (maxL := 3) (ret := (some .int)) (by decide) rfl ?_
  intro p e s m args below meth c s₁ Bd hml hv
  obtain ⟨hC, hr⟩ := jC_of Bd hml
  obtain ⟨rfl, rfl, hH⟩ := m_enter hv
  have hC : jC p s m _ meth c cX8_rises 3 RX8 := hC
  have hx := hC.1.1
  have hb := hC.1.2.1
  have hown := hC.1.2.2.2.1
  have hts := hC.1.2.2.2.2
  have hl := lv_entry ([.ref (B 0), .int x1]) (n := 3) (Nat.le_of_ble_eq_true rfl)
  rw [lg_entry_eq]
  generalize (lg_sl ([.ref (B 0), .int x1]) ++ List.replicate (3 - (lg_sl ([.ref (B 0), .int x1])).length) Slot.unset).toArray = ls at hl ⊢
  have hl : lv_has ls 3 [(0, .ref (B 0)), (1, .int x1)] := hl
  unfold fM_rises at h
  refine W_nm (fun H locs eH eL => ?_)
  have hH : mH D cI B s (va_A (mW B cI μ0) s.heap.size) μ0 H locs := by rw [eH, eL]; exact hH
  show W p l e rmM_rises s m _ below meth c H locs 0 0 _ (F0 m 0 ls [])
  refine lv_aload_n hx hb dX8_rises_0 rfl (lv_at hl 0 rfl) ?_
  refine m_get hC hH 12 (by decide) wfX8_43 rfl rfl dX8_rises_1 ?_
  refine lv_if_ge (tgt := 16) hx hb dX8_rises_4 (by decide) (fun c1 => ?_) (fun c1 => ?_)
  · have h := ite_t c1 h
    refine lv_aload_n hx hb dX8_rises_16 rfl (lv_at hl 0 rfl) ?_
    refine lv_iload_n hx hb dX8_rises_17 rfl (lv_at hl 1 rfl) ?_
    obtain ⟨r3, μ4, h2, h⟩ := ob2_some h
    refine m_calli (As := [.int x1]) (rest := []) (cM_givenRise l D cI B μ0 x1 h2) hC hH hl (cwV 1 hts (gV wmX8_109 wvX8_givenRise) rfl rfl rfl hdX8_givenRise ⟨Nat.le_of_ble_eq_true rfl, Nat.le_of_ble_eq_true rfl⟩) rfl rfl (Nat.le_of_ble_eq_true rfl) ⟨Nat.zero_le _, Nat.zero_le _⟩ dX8_rises_18 (fun H locs hH => ?_)
    exact wM_rises_J21 hC hr  x1 r3 μ4 H locs ls  hH hl h
  · have h := ite_f c1 h
    refine lv_aload_n hx hb dX8_rises_7 rfl (lv_at hl 0 rfl) ?_
    refine lv_iload_n hx hb dX8_rises_8 rfl (lv_at hl 1 rfl) ?_
    refine lv_iconst (v := 1) hx hb dX8_rises_9 (by decide) ?_
    obtain ⟨r19, h18, h⟩ := ob_some h
    refine m_calli (As := [.int x1, .int (1 : Int32)]) (rest := []) (cM_of l D cI B μ0 x1 (1 : Int32) h18) hC hH hl (cwV 2 hts (gV wmX8_99 wvX8_of) rfl rfl rfl hdX8_of ⟨Nat.le_of_ble_eq_true rfl, Nat.le_of_ble_eq_true rfl⟩) rfl rfl (Nat.le_of_ble_eq_true rfl) ⟨Nat.zero_le _, Nat.zero_le _⟩ dX8_rises_10 (fun H locs hH => ?_)
    refine lv_goto (tgt := 21) hx hb dX8_rises_13 (by decide) ?_
    exact wM_rises_J21 hC hr  x1 r19 μ0 H locs ls  hH hl h

def rmM_grips : Room := { frames := 1, cells := 0, slots := 0, locals := 22 }
theorem hdX8_grips : yX8_grips.cls = RX8 ∧ yX8_grips.cls ≠ "java/lang/invoke/MethodHandle" ∧ yX8_grips.cls ≠ "java/lang/invoke/VarHandle" ∧ (parseMethodDescriptor yX8_grips.desc).map (fun d => d.parameters.length) = some 1 := by decide +kernel

def fM_grips (μ0 : MS) (x1 : Int32) : Option (Int32) :=
  ob (fM_of μ0 x1 (0 : Int32)) fun r2 =>
  if r2 = (1 : Int32) then (
    some (0 : Int32))
  else if r2 = (2 : Int32) then (
    some (10 : Int32))
  else if r2 = (3 : Int32) then (
    some (4 : Int32))
  else if r2 = (4 : Int32) then (
    some (20 : Int32))
  else if r2 = (5 : Int32) then (
    some (1 : Int32))
  else (
    some (2 : Int32))

set_option maxHeartbeats 4000000 in
set_option maxRecDepth 100000 in
theorem cM_grips (l : Launch) (D : va_G) (cI : ClassId) (B : Nat → Nat) (μ0 : MS) (x1 : Int32) {r : Int32} (h : fM_grips μ0 x1 = some r) : ∀ sz, Met l yX8_grips (Cond.code yX8_grips cX8_grips 2 (some .int) :: Tw) rmM_grips (mP D cI B μ0 sz [.ref (B 0), .int x1]) (mQi D cI B μ0 sz μ0 r) 0 0 (va_A (mW B cI μ0) sz) := by
  intro sz
  refine Met.ofW (cc := cX8_grips) (maxL := 2) (ret := (some .int)) (by decide) rfl ?_
  intro p e s m args below meth c s₁ Bd hml hv
  obtain ⟨hC, hr⟩ := jC_of Bd hml
  obtain ⟨rfl, rfl, hH⟩ := m_enter hv
  have hC : jC p s m _ meth c cX8_grips 2 RX8 := hC
  have hx := hC.1.1
  have hb := hC.1.2.1
  have hown := hC.1.2.2.2.1
  have hts := hC.1.2.2.2.2
  have hl := lv_entry ([.ref (B 0), .int x1]) (n := 2) (Nat.le_of_ble_eq_true rfl)
  rw [lg_entry_eq]
  generalize (lg_sl ([.ref (B 0), .int x1]) ++ List.replicate (2 - (lg_sl ([.ref (B 0), .int x1])).length) Slot.unset).toArray = ls at hl ⊢
  have hl : lv_has ls 2 [(0, .ref (B 0)), (1, .int x1)] := hl
  unfold fM_grips at h
  refine W_nm (fun H locs eH eL => ?_)
  have hH : mH D cI B s (va_A (mW B cI μ0) s.heap.size) μ0 H locs := by rw [eH, eL]; exact hH
  show W p l e rmM_grips s m _ below meth c H locs 0 0 _ (F0 m 0 ls [])
  refine lv_aload_n hx hb dX8_grips_0 rfl (lv_at hl 0 rfl) ?_
  refine lv_iload_n hx hb dX8_grips_1 rfl (lv_at hl 1 rfl) ?_
  refine lv_iconst (v := 0) hx hb dX8_grips_2 (by decide) ?_
  obtain ⟨r2, h1, h⟩ := ob_some h
  refine m_calli (As := [.int x1, .int (0 : Int32)]) (rest := []) (cM_of l D cI B μ0 x1 (0 : Int32) h1) hC hH hl (cwV 2 hts (gV wmX8_99 wvX8_of) rfl rfl rfl hdX8_of ⟨Nat.le_of_ble_eq_true rfl, Nat.le_of_ble_eq_true rfl⟩) rfl rfl (Nat.le_of_ble_eq_true rfl) ⟨Nat.zero_le _, Nat.zero_le _⟩ dX8_grips_3 (fun H locs hH => ?_)
  by_cases c3 : r2 = (1 : Int32)
  · have h := ite_t c3 h
    refine lv_tsw (tgt := 40) (off := 34) hx hb (1) c3 dX8_grips_6 (by decide) (by decide) (by decide) (by decide) ?_
    refine lv_iconst (v := 0) hx hb dX8_grips_40 (by decide) ?_
    obtain rfl := some_i1 h
    exact m_iret (v := 0) hC hH hr rfl dX8_grips_41
  · have h := ite_f c3 h
    by_cases c4 : r2 = (2 : Int32)
    · have h := ite_t c4 h
      refine lv_tsw (tgt := 42) (off := 36) hx hb (2) c4 dX8_grips_6 (by decide) (by decide) (by decide) (by decide) ?_
      refine lv_bipush (v := 10) hx hb dX8_grips_42 (by decide) ?_
      obtain rfl := some_i1 h
      exact m_iret (v := 10) hC hH hr rfl dX8_grips_44
    · have h := ite_f c4 h
      by_cases c5 : r2 = (3 : Int32)
      · have h := ite_t c5 h
        refine lv_tsw (tgt := 45) (off := 39) hx hb (3) c5 dX8_grips_6 (by decide) (by decide) (by decide) (by decide) ?_
        refine lv_iconst (v := 4) hx hb dX8_grips_45 (by decide) ?_
        obtain rfl := some_i1 h
        exact m_iret (v := 4) hC hH hr rfl dX8_grips_46
      · have h := ite_f c5 h
        by_cases c6 : r2 = (4 : Int32)
        · have h := ite_t c6 h
          refine lv_tsw (tgt := 47) (off := 41) hx hb (4) c6 dX8_grips_6 (by decide) (by decide) (by decide) (by decide) ?_
          refine lv_bipush (v := 20) hx hb dX8_grips_47 (by decide) ?_
          obtain rfl := some_i1 h
          exact m_iret (v := 20) hC hH hr rfl dX8_grips_49
        · have h := ite_f c6 h
          by_cases c7 : r2 = (5 : Int32)
          · have h := ite_t c7 h
            refine lv_tsw (tgt := 50) (off := 44) hx hb (5) c7 dX8_grips_6 (by decide) (by decide) (by decide) (by decide) ?_
            refine lv_iconst (v := 1) hx hb dX8_grips_50 (by decide) ?_
            obtain rfl := some_i1 h
            exact m_iret (v := 1) hC hH hr rfl dX8_grips_51
          · have h := ite_f c7 h
            refine lv_tswd (tgt := 52) hx hb [1, 2, 3, 4, 5] (by simp only [List.mem_cons, List.not_mem_nil, or_false]; intro z hz; rcases hz with rfl | rfl | rfl | rfl | rfl <;> first | exact i32ne c3 (by decide) | exact i32ne c4 (by decide) | exact i32ne c5 (by decide) | exact i32ne c6 (by decide) | exact i32ne c7 (by decide)) dX8_grips_6 (by decide) (by decide) (by decide) ?_
            refine lv_iconst (v := 2) hx hb dX8_grips_52 (by decide) ?_
            obtain rfl := some_i1 h
            exact m_iret (v := 2) hC hH hr rfl dX8_grips_53

def rmM_worth : Room := { frames := 1, cells := 0, slots := 0, locals := 22 }
theorem hdX8_worth : yX8_worth.cls = RX8 ∧ yX8_worth.cls ≠ "java/lang/invoke/MethodHandle" ∧ yX8_worth.cls ≠ "java/lang/invoke/VarHandle" ∧ (parseMethodDescriptor yX8_worth.desc).map (fun d => d.parameters.length) = some 1 := by decide +kernel

def fM_worth (μ0 : MS) (x1 : Int32) : Option (Int32) :=
  ob (fM_of μ0 x1 (1 : Int32)) fun r2 =>
  ob (fM_of μ0 x1 (0 : Int32)) fun r4 =>
  if r4 = (1 : Int32) then (
    some (r2 + (7 : Int32)))
  else if r4 = (2 : Int32) then (
    some ((99 : Int32) - r2))
  else if r4 = (3 : Int32) then (
    some ((2 : Int32) * (r2 + (7 : Int32))))
  else if r4 = (4 : Int32) then (
    some ((93 : Int32) - r2))
  else if r4 = (5 : Int32) then (
    some (2 : Int32))
  else (
    some r2)

set_option maxHeartbeats 4000000 in
set_option maxRecDepth 100000 in
theorem cM_worth (l : Launch) (D : va_G) (cI : ClassId) (B : Nat → Nat) (μ0 : MS) (x1 : Int32) {r : Int32} (h : fM_worth μ0 x1 = some r) : ∀ sz, Met l yX8_worth (Cond.code yX8_worth cX8_worth 3 (some .int) :: Tw) rmM_worth (mP D cI B μ0 sz [.ref (B 0), .int x1]) (mQi D cI B μ0 sz μ0 r) 0 0 (va_A (mW B cI μ0) sz) := by
  intro sz
  refine Met.ofW (cc := cX8_worth) (maxL := 3) (ret := (some .int)) (by decide) rfl ?_
  intro p e s m args below meth c s₁ Bd hml hv
  obtain ⟨hC, hr⟩ := jC_of Bd hml
  obtain ⟨rfl, rfl, hH⟩ := m_enter hv
  have hC : jC p s m _ meth c cX8_worth 3 RX8 := hC
  have hx := hC.1.1
  have hb := hC.1.2.1
  have hown := hC.1.2.2.2.1
  have hts := hC.1.2.2.2.2
  have hl := lv_entry ([.ref (B 0), .int x1]) (n := 3) (Nat.le_of_ble_eq_true rfl)
  rw [lg_entry_eq]
  generalize (lg_sl ([.ref (B 0), .int x1]) ++ List.replicate (3 - (lg_sl ([.ref (B 0), .int x1])).length) Slot.unset).toArray = ls at hl ⊢
  have hl : lv_has ls 3 [(0, .ref (B 0)), (1, .int x1)] := hl
  unfold fM_worth at h
  refine W_nm (fun H locs eH eL => ?_)
  have hH : mH D cI B s (va_A (mW B cI μ0) s.heap.size) μ0 H locs := by rw [eH, eL]; exact hH
  show W p l e rmM_worth s m _ below meth c H locs 0 0 _ (F0 m 0 ls [])
  refine lv_aload_n hx hb dX8_worth_0 rfl (lv_at hl 0 rfl) ?_
  refine lv_iload_n hx hb dX8_worth_1 rfl (lv_at hl 1 rfl) ?_
  refine lv_iconst (v := 1) hx hb dX8_worth_2 (by decide) ?_
  obtain ⟨r2, h1, h⟩ := ob_some h
  refine m_calli (As := [.int x1, .int (1 : Int32)]) (rest := []) (cM_of l D cI B μ0 x1 (1 : Int32) h1) hC hH hl (cwV 2 hts (gV wmX8_99 wvX8_of) rfl rfl rfl hdX8_of ⟨Nat.le_of_ble_eq_true rfl, Nat.le_of_ble_eq_true rfl⟩) rfl rfl (Nat.le_of_ble_eq_true rfl) ⟨Nat.zero_le _, Nat.zero_le _⟩ dX8_worth_3 (fun H locs hH => ?_)
  refine lv_istore_n (lv' := [(2, .int r2), (0, .ref (B 0)), (1, .int x1)]) hx hb dX8_worth_6 rfl hl (by decide) rfl (fun ls hl => ?_)
  refine lv_aload_n hx hb dX8_worth_7 rfl (lv_at hl 1 rfl) ?_
  refine lv_iload_n hx hb dX8_worth_8 rfl (lv_at hl 2 rfl) ?_
  refine lv_iconst (v := 0) hx hb dX8_worth_9 (by decide) ?_
  obtain ⟨r4, h3, h⟩ := ob_some h
  refine m_calli (As := [.int x1, .int (0 : Int32)]) (rest := []) (cM_of l D cI B μ0 x1 (0 : Int32) h3) hC hH hl (cwV 2 hts (gV wmX8_99 wvX8_of) rfl rfl rfl hdX8_of ⟨Nat.le_of_ble_eq_true rfl, Nat.le_of_ble_eq_true rfl⟩) rfl rfl (Nat.le_of_ble_eq_true rfl) ⟨Nat.zero_le _, Nat.zero_le _⟩ dX8_worth_10 (fun H locs hH => ?_)
  by_cases c5 : r4 = (1 : Int32)
  · have h := ite_t c5 h
    refine lv_tsw (tgt := 48) (off := 35) hx hb (1) c5 dX8_worth_13 (by decide) (by decide) (by decide) (by decide) ?_
    refine lv_iload_n hx hb dX8_worth_48 rfl (lv_at hl 0 rfl) ?_
    refine lv_bipush (v := 7) hx hb dX8_worth_49 (by decide) ?_
    refine lv_iadd hx hb dX8_worth_51 ?_
    obtain rfl := some_i1 h
    exact m_iret hC hH hr rfl dX8_worth_52
  · have h := ite_f c5 h
    by_cases c6 : r4 = (2 : Int32)
    · have h := ite_t c6 h
      refine lv_tsw (tgt := 53) (off := 40) hx hb (2) c6 dX8_worth_13 (by decide) (by decide) (by decide) (by decide) ?_
      refine lv_bipush (v := 99) hx hb dX8_worth_53 (by decide) ?_
      refine lv_iload_n hx hb dX8_worth_55 rfl (lv_at hl 0 rfl) ?_
      refine lv_isub hx hb dX8_worth_56 ?_
      obtain rfl := some_i1 h
      exact m_iret hC hH hr rfl dX8_worth_57
    · have h := ite_f c6 h
      by_cases c7 : r4 = (3 : Int32)
      · have h := ite_t c7 h
        refine lv_tsw (tgt := 58) (off := 45) hx hb (3) c7 dX8_worth_13 (by decide) (by decide) (by decide) (by decide) ?_
        refine lv_iconst (v := 2) hx hb dX8_worth_58 (by decide) ?_
        refine lv_iload_n hx hb dX8_worth_59 rfl (lv_at hl 0 rfl) ?_
        refine lv_bipush (v := 7) hx hb dX8_worth_60 (by decide) ?_
        refine lv_iadd hx hb dX8_worth_62 ?_
        refine lv_imul hx hb dX8_worth_63 ?_
        obtain rfl := some_i1 h
        exact m_iret hC hH hr rfl dX8_worth_64
      · have h := ite_f c7 h
        by_cases c8 : r4 = (4 : Int32)
        · have h := ite_t c8 h
          refine lv_tsw (tgt := 65) (off := 52) hx hb (4) c8 dX8_worth_13 (by decide) (by decide) (by decide) (by decide) ?_
          refine lv_bipush (v := 93) hx hb dX8_worth_65 (by decide) ?_
          refine lv_iload_n hx hb dX8_worth_67 rfl (lv_at hl 0 rfl) ?_
          refine lv_isub hx hb dX8_worth_68 ?_
          obtain rfl := some_i1 h
          exact m_iret hC hH hr rfl dX8_worth_69
        · have h := ite_f c8 h
          by_cases c9 : r4 = (5 : Int32)
          · have h := ite_t c9 h
            refine lv_tsw (tgt := 70) (off := 57) hx hb (5) c9 dX8_worth_13 (by decide) (by decide) (by decide) (by decide) ?_
            refine lv_iconst (v := 2) hx hb dX8_worth_70 (by decide) ?_
            obtain rfl := some_i1 h
            exact m_iret (v := 2) hC hH hr rfl dX8_worth_71
          · have h := ite_f c9 h
            refine lv_tswd (tgt := 72) hx hb [1, 2, 3, 4, 5] (by simp only [List.mem_cons, List.not_mem_nil, or_false]; intro z hz; rcases hz with rfl | rfl | rfl | rfl | rfl <;> first | exact i32ne c5 (by decide) | exact i32ne c6 (by decide) | exact i32ne c7 (by decide) | exact i32ne c8 (by decide) | exact i32ne c9 (by decide)) dX8_worth_13 (by decide) (by decide) (by decide) ?_
            refine lv_iload_n hx hb dX8_worth_72 rfl (lv_at hl 0 rfl) ?_
            obtain rfl := some_i1 h
            exact m_iret hC hH hr rfl dX8_worth_73

def rmM_placeOf : Room := { frames := 0, cells := 0, slots := 0, locals := 0 }
theorem hdX8_placeOf : yX8_placeOf.cls = RX8 ∧ yX8_placeOf.cls ≠ "java/lang/invoke/MethodHandle" ∧ yX8_placeOf.cls ≠ "java/lang/invoke/VarHandle" ∧ (parseMethodDescriptor yX8_placeOf.desc).map (fun d => d.parameters.length) = some 1 := by decide +kernel

def fM_placeOf_L2 (μ0 : MS) (k21 : Int32 → Option (Int32)) : Nat → Int32 → Int32 → Option (Int32)
  | 0, _, _ => none
  | n + 1, x1, x2 =>
    ck ((6 : Int32) + x2) (3076) <|
    if (μ0 1 (((6 : Int32) + x2)).toNatClampNeg) = x1 then (
      k21 x2)
    else (
      bnd (x2 + (1 : Int32)) fun v3 =>
      (fM_placeOf_L2 μ0 k21 n) x1 v3)

set_option maxHeartbeats 4000000 in
set_option maxRecDepth 100000 in
theorem wM_placeOf_L2 {p : Program} {l : Launch} {e : Env} {s : State} {m : MethodId} {args : Array Value} {below : List Frame} {meth : Method} {c : Code} {D : va_G} {cI : ClassId} {B : Nat → Nat} {μ0 : MS} {r : Int32} (hC : jC p s m args meth c cX8_placeOf 3 RX8) (hr : meth.sig.returnType = some .int) {k21 : Int32 → Option (Int32)} (hk21 : ∀ (x2 : Int32) (H : Heap) (locs : List Loc) (ls : Array Slot), mH D cI B s (va_A (mW B cI μ0) s.heap.size) μ0 H locs → lv_has ls 3 [(2, .int x2)] → k21 x2 = some r → W p l e rmM_placeOf s m args below meth c H locs 0 0 (MQ below (mQi D cI B μ0 s.heap.size μ0 r) args s 0 0 (va_A (mW B cI μ0) s.heap.size)) (F0 m 21 ls [])) : ∀ (n : Nat) (x1 : Int32) (x2 : Int32) (H : Heap) (locs : List Loc) (ls : Array Slot), mH D cI B s (va_A (mW B cI μ0) s.heap.size) μ0 H locs → lv_has ls 3 [(0, .ref (B 0)), (1, .int x1), (2, .int x2)] → fM_placeOf_L2 μ0 k21 n x1 x2 = some r → W p l e rmM_placeOf s m args below meth c H locs 0 0 (MQ below (mQi D cI B μ0 s.heap.size μ0 r) args s 0 0 (va_A (mW B cI μ0) s.heap.size)) (F0 m 2 ls []) := by
  have hx := hC.1.1
  have hb := hC.1.2.1
  have hown := hC.1.2.2.2.1
  have hts := hC.1.2.2.2.2
  intro n
  induction n with
  | zero =>
    intro x1 x2 H locs ls  hH hl h
    rw [fM_placeOf_L2] at h
    cases h
  | succ n ih =>
    intro x1 x2 H locs ls  hH hl h
    rw [fM_placeOf_L2] at h
    refine lv_aload_n hx hb dX8_placeOf_2 rfl (lv_at hl 0 rfl) ?_
    refine m_get hC hH 0 (by decide) wfX8_7 rfl rfl dX8_placeOf_3 ?_
    refine lv_bipush (v := 6) hx hb dX8_placeOf_6 (by decide) ?_
    refine lv_iload_n hx hb dX8_placeOf_8 rfl (lv_at hl 2 rfl) ?_
    refine lv_iadd hx hb dX8_placeOf_9 ?_
    obtain ⟨i1, h⟩ := ck_some h
    refine m_ald hC hH (a := 1) rfl rfl i1 dX8_placeOf_10 ?_
    refine lv_iload_n hx hb dX8_placeOf_11 rfl (lv_at hl 1 rfl) ?_
    refine lv_icmp_eq (tgt := 21) hx hb dX8_placeOf_12 (by decide) (fun c2 => ?_) (fun c2 => ?_)
    · have h := ite_t c2 h
      exact hk21 x2 H locs ls  hH (lv_sub hl [2] rfl) h
    · have h := ite_f c2 h
      obtain ⟨v3, e4, h⟩ := bnd_some h
      refine lv_iinc (v := v3) (lv' := [(2, .int v3), (0, .ref (B 0)), (1, .int x1)]) hx hb dX8_placeOf_15 hl (k := 2) rfl (by rw [e4]; rfl) (by decide) rfl (fun ls hl => ?_)
      refine lv_goto (tgt := 2) hx hb dX8_placeOf_18 (by decide) ?_
      exact ih x1 v3 H locs ls  hH (lv_sub hl [1, 2, 0] rfl) h

def fM_placeOf (μ0 : MS) (x1 : Int32) : Option (Int32) :=
  fM_placeOf_L2 μ0 (fun (x2 : Int32) => some x2) 10000 x1 (0 : Int32)

set_option maxHeartbeats 4000000 in
set_option maxRecDepth 100000 in
theorem cM_placeOf (l : Launch) (D : va_G) (cI : ClassId) (B : Nat → Nat) (μ0 : MS) (x1 : Int32) {r : Int32} (h : fM_placeOf μ0 x1 = some r) : ∀ sz, Met l yX8_placeOf (Cond.code yX8_placeOf cX8_placeOf 3 (some .int) :: Tw) rmM_placeOf (mP D cI B μ0 sz [.ref (B 0), .int x1]) (mQi D cI B μ0 sz μ0 r) 0 0 (va_A (mW B cI μ0) sz) := by
  intro sz
  refine Met.ofW (cc := cX8_placeOf) (maxL := 3) (ret := (some .int)) (by decide) rfl ?_
  intro p e s m args below meth c s₁ Bd hml hv
  obtain ⟨hC, hr⟩ := jC_of Bd hml
  obtain ⟨rfl, rfl, hH⟩ := m_enter hv
  have hC : jC p s m _ meth c cX8_placeOf 3 RX8 := hC
  have hx := hC.1.1
  have hb := hC.1.2.1
  have hown := hC.1.2.2.2.1
  have hts := hC.1.2.2.2.2
  have hl := lv_entry ([.ref (B 0), .int x1]) (n := 3) (Nat.le_of_ble_eq_true rfl)
  rw [lg_entry_eq]
  generalize (lg_sl ([.ref (B 0), .int x1]) ++ List.replicate (3 - (lg_sl ([.ref (B 0), .int x1])).length) Slot.unset).toArray = ls at hl ⊢
  have hl : lv_has ls 3 [(0, .ref (B 0)), (1, .int x1)] := hl
  unfold fM_placeOf at h
  refine W_nm (fun H locs eH eL => ?_)
  have hH : mH D cI B s (va_A (mW B cI μ0) s.heap.size) μ0 H locs := by rw [eH, eL]; exact hH
  show W p l e rmM_placeOf s m _ below meth c H locs 0 0 _ (F0 m 0 ls [])
  refine lv_iconst (v := 0) hx hb dX8_placeOf_0 (by decide) ?_
  refine lv_istore_n (lv' := [(2, .int (0 : Int32)), (0, .ref (B 0)), (1, .int x1)]) hx hb dX8_placeOf_1 rfl hl (by decide) rfl (fun ls hl => ?_)
  refine wM_placeOf_L2 hC hr  ?_ 10000 x1 (0 : Int32) H locs ls  hH (lv_sub hl [1, 2, 0] rfl) h
  intro x2 H locs ls  hH hl h
  refine lv_iload_n hx hb dX8_placeOf_21 rfl (lv_at hl 0 rfl) ?_
  obtain rfl := some_i1 h
  exact m_iret hC hH hr rfl dX8_placeOf_22

def rmM_told : Room := { frames := 4, cells := 0, slots := 0, locals := 96 }
theorem hdX8_told : yX8_told.cls = RX8 ∧ yX8_told.cls ≠ "java/lang/invoke/MethodHandle" ∧ yX8_told.cls ≠ "java/lang/invoke/VarHandle" ∧ (parseMethodDescriptor yX8_told.desc).map (fun d => d.parameters.length) = some 2 := by decide +kernel

def fM_told (μ0 : MS) (x1 : Int32) (x2 : Int32) : Option (Int32 × MS) :=
  ob (fM_isOne μ0 x1) fun r2 =>
  if r2 = 0 then (
    some ((-1000000001 : Int32), μ0))
  else (
    if x2 = (0 : Int32) then (
      ob (fM_of μ0 x1 x2) fun r6 =>
      some (r6, μ0))
    else if x2 = (1 : Int32) then (
      ob (fM_of μ0 x1 x2) fun r9 =>
      some (r9, μ0))
    else if x2 = (2 : Int32) then (
      ob (fM_of μ0 x1 x2) fun r12 =>
      some (r12, μ0))
    else if x2 = (3 : Int32) then (
      ob (fM_placeOf μ0 x1) fun r15 =>
      some (r15, μ0))
    else if x2 = (4 : Int32) then (
      ob (fM_of μ0 x1 (3 : Int32)) fun r18 =>
      some (r18, μ0))
    else if x2 = (5 : Int32) then (
      ob2 (fM_rises μ0 x1) fun r21 μ22 =>
      some (r21, μ22))
    else if x2 = (6 : Int32) then (
      ob (fM_grips μ0 x1) fun r25 =>
      some (r25, μ0))
    else if x2 = (7 : Int32) then (
      ob (fM_worth μ0 x1) fun r28 =>
      some (r28, μ0))
    else (
      some ((-1000000001 : Int32), μ0)))

set_option maxHeartbeats 4000000 in
set_option maxRecDepth 100000 in
theorem cM_told (l : Launch) (D : va_G) (cI : ClassId) (B : Nat → Nat) (μ0 : MS) (x1 : Int32) (x2 : Int32) {r : Int32} {μr : MS} (h : fM_told μ0 x1 x2 = some (r, μr)) : ∀ sz, Met l yX8_told (Cond.code yX8_told cX8_told 3 (some .int) :: Tw) rmM_told (mP D cI B μ0 sz [.ref (B 0), .int x1, .int x2]) (mQi D cI B μ0 sz μr r) 0 0 (va_A (mW B cI μ0) sz) := by
  intro sz
  refine Met.ofW (cc := cX8_told) (maxL := 3) (ret := (some .int)) (by decide) rfl ?_
  intro p e s m args below meth c s₁ Bd hml hv
  obtain ⟨hC, hr⟩ := jC_of Bd hml
  obtain ⟨rfl, rfl, hH⟩ := m_enter hv
  have hC : jC p s m _ meth c cX8_told 3 RX8 := hC
  have hx := hC.1.1
  have hb := hC.1.2.1
  have hown := hC.1.2.2.2.1
  have hts := hC.1.2.2.2.2
  have hl := lv_entry ([.ref (B 0), .int x1, .int x2]) (n := 3) (Nat.le_of_ble_eq_true rfl)
  rw [lg_entry_eq]
  generalize (lg_sl ([.ref (B 0), .int x1, .int x2]) ++ List.replicate (3 - (lg_sl ([.ref (B 0), .int x1, .int x2])).length) Slot.unset).toArray = ls at hl ⊢
  have hl : lv_has ls 3 [(0, .ref (B 0)), (1, .int x1), (2, .int x2)] := hl
  unfold fM_told at h
  refine W_nm (fun H locs eH eL => ?_)
  have hH : mH D cI B s (va_A (mW B cI μ0) s.heap.size) μ0 H locs := by rw [eH, eL]; exact hH
  show W p l e rmM_told s m _ below meth c H locs 0 0 _ (F0 m 0 ls [])
  refine lv_aload_n hx hb dX8_told_0 rfl (lv_at hl 0 rfl) ?_
  refine lv_iload_n hx hb dX8_told_1 rfl (lv_at hl 1 rfl) ?_
  obtain ⟨r2, h1, h⟩ := ob_some h
  refine m_calli (As := [.int x1]) (rest := []) (cM_isOne l D cI B μ0 x1 h1) hC hH hl (cwV 1 hts (gV wmX8_112 wvX8_isOne) rfl rfl rfl hdX8_isOne ⟨Nat.le_of_ble_eq_true rfl, Nat.le_of_ble_eq_true rfl⟩) rfl rfl (Nat.le_of_ble_eq_true rfl) ⟨Nat.zero_le _, Nat.zero_le _⟩ dX8_told_2 (fun H locs hH => ?_)
  refine lv_if_ne (tgt := 11) hx hb dX8_told_5 (by decide) (fun c3 => ?_) (fun c3 => ?_)
  · have h := ite_f c3 h
    refine lv_iload_n hx hb dX8_told_11 rfl (lv_at hl 2 rfl) ?_
    by_cases c4 : x2 = (0 : Int32)
    · have h := ite_t c4 h
      refine lv_tsw (tgt := 60) (off := 48) hx hb (0) c4 dX8_told_12 (by decide) (by decide) (by decide) (by decide) ?_
      refine lv_aload_n hx hb dX8_told_60 rfl (lv_at hl 0 rfl) ?_
      refine lv_iload_n hx hb dX8_told_61 rfl (lv_at hl 1 rfl) ?_
      refine lv_iload_n hx hb dX8_told_62 rfl (lv_at hl 2 rfl) ?_
      obtain ⟨r6, h5, h⟩ := ob_some h
      refine m_calli (As := [.int x1, .int x2]) (rest := []) (cM_of l D cI B μ0 x1 x2 h5) hC hH hl (cwV 2 hts (gV wmX8_99 wvX8_of) rfl rfl rfl hdX8_of ⟨Nat.le_of_ble_eq_true rfl, Nat.le_of_ble_eq_true rfl⟩) rfl rfl (Nat.le_of_ble_eq_true rfl) ⟨Nat.zero_le _, Nat.zero_le _⟩ dX8_told_63 (fun H locs hH => ?_)
      obtain ⟨rfl, rfl⟩ := some_i2 h
      exact m_iret hC hH hr rfl dX8_told_66
    · have h := ite_f c4 h
      by_cases c7 : x2 = (1 : Int32)
      · have h := ite_t c7 h
        refine lv_tsw (tgt := 60) (off := 48) hx hb (1) c7 dX8_told_12 (by decide) (by decide) (by decide) (by decide) ?_
        refine lv_aload_n hx hb dX8_told_60 rfl (lv_at hl 0 rfl) ?_
        refine lv_iload_n hx hb dX8_told_61 rfl (lv_at hl 1 rfl) ?_
        refine lv_iload_n hx hb dX8_told_62 rfl (lv_at hl 2 rfl) ?_
        obtain ⟨r9, h8, h⟩ := ob_some h
        refine m_calli (As := [.int x1, .int x2]) (rest := []) (cM_of l D cI B μ0 x1 x2 h8) hC hH hl (cwV 2 hts (gV wmX8_99 wvX8_of) rfl rfl rfl hdX8_of ⟨Nat.le_of_ble_eq_true rfl, Nat.le_of_ble_eq_true rfl⟩) rfl rfl (Nat.le_of_ble_eq_true rfl) ⟨Nat.zero_le _, Nat.zero_le _⟩ dX8_told_63 (fun H locs hH => ?_)
        obtain ⟨rfl, rfl⟩ := some_i2 h
        exact m_iret hC hH hr rfl dX8_told_66
      · have h := ite_f c7 h
        by_cases c10 : x2 = (2 : Int32)
        · have h := ite_t c10 h
          refine lv_tsw (tgt := 60) (off := 48) hx hb (2) c10 dX8_told_12 (by decide) (by decide) (by decide) (by decide) ?_
          refine lv_aload_n hx hb dX8_told_60 rfl (lv_at hl 0 rfl) ?_
          refine lv_iload_n hx hb dX8_told_61 rfl (lv_at hl 1 rfl) ?_
          refine lv_iload_n hx hb dX8_told_62 rfl (lv_at hl 2 rfl) ?_
          obtain ⟨r12, h11, h⟩ := ob_some h
          refine m_calli (As := [.int x1, .int x2]) (rest := []) (cM_of l D cI B μ0 x1 x2 h11) hC hH hl (cwV 2 hts (gV wmX8_99 wvX8_of) rfl rfl rfl hdX8_of ⟨Nat.le_of_ble_eq_true rfl, Nat.le_of_ble_eq_true rfl⟩) rfl rfl (Nat.le_of_ble_eq_true rfl) ⟨Nat.zero_le _, Nat.zero_le _⟩ dX8_told_63 (fun H locs hH => ?_)
          obtain ⟨rfl, rfl⟩ := some_i2 h
          exact m_iret hC hH hr rfl dX8_told_66
        · have h := ite_f c10 h
          by_cases c13 : x2 = (3 : Int32)
          · have h := ite_t c13 h
            refine lv_tsw (tgt := 67) (off := 55) hx hb (3) c13 dX8_told_12 (by decide) (by decide) (by decide) (by decide) ?_
            refine lv_aload_n hx hb dX8_told_67 rfl (lv_at hl 0 rfl) ?_
            refine lv_iload_n hx hb dX8_told_68 rfl (lv_at hl 1 rfl) ?_
            obtain ⟨r15, h14, h⟩ := ob_some h
            refine m_calli (As := [.int x1]) (rest := []) (cM_placeOf l D cI B μ0 x1 h14) hC hH hl (cwV 1 hts (gV wmX8_116 wvX8_placeOf) rfl rfl rfl hdX8_placeOf ⟨Nat.le_of_ble_eq_true rfl, Nat.le_of_ble_eq_true rfl⟩) rfl rfl (Nat.le_of_ble_eq_true rfl) ⟨Nat.zero_le _, Nat.zero_le _⟩ dX8_told_69 (fun H locs hH => ?_)
            obtain ⟨rfl, rfl⟩ := some_i2 h
            exact m_iret hC hH hr rfl dX8_told_72
          · have h := ite_f c13 h
            by_cases c16 : x2 = (4 : Int32)
            · have h := ite_t c16 h
              refine lv_tsw (tgt := 73) (off := 61) hx hb (4) c16 dX8_told_12 (by decide) (by decide) (by decide) (by decide) ?_
              refine lv_aload_n hx hb dX8_told_73 rfl (lv_at hl 0 rfl) ?_
              refine lv_iload_n hx hb dX8_told_74 rfl (lv_at hl 1 rfl) ?_
              refine lv_iconst (v := 3) hx hb dX8_told_75 (by decide) ?_
              obtain ⟨r18, h17, h⟩ := ob_some h
              refine m_calli (As := [.int x1, .int (3 : Int32)]) (rest := []) (cM_of l D cI B μ0 x1 (3 : Int32) h17) hC hH hl (cwV 2 hts (gV wmX8_99 wvX8_of) rfl rfl rfl hdX8_of ⟨Nat.le_of_ble_eq_true rfl, Nat.le_of_ble_eq_true rfl⟩) rfl rfl (Nat.le_of_ble_eq_true rfl) ⟨Nat.zero_le _, Nat.zero_le _⟩ dX8_told_76 (fun H locs hH => ?_)
              obtain ⟨rfl, rfl⟩ := some_i2 h
              exact m_iret hC hH hr rfl dX8_told_79
            · have h := ite_f c16 h
              by_cases c19 : x2 = (5 : Int32)
              · have h := ite_t c19 h
                refine lv_tsw (tgt := 80) (off := 68) hx hb (5) c19 dX8_told_12 (by decide) (by decide) (by decide) (by decide) ?_
                refine lv_aload_n hx hb dX8_told_80 rfl (lv_at hl 0 rfl) ?_
                refine lv_iload_n hx hb dX8_told_81 rfl (lv_at hl 1 rfl) ?_
                obtain ⟨r21, μ22, h20, h⟩ := ob2_some h
                refine m_calli (As := [.int x1]) (rest := []) (cM_rises l D cI B μ0 x1 h20) hC hH hl (cwV 1 hts (gV wmX8_119 wvX8_rises) rfl rfl rfl hdX8_rises ⟨Nat.le_of_ble_eq_true rfl, Nat.le_of_ble_eq_true rfl⟩) rfl rfl (Nat.le_of_ble_eq_true rfl) ⟨Nat.zero_le _, Nat.zero_le _⟩ dX8_told_82 (fun H locs hH => ?_)
                obtain ⟨rfl, rfl⟩ := some_i2 h
                exact m_iret hC hH hr rfl dX8_told_85
              · have h := ite_f c19 h
                by_cases c23 : x2 = (6 : Int32)
                · have h := ite_t c23 h
                  refine lv_tsw (tgt := 86) (off := 74) hx hb (6) c23 dX8_told_12 (by decide) (by decide) (by decide) (by decide) ?_
                  refine lv_aload_n hx hb dX8_told_86 rfl (lv_at hl 0 rfl) ?_
                  refine lv_iload_n hx hb dX8_told_87 rfl (lv_at hl 1 rfl) ?_
                  obtain ⟨r25, h24, h⟩ := ob_some h
                  refine m_calli (As := [.int x1]) (rest := []) (cM_grips l D cI B μ0 x1 h24) hC hH hl (cwV 1 hts (gV wmX8_122 wvX8_grips) rfl rfl rfl hdX8_grips ⟨Nat.le_of_ble_eq_true rfl, Nat.le_of_ble_eq_true rfl⟩) rfl rfl (Nat.le_of_ble_eq_true rfl) ⟨Nat.zero_le _, Nat.zero_le _⟩ dX8_told_88 (fun H locs hH => ?_)
                  obtain ⟨rfl, rfl⟩ := some_i2 h
                  exact m_iret hC hH hr rfl dX8_told_91
                · have h := ite_f c23 h
                  by_cases c26 : x2 = (7 : Int32)
                  · have h := ite_t c26 h
                    refine lv_tsw (tgt := 92) (off := 80) hx hb (7) c26 dX8_told_12 (by decide) (by decide) (by decide) (by decide) ?_
                    refine lv_aload_n hx hb dX8_told_92 rfl (lv_at hl 0 rfl) ?_
                    refine lv_iload_n hx hb dX8_told_93 rfl (lv_at hl 1 rfl) ?_
                    obtain ⟨r28, h27, h⟩ := ob_some h
                    refine m_calli (As := [.int x1]) (rest := []) (cM_worth l D cI B μ0 x1 h27) hC hH hl (cwV 1 hts (gV wmX8_125 wvX8_worth) rfl rfl rfl hdX8_worth ⟨Nat.le_of_ble_eq_true rfl, Nat.le_of_ble_eq_true rfl⟩) rfl rfl (Nat.le_of_ble_eq_true rfl) ⟨Nat.zero_le _, Nat.zero_le _⟩ dX8_told_94 (fun H locs hH => ?_)
                    obtain ⟨rfl, rfl⟩ := some_i2 h
                    exact m_iret hC hH hr rfl dX8_told_97
                  · have h := ite_f c26 h
                    refine lv_tswd (tgt := 98) hx hb [0, 1, 2, 3, 4, 5, 6, 7] (by simp only [List.mem_cons, List.not_mem_nil, or_false]; intro z hz; rcases hz with rfl | rfl | rfl | rfl | rfl | rfl | rfl | rfl <;> first | exact i32ne c4 (by decide) | exact i32ne c7 (by decide) | exact i32ne c10 (by decide) | exact i32ne c13 (by decide) | exact i32ne c16 (by decide) | exact i32ne c19 (by decide) | exact i32ne c23 (by decide) | exact i32ne c26 (by decide)) dX8_told_12 (by decide) (by decide) (by decide) ?_
                    refine lv_ldc (v := -1000000001) hx hb hown (hts _ wkX8_90) dX8_told_98 ?_
                    obtain ⟨rfl, rfl⟩ := some_i2 h
                    exact m_iret (v := -1000000001) hC hH hr rfl dX8_told_100
  · have h := ite_t c3 h
    refine lv_ldc (v := -1000000001) hx hb hown (hts _ wkX8_90) dX8_told_8 ?_
    obtain ⟨rfl, rfl⟩ := some_i2 h
    exact m_iret (v := -1000000001) hC hH hr rfl dX8_told_10

def rmM_isOf : Room := { frames := 0, cells := 0, slots := 0, locals := 0 }
theorem hdX8_isOf : yX8_isOf.cls ≠ "java/lang/invoke/MethodHandle" ∧ yX8_isOf.cls ≠ "java/lang/invoke/VarHandle" ∧ (parseMethodDescriptor yX8_isOf.desc).map (fun d => d.parameters.length) = some 2 := by decide +kernel

def fM_isOf_J19 (μ0 : MS) (x0 : Int32) (x1 : Int32) : Option (Int32) :=
  if x1 = (2 : Int32) then (
    if x0 = (4 : Int32) then (
      some (1 : Int32))
    else (
      some (0 : Int32)))
  else (
    some (0 : Int32))

set_option maxHeartbeats 4000000 in
set_option maxRecDepth 100000 in
theorem wM_isOf_J19 {p : Program} {l : Launch} {e : Env} {s : State} {m : MethodId} {args : Array Value} {below : List Frame} {meth : Method} {c : Code} {D : va_G} {cI : ClassId} {B : Nat → Nat} {μ0 : MS} {r : Int32} (hC : jC p s m args meth c cX8_isOf 2 RX8) (hr : meth.sig.returnType = some .boolean) (x0 : Int32) (x1 : Int32) (H : Heap) (locs : List Loc) (ls : Array Slot) (hH : mH D cI B s (va_A (mW B cI μ0) s.heap.size) μ0 H locs) (hl : lv_has ls 2 [(0, .int x0), (1, .int x1)]) (h : fM_isOf_J19 μ0 x0 x1 = some r) : W p l e rmM_isOf s m args below meth c H locs 0 0 (MQ below (mQi D cI B μ0 s.heap.size μ0 r) args s 0 0 (va_A (mW B cI μ0) s.heap.size)) (F0 m 19 ls []) := by
  have hx := hC.1.1
  have hb := hC.1.2.1
  have hown := hC.1.2.2.2.1
  have hts := hC.1.2.2.2.2
  unfold fM_isOf_J19 at h
  refine lv_iload_n hx hb dX8_isOf_19 rfl (lv_at hl 1 rfl) ?_
  refine lv_iconst (v := 2) hx hb dX8_isOf_20 (by decide) ?_
  refine lv_icmp_ne (tgt := 33) hx hb dX8_isOf_21 (by decide) (fun c4 => ?_) (fun c4 => ?_)
  · have h := ite_f c4 h
    refine lv_iconst (v := 0) hx hb dX8_isOf_33 (by decide) ?_
    obtain rfl := some_i1 h
    exact m_iret (v := 0) hC hH hr (by decide) dX8_isOf_34
  · have h := ite_t c4 h
    refine lv_iload_n hx hb dX8_isOf_24 rfl (lv_at hl 0 rfl) ?_
    refine lv_iconst (v := 4) hx hb dX8_isOf_25 (by decide) ?_
    refine lv_icmp_ne (tgt := 33) hx hb dX8_isOf_26 (by decide) (fun c5 => ?_) (fun c5 => ?_)
    · have h := ite_f c5 h
      refine lv_iconst (v := 0) hx hb dX8_isOf_33 (by decide) ?_
      obtain rfl := some_i1 h
      exact m_iret (v := 0) hC hH hr (by decide) dX8_isOf_34
    · have h := ite_t c5 h
      refine lv_iconst (v := 1) hx hb dX8_isOf_29 (by decide) ?_
      refine lv_goto (tgt := 34) hx hb dX8_isOf_30 (by decide) ?_
      obtain rfl := some_i1 h
      exact m_iret (v := 1) hC hH hr (by decide) dX8_isOf_34

def fM_isOf (μ0 : MS) (x0 : Int32) (x1 : Int32) : Option (Int32) :=
  if x0 = x1 then (
    some (1 : Int32))
  else (
    if x1 = 0 then (
      some (1 : Int32))
    else (
      if x1 = (1 : Int32) then (
        if x0 = (3 : Int32) then (
          some (1 : Int32))
        else (
          fM_isOf_J19 μ0 x0 x1))
      else (
        fM_isOf_J19 μ0 x0 x1)))

set_option maxHeartbeats 4000000 in
set_option maxRecDepth 100000 in
theorem cM_isOf (l : Launch) (D : va_G) (cI : ClassId) (B : Nat → Nat) (μ0 : MS) (x0 : Int32) (x1 : Int32) {r : Int32} (h : fM_isOf μ0 x0 x1 = some r) : ∀ sz, Met l yX8_isOf (Cond.code yX8_isOf cX8_isOf 2 (some .boolean) :: Tw) rmM_isOf (mP D cI B μ0 sz [.int x0, .int x1]) (mQi D cI B μ0 sz μ0 r) 0 0 (va_A (mW B cI μ0) sz) := by
  intro sz
  refine Met.ofW (cc := cX8_isOf) (maxL := 2) (ret := (some .boolean)) (by decide) rfl ?_
  intro p e s m args below meth c s₁ Bd hml hv
  obtain ⟨hC, hr⟩ := jC_of Bd hml
  obtain ⟨rfl, rfl, hH⟩ := m_enter hv
  have hC : jC p s m _ meth c cX8_isOf 2 RX8 := hC
  have hx := hC.1.1
  have hb := hC.1.2.1
  have hown := hC.1.2.2.2.1
  have hts := hC.1.2.2.2.2
  have hl := lv_entry ([.int x0, .int x1]) (n := 2) (Nat.le_of_ble_eq_true rfl)
  rw [lg_entry_eq]
  generalize (lg_sl ([.int x0, .int x1]) ++ List.replicate (2 - (lg_sl ([.int x0, .int x1])).length) Slot.unset).toArray = ls at hl ⊢
  have hl : lv_has ls 2 [(0, .int x0), (1, .int x1)] := hl
  unfold fM_isOf at h
  refine W_nm (fun H locs eH eL => ?_)
  have hH : mH D cI B s (va_A (mW B cI μ0) s.heap.size) μ0 H locs := by rw [eH, eL]; exact hH
  show W p l e rmM_isOf s m _ below meth c H locs 0 0 _ (F0 m 0 ls [])
  refine lv_iload_n hx hb dX8_isOf_0 rfl (lv_at hl 0 rfl) ?_
  refine lv_iload_n hx hb dX8_isOf_1 rfl (lv_at hl 1 rfl) ?_
  refine lv_icmp_eq (tgt := 29) hx hb dX8_isOf_2 (by decide) (fun c1 => ?_) (fun c1 => ?_)
  · have h := ite_t c1 h
    refine lv_iconst (v := 1) hx hb dX8_isOf_29 (by decide) ?_
    refine lv_goto (tgt := 34) hx hb dX8_isOf_30 (by decide) ?_
    obtain rfl := some_i1 h
    exact m_iret (v := 1) hC hH hr (by decide) dX8_isOf_34
  · have h := ite_f c1 h
    refine lv_iload_n hx hb dX8_isOf_5 rfl (lv_at hl 1 rfl) ?_
    refine lv_if_eq (tgt := 29) hx hb dX8_isOf_6 (by decide) (fun c2 => ?_) (fun c2 => ?_)
    · have h := ite_t c2 h
      refine lv_iconst (v := 1) hx hb dX8_isOf_29 (by decide) ?_
      refine lv_goto (tgt := 34) hx hb dX8_isOf_30 (by decide) ?_
      obtain rfl := some_i1 h
      exact m_iret (v := 1) hC hH hr (by decide) dX8_isOf_34
    · have h := ite_f c2 h
      refine lv_iload_n hx hb dX8_isOf_9 rfl (lv_at hl 1 rfl) ?_
      refine lv_iconst (v := 1) hx hb dX8_isOf_10 (by decide) ?_
      refine lv_icmp_ne (tgt := 19) hx hb dX8_isOf_11 (by decide) (fun c3 => ?_) (fun c3 => ?_)
      · have h := ite_f c3 h
        exact wM_isOf_J19 hC hr  x0 x1 H locs ls  hH hl h
      · have h := ite_t c3 h
        refine lv_iload_n hx hb dX8_isOf_14 rfl (lv_at hl 0 rfl) ?_
        refine lv_iconst (v := 3) hx hb dX8_isOf_15 (by decide) ?_
        refine lv_icmp_eq (tgt := 29) hx hb dX8_isOf_16 (by decide) (fun c6 => ?_) (fun c6 => ?_)
        · have h := ite_t c6 h
          refine lv_iconst (v := 1) hx hb dX8_isOf_29 (by decide) ?_
          refine lv_goto (tgt := 34) hx hb dX8_isOf_30 (by decide) ?_
          obtain rfl := some_i1 h
          exact m_iret (v := 1) hC hH hr (by decide) dX8_isOf_34
        · have h := ite_f c6 h
          exact wM_isOf_J19 hC hr  x0 x1 H locs ls  hH hl h

def rmM_as : Room := { frames := 2, cells := 0, slots := 0, locals := 46 }
theorem hdX8_as : yX8_as.cls = RX8 ∧ yX8_as.cls ≠ "java/lang/invoke/MethodHandle" ∧ yX8_as.cls ≠ "java/lang/invoke/VarHandle" ∧ (parseMethodDescriptor yX8_as.desc).map (fun d => d.parameters.length) = some 2 := by decide +kernel

def fM_as (μ0 : MS) (x1 : Int32) (x2 : Int32) : Option (Int32) :=
  ob (fM_isOne μ0 x1) fun r2 =>
  if r2 = 0 then (
    some (-1000000001 : Int32))
  else (
    ob (fM_isIn μ0 (x2).toInt64 (0 : Int64) (5 : Int64)) fun r5 =>
    if r5 = 0 then (
      some (-1000000001 : Int32))
    else (
      ob (fM_of μ0 x1 (0 : Int32)) fun r8 =>
      ob (fM_isOf μ0 r8 x2) fun r10 =>
      if r10 = 0 then (
        some (-1000000012 : Int32))
      else (
        ob (fM_of μ0 x1 (1 : Int32)) fun r13 =>
        some r13)))

set_option maxHeartbeats 4000000 in
set_option maxRecDepth 100000 in
theorem cM_as (l : Launch) (D : va_G) (cI : ClassId) (B : Nat → Nat) (μ0 : MS) (x1 : Int32) (x2 : Int32) {r : Int32} (h : fM_as μ0 x1 x2 = some r) : ∀ sz, Met l yX8_as (Cond.code yX8_as cX8_as 3 (some .int) :: Tw) rmM_as (mP D cI B μ0 sz [.ref (B 0), .int x1, .int x2]) (mQi D cI B μ0 sz μ0 r) 0 0 (va_A (mW B cI μ0) sz) := by
  intro sz
  refine Met.ofW (cc := cX8_as) (maxL := 3) (ret := (some .int)) (by decide) rfl ?_
  intro p e s m args below meth c s₁ Bd hml hv
  obtain ⟨hC, hr⟩ := jC_of Bd hml
  obtain ⟨rfl, rfl, hH⟩ := m_enter hv
  have hC : jC p s m _ meth c cX8_as 3 RX8 := hC
  have hx := hC.1.1
  have hb := hC.1.2.1
  have hown := hC.1.2.2.2.1
  have hts := hC.1.2.2.2.2
  have hl := lv_entry ([.ref (B 0), .int x1, .int x2]) (n := 3) (Nat.le_of_ble_eq_true rfl)
  rw [lg_entry_eq]
  generalize (lg_sl ([.ref (B 0), .int x1, .int x2]) ++ List.replicate (3 - (lg_sl ([.ref (B 0), .int x1, .int x2])).length) Slot.unset).toArray = ls at hl ⊢
  have hl : lv_has ls 3 [(0, .ref (B 0)), (1, .int x1), (2, .int x2)] := hl
  unfold fM_as at h
  refine W_nm (fun H locs eH eL => ?_)
  have hH : mH D cI B s (va_A (mW B cI μ0) s.heap.size) μ0 H locs := by rw [eH, eL]; exact hH
  show W p l e rmM_as s m _ below meth c H locs 0 0 _ (F0 m 0 ls [])
  refine lv_aload_n hx hb dX8_as_0 rfl (lv_at hl 0 rfl) ?_
  refine lv_iload_n hx hb dX8_as_1 rfl (lv_at hl 1 rfl) ?_
  obtain ⟨r2, h1, h⟩ := ob_some h
  refine m_calli (As := [.int x1]) (rest := []) (cM_isOne l D cI B μ0 x1 h1) hC hH hl (cwV 1 hts (gV wmX8_112 wvX8_isOne) rfl rfl rfl hdX8_isOne ⟨Nat.le_of_ble_eq_true rfl, Nat.le_of_ble_eq_true rfl⟩) rfl rfl (Nat.le_of_ble_eq_true rfl) ⟨Nat.zero_le _, Nat.zero_le _⟩ dX8_as_2 (fun H locs hH => ?_)
  refine lv_if_eq (tgt := 20) hx hb dX8_as_5 (by decide) (fun c3 => ?_) (fun c3 => ?_)
  · have h := ite_t c3 h
    refine lv_ldc (v := -1000000001) hx hb hown (hts _ wkX8_90) dX8_as_20 ?_
    obtain rfl := some_i1 h
    exact m_iret (v := -1000000001) hC hH hr rfl dX8_as_22
  · have h := ite_f c3 h
    refine lv_iload_n hx hb dX8_as_8 rfl (lv_at hl 2 rfl) ?_
    refine lv_i2l hx hb dX8_as_9 rfl ?_
    refine lv_lconst (v := 0) hx hb dX8_as_10 (by decide) ?_
    refine lv_ldc2 (v := 5) hx hb hown (hts _ wqX8_84) dX8_as_11 ?_
    obtain ⟨r5, h4, h⟩ := ob_some h
    refine m_calls (As := [.long (x2).toInt64, .long (0 : Int64), .long (5 : Int64)]) (rest := []) (cM_isIn l D cI B μ0 (x2).toInt64 (0 : Int64) (5 : Int64) h4) hC hH hl (va_cwS 3 hts (gS wmX8_75 wsX8_isIn) rfl rfl rfl hdX8_isIn ⟨Nat.le_of_ble_eq_true rfl, Nat.le_of_ble_eq_true rfl⟩) rfl rfl (Nat.le_of_ble_eq_true rfl) ⟨Nat.zero_le _, Nat.zero_le _⟩ dX8_as_14 (fun H locs hH => ?_)
    refine lv_if_ne (tgt := 23) hx hb dX8_as_17 (by decide) (fun c6 => ?_) (fun c6 => ?_)
    · have h := ite_f c6 h
      refine lv_aload_n hx hb dX8_as_23 rfl (lv_at hl 0 rfl) ?_
      refine lv_iload_n hx hb dX8_as_24 rfl (lv_at hl 1 rfl) ?_
      refine lv_iconst (v := 0) hx hb dX8_as_25 (by decide) ?_
      obtain ⟨r8, h7, h⟩ := ob_some h
      refine m_calli (As := [.int x1, .int (0 : Int32)]) (rest := []) (cM_of l D cI B μ0 x1 (0 : Int32) h7) hC hH hl (cwV 2 hts (gV wmX8_99 wvX8_of) rfl rfl rfl hdX8_of ⟨Nat.le_of_ble_eq_true rfl, Nat.le_of_ble_eq_true rfl⟩) rfl rfl (Nat.le_of_ble_eq_true rfl) ⟨Nat.zero_le _, Nat.zero_le _⟩ dX8_as_26 (fun H locs hH => ?_)
      refine lv_iload_n hx hb dX8_as_29 rfl (lv_at hl 2 rfl) ?_
      obtain ⟨r10, h9, h⟩ := ob_some h
      refine m_calls (As := [.int r8, .int x2]) (rest := []) (cM_isOf l D cI B μ0 r8 x2 h9) hC hH hl (va_cwS 2 hts (gS wmX8_128 wsX8_isOf) rfl rfl rfl hdX8_isOf ⟨Nat.le_of_ble_eq_true rfl, Nat.le_of_ble_eq_true rfl⟩) rfl rfl (Nat.le_of_ble_eq_true rfl) ⟨Nat.zero_le _, Nat.zero_le _⟩ dX8_as_30 (fun H locs hH => ?_)
      refine lv_if_eq (tgt := 45) hx hb dX8_as_33 (by decide) (fun c11 => ?_) (fun c11 => ?_)
      · have h := ite_t c11 h
        refine lv_ldc (v := -1000000012) hx hb hown (hts _ wkX8_132) dX8_as_45 ?_
        obtain rfl := some_i1 h
        exact m_iret (v := -1000000012) hC hH hr rfl dX8_as_47
      · have h := ite_f c11 h
        refine lv_aload_n hx hb dX8_as_36 rfl (lv_at hl 0 rfl) ?_
        refine lv_iload_n hx hb dX8_as_37 rfl (lv_at hl 1 rfl) ?_
        refine lv_iconst (v := 1) hx hb dX8_as_38 (by decide) ?_
        obtain ⟨r13, h12, h⟩ := ob_some h
        refine m_calli (As := [.int x1, .int (1 : Int32)]) (rest := []) (cM_of l D cI B μ0 x1 (1 : Int32) h12) hC hH hl (cwV 2 hts (gV wmX8_99 wvX8_of) rfl rfl rfl hdX8_of ⟨Nat.le_of_ble_eq_true rfl, Nat.le_of_ble_eq_true rfl⟩) rfl rfl (Nat.le_of_ble_eq_true rfl) ⟨Nat.zero_le _, Nat.zero_le _⟩ dX8_as_39 (fun H locs hH => ?_)
        refine lv_goto (tgt := 47) hx hb dX8_as_42 (by decide) ?_
        obtain rfl := some_i1 h
        exact m_iret hC hH hr rfl dX8_as_47
    · have h := ite_t c6 h
      refine lv_ldc (v := -1000000001) hx hb hown (hts _ wkX8_90) dX8_as_20 ?_
      obtain rfl := some_i1 h
      exact m_iret (v := -1000000001) hC hH hr rfl dX8_as_22

def rmM_turns : Room := { frames := 2, cells := 0, slots := 0, locals := 46 }
theorem hdX8_turns : yX8_turns.cls = RX8 ∧ yX8_turns.cls ≠ "java/lang/invoke/MethodHandle" ∧ yX8_turns.cls ≠ "java/lang/invoke/VarHandle" ∧ (parseMethodDescriptor yX8_turns.desc).map (fun d => d.parameters.length) = some 2 := by decide +kernel

def fM_turns (μ0 : MS) (x1 : Int32) (x2 : Int32) : Option (Int32 × MS) :=
  ob (fM_isOne μ0 x1) fun r2 =>
  if r2 = 0 then (
    some ((-1000000001 : Int32), μ0))
  else (
    ob (fM_isIn μ0 (x2).toInt64 (0 : Int64) (5 : Int64)) fun r5 =>
    if r5 = 0 then (
      some ((-1000000001 : Int32), μ0))
    else (
      ob2 (fM_becomes μ0 ((20 : Int32) + ((4 : Int32) * x1)) x2) fun r8 μ9 =>
      some (r8, μ9)))

set_option maxHeartbeats 4000000 in
set_option maxRecDepth 100000 in
theorem cM_turns (l : Launch) (D : va_G) (cI : ClassId) (B : Nat → Nat) (μ0 : MS) (x1 : Int32) (x2 : Int32) {r : Int32} {μr : MS} (h : fM_turns μ0 x1 x2 = some (r, μr)) : ∀ sz, Met l yX8_turns (Cond.code yX8_turns cX8_turns 3 (some .int) :: Tw) rmM_turns (mP D cI B μ0 sz [.ref (B 0), .int x1, .int x2]) (mQi D cI B μ0 sz μr r) 0 0 (va_A (mW B cI μ0) sz) := by
  intro sz
  refine Met.ofW (cc := cX8_turns) (maxL := 3) (ret := (some .int)) (by decide) rfl ?_
  intro p e s m args below meth c s₁ Bd hml hv
  obtain ⟨hC, hr⟩ := jC_of Bd hml
  obtain ⟨rfl, rfl, hH⟩ := m_enter hv
  have hC : jC p s m _ meth c cX8_turns 3 RX8 := hC
  have hx := hC.1.1
  have hb := hC.1.2.1
  have hown := hC.1.2.2.2.1
  have hts := hC.1.2.2.2.2
  have hl := lv_entry ([.ref (B 0), .int x1, .int x2]) (n := 3) (Nat.le_of_ble_eq_true rfl)
  rw [lg_entry_eq]
  generalize (lg_sl ([.ref (B 0), .int x1, .int x2]) ++ List.replicate (3 - (lg_sl ([.ref (B 0), .int x1, .int x2])).length) Slot.unset).toArray = ls at hl ⊢
  have hl : lv_has ls 3 [(0, .ref (B 0)), (1, .int x1), (2, .int x2)] := hl
  unfold fM_turns at h
  refine W_nm (fun H locs eH eL => ?_)
  have hH : mH D cI B s (va_A (mW B cI μ0) s.heap.size) μ0 H locs := by rw [eH, eL]; exact hH
  show W p l e rmM_turns s m _ below meth c H locs 0 0 _ (F0 m 0 ls [])
  refine lv_aload_n hx hb dX8_turns_0 rfl (lv_at hl 0 rfl) ?_
  refine lv_iload_n hx hb dX8_turns_1 rfl (lv_at hl 1 rfl) ?_
  obtain ⟨r2, h1, h⟩ := ob_some h
  refine m_calli (As := [.int x1]) (rest := []) (cM_isOne l D cI B μ0 x1 h1) hC hH hl (cwV 1 hts (gV wmX8_112 wvX8_isOne) rfl rfl rfl hdX8_isOne ⟨Nat.le_of_ble_eq_true rfl, Nat.le_of_ble_eq_true rfl⟩) rfl rfl (Nat.le_of_ble_eq_true rfl) ⟨Nat.zero_le _, Nat.zero_le _⟩ dX8_turns_2 (fun H locs hH => ?_)
  refine lv_if_eq (tgt := 34) hx hb dX8_turns_5 (by decide) (fun c3 => ?_) (fun c3 => ?_)
  · have h := ite_t c3 h
    refine lv_ldc (v := -1000000001) hx hb hown (hts _ wkX8_90) dX8_turns_34 ?_
    obtain ⟨rfl, rfl⟩ := some_i2 h
    exact m_iret (v := -1000000001) hC hH hr rfl dX8_turns_36
  · have h := ite_f c3 h
    refine lv_iload_n hx hb dX8_turns_8 rfl (lv_at hl 2 rfl) ?_
    refine lv_i2l hx hb dX8_turns_9 rfl ?_
    refine lv_lconst (v := 0) hx hb dX8_turns_10 (by decide) ?_
    refine lv_ldc2 (v := 5) hx hb hown (hts _ wqX8_84) dX8_turns_11 ?_
    obtain ⟨r5, h4, h⟩ := ob_some h
    refine m_calls (As := [.long (x2).toInt64, .long (0 : Int64), .long (5 : Int64)]) (rest := []) (cM_isIn l D cI B μ0 (x2).toInt64 (0 : Int64) (5 : Int64) h4) hC hH hl (va_cwS 3 hts (gS wmX8_75 wsX8_isIn) rfl rfl rfl hdX8_isIn ⟨Nat.le_of_ble_eq_true rfl, Nat.le_of_ble_eq_true rfl⟩) rfl rfl (Nat.le_of_ble_eq_true rfl) ⟨Nat.zero_le _, Nat.zero_le _⟩ dX8_turns_14 (fun H locs hH => ?_)
    refine lv_if_eq (tgt := 34) hx hb dX8_turns_17 (by decide) (fun c6 => ?_) (fun c6 => ?_)
    · have h := ite_t c6 h
      refine lv_ldc (v := -1000000001) hx hb hown (hts _ wkX8_90) dX8_turns_34 ?_
      obtain ⟨rfl, rfl⟩ := some_i2 h
      exact m_iret (v := -1000000001) hC hH hr rfl dX8_turns_36
    · have h := ite_f c6 h
      refine lv_aload_n hx hb dX8_turns_20 rfl (lv_at hl 0 rfl) ?_
      refine lv_bipush (v := 20) hx hb dX8_turns_21 (by decide) ?_
      refine lv_iconst (v := 4) hx hb dX8_turns_23 (by decide) ?_
      refine lv_iload_n hx hb dX8_turns_24 rfl (lv_at hl 1 rfl) ?_
      refine lv_imul hx hb dX8_turns_25 ?_
      refine lv_iadd hx hb dX8_turns_26 ?_
      refine lv_iload_n hx hb dX8_turns_27 rfl (lv_at hl 2 rfl) ?_
      obtain ⟨r8, μ9, h7, h⟩ := ob2_some h
      refine m_calli (As := [.int ((20 : Int32) + ((4 : Int32) * x1)), .int x2]) (rest := []) (cM_becomes l D cI B μ0 ((20 : Int32) + ((4 : Int32) * x1)) x2 h7) hC hH hl (cwV 2 hts (gV wmX8_133 wvX8_becomes) rfl rfl rfl hdX8_becomes ⟨Nat.le_of_ble_eq_true rfl, Nat.le_of_ble_eq_true rfl⟩) rfl rfl (Nat.le_of_ble_eq_true rfl) ⟨Nat.zero_le _, Nat.zero_le _⟩ dX8_turns_28 (fun H locs hH => ?_)
      refine lv_goto (tgt := 36) hx hb dX8_turns_31 (by decide) ?_
      obtain ⟨rfl, rfl⟩ := some_i2 h
      exact m_iret hC hH hr rfl dX8_turns_36

def rmM_set : Room := { frames := 2, cells := 0, slots := 0, locals := 46 }
theorem hdX8_set : yX8_set.cls = RX8 ∧ yX8_set.cls ≠ "java/lang/invoke/MethodHandle" ∧ yX8_set.cls ≠ "java/lang/invoke/VarHandle" ∧ (parseMethodDescriptor yX8_set.desc).map (fun d => d.parameters.length) = some 3 := by decide +kernel

def fM_set_J46 (x1 : Int32) (x2 : Int32) (x3 : Int32) (y0 : Int64) (y1 : Int64) (y2 : Int64) (μ : MS) : Option (Int32 × MS) :=
  ob (fM_isIn μ y0 y1 y2) fun r10 =>
  if r10 = 0 then (
    some ((-1000000001 : Int32), μ))
  else (
    ob2 (fM_becomes μ (((20 : Int32) + ((4 : Int32) * x1)) + x2) x3) fun r13 μ14 =>
    some (r13, μ14))

set_option maxHeartbeats 4000000 in
set_option maxRecDepth 100000 in
theorem wM_set_J46 {p : Program} {l : Launch} {e : Env} {s : State} {m : MethodId} {args : Array Value} {below : List Frame} {meth : Method} {c : Code} {D : va_G} {cI : ClassId} {B : Nat → Nat} {μ0 : MS} {r : Int32} {μr : MS} (hC : jC p s m args meth c cX8_set 4 RX8) (hr : meth.sig.returnType = some .int) (x1 : Int32) (x2 : Int32) (x3 : Int32) (y0 : Int64) (y1 : Int64) (y2 : Int64) (μ : MS) (H : Heap) (locs : List Loc) (ls : Array Slot) (hH : mH D cI B s (va_A (mW B cI μ0) s.heap.size) μ H locs) (hl : lv_has ls 4 [(0, .ref (B 0)), (1, .int x1), (2, .int x2), (3, .int x3)]) (h : fM_set_J46 x1 x2 x3 y0 y1 y2 μ = some (r, μr)) : W p l e rmM_set s m args below meth c H locs 0 0 (MQ below (mQi D cI B μ0 s.heap.size μr r) args s 0 0 (va_A (mW B cI μ0) s.heap.size)) (F0 m 46 ls [.long y2, .long y1, .long y0]) := by
  have hx := hC.1.1
  have hb := hC.1.2.1
  have hown := hC.1.2.2.2.1
  have hts := hC.1.2.2.2.2
  unfold fM_set_J46 at h
  obtain ⟨r10, h9, h⟩ := ob_some h
  refine m_calls (As := [.long y0, .long y1, .long y2]) (rest := []) (cM_isIn l D cI B μ y0 y1 y2 h9) hC hH hl (va_cwS 3 hts (gS wmX8_75 wsX8_isIn) rfl rfl rfl hdX8_isIn ⟨Nat.le_of_ble_eq_true rfl, Nat.le_of_ble_eq_true rfl⟩) rfl rfl (Nat.le_of_ble_eq_true rfl) ⟨Nat.zero_le _, Nat.zero_le _⟩ dX8_set_46 (fun H locs hH => ?_)
  refine lv_if_ne (tgt := 55) hx hb dX8_set_49 (by decide) (fun c11 => ?_) (fun c11 => ?_)
  · have h := ite_f c11 h
    refine lv_aload_n hx hb dX8_set_55 rfl (lv_at hl 0 rfl) ?_
    refine lv_bipush (v := 20) hx hb dX8_set_56 (by decide) ?_
    refine lv_iconst (v := 4) hx hb dX8_set_58 (by decide) ?_
    refine lv_iload_n hx hb dX8_set_59 rfl (lv_at hl 1 rfl) ?_
    refine lv_imul hx hb dX8_set_60 ?_
    refine lv_iadd hx hb dX8_set_61 ?_
    refine lv_iload_n hx hb dX8_set_62 rfl (lv_at hl 2 rfl) ?_
    refine lv_iadd hx hb dX8_set_63 ?_
    refine lv_iload_n hx hb dX8_set_64 rfl (lv_at hl 3 rfl) ?_
    obtain ⟨r13, μ14, h12, h⟩ := ob2_some h
    refine m_calli (As := [.int (((20 : Int32) + ((4 : Int32) * x1)) + x2), .int x3]) (rest := []) (cM_becomes l D cI B μ (((20 : Int32) + ((4 : Int32) * x1)) + x2) x3 h12) hC hH hl (cwV 2 hts (gV wmX8_133 wvX8_becomes) rfl rfl rfl hdX8_becomes ⟨Nat.le_of_ble_eq_true rfl, Nat.le_of_ble_eq_true rfl⟩) rfl rfl (Nat.le_of_ble_eq_true rfl) ⟨Nat.zero_le _, Nat.zero_le _⟩ dX8_set_65 (fun H locs hH => ?_)
    obtain ⟨rfl, rfl⟩ := some_i2 h
    exact m_iret hC hH hr rfl dX8_set_68
  · have h := ite_t c11 h
    refine lv_ldc (v := -1000000001) hx hb hown (hts _ wkX8_90) dX8_set_52 ?_
    obtain ⟨rfl, rfl⟩ := some_i2 h
    exact m_iret (v := -1000000001) hC hH hr rfl dX8_set_54

def fM_set_J32 (x1 : Int32) (x2 : Int32) (x3 : Int32) (y0 : Int64) (y1 : Int64) (μ : MS) : Option (Int32 × MS) :=
  if x2 = (1 : Int32) then (
    fM_set_J46 x1 x2 x3 y0 y1 (99 : Int64) μ)
  else (
    fM_set_J46 x1 x2 x3 y0 y1 (9 : Int64) μ)

set_option maxHeartbeats 4000000 in
set_option maxRecDepth 100000 in
theorem wM_set_J32 {p : Program} {l : Launch} {e : Env} {s : State} {m : MethodId} {args : Array Value} {below : List Frame} {meth : Method} {c : Code} {D : va_G} {cI : ClassId} {B : Nat → Nat} {μ0 : MS} {r : Int32} {μr : MS} (hC : jC p s m args meth c cX8_set 4 RX8) (hr : meth.sig.returnType = some .int) (x1 : Int32) (x2 : Int32) (x3 : Int32) (y0 : Int64) (y1 : Int64) (μ : MS) (H : Heap) (locs : List Loc) (ls : Array Slot) (hH : mH D cI B s (va_A (mW B cI μ0) s.heap.size) μ H locs) (hl : lv_has ls 4 [(0, .ref (B 0)), (1, .int x1), (2, .int x2), (3, .int x3)]) (h : fM_set_J32 x1 x2 x3 y0 y1 μ = some (r, μr)) : W p l e rmM_set s m args below meth c H locs 0 0 (MQ below (mQi D cI B μ0 s.heap.size μr r) args s 0 0 (va_A (mW B cI μ0) s.heap.size)) (F0 m 32 ls [.long y1, .long y0]) := by
  have hx := hC.1.1
  have hb := hC.1.2.1
  have hown := hC.1.2.2.2.1
  have hts := hC.1.2.2.2.2
  unfold fM_set_J32 at h
  refine lv_iload_n hx hb dX8_set_32 rfl (lv_at hl 2 rfl) ?_
  refine lv_iconst (v := 1) hx hb dX8_set_33 (by decide) ?_
  refine lv_icmp_ne (tgt := 43) hx hb dX8_set_34 (by decide) (fun c8 => ?_) (fun c8 => ?_)
  · have h := ite_f c8 h
    refine lv_ldc2 (v := 9) hx hb hown (hts _ wqX8_88) dX8_set_43 ?_
    exact wM_set_J46 hC hr  x1 x2 x3 y0 y1 (9 : Int64) μ H locs ls  hH hl h
  · have h := ite_t c8 h
    refine lv_ldc2 (v := 99) hx hb hown (hts _ wqX8_86) dX8_set_37 ?_
    refine lv_goto (tgt := 46) hx hb dX8_set_40 (by decide) ?_
    exact wM_set_J46 hC hr  x1 x2 x3 y0 y1 (99 : Int64) μ H locs ls  hH hl h

def fM_set (μ0 : MS) (x1 : Int32) (x2 : Int32) (x3 : Int32) : Option (Int32 × MS) :=
  ob (fM_isOne μ0 x1) fun r2 =>
  if r2 = 0 then (
    some ((-1000000001 : Int32), μ0))
  else (
    ob (fM_isIn μ0 (x2).toInt64 (1 : Int64) (2 : Int64)) fun r5 =>
    if r5 = 0 then (
      some ((-1000000001 : Int32), μ0))
    else (
      if x2 = (1 : Int32) then (
        fM_set_J32 x1 x2 x3 (x3).toInt64 (1 : Int64) μ0)
      else (
        fM_set_J32 x1 x2 x3 (x3).toInt64 (0 : Int64) μ0)))

set_option maxHeartbeats 4000000 in
set_option maxRecDepth 100000 in
theorem cM_set (l : Launch) (D : va_G) (cI : ClassId) (B : Nat → Nat) (μ0 : MS) (x1 : Int32) (x2 : Int32) (x3 : Int32) {r : Int32} {μr : MS} (h : fM_set μ0 x1 x2 x3 = some (r, μr)) : ∀ sz, Met l yX8_set (Cond.code yX8_set cX8_set 4 (some .int) :: Tw) rmM_set (mP D cI B μ0 sz [.ref (B 0), .int x1, .int x2, .int x3]) (mQi D cI B μ0 sz μr r) 0 0 (va_A (mW B cI μ0) sz) := by
  intro sz
  refine Met.ofW (cc := cX8_set) (maxL := 4) (ret := (some .int)) (by decide) rfl ?_
  intro p e s m args below meth c s₁ Bd hml hv
  obtain ⟨hC, hr⟩ := jC_of Bd hml
  obtain ⟨rfl, rfl, hH⟩ := m_enter hv
  have hC : jC p s m _ meth c cX8_set 4 RX8 := hC
  have hx := hC.1.1
  have hb := hC.1.2.1
  have hown := hC.1.2.2.2.1
  have hts := hC.1.2.2.2.2
  have hl := lv_entry ([.ref (B 0), .int x1, .int x2, .int x3]) (n := 4) (Nat.le_of_ble_eq_true rfl)
  rw [lg_entry_eq]
  generalize (lg_sl ([.ref (B 0), .int x1, .int x2, .int x3]) ++ List.replicate (4 - (lg_sl ([.ref (B 0), .int x1, .int x2, .int x3])).length) Slot.unset).toArray = ls at hl ⊢
  have hl : lv_has ls 4 [(0, .ref (B 0)), (1, .int x1), (2, .int x2), (3, .int x3)] := hl
  unfold fM_set at h
  refine W_nm (fun H locs eH eL => ?_)
  have hH : mH D cI B s (va_A (mW B cI μ0) s.heap.size) μ0 H locs := by rw [eH, eL]; exact hH
  show W p l e rmM_set s m _ below meth c H locs 0 0 _ (F0 m 0 ls [])
  refine lv_aload_n hx hb dX8_set_0 rfl (lv_at hl 0 rfl) ?_
  refine lv_iload_n hx hb dX8_set_1 rfl (lv_at hl 1 rfl) ?_
  obtain ⟨r2, h1, h⟩ := ob_some h
  refine m_calli (As := [.int x1]) (rest := []) (cM_isOne l D cI B μ0 x1 h1) hC hH hl (cwV 1 hts (gV wmX8_112 wvX8_isOne) rfl rfl rfl hdX8_isOne ⟨Nat.le_of_ble_eq_true rfl, Nat.le_of_ble_eq_true rfl⟩) rfl rfl (Nat.le_of_ble_eq_true rfl) ⟨Nat.zero_le _, Nat.zero_le _⟩ dX8_set_2 (fun H locs hH => ?_)
  refine lv_if_eq (tgt := 52) hx hb dX8_set_5 (by decide) (fun c3 => ?_) (fun c3 => ?_)
  · have h := ite_t c3 h
    refine lv_ldc (v := -1000000001) hx hb hown (hts _ wkX8_90) dX8_set_52 ?_
    obtain ⟨rfl, rfl⟩ := some_i2 h
    exact m_iret (v := -1000000001) hC hH hr rfl dX8_set_54
  · have h := ite_f c3 h
    refine lv_iload_n hx hb dX8_set_8 rfl (lv_at hl 2 rfl) ?_
    refine lv_i2l hx hb dX8_set_9 rfl ?_
    refine lv_lconst (v := 1) hx hb dX8_set_10 (by decide) ?_
    refine lv_ldc2 (v := 2) hx hb hown (hts _ wqX8_136) dX8_set_11 ?_
    obtain ⟨r5, h4, h⟩ := ob_some h
    refine m_calls (As := [.long (x2).toInt64, .long (1 : Int64), .long (2 : Int64)]) (rest := []) (cM_isIn l D cI B μ0 (x2).toInt64 (1 : Int64) (2 : Int64) h4) hC hH hl (va_cwS 3 hts (gS wmX8_75 wsX8_isIn) rfl rfl rfl hdX8_isIn ⟨Nat.le_of_ble_eq_true rfl, Nat.le_of_ble_eq_true rfl⟩) rfl rfl (Nat.le_of_ble_eq_true rfl) ⟨Nat.zero_le _, Nat.zero_le _⟩ dX8_set_14 (fun H locs hH => ?_)
    refine lv_if_eq (tgt := 52) hx hb dX8_set_17 (by decide) (fun c6 => ?_) (fun c6 => ?_)
    · have h := ite_t c6 h
      refine lv_ldc (v := -1000000001) hx hb hown (hts _ wkX8_90) dX8_set_52 ?_
      obtain ⟨rfl, rfl⟩ := some_i2 h
      exact m_iret (v := -1000000001) hC hH hr rfl dX8_set_54
    · have h := ite_f c6 h
      refine lv_iload_n hx hb dX8_set_20 rfl (lv_at hl 3 rfl) ?_
      refine lv_i2l hx hb dX8_set_21 rfl ?_
      refine lv_iload_n hx hb dX8_set_22 rfl (lv_at hl 2 rfl) ?_
      refine lv_iconst (v := 1) hx hb dX8_set_23 (by decide) ?_
      refine lv_icmp_ne (tgt := 31) hx hb dX8_set_24 (by decide) (fun c7 => ?_) (fun c7 => ?_)
      · have h := ite_f c7 h
        refine lv_lconst (v := 0) hx hb dX8_set_31 (by decide) ?_
        exact wM_set_J32 hC hr  x1 x2 x3 (x3).toInt64 (0 : Int64) μ0 H locs ls  hH hl h
      · have h := ite_t c7 h
        refine lv_lconst (v := 1) hx hb dX8_set_27 (by decide) ?_
        refine lv_goto (tgt := 32) hx hb dX8_set_28 (by decide) ?_
        exact wM_set_J32 hC hr  x1 x2 x3 (x3).toInt64 (1 : Int64) μ0 H locs ls  hH hl h

def rmM_goesTo : Room := { frames := 0, cells := 0, slots := 0, locals := 0 }
theorem hdX8_goesTo : yX8_goesTo.cls = RX8 ∧ yX8_goesTo.cls ≠ "java/lang/invoke/MethodHandle" ∧ yX8_goesTo.cls ≠ "java/lang/invoke/VarHandle" ∧ (parseMethodDescriptor yX8_goesTo.desc).map (fun d => d.parameters.length) = some 2 := by decide +kernel

def fM_goesTo_L13 (k47 : Int32 → Int32 → Int32 → MS → Option (MS)) : Nat → Int32 → Int32 → Int32 → Int32 → MS → Option (MS)
  | 0, _, _, _, _, _ => none
  | n + 1, x1, x2, x3, x4, μ =>
    if x2 ≤ x4 then (
      k47 x1 x2 x3 μ)
    else (
      ck (((6 : Int32) + x4) + (1 : Int32)) (3076) <|
      ck ((6 : Int32) + x4) (3076) <|
      bnd (up2 μ 1 (((6 : Int32) + x4)).toNatClampNeg (μ 1 ((((6 : Int32) + x4) + (1 : Int32))).toNatClampNeg)) fun μ7 =>
      bnd (x4 + (1 : Int32)) fun v9 =>
      (fM_goesTo_L13 k47 n) x1 x2 x3 v9 μ7)

set_option maxHeartbeats 4000000 in
set_option maxRecDepth 100000 in
theorem wM_goesTo_L13 {p : Program} {l : Launch} {e : Env} {s : State} {m : MethodId} {args : Array Value} {below : List Frame} {meth : Method} {c : Code} {D : va_G} {cI : ClassId} {B : Nat → Nat} {μ0 : MS} {μr : MS} (hC : jC p s m args meth c cX8_goesTo 5 RX8) (hr : meth.sig.returnType = none) {k47 : Int32 → Int32 → Int32 → MS → Option (MS)} (hk47 : ∀ (x1 : Int32) (x2 : Int32) (x3 : Int32) (μ : MS) (H : Heap) (locs : List Loc) (ls : Array Slot), mH D cI B s (va_A (mW B cI μ0) s.heap.size) μ H locs → lv_has ls 5 [(0, .ref (B 0)), (1, .int x1), (2, .int x2), (3, .int x3)] → k47 x1 x2 x3 μ = some μr → W p l e rmM_goesTo s m args below meth c H locs 0 0 (MQ below (mQv D cI B μ0 s.heap.size μr) args s 0 0 (va_A (mW B cI μ0) s.heap.size)) (F0 m 47 ls [])) : ∀ (n : Nat) (x1 : Int32) (x2 : Int32) (x3 : Int32) (x4 : Int32) (μ : MS) (H : Heap) (locs : List Loc) (ls : Array Slot), mH D cI B s (va_A (mW B cI μ0) s.heap.size) μ H locs → lv_has ls 5 [(0, .ref (B 0)), (1, .int x1), (2, .int x2), (3, .int x3), (4, .int x4)] → fM_goesTo_L13 k47 n x1 x2 x3 x4 μ = some μr → W p l e rmM_goesTo s m args below meth c H locs 0 0 (MQ below (mQv D cI B μ0 s.heap.size μr) args s 0 0 (va_A (mW B cI μ0) s.heap.size)) (F0 m 13 ls []) := by
  have hx := hC.1.1
  have hb := hC.1.2.1
  have hown := hC.1.2.2.2.1
  have hts := hC.1.2.2.2.2
  intro n
  induction n with
  | zero =>
    intro x1 x2 x3 x4 μ H locs ls  hH hl h
    rw [fM_goesTo_L13] at h
    cases h
  | succ n ih =>
    intro x1 x2 x3 x4 μ H locs ls  hH hl h
    rw [fM_goesTo_L13] at h
    refine lv_iload hx hb dX8_goesTo_13 (lv_at hl 4 rfl) ?_
    refine lv_iload_n hx hb dX8_goesTo_15 rfl (lv_at hl 2 rfl) ?_
    refine lv_icmp_ge (tgt := 47) hx hb dX8_goesTo_16 (by decide) (fun c4 => ?_) (fun c4 => ?_)
    · have h := ite_t c4 h
      exact hk47 x1 x2 x3 μ H locs ls  hH (lv_sub hl [0, 1, 2, 3] rfl) h
    · have h := ite_f c4 h
      refine lv_aload_n hx hb dX8_goesTo_19 rfl (lv_at hl 0 rfl) ?_
      refine m_get hC hH 0 (by decide) wfX8_7 rfl rfl dX8_goesTo_20 ?_
      refine lv_bipush (v := 6) hx hb dX8_goesTo_23 (by decide) ?_
      refine lv_iload hx hb dX8_goesTo_25 (lv_at hl 4 rfl) ?_
      refine lv_iadd hx hb dX8_goesTo_27 ?_
      refine lv_aload_n hx hb dX8_goesTo_28 rfl (lv_at hl 0 rfl) ?_
      refine m_get hC hH 0 (by decide) wfX8_7 rfl rfl dX8_goesTo_29 ?_
      refine lv_bipush (v := 6) hx hb dX8_goesTo_32 (by decide) ?_
      refine lv_iload hx hb dX8_goesTo_34 (lv_at hl 4 rfl) ?_
      refine lv_iadd hx hb dX8_goesTo_36 ?_
      refine lv_iconst (v := 1) hx hb dX8_goesTo_37 (by decide) ?_
      refine lv_iadd hx hb dX8_goesTo_38 ?_
      obtain ⟨i5, h⟩ := ck_some h
      refine m_ald hC hH (a := 1) rfl rfl i5 dX8_goesTo_39 ?_
      obtain ⟨i6, h⟩ := ck_some h
      obtain ⟨μ7, e8, h⟩ := bnd_some h
      refine m_ast hC hH (a := 1) rfl rfl e8 i6 dX8_goesTo_40 (fun H locs hH => ?_)
      obtain ⟨v9, e10, h⟩ := bnd_some h
      refine lv_iinc (v := v9) (lv' := [(4, .int v9), (0, .ref (B 0)), (1, .int x1), (2, .int x2), (3, .int x3)]) hx hb dX8_goesTo_41 hl (k := 4) rfl (by rw [e10]; rfl) (by decide) rfl (fun ls hl => ?_)
      refine lv_goto (tgt := 13) hx hb dX8_goesTo_44 (by decide) ?_
      exact ih x1 x2 x3 v9 μ7 H locs ls  hH (lv_sub hl [1, 2, 3, 4, 0] rfl) h

def fM_goesTo_L50 (k84 : Int32 → Int32 → MS → Option (MS)) : Nat → Int32 → Int32 → Int32 → MS → Option (MS)
  | 0, _, _, _, _ => none
  | n + 1, x2, x3, x4, μ =>
    if x4 ≤ x2 then (
      k84 x2 x3 μ)
    else (
      ck (((6 : Int32) + x4) - (1 : Int32)) (3076) <|
      ck ((6 : Int32) + x4) (3076) <|
      bnd (up2 μ 1 (((6 : Int32) + x4)).toNatClampNeg (μ 1 ((((6 : Int32) + x4) - (1 : Int32))).toNatClampNeg)) fun μ14 =>
      bnd (x4 + (-1 : Int32)) fun v16 =>
      (fM_goesTo_L50 k84 n) x2 x3 v16 μ14)

set_option maxHeartbeats 4000000 in
set_option maxRecDepth 100000 in
theorem wM_goesTo_L50 {p : Program} {l : Launch} {e : Env} {s : State} {m : MethodId} {args : Array Value} {below : List Frame} {meth : Method} {c : Code} {D : va_G} {cI : ClassId} {B : Nat → Nat} {μ0 : MS} {μr : MS} (hC : jC p s m args meth c cX8_goesTo 5 RX8) (hr : meth.sig.returnType = none) {k84 : Int32 → Int32 → MS → Option (MS)} (hk84 : ∀ (x2 : Int32) (x3 : Int32) (μ : MS) (H : Heap) (locs : List Loc) (ls : Array Slot), mH D cI B s (va_A (mW B cI μ0) s.heap.size) μ H locs → lv_has ls 5 [(0, .ref (B 0)), (2, .int x2), (3, .int x3)] → k84 x2 x3 μ = some μr → W p l e rmM_goesTo s m args below meth c H locs 0 0 (MQ below (mQv D cI B μ0 s.heap.size μr) args s 0 0 (va_A (mW B cI μ0) s.heap.size)) (F0 m 84 ls [])) : ∀ (n : Nat) (x2 : Int32) (x3 : Int32) (x4 : Int32) (μ : MS) (H : Heap) (locs : List Loc) (ls : Array Slot), mH D cI B s (va_A (mW B cI μ0) s.heap.size) μ H locs → lv_has ls 5 [(0, .ref (B 0)), (2, .int x2), (3, .int x3), (4, .int x4)] → fM_goesTo_L50 k84 n x2 x3 x4 μ = some μr → W p l e rmM_goesTo s m args below meth c H locs 0 0 (MQ below (mQv D cI B μ0 s.heap.size μr) args s 0 0 (va_A (mW B cI μ0) s.heap.size)) (F0 m 50 ls []) := by
  have hx := hC.1.1
  have hb := hC.1.2.1
  have hown := hC.1.2.2.2.1
  have hts := hC.1.2.2.2.2
  intro n
  induction n with
  | zero =>
    intro x2 x3 x4 μ H locs ls  hH hl h
    rw [fM_goesTo_L50] at h
    cases h
  | succ n ih =>
    intro x2 x3 x4 μ H locs ls  hH hl h
    rw [fM_goesTo_L50] at h
    refine lv_iload hx hb dX8_goesTo_50 (lv_at hl 3 rfl) ?_
    refine lv_iload_n hx hb dX8_goesTo_52 rfl (lv_at hl 1 rfl) ?_
    refine lv_icmp_le (tgt := 84) hx hb dX8_goesTo_53 (by decide) (fun c11 => ?_) (fun c11 => ?_)
    · have h := ite_t c11 h
      exact hk84 x2 x3 μ H locs ls  hH (lv_sub hl [0, 1, 2] rfl) h
    · have h := ite_f c11 h
      refine lv_aload_n hx hb dX8_goesTo_56 rfl (lv_at hl 0 rfl) ?_
      refine m_get hC hH 0 (by decide) wfX8_7 rfl rfl dX8_goesTo_57 ?_
      refine lv_bipush (v := 6) hx hb dX8_goesTo_60 (by decide) ?_
      refine lv_iload hx hb dX8_goesTo_62 (lv_at hl 3 rfl) ?_
      refine lv_iadd hx hb dX8_goesTo_64 ?_
      refine lv_aload_n hx hb dX8_goesTo_65 rfl (lv_at hl 0 rfl) ?_
      refine m_get hC hH 0 (by decide) wfX8_7 rfl rfl dX8_goesTo_66 ?_
      refine lv_bipush (v := 6) hx hb dX8_goesTo_69 (by decide) ?_
      refine lv_iload hx hb dX8_goesTo_71 (lv_at hl 3 rfl) ?_
      refine lv_iadd hx hb dX8_goesTo_73 ?_
      refine lv_iconst (v := 1) hx hb dX8_goesTo_74 (by decide) ?_
      refine lv_isub hx hb dX8_goesTo_75 ?_
      obtain ⟨i12, h⟩ := ck_some h
      refine m_ald hC hH (a := 1) rfl rfl i12 dX8_goesTo_76 ?_
      obtain ⟨i13, h⟩ := ck_some h
      obtain ⟨μ14, e15, h⟩ := bnd_some h
      refine m_ast hC hH (a := 1) rfl rfl e15 i13 dX8_goesTo_77 (fun H locs hH => ?_)
      obtain ⟨v16, e17, h⟩ := bnd_some h
      refine lv_iinc (v := v16) (lv' := [(4, .int v16), (0, .ref (B 0)), (2, .int x2), (3, .int x3)]) hx hb dX8_goesTo_78 hl (k := 3) rfl (by rw [e17]; rfl) (by decide) rfl (fun ls hl => ?_)
      refine lv_goto (tgt := 50) hx hb dX8_goesTo_81 (by decide) ?_
      exact ih x2 x3 v16 μ14 H locs ls  hH (lv_sub hl [1, 2, 3, 0] rfl) h

def fM_goesTo (μ0 : MS) (x1 : Int32) (x2 : Int32) : Option (MS) :=
  ck ((6 : Int32) + x1) (3076) <|
  bnd (μ0 1 (((6 : Int32) + x1)).toNatClampNeg) fun v2 =>
  fM_goesTo_L13 (fun (x1 : Int32) (x2 : Int32) (x3 : Int32) (μ : MS) => fM_goesTo_L50 (fun (x2 : Int32) (x3 : Int32) (μ : MS) => ck ((6 : Int32) + x2) (3076) <|
      bnd (up2 μ 1 (((6 : Int32) + x2)).toNatClampNeg x3) fun μ19 =>
      some μ19) 10000 x2 x3 x1 μ) 10000 x1 x2 v2 x1 μ0

set_option maxHeartbeats 4000000 in
set_option maxRecDepth 100000 in
theorem cM_goesTo (l : Launch) (D : va_G) (cI : ClassId) (B : Nat → Nat) (μ0 : MS) (x1 : Int32) (x2 : Int32) {μr : MS} (h : fM_goesTo μ0 x1 x2 = some μr) : ∀ sz, Met l yX8_goesTo (Cond.code yX8_goesTo cX8_goesTo 5 none :: Tw) rmM_goesTo (mP D cI B μ0 sz [.ref (B 0), .int x1, .int x2]) (mQv D cI B μ0 sz μr) 0 0 (va_A (mW B cI μ0) sz) := by
  intro sz
  refine Met.ofW (cc := cX8_goesTo) (maxL := 5) (ret := (none)) (by decide) rfl ?_
  intro p e s m args below meth c s₁ Bd hml hv
  obtain ⟨hC, hr⟩ := jC_of Bd hml
  obtain ⟨rfl, rfl, hH⟩ := m_enter hv
  have hC : jC p s m _ meth c cX8_goesTo 5 RX8 := hC
  have hx := hC.1.1
  have hb := hC.1.2.1
  have hown := hC.1.2.2.2.1
  have hts := hC.1.2.2.2.2
  have hl := lv_entry ([.ref (B 0), .int x1, .int x2]) (n := 5) (Nat.le_of_ble_eq_true rfl)
  rw [lg_entry_eq]
  generalize (lg_sl ([.ref (B 0), .int x1, .int x2]) ++ List.replicate (5 - (lg_sl ([.ref (B 0), .int x1, .int x2])).length) Slot.unset).toArray = ls at hl ⊢
  have hl : lv_has ls 5 [(0, .ref (B 0)), (1, .int x1), (2, .int x2)] := hl
  unfold fM_goesTo at h
  refine W_nm (fun H locs eH eL => ?_)
  have hH : mH D cI B s (va_A (mW B cI μ0) s.heap.size) μ0 H locs := by rw [eH, eL]; exact hH
  show W p l e rmM_goesTo s m _ below meth c H locs 0 0 _ (F0 m 0 ls [])
  refine lv_aload_n hx hb dX8_goesTo_0 rfl (lv_at hl 0 rfl) ?_
  refine m_get hC hH 0 (by decide) wfX8_7 rfl rfl dX8_goesTo_1 ?_
  refine lv_bipush (v := 6) hx hb dX8_goesTo_4 (by decide) ?_
  refine lv_iload_n hx hb dX8_goesTo_6 rfl (lv_at hl 1 rfl) ?_
  refine lv_iadd hx hb dX8_goesTo_7 ?_
  obtain ⟨i1, h⟩ := ck_some h
  refine m_ald hC hH (a := 1) rfl rfl i1 dX8_goesTo_8 ?_
  obtain ⟨v2, e3, h⟩ := bnd_some h
  refine lv_tope e3 ?_
  refine lv_istore_n (lv' := [(3, .int v2), (0, .ref (B 0)), (1, .int x1), (2, .int x2)]) hx hb dX8_goesTo_9 rfl hl (by decide) rfl (fun ls hl => ?_)
  refine lv_iload_n hx hb dX8_goesTo_10 rfl (lv_at hl 2 rfl) ?_
  refine lv_istore (lv' := [(4, .int x1), (3, .int v2), (0, .ref (B 0)), (1, .int x1), (2, .int x2)]) hx hb dX8_goesTo_11 hl (by decide) rfl (fun ls hl => ?_)
  refine wM_goesTo_L13 hC hr  ?_ 10000 x1 x2 v2 x1 μ0 H locs ls  hH (lv_sub hl [2, 3, 4, 1, 0] rfl) h
  intro x1 x2 x3 μ H locs ls  hH hl h
  refine lv_iload_n hx hb dX8_goesTo_47 rfl (lv_at hl 1 rfl) ?_
  refine lv_istore (lv' := [(4, .int x1), (0, .ref (B 0)), (1, .int x1), (2, .int x2), (3, .int x3)]) hx hb dX8_goesTo_48 hl (by decide) rfl (fun ls hl => ?_)
  refine wM_goesTo_L50 hC hr  ?_ 10000 x2 x3 x1 μ H locs ls  hH (lv_sub hl [1, 3, 4, 0] rfl) h
  intro x2 x3 μ H locs ls  hH hl h
  refine lv_aload_n hx hb dX8_goesTo_84 rfl (lv_at hl 0 rfl) ?_
  refine m_get hC hH 0 (by decide) wfX8_7 rfl rfl dX8_goesTo_85 ?_
  refine lv_bipush (v := 6) hx hb dX8_goesTo_88 (by decide) ?_
  refine lv_iload_n hx hb dX8_goesTo_90 rfl (lv_at hl 1 rfl) ?_
  refine lv_iadd hx hb dX8_goesTo_91 ?_
  refine lv_iload_n hx hb dX8_goesTo_92 rfl (lv_at hl 2 rfl) ?_
  obtain ⟨i18, h⟩ := ck_some h
  obtain ⟨μ19, e20, h⟩ := bnd_some h
  refine m_ast hC hH (a := 1) rfl rfl e20 i18 dX8_goesTo_93 (fun H locs hH => ?_)
  obtain rfl := some_i1 h
  exact m_vret hC hH hr dX8_goesTo_94

def rmM_puts : Room := { frames := 2, cells := 0, slots := 0, locals := 46 }
theorem hdX8_puts : yX8_puts.cls = RX8 ∧ yX8_puts.cls ≠ "java/lang/invoke/MethodHandle" ∧ yX8_puts.cls ≠ "java/lang/invoke/VarHandle" ∧ (parseMethodDescriptor yX8_puts.desc).map (fun d => d.parameters.length) = some 2 := by decide +kernel

def fM_puts (μ0 : MS) (x1 : Int32) (x2 : Int32) : Option (Int32 × MS) :=
  ob (fM_isOne μ0 x1) fun r2 =>
  if r2 = 0 then (
    some ((-1000000001 : Int32), μ0))
  else (
    ob (fM_isOne μ0 x2) fun r5 =>
    if r5 = 0 then (
      some ((-1000000001 : Int32), μ0))
    else (
      ob (fM_placeOf μ0 x1) fun r8 =>
      ob (fM_goesTo μ0 r8 x2) fun μ10 =>
      some (r8, μ10)))

set_option maxHeartbeats 4000000 in
set_option maxRecDepth 100000 in
theorem cM_puts (l : Launch) (D : va_G) (cI : ClassId) (B : Nat → Nat) (μ0 : MS) (x1 : Int32) (x2 : Int32) {r : Int32} {μr : MS} (h : fM_puts μ0 x1 x2 = some (r, μr)) : ∀ sz, Met l yX8_puts (Cond.code yX8_puts cX8_puts 4 (some .int) :: Tw) rmM_puts (mP D cI B μ0 sz [.ref (B 0), .int x1, .int x2]) (mQi D cI B μ0 sz μr r) 0 0 (va_A (mW B cI μ0) sz) := by
  intro sz
  refine Met.ofW (cc := cX8_puts) (maxL := 4) (ret := (some .int)) (by decide) rfl ?_
  intro p e s m args below meth c s₁ Bd hml hv
  obtain ⟨hC, hr⟩ := jC_of Bd hml
  obtain ⟨rfl, rfl, hH⟩ := m_enter hv
  have hC : jC p s m _ meth c cX8_puts 4 RX8 := hC
  have hx := hC.1.1
  have hb := hC.1.2.1
  have hown := hC.1.2.2.2.1
  have hts := hC.1.2.2.2.2
  have hl := lv_entry ([.ref (B 0), .int x1, .int x2]) (n := 4) (Nat.le_of_ble_eq_true rfl)
  rw [lg_entry_eq]
  generalize (lg_sl ([.ref (B 0), .int x1, .int x2]) ++ List.replicate (4 - (lg_sl ([.ref (B 0), .int x1, .int x2])).length) Slot.unset).toArray = ls at hl ⊢
  have hl : lv_has ls 4 [(0, .ref (B 0)), (1, .int x1), (2, .int x2)] := hl
  unfold fM_puts at h
  refine W_nm (fun H locs eH eL => ?_)
  have hH : mH D cI B s (va_A (mW B cI μ0) s.heap.size) μ0 H locs := by rw [eH, eL]; exact hH
  show W p l e rmM_puts s m _ below meth c H locs 0 0 _ (F0 m 0 ls [])
  refine lv_aload_n hx hb dX8_puts_0 rfl (lv_at hl 0 rfl) ?_
  refine lv_iload_n hx hb dX8_puts_1 rfl (lv_at hl 1 rfl) ?_
  obtain ⟨r2, h1, h⟩ := ob_some h
  refine m_calli (As := [.int x1]) (rest := []) (cM_isOne l D cI B μ0 x1 h1) hC hH hl (cwV 1 hts (gV wmX8_112 wvX8_isOne) rfl rfl rfl hdX8_isOne ⟨Nat.le_of_ble_eq_true rfl, Nat.le_of_ble_eq_true rfl⟩) rfl rfl (Nat.le_of_ble_eq_true rfl) ⟨Nat.zero_le _, Nat.zero_le _⟩ dX8_puts_2 (fun H locs hH => ?_)
  refine lv_if_eq (tgt := 16) hx hb dX8_puts_5 (by decide) (fun c3 => ?_) (fun c3 => ?_)
  · have h := ite_t c3 h
    refine lv_ldc (v := -1000000001) hx hb hown (hts _ wkX8_90) dX8_puts_16 ?_
    obtain ⟨rfl, rfl⟩ := some_i2 h
    exact m_iret (v := -1000000001) hC hH hr rfl dX8_puts_18
  · have h := ite_f c3 h
    refine lv_aload_n hx hb dX8_puts_8 rfl (lv_at hl 0 rfl) ?_
    refine lv_iload_n hx hb dX8_puts_9 rfl (lv_at hl 2 rfl) ?_
    obtain ⟨r5, h4, h⟩ := ob_some h
    refine m_calli (As := [.int x2]) (rest := []) (cM_isOne l D cI B μ0 x2 h4) hC hH hl (cwV 1 hts (gV wmX8_112 wvX8_isOne) rfl rfl rfl hdX8_isOne ⟨Nat.le_of_ble_eq_true rfl, Nat.le_of_ble_eq_true rfl⟩) rfl rfl (Nat.le_of_ble_eq_true rfl) ⟨Nat.zero_le _, Nat.zero_le _⟩ dX8_puts_10 (fun H locs hH => ?_)
    refine lv_if_ne (tgt := 19) hx hb dX8_puts_13 (by decide) (fun c6 => ?_) (fun c6 => ?_)
    · have h := ite_f c6 h
      refine lv_aload_n hx hb dX8_puts_19 rfl (lv_at hl 0 rfl) ?_
      refine lv_iload_n hx hb dX8_puts_20 rfl (lv_at hl 1 rfl) ?_
      obtain ⟨r8, h7, h⟩ := ob_some h
      refine m_calli (As := [.int x1]) (rest := []) (cM_placeOf l D cI B μ0 x1 h7) hC hH hl (cwV 1 hts (gV wmX8_116 wvX8_placeOf) rfl rfl rfl hdX8_placeOf ⟨Nat.le_of_ble_eq_true rfl, Nat.le_of_ble_eq_true rfl⟩) rfl rfl (Nat.le_of_ble_eq_true rfl) ⟨Nat.zero_le _, Nat.zero_le _⟩ dX8_puts_21 (fun H locs hH => ?_)
      refine lv_istore_n (lv' := [(3, .int r8), (0, .ref (B 0)), (1, .int x1), (2, .int x2)]) hx hb dX8_puts_24 rfl hl (by decide) rfl (fun ls hl => ?_)
      refine lv_aload_n hx hb dX8_puts_25 rfl (lv_at hl 1 rfl) ?_
      refine lv_iload_n hx hb dX8_puts_26 rfl (lv_at hl 0 rfl) ?_
      refine lv_iload_n hx hb dX8_puts_27 rfl (lv_at hl 3 rfl) ?_
      obtain ⟨μ10, h9, h⟩ := ob_some h
      refine m_callv (As := [.int r8, .int x2]) (rest := []) (cM_goesTo l D cI B μ0 r8 x2 h9) hC hH hl (cwV 2 hts (gV wmX8_138 wvX8_goesTo) rfl rfl rfl hdX8_goesTo ⟨Nat.le_of_ble_eq_true rfl, Nat.le_of_ble_eq_true rfl⟩) rfl rfl (Nat.le_of_ble_eq_true rfl) ⟨Nat.zero_le _, Nat.zero_le _⟩ dX8_puts_28 (fun H locs hH => ?_)
      refine lv_iload_n hx hb dX8_puts_31 rfl (lv_at hl 0 rfl) ?_
      obtain ⟨rfl, rfl⟩ := some_i2 h
      exact m_iret hC hH hr rfl dX8_puts_32
    · have h := ite_t c6 h
      refine lv_ldc (v := -1000000001) hx hb hown (hts _ wkX8_90) dX8_puts_16 ?_
      obtain ⟨rfl, rfl⟩ := some_i2 h
      exact m_iret (v := -1000000001) hC hH hr rfl dX8_puts_18

def rmM_at : Room := { frames := 2, cells := 0, slots := 0, locals := 46 }
theorem hdX8_at : yX8_at.cls = RX8 ∧ yX8_at.cls ≠ "java/lang/invoke/MethodHandle" ∧ yX8_at.cls ≠ "java/lang/invoke/VarHandle" ∧ (parseMethodDescriptor yX8_at.desc).map (fun d => d.parameters.length) = some 1 := by decide +kernel

def fM_at (μ0 : MS) (x1 : Int32) : Option (Int32) :=
  ob (fM_isOne μ0 x1) fun r2 =>
  if r2 = 0 then (
    some (-1000000001 : Int32))
  else (
    ck ((6 : Int32) + x1) (3076) <|
    some (μ0 1 (((6 : Int32) + x1)).toNatClampNeg))

set_option maxHeartbeats 4000000 in
set_option maxRecDepth 100000 in
theorem cM_at (l : Launch) (D : va_G) (cI : ClassId) (B : Nat → Nat) (μ0 : MS) (x1 : Int32) {r : Int32} (h : fM_at μ0 x1 = some r) : ∀ sz, Met l yX8_at (Cond.code yX8_at cX8_at 2 (some .int) :: Tw) rmM_at (mP D cI B μ0 sz [.ref (B 0), .int x1]) (mQi D cI B μ0 sz μ0 r) 0 0 (va_A (mW B cI μ0) sz) := by
  intro sz
  refine Met.ofW (cc := cX8_at) (maxL := 2) (ret := (some .int)) (by decide) rfl ?_
  intro p e s m args below meth c s₁ Bd hml hv
  obtain ⟨hC, hr⟩ := jC_of Bd hml
  obtain ⟨rfl, rfl, hH⟩ := m_enter hv
  have hC : jC p s m _ meth c cX8_at 2 RX8 := hC
  have hx := hC.1.1
  have hb := hC.1.2.1
  have hown := hC.1.2.2.2.1
  have hts := hC.1.2.2.2.2
  have hl := lv_entry ([.ref (B 0), .int x1]) (n := 2) (Nat.le_of_ble_eq_true rfl)
  rw [lg_entry_eq]
  generalize (lg_sl ([.ref (B 0), .int x1]) ++ List.replicate (2 - (lg_sl ([.ref (B 0), .int x1])).length) Slot.unset).toArray = ls at hl ⊢
  have hl : lv_has ls 2 [(0, .ref (B 0)), (1, .int x1)] := hl
  unfold fM_at at h
  refine W_nm (fun H locs eH eL => ?_)
  have hH : mH D cI B s (va_A (mW B cI μ0) s.heap.size) μ0 H locs := by rw [eH, eL]; exact hH
  show W p l e rmM_at s m _ below meth c H locs 0 0 _ (F0 m 0 ls [])
  refine lv_aload_n hx hb dX8_at_0 rfl (lv_at hl 0 rfl) ?_
  refine lv_iload_n hx hb dX8_at_1 rfl (lv_at hl 1 rfl) ?_
  obtain ⟨r2, h1, h⟩ := ob_some h
  refine m_calli (As := [.int x1]) (rest := []) (cM_isOne l D cI B μ0 x1 h1) hC hH hl (cwV 1 hts (gV wmX8_112 wvX8_isOne) rfl rfl rfl hdX8_isOne ⟨Nat.le_of_ble_eq_true rfl, Nat.le_of_ble_eq_true rfl⟩) rfl rfl (Nat.le_of_ble_eq_true rfl) ⟨Nat.zero_le _, Nat.zero_le _⟩ dX8_at_2 (fun H locs hH => ?_)
  refine lv_if_eq (tgt := 20) hx hb dX8_at_5 (by decide) (fun c3 => ?_) (fun c3 => ?_)
  · have h := ite_t c3 h
    refine lv_ldc (v := -1000000001) hx hb hown (hts _ wkX8_90) dX8_at_20 ?_
    obtain rfl := some_i1 h
    exact m_iret (v := -1000000001) hC hH hr rfl dX8_at_22
  · have h := ite_f c3 h
    refine lv_aload_n hx hb dX8_at_8 rfl (lv_at hl 0 rfl) ?_
    refine m_get hC hH 0 (by decide) wfX8_7 rfl rfl dX8_at_9 ?_
    refine lv_bipush (v := 6) hx hb dX8_at_12 (by decide) ?_
    refine lv_iload_n hx hb dX8_at_14 rfl (lv_at hl 1 rfl) ?_
    refine lv_iadd hx hb dX8_at_15 ?_
    obtain ⟨i4, h⟩ := ck_some h
    refine m_ald hC hH (a := 1) rfl rfl i4 dX8_at_16 ?_
    refine lv_goto (tgt := 22) hx hb dX8_at_17 (by decide) ?_
    obtain rfl := some_i1 h
    exact m_iret hC hH hr rfl dX8_at_22

def rmM_swaps : Room := { frames := 0, cells := 0, slots := 0, locals := 0 }
theorem hdX8_swaps : yX8_swaps.cls = RX8 ∧ yX8_swaps.cls ≠ "java/lang/invoke/MethodHandle" ∧ yX8_swaps.cls ≠ "java/lang/invoke/VarHandle" ∧ (parseMethodDescriptor yX8_swaps.desc).map (fun d => d.parameters.length) = some 2 := by decide +kernel

def fM_swaps (μ0 : MS) (x1 : Int32) (x2 : Int32) : Option (MS) :=
  ck ((6 : Int32) + x1) (3076) <|
  bnd (μ0 1 (((6 : Int32) + x1)).toNatClampNeg) fun v2 =>
  ck ((6 : Int32) + x2) (3076) <|
  ck ((6 : Int32) + x1) (3076) <|
  bnd (up2 μ0 1 (((6 : Int32) + x1)).toNatClampNeg (μ0 1 (((6 : Int32) + x2)).toNatClampNeg)) fun μ6 =>
  ck ((6 : Int32) + x2) (3076) <|
  bnd (up2 μ6 1 (((6 : Int32) + x2)).toNatClampNeg v2) fun μ9 =>
  some μ9

set_option maxHeartbeats 4000000 in
set_option maxRecDepth 100000 in
theorem cM_swaps (l : Launch) (D : va_G) (cI : ClassId) (B : Nat → Nat) (μ0 : MS) (x1 : Int32) (x2 : Int32) {μr : MS} (h : fM_swaps μ0 x1 x2 = some μr) : ∀ sz, Met l yX8_swaps (Cond.code yX8_swaps cX8_swaps 4 none :: Tw) rmM_swaps (mP D cI B μ0 sz [.ref (B 0), .int x1, .int x2]) (mQv D cI B μ0 sz μr) 0 0 (va_A (mW B cI μ0) sz) := by
  intro sz
  refine Met.ofW (cc := cX8_swaps) (maxL := 4) (ret := (none)) (by decide) rfl ?_
  intro p e s m args below meth c s₁ Bd hml hv
  obtain ⟨hC, hr⟩ := jC_of Bd hml
  obtain ⟨rfl, rfl, hH⟩ := m_enter hv
  have hC : jC p s m _ meth c cX8_swaps 4 RX8 := hC
  have hx := hC.1.1
  have hb := hC.1.2.1
  have hown := hC.1.2.2.2.1
  have hts := hC.1.2.2.2.2
  have hl := lv_entry ([.ref (B 0), .int x1, .int x2]) (n := 4) (Nat.le_of_ble_eq_true rfl)
  rw [lg_entry_eq]
  generalize (lg_sl ([.ref (B 0), .int x1, .int x2]) ++ List.replicate (4 - (lg_sl ([.ref (B 0), .int x1, .int x2])).length) Slot.unset).toArray = ls at hl ⊢
  have hl : lv_has ls 4 [(0, .ref (B 0)), (1, .int x1), (2, .int x2)] := hl
  unfold fM_swaps at h
  refine W_nm (fun H locs eH eL => ?_)
  have hH : mH D cI B s (va_A (mW B cI μ0) s.heap.size) μ0 H locs := by rw [eH, eL]; exact hH
  show W p l e rmM_swaps s m _ below meth c H locs 0 0 _ (F0 m 0 ls [])
  refine lv_aload_n hx hb dX8_swaps_0 rfl (lv_at hl 0 rfl) ?_
  refine m_get hC hH 0 (by decide) wfX8_7 rfl rfl dX8_swaps_1 ?_
  refine lv_bipush (v := 6) hx hb dX8_swaps_4 (by decide) ?_
  refine lv_iload_n hx hb dX8_swaps_6 rfl (lv_at hl 1 rfl) ?_
  refine lv_iadd hx hb dX8_swaps_7 ?_
  obtain ⟨i1, h⟩ := ck_some h
  refine m_ald hC hH (a := 1) rfl rfl i1 dX8_swaps_8 ?_
  obtain ⟨v2, e3, h⟩ := bnd_some h
  refine lv_tope e3 ?_
  refine lv_istore_n (lv' := [(3, .int v2), (0, .ref (B 0)), (1, .int x1), (2, .int x2)]) hx hb dX8_swaps_9 rfl hl (by decide) rfl (fun ls hl => ?_)
  refine lv_aload_n hx hb dX8_swaps_10 rfl (lv_at hl 1 rfl) ?_
  refine m_get hC hH 0 (by decide) wfX8_7 rfl rfl dX8_swaps_11 ?_
  refine lv_bipush (v := 6) hx hb dX8_swaps_14 (by decide) ?_
  refine lv_iload_n hx hb dX8_swaps_16 rfl (lv_at hl 2 rfl) ?_
  refine lv_iadd hx hb dX8_swaps_17 ?_
  refine lv_aload_n hx hb dX8_swaps_18 rfl (lv_at hl 1 rfl) ?_
  refine m_get hC hH 0 (by decide) wfX8_7 rfl rfl dX8_swaps_19 ?_
  refine lv_bipush (v := 6) hx hb dX8_swaps_22 (by decide) ?_
  refine lv_iload_n hx hb dX8_swaps_24 rfl (lv_at hl 3 rfl) ?_
  refine lv_iadd hx hb dX8_swaps_25 ?_
  obtain ⟨i4, h⟩ := ck_some h
  refine m_ald hC hH (a := 1) rfl rfl i4 dX8_swaps_26 ?_
  obtain ⟨i5, h⟩ := ck_some h
  obtain ⟨μ6, e7, h⟩ := bnd_some h
  refine m_ast hC hH (a := 1) rfl rfl e7 i5 dX8_swaps_27 (fun H locs hH => ?_)
  refine lv_aload_n hx hb dX8_swaps_28 rfl (lv_at hl 1 rfl) ?_
  refine m_get hC hH 0 (by decide) wfX8_7 rfl rfl dX8_swaps_29 ?_
  refine lv_bipush (v := 6) hx hb dX8_swaps_32 (by decide) ?_
  refine lv_iload_n hx hb dX8_swaps_34 rfl (lv_at hl 3 rfl) ?_
  refine lv_iadd hx hb dX8_swaps_35 ?_
  refine lv_iload_n hx hb dX8_swaps_36 rfl (lv_at hl 0 rfl) ?_
  obtain ⟨i8, h⟩ := ck_some h
  obtain ⟨μ9, e10, h⟩ := bnd_some h
  refine m_ast hC hH (a := 1) rfl rfl e10 i8 dX8_swaps_37 (fun H locs hH => ?_)
  obtain rfl := some_i1 h
  exact m_vret hC hH hr dX8_swaps_38

def rmM_turnsOver : Room := { frames := 1, cells := 0, slots := 0, locals := 23 }
theorem hdX8_turnsOver : yX8_turnsOver.cls = RX8 ∧ yX8_turnsOver.cls ≠ "java/lang/invoke/MethodHandle" ∧ yX8_turnsOver.cls ≠ "java/lang/invoke/VarHandle" ∧ (parseMethodDescriptor yX8_turnsOver.desc).map (fun d => d.parameters.length) = some 0 := by decide +kernel

def fM_turnsOver_L2 (k35 : MS → Option (MS)) : Nat → Int32 → MS → Option (MS)
  | 0, _, _ => none
  | n + 1, x1, μ =>
    if ((μ 1 0) / (2 : Int32)) ≤ x1 then (
      k35 μ)
    else (
      ob (fM_swaps μ x1 (((μ 1 0) - (1 : Int32)) - x1)) fun μ3 =>
      bnd (x1 + (1 : Int32)) fun v4 =>
      (fM_turnsOver_L2 k35 n) v4 μ3)

set_option maxHeartbeats 4000000 in
set_option maxRecDepth 100000 in
theorem wM_turnsOver_L2 {p : Program} {l : Launch} {e : Env} {s : State} {m : MethodId} {args : Array Value} {below : List Frame} {meth : Method} {c : Code} {D : va_G} {cI : ClassId} {B : Nat → Nat} {μ0 : MS} {μr : MS} (hC : jC p s m args meth c cX8_turnsOver 2 RX8) (hr : meth.sig.returnType = none) {k35 : MS → Option (MS)} (hk35 : ∀ (μ : MS) (H : Heap) (locs : List Loc) (ls : Array Slot), mH D cI B s (va_A (mW B cI μ0) s.heap.size) μ H locs → lv_has ls 2 [] → k35 μ = some μr → W p l e rmM_turnsOver s m args below meth c H locs 0 0 (MQ below (mQv D cI B μ0 s.heap.size μr) args s 0 0 (va_A (mW B cI μ0) s.heap.size)) (F0 m 35 ls [])) : ∀ (n : Nat) (x1 : Int32) (μ : MS) (H : Heap) (locs : List Loc) (ls : Array Slot), mH D cI B s (va_A (mW B cI μ0) s.heap.size) μ H locs → lv_has ls 2 [(0, .ref (B 0)), (1, .int x1)] → fM_turnsOver_L2 k35 n x1 μ = some μr → W p l e rmM_turnsOver s m args below meth c H locs 0 0 (MQ below (mQv D cI B μ0 s.heap.size μr) args s 0 0 (va_A (mW B cI μ0) s.heap.size)) (F0 m 2 ls []) := by
  have hx := hC.1.1
  have hb := hC.1.2.1
  have hown := hC.1.2.2.2.1
  have hts := hC.1.2.2.2.2
  intro n
  induction n with
  | zero =>
    intro x1 μ H locs ls  hH hl h
    rw [fM_turnsOver_L2] at h
    cases h
  | succ n ih =>
    intro x1 μ H locs ls  hH hl h
    rw [fM_turnsOver_L2] at h
    refine lv_iload_n hx hb dX8_turnsOver_2 rfl (lv_at hl 1 rfl) ?_
    refine lv_aload_n hx hb dX8_turnsOver_3 rfl (lv_at hl 0 rfl) ?_
    refine m_get hC hH 0 (by decide) wfX8_7 rfl rfl dX8_turnsOver_4 ?_
    refine lv_iconst (v := 0) hx hb dX8_turnsOver_7 (by decide) ?_
    refine m_ald hC hH (a := 1) rfl rfl (vp_b rfl) dX8_turnsOver_8 ?_
    refine lv_iconst (v := 2) hx hb dX8_turnsOver_9 (by decide) ?_
    refine lv_idiv hx hb dX8_turnsOver_10 (by decide) ?_
    refine lv_icmp_ge (tgt := 35) hx hb dX8_turnsOver_11 (by decide) (fun c1 => ?_) (fun c1 => ?_)
    · have h := ite_t c1 h
      exact hk35 μ H locs ls  hH (lv_sub hl [] rfl) h
    · have h := ite_f c1 h
      refine lv_aload_n hx hb dX8_turnsOver_14 rfl (lv_at hl 0 rfl) ?_
      refine lv_iload_n hx hb dX8_turnsOver_15 rfl (lv_at hl 1 rfl) ?_
      refine lv_aload_n hx hb dX8_turnsOver_16 rfl (lv_at hl 0 rfl) ?_
      refine m_get hC hH 0 (by decide) wfX8_7 rfl rfl dX8_turnsOver_17 ?_
      refine lv_iconst (v := 0) hx hb dX8_turnsOver_20 (by decide) ?_
      refine m_ald hC hH (a := 1) rfl rfl (vp_b rfl) dX8_turnsOver_21 ?_
      refine lv_iconst (v := 1) hx hb dX8_turnsOver_22 (by decide) ?_
      refine lv_isub hx hb dX8_turnsOver_23 ?_
      refine lv_iload_n hx hb dX8_turnsOver_24 rfl (lv_at hl 1 rfl) ?_
      refine lv_isub hx hb dX8_turnsOver_25 ?_
      obtain ⟨μ3, h2, h⟩ := ob_some h
      refine m_callv (As := [.int x1, .int (((μ 1 0) - (1 : Int32)) - x1)]) (rest := []) (cM_swaps l D cI B μ x1 (((μ 1 0) - (1 : Int32)) - x1) h2) hC hH hl (cwV 2 hts (gV wmX8_142 wvX8_swaps) rfl rfl rfl hdX8_swaps ⟨Nat.le_of_ble_eq_true rfl, Nat.le_of_ble_eq_true rfl⟩) rfl rfl (Nat.le_of_ble_eq_true rfl) ⟨Nat.zero_le _, Nat.zero_le _⟩ dX8_turnsOver_26 (fun H locs hH => ?_)
      obtain ⟨v4, e5, h⟩ := bnd_some h
      refine lv_iinc (v := v4) (lv' := [(1, .int v4), (0, .ref (B 0))]) hx hb dX8_turnsOver_29 hl (k := 1) rfl (by rw [e5]; rfl) (by decide) rfl (fun ls hl => ?_)
      refine lv_goto (tgt := 2) hx hb dX8_turnsOver_32 (by decide) ?_
      exact ih v4 μ3 H locs ls  hH (lv_sub hl [1, 0] rfl) h

def fM_turnsOver (μ0 : MS) : Option (MS) :=
  fM_turnsOver_L2 (fun (μ : MS) => some μ) 10000 (0 : Int32) μ0

set_option maxHeartbeats 4000000 in
set_option maxRecDepth 100000 in
theorem cM_turnsOver (l : Launch) (D : va_G) (cI : ClassId) (B : Nat → Nat) (μ0 : MS) {μr : MS} (h : fM_turnsOver μ0 = some μr) : ∀ sz, Met l yX8_turnsOver (Cond.code yX8_turnsOver cX8_turnsOver 2 none :: Tw) rmM_turnsOver (mP D cI B μ0 sz [.ref (B 0)]) (mQv D cI B μ0 sz μr) 0 0 (va_A (mW B cI μ0) sz) := by
  intro sz
  refine Met.ofW (cc := cX8_turnsOver) (maxL := 2) (ret := (none)) (by decide) rfl ?_
  intro p e s m args below meth c s₁ Bd hml hv
  obtain ⟨hC, hr⟩ := jC_of Bd hml
  obtain ⟨rfl, rfl, hH⟩ := m_enter hv
  have hC : jC p s m _ meth c cX8_turnsOver 2 RX8 := hC
  have hx := hC.1.1
  have hb := hC.1.2.1
  have hown := hC.1.2.2.2.1
  have hts := hC.1.2.2.2.2
  have hl := lv_entry ([.ref (B 0)]) (n := 2) (Nat.le_of_ble_eq_true rfl)
  rw [lg_entry_eq]
  generalize (lg_sl ([.ref (B 0)]) ++ List.replicate (2 - (lg_sl ([.ref (B 0)])).length) Slot.unset).toArray = ls at hl ⊢
  have hl : lv_has ls 2 [(0, .ref (B 0))] := hl
  unfold fM_turnsOver at h
  refine W_nm (fun H locs eH eL => ?_)
  have hH : mH D cI B s (va_A (mW B cI μ0) s.heap.size) μ0 H locs := by rw [eH, eL]; exact hH
  show W p l e rmM_turnsOver s m _ below meth c H locs 0 0 _ (F0 m 0 ls [])
  refine lv_iconst (v := 0) hx hb dX8_turnsOver_0 (by decide) ?_
  refine lv_istore_n (lv' := [(1, .int (0 : Int32)), (0, .ref (B 0))]) hx hb dX8_turnsOver_1 rfl hl (by decide) rfl (fun ls hl => ?_)
  refine wM_turnsOver_L2 hC hr  ?_ 10000 (0 : Int32) μ0 H locs ls  hH (lv_sub hl [1, 0] rfl) h
  intro μ H locs ls  hH hl h
  obtain rfl := some_i1 h
  exact m_vret hC hH hr dX8_turnsOver_35

def rmM_halt : Room := { frames := 2, cells := 0, slots := 0, locals := 44 }
theorem hdX8_halt : yX8_halt.cls = RX8 ∧ yX8_halt.cls ≠ "java/lang/invoke/MethodHandle" ∧ yX8_halt.cls ≠ "java/lang/invoke/VarHandle" ∧ (parseMethodDescriptor yX8_halt.desc).map (fun d => d.parameters.length) = some 0 := by decide +kernel

def fM_halt (μ0 : MS) : Option (Int32 × MS) :=
  ob (fM_turnsOver μ0) fun μ2 =>
  some ((μ2 1 0), μ2)

set_option maxHeartbeats 4000000 in
set_option maxRecDepth 100000 in
theorem cM_halt (l : Launch) (D : va_G) (cI : ClassId) (B : Nat → Nat) (μ0 : MS) {r : Int32} {μr : MS} (h : fM_halt μ0 = some (r, μr)) : ∀ sz, Met l yX8_halt (Cond.code yX8_halt cX8_halt 1 (some .int) :: Tw) rmM_halt (mP D cI B μ0 sz [.ref (B 0)]) (mQi D cI B μ0 sz μr r) 0 0 (va_A (mW B cI μ0) sz) := by
  intro sz
  refine Met.ofW (cc := cX8_halt) (maxL := 1) (ret := (some .int)) (by decide) rfl ?_
  intro p e s m args below meth c s₁ Bd hml hv
  obtain ⟨hC, hr⟩ := jC_of Bd hml
  obtain ⟨rfl, rfl, hH⟩ := m_enter hv
  have hC : jC p s m _ meth c cX8_halt 1 RX8 := hC
  have hx := hC.1.1
  have hb := hC.1.2.1
  have hown := hC.1.2.2.2.1
  have hts := hC.1.2.2.2.2
  have hl := lv_entry ([.ref (B 0)]) (n := 1) (Nat.le_of_ble_eq_true rfl)
  rw [lg_entry_eq]
  generalize (lg_sl ([.ref (B 0)]) ++ List.replicate (1 - (lg_sl ([.ref (B 0)])).length) Slot.unset).toArray = ls at hl ⊢
  have hl : lv_has ls 1 [(0, .ref (B 0))] := hl
  unfold fM_halt at h
  refine W_nm (fun H locs eH eL => ?_)
  have hH : mH D cI B s (va_A (mW B cI μ0) s.heap.size) μ0 H locs := by rw [eH, eL]; exact hH
  show W p l e rmM_halt s m _ below meth c H locs 0 0 _ (F0 m 0 ls [])
  refine lv_aload_n hx hb dX8_halt_0 rfl (lv_at hl 0 rfl) ?_
  obtain ⟨μ2, h1, h⟩ := ob_some h
  refine m_callv (As := []) (rest := []) (cM_turnsOver l D cI B μ0  h1) hC hH hl (cwV 0 hts (gV wmX8_145 wvX8_turnsOver) rfl rfl rfl hdX8_turnsOver ⟨Nat.le_of_ble_eq_true rfl, Nat.le_of_ble_eq_true rfl⟩) rfl rfl (Nat.le_of_ble_eq_true rfl) ⟨Nat.zero_le _, Nat.zero_le _⟩ dX8_halt_1 (fun H locs hH => ?_)
  refine lv_aload_n hx hb dX8_halt_4 rfl (lv_at hl 0 rfl) ?_
  refine m_get hC hH 0 (by decide) wfX8_7 rfl rfl dX8_halt_5 ?_
  refine lv_iconst (v := 0) hx hb dX8_halt_8 (by decide) ?_
  refine m_ald hC hH (a := 1) rfl rfl (vp_b rfl) dX8_halt_9 ?_
  obtain ⟨rfl, rfl⟩ := some_i2 h
  exact m_iret hC hH hr rfl dX8_halt_10
