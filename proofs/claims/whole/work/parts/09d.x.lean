def rmR (d : Nat) : Room := { frames := 20 + d, cells := 0, slots := 0, locals := 400 + 40 * d }
theorem rmR_s (d : Nat) {k : Nat} (h : k ≤ 21) : (rmR d).frames + 1 ≤ (rmR (d + 1)).frames ∧ 8 + (k + 11) + (rmR d).locals ≤ (rmR (d + 1)).locals := by
  constructor
  · show 20 + d + 1 ≤ 20 + (d + 1); omega
  · show 8 + (k + 11) + (400 + 40 * d) ≤ 400 + 40 * (d + 1); omega
theorem rmR_c (d : Nat) {a b : Nat} (h : a ≤ 21) (h2 : b ≤ 440) : a ≤ (rmR (d + 1)).frames ∧ b ≤ (rmR (d + 1)).locals := by
  constructor
  · show a ≤ 20 + (d + 1); omega
  · show b ≤ 400 + 40 * (d + 1); omega
theorem hdX3_isChain : yX3_isChain.cls = RX3 ∧ yX3_isChain.cls ≠ "java/lang/invoke/MethodHandle" ∧ yX3_isChain.cls ≠ "java/lang/invoke/VarHandle" ∧ (parseMethodDescriptor yX3_isChain.desc).map (fun d => d.parameters.length) = some 1 := by decide +kernel
theorem hdX3_isPiece : yX3_isPiece.cls = RX3 ∧ yX3_isPiece.cls ≠ "java/lang/invoke/MethodHandle" ∧ yX3_isPiece.cls ≠ "java/lang/invoke/VarHandle" ∧ (parseMethodDescriptor yX3_isPiece.desc).map (fun d => d.parameters.length) = some 0 := by decide +kernel
theorem hdX3_isNot : yX3_isNot.cls = RX3 ∧ yX3_isNot.cls ≠ "java/lang/invoke/MethodHandle" ∧ yX3_isNot.cls ≠ "java/lang/invoke/VarHandle" ∧ (parseMethodDescriptor yX3_isNot.desc).map (fun d => d.parameters.length) = some 0 := by decide +kernel
theorem hdX3_isBracket : yX3_isBracket.cls = RX3 ∧ yX3_isBracket.cls ≠ "java/lang/invoke/MethodHandle" ∧ yX3_isBracket.cls ≠ "java/lang/invoke/VarHandle" ∧ (parseMethodDescriptor yX3_isBracket.desc).map (fun d => d.parameters.length) = some 0 := by decide +kernel


def fR_isChain_L36 (F_isChain : XS → Int32 → Option (Int32 × XS)) (F_isPiece : XS → Option (Int32 × XS)) (k96 : XS → Option (Int32 × XS)) : Nat → Int32 → Int32 → Int32 → XS → Option (Int32 × XS)
  | 0, _, _, _, _ => none
  | n + 1, x1, x2, x3, σ =>
    if x2 ≤ x3 then (
      k96 σ)
    else (
      ob (fT_sign σ) fun r9 =>
      ob (fR_levelOf σ r9) fun r11 =>
      if r11 = x1 then (
        ob (fT_sign σ) fun r14 =>
        ob (fT_next σ) fun σ16 =>
        ob2 (F_isChain σ16 (x1 + (1 : Int32))) fun r18 σ19 =>
        if r18 = 0 then (
          some ((0 : Int32), σ19))
        else (
          ob (fR_put σ19 (-r14)) fun σ22 =>
          bnd (x3 + (1 : Int32)) fun v23 =>
          (fR_isChain_L36 F_isChain F_isPiece k96 n) x1 x2 v23 σ22))
      else (
        k96 σ))

set_option maxHeartbeats 4000000 in
set_option maxRecDepth 100000 in
theorem wR_isChain_L36 {p : Program} {l : Launch} {e : Env} {s : State} {m : MethodId} {args : Array Value} {below : List Frame} {meth : Method} {c : Code} {G : XG} {σ0 : XS} {d : Nat} {F_isChain : XS → Int32 → Option (Int32 × XS)} {F_isPiece : XS → Option (Int32 × XS)} {r : Int32} {σr : XS} (hC : jC p s m args meth c cX3_isChain 5 RX3) (hr : meth.sig.returnType = some .boolean) (hF_isChain : ∀ (σ : XS) (x1 : Int32) (r : Int32) (σ1 : XS), F_isChain σ x1 = some (r, σ1) → ∀ sz, Met l yX3_isChain (Cond.code yX3_isChain cX3_isChain 5 (some .boolean) :: Tw) (rmR d) (xP G σ sz [.ref (xA G 7), .int x1]) (xQi G σ sz σ1 r) 0 0 (va_A (xW G σ) sz)) (hF_isPiece : ∀ (σ : XS) (r : Int32) (σ1 : XS), F_isPiece σ = some (r, σ1) → ∀ sz, Met l yX3_isPiece (Cond.code yX3_isPiece cX3_isPiece 1 (some .boolean) :: Tw) (rmR d) (xP G σ sz [.ref (xA G 7)]) (xQi G σ sz σ1 r) 0 0 (va_A (xW G σ) sz)) {k96 : XS → Option (Int32 × XS)} (hk96 : ∀ (σ : XS) (H : Heap) (locs : List Loc) (ls : Array Slot), xH G s (va_A (xW G σ0) s.heap.size) σ H locs → lv_has ls 5 [] → k96 σ = some (r, σr) → W p l e (rmR (d + 1)) s m args below meth c H locs 0 0 (MQ below (xQi G σ0 s.heap.size σr r) args s 0 0 (va_A (xW G σ0) s.heap.size)) (F0 m 96 ls [])) : ∀ (n : Nat) (x1 : Int32) (x2 : Int32) (x3 : Int32) (σ : XS) (H : Heap) (locs : List Loc) (ls : Array Slot), xH G s (va_A (xW G σ0) s.heap.size) σ H locs → lv_has ls 5 [(0, .ref (xA G 7)), (1, .int x1), (2, .int x2), (3, .int x3)] → fR_isChain_L36 F_isChain F_isPiece k96 n x1 x2 x3 σ = some (r, σr) → W p l e (rmR (d + 1)) s m args below meth c H locs 0 0 (MQ below (xQi G σ0 s.heap.size σr r) args s 0 0 (va_A (xW G σ0) s.heap.size)) (F0 m 36 ls []) := by
  have hx := hC.1.1
  have hb := hC.1.2.1
  have hown := hC.1.2.2.2.1
  have hts := hC.1.2.2.2.2
  intro n
  induction n with
  | zero =>
    intro x1 x2 x3 σ H locs ls  hH hl h
    rw [fR_isChain_L36] at h
    cases h
  | succ n ih =>
    intro x1 x2 x3 σ H locs ls  hH hl h
    rw [fR_isChain_L36] at h
    refine lv_iload_n hx hb dX3_isChain_36 rfl (lv_at hl 3 rfl) ?_
    refine lv_iload_n hx hb dX3_isChain_37 rfl (lv_at hl 2 rfl) ?_
    refine lv_icmp_ge (tgt := 96) hx hb dX3_isChain_38 (by decide) (fun c7 => ?_) (fun c7 => ?_)
    · have h := ite_t c7 h
      exact hk96 σ H locs ls  hH (lv_sub hl [] rfl) h
    · have h := ite_f c7 h
      refine lv_aload_n hx hb dX3_isChain_41 rfl (lv_at hl 0 rfl) ?_
      refine x_get (C := RX3) (T := TX3) (N := 7) (v := .ref (xA G 6)) hC hH (xe_R G σ) rfl wyX3 0 (by decide) wfX3_33 rfl rfl dX3_isChain_42 ?_
      obtain ⟨r9, h8, h⟩ := ob_some h
      refine x_calli (vw := (RX6, TX6, 5)) (As := []) (rest := []) (cT_sign l G σ  h8) hC hH hl (xe_T G σ) rfl (cwV 0 hts (gV wmX3_76 wvX6_sign) rfl rfl rfl hdX6_sign (rmR_c d (Nat.le_of_ble_eq_true rfl) (Nat.le_of_ble_eq_true rfl))) rfl rfl (Nat.le_of_ble_eq_true rfl) ⟨Nat.zero_le _, Nat.zero_le _⟩ dX3_isChain_45 (fun H locs hH => ?_)
      obtain ⟨r11, h10, h⟩ := ob_some h
      refine x_calls (As := [.int r9]) (rest := []) (cR_levelOf l G σ r9  h10) hC hH hl (va_cwS 1 hts (gS wmX3_80 wsX3_levelOf) rfl rfl rfl hdX3_levelOf (rmR_c d (Nat.le_of_ble_eq_true rfl) (Nat.le_of_ble_eq_true rfl))) rfl rfl (Nat.le_of_ble_eq_true rfl) ⟨Nat.zero_le _, Nat.zero_le _⟩ dX3_isChain_48 (fun H locs hH => ?_)
      refine lv_iload_n hx hb dX3_isChain_51 rfl (lv_at hl 1 rfl) ?_
      refine lv_icmp_ne (tgt := 96) hx hb dX3_isChain_52 (by decide) (fun c12 => ?_) (fun c12 => ?_)
      · have h := ite_f c12 h
        exact hk96 σ H locs ls  hH (lv_sub hl [] rfl) h
      · have h := ite_t c12 h
        refine lv_aload_n hx hb dX3_isChain_55 rfl (lv_at hl 0 rfl) ?_
        refine x_get (C := RX3) (T := TX3) (N := 7) (v := .ref (xA G 6)) hC hH (xe_R G σ) rfl wyX3 0 (by decide) wfX3_33 rfl rfl dX3_isChain_56 ?_
        obtain ⟨r14, h13, h⟩ := ob_some h
        refine x_calli (vw := (RX6, TX6, 5)) (As := []) (rest := []) (cT_sign l G σ  h13) hC hH hl (xe_T G σ) rfl (cwV 0 hts (gV wmX3_76 wvX6_sign) rfl rfl rfl hdX6_sign (rmR_c d (Nat.le_of_ble_eq_true rfl) (Nat.le_of_ble_eq_true rfl))) rfl rfl (Nat.le_of_ble_eq_true rfl) ⟨Nat.zero_le _, Nat.zero_le _⟩ dX3_isChain_59 (fun H locs hH => ?_)
        refine lv_istore (lv' := [(4, .int r14), (0, .ref (xA G 7)), (1, .int x1), (2, .int x2), (3, .int x3)]) hx hb dX3_isChain_62 hl (by decide) rfl (fun ls hl => ?_)
        refine lv_aload_n hx hb dX3_isChain_64 rfl (lv_at hl 1 rfl) ?_
        refine x_get (C := RX3) (T := TX3) (N := 7) (v := .ref (xA G 6)) hC hH (xe_R G σ) rfl wyX3 0 (by decide) wfX3_33 rfl rfl dX3_isChain_65 ?_
        obtain ⟨σ16, h15, h⟩ := ob_some h
        refine x_callv (vw := (RX6, TX6, 5)) (As := []) (rest := []) (cT_next l G σ  h15) hC hH hl (xe_T G σ) rfl (cwV 0 hts (gV wmX3_70 wvX6_next) rfl rfl rfl hdX6_next (rmR_c d (Nat.le_of_ble_eq_true rfl) (Nat.le_of_ble_eq_true rfl))) rfl rfl (Nat.le_of_ble_eq_true rfl) ⟨Nat.zero_le _, Nat.zero_le _⟩ dX3_isChain_68 (fun H locs hH => ?_)
        refine lv_aload_n hx hb dX3_isChain_71 rfl (lv_at hl 1 rfl) ?_
        refine lv_iload_n hx hb dX3_isChain_72 rfl (lv_at hl 2 rfl) ?_
        refine lv_iconst (v := 1) hx hb dX3_isChain_73 (by decide) ?_
        refine lv_iadd hx hb dX3_isChain_74 ?_
        obtain ⟨r18, σ19, h17, h⟩ := ob2_some h
        refine x_calli (vw := (RX3, TX3, 7)) (As := [.int (x1 + (1 : Int32))]) (rest := []) (hF_isChain σ16 (x1 + (1 : Int32)) _ _ h17) hC hH hl (xe_R G σ16) rfl (cwV 1 hts (gV wmX3_44 wvX3_isChain) rfl rfl rfl hdX3_isChain (rmR_s d (Nat.le_of_ble_eq_true rfl))) rfl rfl (Nat.le_of_ble_eq_true rfl) ⟨Nat.zero_le _, Nat.zero_le _⟩ dX3_isChain_75 (fun H locs hH => ?_)
        refine lv_if_ne (tgt := 83) hx hb dX3_isChain_78 (by decide) (fun c20 => ?_) (fun c20 => ?_)
        · have h := ite_f c20 h
          refine lv_aload_n hx hb dX3_isChain_83 rfl (lv_at hl 1 rfl) ?_
          refine lv_iload hx hb dX3_isChain_84 (lv_at hl 0 rfl) ?_
          refine lv_ineg hx hb dX3_isChain_86 ?_
          obtain ⟨σ22, h21, h⟩ := ob_some h
          refine x_callv (vw := (RX3, TX3, 7)) (As := [.int (-r14)]) (rest := []) (cR_put l G σ19 (-r14)  h21) hC hH hl (xe_R G σ19) rfl (cwV 1 hts (gV wmX3_84 wvX3_put) rfl rfl rfl hdX3_put (rmR_c d (Nat.le_of_ble_eq_true rfl) (Nat.le_of_ble_eq_true rfl))) rfl rfl (Nat.le_of_ble_eq_true rfl) ⟨Nat.zero_le _, Nat.zero_le _⟩ dX3_isChain_87 (fun H locs hH => ?_)
          obtain ⟨v23, e24, h⟩ := bnd_some h
          refine lv_iinc (v := v23) (lv' := [(3, .int v23), (4, .int r14), (0, .ref (xA G 7)), (1, .int x1), (2, .int x2)]) hx hb dX3_isChain_90 hl (k := 4) rfl (by rw [e24]; rfl) (by decide) rfl (fun ls hl => ?_)
          refine lv_goto (tgt := 36) hx hb dX3_isChain_93 (by decide) ?_
          exact ih x1 x2 v23 σ22 H locs ls  hH (lv_sub hl [2, 3, 4, 0] rfl) h
        · have h := ite_t c20 h
          refine lv_iconst (v := 0) hx hb dX3_isChain_81 (by decide) ?_
          obtain ⟨rfl, rfl⟩ := some_i2 h
          exact x_iret (v := 0) hC hH hr (by decide) dX3_isChain_82

def fR_isChain_J33 (F_isChain : XS → Int32 → Option (Int32 × XS)) (F_isPiece : XS → Option (Int32 × XS)) (x1 : Int32) (y0 : Int32) (σ : XS) : Option (Int32 × XS) :=
  fR_isChain_L36 F_isChain F_isPiece (fun (σ : XS) => some ((1 : Int32), σ)) 10000 x1 y0 (0 : Int32) σ

set_option maxHeartbeats 4000000 in
set_option maxRecDepth 100000 in
theorem wR_isChain_J33 {p : Program} {l : Launch} {e : Env} {s : State} {m : MethodId} {args : Array Value} {below : List Frame} {meth : Method} {c : Code} {G : XG} {σ0 : XS} {d : Nat} {F_isChain : XS → Int32 → Option (Int32 × XS)} {F_isPiece : XS → Option (Int32 × XS)} {r : Int32} {σr : XS} (hC : jC p s m args meth c cX3_isChain 5 RX3) (hr : meth.sig.returnType = some .boolean) (hF_isChain : ∀ (σ : XS) (x1 : Int32) (r : Int32) (σ1 : XS), F_isChain σ x1 = some (r, σ1) → ∀ sz, Met l yX3_isChain (Cond.code yX3_isChain cX3_isChain 5 (some .boolean) :: Tw) (rmR d) (xP G σ sz [.ref (xA G 7), .int x1]) (xQi G σ sz σ1 r) 0 0 (va_A (xW G σ) sz)) (hF_isPiece : ∀ (σ : XS) (r : Int32) (σ1 : XS), F_isPiece σ = some (r, σ1) → ∀ sz, Met l yX3_isPiece (Cond.code yX3_isPiece cX3_isPiece 1 (some .boolean) :: Tw) (rmR d) (xP G σ sz [.ref (xA G 7)]) (xQi G σ sz σ1 r) 0 0 (va_A (xW G σ) sz)) (x1 : Int32) (y0 : Int32) (σ : XS) (H : Heap) (locs : List Loc) (ls : Array Slot) (hH : xH G s (va_A (xW G σ0) s.heap.size) σ H locs) (hl : lv_has ls 5 [(0, .ref (xA G 7)), (1, .int x1)]) (h : fR_isChain_J33 F_isChain F_isPiece x1 y0 σ = some (r, σr)) : W p l e (rmR (d + 1)) s m args below meth c H locs 0 0 (MQ below (xQi G σ0 s.heap.size σr r) args s 0 0 (va_A (xW G σ0) s.heap.size)) (F0 m 33 ls [.int y0]) := by
  have hx := hC.1.1
  have hb := hC.1.2.1
  have hown := hC.1.2.2.2.1
  have hts := hC.1.2.2.2.2
  unfold fR_isChain_J33 at h
  refine lv_istore_n (lv' := [(2, .int y0), (0, .ref (xA G 7)), (1, .int x1)]) hx hb dX3_isChain_33 rfl hl (by decide) rfl (fun ls hl => ?_)
  refine lv_iconst (v := 0) hx hb dX3_isChain_34 (by decide) ?_
  refine lv_istore_n (lv' := [(3, .int (0 : Int32)), (2, .int y0), (0, .ref (xA G 7)), (1, .int x1)]) hx hb dX3_isChain_35 rfl hl (by decide) rfl (fun ls hl => ?_)
  refine wR_isChain_L36 hC hr hF_isChain hF_isPiece  ?_ 10000 x1 y0 (0 : Int32) σ H locs ls  hH (lv_sub hl [2, 3, 1, 0] rfl) h
  intro σ H locs ls  hH hl h
  refine lv_iconst (v := 1) hx hb dX3_isChain_96 (by decide) ?_
  obtain ⟨rfl, rfl⟩ := some_i2 h
  exact x_iret (v := 1) hC hH hr (by decide) dX3_isChain_97

def fR_isChain (F_isChain : XS → Int32 → Option (Int32 × XS)) (F_isPiece : XS → Option (Int32 × XS)) (σ0 : XS) (x1 : Int32) : Option (Int32 × XS) :=
  if x1 ≤ (4 : Int32) then (
    ob2 (F_isChain σ0 (x1 + (1 : Int32))) fun r3 σ4 =>
    if r3 = 0 then (
      some ((0 : Int32), σ4))
    else (
      if x1 = (2 : Int32) then (
        fR_isChain_J33 F_isChain F_isPiece x1 (1 : Int32) σ4)
      else (
        fR_isChain_J33 F_isChain F_isPiece x1 (96 : Int32) σ4)))
  else (
    ob2 (F_isPiece σ0) fun r26 σ27 =>
    zb r26 <|
    some (r26, σ27))

set_option maxHeartbeats 4000000 in
set_option maxRecDepth 100000 in
theorem cR_isChain (l : Launch) (G : XG) (d : Nat) (F_isChain : XS → Int32 → Option (Int32 × XS)) (F_isPiece : XS → Option (Int32 × XS)) (hF_isChain : ∀ (σ : XS) (x1 : Int32) (r : Int32) (σ1 : XS), F_isChain σ x1 = some (r, σ1) → ∀ sz, Met l yX3_isChain (Cond.code yX3_isChain cX3_isChain 5 (some .boolean) :: Tw) (rmR d) (xP G σ sz [.ref (xA G 7), .int x1]) (xQi G σ sz σ1 r) 0 0 (va_A (xW G σ) sz)) (hF_isPiece : ∀ (σ : XS) (r : Int32) (σ1 : XS), F_isPiece σ = some (r, σ1) → ∀ sz, Met l yX3_isPiece (Cond.code yX3_isPiece cX3_isPiece 1 (some .boolean) :: Tw) (rmR d) (xP G σ sz [.ref (xA G 7)]) (xQi G σ sz σ1 r) 0 0 (va_A (xW G σ) sz)) (σ0 : XS) (x1 : Int32) {r : Int32} {σr : XS} (h : fR_isChain F_isChain F_isPiece σ0 x1 = some (r, σr)) : ∀ sz, Met l yX3_isChain (Cond.code yX3_isChain cX3_isChain 5 (some .boolean) :: Tw) (rmR (d + 1)) (xP G σ0 sz [.ref (xA G 7), .int x1]) (xQi G σ0 sz σr r) 0 0 (va_A (xW G σ0) sz) := by
  intro sz
  refine Met.ofW (cc := cX3_isChain) (maxL := 5) (ret := (some .boolean)) (by decide) rfl ?_
  intro p e s m args below meth c s₁ Bd hml hv
  obtain ⟨hC, hr⟩ := jC_of Bd hml
  obtain ⟨rfl, rfl, hH⟩ := x_enter hv
  have hC : jC p s m _ meth c cX3_isChain 5 RX3 := hC
  have hx := hC.1.1
  have hb := hC.1.2.1
  have hown := hC.1.2.2.2.1
  have hts := hC.1.2.2.2.2
  have hl := lv_entry ([.ref (xA G 7), .int x1]) (n := 5) (Nat.le_of_ble_eq_true rfl)
  rw [lg_entry_eq]
  generalize (lg_sl ([.ref (xA G 7), .int x1]) ++ List.replicate (5 - (lg_sl ([.ref (xA G 7), .int x1])).length) Slot.unset).toArray = ls at hl ⊢
  have hl : lv_has ls 5 [(0, .ref (xA G 7)), (1, .int x1)] := hl
  unfold fR_isChain at h
  refine W_nm (fun H locs eH eL => ?_)
  have hH : xH G s (va_A (xW G σ0) s.heap.size) σ0 H locs := by rw [eH, eL]; exact hH
  show W p l e (rmR (d + 1)) s m _ below meth c H locs 0 0 _ (F0 m 0 ls [])
  refine lv_iload_n hx hb dX3_isChain_0 rfl (lv_at hl 1 rfl) ?_
  refine lv_iconst (v := 4) hx hb dX3_isChain_1 (by decide) ?_
  refine lv_icmp_le (tgt := 10) hx hb dX3_isChain_2 (by decide) (fun c1 => ?_) (fun c1 => ?_)
  · have h := ite_t c1 h
    refine lv_aload_n hx hb dX3_isChain_10 rfl (lv_at hl 0 rfl) ?_
    refine lv_iload_n hx hb dX3_isChain_11 rfl (lv_at hl 1 rfl) ?_
    refine lv_iconst (v := 1) hx hb dX3_isChain_12 (by decide) ?_
    refine lv_iadd hx hb dX3_isChain_13 ?_
    obtain ⟨r3, σ4, h2, h⟩ := ob2_some h
    refine x_calli (vw := (RX3, TX3, 7)) (As := [.int (x1 + (1 : Int32))]) (rest := []) (hF_isChain σ0 (x1 + (1 : Int32)) _ _ h2) hC hH hl (xe_R G σ0) rfl (cwV 1 hts (gV wmX3_44 wvX3_isChain) rfl rfl rfl hdX3_isChain (rmR_s d (Nat.le_of_ble_eq_true rfl))) rfl rfl (Nat.le_of_ble_eq_true rfl) ⟨Nat.zero_le _, Nat.zero_le _⟩ dX3_isChain_14 (fun H locs hH => ?_)
    refine lv_if_ne (tgt := 22) hx hb dX3_isChain_17 (by decide) (fun c5 => ?_) (fun c5 => ?_)
    · have h := ite_f c5 h
      refine lv_iload_n hx hb dX3_isChain_22 rfl (lv_at hl 1 rfl) ?_
      refine lv_iconst (v := 2) hx hb dX3_isChain_23 (by decide) ?_
      refine lv_icmp_ne (tgt := 31) hx hb dX3_isChain_24 (by decide) (fun c6 => ?_) (fun c6 => ?_)
      · have h := ite_f c6 h
        refine lv_bipush (v := 96) hx hb dX3_isChain_31 (by decide) ?_
        exact wR_isChain_J33 hC hr hF_isChain hF_isPiece  x1 (96 : Int32) σ4 H locs ls  hH hl h
      · have h := ite_t c6 h
        refine lv_iconst (v := 1) hx hb dX3_isChain_27 (by decide) ?_
        refine lv_goto (tgt := 33) hx hb dX3_isChain_28 (by decide) ?_
        exact wR_isChain_J33 hC hr hF_isChain hF_isPiece  x1 (1 : Int32) σ4 H locs ls  hH hl h
    · have h := ite_t c5 h
      refine lv_iconst (v := 0) hx hb dX3_isChain_20 (by decide) ?_
      obtain ⟨rfl, rfl⟩ := some_i2 h
      exact x_iret (v := 0) hC hH hr (by decide) dX3_isChain_21
  · have h := ite_f c1 h
    refine lv_aload_n hx hb dX3_isChain_5 rfl (lv_at hl 0 rfl) ?_
    obtain ⟨r26, σ27, h25, h⟩ := ob2_some h
    refine x_calli (vw := (RX3, TX3, 7)) (As := []) (rest := []) (hF_isPiece σ0 _ _ h25) hC hH hl (xe_R G σ0) rfl (cwV 0 hts (gV wmX3_73 wvX3_isPiece) rfl rfl rfl hdX3_isPiece (rmR_s d (Nat.le_of_ble_eq_true rfl))) rfl rfl (Nat.le_of_ble_eq_true rfl) ⟨Nat.zero_le _, Nat.zero_le _⟩ dX3_isChain_6 (fun H locs hH => ?_)
    obtain ⟨z28, h⟩ := zb_some h
    obtain ⟨rfl, rfl⟩ := some_i2 h
    exact x_iret hC hH hr z28 dX3_isChain_9


def fR_isPiece (F_isNot : XS → Option (Int32 × XS)) (F_isBracket : XS → Option (Int32 × XS)) (σ0 : XS) : Option (Int32 × XS) :=
  if (xi σ0 5 2) = (2 : Int32) then (
    ob2 (fR_isNumber σ0) fun r19 σ20 =>
    zb r19 <|
    some (r19, σ20))
  else (
    if (xi σ0 5 2) = (1 : Int32) then (
      ob2 (fR_isName σ0) fun r15 σ16 =>
      zb r15 <|
      some (r15, σ16))
    else (
      ob (fT_sign σ0) fun r4 =>
      if r4 = (33 : Int32) then (
        ob2 (F_isNot σ0) fun r11 σ12 =>
        zb r11 <|
        some (r11, σ12))
      else (
        ob2 (F_isBracket σ0) fun r7 σ8 =>
        zb r7 <|
        some (r7, σ8))))

set_option maxHeartbeats 4000000 in
set_option maxRecDepth 100000 in
theorem cR_isPiece (l : Launch) (G : XG) (d : Nat) (F_isNot : XS → Option (Int32 × XS)) (F_isBracket : XS → Option (Int32 × XS)) (hF_isNot : ∀ (σ : XS) (r : Int32) (σ1 : XS), F_isNot σ = some (r, σ1) → ∀ sz, Met l yX3_isNot (Cond.code yX3_isNot cX3_isNot 1 (some .boolean) :: Tw) (rmR d) (xP G σ sz [.ref (xA G 7)]) (xQi G σ sz σ1 r) 0 0 (va_A (xW G σ) sz)) (hF_isBracket : ∀ (σ : XS) (r : Int32) (σ1 : XS), F_isBracket σ = some (r, σ1) → ∀ sz, Met l yX3_isBracket (Cond.code yX3_isBracket cX3_isBracket 1 (some .boolean) :: Tw) (rmR d) (xP G σ sz [.ref (xA G 7)]) (xQi G σ sz σ1 r) 0 0 (va_A (xW G σ) sz)) (σ0 : XS) {r : Int32} {σr : XS} (h : fR_isPiece F_isNot F_isBracket σ0 = some (r, σr)) : ∀ sz, Met l yX3_isPiece (Cond.code yX3_isPiece cX3_isPiece 1 (some .boolean) :: Tw) (rmR (d + 1)) (xP G σ0 sz [.ref (xA G 7)]) (xQi G σ0 sz σr r) 0 0 (va_A (xW G σ0) sz) := by
  intro sz
  refine Met.ofW (cc := cX3_isPiece) (maxL := 1) (ret := (some .boolean)) (by decide) rfl ?_
  intro p e s m args below meth c s₁ Bd hml hv
  obtain ⟨hC, hr⟩ := jC_of Bd hml
  obtain ⟨rfl, rfl, hH⟩ := x_enter hv
  have hC : jC p s m _ meth c cX3_isPiece 1 RX3 := hC
  have hx := hC.1.1
  have hb := hC.1.2.1
  have hown := hC.1.2.2.2.1
  have hts := hC.1.2.2.2.2
  have hl := lv_entry ([.ref (xA G 7)]) (n := 1) (Nat.le_of_ble_eq_true rfl)
  rw [lg_entry_eq]
  generalize (lg_sl ([.ref (xA G 7)]) ++ List.replicate (1 - (lg_sl ([.ref (xA G 7)])).length) Slot.unset).toArray = ls at hl ⊢
  have hl : lv_has ls 1 [(0, .ref (xA G 7))] := hl
  unfold fR_isPiece at h
  refine W_nm (fun H locs eH eL => ?_)
  have hH : xH G s (va_A (xW G σ0) s.heap.size) σ0 H locs := by rw [eH, eL]; exact hH
  show W p l e (rmR (d + 1)) s m _ below meth c H locs 0 0 _ (F0 m 0 ls [])
  refine lv_aload_n hx hb dX3_isPiece_0 rfl (lv_at hl 0 rfl) ?_
  refine x_get (C := RX3) (T := TX3) (N := 7) (v := .ref (xA G 6)) hC hH (xe_R G σ0) rfl wyX3 0 (by decide) wfX3_33 rfl rfl dX3_isPiece_1 ?_
  refine x_getN (C := RX6) (T := TX6) (N := 5) (v := .int (xi σ0 5 2)) (host := "RoadSorted") hC hH (xe_T G σ0) rfl wyX6 2 (by decide) (by decide +kernel) rfl rfl dX3_isPiece_4 ?_
  refine lv_iconst (v := 2) hx hb dX3_isPiece_7 (by decide) ?_
  refine lv_icmp_ne (tgt := 16) hx hb dX3_isPiece_8 (by decide) (fun c1 => ?_) (fun c1 => ?_)
  · have h := ite_f c1 h
    refine lv_aload_n hx hb dX3_isPiece_16 rfl (lv_at hl 0 rfl) ?_
    refine x_get (C := RX3) (T := TX3) (N := 7) (v := .ref (xA G 6)) hC hH (xe_R G σ0) rfl wyX3 0 (by decide) wfX3_33 rfl rfl dX3_isPiece_17 ?_
    refine x_getN (C := RX6) (T := TX6) (N := 5) (v := .int (xi σ0 5 2)) (host := "RoadSorted") hC hH (xe_T G σ0) rfl wyX6 2 (by decide) (by decide +kernel) rfl rfl dX3_isPiece_20 ?_
    refine lv_iconst (v := 1) hx hb dX3_isPiece_23 (by decide) ?_
    refine lv_icmp_ne (tgt := 32) hx hb dX3_isPiece_24 (by decide) (fun c2 => ?_) (fun c2 => ?_)
    · have h := ite_f c2 h
      refine lv_aload_n hx hb dX3_isPiece_32 rfl (lv_at hl 0 rfl) ?_
      refine x_get (C := RX3) (T := TX3) (N := 7) (v := .ref (xA G 6)) hC hH (xe_R G σ0) rfl wyX3 0 (by decide) wfX3_33 rfl rfl dX3_isPiece_33 ?_
      obtain ⟨r4, h3, h⟩ := ob_some h
      refine x_calli (vw := (RX6, TX6, 5)) (As := []) (rest := []) (cT_sign l G σ0  h3) hC hH hl (xe_T G σ0) rfl (cwV 0 hts (gV wmX3_76 wvX6_sign) rfl rfl rfl hdX6_sign (rmR_c d (Nat.le_of_ble_eq_true rfl) (Nat.le_of_ble_eq_true rfl))) rfl rfl (Nat.le_of_ble_eq_true rfl) ⟨Nat.zero_le _, Nat.zero_le _⟩ dX3_isPiece_36 (fun H locs hH => ?_)
      refine lv_bipush (v := 33) hx hb dX3_isPiece_39 (by decide) ?_
      refine lv_icmp_ne (tgt := 51) hx hb dX3_isPiece_41 (by decide) (fun c5 => ?_) (fun c5 => ?_)
      · have h := ite_f c5 h
        refine lv_aload_n hx hb dX3_isPiece_51 rfl (lv_at hl 0 rfl) ?_
        obtain ⟨r7, σ8, h6, h⟩ := ob2_some h
        refine x_calli (vw := (RX3, TX3, 7)) (As := []) (rest := []) (hF_isBracket σ0 _ _ h6) hC hH hl (xe_R G σ0) rfl (cwV 0 hts (gV wmX3_97 wvX3_isBracket) rfl rfl rfl hdX3_isBracket (rmR_s d (Nat.le_of_ble_eq_true rfl))) rfl rfl (Nat.le_of_ble_eq_true rfl) ⟨Nat.zero_le _, Nat.zero_le _⟩ dX3_isPiece_52 (fun H locs hH => ?_)
        obtain ⟨z9, h⟩ := zb_some h
        obtain ⟨rfl, rfl⟩ := some_i2 h
        exact x_iret hC hH hr z9 dX3_isPiece_55
      · have h := ite_t c5 h
        refine lv_aload_n hx hb dX3_isPiece_44 rfl (lv_at hl 0 rfl) ?_
        obtain ⟨r11, σ12, h10, h⟩ := ob2_some h
        refine x_calli (vw := (RX3, TX3, 7)) (As := []) (rest := []) (hF_isNot σ0 _ _ h10) hC hH hl (xe_R G σ0) rfl (cwV 0 hts (gV wmX3_94 wvX3_isNot) rfl rfl rfl hdX3_isNot (rmR_s d (Nat.le_of_ble_eq_true rfl))) rfl rfl (Nat.le_of_ble_eq_true rfl) ⟨Nat.zero_le _, Nat.zero_le _⟩ dX3_isPiece_45 (fun H locs hH => ?_)
        refine lv_goto (tgt := 55) hx hb dX3_isPiece_48 (by decide) ?_
        obtain ⟨z13, h⟩ := zb_some h
        obtain ⟨rfl, rfl⟩ := some_i2 h
        exact x_iret hC hH hr z13 dX3_isPiece_55
    · have h := ite_t c2 h
      refine lv_aload_n hx hb dX3_isPiece_27 rfl (lv_at hl 0 rfl) ?_
      obtain ⟨r15, σ16, h14, h⟩ := ob2_some h
      refine x_calli (vw := (RX3, TX3, 7)) (As := []) (rest := []) (cR_isName l G σ0  h14) hC hH hl (xe_R G σ0) rfl (cwV 0 hts (gV wmX3_91 wvX3_isName) rfl rfl rfl hdX3_isName (rmR_c d (Nat.le_of_ble_eq_true rfl) (Nat.le_of_ble_eq_true rfl))) rfl rfl (Nat.le_of_ble_eq_true rfl) ⟨Nat.zero_le _, Nat.zero_le _⟩ dX3_isPiece_28 (fun H locs hH => ?_)
      obtain ⟨z17, h⟩ := zb_some h
      obtain ⟨rfl, rfl⟩ := some_i2 h
      exact x_iret hC hH hr z17 dX3_isPiece_31
  · have h := ite_t c1 h
    refine lv_aload_n hx hb dX3_isPiece_11 rfl (lv_at hl 0 rfl) ?_
    obtain ⟨r19, σ20, h18, h⟩ := ob2_some h
    refine x_calli (vw := (RX3, TX3, 7)) (As := []) (rest := []) (cR_isNumber l G σ0  h18) hC hH hl (xe_R G σ0) rfl (cwV 0 hts (gV wmX3_88 wvX3_isNumber) rfl rfl rfl hdX3_isNumber (rmR_c d (Nat.le_of_ble_eq_true rfl) (Nat.le_of_ble_eq_true rfl))) rfl rfl (Nat.le_of_ble_eq_true rfl) ⟨Nat.zero_le _, Nat.zero_le _⟩ dX3_isPiece_12 (fun H locs hH => ?_)
    obtain ⟨z21, h⟩ := zb_some h
    obtain ⟨rfl, rfl⟩ := some_i2 h
    exact x_iret hC hH hr z21 dX3_isPiece_15


def fR_isNot (F_isPiece : XS → Option (Int32 × XS)) (σ0 : XS) : Option (Int32 × XS) :=
  if (xi σ0 6 6) = (8 : Int32) then (
    some ((0 : Int32), σ0))
  else (
    bnd (xu σ0 6 6 ((xi σ0 6 6) + (1 : Int32))) fun σ2 =>
    ob (fT_next σ2) fun σ5 =>
    ob2 (F_isPiece σ5) fun r7 σ8 =>
    if r7 = 0 then (
      some ((0 : Int32), σ8))
    else (
      bnd (xu σ8 6 6 ((xi σ8 6 6) - (1 : Int32))) fun σ10 =>
      ob (fR_put σ10 (-33 : Int32)) fun σ13 =>
      some ((1 : Int32), σ13)))

set_option maxHeartbeats 4000000 in
set_option maxRecDepth 100000 in
theorem cR_isNot (l : Launch) (G : XG) (d : Nat) (F_isPiece : XS → Option (Int32 × XS)) (hF_isPiece : ∀ (σ : XS) (r : Int32) (σ1 : XS), F_isPiece σ = some (r, σ1) → ∀ sz, Met l yX3_isPiece (Cond.code yX3_isPiece cX3_isPiece 1 (some .boolean) :: Tw) (rmR d) (xP G σ sz [.ref (xA G 7)]) (xQi G σ sz σ1 r) 0 0 (va_A (xW G σ) sz)) (σ0 : XS) {r : Int32} {σr : XS} (h : fR_isNot F_isPiece σ0 = some (r, σr)) : ∀ sz, Met l yX3_isNot (Cond.code yX3_isNot cX3_isNot 1 (some .boolean) :: Tw) (rmR (d + 1)) (xP G σ0 sz [.ref (xA G 7)]) (xQi G σ0 sz σr r) 0 0 (va_A (xW G σ0) sz) := by
  intro sz
  refine Met.ofW (cc := cX3_isNot) (maxL := 1) (ret := (some .boolean)) (by decide) rfl ?_
  intro p e s m args below meth c s₁ Bd hml hv
  obtain ⟨hC, hr⟩ := jC_of Bd hml
  obtain ⟨rfl, rfl, hH⟩ := x_enter hv
  have hC : jC p s m _ meth c cX3_isNot 1 RX3 := hC
  have hx := hC.1.1
  have hb := hC.1.2.1
  have hown := hC.1.2.2.2.1
  have hts := hC.1.2.2.2.2
  have hl := lv_entry ([.ref (xA G 7)]) (n := 1) (Nat.le_of_ble_eq_true rfl)
  rw [lg_entry_eq]
  generalize (lg_sl ([.ref (xA G 7)]) ++ List.replicate (1 - (lg_sl ([.ref (xA G 7)])).length) Slot.unset).toArray = ls at hl ⊢
  have hl : lv_has ls 1 [(0, .ref (xA G 7))] := hl
  unfold fR_isNot at h
  refine W_nm (fun H locs eH eL => ?_)
  have hH : xH G s (va_A (xW G σ0) s.heap.size) σ0 H locs := by rw [eH, eL]; exact hH
  show W p l e (rmR (d + 1)) s m _ below meth c H locs 0 0 _ (F0 m 0 ls [])
  refine lv_aload_n hx hb dX3_isNot_0 rfl (lv_at hl 0 rfl) ?_
  refine x_get (C := RX3) (T := TX3) (N := 7) (v := .int (xi σ0 6 6)) hC hH (xe_R G σ0) rfl wyX3 6 (by decide) wfX3_30 rfl rfl dX3_isNot_1 ?_
  refine lv_bipush (v := 8) hx hb dX3_isNot_4 (by decide) ?_
  refine lv_icmp_ne (tgt := 11) hx hb dX3_isNot_6 (by decide) (fun c1 => ?_) (fun c1 => ?_)
  · have h := ite_f c1 h
    refine lv_aload_n hx hb dX3_isNot_11 rfl (lv_at hl 0 rfl) ?_
    refine lv_dup hx hb dX3_isNot_12 rfl ?_
    refine x_get (C := RX3) (T := TX3) (N := 7) (v := .int (xi σ0 6 6)) hC hH (xe_R G σ0) rfl wyX3 6 (by decide) wfX3_30 rfl rfl dX3_isNot_13 ?_
    refine lv_iconst (v := 1) hx hb dX3_isNot_16 (by decide) ?_
    refine lv_iadd hx hb dX3_isNot_17 ?_
    obtain ⟨σ2, e3, h⟩ := bnd_some h
    refine x_put (C := RX3) (T := TX3) (N := 7) (ty := .int) (v := .int ((xi σ0 6 6) + (1 : Int32))) hC hH (xe_R G σ0) rfl wyX3 tyX3_ok nmX3 6 (by decide) wfX3_30 rfl rfl (by decide +kernel) rfl rfl (Nat.le_of_ble_eq_true rfl) e3 (xs_R_6 G σ0 _) dX3_isNot_18 (fun H locs hH => ?_)
    refine lv_aload_n hx hb dX3_isNot_21 rfl (lv_at hl 0 rfl) ?_
    refine x_get (C := RX3) (T := TX3) (N := 7) (v := .ref (xA G 6)) hC hH (xe_R G σ2) rfl wyX3 0 (by decide) wfX3_33 rfl rfl dX3_isNot_22 ?_
    obtain ⟨σ5, h4, h⟩ := ob_some h
    refine x_callv (vw := (RX6, TX6, 5)) (As := []) (rest := []) (cT_next l G σ2  h4) hC hH hl (xe_T G σ2) rfl (cwV 0 hts (gV wmX3_70 wvX6_next) rfl rfl rfl hdX6_next (rmR_c d (Nat.le_of_ble_eq_true rfl) (Nat.le_of_ble_eq_true rfl))) rfl rfl (Nat.le_of_ble_eq_true rfl) ⟨Nat.zero_le _, Nat.zero_le _⟩ dX3_isNot_25 (fun H locs hH => ?_)
    refine lv_aload_n hx hb dX3_isNot_28 rfl (lv_at hl 0 rfl) ?_
    obtain ⟨r7, σ8, h6, h⟩ := ob2_some h
    refine x_calli (vw := (RX3, TX3, 7)) (As := []) (rest := []) (hF_isPiece σ5 _ _ h6) hC hH hl (xe_R G σ5) rfl (cwV 0 hts (gV wmX3_73 wvX3_isPiece) rfl rfl rfl hdX3_isPiece (rmR_s d (Nat.le_of_ble_eq_true rfl))) rfl rfl (Nat.le_of_ble_eq_true rfl) ⟨Nat.zero_le _, Nat.zero_le _⟩ dX3_isNot_29 (fun H locs hH => ?_)
    refine lv_if_ne (tgt := 37) hx hb dX3_isNot_32 (by decide) (fun c9 => ?_) (fun c9 => ?_)
    · have h := ite_f c9 h
      refine lv_aload_n hx hb dX3_isNot_37 rfl (lv_at hl 0 rfl) ?_
      refine lv_dup hx hb dX3_isNot_38 rfl ?_
      refine x_get (C := RX3) (T := TX3) (N := 7) (v := .int (xi σ8 6 6)) hC hH (xe_R G σ8) rfl wyX3 6 (by decide) wfX3_30 rfl rfl dX3_isNot_39 ?_
      refine lv_iconst (v := 1) hx hb dX3_isNot_42 (by decide) ?_
      refine lv_isub hx hb dX3_isNot_43 ?_
      obtain ⟨σ10, e11, h⟩ := bnd_some h
      refine x_put (C := RX3) (T := TX3) (N := 7) (ty := .int) (v := .int ((xi σ8 6 6) - (1 : Int32))) hC hH (xe_R G σ8) rfl wyX3 tyX3_ok nmX3 6 (by decide) wfX3_30 rfl rfl (by decide +kernel) rfl rfl (Nat.le_of_ble_eq_true rfl) e11 (xs_R_6 G σ8 _) dX3_isNot_44 (fun H locs hH => ?_)
      refine lv_aload_n hx hb dX3_isNot_47 rfl (lv_at hl 0 rfl) ?_
      refine lv_bipush (v := -33) hx hb dX3_isNot_48 (by decide) ?_
      obtain ⟨σ13, h12, h⟩ := ob_some h
      refine x_callv (vw := (RX3, TX3, 7)) (As := [.int (-33 : Int32)]) (rest := []) (cR_put l G σ10 (-33 : Int32)  h12) hC hH hl (xe_R G σ10) rfl (cwV 1 hts (gV wmX3_84 wvX3_put) rfl rfl rfl hdX3_put (rmR_c d (Nat.le_of_ble_eq_true rfl) (Nat.le_of_ble_eq_true rfl))) rfl rfl (Nat.le_of_ble_eq_true rfl) ⟨Nat.zero_le _, Nat.zero_le _⟩ dX3_isNot_50 (fun H locs hH => ?_)
      refine lv_iconst (v := 1) hx hb dX3_isNot_53 (by decide) ?_
      obtain ⟨rfl, rfl⟩ := some_i2 h
      exact x_iret (v := 1) hC hH hr (by decide) dX3_isNot_54
    · have h := ite_t c9 h
      refine lv_iconst (v := 0) hx hb dX3_isNot_35 (by decide) ?_
      obtain ⟨rfl, rfl⟩ := some_i2 h
      exact x_iret (v := 0) hC hH hr (by decide) dX3_isNot_36
  · have h := ite_t c1 h
    refine lv_iconst (v := 0) hx hb dX3_isNot_9 (by decide) ?_
    obtain ⟨rfl, rfl⟩ := some_i2 h
    exact x_iret (v := 0) hC hH hr (by decide) dX3_isNot_10


def fR_isBracket (F_isChain : XS → Int32 → Option (Int32 × XS)) (σ0 : XS) : Option (Int32 × XS) :=
  ob (fT_sign σ0) fun r2 =>
  if r2 = (40 : Int32) then (
    if (xi σ0 6 5) = (8 : Int32) then (
      some ((0 : Int32), σ0))
    else (
      bnd (xu σ0 6 5 ((xi σ0 6 5) + (1 : Int32))) fun σ5 =>
      ob (fT_next σ5) fun σ8 =>
      ob2 (F_isChain σ8 (0 : Int32)) fun r10 σ11 =>
      if r10 = 0 then (
        some ((0 : Int32), σ11))
      else (
        ob (fT_sign σ11) fun r14 =>
        if r14 = (41 : Int32) then (
          bnd (xu σ11 6 5 ((xi σ11 6 5) - (1 : Int32))) fun σ16 =>
          ob (fT_next σ16) fun σ19 =>
          some ((1 : Int32), σ19))
        else (
          some ((0 : Int32), σ11)))))
  else (
    some ((0 : Int32), σ0))

set_option maxHeartbeats 4000000 in
set_option maxRecDepth 100000 in
theorem cR_isBracket (l : Launch) (G : XG) (d : Nat) (F_isChain : XS → Int32 → Option (Int32 × XS)) (hF_isChain : ∀ (σ : XS) (x1 : Int32) (r : Int32) (σ1 : XS), F_isChain σ x1 = some (r, σ1) → ∀ sz, Met l yX3_isChain (Cond.code yX3_isChain cX3_isChain 5 (some .boolean) :: Tw) (rmR d) (xP G σ sz [.ref (xA G 7), .int x1]) (xQi G σ sz σ1 r) 0 0 (va_A (xW G σ) sz)) (σ0 : XS) {r : Int32} {σr : XS} (h : fR_isBracket F_isChain σ0 = some (r, σr)) : ∀ sz, Met l yX3_isBracket (Cond.code yX3_isBracket cX3_isBracket 1 (some .boolean) :: Tw) (rmR (d + 1)) (xP G σ0 sz [.ref (xA G 7)]) (xQi G σ0 sz σr r) 0 0 (va_A (xW G σ0) sz) := by
  intro sz
  refine Met.ofW (cc := cX3_isBracket) (maxL := 1) (ret := (some .boolean)) (by decide) rfl ?_
  intro p e s m args below meth c s₁ Bd hml hv
  obtain ⟨hC, hr⟩ := jC_of Bd hml
  obtain ⟨rfl, rfl, hH⟩ := x_enter hv
  have hC : jC p s m _ meth c cX3_isBracket 1 RX3 := hC
  have hx := hC.1.1
  have hb := hC.1.2.1
  have hown := hC.1.2.2.2.1
  have hts := hC.1.2.2.2.2
  have hl := lv_entry ([.ref (xA G 7)]) (n := 1) (Nat.le_of_ble_eq_true rfl)
  rw [lg_entry_eq]
  generalize (lg_sl ([.ref (xA G 7)]) ++ List.replicate (1 - (lg_sl ([.ref (xA G 7)])).length) Slot.unset).toArray = ls at hl ⊢
  have hl : lv_has ls 1 [(0, .ref (xA G 7))] := hl
  unfold fR_isBracket at h
  refine W_nm (fun H locs eH eL => ?_)
  have hH : xH G s (va_A (xW G σ0) s.heap.size) σ0 H locs := by rw [eH, eL]; exact hH
  show W p l e (rmR (d + 1)) s m _ below meth c H locs 0 0 _ (F0 m 0 ls [])
  refine lv_aload_n hx hb dX3_isBracket_0 rfl (lv_at hl 0 rfl) ?_
  refine x_get (C := RX3) (T := TX3) (N := 7) (v := .ref (xA G 6)) hC hH (xe_R G σ0) rfl wyX3 0 (by decide) wfX3_33 rfl rfl dX3_isBracket_1 ?_
  obtain ⟨r2, h1, h⟩ := ob_some h
  refine x_calli (vw := (RX6, TX6, 5)) (As := []) (rest := []) (cT_sign l G σ0  h1) hC hH hl (xe_T G σ0) rfl (cwV 0 hts (gV wmX3_76 wvX6_sign) rfl rfl rfl hdX6_sign (rmR_c d (Nat.le_of_ble_eq_true rfl) (Nat.le_of_ble_eq_true rfl))) rfl rfl (Nat.le_of_ble_eq_true rfl) ⟨Nat.zero_le _, Nat.zero_le _⟩ dX3_isBracket_4 (fun H locs hH => ?_)
  refine lv_bipush (v := 40) hx hb dX3_isBracket_7 (by decide) ?_
  refine lv_icmp_ne (tgt := 21) hx hb dX3_isBracket_9 (by decide) (fun c3 => ?_) (fun c3 => ?_)
  · have h := ite_f c3 h
    refine lv_iconst (v := 0) hx hb dX3_isBracket_21 (by decide) ?_
    obtain ⟨rfl, rfl⟩ := some_i2 h
    exact x_iret (v := 0) hC hH hr (by decide) dX3_isBracket_22
  · have h := ite_t c3 h
    refine lv_aload_n hx hb dX3_isBracket_12 rfl (lv_at hl 0 rfl) ?_
    refine x_get (C := RX3) (T := TX3) (N := 7) (v := .int (xi σ0 6 5)) hC hH (xe_R G σ0) rfl wyX3 5 (by decide) wfX3_27 rfl rfl dX3_isBracket_13 ?_
    refine lv_bipush (v := 8) hx hb dX3_isBracket_16 (by decide) ?_
    refine lv_icmp_ne (tgt := 23) hx hb dX3_isBracket_18 (by decide) (fun c4 => ?_) (fun c4 => ?_)
    · have h := ite_f c4 h
      refine lv_aload_n hx hb dX3_isBracket_23 rfl (lv_at hl 0 rfl) ?_
      refine lv_dup hx hb dX3_isBracket_24 rfl ?_
      refine x_get (C := RX3) (T := TX3) (N := 7) (v := .int (xi σ0 6 5)) hC hH (xe_R G σ0) rfl wyX3 5 (by decide) wfX3_27 rfl rfl dX3_isBracket_25 ?_
      refine lv_iconst (v := 1) hx hb dX3_isBracket_28 (by decide) ?_
      refine lv_iadd hx hb dX3_isBracket_29 ?_
      obtain ⟨σ5, e6, h⟩ := bnd_some h
      refine x_put (C := RX3) (T := TX3) (N := 7) (ty := .int) (v := .int ((xi σ0 6 5) + (1 : Int32))) hC hH (xe_R G σ0) rfl wyX3 tyX3_ok nmX3 5 (by decide) wfX3_27 rfl rfl (by decide +kernel) rfl rfl (Nat.le_of_ble_eq_true rfl) e6 (xs_R_5 G σ0 _) dX3_isBracket_30 (fun H locs hH => ?_)
      refine lv_aload_n hx hb dX3_isBracket_33 rfl (lv_at hl 0 rfl) ?_
      refine x_get (C := RX3) (T := TX3) (N := 7) (v := .ref (xA G 6)) hC hH (xe_R G σ5) rfl wyX3 0 (by decide) wfX3_33 rfl rfl dX3_isBracket_34 ?_
      obtain ⟨σ8, h7, h⟩ := ob_some h
      refine x_callv (vw := (RX6, TX6, 5)) (As := []) (rest := []) (cT_next l G σ5  h7) hC hH hl (xe_T G σ5) rfl (cwV 0 hts (gV wmX3_70 wvX6_next) rfl rfl rfl hdX6_next (rmR_c d (Nat.le_of_ble_eq_true rfl) (Nat.le_of_ble_eq_true rfl))) rfl rfl (Nat.le_of_ble_eq_true rfl) ⟨Nat.zero_le _, Nat.zero_le _⟩ dX3_isBracket_37 (fun H locs hH => ?_)
      refine lv_aload_n hx hb dX3_isBracket_40 rfl (lv_at hl 0 rfl) ?_
      refine lv_iconst (v := 0) hx hb dX3_isBracket_41 (by decide) ?_
      obtain ⟨r10, σ11, h9, h⟩ := ob2_some h
      refine x_calli (vw := (RX3, TX3, 7)) (As := [.int (0 : Int32)]) (rest := []) (hF_isChain σ8 (0 : Int32) _ _ h9) hC hH hl (xe_R G σ8) rfl (cwV 1 hts (gV wmX3_44 wvX3_isChain) rfl rfl rfl hdX3_isChain (rmR_s d (Nat.le_of_ble_eq_true rfl))) rfl rfl (Nat.le_of_ble_eq_true rfl) ⟨Nat.zero_le _, Nat.zero_le _⟩ dX3_isBracket_42 (fun H locs hH => ?_)
      refine lv_if_eq (tgt := 60) hx hb dX3_isBracket_45 (by decide) (fun c12 => ?_) (fun c12 => ?_)
      · have h := ite_t c12 h
        refine lv_iconst (v := 0) hx hb dX3_isBracket_60 (by decide) ?_
        obtain ⟨rfl, rfl⟩ := some_i2 h
        exact x_iret (v := 0) hC hH hr (by decide) dX3_isBracket_61
      · have h := ite_f c12 h
        refine lv_aload_n hx hb dX3_isBracket_48 rfl (lv_at hl 0 rfl) ?_
        refine x_get (C := RX3) (T := TX3) (N := 7) (v := .ref (xA G 6)) hC hH (xe_R G σ11) rfl wyX3 0 (by decide) wfX3_33 rfl rfl dX3_isBracket_49 ?_
        obtain ⟨r14, h13, h⟩ := ob_some h
        refine x_calli (vw := (RX6, TX6, 5)) (As := []) (rest := []) (cT_sign l G σ11  h13) hC hH hl (xe_T G σ11) rfl (cwV 0 hts (gV wmX3_76 wvX6_sign) rfl rfl rfl hdX6_sign (rmR_c d (Nat.le_of_ble_eq_true rfl) (Nat.le_of_ble_eq_true rfl))) rfl rfl (Nat.le_of_ble_eq_true rfl) ⟨Nat.zero_le _, Nat.zero_le _⟩ dX3_isBracket_52 (fun H locs hH => ?_)
        refine lv_bipush (v := 41) hx hb dX3_isBracket_55 (by decide) ?_
        refine lv_icmp_eq (tgt := 62) hx hb dX3_isBracket_57 (by decide) (fun c15 => ?_) (fun c15 => ?_)
        · have h := ite_t c15 h
          refine lv_aload_n hx hb dX3_isBracket_62 rfl (lv_at hl 0 rfl) ?_
          refine lv_dup hx hb dX3_isBracket_63 rfl ?_
          refine x_get (C := RX3) (T := TX3) (N := 7) (v := .int (xi σ11 6 5)) hC hH (xe_R G σ11) rfl wyX3 5 (by decide) wfX3_27 rfl rfl dX3_isBracket_64 ?_
          refine lv_iconst (v := 1) hx hb dX3_isBracket_67 (by decide) ?_
          refine lv_isub hx hb dX3_isBracket_68 ?_
          obtain ⟨σ16, e17, h⟩ := bnd_some h
          refine x_put (C := RX3) (T := TX3) (N := 7) (ty := .int) (v := .int ((xi σ11 6 5) - (1 : Int32))) hC hH (xe_R G σ11) rfl wyX3 tyX3_ok nmX3 5 (by decide) wfX3_27 rfl rfl (by decide +kernel) rfl rfl (Nat.le_of_ble_eq_true rfl) e17 (xs_R_5 G σ11 _) dX3_isBracket_69 (fun H locs hH => ?_)
          refine lv_aload_n hx hb dX3_isBracket_72 rfl (lv_at hl 0 rfl) ?_
          refine x_get (C := RX3) (T := TX3) (N := 7) (v := .ref (xA G 6)) hC hH (xe_R G σ16) rfl wyX3 0 (by decide) wfX3_33 rfl rfl dX3_isBracket_73 ?_
          obtain ⟨σ19, h18, h⟩ := ob_some h
          refine x_callv (vw := (RX6, TX6, 5)) (As := []) (rest := []) (cT_next l G σ16  h18) hC hH hl (xe_T G σ16) rfl (cwV 0 hts (gV wmX3_70 wvX6_next) rfl rfl rfl hdX6_next (rmR_c d (Nat.le_of_ble_eq_true rfl) (Nat.le_of_ble_eq_true rfl))) rfl rfl (Nat.le_of_ble_eq_true rfl) ⟨Nat.zero_le _, Nat.zero_le _⟩ dX3_isBracket_76 (fun H locs hH => ?_)
          refine lv_iconst (v := 1) hx hb dX3_isBracket_79 (by decide) ?_
          obtain ⟨rfl, rfl⟩ := some_i2 h
          exact x_iret (v := 1) hC hH hr (by decide) dX3_isBracket_80
        · have h := ite_f c15 h
          refine lv_iconst (v := 0) hx hb dX3_isBracket_60 (by decide) ?_
          obtain ⟨rfl, rfl⟩ := some_i2 h
          exact x_iret (v := 0) hC hH hr (by decide) dX3_isBracket_61
    · have h := ite_t c4 h
      refine lv_iconst (v := 0) hx hb dX3_isBracket_21 (by decide) ?_
      obtain ⟨rfl, rfl⟩ := some_i2 h
      exact x_iret (v := 0) hC hH hr (by decide) dX3_isBracket_22
def gR : Nat → Nat → XS → Int32 → Option (Int32 × XS)
  | 0, _, _, _ => none
  | d + 1, 0, σ, x => fR_isChain (gR d 0) (fun z => gR d 1 z 0) σ x
  | d + 1, 1, σ, _ => fR_isPiece (fun z => gR d 2 z 0) (fun z => gR d 3 z 0) σ
  | d + 1, 2, σ, _ => fR_isNot (fun z => gR d 1 z 0) σ
  | d + 1, 3, σ, _ => fR_isBracket (gR d 0) σ
  | _ + 1, _, _, _ => none
def gR_isChain (d : Nat) (σ : XS) (x : Int32) : Option (Int32 × XS) := gR d 0 σ x
def gR_isPiece (d : Nat) (σ : XS) : Option (Int32 × XS) := gR d 1 σ 0
def gR_isNot (d : Nat) (σ : XS) : Option (Int32 × XS) := gR d 2 σ 0
def gR_isBracket (d : Nat) (σ : XS) : Option (Int32 × XS) := gR d 3 σ 0
theorem cGR_all (l : Launch) (G : XG) : ∀ d : Nat, (∀ (σ : XS) (x1 : Int32) (r : Int32) (σ1 : XS), gR d 0 σ x1 = some (r, σ1) → ∀ sz, Met l yX3_isChain (Cond.code yX3_isChain cX3_isChain 5 (some .boolean) :: Tw) (rmR d) (xP G σ sz [.ref (xA G 7), .int x1]) (xQi G σ sz σ1 r) 0 0 (va_A (xW G σ) sz)) ∧ (∀ (σ : XS) (r : Int32) (σ1 : XS), gR d 1 σ 0 = some (r, σ1) → ∀ sz, Met l yX3_isPiece (Cond.code yX3_isPiece cX3_isPiece 1 (some .boolean) :: Tw) (rmR d) (xP G σ sz [.ref (xA G 7)]) (xQi G σ sz σ1 r) 0 0 (va_A (xW G σ) sz)) ∧ (∀ (σ : XS) (r : Int32) (σ1 : XS), gR d 2 σ 0 = some (r, σ1) → ∀ sz, Met l yX3_isNot (Cond.code yX3_isNot cX3_isNot 1 (some .boolean) :: Tw) (rmR d) (xP G σ sz [.ref (xA G 7)]) (xQi G σ sz σ1 r) 0 0 (va_A (xW G σ) sz)) ∧ (∀ (σ : XS) (r : Int32) (σ1 : XS), gR d 3 σ 0 = some (r, σ1) → ∀ sz, Met l yX3_isBracket (Cond.code yX3_isBracket cX3_isBracket 1 (some .boolean) :: Tw) (rmR d) (xP G σ sz [.ref (xA G 7)]) (xQi G σ sz σ1 r) 0 0 (va_A (xW G σ) sz)) := by
  intro d
  induction d with
  | zero => exact ⟨(fun σ x1 r σ1 h => by have h2 : none = some (r, σ1) := h; cases h2), (fun σ r σ1 h => by have h2 : none = some (r, σ1) := h; cases h2), (fun σ r σ1 h => by have h2 : none = some (r, σ1) := h; cases h2), (fun σ r σ1 h => by have h2 : none = some (r, σ1) := h; cases h2)⟩
  | succ d ih =>
    obtain ⟨i0, i1, i2, i3⟩ := ih
    exact ⟨(fun σ x1 r σ1 h => cR_isChain l G d (gR d 0) (fun z => gR d 1 z 0) i0 i1 σ x1 h), (fun σ r σ1 h => cR_isPiece l G d (fun z => gR d 2 z 0) (fun z => gR d 3 z 0) i2 i3 σ h), (fun σ r σ1 h => cR_isNot l G d (fun z => gR d 1 z 0) i1 σ h), (fun σ r σ1 h => cR_isBracket l G d (gR d 0) i0 σ h)⟩
theorem cGR_isChain (l : Launch) (G : XG) (d : Nat) (σ : XS) (x1 : Int32) {r : Int32} {σ1 : XS} (h : gR_isChain d σ x1 = some (r, σ1)) : ∀ sz, Met l yX3_isChain (Cond.code yX3_isChain cX3_isChain 5 (some .boolean) :: Tw) (rmR d) (xP G σ sz [.ref (xA G 7), .int x1]) (xQi G σ sz σ1 r) 0 0 (va_A (xW G σ) sz) := (cGR_all l G d).1 σ x1 r σ1 h
theorem cGR_isPiece (l : Launch) (G : XG) (d : Nat) (σ : XS) {r : Int32} {σ1 : XS} (h : gR_isPiece d σ = some (r, σ1)) : ∀ sz, Met l yX3_isPiece (Cond.code yX3_isPiece cX3_isPiece 1 (some .boolean) :: Tw) (rmR d) (xP G σ sz [.ref (xA G 7)]) (xQi G σ sz σ1 r) 0 0 (va_A (xW G σ) sz) := (cGR_all l G d).2.1 σ r σ1 h
theorem cGR_isNot (l : Launch) (G : XG) (d : Nat) (σ : XS) {r : Int32} {σ1 : XS} (h : gR_isNot d σ = some (r, σ1)) : ∀ sz, Met l yX3_isNot (Cond.code yX3_isNot cX3_isNot 1 (some .boolean) :: Tw) (rmR d) (xP G σ sz [.ref (xA G 7)]) (xQi G σ sz σ1 r) 0 0 (va_A (xW G σ) sz) := (cGR_all l G d).2.2.1 σ r σ1 h
theorem cGR_isBracket (l : Launch) (G : XG) (d : Nat) (σ : XS) {r : Int32} {σ1 : XS} (h : gR_isBracket d σ = some (r, σ1)) : ∀ sz, Met l yX3_isBracket (Cond.code yX3_isBracket cX3_isBracket 1 (some .boolean) :: Tw) (rmR d) (xP G σ sz [.ref (xA G 7)]) (xQi G σ sz σ1 r) 0 0 (va_A (xW G σ) sz) := (cGR_all l G d).2.2.2 σ r σ1 h
