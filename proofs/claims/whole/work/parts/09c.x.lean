def rmJ_coder_7d493 : Room := { frames := 0, cells := 0, slots := 0, locals := 0 }
theorem hdJ0_coder_7d493 : yJ0_coder_7d493.cls = RJ0 ∧ yJ0_coder_7d493.cls ≠ "java/lang/invoke/MethodHandle" ∧ yJ0_coder_7d493.cls ≠ "java/lang/invoke/VarHandle" ∧ (parseMethodDescriptor yJ0_coder_7d493.desc).map (fun d => d.parameters.length) = some 0 := by decide +kernel

def fJ_coder_7d493 (σ0 : XS) (si : Nat) : Option (Int32) :=
  some (0 : Int32)

set_option maxHeartbeats 4000000 in
set_option maxRecDepth 100000 in
theorem cJ_coder_7d493 (l : Launch) (G : XG) (σ0 : XS) (si : Nat) (hsi : si < 6) {r : Int32} (h : fJ_coder_7d493 σ0 si = some r) : ∀ sz, Met l yJ0_coder_7d493 (Cond.code yJ0_coder_7d493 cJ0_coder_7d493 1 (some .byte) :: Tw) rmJ_coder_7d493 (xP G σ0 sz [.ref (xaK G si)]) (xQi G σ0 sz σ0 r) 0 0 (va_A (xW G σ0) sz) := by
  intro sz
  refine Met.ofW (cc := cJ0_coder_7d493) (maxL := 1) (ret := (some .byte)) (by decide) rfl ?_
  intro p e s m args below meth c s₁ Bd hml hv
  obtain ⟨hC, hr⟩ := jC_of Bd hml
  obtain ⟨rfl, rfl, hH⟩ := x_enter hv
  have hC : jC p s m _ meth c cJ0_coder_7d493 1 RJ0 := hC
  have hx := hC.1.1
  have hb := hC.1.2.1
  have hown := hC.1.2.2.2.1
  have hts := hC.1.2.2.2.2
  have hl := lv_entry ([.ref (xaK G si)]) (n := 1) (Nat.le_of_ble_eq_true rfl)
  rw [lg_entry_eq]
  generalize (lg_sl ([.ref (xaK G si)]) ++ List.replicate (1 - (lg_sl ([.ref (xaK G si)])).length) Slot.unset).toArray = ls at hl ⊢
  have hl : lv_has ls 1 [(0, .ref (xaK G si))] := hl
  unfold fJ_coder_7d493 at h
  refine W_nm (fun H locs eH eL => ?_)
  have hH : xH G s (va_A (xW G σ0) s.heap.size) σ0 H locs := by rw [eH, eL]; exact hH
  show W p l e rmJ_coder_7d493 s m _ below meth c H locs 0 0 _ (F0 m 0 ls [])
  refine va_gets (v := .int 1) hx hb hH.2.2.2.2.2.2.2.2.2.1 hH.2.2.1 hown (hts _ wfJ0_38) (fun _ h9 => h9) dJ0_coder_7d493_0 ?_
  refine lv_if_eq (tgt := 13) hx hb dJ0_coder_7d493_3 (by decide) (fun c9 => absurd c9 (by decide)) (fun _ => ?_)
  refine lv_aload_n hx hb dJ0_coder_7d493_6 rfl (lv_at hl 0 rfl) ?_
  refine vk_getf hx hb (hH.2.2.2.2.2.2.2.1.1 si hsi).2.1 hH.2.2.1 hown (hts _ wfJ0_15) (fun _ h9 => h9) dJ0_coder_7d493_7 ?_
  refine lv_goto (tgt := 14) hx hb dJ0_coder_7d493_10 (by decide) ?_
  obtain rfl := some_i1 h
  exact x_iret (v := 0) hC hH hr (by decide) dJ0_coder_7d493_14

def rmJ_length_8abf5 : Room := { frames := 1, cells := 0, slots := 0, locals := 20 }
theorem hdJ0_length_8abf5 : yJ0_length_8abf5.cls = RJ0 ∧ yJ0_length_8abf5.cls ≠ "java/lang/invoke/MethodHandle" ∧ yJ0_length_8abf5.cls ≠ "java/lang/invoke/VarHandle" ∧ (parseMethodDescriptor yJ0_length_8abf5.desc).map (fun d => d.parameters.length) = some 0 := by decide +kernel

def fJ_length_8abf5 (σ0 : XS) (si : Nat) : Option (Int32) :=
  ob (fJ_coder_7d493 σ0 si) fun r2 =>
  some ((Int32.ofNat (xSl.getD si 0)) >>> (r2 &&& 31))

set_option maxHeartbeats 4000000 in
set_option maxRecDepth 100000 in
theorem cJ_length_8abf5 (l : Launch) (G : XG) (σ0 : XS) (si : Nat) (hsi : si < 6) {r : Int32} (h : fJ_length_8abf5 σ0 si = some r) : ∀ sz, Met l yJ0_length_8abf5 (Cond.code yJ0_length_8abf5 cJ0_length_8abf5 1 (some .int) :: Tw) rmJ_length_8abf5 (xP G σ0 sz [.ref (xaK G si)]) (xQi G σ0 sz σ0 r) 0 0 (va_A (xW G σ0) sz) := by
  intro sz
  refine Met.ofW (cc := cJ0_length_8abf5) (maxL := 1) (ret := (some .int)) (by decide) rfl ?_
  intro p e s m args below meth c s₁ Bd hml hv
  obtain ⟨hC, hr⟩ := jC_of Bd hml
  obtain ⟨rfl, rfl, hH⟩ := x_enter hv
  have hC : jC p s m _ meth c cJ0_length_8abf5 1 RJ0 := hC
  have hx := hC.1.1
  have hb := hC.1.2.1
  have hown := hC.1.2.2.2.1
  have hts := hC.1.2.2.2.2
  have hl := lv_entry ([.ref (xaK G si)]) (n := 1) (Nat.le_of_ble_eq_true rfl)
  rw [lg_entry_eq]
  generalize (lg_sl ([.ref (xaK G si)]) ++ List.replicate (1 - (lg_sl ([.ref (xaK G si)])).length) Slot.unset).toArray = ls at hl ⊢
  have hl : lv_has ls 1 [(0, .ref (xaK G si))] := hl
  unfold fJ_length_8abf5 at h
  refine W_nm (fun H locs eH eL => ?_)
  have hH : xH G s (va_A (xW G σ0) s.heap.size) σ0 H locs := by rw [eH, eL]; exact hH
  show W p l e rmJ_length_8abf5 s m _ below meth c H locs 0 0 _ (F0 m 0 ls [])
  refine lv_aload_n hx hb dJ0_length_8abf5_0 rfl (lv_at hl 0 rfl) ?_
  refine vk_getf hx hb (hH.2.2.2.2.2.2.2.1.1 si hsi).2.2.1 hH.2.2.1 hown (hts _ wfJ0_9) (fun _ h9 => h9) dJ0_length_8abf5_1 ?_
  refine va_tlen hx hb (hH.2.2.2.2.2.2.2.1.1 si hsi).2.2.2 hH.2.2.1 rfl dJ0_length_8abf5_4 ?_
  refine lv_aload_n hx hb dJ0_length_8abf5_5 rfl (lv_at hl 0 rfl) ?_
  obtain ⟨r2, h1, h⟩ := ob_some h
  refine x_callS (As := []) (rest := [.int (Int32.ofNat (xSl.getD si 0))]) (cJ_coder_7d493 l G σ0 si hsi h1) hC hH hl hsi (cwV 0 hts (gV wmJ0_335 wvJ0_coder_7d493) rfl rfl rfl hdJ0_coder_7d493 ⟨Nat.le_of_ble_eq_true rfl, Nat.le_of_ble_eq_true rfl⟩) rfl rfl (Nat.le_of_ble_eq_true rfl) ⟨Nat.zero_le _, Nat.zero_le _⟩ dJ0_length_8abf5_6 (fun H locs hH => ?_)
  refine lv_ishr hx hb dJ0_length_8abf5_9 ?_
  obtain rfl := some_i1 h
  exact x_iret hC hH hr rfl dJ0_length_8abf5_10

def rmJ_isLatin1_aae02 : Room := { frames := 0, cells := 0, slots := 0, locals := 0 }
theorem hdJ0_isLatin1_aae02 : yJ0_isLatin1_aae02.cls = RJ0 ∧ yJ0_isLatin1_aae02.cls ≠ "java/lang/invoke/MethodHandle" ∧ yJ0_isLatin1_aae02.cls ≠ "java/lang/invoke/VarHandle" ∧ (parseMethodDescriptor yJ0_isLatin1_aae02.desc).map (fun d => d.parameters.length) = some 0 := by decide +kernel

def fJ_isLatin1_aae02 (σ0 : XS) (si : Nat) : Option (Int32) :=
  some (1 : Int32)

set_option maxHeartbeats 4000000 in
set_option maxRecDepth 100000 in
theorem cJ_isLatin1_aae02 (l : Launch) (G : XG) (σ0 : XS) (si : Nat) (hsi : si < 6) {r : Int32} (h : fJ_isLatin1_aae02 σ0 si = some r) : ∀ sz, Met l yJ0_isLatin1_aae02 (Cond.code yJ0_isLatin1_aae02 cJ0_isLatin1_aae02 1 (some .boolean) :: Tw) rmJ_isLatin1_aae02 (xP G σ0 sz [.ref (xaK G si)]) (xQi G σ0 sz σ0 r) 0 0 (va_A (xW G σ0) sz) := by
  intro sz
  refine Met.ofW (cc := cJ0_isLatin1_aae02) (maxL := 1) (ret := (some .boolean)) (by decide) rfl ?_
  intro p e s m args below meth c s₁ Bd hml hv
  obtain ⟨hC, hr⟩ := jC_of Bd hml
  obtain ⟨rfl, rfl, hH⟩ := x_enter hv
  have hC : jC p s m _ meth c cJ0_isLatin1_aae02 1 RJ0 := hC
  have hx := hC.1.1
  have hb := hC.1.2.1
  have hown := hC.1.2.2.2.1
  have hts := hC.1.2.2.2.2
  have hl := lv_entry ([.ref (xaK G si)]) (n := 1) (Nat.le_of_ble_eq_true rfl)
  rw [lg_entry_eq]
  generalize (lg_sl ([.ref (xaK G si)]) ++ List.replicate (1 - (lg_sl ([.ref (xaK G si)])).length) Slot.unset).toArray = ls at hl ⊢
  have hl : lv_has ls 1 [(0, .ref (xaK G si))] := hl
  unfold fJ_isLatin1_aae02 at h
  refine W_nm (fun H locs eH eL => ?_)
  have hH : xH G s (va_A (xW G σ0) s.heap.size) σ0 H locs := by rw [eH, eL]; exact hH
  show W p l e rmJ_isLatin1_aae02 s m _ below meth c H locs 0 0 _ (F0 m 0 ls [])
  refine va_gets (v := .int 1) hx hb hH.2.2.2.2.2.2.2.2.2.1 hH.2.2.1 hown (hts _ wfJ0_38) (fun _ h9 => h9) dJ0_isLatin1_aae02_0 ?_
  refine lv_if_eq (tgt := 17) hx hb dJ0_isLatin1_aae02_3 (by decide) (fun c9 => absurd c9 (by decide)) (fun _ => ?_)
  refine lv_aload_n hx hb dJ0_isLatin1_aae02_6 rfl (lv_at hl 0 rfl) ?_
  refine vk_getf hx hb (hH.2.2.2.2.2.2.2.1.1 si hsi).2.1 hH.2.2.1 hown (hts _ wfJ0_15) (fun _ h9 => h9) dJ0_isLatin1_aae02_7 ?_
  refine lv_if_ne (tgt := 17) hx hb dJ0_isLatin1_aae02_10 (by decide) (fun c9 => absurd c9 (by decide)) (fun _ => ?_)
  refine lv_iconst (v := 1) hx hb dJ0_isLatin1_aae02_13 (by decide) ?_
  refine lv_goto (tgt := 18) hx hb dJ0_isLatin1_aae02_14 (by decide) ?_
  obtain rfl := some_i1 h
  exact x_iret (v := 1) hC hH hr (by decide) dJ0_isLatin1_aae02_18

def rmJ_checkIndex_8e157 : Room := { frames := 0, cells := 0, slots := 0, locals := 0 }
theorem hdJ3_checkIndex_8e157 : yJ3_checkIndex_8e157.cls ≠ "java/lang/invoke/MethodHandle" ∧ yJ3_checkIndex_8e157.cls ≠ "java/lang/invoke/VarHandle" ∧ (parseMethodDescriptor yJ3_checkIndex_8e157.desc).map (fun d => d.parameters.length) = some 3 := by decide +kernel

def fJ_checkIndex_8e157 (σ0 : XS) (x0 : Int32) (x1 : Int32) : Option (Int32) :=
  if x0 < 0 then (
    none)
  else (
    if x0 < x1 then (
      some x0)
    else (
      none))

set_option maxHeartbeats 4000000 in
set_option maxRecDepth 100000 in
theorem cJ_checkIndex_8e157 (l : Launch) (G : XG) (σ0 : XS) (x0 : Int32) (x1 : Int32) (p2 : Option Nat) {r : Int32} (h : fJ_checkIndex_8e157 σ0 x0 x1 = some r) : ∀ sz, Met l yJ3_checkIndex_8e157 (Cond.code yJ3_checkIndex_8e157 cJ3_checkIndex_8e157 3 (some .int) :: Tw) rmJ_checkIndex_8e157 (xP G σ0 sz [.int x0, .int x1, va_rf p2]) (xQi G σ0 sz σ0 r) 0 0 (va_A (xW G σ0) sz) := by
  intro sz
  rcases p2 with _ | p2
  · show Met l _ _ _ (xP G σ0 sz [.int x0, .int x1, .null]) _ 0 0 _
    refine Met.ofW (cc := cJ3_checkIndex_8e157) (maxL := 3) (ret := (some .int)) (by decide) rfl ?_
    intro p e s m args below meth c s₁ Bd hml hv
    obtain ⟨hC, hr⟩ := jC_of Bd hml
    obtain ⟨rfl, rfl, hH⟩ := x_enter hv
    have hC : jC p s m _ meth c cJ3_checkIndex_8e157 3 RJ3 := hC
    have hx := hC.1.1
    have hb := hC.1.2.1
    have hown := hC.1.2.2.2.1
    have hts := hC.1.2.2.2.2
    have hl := lv_entry ([.int x0, .int x1, .null]) (n := 3) (Nat.le_of_ble_eq_true rfl)
    rw [lg_entry_eq]
    generalize (lg_sl ([.int x0, .int x1, .null]) ++ List.replicate (3 - (lg_sl ([.int x0, .int x1, .null])).length) Slot.unset).toArray = ls at hl ⊢
    have hl : lv_has ls 3 [(0, .int x0), (1, .int x1), (2, .null)] := hl
    unfold fJ_checkIndex_8e157 at h
    refine W_nm (fun H locs eH eL => ?_)
    have hH : xH G s (va_A (xW G σ0) s.heap.size) σ0 H locs := by rw [eH, eL]; exact hH
    show W p l e rmJ_checkIndex_8e157 s m _ below meth c H locs 0 0 _ (F0 m 0 ls [])
    refine lv_iload_n hx hb dJ3_checkIndex_8e157_0 rfl (lv_at hl 0 rfl) ?_
    refine lv_if_lt (tgt := 9) hx hb dJ3_checkIndex_8e157_1 (by decide) (fun c1 => ?_) (fun c1 => ?_)
    · have h := ite_t c1 h
      refine lv_aload_nN hx hb dJ3_checkIndex_8e157_9 rfl (lv_at hl 2 rfl) ?_
      refine lv_iload_n hx hb dJ3_checkIndex_8e157_10 rfl (lv_at hl 0 rfl) ?_
      refine lv_iload_n hx hb dJ3_checkIndex_8e157_11 rfl (lv_at hl 1 rfl) ?_
      cases h
    · have h := ite_f c1 h
      refine lv_iload_n hx hb dJ3_checkIndex_8e157_4 rfl (lv_at hl 0 rfl) ?_
      refine lv_iload_n hx hb dJ3_checkIndex_8e157_5 rfl (lv_at hl 1 rfl) ?_
      refine lv_icmp_lt (tgt := 16) hx hb dJ3_checkIndex_8e157_6 (by decide) (fun c2 => ?_) (fun c2 => ?_)
      · have h := ite_t c2 h
        refine lv_iload_n hx hb dJ3_checkIndex_8e157_16 rfl (lv_at hl 0 rfl) ?_
        obtain rfl := some_i1 h
        exact x_iret hC hH hr rfl dJ3_checkIndex_8e157_17
      · have h := ite_f c2 h
        refine lv_aload_nN hx hb dJ3_checkIndex_8e157_9 rfl (lv_at hl 2 rfl) ?_
        refine lv_iload_n hx hb dJ3_checkIndex_8e157_10 rfl (lv_at hl 0 rfl) ?_
        refine lv_iload_n hx hb dJ3_checkIndex_8e157_11 rfl (lv_at hl 1 rfl) ?_
        cases h
  · show Met l _ _ _ (xP G σ0 sz [.int x0, .int x1, .ref p2]) _ 0 0 _
    refine Met.ofW (cc := cJ3_checkIndex_8e157) (maxL := 3) (ret := (some .int)) (by decide) rfl ?_
    intro p e s m args below meth c s₁ Bd hml hv
    obtain ⟨hC, hr⟩ := jC_of Bd hml
    obtain ⟨rfl, rfl, hH⟩ := x_enter hv
    have hC : jC p s m _ meth c cJ3_checkIndex_8e157 3 RJ3 := hC
    have hx := hC.1.1
    have hb := hC.1.2.1
    have hown := hC.1.2.2.2.1
    have hts := hC.1.2.2.2.2
    have hl := lv_entry ([.int x0, .int x1, .ref p2]) (n := 3) (Nat.le_of_ble_eq_true rfl)
    rw [lg_entry_eq]
    generalize (lg_sl ([.int x0, .int x1, .ref p2]) ++ List.replicate (3 - (lg_sl ([.int x0, .int x1, .ref p2])).length) Slot.unset).toArray = ls at hl ⊢
    have hl : lv_has ls 3 [(0, .int x0), (1, .int x1), (2, .ref p2)] := hl
    unfold fJ_checkIndex_8e157 at h
    refine W_nm (fun H locs eH eL => ?_)
    have hH : xH G s (va_A (xW G σ0) s.heap.size) σ0 H locs := by rw [eH, eL]; exact hH
    show W p l e rmJ_checkIndex_8e157 s m _ below meth c H locs 0 0 _ (F0 m 0 ls [])
    refine lv_iload_n hx hb dJ3_checkIndex_8e157_0 rfl (lv_at hl 0 rfl) ?_
    refine lv_if_lt (tgt := 9) hx hb dJ3_checkIndex_8e157_1 (by decide) (fun c1 => ?_) (fun c1 => ?_)
    · have h := ite_t c1 h
      refine lv_aload_n hx hb dJ3_checkIndex_8e157_9 rfl (lv_at hl 2 rfl) ?_
      refine lv_iload_n hx hb dJ3_checkIndex_8e157_10 rfl (lv_at hl 0 rfl) ?_
      refine lv_iload_n hx hb dJ3_checkIndex_8e157_11 rfl (lv_at hl 1 rfl) ?_
      cases h
    · have h := ite_f c1 h
      refine lv_iload_n hx hb dJ3_checkIndex_8e157_4 rfl (lv_at hl 0 rfl) ?_
      refine lv_iload_n hx hb dJ3_checkIndex_8e157_5 rfl (lv_at hl 1 rfl) ?_
      refine lv_icmp_lt (tgt := 16) hx hb dJ3_checkIndex_8e157_6 (by decide) (fun c2 => ?_) (fun c2 => ?_)
      · have h := ite_t c2 h
        refine lv_iload_n hx hb dJ3_checkIndex_8e157_16 rfl (lv_at hl 0 rfl) ?_
        obtain rfl := some_i1 h
        exact x_iret hC hH hr rfl dJ3_checkIndex_8e157_17
      · have h := ite_f c2 h
        refine lv_aload_n hx hb dJ3_checkIndex_8e157_9 rfl (lv_at hl 2 rfl) ?_
        refine lv_iload_n hx hb dJ3_checkIndex_8e157_10 rfl (lv_at hl 0 rfl) ?_
        refine lv_iload_n hx hb dJ3_checkIndex_8e157_11 rfl (lv_at hl 1 rfl) ?_
        cases h

def rmJ_checkIndex_df160 : Room := { frames := 1, cells := 0, slots := 0, locals := 22 }
theorem hdJ0_checkIndex_df160 : yJ0_checkIndex_df160.cls ≠ "java/lang/invoke/MethodHandle" ∧ yJ0_checkIndex_df160.cls ≠ "java/lang/invoke/VarHandle" ∧ (parseMethodDescriptor yJ0_checkIndex_df160.desc).map (fun d => d.parameters.length) = some 2 := by decide +kernel

def fJ_checkIndex_df160 (σ0 : XS) (x0 : Int32) (x1 : Int32) : Option (XS) :=
  ob (fJ_checkIndex_8e157 σ0 x0 x1) fun r4 =>
  some σ0

set_option maxHeartbeats 4000000 in
set_option maxRecDepth 100000 in
theorem cJ_checkIndex_df160 (l : Launch) (G : XG) (σ0 : XS) (x0 : Int32) (x1 : Int32) {σr : XS} (h : fJ_checkIndex_df160 σ0 x0 x1 = some σr) : ∀ sz, Met l yJ0_checkIndex_df160 (Cond.code yJ0_checkIndex_df160 cJ0_checkIndex_df160 2 none :: Tw) rmJ_checkIndex_df160 (xP G σ0 sz [.int x0, .int x1]) (xQv G σ0 sz σr) 0 0 (va_A (xW G σ0) sz) := by
  intro sz
  refine Met.ofW (cc := cJ0_checkIndex_df160) (maxL := 2) (ret := (none)) (by decide) rfl ?_
  intro p e s m args below meth c s₁ Bd hml hv
  obtain ⟨hC, hr⟩ := jC_of Bd hml
  obtain ⟨rfl, rfl, hH⟩ := x_enter hv
  have hC : jC p s m _ meth c cJ0_checkIndex_df160 2 RJ0 := hC
  have hx := hC.1.1
  have hb := hC.1.2.1
  have hown := hC.1.2.2.2.1
  have hts := hC.1.2.2.2.2
  have hl := lv_entry ([.int x0, .int x1]) (n := 2) (Nat.le_of_ble_eq_true rfl)
  rw [lg_entry_eq]
  generalize (lg_sl ([.int x0, .int x1]) ++ List.replicate (2 - (lg_sl ([.int x0, .int x1])).length) Slot.unset).toArray = ls at hl ⊢
  have hl : lv_has ls 2 [(0, .int x0), (1, .int x1)] := hl
  unfold fJ_checkIndex_df160 at h
  refine W_nm (fun H locs eH eL => ?_)
  have hH : xH G s (va_A (xW G σ0) s.heap.size) σ0 H locs := by rw [eH, eL]; exact hH
  show W p l e rmJ_checkIndex_df160 s m _ below meth c H locs 0 0 _ (F0 m 0 ls [])
  refine lv_iload_n hx hb dJ0_checkIndex_df160_0 rfl (lv_at hl 0 rfl) ?_
  refine lv_iload_n hx hb dJ0_checkIndex_df160_1 rfl (lv_at hl 1 rfl) ?_
  obtain ⟨o1, g2⟩ := zq_opt hH.2.2.2.2.2.2.2.2.2.2
  refine va_gets (v := va_rf o1) hx hb g2 hH.2.2.1 hown (hts _ wfJ0_1053) (fun _ h9 => h9) dJ0_checkIndex_df160_2 ?_
  obtain ⟨r4, h3, h⟩ := ob_some h
  refine x_calls (As := [.int x0, .int x1, va_rf o1]) (rest := []) (cJ_checkIndex_8e157 l G σ0 x0 x1 o1  h3) hC hH hl (va_cwS 3 hts (gS wmJ0_1059 wsJ3_checkIndex_8e157) rfl rfl rfl hdJ3_checkIndex_8e157 ⟨Nat.le_of_ble_eq_true rfl, Nat.le_of_ble_eq_true rfl⟩) rfl rfl (Nat.le_of_ble_eq_true rfl) ⟨Nat.zero_le _, Nat.zero_le _⟩ dJ0_checkIndex_df160_5 (fun H locs hH => ?_)
  refine lv_pop hx hb dJ0_checkIndex_df160_8 rfl ?_
  obtain rfl := some_i1 h
  exact x_vret hC hH hr dJ0_checkIndex_df160_9

def rmJ_charAt_3b067 : Room := { frames := 2, cells := 0, slots := 0, locals := 43 }
theorem hdJ1_charAt_3b067 : yJ1_charAt_3b067.cls ≠ "java/lang/invoke/MethodHandle" ∧ yJ1_charAt_3b067.cls ≠ "java/lang/invoke/VarHandle" ∧ (parseMethodDescriptor yJ1_charAt_3b067.desc).map (fun d => d.parameters.length) = some 2 := by decide +kernel

def fJ_charAt_3b067 (σ0 : XS) (p0 : Nat) (x1 : Int32) : Option (Int32 × XS) :=
  ob (fJ_checkIndex_df160 σ0 x1 (Int32.ofNat (xSl.getD p0 0))) fun σ2 =>
  ck x1 (xSl.getD p0 0) <|
  zc (((((xSb.getD p0 []).getD (x1).toNatClampNeg 0) &&& (255 : Int32))).toUInt32 % 65536).toInt32 <|
  some ((((((xSb.getD p0 []).getD (x1).toNatClampNeg 0) &&& (255 : Int32))).toUInt32 % 65536).toInt32, σ2)

set_option maxHeartbeats 4000000 in
set_option maxRecDepth 100000 in
theorem cJ_charAt_3b067 (l : Launch) (G : XG) (σ0 : XS) (p0 : Nat) (x1 : Int32) (hp0 : p0 < 6) {r : Int32} {σr : XS} (h : fJ_charAt_3b067 σ0 p0 x1 = some (r, σr)) : ∀ sz, Met l yJ1_charAt_3b067 (Cond.code yJ1_charAt_3b067 cJ1_charAt_3b067 2 (some .char) :: Tw) rmJ_charAt_3b067 (xP G σ0 sz [.ref (xaV G p0), .int x1]) (xQi G σ0 sz σr r) 0 0 (va_A (xW G σ0) sz) := by
  intro sz
  refine Met.ofW (cc := cJ1_charAt_3b067) (maxL := 2) (ret := (some .char)) (by decide) rfl ?_
  intro p e s m args below meth c s₁ Bd hml hv
  obtain ⟨hC, hr⟩ := jC_of Bd hml
  obtain ⟨rfl, rfl, hH⟩ := x_enter hv
  have hC : jC p s m _ meth c cJ1_charAt_3b067 2 RJ1 := hC
  have hx := hC.1.1
  have hb := hC.1.2.1
  have hown := hC.1.2.2.2.1
  have hts := hC.1.2.2.2.2
  have hl := lv_entry ([.ref (xaV G p0), .int x1]) (n := 2) (Nat.le_of_ble_eq_true rfl)
  rw [lg_entry_eq]
  generalize (lg_sl ([.ref (xaV G p0), .int x1]) ++ List.replicate (2 - (lg_sl ([.ref (xaV G p0), .int x1])).length) Slot.unset).toArray = ls at hl ⊢
  have hl : lv_has ls 2 [(0, .ref (xaV G p0)), (1, .int x1)] := hl
  unfold fJ_charAt_3b067 at h
  refine W_nm (fun H locs eH eL => ?_)
  have hH : xH G s (va_A (xW G σ0) s.heap.size) σ0 H locs := by rw [eH, eL]; exact hH
  show W p l e rmJ_charAt_3b067 s m _ below meth c H locs 0 0 _ (F0 m 0 ls [])
  refine lv_iload_n hx hb dJ1_charAt_3b067_0 rfl (lv_at hl 1 rfl) ?_
  refine lv_aload_n hx hb dJ1_charAt_3b067_1 rfl (lv_at hl 0 rfl) ?_
  refine va_tlen hx hb (hH.2.2.2.2.2.2.2.1.1 p0 hp0).2.2.2 hH.2.2.1 rfl dJ1_charAt_3b067_2 ?_
  obtain ⟨σ2, h1, h⟩ := ob_some h
  refine x_callsv (As := [.int x1, .int (Int32.ofNat (xSl.getD p0 0))]) (rest := []) (cJ_checkIndex_df160 l G σ0 x1 (Int32.ofNat (xSl.getD p0 0))  h1) hC hH hl (va_cwS 2 hts (gS wmJ1_9 wsJ0_checkIndex_df160) rfl rfl rfl hdJ0_checkIndex_df160 ⟨Nat.le_of_ble_eq_true rfl, Nat.le_of_ble_eq_true rfl⟩) rfl rfl (Nat.le_of_ble_eq_true rfl) ⟨Nat.zero_le _, Nat.zero_le _⟩ dJ1_charAt_3b067_3 (fun H locs hH => ?_)
  refine lv_aload_n hx hb dJ1_charAt_3b067_6 rfl (lv_at hl 0 rfl) ?_
  refine lv_iload_n hx hb dJ1_charAt_3b067_7 rfl (lv_at hl 1 rfl) ?_
  obtain ⟨i3, h⟩ := ck_some h
  refine va_tb hx hb (hH.2.2.2.2.2.2.2.1.1 p0 hp0).2.2.2 hH.2.2.1 i3 rfl dJ1_charAt_3b067_8 ?_
  refine lv_sipush (v := 255) hx hb dJ1_charAt_3b067_9 (by decide) ?_
  refine lv_iand hx hb dJ1_charAt_3b067_12 ?_
  refine lv_i2c hx hb dJ1_charAt_3b067_13 rfl ?_
  obtain ⟨z4, h⟩ := zc_some h
  obtain ⟨rfl, rfl⟩ := some_i2 h
  exact x_iret hC hH hr z4 dJ1_charAt_3b067_14

def rmJ_charAt_5068e : Room := { frames := 4, cells := 0, slots := 0, locals := 85 }
theorem hdJ0_charAt_5068e : yJ0_charAt_5068e.cls = RJ0 ∧ yJ0_charAt_5068e.cls ≠ "java/lang/invoke/MethodHandle" ∧ yJ0_charAt_5068e.cls ≠ "java/lang/invoke/VarHandle" ∧ (parseMethodDescriptor yJ0_charAt_5068e.desc).map (fun d => d.parameters.length) = some 1 := by decide +kernel

def fJ_charAt_5068e (σ0 : XS) (si : Nat) (x1 : Int32) : Option (Int32 × XS) :=
  ob (fJ_isLatin1_aae02 σ0 si) fun r2 =>
  if r2 = 0 then (
    none)
  else (
    ob2 (fJ_charAt_3b067 σ0 si x1) fun r5 σ6 =>
    zc r5 <|
    some (r5, σ6))

set_option maxHeartbeats 4000000 in
set_option maxRecDepth 100000 in
theorem cJ_charAt_5068e (l : Launch) (G : XG) (σ0 : XS) (si : Nat) (x1 : Int32) (hsi : si < 6) {r : Int32} {σr : XS} (h : fJ_charAt_5068e σ0 si x1 = some (r, σr)) : ∀ sz, Met l yJ0_charAt_5068e (Cond.code yJ0_charAt_5068e cJ0_charAt_5068e 2 (some .char) :: Tw) rmJ_charAt_5068e (xP G σ0 sz [.ref (xaK G si), .int x1]) (xQi G σ0 sz σr r) 0 0 (va_A (xW G σ0) sz) := by
  intro sz
  refine Met.ofW (cc := cJ0_charAt_5068e) (maxL := 2) (ret := (some .char)) (by decide) rfl ?_
  intro p e s m args below meth c s₁ Bd hml hv
  obtain ⟨hC, hr⟩ := jC_of Bd hml
  obtain ⟨rfl, rfl, hH⟩ := x_enter hv
  have hC : jC p s m _ meth c cJ0_charAt_5068e 2 RJ0 := hC
  have hx := hC.1.1
  have hb := hC.1.2.1
  have hown := hC.1.2.2.2.1
  have hts := hC.1.2.2.2.2
  have hl := lv_entry ([.ref (xaK G si), .int x1]) (n := 2) (Nat.le_of_ble_eq_true rfl)
  rw [lg_entry_eq]
  generalize (lg_sl ([.ref (xaK G si), .int x1]) ++ List.replicate (2 - (lg_sl ([.ref (xaK G si), .int x1])).length) Slot.unset).toArray = ls at hl ⊢
  have hl : lv_has ls 2 [(0, .ref (xaK G si)), (1, .int x1)] := hl
  unfold fJ_charAt_5068e at h
  refine W_nm (fun H locs eH eL => ?_)
  have hH : xH G s (va_A (xW G σ0) s.heap.size) σ0 H locs := by rw [eH, eL]; exact hH
  show W p l e rmJ_charAt_5068e s m _ below meth c H locs 0 0 _ (F0 m 0 ls [])
  refine lv_aload_n hx hb dJ0_charAt_5068e_0 rfl (lv_at hl 0 rfl) ?_
  obtain ⟨r2, h1, h⟩ := ob_some h
  refine x_callS (As := []) (rest := []) (cJ_isLatin1_aae02 l G σ0 si hsi h1) hC hH hl hsi (cwV 0 hts (gV wmJ0_492 wvJ0_isLatin1_aae02) rfl rfl rfl hdJ0_isLatin1_aae02 ⟨Nat.le_of_ble_eq_true rfl, Nat.le_of_ble_eq_true rfl⟩) rfl rfl (Nat.le_of_ble_eq_true rfl) ⟨Nat.zero_le _, Nat.zero_le _⟩ dJ0_charAt_5068e_1 (fun H locs hH => ?_)
  refine lv_if_eq (tgt := 16) hx hb dJ0_charAt_5068e_4 (by decide) (fun c3 => ?_) (fun c3 => ?_)
  · have h := ite_t c3 h
    refine lv_aload_n hx hb dJ0_charAt_5068e_16 rfl (lv_at hl 0 rfl) ?_
    refine vk_getf hx hb (hH.2.2.2.2.2.2.2.1.1 si hsi).2.2.1 hH.2.2.1 hown (hts _ wfJ0_9) (fun _ h9 => h9) dJ0_charAt_5068e_17 ?_
    refine lv_iload_n hx hb dJ0_charAt_5068e_20 rfl (lv_at hl 1 rfl) ?_
    cases h
  · have h := ite_f c3 h
    refine lv_aload_n hx hb dJ0_charAt_5068e_7 rfl (lv_at hl 0 rfl) ?_
    refine vk_getf hx hb (hH.2.2.2.2.2.2.2.1.1 si hsi).2.2.1 hH.2.2.1 hown (hts _ wfJ0_9) (fun _ h9 => h9) dJ0_charAt_5068e_8 ?_
    refine lv_iload_n hx hb dJ0_charAt_5068e_11 rfl (lv_at hl 1 rfl) ?_
    obtain ⟨r5, σ6, h4, h⟩ := ob2_some h
    refine x_calls (As := [.ref (xaV G si), .int x1]) (rest := []) (cJ_charAt_3b067 l G σ0 si x1 hsi h4) hC hH hl (va_cwS 2 hts (gS wmJ0_495 wsJ1_charAt_3b067) rfl rfl rfl hdJ1_charAt_3b067 ⟨Nat.le_of_ble_eq_true rfl, Nat.le_of_ble_eq_true rfl⟩) rfl rfl (Nat.le_of_ble_eq_true rfl) ⟨Nat.zero_le _, Nat.zero_le _⟩ dJ0_charAt_5068e_12 (fun H locs hH => ?_)
    obtain ⟨z7, h⟩ := zc_some h
    obtain ⟨rfl, rfl⟩ := some_i2 h
    exact x_iret hC hH hr z7 dJ0_charAt_5068e_15

def rmT_isWord : Room := { frames := 5, cells := 0, slots := 0, locals := 106 }
theorem hdX6_isWord : yX6_isWord.cls = RX6 ∧ yX6_isWord.cls ≠ "java/lang/invoke/MethodHandle" ∧ yX6_isWord.cls ≠ "java/lang/invoke/VarHandle" ∧ (parseMethodDescriptor yX6_isWord.desc).map (fun d => d.parameters.length) = some 1 := by decide +kernel

def fT_isWord_L28 (p0 : Nat) (k63 : XS → Option (Int32 × XS)) : Nat → Int32 → XS → Option (Int32 × XS)
  | 0, _, _ => none
  | n + 1, x2, σ =>
    ob (fJ_length_8abf5 σ p0) fun r6 =>
    if r6 ≤ x2 then (
      k63 σ)
    else (
      ck ((xi σ 5 3) + x2) (96) <|
      ob2 (fJ_charAt_5068e σ p0 x2) fun r10 σ11 =>
      if (xi σ 54 (((xi σ 5 3) + x2)).toNatClampNeg) = r10 then (
        bnd (x2 + (1 : Int32)) fun v13 =>
        (fT_isWord_L28 p0 k63 n) v13 σ11)
      else (
        some ((0 : Int32), σ11)))

set_option maxHeartbeats 4000000 in
set_option maxRecDepth 100000 in
theorem wT_isWord_L28 {p : Program} {l : Launch} {e : Env} {s : State} {m : MethodId} {args : Array Value} {below : List Frame} {meth : Method} {c : Code} {G : XG} {σ0 : XS} {p0 : Nat} {r : Int32} {σr : XS} (hC : jC p s m args meth c cX6_isWord 3 RX6) (hr : meth.sig.returnType = some .boolean) (hp0 : p0 < 6) {k63 : XS → Option (Int32 × XS)} (hk63 : ∀ (σ : XS) (H : Heap) (locs : List Loc) (ls : Array Slot), xH G s (va_A (xW G σ0) s.heap.size) σ H locs → lv_has ls 3 [] → k63 σ = some (r, σr) → W p l e rmT_isWord s m args below meth c H locs 0 0 (MQ below (xQi G σ0 s.heap.size σr r) args s 0 0 (va_A (xW G σ0) s.heap.size)) (F0 m 63 ls [])) : ∀ (n : Nat) (x2 : Int32) (σ : XS) (H : Heap) (locs : List Loc) (ls : Array Slot), xH G s (va_A (xW G σ0) s.heap.size) σ H locs → lv_has ls 3 [(0, .ref (xA G 6)), (1, .ref (xaK G p0)), (2, .int x2)] → fT_isWord_L28 p0 k63 n x2 σ = some (r, σr) → W p l e rmT_isWord s m args below meth c H locs 0 0 (MQ below (xQi G σ0 s.heap.size σr r) args s 0 0 (va_A (xW G σ0) s.heap.size)) (F0 m 28 ls []) := by
  have hx := hC.1.1
  have hb := hC.1.2.1
  have hown := hC.1.2.2.2.1
  have hts := hC.1.2.2.2.2
  intro n
  induction n with
  | zero =>
    intro x2 σ H locs ls  hH hl h
    rw [fT_isWord_L28] at h
    cases h
  | succ n ih =>
    intro x2 σ H locs ls  hH hl h
    rw [fT_isWord_L28] at h
    refine lv_iload_n hx hb dX6_isWord_28 rfl (lv_at hl 2 rfl) ?_
    refine lv_aload_n hx hb dX6_isWord_29 rfl (lv_at hl 1 rfl) ?_
    obtain ⟨r6, h5, h⟩ := ob_some h
    refine x_callS (As := []) (rest := [.int x2]) (cJ_length_8abf5 l G σ p0 hp0 h5) hC hH hl hp0 (cwV 0 hts (gV wmX6_33 wvJ0_length_8abf5) rfl rfl rfl hdJ0_length_8abf5 ⟨Nat.le_of_ble_eq_true rfl, Nat.le_of_ble_eq_true rfl⟩) rfl rfl (Nat.le_of_ble_eq_true rfl) ⟨Nat.zero_le _, Nat.zero_le _⟩ dX6_isWord_30 (fun H locs hH => ?_)
    refine lv_icmp_ge (tgt := 63) hx hb dX6_isWord_33 (by decide) (fun c7 => ?_) (fun c7 => ?_)
    · have h := ite_t c7 h
      exact hk63 σ H locs ls  hH (lv_sub hl [] rfl) h
    · have h := ite_f c7 h
      refine lv_aload_n hx hb dX6_isWord_36 rfl (lv_at hl 0 rfl) ?_
      refine x_get (C := RX6) (T := TX6) (N := 5) (v := .ref (xA G (100 + 54))) hC hH (xe_T G σ) rfl wyX6 0 (by decide) wfX6_9 rfl rfl dX6_isWord_37 ?_
      refine lv_aload_n hx hb dX6_isWord_40 rfl (lv_at hl 0 rfl) ?_
      refine x_get (C := RX6) (T := TX6) (N := 5) (v := .int (xi σ 5 3)) hC hH (xe_T G σ) rfl wyX6 3 (by decide) wfX6_20 rfl rfl dX6_isWord_41 ?_
      refine lv_iload_n hx hb dX6_isWord_44 rfl (lv_at hl 2 rfl) ?_
      refine lv_iadd hx hb dX6_isWord_45 ?_
      obtain ⟨i8, h⟩ := ck_some h
      refine x_ald hC hH (d := 54) rfl rfl rfl i8 dX6_isWord_46 ?_
      refine lv_aload_n hx hb dX6_isWord_47 rfl (lv_at hl 1 rfl) ?_
      refine lv_iload_n hx hb dX6_isWord_48 rfl (lv_at hl 2 rfl) ?_
      obtain ⟨r10, σ11, h9, h⟩ := ob2_some h
      refine x_callS (As := [.int x2]) (rest := [.int (xi σ 54 (((xi σ 5 3) + x2)).toNatClampNeg)]) (cJ_charAt_5068e l G σ p0 x2 hp0 h9) hC hH hl hp0 (cwV 1 hts (gV wmX6_38 wvJ0_charAt_5068e) rfl rfl rfl hdJ0_charAt_5068e ⟨Nat.le_of_ble_eq_true rfl, Nat.le_of_ble_eq_true rfl⟩) rfl rfl (Nat.le_of_ble_eq_true rfl) ⟨Nat.zero_le _, Nat.zero_le _⟩ dX6_isWord_49 (fun H locs hH => ?_)
      refine lv_icmp_eq (tgt := 57) hx hb dX6_isWord_52 (by decide) (fun c12 => ?_) (fun c12 => ?_)
      · have h := ite_t c12 h
        obtain ⟨v13, e14, h⟩ := bnd_some h
        refine lv_iinc (v := v13) (lv' := [(2, .int v13), (0, .ref (xA G 6)), (1, .ref (xaK G p0))]) hx hb dX6_isWord_57 hl (k := 2) rfl (by rw [e14]; rfl) (by decide) rfl (fun ls hl => ?_)
        refine lv_goto (tgt := 28) hx hb dX6_isWord_60 (by decide) ?_
        exact ih v13 σ11 H locs ls  hH (lv_sub hl [1, 2, 0] rfl) h
      · have h := ite_f c12 h
        refine lv_iconst (v := 0) hx hb dX6_isWord_55 (by decide) ?_
        obtain ⟨rfl, rfl⟩ := some_i2 h
        exact x_iret (v := 0) hC hH hr (by decide) dX6_isWord_56

def fT_isWord (σ0 : XS) (p0 : Nat) : Option (Int32 × XS) :=
  if (xi σ0 5 2) = (1 : Int32) then (
    ob (fJ_length_8abf5 σ0 p0) fun r3 =>
    if ((xi σ0 5 4) - (xi σ0 5 3)) = r3 then (
      fT_isWord_L28 p0 (fun (σ : XS) => some ((1 : Int32), σ)) 10000 (0 : Int32) σ0)
    else (
      some ((0 : Int32), σ0)))
  else (
    some ((0 : Int32), σ0))

set_option maxHeartbeats 4000000 in
set_option maxRecDepth 100000 in
theorem cT_isWord (l : Launch) (G : XG) (σ0 : XS) (p0 : Nat) (hp0 : p0 < 6) {r : Int32} {σr : XS} (h : fT_isWord σ0 p0 = some (r, σr)) : ∀ sz, Met l yX6_isWord (Cond.code yX6_isWord cX6_isWord 3 (some .boolean) :: Tw) rmT_isWord (xP G σ0 sz [.ref (xA G 6), .ref (xaK G p0)]) (xQi G σ0 sz σr r) 0 0 (va_A (xW G σ0) sz) := by
  intro sz
  refine Met.ofW (cc := cX6_isWord) (maxL := 3) (ret := (some .boolean)) (by decide) rfl ?_
  intro p e s m args below meth c s₁ Bd hml hv
  obtain ⟨hC, hr⟩ := jC_of Bd hml
  obtain ⟨rfl, rfl, hH⟩ := x_enter hv
  have hC : jC p s m _ meth c cX6_isWord 3 RX6 := hC
  have hx := hC.1.1
  have hb := hC.1.2.1
  have hown := hC.1.2.2.2.1
  have hts := hC.1.2.2.2.2
  have hl := lv_entry ([.ref (xA G 6), .ref (xaK G p0)]) (n := 3) (Nat.le_of_ble_eq_true rfl)
  rw [lg_entry_eq]
  generalize (lg_sl ([.ref (xA G 6), .ref (xaK G p0)]) ++ List.replicate (3 - (lg_sl ([.ref (xA G 6), .ref (xaK G p0)])).length) Slot.unset).toArray = ls at hl ⊢
  have hl : lv_has ls 3 [(0, .ref (xA G 6)), (1, .ref (xaK G p0))] := hl
  unfold fT_isWord at h
  refine W_nm (fun H locs eH eL => ?_)
  have hH : xH G s (va_A (xW G σ0) s.heap.size) σ0 H locs := by rw [eH, eL]; exact hH
  show W p l e rmT_isWord s m _ below meth c H locs 0 0 _ (F0 m 0 ls [])
  refine lv_aload_n hx hb dX6_isWord_0 rfl (lv_at hl 0 rfl) ?_
  refine x_get (C := RX6) (T := TX6) (N := 5) (v := .int (xi σ0 5 2)) hC hH (xe_T G σ0) rfl wyX6 2 (by decide) wfX6_17 rfl rfl dX6_isWord_1 ?_
  refine lv_iconst (v := 1) hx hb dX6_isWord_4 (by decide) ?_
  refine lv_icmp_ne (tgt := 24) hx hb dX6_isWord_5 (by decide) (fun c1 => ?_) (fun c1 => ?_)
  · have h := ite_f c1 h
    refine lv_iconst (v := 0) hx hb dX6_isWord_24 (by decide) ?_
    obtain ⟨rfl, rfl⟩ := some_i2 h
    exact x_iret (v := 0) hC hH hr (by decide) dX6_isWord_25
  · have h := ite_t c1 h
    refine lv_aload_n hx hb dX6_isWord_8 rfl (lv_at hl 0 rfl) ?_
    refine x_get (C := RX6) (T := TX6) (N := 5) (v := .int (xi σ0 5 4)) hC hH (xe_T G σ0) rfl wyX6 4 (by decide) wfX6_23 rfl rfl dX6_isWord_9 ?_
    refine lv_aload_n hx hb dX6_isWord_12 rfl (lv_at hl 0 rfl) ?_
    refine x_get (C := RX6) (T := TX6) (N := 5) (v := .int (xi σ0 5 3)) hC hH (xe_T G σ0) rfl wyX6 3 (by decide) wfX6_20 rfl rfl dX6_isWord_13 ?_
    refine lv_isub hx hb dX6_isWord_16 ?_
    refine lv_aload_n hx hb dX6_isWord_17 rfl (lv_at hl 1 rfl) ?_
    obtain ⟨r3, h2, h⟩ := ob_some h
    refine x_callS (As := []) (rest := [.int ((xi σ0 5 4) - (xi σ0 5 3))]) (cJ_length_8abf5 l G σ0 p0 hp0 h2) hC hH hl hp0 (cwV 0 hts (gV wmX6_33 wvJ0_length_8abf5) rfl rfl rfl hdJ0_length_8abf5 ⟨Nat.le_of_ble_eq_true rfl, Nat.le_of_ble_eq_true rfl⟩) rfl rfl (Nat.le_of_ble_eq_true rfl) ⟨Nat.zero_le _, Nat.zero_le _⟩ dX6_isWord_18 (fun H locs hH => ?_)
    refine lv_icmp_eq (tgt := 26) hx hb dX6_isWord_21 (by decide) (fun c4 => ?_) (fun c4 => ?_)
    · have h := ite_t c4 h
      refine lv_iconst (v := 0) hx hb dX6_isWord_26 (by decide) ?_
      refine lv_istore_n (lv' := [(2, .int (0 : Int32)), (0, .ref (xA G 6)), (1, .ref (xaK G p0))]) hx hb dX6_isWord_27 rfl hl (by decide) rfl (fun ls hl => ?_)
      refine wT_isWord_L28 hC hr hp0  ?_ 10000 (0 : Int32) σ0 H locs ls  hH (lv_sub hl [1, 2, 0] rfl) h
      intro σ H locs ls  hH hl h
      refine lv_iconst (v := 1) hx hb dX6_isWord_63 (by decide) ?_
      obtain ⟨rfl, rfl⟩ := some_i2 h
      exact x_iret (v := 1) hC hH hr (by decide) dX6_isWord_64
    · have h := ite_f c4 h
      refine lv_iconst (v := 0) hx hb dX6_isWord_24 (by decide) ?_
      obtain ⟨rfl, rfl⟩ := some_i2 h
      exact x_iret (v := 0) hC hH hr (by decide) dX6_isWord_25

def rmL_namesOf : Room := { frames := 0, cells := 0, slots := 0, locals := 0 }
theorem hdX2_namesOf : yX2_namesOf.cls ≠ "java/lang/invoke/MethodHandle" ∧ yX2_namesOf.cls ≠ "java/lang/invoke/VarHandle" ∧ (parseMethodDescriptor yX2_namesOf.desc).map (fun d => d.parameters.length) = some 1 := by decide +kernel

def fL_namesOf (σ0 : XS) (x0 : Int32) : Option (Nat) :=
  if x0 = 0 then (
    some 3)
  else (
    if x0 = (1 : Int32) then (
      some 4)
    else (
      some 5))

set_option maxHeartbeats 4000000 in
set_option maxRecDepth 100000 in
theorem cL_namesOf (l : Launch) (G : XG) (σ0 : XS) (x0 : Int32) {r : Nat} (h : fL_namesOf σ0 x0 = some r) : ∀ sz, Met l yX2_namesOf (Cond.code yX2_namesOf cX2_namesOf 1 (some (.object "java/lang/String")) :: Tw) rmL_namesOf (xP G σ0 sz [.int x0]) (xQq G σ0 sz σ0 (some (xaK G r))) 0 0 (va_A (xW G σ0) sz) := by
  intro sz
  refine Met.ofW (cc := cX2_namesOf) (maxL := 1) (ret := (some (.object "java/lang/String"))) (by decide) rfl ?_
  intro p e s m args below meth c s₁ Bd hml hv
  obtain ⟨hC, hr⟩ := jC_of Bd hml
  obtain ⟨rfl, rfl, hH⟩ := x_enter hv
  have hC : jC p s m _ meth c cX2_namesOf 1 RX2 := hC
  have hx := hC.1.1
  have hb := hC.1.2.1
  have hown := hC.1.2.2.2.1
  have hts := hC.1.2.2.2.2
  have hl := lv_entry ([.int x0]) (n := 1) (Nat.le_of_ble_eq_true rfl)
  rw [lg_entry_eq]
  generalize (lg_sl ([.int x0]) ++ List.replicate (1 - (lg_sl ([.int x0])).length) Slot.unset).toArray = ls at hl ⊢
  have hl : lv_has ls 1 [(0, .int x0)] := hl
  unfold fL_namesOf at h
  refine W_nm (fun H locs eH eL => ?_)
  have hH : xH G s (va_A (xW G σ0) s.heap.size) σ0 H locs := by rw [eH, eL]; exact hH
  show W p l e rmL_namesOf s m _ below meth c H locs 0 0 _ (F0 m 0 ls [])
  refine lv_iload_n hx hb dX2_namesOf_0 rfl (lv_at hl 0 rfl) ?_
  refine lv_if_ne (tgt := 9) hx hb dX2_namesOf_1 (by decide) (fun c1 => ?_) (fun c1 => ?_)
  · have h := ite_f c1 h
    refine lv_iload_n hx hb dX2_namesOf_9 rfl (lv_at hl 0 rfl) ?_
    refine lv_iconst (v := 1) hx hb dX2_namesOf_10 (by decide) ?_
    refine lv_icmp_ne (tgt := 19) hx hb dX2_namesOf_11 (by decide) (fun c2 => ?_) (fun c2 => ?_)
    · have h := ite_f c2 h
      refine va_ldcS hx hb hown (hH.2.2.2.2.2.2.2.2.1 5 _ rfl) dX2_namesOf_19 ?_
      obtain rfl := some_i1 h
      exact x_qret (v := some (xaK G 5)) rfl hC hH hr dX2_namesOf_21
    · have h := ite_t c2 h
      refine va_ldcS hx hb hown (hH.2.2.2.2.2.2.2.2.1 4 _ rfl) dX2_namesOf_14 ?_
      refine lv_goto (tgt := 21) hx hb dX2_namesOf_16 (by decide) ?_
      obtain rfl := some_i1 h
      exact x_qret (v := some (xaK G 4)) rfl hC hH hr dX2_namesOf_21
  · have h := ite_t c1 h
    refine va_ldcS hx hb hown (hH.2.2.2.2.2.2.2.2.1 3 _ rfl) dX2_namesOf_4 ?_
    refine lv_goto (tgt := 21) hx hb dX2_namesOf_6 (by decide) ?_
    obtain rfl := some_i1 h
    exact x_qret (v := some (xaK G 3)) rfl hC hH hr dX2_namesOf_21

def rmR_isKey : Room := { frames := 6, cells := 0, slots := 0, locals := 128 }
theorem hdX3_isKey : yX3_isKey.cls = RX3 ∧ yX3_isKey.cls ≠ "java/lang/invoke/MethodHandle" ∧ yX3_isKey.cls ≠ "java/lang/invoke/VarHandle" ∧ (parseMethodDescriptor yX3_isKey.desc).map (fun d => d.parameters.length) = some 0 := by decide +kernel

def fR_isKey (σ0 : XS) : Option (Int32 × XS) :=
  ob2 (fT_isWord σ0 0) fun r2 σ3 =>
  if r2 = 0 then (
    ob2 (fT_isWord σ3 1) fun r6 σ7 =>
    if r6 = 0 then (
      ob2 (fT_isWord σ7 2) fun r10 σ11 =>
      if r10 = 0 then (
        some ((0 : Int32), σ11))
      else (
        bnd (xu σ11 6 1 (2 : Int32)) fun σ13 =>
        ob (fT_next σ13) fun σ16 =>
        some ((1 : Int32), σ16)))
    else (
      bnd (xu σ7 6 1 (1 : Int32)) fun σ17 =>
      ob (fT_next σ17) fun σ20 =>
      some ((1 : Int32), σ20)))
  else (
    bnd (xu σ3 6 1 (0 : Int32)) fun σ21 =>
    ob (fT_next σ21) fun σ24 =>
    some ((1 : Int32), σ24))

set_option maxHeartbeats 4000000 in
set_option maxRecDepth 100000 in
theorem cR_isKey (l : Launch) (G : XG) (σ0 : XS) {r : Int32} {σr : XS} (h : fR_isKey σ0 = some (r, σr)) : ∀ sz, Met l yX3_isKey (Cond.code yX3_isKey cX3_isKey 1 (some .boolean) :: Tw) rmR_isKey (xP G σ0 sz [.ref (xA G 7)]) (xQi G σ0 sz σr r) 0 0 (va_A (xW G σ0) sz) := by
  intro sz
  refine Met.ofW (cc := cX3_isKey) (maxL := 1) (ret := (some .boolean)) (by decide) rfl ?_
  intro p e s m args below meth c s₁ Bd hml hv
  obtain ⟨hC, hr⟩ := jC_of Bd hml
  obtain ⟨rfl, rfl, hH⟩ := x_enter hv
  have hC : jC p s m _ meth c cX3_isKey 1 RX3 := hC
  have hx := hC.1.1
  have hb := hC.1.2.1
  have hown := hC.1.2.2.2.1
  have hts := hC.1.2.2.2.2
  have hl := lv_entry ([.ref (xA G 7)]) (n := 1) (Nat.le_of_ble_eq_true rfl)
  rw [lg_entry_eq]
  generalize (lg_sl ([.ref (xA G 7)]) ++ List.replicate (1 - (lg_sl ([.ref (xA G 7)])).length) Slot.unset).toArray = ls at hl ⊢
  have hl : lv_has ls 1 [(0, .ref (xA G 7))] := hl
  unfold fR_isKey at h
  refine W_nm (fun H locs eH eL => ?_)
  have hH : xH G s (va_A (xW G σ0) s.heap.size) σ0 H locs := by rw [eH, eL]; exact hH
  show W p l e rmR_isKey s m _ below meth c H locs 0 0 _ (F0 m 0 ls [])
  refine lv_aload_n hx hb dX3_isKey_0 rfl (lv_at hl 0 rfl) ?_
  refine x_get (C := RX3) (T := TX3) (N := 7) (v := .ref (xA G 6)) hC hH (xe_R G σ0) rfl wyX3 0 (by decide) wfX3_33 rfl rfl dX3_isKey_1 ?_
  refine va_ldcS hx hb hown (hH.2.2.2.2.2.2.2.2.1 0 _ rfl) dX3_isKey_4 ?_
  obtain ⟨r2, σ3, h1, h⟩ := ob2_some h
  refine x_calli (vw := (RX6, TX6, 5)) (As := [.ref (xaK G 0)]) (rest := []) (cT_isWord l G σ0 0 (by decide) h1) hC hH hl (xe_T G σ0) rfl (cwV 1 hts (gV wmX3_62 wvX6_isWord) rfl rfl rfl hdX6_isWord ⟨Nat.le_of_ble_eq_true rfl, Nat.le_of_ble_eq_true rfl⟩) rfl rfl (Nat.le_of_ble_eq_true rfl) ⟨Nat.zero_le _, Nat.zero_le _⟩ dX3_isKey_6 (fun H locs hH => ?_)
  refine lv_if_eq (tgt := 20) hx hb dX3_isKey_9 (by decide) (fun c4 => ?_) (fun c4 => ?_)
  · have h := ite_t c4 h
    refine lv_aload_n hx hb dX3_isKey_20 rfl (lv_at hl 0 rfl) ?_
    refine x_get (C := RX3) (T := TX3) (N := 7) (v := .ref (xA G 6)) hC hH (xe_R G σ3) rfl wyX3 0 (by decide) wfX3_33 rfl rfl dX3_isKey_21 ?_
    refine va_ldcS hx hb hown (hH.2.2.2.2.2.2.2.2.1 1 _ rfl) dX3_isKey_24 ?_
    obtain ⟨r6, σ7, h5, h⟩ := ob2_some h
    refine x_calli (vw := (RX6, TX6, 5)) (As := [.ref (xaK G 1)]) (rest := []) (cT_isWord l G σ3 1 (by decide) h5) hC hH hl (xe_T G σ3) rfl (cwV 1 hts (gV wmX3_62 wvX6_isWord) rfl rfl rfl hdX6_isWord ⟨Nat.le_of_ble_eq_true rfl, Nat.le_of_ble_eq_true rfl⟩) rfl rfl (Nat.le_of_ble_eq_true rfl) ⟨Nat.zero_le _, Nat.zero_le _⟩ dX3_isKey_26 (fun H locs hH => ?_)
    refine lv_if_eq (tgt := 40) hx hb dX3_isKey_29 (by decide) (fun c8 => ?_) (fun c8 => ?_)
    · have h := ite_t c8 h
      refine lv_aload_n hx hb dX3_isKey_40 rfl (lv_at hl 0 rfl) ?_
      refine x_get (C := RX3) (T := TX3) (N := 7) (v := .ref (xA G 6)) hC hH (xe_R G σ7) rfl wyX3 0 (by decide) wfX3_33 rfl rfl dX3_isKey_41 ?_
      refine va_ldcS hx hb hown (hH.2.2.2.2.2.2.2.2.1 2 _ rfl) dX3_isKey_44 ?_
      obtain ⟨r10, σ11, h9, h⟩ := ob2_some h
      refine x_calli (vw := (RX6, TX6, 5)) (As := [.ref (xaK G 2)]) (rest := []) (cT_isWord l G σ7 2 (by decide) h9) hC hH hl (xe_T G σ7) rfl (cwV 1 hts (gV wmX3_62 wvX6_isWord) rfl rfl rfl hdX6_isWord ⟨Nat.le_of_ble_eq_true rfl, Nat.le_of_ble_eq_true rfl⟩) rfl rfl (Nat.le_of_ble_eq_true rfl) ⟨Nat.zero_le _, Nat.zero_le _⟩ dX3_isKey_46 (fun H locs hH => ?_)
      refine lv_if_eq (tgt := 60) hx hb dX3_isKey_49 (by decide) (fun c12 => ?_) (fun c12 => ?_)
      · have h := ite_t c12 h
        refine lv_iconst (v := 0) hx hb dX3_isKey_60 (by decide) ?_
        obtain ⟨rfl, rfl⟩ := some_i2 h
        exact x_iret (v := 0) hC hH hr (by decide) dX3_isKey_61
      · have h := ite_f c12 h
        refine lv_aload_n hx hb dX3_isKey_52 rfl (lv_at hl 0 rfl) ?_
        refine lv_iconst (v := 2) hx hb dX3_isKey_53 (by decide) ?_
        obtain ⟨σ13, e14, h⟩ := bnd_some h
        refine x_put (C := RX3) (T := TX3) (N := 7) (ty := .int) (v := .int (2 : Int32)) hC hH (xe_R G σ11) rfl wyX3 tyX3_ok nmX3 1 (by decide) wfX3_9 rfl rfl (by decide +kernel) rfl rfl (Nat.le_of_ble_eq_true rfl) e14 (xs_R_1 G σ11 _) dX3_isKey_54 (fun H locs hH => ?_)
        refine lv_goto (tgt := 62) hx hb dX3_isKey_57 (by decide) ?_
        refine lv_aload_n hx hb dX3_isKey_62 rfl (lv_at hl 0 rfl) ?_
        refine x_get (C := RX3) (T := TX3) (N := 7) (v := .ref (xA G 6)) hC hH (xe_R G σ13) rfl wyX3 0 (by decide) wfX3_33 rfl rfl dX3_isKey_63 ?_
        obtain ⟨σ16, h15, h⟩ := ob_some h
        refine x_callv (vw := (RX6, TX6, 5)) (As := []) (rest := []) (cT_next l G σ13  h15) hC hH hl (xe_T G σ13) rfl (cwV 0 hts (gV wmX3_70 wvX6_next) rfl rfl rfl hdX6_next ⟨Nat.le_of_ble_eq_true rfl, Nat.le_of_ble_eq_true rfl⟩) rfl rfl (Nat.le_of_ble_eq_true rfl) ⟨Nat.zero_le _, Nat.zero_le _⟩ dX3_isKey_66 (fun H locs hH => ?_)
        refine lv_iconst (v := 1) hx hb dX3_isKey_69 (by decide) ?_
        obtain ⟨rfl, rfl⟩ := some_i2 h
        exact x_iret (v := 1) hC hH hr (by decide) dX3_isKey_70
    · have h := ite_f c8 h
      refine lv_aload_n hx hb dX3_isKey_32 rfl (lv_at hl 0 rfl) ?_
      refine lv_iconst (v := 1) hx hb dX3_isKey_33 (by decide) ?_
      obtain ⟨σ17, e18, h⟩ := bnd_some h
      refine x_put (C := RX3) (T := TX3) (N := 7) (ty := .int) (v := .int (1 : Int32)) hC hH (xe_R G σ7) rfl wyX3 tyX3_ok nmX3 1 (by decide) wfX3_9 rfl rfl (by decide +kernel) rfl rfl (Nat.le_of_ble_eq_true rfl) e18 (xs_R_1 G σ7 _) dX3_isKey_34 (fun H locs hH => ?_)
      refine lv_goto (tgt := 62) hx hb dX3_isKey_37 (by decide) ?_
      refine lv_aload_n hx hb dX3_isKey_62 rfl (lv_at hl 0 rfl) ?_
      refine x_get (C := RX3) (T := TX3) (N := 7) (v := .ref (xA G 6)) hC hH (xe_R G σ17) rfl wyX3 0 (by decide) wfX3_33 rfl rfl dX3_isKey_63 ?_
      obtain ⟨σ20, h19, h⟩ := ob_some h
      refine x_callv (vw := (RX6, TX6, 5)) (As := []) (rest := []) (cT_next l G σ17  h19) hC hH hl (xe_T G σ17) rfl (cwV 0 hts (gV wmX3_70 wvX6_next) rfl rfl rfl hdX6_next ⟨Nat.le_of_ble_eq_true rfl, Nat.le_of_ble_eq_true rfl⟩) rfl rfl (Nat.le_of_ble_eq_true rfl) ⟨Nat.zero_le _, Nat.zero_le _⟩ dX3_isKey_66 (fun H locs hH => ?_)
      refine lv_iconst (v := 1) hx hb dX3_isKey_69 (by decide) ?_
      obtain ⟨rfl, rfl⟩ := some_i2 h
      exact x_iret (v := 1) hC hH hr (by decide) dX3_isKey_70
  · have h := ite_f c4 h
    refine lv_aload_n hx hb dX3_isKey_12 rfl (lv_at hl 0 rfl) ?_
    refine lv_iconst (v := 0) hx hb dX3_isKey_13 (by decide) ?_
    obtain ⟨σ21, e22, h⟩ := bnd_some h
    refine x_put (C := RX3) (T := TX3) (N := 7) (ty := .int) (v := .int (0 : Int32)) hC hH (xe_R G σ3) rfl wyX3 tyX3_ok nmX3 1 (by decide) wfX3_9 rfl rfl (by decide +kernel) rfl rfl (Nat.le_of_ble_eq_true rfl) e22 (xs_R_1 G σ3 _) dX3_isKey_14 (fun H locs hH => ?_)
    refine lv_goto (tgt := 62) hx hb dX3_isKey_17 (by decide) ?_
    refine lv_aload_n hx hb dX3_isKey_62 rfl (lv_at hl 0 rfl) ?_
    refine x_get (C := RX3) (T := TX3) (N := 7) (v := .ref (xA G 6)) hC hH (xe_R G σ21) rfl wyX3 0 (by decide) wfX3_33 rfl rfl dX3_isKey_63 ?_
    obtain ⟨σ24, h23, h⟩ := ob_some h
    refine x_callv (vw := (RX6, TX6, 5)) (As := []) (rest := []) (cT_next l G σ21  h23) hC hH hl (xe_T G σ21) rfl (cwV 0 hts (gV wmX3_70 wvX6_next) rfl rfl rfl hdX6_next ⟨Nat.le_of_ble_eq_true rfl, Nat.le_of_ble_eq_true rfl⟩) rfl rfl (Nat.le_of_ble_eq_true rfl) ⟨Nat.zero_le _, Nat.zero_le _⟩ dX3_isKey_66 (fun H locs hH => ?_)
    refine lv_iconst (v := 1) hx hb dX3_isKey_69 (by decide) ?_
    obtain ⟨rfl, rfl⟩ := some_i2 h
    exact x_iret (v := 1) hC hH hr (by decide) dX3_isKey_70

def rmJ_canEncode_9a6ad : Room := { frames := 0, cells := 0, slots := 0, locals := 0 }
theorem hdJ1_canEncode_9a6ad : yJ1_canEncode_9a6ad.cls ≠ "java/lang/invoke/MethodHandle" ∧ yJ1_canEncode_9a6ad.cls ≠ "java/lang/invoke/VarHandle" ∧ (parseMethodDescriptor yJ1_canEncode_9a6ad.desc).map (fun d => d.parameters.length) = some 1 := by decide +kernel

def fJ_canEncode_9a6ad (σ0 : XS) (x0 : Int32) : Option (Int32) :=
  if x0 < 0 then (
    some (0 : Int32))
  else (
    if (255 : Int32) < x0 then (
      some (0 : Int32))
    else (
      some (1 : Int32)))

set_option maxHeartbeats 4000000 in
set_option maxRecDepth 100000 in
theorem cJ_canEncode_9a6ad (l : Launch) (G : XG) (σ0 : XS) (x0 : Int32) {r : Int32} (h : fJ_canEncode_9a6ad σ0 x0 = some r) : ∀ sz, Met l yJ1_canEncode_9a6ad (Cond.code yJ1_canEncode_9a6ad cJ1_canEncode_9a6ad 1 (some .boolean) :: Tw) rmJ_canEncode_9a6ad (xP G σ0 sz [.int x0]) (xQi G σ0 sz σ0 r) 0 0 (va_A (xW G σ0) sz) := by
  intro sz
  refine Met.ofW (cc := cJ1_canEncode_9a6ad) (maxL := 1) (ret := (some .boolean)) (by decide) rfl ?_
  intro p e s m args below meth c s₁ Bd hml hv
  obtain ⟨hC, hr⟩ := jC_of Bd hml
  obtain ⟨rfl, rfl, hH⟩ := x_enter hv
  have hC : jC p s m _ meth c cJ1_canEncode_9a6ad 1 RJ1 := hC
  have hx := hC.1.1
  have hb := hC.1.2.1
  have hown := hC.1.2.2.2.1
  have hts := hC.1.2.2.2.2
  have hl := lv_entry ([.int x0]) (n := 1) (Nat.le_of_ble_eq_true rfl)
  rw [lg_entry_eq]
  generalize (lg_sl ([.int x0]) ++ List.replicate (1 - (lg_sl ([.int x0])).length) Slot.unset).toArray = ls at hl ⊢
  have hl : lv_has ls 1 [(0, .int x0)] := hl
  unfold fJ_canEncode_9a6ad at h
  refine W_nm (fun H locs eH eL => ?_)
  have hH : xH G s (va_A (xW G σ0) s.heap.size) σ0 H locs := by rw [eH, eL]; exact hH
  show W p l e rmJ_canEncode_9a6ad s m _ below meth c H locs 0 0 _ (F0 m 0 ls [])
  refine lv_iload_n hx hb dJ1_canEncode_9a6ad_0 rfl (lv_at hl 0 rfl) ?_
  refine lv_if_lt (tgt := 15) hx hb dJ1_canEncode_9a6ad_1 (by decide) (fun c1 => ?_) (fun c1 => ?_)
  · have h := ite_t c1 h
    refine lv_iconst (v := 0) hx hb dJ1_canEncode_9a6ad_15 (by decide) ?_
    obtain rfl := some_i1 h
    exact x_iret (v := 0) hC hH hr (by decide) dJ1_canEncode_9a6ad_16
  · have h := ite_f c1 h
    refine lv_iload_n hx hb dJ1_canEncode_9a6ad_4 rfl (lv_at hl 0 rfl) ?_
    refine lv_sipush (v := 255) hx hb dJ1_canEncode_9a6ad_5 (by decide) ?_
    refine lv_icmp_gt (tgt := 15) hx hb dJ1_canEncode_9a6ad_8 (by decide) (fun c2 => ?_) (fun c2 => ?_)
    · have h := ite_t c2 h
      refine lv_iconst (v := 0) hx hb dJ1_canEncode_9a6ad_15 (by decide) ?_
      obtain rfl := some_i1 h
      exact x_iret (v := 0) hC hH hr (by decide) dJ1_canEncode_9a6ad_16
    · have h := ite_f c2 h
      refine lv_iconst (v := 1) hx hb dJ1_canEncode_9a6ad_11 (by decide) ?_
      refine lv_goto (tgt := 16) hx hb dJ1_canEncode_9a6ad_12 (by decide) ?_
      obtain rfl := some_i1 h
      exact x_iret (v := 1) hC hH hr (by decide) dJ1_canEncode_9a6ad_16

def rmJ_indexOfChar_4cfef : Room := { frames := 0, cells := 0, slots := 0, locals := 0 }
theorem hdJ1_indexOfChar_4cfef : yJ1_indexOfChar_4cfef.cls ≠ "java/lang/invoke/MethodHandle" ∧ yJ1_indexOfChar_4cfef.cls ≠ "java/lang/invoke/VarHandle" ∧ (parseMethodDescriptor yJ1_indexOfChar_4cfef.desc).map (fun d => d.parameters.length) = some 4 := by decide +kernel

def fJ_indexOfChar_4cfef_L7 (p0 : Nat) (σ0 : XS) (k31 : Option (Int32)) : Nat → Int32 → Int32 → Int32 → Option (Int32)
  | 0, _, _, _ => none
  | n + 1, x3, x4, x5 =>
    if x3 ≤ x5 then (
      k31)
    else (
      ck x5 (xSl.getD p0 0) <|
      if ((xSb.getD p0 []).getD (x5).toNatClampNeg 0) = x4 then (
        some x5)
      else (
        bnd (x5 + (1 : Int32)) fun v6 =>
        (fJ_indexOfChar_4cfef_L7 p0 σ0 k31 n) x3 x4 v6))

set_option maxHeartbeats 4000000 in
set_option maxRecDepth 100000 in
theorem wJ_indexOfChar_4cfef_L7 {p : Program} {l : Launch} {e : Env} {s : State} {m : MethodId} {args : Array Value} {below : List Frame} {meth : Method} {c : Code} {G : XG} {σ0 : XS} {p0 : Nat} {r : Int32} (hC : jC p s m args meth c cJ1_indexOfChar_4cfef 6 RJ1) (hr : meth.sig.returnType = some .int) (hp0 : p0 < 6) {k31 : Option (Int32)} (hk31 : ∀ (H : Heap) (locs : List Loc) (ls : Array Slot), xH G s (va_A (xW G σ0) s.heap.size) σ0 H locs → lv_has ls 6 [] → k31 = some r → W p l e rmJ_indexOfChar_4cfef s m args below meth c H locs 0 0 (MQ below (xQi G σ0 s.heap.size σ0 r) args s 0 0 (va_A (xW G σ0) s.heap.size)) (F0 m 31 ls [])) : ∀ (n : Nat) (x3 : Int32) (x4 : Int32) (x5 : Int32) (H : Heap) (locs : List Loc) (ls : Array Slot), xH G s (va_A (xW G σ0) s.heap.size) σ0 H locs → lv_has ls 6 [(0, .ref (xaV G p0)), (3, .int x3), (4, .int x4), (5, .int x5)] → fJ_indexOfChar_4cfef_L7 p0 σ0 k31 n x3 x4 x5 = some r → W p l e rmJ_indexOfChar_4cfef s m args below meth c H locs 0 0 (MQ below (xQi G σ0 s.heap.size σ0 r) args s 0 0 (va_A (xW G σ0) s.heap.size)) (F0 m 7 ls []) := by
  have hx := hC.1.1
  have hb := hC.1.2.1
  have hown := hC.1.2.2.2.1
  have hts := hC.1.2.2.2.2
  intro n
  induction n with
  | zero =>
    intro x3 x4 x5 H locs ls  hH hl h
    rw [fJ_indexOfChar_4cfef_L7] at h
    cases h
  | succ n ih =>
    intro x3 x4 x5 H locs ls  hH hl h
    rw [fJ_indexOfChar_4cfef_L7] at h
    refine lv_iload hx hb dJ1_indexOfChar_4cfef_7 (lv_at hl 3 rfl) ?_
    refine lv_iload_n hx hb dJ1_indexOfChar_4cfef_9 rfl (lv_at hl 1 rfl) ?_
    refine lv_icmp_ge (tgt := 31) hx hb dJ1_indexOfChar_4cfef_10 (by decide) (fun c3 => ?_) (fun c3 => ?_)
    · have h := ite_t c3 h
      exact hk31  H locs ls  hH (lv_sub hl [] rfl) h
    · have h := ite_f c3 h
      refine lv_aload_n hx hb dJ1_indexOfChar_4cfef_13 rfl (lv_at hl 0 rfl) ?_
      refine lv_iload hx hb dJ1_indexOfChar_4cfef_14 (lv_at hl 3 rfl) ?_
      obtain ⟨i4, h⟩ := ck_some h
      refine va_tb hx hb (hH.2.2.2.2.2.2.2.1.1 p0 hp0).2.2.2 hH.2.2.1 i4 rfl dJ1_indexOfChar_4cfef_16 ?_
      refine lv_iload hx hb dJ1_indexOfChar_4cfef_17 (lv_at hl 2 rfl) ?_
      refine lv_icmp_ne (tgt := 25) hx hb dJ1_indexOfChar_4cfef_19 (by decide) (fun c5 => ?_) (fun c5 => ?_)
      · have h := ite_f c5 h
        obtain ⟨v6, e7, h⟩ := bnd_some h
        refine lv_iinc (v := v6) (lv' := [(5, .int v6), (0, .ref (xaV G p0)), (3, .int x3), (4, .int x4)]) hx hb dJ1_indexOfChar_4cfef_25 hl (k := 3) rfl (by rw [e7]; rfl) (by decide) rfl (fun ls hl => ?_)
        refine lv_goto (tgt := 7) hx hb dJ1_indexOfChar_4cfef_28 (by decide) ?_
        exact ih x3 x4 v6 H locs ls  hH (lv_sub hl [1, 2, 3, 0] rfl) h
      · have h := ite_t c5 h
        refine lv_iload hx hb dJ1_indexOfChar_4cfef_22 (lv_at hl 3 rfl) ?_
        obtain rfl := some_i1 h
        exact x_iret hC hH hr rfl dJ1_indexOfChar_4cfef_24

def fJ_indexOfChar_4cfef (σ0 : XS) (p0 : Nat) (x1 : Int32) (x2 : Int32) (x3 : Int32) : Option (Int32) :=
  bnd (x1).toInt8.toInt32 fun v1 =>
  fJ_indexOfChar_4cfef_L7 p0 σ0 (some (-1 : Int32)) 10000 x3 v1 x2

set_option maxHeartbeats 4000000 in
set_option maxRecDepth 100000 in
theorem cJ_indexOfChar_4cfef (l : Launch) (G : XG) (σ0 : XS) (p0 : Nat) (x1 : Int32) (x2 : Int32) (x3 : Int32) (hp0 : p0 < 6) {r : Int32} (h : fJ_indexOfChar_4cfef σ0 p0 x1 x2 x3 = some r) : ∀ sz, Met l yJ1_indexOfChar_4cfef (Cond.code yJ1_indexOfChar_4cfef cJ1_indexOfChar_4cfef 6 (some .int) :: Tw) rmJ_indexOfChar_4cfef (xP G σ0 sz [.ref (xaV G p0), .int x1, .int x2, .int x3]) (xQi G σ0 sz σ0 r) 0 0 (va_A (xW G σ0) sz) := by
  intro sz
  refine Met.ofW (cc := cJ1_indexOfChar_4cfef) (maxL := 6) (ret := (some .int)) (by decide) rfl ?_
  intro p e s m args below meth c s₁ Bd hml hv
  obtain ⟨hC, hr⟩ := jC_of Bd hml
  obtain ⟨rfl, rfl, hH⟩ := x_enter hv
  have hC : jC p s m _ meth c cJ1_indexOfChar_4cfef 6 RJ1 := hC
  have hx := hC.1.1
  have hb := hC.1.2.1
  have hown := hC.1.2.2.2.1
  have hts := hC.1.2.2.2.2
  have hl := lv_entry ([.ref (xaV G p0), .int x1, .int x2, .int x3]) (n := 6) (Nat.le_of_ble_eq_true rfl)
  rw [lg_entry_eq]
  generalize (lg_sl ([.ref (xaV G p0), .int x1, .int x2, .int x3]) ++ List.replicate (6 - (lg_sl ([.ref (xaV G p0), .int x1, .int x2, .int x3])).length) Slot.unset).toArray = ls at hl ⊢
  have hl : lv_has ls 6 [(0, .ref (xaV G p0)), (1, .int x1), (2, .int x2), (3, .int x3)] := hl
  unfold fJ_indexOfChar_4cfef at h
  refine W_nm (fun H locs eH eL => ?_)
  have hH : xH G s (va_A (xW G σ0) s.heap.size) σ0 H locs := by rw [eH, eL]; exact hH
  show W p l e rmJ_indexOfChar_4cfef s m _ below meth c H locs 0 0 _ (F0 m 0 ls [])
  refine lv_iload_n hx hb dJ1_indexOfChar_4cfef_0 rfl (lv_at hl 1 rfl) ?_
  refine lv_i2b hx hb dJ1_indexOfChar_4cfef_1 rfl ?_
  obtain ⟨v1, e2, h⟩ := bnd_some h
  refine lv_tope e2 ?_
  refine lv_istore (lv' := [(4, .int v1), (0, .ref (xaV G p0)), (1, .int x1), (2, .int x2), (3, .int x3)]) hx hb dJ1_indexOfChar_4cfef_2 hl (by decide) rfl (fun ls hl => ?_)
  refine lv_iload_n hx hb dJ1_indexOfChar_4cfef_4 rfl (lv_at hl 3 rfl) ?_
  refine lv_istore (lv' := [(5, .int x2), (4, .int v1), (0, .ref (xaV G p0)), (1, .int x1), (2, .int x2), (3, .int x3)]) hx hb dJ1_indexOfChar_4cfef_5 hl (by decide) rfl (fun ls hl => ?_)
  refine wJ_indexOfChar_4cfef_L7 hC hr hp0  ?_ 10000 x3 v1 x2 H locs ls  hH (lv_sub hl [2, 5, 1, 0] rfl) h
  intro  H locs ls  hH hl h
  refine lv_iconst (v := -1) hx hb dJ1_indexOfChar_4cfef_31 (by decide) ?_
  obtain rfl := some_i1 h
  exact x_iret (v := -1) hC hH hr rfl dJ1_indexOfChar_4cfef_32

def rmJ_indexOf_4cfef : Room := { frames := 1, cells := 0, slots := 0, locals := 40 }
theorem hdJ1_indexOf_4cfef : yJ1_indexOf_4cfef.cls ≠ "java/lang/invoke/MethodHandle" ∧ yJ1_indexOf_4cfef.cls ≠ "java/lang/invoke/VarHandle" ∧ (parseMethodDescriptor yJ1_indexOf_4cfef.desc).map (fun d => d.parameters.length) = some 4 := by decide +kernel

def fJ_indexOf_4cfef (σ0 : XS) (p0 : Nat) (x1 : Int32) (x2 : Int32) (x3 : Int32) : Option (Int32) :=
  ob (fJ_canEncode_9a6ad σ0 x1) fun r2 =>
  if r2 = 0 then (
    some (-1 : Int32))
  else (
    bnd (if x2 < (0 : Int32) then (0 : Int32) else x2) fun v4 =>
    bnd (if (Int32.ofNat (xSl.getD p0 0)) < x3 then (Int32.ofNat (xSl.getD p0 0)) else x3) fun v6 =>
    if v4 < v6 then (
      ob (fJ_indexOfChar_4cfef σ0 p0 x1 v4 v6) fun r10 =>
      some r10)
    else (
      some (-1 : Int32)))

set_option maxHeartbeats 4000000 in
set_option maxRecDepth 100000 in
theorem cJ_indexOf_4cfef (l : Launch) (G : XG) (σ0 : XS) (p0 : Nat) (x1 : Int32) (x2 : Int32) (x3 : Int32) (hp0 : p0 < 6) {r : Int32} (h : fJ_indexOf_4cfef σ0 p0 x1 x2 x3 = some r) : ∀ sz, Met l yJ1_indexOf_4cfef (Cond.code yJ1_indexOf_4cfef cJ1_indexOf_4cfef 4 (some .int) :: Tw) rmJ_indexOf_4cfef (xP G σ0 sz [.ref (xaV G p0), .int x1, .int x2, .int x3]) (xQi G σ0 sz σ0 r) 0 0 (va_A (xW G σ0) sz) := by
  intro sz
  refine Met.ofW (cc := cJ1_indexOf_4cfef) (maxL := 4) (ret := (some .int)) (by decide) rfl ?_
  intro p e s m args below meth c s₁ Bd hml hv
  obtain ⟨hC, hr⟩ := jC_of Bd hml
  obtain ⟨rfl, rfl, hH⟩ := x_enter hv
  have hC : jC p s m _ meth c cJ1_indexOf_4cfef 4 RJ1 := hC
  have hx := hC.1.1
  have hb := hC.1.2.1
  have hown := hC.1.2.2.2.1
  have hts := hC.1.2.2.2.2
  have hl := lv_entry ([.ref (xaV G p0), .int x1, .int x2, .int x3]) (n := 4) (Nat.le_of_ble_eq_true rfl)
  rw [lg_entry_eq]
  generalize (lg_sl ([.ref (xaV G p0), .int x1, .int x2, .int x3]) ++ List.replicate (4 - (lg_sl ([.ref (xaV G p0), .int x1, .int x2, .int x3])).length) Slot.unset).toArray = ls at hl ⊢
  have hl : lv_has ls 4 [(0, .ref (xaV G p0)), (1, .int x1), (2, .int x2), (3, .int x3)] := hl
  unfold fJ_indexOf_4cfef at h
  refine W_nm (fun H locs eH eL => ?_)
  have hH : xH G s (va_A (xW G σ0) s.heap.size) σ0 H locs := by rw [eH, eL]; exact hH
  show W p l e rmJ_indexOf_4cfef s m _ below meth c H locs 0 0 _ (F0 m 0 ls [])
  refine lv_iload_n hx hb dJ1_indexOf_4cfef_0 rfl (lv_at hl 1 rfl) ?_
  obtain ⟨r2, h1, h⟩ := ob_some h
  refine x_calls (As := [.int x1]) (rest := []) (cJ_canEncode_9a6ad l G σ0 x1  h1) hC hH hl (va_cwS 1 hts (gS wmJ1_88 wsJ1_canEncode_9a6ad) rfl rfl rfl hdJ1_canEncode_9a6ad ⟨Nat.le_of_ble_eq_true rfl, Nat.le_of_ble_eq_true rfl⟩) rfl rfl (Nat.le_of_ble_eq_true rfl) ⟨Nat.zero_le _, Nat.zero_le _⟩ dJ1_indexOf_4cfef_1 (fun H locs hH => ?_)
  refine lv_if_ne (tgt := 9) hx hb dJ1_indexOf_4cfef_4 (by decide) (fun c3 => ?_) (fun c3 => ?_)
  · have h := ite_f c3 h
    refine lv_iload_n hx hb dJ1_indexOf_4cfef_9 rfl (lv_at hl 2 rfl) ?_
    refine lv_iconst (v := 0) hx hb dJ1_indexOf_4cfef_10 (by decide) ?_
    refine va_mmax hx hb (hC.1.2.2.1.trans hl.1.symm) hown (hts _ wmJ1_92) (hts _ wMa_max.1) (hts _ wMa_max.2.1) (hts _ wMa_max.2.2) (Nat.le_of_ble_eq_true rfl) (Nat.le_of_ble_eq_true rfl) (Nat.zero_le _) (Nat.zero_le _) dJ1_indexOf_4cfef_11 ?_
    obtain ⟨v4, e5, h⟩ := bnd_some h
    refine lv_tope e5 ?_
    refine lv_istore_n (lv' := [(2, .int v4), (0, .ref (xaV G p0)), (1, .int x1), (3, .int x3)]) hx hb dJ1_indexOf_4cfef_14 rfl hl (by decide) rfl (fun ls hl => ?_)
    refine lv_iload_n hx hb dJ1_indexOf_4cfef_15 rfl (lv_at hl 3 rfl) ?_
    refine lv_aload_n hx hb dJ1_indexOf_4cfef_16 rfl (lv_at hl 1 rfl) ?_
    refine va_tlen hx hb (hH.2.2.2.2.2.2.2.1.1 p0 hp0).2.2.2 hH.2.2.1 rfl dJ1_indexOf_4cfef_17 ?_
    refine va_mmin hx hb (hC.1.2.2.1.trans hl.1.symm) hown (hts _ wmJ1_38) (hts _ wMa_min.1) (hts _ wMa_min.2.1) (hts _ wMa_min.2.2) (Nat.le_of_ble_eq_true rfl) (Nat.le_of_ble_eq_true rfl) (Nat.zero_le _) (Nat.zero_le _) dJ1_indexOf_4cfef_18 ?_
    obtain ⟨v6, e7, h⟩ := bnd_some h
    refine lv_tope e7 ?_
    refine lv_istore_n (lv' := [(3, .int v6), (2, .int v4), (0, .ref (xaV G p0)), (1, .int x1)]) hx hb dJ1_indexOf_4cfef_21 rfl hl (by decide) rfl (fun ls hl => ?_)
    refine lv_iload_n hx hb dJ1_indexOf_4cfef_22 rfl (lv_at hl 1 rfl) ?_
    refine lv_iload_n hx hb dJ1_indexOf_4cfef_23 rfl (lv_at hl 0 rfl) ?_
    refine lv_icmp_lt (tgt := 29) hx hb dJ1_indexOf_4cfef_24 (by decide) (fun c8 => ?_) (fun c8 => ?_)
    · have h := ite_t c8 h
      refine lv_aload_n hx hb dJ1_indexOf_4cfef_29 rfl (lv_at hl 2 rfl) ?_
      refine lv_iload_n hx hb dJ1_indexOf_4cfef_30 rfl (lv_at hl 3 rfl) ?_
      refine lv_iload_n hx hb dJ1_indexOf_4cfef_31 rfl (lv_at hl 1 rfl) ?_
      refine lv_iload_n hx hb dJ1_indexOf_4cfef_32 rfl (lv_at hl 0 rfl) ?_
      obtain ⟨r10, h9, h⟩ := ob_some h
      refine x_calls (As := [.ref (xaV G p0), .int x1, .int v4, .int v6]) (rest := []) (cJ_indexOfChar_4cfef l G σ0 p0 x1 v4 v6 hp0 h9) hC hH hl (va_cwS 4 hts (gS wmJ1_95 wsJ1_indexOfChar_4cfef) rfl rfl rfl hdJ1_indexOfChar_4cfef ⟨Nat.le_of_ble_eq_true rfl, Nat.le_of_ble_eq_true rfl⟩) rfl rfl (Nat.le_of_ble_eq_true rfl) ⟨Nat.zero_le _, Nat.zero_le _⟩ dJ1_indexOf_4cfef_33 (fun H locs hH => ?_)
      obtain rfl := some_i1 h
      exact x_iret hC hH hr rfl dJ1_indexOf_4cfef_36
    · have h := ite_f c8 h
      refine lv_iconst (v := -1) hx hb dJ1_indexOf_4cfef_27 (by decide) ?_
      obtain rfl := some_i1 h
      exact x_iret (v := -1) hC hH hr rfl dJ1_indexOf_4cfef_28
  · have h := ite_t c3 h
    refine lv_iconst (v := -1) hx hb dJ1_indexOf_4cfef_7 (by decide) ?_
    obtain rfl := some_i1 h
    exact x_iret (v := -1) hC hH hr rfl dJ1_indexOf_4cfef_8

def rmJ_indexOf_7cf53 : Room := { frames := 5, cells := 0, slots := 0, locals := 116 }
theorem hdJ0_indexOf_7cf53 : yJ0_indexOf_7cf53.cls = RJ0 ∧ yJ0_indexOf_7cf53.cls ≠ "java/lang/invoke/MethodHandle" ∧ yJ0_indexOf_7cf53.cls ≠ "java/lang/invoke/VarHandle" ∧ (parseMethodDescriptor yJ0_indexOf_7cf53.desc).map (fun d => d.parameters.length) = some 2 := by decide +kernel

def fJ_indexOf_7cf53 (σ0 : XS) (si : Nat) (x1 : Int32) (x2 : Int32) : Option (Int32 × XS) :=
  ob (fJ_isLatin1_aae02 σ0 si) fun r2 =>
  if r2 = 0 then (
    ob (fJ_length_8abf5 σ0 si) fun r5 =>
    none)
  else (
    ob (fJ_length_8abf5 σ0 si) fun r7 =>
    ob (fJ_indexOf_4cfef σ0 si x1 x2 r7) fun r9 =>
    some (r9, σ0))

set_option maxHeartbeats 4000000 in
set_option maxRecDepth 100000 in
theorem cJ_indexOf_7cf53 (l : Launch) (G : XG) (σ0 : XS) (si : Nat) (x1 : Int32) (x2 : Int32) (hsi : si < 6) {r : Int32} {σr : XS} (h : fJ_indexOf_7cf53 σ0 si x1 x2 = some (r, σr)) : ∀ sz, Met l yJ0_indexOf_7cf53 (Cond.code yJ0_indexOf_7cf53 cJ0_indexOf_7cf53 3 (some .int) :: Tw) rmJ_indexOf_7cf53 (xP G σ0 sz [.ref (xaK G si), .int x1, .int x2]) (xQi G σ0 sz σr r) 0 0 (va_A (xW G σ0) sz) := by
  intro sz
  refine Met.ofW (cc := cJ0_indexOf_7cf53) (maxL := 3) (ret := (some .int)) (by decide) rfl ?_
  intro p e s m args below meth c s₁ Bd hml hv
  obtain ⟨hC, hr⟩ := jC_of Bd hml
  obtain ⟨rfl, rfl, hH⟩ := x_enter hv
  have hC : jC p s m _ meth c cJ0_indexOf_7cf53 3 RJ0 := hC
  have hx := hC.1.1
  have hb := hC.1.2.1
  have hown := hC.1.2.2.2.1
  have hts := hC.1.2.2.2.2
  have hl := lv_entry ([.ref (xaK G si), .int x1, .int x2]) (n := 3) (Nat.le_of_ble_eq_true rfl)
  rw [lg_entry_eq]
  generalize (lg_sl ([.ref (xaK G si), .int x1, .int x2]) ++ List.replicate (3 - (lg_sl ([.ref (xaK G si), .int x1, .int x2])).length) Slot.unset).toArray = ls at hl ⊢
  have hl : lv_has ls 3 [(0, .ref (xaK G si)), (1, .int x1), (2, .int x2)] := hl
  unfold fJ_indexOf_7cf53 at h
  refine W_nm (fun H locs eH eL => ?_)
  have hH : xH G s (va_A (xW G σ0) s.heap.size) σ0 H locs := by rw [eH, eL]; exact hH
  show W p l e rmJ_indexOf_7cf53 s m _ below meth c H locs 0 0 _ (F0 m 0 ls [])
  refine lv_aload_n hx hb dJ0_indexOf_7cf53_0 rfl (lv_at hl 0 rfl) ?_
  obtain ⟨r2, h1, h⟩ := ob_some h
  refine x_callS (As := []) (rest := []) (cJ_isLatin1_aae02 l G σ0 si hsi h1) hC hH hl hsi (cwV 0 hts (gV wmJ0_492 wvJ0_isLatin1_aae02) rfl rfl rfl hdJ0_isLatin1_aae02 ⟨Nat.le_of_ble_eq_true rfl, Nat.le_of_ble_eq_true rfl⟩) rfl rfl (Nat.le_of_ble_eq_true rfl) ⟨Nat.zero_le _, Nat.zero_le _⟩ dJ0_indexOf_7cf53_1 (fun H locs hH => ?_)
  refine lv_if_eq (tgt := 23) hx hb dJ0_indexOf_7cf53_4 (by decide) (fun c3 => ?_) (fun c3 => ?_)
  · have h := ite_t c3 h
    refine lv_aload_n hx hb dJ0_indexOf_7cf53_23 rfl (lv_at hl 0 rfl) ?_
    refine vk_getf hx hb (hH.2.2.2.2.2.2.2.1.1 si hsi).2.2.1 hH.2.2.1 hown (hts _ wfJ0_9) (fun _ h9 => h9) dJ0_indexOf_7cf53_24 ?_
    refine lv_iload_n hx hb dJ0_indexOf_7cf53_27 rfl (lv_at hl 1 rfl) ?_
    refine lv_iload_n hx hb dJ0_indexOf_7cf53_28 rfl (lv_at hl 2 rfl) ?_
    refine lv_aload_n hx hb dJ0_indexOf_7cf53_29 rfl (lv_at hl 0 rfl) ?_
    obtain ⟨r5, h4, h⟩ := ob_some h
    refine x_callS (As := []) (rest := [.int x2, .int x1, .ref (xaV G si)]) (cJ_length_8abf5 l G σ0 si hsi h4) hC hH hl hsi (cwV 0 hts (gV wmJ0_505 wvJ0_length_8abf5) rfl rfl rfl hdJ0_length_8abf5 ⟨Nat.le_of_ble_eq_true rfl, Nat.le_of_ble_eq_true rfl⟩) rfl rfl (Nat.le_of_ble_eq_true rfl) ⟨Nat.zero_le _, Nat.zero_le _⟩ dJ0_indexOf_7cf53_30 (fun H locs hH => ?_)
    cases h
  · have h := ite_f c3 h
    refine lv_aload_n hx hb dJ0_indexOf_7cf53_7 rfl (lv_at hl 0 rfl) ?_
    refine vk_getf hx hb (hH.2.2.2.2.2.2.2.1.1 si hsi).2.2.1 hH.2.2.1 hown (hts _ wfJ0_9) (fun _ h9 => h9) dJ0_indexOf_7cf53_8 ?_
    refine lv_iload_n hx hb dJ0_indexOf_7cf53_11 rfl (lv_at hl 1 rfl) ?_
    refine lv_iload_n hx hb dJ0_indexOf_7cf53_12 rfl (lv_at hl 2 rfl) ?_
    refine lv_aload_n hx hb dJ0_indexOf_7cf53_13 rfl (lv_at hl 0 rfl) ?_
    obtain ⟨r7, h6, h⟩ := ob_some h
    refine x_callS (As := []) (rest := [.int x2, .int x1, .ref (xaV G si)]) (cJ_length_8abf5 l G σ0 si hsi h6) hC hH hl hsi (cwV 0 hts (gV wmJ0_505 wvJ0_length_8abf5) rfl rfl rfl hdJ0_length_8abf5 ⟨Nat.le_of_ble_eq_true rfl, Nat.le_of_ble_eq_true rfl⟩) rfl rfl (Nat.le_of_ble_eq_true rfl) ⟨Nat.zero_le _, Nat.zero_le _⟩ dJ0_indexOf_7cf53_14 (fun H locs hH => ?_)
    obtain ⟨r9, h8, h⟩ := ob_some h
    refine x_calls (As := [.ref (xaV G si), .int x1, .int x2, .int r7]) (rest := []) (cJ_indexOf_4cfef l G σ0 si x1 x2 r7 hsi h8) hC hH hl (va_cwS 4 hts (gS wmJ0_637 wsJ1_indexOf_4cfef) rfl rfl rfl hdJ1_indexOf_4cfef ⟨Nat.le_of_ble_eq_true rfl, Nat.le_of_ble_eq_true rfl⟩) rfl rfl (Nat.le_of_ble_eq_true rfl) ⟨Nat.zero_le _, Nat.zero_le _⟩ dJ0_indexOf_7cf53_17 (fun H locs hH => ?_)
    refine lv_goto (tgt := 36) hx hb dJ0_indexOf_7cf53_20 (by decide) ?_
    obtain ⟨rfl, rfl⟩ := some_i2 h
    exact x_iret hC hH hr rfl dJ0_indexOf_7cf53_36

def rmJ_indexOf_0f7a4 : Room := { frames := 6, cells := 0, slots := 0, locals := 138 }
theorem hdJ0_indexOf_0f7a4 : yJ0_indexOf_0f7a4.cls = RJ0 ∧ yJ0_indexOf_0f7a4.cls ≠ "java/lang/invoke/MethodHandle" ∧ yJ0_indexOf_0f7a4.cls ≠ "java/lang/invoke/VarHandle" ∧ (parseMethodDescriptor yJ0_indexOf_0f7a4.desc).map (fun d => d.parameters.length) = some 1 := by decide +kernel

def fJ_indexOf_0f7a4 (σ0 : XS) (si : Nat) (x1 : Int32) : Option (Int32 × XS) :=
  ob2 (fJ_indexOf_7cf53 σ0 si x1 (0 : Int32)) fun r2 σ3 =>
  some (r2, σ3)

set_option maxHeartbeats 4000000 in
set_option maxRecDepth 100000 in
theorem cJ_indexOf_0f7a4 (l : Launch) (G : XG) (σ0 : XS) (si : Nat) (x1 : Int32) (hsi : si < 6) {r : Int32} {σr : XS} (h : fJ_indexOf_0f7a4 σ0 si x1 = some (r, σr)) : ∀ sz, Met l yJ0_indexOf_0f7a4 (Cond.code yJ0_indexOf_0f7a4 cJ0_indexOf_0f7a4 2 (some .int) :: Tw) rmJ_indexOf_0f7a4 (xP G σ0 sz [.ref (xaK G si), .int x1]) (xQi G σ0 sz σr r) 0 0 (va_A (xW G σ0) sz) := by
  intro sz
  refine Met.ofW (cc := cJ0_indexOf_0f7a4) (maxL := 2) (ret := (some .int)) (by decide) rfl ?_
  intro p e s m args below meth c s₁ Bd hml hv
  obtain ⟨hC, hr⟩ := jC_of Bd hml
  obtain ⟨rfl, rfl, hH⟩ := x_enter hv
  have hC : jC p s m _ meth c cJ0_indexOf_0f7a4 2 RJ0 := hC
  have hx := hC.1.1
  have hb := hC.1.2.1
  have hown := hC.1.2.2.2.1
  have hts := hC.1.2.2.2.2
  have hl := lv_entry ([.ref (xaK G si), .int x1]) (n := 2) (Nat.le_of_ble_eq_true rfl)
  rw [lg_entry_eq]
  generalize (lg_sl ([.ref (xaK G si), .int x1]) ++ List.replicate (2 - (lg_sl ([.ref (xaK G si), .int x1])).length) Slot.unset).toArray = ls at hl ⊢
  have hl : lv_has ls 2 [(0, .ref (xaK G si)), (1, .int x1)] := hl
  unfold fJ_indexOf_0f7a4 at h
  refine W_nm (fun H locs eH eL => ?_)
  have hH : xH G s (va_A (xW G σ0) s.heap.size) σ0 H locs := by rw [eH, eL]; exact hH
  show W p l e rmJ_indexOf_0f7a4 s m _ below meth c H locs 0 0 _ (F0 m 0 ls [])
  refine lv_aload_n hx hb dJ0_indexOf_0f7a4_0 rfl (lv_at hl 0 rfl) ?_
  refine lv_iload_n hx hb dJ0_indexOf_0f7a4_1 rfl (lv_at hl 1 rfl) ?_
  refine lv_iconst (v := 0) hx hb dJ0_indexOf_0f7a4_2 (by decide) ?_
  obtain ⟨r2, σ3, h1, h⟩ := ob2_some h
  refine x_callS (As := [.int x1, .int (0 : Int32)]) (rest := []) (cJ_indexOf_7cf53 l G σ0 si x1 (0 : Int32) hsi h1) hC hH hl hsi (cwV 2 hts (gV wmJ0_633 wvJ0_indexOf_7cf53) rfl rfl rfl hdJ0_indexOf_7cf53 ⟨Nat.le_of_ble_eq_true rfl, Nat.le_of_ble_eq_true rfl⟩) rfl rfl (Nat.le_of_ble_eq_true rfl) ⟨Nat.zero_le _, Nat.zero_le _⟩ dJ0_indexOf_0f7a4_3 (fun H locs hH => ?_)
  obtain ⟨rfl, rfl⟩ := some_i2 h
  exact x_iret hC hH hr rfl dJ0_indexOf_0f7a4_6

def rmR_isName : Room := { frames := 7, cells := 0, slots := 0, locals := 159 }
theorem hdX3_isName : yX3_isName.cls = RX3 ∧ yX3_isName.cls ≠ "java/lang/invoke/MethodHandle" ∧ yX3_isName.cls ≠ "java/lang/invoke/VarHandle" ∧ (parseMethodDescriptor yX3_isName.desc).map (fun d => d.parameters.length) = some 0 := by decide +kernel

def fR_isName (σ0 : XS) : Option (Int32 × XS) :=
  ob (fL_namesOf σ0 (xi σ0 6 1)) fun r2 =>
  gd6 r2 <|
  ck (xi σ0 5 3) (96) <|
  ob2 (fJ_indexOf_0f7a4 σ0 r2 (((xi σ0 54 ((xi σ0 5 3)).toNatClampNeg)).toUInt32 % 65536).toInt32) fun r6 σ7 =>
  if ((xi σ7 5 4) - (xi σ7 5 3)) = (1 : Int32) then (
    if r6 < 0 then (
      some ((0 : Int32), σ7))
    else (
      ob2 (fR_isOperand σ7 ((-1 : Int32) - r6)) fun r11 σ12 =>
      if r11 = 0 then (
        some ((0 : Int32), σ12))
      else (
        some ((1 : Int32), σ12))))
  else (
    some ((0 : Int32), σ7))

set_option maxHeartbeats 4000000 in
set_option maxRecDepth 100000 in
theorem cR_isName (l : Launch) (G : XG) (σ0 : XS) {r : Int32} {σr : XS} (h : fR_isName σ0 = some (r, σr)) : ∀ sz, Met l yX3_isName (Cond.code yX3_isName cX3_isName 2 (some .boolean) :: Tw) rmR_isName (xP G σ0 sz [.ref (xA G 7)]) (xQi G σ0 sz σr r) 0 0 (va_A (xW G σ0) sz) := by
  intro sz
  refine Met.ofW (cc := cX3_isName) (maxL := 2) (ret := (some .boolean)) (by decide) rfl ?_
  intro p e s m args below meth c s₁ Bd hml hv
  obtain ⟨hC, hr⟩ := jC_of Bd hml
  obtain ⟨rfl, rfl, hH⟩ := x_enter hv
  have hC : jC p s m _ meth c cX3_isName 2 RX3 := hC
  have hx := hC.1.1
  have hb := hC.1.2.1
  have hown := hC.1.2.2.2.1
  have hts := hC.1.2.2.2.2
  have hl := lv_entry ([.ref (xA G 7)]) (n := 2) (Nat.le_of_ble_eq_true rfl)
  rw [lg_entry_eq]
  generalize (lg_sl ([.ref (xA G 7)]) ++ List.replicate (2 - (lg_sl ([.ref (xA G 7)])).length) Slot.unset).toArray = ls at hl ⊢
  have hl : lv_has ls 2 [(0, .ref (xA G 7))] := hl
  unfold fR_isName at h
  refine W_nm (fun H locs eH eL => ?_)
  have hH : xH G s (va_A (xW G σ0) s.heap.size) σ0 H locs := by rw [eH, eL]; exact hH
  show W p l e rmR_isName s m _ below meth c H locs 0 0 _ (F0 m 0 ls [])
  refine lv_aload_n hx hb dX3_isName_0 rfl (lv_at hl 0 rfl) ?_
  refine x_get (C := RX3) (T := TX3) (N := 7) (v := .int (xi σ0 6 1)) hC hH (xe_R G σ0) rfl wyX3 1 (by decide) wfX3_9 rfl rfl dX3_isName_1 ?_
  obtain ⟨r2, h1, h⟩ := ob_some h
  refine x_callsq (As := [.int (xi σ0 6 1)]) (rest := []) (cL_namesOf l G σ0 (xi σ0 6 1)  h1) hC hH hl (va_cwS 1 hts (gS wmX3_112 wsX2_namesOf) rfl rfl rfl hdX2_namesOf ⟨Nat.le_of_ble_eq_true rfl, Nat.le_of_ble_eq_true rfl⟩) rfl rfl (Nat.le_of_ble_eq_true rfl) ⟨Nat.zero_le _, Nat.zero_le _⟩ dX3_isName_4 (fun H locs hH => ?_)
  obtain ⟨z3, h⟩ := gd6_some h
  refine lv_aload_n hx hb dX3_isName_7 rfl (lv_at hl 0 rfl) ?_
  refine x_get (C := RX3) (T := TX3) (N := 7) (v := .ref (xA G 6)) hC hH (xe_R G σ0) rfl wyX3 0 (by decide) wfX3_33 rfl rfl dX3_isName_8 ?_
  refine x_getN (C := RX6) (T := TX6) (N := 5) (v := .ref (xA G (100 + 54))) (host := "RoadSorted") hC hH (xe_T G σ0) rfl wyX6 0 (by decide) (by decide +kernel) rfl rfl dX3_isName_11 ?_
  refine lv_aload_n hx hb dX3_isName_14 rfl (lv_at hl 0 rfl) ?_
  refine x_get (C := RX3) (T := TX3) (N := 7) (v := .ref (xA G 6)) hC hH (xe_R G σ0) rfl wyX3 0 (by decide) wfX3_33 rfl rfl dX3_isName_15 ?_
  refine x_getN (C := RX6) (T := TX6) (N := 5) (v := .int (xi σ0 5 3)) (host := "RoadSorted") hC hH (xe_T G σ0) rfl wyX6 3 (by decide) (by decide +kernel) rfl rfl dX3_isName_18 ?_
  obtain ⟨i4, h⟩ := ck_some h
  refine x_ald hC hH (d := 54) rfl rfl rfl i4 dX3_isName_21 ?_
  refine lv_i2c hx hb dX3_isName_22 rfl ?_
  obtain ⟨r6, σ7, h5, h⟩ := ob2_some h
  refine x_callS (As := [.int (((xi σ0 54 ((xi σ0 5 3)).toNatClampNeg)).toUInt32 % 65536).toInt32]) (rest := []) (cJ_indexOf_0f7a4 l G σ0 r2 (((xi σ0 54 ((xi σ0 5 3)).toNatClampNeg)).toUInt32 % 65536).toInt32 z3 h5) hC hH hl z3 (cwV 1 hts (gV wmX3_119 wvJ0_indexOf_0f7a4) rfl rfl rfl hdJ0_indexOf_0f7a4 ⟨Nat.le_of_ble_eq_true rfl, Nat.le_of_ble_eq_true rfl⟩) rfl rfl (Nat.le_of_ble_eq_true rfl) ⟨Nat.zero_le _, Nat.zero_le _⟩ dX3_isName_23 (fun H locs hH => ?_)
  refine lv_istore_n (lv' := [(1, .int r6), (0, .ref (xA G 7))]) hx hb dX3_isName_26 rfl hl (by decide) rfl (fun ls hl => ?_)
  refine lv_aload_n hx hb dX3_isName_27 rfl (lv_at hl 1 rfl) ?_
  refine x_get (C := RX3) (T := TX3) (N := 7) (v := .ref (xA G 6)) hC hH (xe_R G σ7) rfl wyX3 0 (by decide) wfX3_33 rfl rfl dX3_isName_28 ?_
  refine x_getN (C := RX6) (T := TX6) (N := 5) (v := .int (xi σ7 5 4)) (host := "RoadSorted") hC hH (xe_T G σ7) rfl wyX6 4 (by decide) (by decide +kernel) rfl rfl dX3_isName_31 ?_
  refine lv_aload_n hx hb dX3_isName_34 rfl (lv_at hl 1 rfl) ?_
  refine x_get (C := RX3) (T := TX3) (N := 7) (v := .ref (xA G 6)) hC hH (xe_R G σ7) rfl wyX3 0 (by decide) wfX3_33 rfl rfl dX3_isName_35 ?_
  refine x_getN (C := RX6) (T := TX6) (N := 5) (v := .int (xi σ7 5 3)) (host := "RoadSorted") hC hH (xe_T G σ7) rfl wyX6 3 (by decide) (by decide +kernel) rfl rfl dX3_isName_38 ?_
  refine lv_isub hx hb dX3_isName_41 ?_
  refine lv_iconst (v := 1) hx hb dX3_isName_42 (by decide) ?_
  refine lv_icmp_ne (tgt := 64) hx hb dX3_isName_43 (by decide) (fun c8 => ?_) (fun c8 => ?_)
  · have h := ite_f c8 h
    refine lv_iconst (v := 0) hx hb dX3_isName_64 (by decide) ?_
    obtain ⟨rfl, rfl⟩ := some_i2 h
    exact x_iret (v := 0) hC hH hr (by decide) dX3_isName_65
  · have h := ite_t c8 h
    refine lv_iload_n hx hb dX3_isName_46 rfl (lv_at hl 0 rfl) ?_
    refine lv_if_lt (tgt := 64) hx hb dX3_isName_47 (by decide) (fun c9 => ?_) (fun c9 => ?_)
    · have h := ite_t c9 h
      refine lv_iconst (v := 0) hx hb dX3_isName_64 (by decide) ?_
      obtain ⟨rfl, rfl⟩ := some_i2 h
      exact x_iret (v := 0) hC hH hr (by decide) dX3_isName_65
    · have h := ite_f c9 h
      refine lv_aload_n hx hb dX3_isName_50 rfl (lv_at hl 1 rfl) ?_
      refine lv_iconst (v := -1) hx hb dX3_isName_51 (by decide) ?_
      refine lv_iload_n hx hb dX3_isName_52 rfl (lv_at hl 0 rfl) ?_
      refine lv_isub hx hb dX3_isName_53 ?_
      obtain ⟨r11, σ12, h10, h⟩ := ob2_some h
      refine x_calli (vw := (RX3, TX3, 7)) (As := [.int ((-1 : Int32) - r6)]) (rest := []) (cR_isOperand l G σ7 ((-1 : Int32) - r6)  h10) hC hH hl (xe_R G σ7) rfl (cwV 1 hts (gV wmX3_109 wvX3_isOperand) rfl rfl rfl hdX3_isOperand ⟨Nat.le_of_ble_eq_true rfl, Nat.le_of_ble_eq_true rfl⟩) rfl rfl (Nat.le_of_ble_eq_true rfl) ⟨Nat.zero_le _, Nat.zero_le _⟩ dX3_isName_54 (fun H locs hH => ?_)
      refine lv_if_eq (tgt := 64) hx hb dX3_isName_57 (by decide) (fun c13 => ?_) (fun c13 => ?_)
      · have h := ite_t c13 h
        refine lv_iconst (v := 0) hx hb dX3_isName_64 (by decide) ?_
        obtain ⟨rfl, rfl⟩ := some_i2 h
        exact x_iret (v := 0) hC hH hr (by decide) dX3_isName_65
      · have h := ite_f c13 h
        refine lv_iconst (v := 1) hx hb dX3_isName_60 (by decide) ?_
        refine lv_goto (tgt := 65) hx hb dX3_isName_61 (by decide) ?_
        obtain ⟨rfl, rfl⟩ := some_i2 h
        exact x_iret (v := 1) hC hH hr (by decide) dX3_isName_65
