theorem W_mono {p : Program} {l : Launch} {e : Env} {R : Room} {s : State} {m : MethodId} {args : Array Value} {below : List Frame} {meth : Method} {c : Code} {H : Heap} {locs : List Loc} {cells slots : Nat} {Q Q' : State → Prop} {g : JFrame} (hq : ∀ t, Q t → Q' t) (h : W p l e R s m args below meth c H locs cells slots Q g) : W p l e R s m args below meth c H locs cells slots Q' g := by
  intro T hT X
  obtain ⟨t, a, b⟩ := h T hT X
  exact ⟨t, a, hq t b⟩
theorem MQ_mono {below : List Frame} {Qc Qc' : Array Value → State → Outcome → State → Prop} {a : Array Value} {s : State} {mc ms : Nat} {free : Addr → Prop} {t : State} (hq : ∀ o t, Qc a s o t → Qc' a s o t) (h : MQ below Qc a s mc ms free t) : MQ below Qc' a s mc ms free t := by
  obtain ⟨o, h1, h2, h3, h4⟩ := h
  exact ⟨o, h1, h2, hq o t h3, h4⟩
def lwk {α : Type} (σ : XS) (k : Option α) : Option α := if ¬ xi σ 6 2 < 0 ∧ (xi σ 6 2).toNatClampNeg ≤ 96 ∧ ¬ xi σ 6 4 < 0 ∧ (xi σ 6 4).toNatClampNeg < 96 then k else none
theorem lwk_some {α : Type} {σ : XS} {k : Option α} {r : α} (h : lwk σ k = some r) : (¬ xi σ 6 2 < 0 ∧ (xi σ 6 2).toNatClampNeg ≤ 96 ∧ ¬ xi σ 6 4 < 0 ∧ (xi σ 6 4).toNatClampNeg < 96) ∧ k = some r := by
  unfold lwk at h
  by_cases c : ¬ xi σ 6 2 < 0 ∧ (xi σ 6 2).toNatClampNeg ≤ 96 ∧ ¬ xi σ 6 4 < 0 ∧ (xi σ 6 4).toNatClampNeg < 96
  · rw [if_pos c] at h; exact ⟨c, h⟩
  · rw [if_neg c] at h; cases h
theorem clamp_nI {x : Int32} (h : ¬ x < 0) : x = nI x.toNatClampNeg := by
  obtain ⟨j, hj, rfl⟩ := nI_of h
  rw [nI_clamp hj]
theorem hdX3_law : yX3_law.cls = RX3 ∧ yX3_law.cls ≠ "java/lang/invoke/MethodHandle" ∧ yX3_law.cls ≠ "java/lang/invoke/VarHandle" ∧ (parseMethodDescriptor yX3_law.desc).map (fun d => d.parameters.length) = some 0 := by decide +kernel
theorem x_callLaw {p : Program} {l : Launch} {e : Env} {R : Room} {s : State} {m : MethodId} {args : Array Value} {below : List Frame} {meth : Method} {c : Code} {H : Heap} {locs : List Loc} {cells slots : Nat} {Q : State → Prop} {cc : ByteArray} {pc : Nat} {ls : Array Slot} {rest : List Value} {G : XG} {A0 : Nat → Prop} {σ : XS} {nL : Nat} {own : String} {index : Nat} {lv : List (Nat × Value)} (hC : jC p s m args meth c cc nL own) (hH : xH G s A0 σ H locs) (hl : lv_has ls nL lv) (hz : ¬ xi σ 6 2 < 0 ∧ (xi σ 6 2).toNatClampNeg ≤ 96 ∧ ¬ xi σ 6 4 < 0 ∧ (xi σ 6 4).toNatClampNeg < 96)
    (hT : GoodIn Tw (wsV own index RX3 yX3_law (Cond.code yX3_law cX3_law 1 (some (.object "RoadSorted$Law")) :: Tw))) (hR : 2 + 1 ≤ R.frames ∧ 8 + (1 + 11) + 120 ≤ R.locals) {st0 : List Value} (hst : st0 = .ref (xA G 7) :: rest) (hrw : (rest.map fun v => v.category).sum ≤ 8) (hf : cells + 3 ≤ R.cells ∧ slots + 196 ≤ R.slots) (hdg : decode cc pc = .ok (.invokevirtual index, 3))
    (kk : ∀ (a c2 t2 : Nat) (H1 : Heap) (locs1 : List Loc), frs (xL σ) a c2 t2 → xH G s A0 (xnew σ a c2 t2) H1 locs1 → W p l e R s m args below meth c H1 locs1 (cells + 3) (slots + 196) Q (F0 m (pc + 3) ls (.ref a :: rest))) : W p l e R s m args below meth c H locs cells slots Q (F0 m pc ls st0) := by
  refine va_callr (va_runV (As := []) (rest := rest) hC.1 (cR_law l G σ (xi σ 6 2).toNatClampNeg (xi σ 6 4).toNatClampNeg (clamp_nI hz.1) hz.2.1 (clamp_nI hz.2.2.1) hz.2.2.2 H.size) (cwV 0 hC.1.2.2.2.2 hT rfl rfl rfl hdX3_law hR) ⟨x_blind, va_recv hH.2.2.2.2.1 hH.1 (ci := 2) (q0 := 6) rfl (xe_R G σ), x_pre hH [.ref (xA G 7)]⟩ rfl rfl hl.1 hst (lv_room hrw) hdg hf) hH.2.2.1 (fun q _ h => x_sub hH q h) (x_sub hH) (fun u ra t H1 locs1 ht hvm hw hB hz1 hk1 hS => ?_)
  obtain ⟨rfl, hB⟩ := hB
  exact kk u.1 u.2.1 u.2.2 H1 locs1 hw (x_aft hH ht hB hS)

def rmX_text : Room := { frames := 142, cells := 3, slots := 196, locals := 5244 }
theorem hdX7_text : yX7_text.cls = RX7 ∧ yX7_text.cls ≠ "java/lang/invoke/MethodHandle" ∧ yX7_text.cls ≠ "java/lang/invoke/VarHandle" ∧ (parseMethodDescriptor yX7_text.desc).map (fun d => d.parameters.length) = some 0 := by decide +kernel

def fX_textK (σ : XS) (p3 : Nat) : Option (Int32 × XS) :=
  lk σ p3 <|
  ck (xi σ 0 6) 14 <|
  bnd (xul σ ((xi σ 0 6)).toNatClampNeg (some p3)) fun σ3 =>
  bnd (xu σ3 0 6 ((xi σ3 0 6) + (1 : Int32))) fun σ5 =>
  lk σ5 p3 <|
  if (xw σ5 p3 0) = 0 then (
    ob (fB_obey σ5 0 p3) fun σ10 =>
    some (((xi σ10 0 6) - (1 : Int32)), σ10))
  else (
    some (((xi σ5 0 6) - (1 : Int32)), σ5))

set_option maxHeartbeats 4000000 in
set_option maxRecDepth 100000 in
theorem wX_textK {p : Program} {l : Launch} {e : Env} {s : State} {m : MethodId} {args : Array Value} {below : List Frame} {meth : Method} {c : Code} {G : XG} {σ0 : XS} {r : Int32} {σr : XS} (hC : jC p s m args meth c cX7_text 4 RX7) (hr : meth.sig.returnType = some .int) (p3 : Nat) (σ : XS) (H : Heap) (locs : List Loc) (ls : Array Slot) (hH : xH G s (va_A (xW G σ0) s.heap.size) σ H locs) (hl : lv_has ls 4 [(0, .ref (xA G 0))]) (h : fX_textK σ p3 = some (r, σr)) : W p l e rmX_text s m args below meth c H locs 3 196 (MQ below (xQi G σ0 s.heap.size σr r) args s 3 196 (va_A (xW G σ0) s.heap.size)) (F0 m 52 ls [.ref p3]) := by
  have hx := hC.1.1
  have hb := hC.1.2.1
  have hown := hC.1.2.2.2.1
  have hts := hC.1.2.2.2.2
  unfold fX_textK at h
  refine lv_astore_n (lv' := [(3, .ref p3), (0, .ref (xA G 0))]) hx hb dX7_text_52 rfl hl (by decide) rfl (fun ls hl => ?_)
  refine lv_aload_n hx hb dX7_text_53 rfl (lv_at hl 1 rfl) ?_
  refine x_get (C := RX7) (T := TX7) (N := 14) (v := .ref (xA G 5)) hC hH (xe_X G σ) rfl wyX7 5 (by decide) wfX7_31 rfl rfl dX7_text_54 ?_
  refine lv_aload_n hx hb dX7_text_57 rfl (lv_at hl 1 rfl) ?_
  refine x_get (C := RX7) (T := TX7) (N := 14) (v := .int (xi σ 0 6)) hC hH (xe_X G σ) rfl wyX7 6 (by decide) wfX7_35 rfl rfl dX7_text_58 ?_
  refine lv_aload_n hx hb dX7_text_61 rfl (lv_at hl 0 rfl) ?_
  obtain ⟨q1, h⟩ := lk_some h
  obtain ⟨i2, h⟩ := ck_some h
  obtain ⟨σ3, e4, h⟩ := bnd_some h
  refine x_lawsSt hC hH q1 i2 e4 dX7_text_62 (fun H locs hH => ?_)
  refine lv_aload_n hx hb dX7_text_63 rfl (lv_at hl 1 rfl) ?_
  refine lv_dup hx hb dX7_text_64 rfl ?_
  refine x_get (C := RX7) (T := TX7) (N := 14) (v := .int (xi σ3 0 6)) hC hH (xe_X G σ3) rfl wyX7 6 (by decide) wfX7_35 rfl rfl dX7_text_65 ?_
  refine lv_iconst (v := 1) hx hb dX7_text_68 (by decide) ?_
  refine lv_iadd hx hb dX7_text_69 ?_
  obtain ⟨σ5, e6, h⟩ := bnd_some h
  refine x_put (C := RX7) (T := TX7) (N := 14) (ty := .int) (v := .int ((xi σ3 0 6) + (1 : Int32))) hC hH (xe_X G σ3) rfl wyX7 tyX7_ok nmX7 6 (by decide) wfX7_35 rfl rfl (by decide +kernel) rfl rfl (Nat.le_of_ble_eq_true rfl) e6 (xs_X_6 G σ3 _) dX7_text_70 (fun H locs hH => ?_)
  refine lv_aload_n hx hb dX7_text_73 rfl (lv_at hl 0 rfl) ?_
  obtain ⟨q7, h⟩ := lk_some h
  refine x_pgetN (host := "RoadSorted") hC hH q7 0 (by decide) (by decide +kernel) rfl rfl dX7_text_74 ?_
  refine lv_if_ne (tgt := 88) hx hb dX7_text_77 (by decide) (fun c8 => ?_) (fun c8 => ?_)
  · have h := ite_f c8 h
    refine lv_aload_n hx hb dX7_text_88 rfl (lv_at hl 1 rfl) ?_
    refine x_get (C := RX7) (T := TX7) (N := 14) (v := .int (xi σ5 0 6)) hC hH (xe_X G σ5) rfl wyX7 6 (by decide) wfX7_35 rfl rfl dX7_text_89 ?_
    refine lv_iconst (v := 1) hx hb dX7_text_92 (by decide) ?_
    refine lv_isub hx hb dX7_text_93 ?_
    obtain ⟨rfl, rfl⟩ := some_i2 h
    exact x_iret hC hH hr rfl dX7_text_94
  · have h := ite_t c8 h
    refine lv_aload_n hx hb dX7_text_80 rfl (lv_at hl 1 rfl) ?_
    refine x_get (C := RX7) (T := TX7) (N := 14) (v := .ref (xA G (1 + 0))) hC hH (xe_X G σ5) rfl wyX7 0 (by decide) wfX7_10 rfl rfl dX7_text_81 ?_
    refine lv_aload_n hx hb dX7_text_84 rfl (lv_at hl 0 rfl) ?_
    obtain ⟨σ10, h9, h⟩ := ob_some h
    refine x_callv (vw := (RX0, TX0, 12)) (As := [.ref p3]) (rest := []) (cB_obey l G σ5 0 p3 (by decide) h9) hC hH hl (xe_B G σ5 (by decide)) rfl (cwV 1 hts (gV wmX7_247 wvX0_obey) rfl rfl rfl hdX0_obey ⟨Nat.le_of_ble_eq_true rfl, Nat.le_of_ble_eq_true rfl⟩) rfl rfl (Nat.le_of_ble_eq_true rfl) ⟨Nat.le_of_ble_eq_true rfl, Nat.le_of_ble_eq_true rfl⟩ dX7_text_85 (fun H locs hH => ?_)
    refine lv_aload_n hx hb dX7_text_88 rfl (lv_at hl 1 rfl) ?_
    refine x_get (C := RX7) (T := TX7) (N := 14) (v := .int (xi σ10 0 6)) hC hH (xe_X G σ10) rfl wyX7 6 (by decide) wfX7_35 rfl rfl dX7_text_89 ?_
    refine lv_iconst (v := 1) hx hb dX7_text_92 (by decide) ?_
    refine lv_isub hx hb dX7_text_93 ?_
    obtain ⟨rfl, rfl⟩ := some_i2 h
    exact x_iret hC hH hr rfl dX7_text_94

def fX_text (σ0 : XS) : Option ((Int32 × XS) ⊕ XS) :=
  ob2 (fR_isText σ0) fun r12 σ13 =>
  bnd (xi σ13 5 3) fun v14 =>
  bnd (xu σ13 5 1 (0 : Int32)) fun σ16 =>
  if r12 = 0 then (
    some (Sum.inl (((-100 : Int32) - v14), σ16)))
  else (
    if (xi σ16 0 6) = (14 : Int32) then (
      some (Sum.inl ((-1000000003 : Int32), σ16)))
    else (
      lwk σ16 <|
      some (Sum.inr σ16)))

/-- what text comes to: its answer at once, or a new law and what follows -/
abbrev xTo (z : (Int32 × XS) ⊕ XS) (r : Int32) (u : XS) : Prop := match z with
  | .inl q => r = q.1 ∧ u = q.2
  | .inr σk => ∃ a c t, frs (xL σk) a c t ∧ fX_textK (xnew σk a c t) a = some (r, u)
def xQt (G : XG) (σ0 : XS) (sz : Nat) (z : (Int32 × XS) ⊕ XS) := va_Qi (fun (r' : Int32) (u : XS) => xTo z r' u) (fun u t => xB G σ0 sz u t) (va_A (xW G σ0) sz)

set_option maxHeartbeats 4000000 in
set_option maxRecDepth 100000 in
theorem cX_text (l : Launch) (G : XG) (σ0 : XS) {z : (Int32 × XS) ⊕ XS} (h : fX_text σ0 = some z) (hk : ∀ σk, z = .inr σk → ∀ a c t, frs (xL σk) a c t → ∃ y, fX_textK (xnew σk a c t) a = some y) : ∀ sz, Met l yX7_text (Cond.code yX7_text cX7_text 4 (some .int) :: Tw) rmX_text (xP G σ0 sz [.ref (xA G 0)]) (xQt G σ0 sz z) 3 196 (va_A (xW G σ0) sz) := by
  intro sz
  refine Met.ofW (cc := cX7_text) (maxL := 4) (ret := (some .int)) (by decide) rfl ?_
  intro p e s m args below meth c s₁ Bd hml hv
  obtain ⟨hC, hr⟩ := jC_of Bd hml
  obtain ⟨rfl, rfl, hH⟩ := x_enter hv
  have hC : jC p s m _ meth c cX7_text 4 RX7 := hC
  have hx := hC.1.1
  have hb := hC.1.2.1
  have hown := hC.1.2.2.2.1
  have hts := hC.1.2.2.2.2
  have hl := lv_entry ([.ref (xA G 0)]) (n := 4) (Nat.le_of_ble_eq_true rfl)
  rw [lg_entry_eq]
  generalize (lg_sl ([.ref (xA G 0)]) ++ List.replicate (4 - (lg_sl ([.ref (xA G 0)])).length) Slot.unset).toArray = ls at hl ⊢
  have hl : lv_has ls 4 [(0, .ref (xA G 0))] := hl
  unfold fX_text at h
  refine W_nm (fun H locs eH eL => ?_)
  have hH : xH G s (va_A (xW G σ0) s.heap.size) σ0 H locs := by rw [eH, eL]; exact hH
  show W p l e rmX_text s m _ below meth c H locs 0 0 _ (F0 m 0 ls [])
  refine lv_aload_n hx hb dX7_text_0 rfl (lv_at hl 0 rfl) ?_
  refine x_get (C := RX7) (T := TX7) (N := 14) (v := .ref (xA G 7)) hC hH (xe_X G σ0) rfl wyX7 9 (by decide) wfX7_54 rfl rfl dX7_text_1 ?_
  obtain ⟨r12, σ13, h11, h⟩ := ob2_some h
  refine x_calli (vw := (RX3, TX3, 7)) (As := []) (rest := []) (cR_isText l G σ0  h11) hC hH hl (xe_R G σ0) rfl (cwV 0 hts (gV wmX7_234 wvX3_isText) rfl rfl rfl hdX3_isText ⟨Nat.le_of_ble_eq_true rfl, Nat.le_of_ble_eq_true rfl⟩) rfl rfl (Nat.le_of_ble_eq_true rfl) ⟨Nat.zero_le _, Nat.zero_le _⟩ dX7_text_4 (fun H locs hH => ?_)
  refine lv_istore_n (lv' := [(1, .int r12), (0, .ref (xA G 0))]) hx hb dX7_text_7 rfl hl (by decide) rfl (fun ls hl => ?_)
  refine lv_aload_n hx hb dX7_text_8 rfl (lv_at hl 1 rfl) ?_
  refine x_get (C := RX7) (T := TX7) (N := 14) (v := .ref (xA G 6)) hC hH (xe_X G σ13) rfl wyX7 8 (by decide) wfX7_45 rfl rfl dX7_text_9 ?_
  refine x_getN (C := RX6) (T := TX6) (N := 5) (v := .int (xi σ13 5 3)) (host := "RoadSorted") hC hH (xe_T G σ13) rfl wyX6 3 (by decide) (by decide +kernel) rfl rfl dX7_text_12 ?_
  obtain ⟨v14, e15, h⟩ := bnd_some h
  refine lv_tope e15 ?_
  refine lv_istore_n (lv' := [(2, .int v14), (1, .int r12), (0, .ref (xA G 0))]) hx hb dX7_text_15 rfl hl (by decide) rfl (fun ls hl => ?_)
  refine lv_aload_n hx hb dX7_text_16 rfl (lv_at hl 2 rfl) ?_
  refine x_get (C := RX7) (T := TX7) (N := 14) (v := .ref (xA G 6)) hC hH (xe_X G σ13) rfl wyX7 8 (by decide) wfX7_45 rfl rfl dX7_text_17 ?_
  refine lv_iconst (v := 0) hx hb dX7_text_20 (by decide) ?_
  obtain ⟨σ16, e17, h⟩ := bnd_some h
  refine x_putN (C := RX6) (T := TX6) (N := 5) (ty := .int) (v := .int (0 : Int32)) (host := "RoadSorted") hC hH (xe_T G σ13) rfl wyX6 tyX6_ok nmX6 1 (by decide) (by decide +kernel) rfl rfl (by decide +kernel) rfl rfl (Nat.le_of_ble_eq_true rfl) e17 (xs_T_1 G σ13 _) dX7_text_21 (fun H locs hH => ?_)
  refine lv_iload_n hx hb dX7_text_24 rfl (lv_at hl 1 rfl) ?_
  refine lv_if_ne (tgt := 33) hx hb dX7_text_25 (by decide) (fun c18 => ?_) (fun c18 => ?_)
  · have h := ite_f c18 h
    refine lv_aload_n hx hb dX7_text_33 rfl (lv_at hl 2 rfl) ?_
    refine x_get (C := RX7) (T := TX7) (N := 14) (v := .int (xi σ16 0 6)) hC hH (xe_X G σ16) rfl wyX7 6 (by decide) wfX7_35 rfl rfl dX7_text_34 ?_
    refine lv_bipush (v := 14) hx hb dX7_text_37 (by decide) ?_
    refine lv_icmp_ne (tgt := 45) hx hb dX7_text_39 (by decide) (fun c19 => ?_) (fun c19 => ?_)
    · have h := ite_f c19 h
      refine lv_aload_n hx hb dX7_text_45 rfl (lv_at hl 2 rfl) ?_
      refine x_get (C := RX7) (T := TX7) (N := 14) (v := .ref (xA G 7)) hC hH (xe_X G σ16) rfl wyX7 9 (by decide) wfX7_54 rfl rfl dX7_text_46 ?_
      obtain ⟨hz, h⟩ := lwk_some h
      obtain rfl := some_i1 h
      refine x_callLaw hC hH hl hz (gV wmX7_240 wvX3_law) ⟨Nat.le_of_ble_eq_true rfl, Nat.le_of_ble_eq_true rfl⟩ rfl (Nat.le_of_ble_eq_true rfl) ⟨Nat.le_of_ble_eq_true rfl, Nat.le_of_ble_eq_true rfl⟩ dX7_text_49 (fun a c t H locs hfr hH => ?_)
      obtain ⟨y, hy⟩ := hk σ16 rfl a c t hfr
      obtain ⟨r, σr⟩ := y
      exact W_mono (fun t5 => MQ_mono (fun o t6 hq => by
        obtain ⟨⟨r1, u1, e1, e2, e3⟩, e4⟩ := hq
        exact ⟨⟨r1, σr, e1, ⟨a, c, t, hfr, by rw [hy, e2]⟩, e3⟩, e4⟩)) (wX_textK hC hr a (xnew σ16 a c t) H locs ls hH (lv_sub hl [2] rfl) hy)
    · have h := ite_t c19 h
      refine lv_ldc (v := -1000000003) hx hb hown (hts _ wkX7_93) dX7_text_42 ?_
      obtain rfl := some_i1 h
      refine W.widen (k := 3) (n := 196) (Nat.le_of_ble_eq_true rfl) (Nat.le_of_ble_eq_true rfl) ?_
      exact W_mono (fun t5 => MQ_mono (fun o t6 hq => by
        obtain ⟨⟨r1, u1, e1, e2, e3⟩, e4⟩ := hq
        exact ⟨⟨r1, σ16, e1, ⟨e2, rfl⟩, e3⟩, e4⟩)) (x_iret (v := -1000000003) hC hH hr rfl dX7_text_44)
  · have h := ite_t c18 h
    refine lv_bipush (v := -100) hx hb dX7_text_28 (by decide) ?_
    refine lv_iload_n hx hb dX7_text_30 rfl (lv_at hl 0 rfl) ?_
    refine lv_isub hx hb dX7_text_31 ?_
    obtain rfl := some_i1 h
    refine W.widen (k := 3) (n := 196) (Nat.le_of_ble_eq_true rfl) (Nat.le_of_ble_eq_true rfl) ?_
    exact W_mono (fun t5 => MQ_mono (fun o t6 hq => by
      obtain ⟨⟨r1, u1, e1, e2, e3⟩, e4⟩ := hq
      exact ⟨⟨r1, σ16, e1, ⟨e2, rfl⟩, e3⟩, e4⟩)) (x_iret hC hH hr rfl dX7_text_32)
