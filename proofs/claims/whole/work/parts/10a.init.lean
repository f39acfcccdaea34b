/-! constructors: explicit cells -/
def eN (U : State) : Prop := (∀ q ∈ xNM, va_Nw (.methodLinkNest q.1 q.2.1 q.2.2.1 q.2.2.2) U) ∧ va_AO RX2 U ∧ va_AO RX4 U ∧ va_AO RX5 U
theorem eN_warm {s U : State} (hW : s.WarmedH U.vm) (h : eN s) : eN U := ⟨fun q hq => va_Nw.warmM hW (h.1 q hq), va_AO.moved hW.alike h.2.1, va_AO.moved hW.alike h.2.2.1, va_AO.moved hW.alike h.2.2.2⟩
theorem eN_call {U : State} {g : JFrame} {mk : MethodId} {a : Array Value} (h : eN U) : eN (U.calling g mk a) := ⟨fun q hq => va_Nw.same rfl rfl (h.1 q hq), va_AO.moved (u := U) (U := U.calling g mk a) (Vm.Alike.refl U.vm) h.2.1, va_AO.moved (u := U) (U := U.calling g mk a) (Vm.Alike.refl U.vm) h.2.2.1, va_AO.moved (u := U) (U := U.calling g mk a) (Vm.Alike.refl U.vm) h.2.2.2⟩
abbrev eP (D : va_G) (cI : ClassId) (ws : va_W) (sz : Nat) (av : List Value) : Array Value → State → Prop := va_Pc av (fun U => U.heap.size = sz ∧ va_P D vwCl ws U.heap ∧ va_K D vwCl [(cI, .int)] U ∧ va_D (fun _ => True) ws ∧ eN U)
theorem e_blind {D : va_G} {cI : ClassId} {ws : va_W} {sz : Nat} {av : List Value} : FrameBlind (eP D cI ws sz av) := fun a U g mk q => by
  obtain ⟨q0, q1, qP, qK, qD, qN⟩ := q
  exact ⟨q0, q1, qP, va_K.moved (u := U) (U := U.calling g mk a) (Vm.Alike.refl U.vm) qK, qD, eN_call qN⟩
theorem ci_eq {D : va_G} {cl : List vw_C} {tys : List (ClassId × FieldType)} {s : State} {c1 c2 : ClassId} (h : va_K D cl tys s) (i j : Nat) (hi : tys[i]? = some (c1, .int)) (hj : tys[j]? = some (c2, .int)) : c1 = c2 := by
  have h1 : s.vm.findClass ("[" ++ (FieldType.int).toString) = some c1 := (h.2 i _ hi).2
  have h2 : s.vm.findClass ("[" ++ (FieldType.int).toString) = some c2 := (h.2 j _ hj).2
  rw [h1] at h2
  exact Option.some.inj h2
theorem wOi : Cond.instanceMethod objectInit ∈ Tw := tw_t 25 (by decide +kernel) (by decide +kernel)
theorem wOc : Cond.code objectInit ⟨#[0xb1]⟩ 1 none ∈ Tw := tw_t 26 (by decide +kernel) (by decide +kernel)

theorem hdX0_init : yX0_init.cls ≠ "java/lang/invoke/MethodHandle" ∧ yX0_init.cls ≠ "java/lang/invoke/VarHandle" ∧ (parseMethodDescriptor yX0_init.desc).map (fun d => d.parameters.length) = some 0 := by decide +kernel
set_option maxHeartbeats 4000000 in
set_option maxRecDepth 100000 in
theorem eX0_init (l : Launch) (D : va_G) (cI : ClassId) (h0 : Nat) (sz : Nat) : Met l yX0_init (Cond.code yX0_init cX0_init 1 none :: Tw) { frames := 1, cells := 6, slots := 84, locals := 12 } (eP D cI [(h0, .inr (0, [.int 0, .null, .null, .null, .null, .null, .null, .int 0, .int 0, .int 0, .int 0, .null]))] sz [.ref h0]) (va_Qv (fun (_ : Unit) => True) (fun _ t => ∃ q1 q2 q3 q4 q5 q6 : Nat, va_P D vwCl [(h0, .inr (0, [.int (0 : Int32), .ref q1, .ref q2, .ref q3, .ref q4, .ref q5, .ref q6, .int (0 : Int32), .int (0 : Int32), .int (0 : Int32), .int (1 : Int32), .null])), (q1, .inl (cI, 14, .inl (fun _ => 0))), (q2, .inl (cI, 14, .inl (fun _ => 0))), (q3, .inl (cI, 14, .inl (fun _ => 0))), (q4, .inl (cI, 14, .inl (fun _ => 0))), (q5, .inl (cI, 14, .inl (fun _ => 0))), (q6, .inl (cI, 14, .inl (fun _ => 0)))] t.heap ∧ va_K D vwCl [(cI, .int)] t ∧ va_D (va_A [(h0, .inr (0, [.int 0, .null, .null, .null, .null, .null, .null, .int 0, .int 0, .int 0, .int 0, .null]))] sz) [(h0, .inr (0, [.int (0 : Int32), .ref q1, .ref q2, .ref q3, .ref q4, .ref q5, .ref q6, .int (0 : Int32), .int (0 : Int32), .int (0 : Int32), .int (1 : Int32), .null])), (q1, .inl (cI, 14, .inl (fun _ => 0))), (q2, .inl (cI, 14, .inl (fun _ => 0))), (q3, .inl (cI, 14, .inl (fun _ => 0))), (q4, .inl (cI, 14, .inl (fun _ => 0))), (q5, .inl (cI, 14, .inl (fun _ => 0))), (q6, .inl (cI, 14, .inl (fun _ => 0)))]) (va_A [(h0, .inr (0, [.int 0, .null, .null, .null, .null, .null, .null, .int 0, .int 0, .int 0, .int 0, .null]))] sz)) 6 84 (va_A [(h0, .inr (0, [.int 0, .null, .null, .null, .null, .null, .null, .int 0, .int 0, .int 0, .int 0, .null]))] sz) := by
  refine Met.ofW (cc := cX0_init) (maxL := 1) (ret := none) (by decide) rfl ?_
  intro p e s m args below meth c s₁ Bd hml hv
  obtain ⟨hC, hr⟩ := jC_of Bd hml
  have hC : jC p s m args meth c cX0_init 1 RX0 := hC
  have hin : meth.name = "<init>" := (name_of_methodNamed Bd.named Bd.method).1
  obtain ⟨rfl, hsz, hP, hK, hD0, hN⟩ := hv
  subst hsz
  have hx := hC.1.1
  have hb := hC.1.2.1
  have hown := hC.1.2.2.2.1
  have hts := hC.1.2.2.2.2
  have hlocks := hC.2
  have hD := hD0.self (sz := s.heap.size)
  generalize hAe : va_A [(h0, .inr (0, [.int 0, .null, .null, .null, .null, .null, .null, .int 0, .int 0, .int 0, .int 0, .null]))] s.heap.size = A at hD ⊢
  have hA : ∀ q : Nat, s.heap.size ≤ q → A q := fun q h => by rw [← hAe]; exact Or.inr h
  have hS : va_S A s.heap s.heap [] := va_S.rf
  have hl := lv_entry ([.ref h0]) (n := 1) (Nat.le_of_ble_eq_true rfl)
  rw [lg_entry_eq]
  generalize (lg_sl ([.ref h0]) ++ List.replicate (1 - (lg_sl ([.ref h0])).length) Slot.unset).toArray = ls at hl ⊢
  have hl : lv_has ls 1 [(0, .ref h0)] := hl
  refine W_nm (fun H locs eH eL => ?_)
  have hP : va_P D vwCl [(h0, .inr (0, [.int 0, .null, .null, .null, .null, .null, .null, .int 0, .int 0, .int 0, .int 0, .null]))] H := by rw [eH]; exact hP
  have hS : va_S A s.heap H locs := by rw [eH, eL]; exact hS
  show W p l e { frames := 1, cells := 6, slots := 84, locals := 12 } s m _ below meth c H locs 0 0 _ (F0 m 0 ls [])
  refine lv_aload_n hx hb dX0_init_0 rfl (lv_at hl 0 rfl) ?_
  refine W.objInit hx hb hown (hts _ wmX0_3) (hts _ wOi) (hts _ wOc) rfl (by rw [hml]; exact hl.1) rfl dX0_init_1 (Nat.le_of_ble_eq_true rfl) (Nat.le_of_ble_eq_true rfl) ?_
  refine W.eq (g2 := F0 m 4 ls []) rfl ?_
  refine lv_aload_n hx hb dX0_init_4 rfl (lv_at hl 0 rfl) ?_
  refine lv_iconst (v := 0) hx hb dX0_init_5 (by decide) ?_
  refine va_put (D := D) (ci := 0) (v := .int (0 : Int32)) (ty := .int) (C := RX0) (T := TX0) (N := 12) hx hb hts wyX0 tyX0 tyX0_ok nmX0 hown hK hP hD hS 0 rfl rfl 0 (by decide) (hts _ wfX0_9) (fun _ h9 => h9) rfl (by decide +kernel) rfl rfl (Nat.le_of_ble_eq_true rfl) dX0_init_6 (fun H locs hP hD hS => ?_)
  have hP : va_P D vwCl [(h0, .inr (0, [.int (0 : Int32), .null, .null, .null, .null, .null, .null, .int 0, .int 0, .int 0, .int 0, .null]))] H := hP
  have hD : va_D A [(h0, .inr (0, [.int (0 : Int32), .null, .null, .null, .null, .null, .null, .int 0, .int 0, .int 0, .int 0, .null]))] := hD
  refine lv_aload_n hx hb dX0_init_9 rfl (lv_at hl 0 rfl) ?_
  refine lv_bipush (v := 14) hx hb dX0_init_10 (by decide) ?_
  refine va_newa (atype := .int) (ty := .int) (N' := 14) (a0 := (14, .inl (fun _ => 0))) hx hb (hts _ wa_int) rfl hK hP hD hS hA (fun _ => rfl) (by decide) (by decide) (Nat.le_of_ble_eq_true rfl) (Nat.le_of_ble_eq_true rfl) (Nat.le_of_ble_eq_true rfl) dX0_init_12 (fun q1 cA H hK hP hD hS => ?_)
  have e9 : cI = cA := ci_eq hK 0 1 rfl rfl
  subst e9
  have hK := hK.sub (tys' := [(cI, .int)]) [0] rfl
  have hP : va_P D vwCl [(h0, .inr (0, [.int (0 : Int32), .null, .null, .null, .null, .null, .null, .int 0, .int 0, .int 0, .int 0, .null])), (q1, .inl (cI, 14, .inl (fun _ => 0)))] H := hP
  have hD : va_D A [(h0, .inr (0, [.int (0 : Int32), .null, .null, .null, .null, .null, .null, .int 0, .int 0, .int 0, .int 0, .null])), (q1, .inl (cI, 14, .inl (fun _ => 0)))] := hD
  refine W.widen (k := 1) (n := 14) (Nat.le_of_ble_eq_true rfl) (Nat.le_of_ble_eq_true rfl) ?_
  refine va_putF (D := D) (ci := 0) (v := .ref q1) (ty := .array .int) (C := RX0) (T := TX0) (N := 12) hx hb hts wyX0 tyX0 tyX0_ok nmX0 hown hK hP hD hS 0 rfl rfl 1 (by decide) (hts _ wfX0_15) (fun _ h9 => h9) rfl hin rfl (by decide +kernel) rfl rfl (Nat.le_of_ble_eq_true rfl) dX0_init_14 (fun H locs hP hD hS => ?_)
  have hP : va_P D vwCl [(h0, .inr (0, [.int (0 : Int32), .ref q1, .null, .null, .null, .null, .null, .int 0, .int 0, .int 0, .int 0, .null])), (q1, .inl (cI, 14, .inl (fun _ => 0)))] H := hP
  have hD : va_D A [(h0, .inr (0, [.int (0 : Int32), .ref q1, .null, .null, .null, .null, .null, .int 0, .int 0, .int 0, .int 0, .null])), (q1, .inl (cI, 14, .inl (fun _ => 0)))] := hD
  refine lv_aload_n hx hb dX0_init_17 rfl (lv_at hl 0 rfl) ?_
  refine lv_bipush (v := 14) hx hb dX0_init_18 (by decide) ?_
  refine va_newa (atype := .int) (ty := .int) (N' := 14) (a0 := (14, .inl (fun _ => 0))) hx hb (hts _ wa_int) rfl hK hP hD hS hA (fun _ => rfl) (by decide) (by decide) (Nat.le_of_ble_eq_true rfl) (Nat.le_of_ble_eq_true rfl) (Nat.le_of_ble_eq_true rfl) dX0_init_20 (fun q2 cA H hK hP hD hS => ?_)
  have e9 : cI = cA := ci_eq hK 0 1 rfl rfl
  subst e9
  have hK := hK.sub (tys' := [(cI, .int)]) [0] rfl
  have hP : va_P D vwCl [(h0, .inr (0, [.int (0 : Int32), .ref q1, .null, .null, .null, .null, .null, .int 0, .int 0, .int 0, .int 0, .null])), (q1, .inl (cI, 14, .inl (fun _ => 0))), (q2, .inl (cI, 14, .inl (fun _ => 0)))] H := hP
  have hD : va_D A [(h0, .inr (0, [.int (0 : Int32), .ref q1, .null, .null, .null, .null, .null, .int 0, .int 0, .int 0, .int 0, .null])), (q1, .inl (cI, 14, .inl (fun _ => 0))), (q2, .inl (cI, 14, .inl (fun _ => 0)))] := hD
  refine W.widen (k := 2) (n := 28) (Nat.le_of_ble_eq_true rfl) (Nat.le_of_ble_eq_true rfl) ?_
  refine va_putF (D := D) (ci := 0) (v := .ref q2) (ty := .array .int) (C := RX0) (T := TX0) (N := 12) hx hb hts wyX0 tyX0 tyX0_ok nmX0 hown hK hP hD hS 0 rfl rfl 2 (by decide) (hts _ wfX0_19) (fun _ h9 => h9) rfl hin rfl (by decide +kernel) rfl rfl (Nat.le_of_ble_eq_true rfl) dX0_init_22 (fun H locs hP hD hS => ?_)
  have hP : va_P D vwCl [(h0, .inr (0, [.int (0 : Int32), .ref q1, .ref q2, .null, .null, .null, .null, .int 0, .int 0, .int 0, .int 0, .null])), (q1, .inl (cI, 14, .inl (fun _ => 0))), (q2, .inl (cI, 14, .inl (fun _ => 0)))] H := hP
  have hD : va_D A [(h0, .inr (0, [.int (0 : Int32), .ref q1, .ref q2, .null, .null, .null, .null, .int 0, .int 0, .int 0, .int 0, .null])), (q1, .inl (cI, 14, .inl (fun _ => 0))), (q2, .inl (cI, 14, .inl (fun _ => 0)))] := hD
  refine lv_aload_n hx hb dX0_init_25 rfl (lv_at hl 0 rfl) ?_
  refine lv_bipush (v := 14) hx hb dX0_init_26 (by decide) ?_
  refine va_newa (atype := .int) (ty := .int) (N' := 14) (a0 := (14, .inl (fun _ => 0))) hx hb (hts _ wa_int) rfl hK hP hD hS hA (fun _ => rfl) (by decide) (by decide) (Nat.le_of_ble_eq_true rfl) (Nat.le_of_ble_eq_true rfl) (Nat.le_of_ble_eq_true rfl) dX0_init_28 (fun q3 cA H hK hP hD hS => ?_)
  have e9 : cI = cA := ci_eq hK 0 1 rfl rfl
  subst e9
  have hK := hK.sub (tys' := [(cI, .int)]) [0] rfl
  have hP : va_P D vwCl [(h0, .inr (0, [.int (0 : Int32), .ref q1, .ref q2, .null, .null, .null, .null, .int 0, .int 0, .int 0, .int 0, .null])), (q1, .inl (cI, 14, .inl (fun _ => 0))), (q2, .inl (cI, 14, .inl (fun _ => 0))), (q3, .inl (cI, 14, .inl (fun _ => 0)))] H := hP
  have hD : va_D A [(h0, .inr (0, [.int (0 : Int32), .ref q1, .ref q2, .null, .null, .null, .null, .int 0, .int 0, .int 0, .int 0, .null])), (q1, .inl (cI, 14, .inl (fun _ => 0))), (q2, .inl (cI, 14, .inl (fun _ => 0))), (q3, .inl (cI, 14, .inl (fun _ => 0)))] := hD
  refine W.widen (k := 3) (n := 42) (Nat.le_of_ble_eq_true rfl) (Nat.le_of_ble_eq_true rfl) ?_
  refine va_putF (D := D) (ci := 0) (v := .ref q3) (ty := .array .int) (C := RX0) (T := TX0) (N := 12) hx hb hts wyX0 tyX0 tyX0_ok nmX0 hown hK hP hD hS 0 rfl rfl 3 (by decide) (hts _ wfX0_22) (fun _ h9 => h9) rfl hin rfl (by decide +kernel) rfl rfl (Nat.le_of_ble_eq_true rfl) dX0_init_30 (fun H locs hP hD hS => ?_)
  have hP : va_P D vwCl [(h0, .inr (0, [.int (0 : Int32), .ref q1, .ref q2, .ref q3, .null, .null, .null, .int 0, .int 0, .int 0, .int 0, .null])), (q1, .inl (cI, 14, .inl (fun _ => 0))), (q2, .inl (cI, 14, .inl (fun _ => 0))), (q3, .inl (cI, 14, .inl (fun _ => 0)))] H := hP
  have hD : va_D A [(h0, .inr (0, [.int (0 : Int32), .ref q1, .ref q2, .ref q3, .null, .null, .null, .int 0, .int 0, .int 0, .int 0, .null])), (q1, .inl (cI, 14, .inl (fun _ => 0))), (q2, .inl (cI, 14, .inl (fun _ => 0))), (q3, .inl (cI, 14, .inl (fun _ => 0)))] := hD
  refine lv_aload_n hx hb dX0_init_33 rfl (lv_at hl 0 rfl) ?_
  refine lv_bipush (v := 14) hx hb dX0_init_34 (by decide) ?_
  refine va_newa (atype := .int) (ty := .int) (N' := 14) (a0 := (14, .inl (fun _ => 0))) hx hb (hts _ wa_int) rfl hK hP hD hS hA (fun _ => rfl) (by decide) (by decide) (Nat.le_of_ble_eq_true rfl) (Nat.le_of_ble_eq_true rfl) (Nat.le_of_ble_eq_true rfl) dX0_init_36 (fun q4 cA H hK hP hD hS => ?_)
  have e9 : cI = cA := ci_eq hK 0 1 rfl rfl
  subst e9
  have hK := hK.sub (tys' := [(cI, .int)]) [0] rfl
  have hP : va_P D vwCl [(h0, .inr (0, [.int (0 : Int32), .ref q1, .ref q2, .ref q3, .null, .null, .null, .int 0, .int 0, .int 0, .int 0, .null])), (q1, .inl (cI, 14, .inl (fun _ => 0))), (q2, .inl (cI, 14, .inl (fun _ => 0))), (q3, .inl (cI, 14, .inl (fun _ => 0))), (q4, .inl (cI, 14, .inl (fun _ => 0)))] H := hP
  have hD : va_D A [(h0, .inr (0, [.int (0 : Int32), .ref q1, .ref q2, .ref q3, .null, .null, .null, .int 0, .int 0, .int 0, .int 0, .null])), (q1, .inl (cI, 14, .inl (fun _ => 0))), (q2, .inl (cI, 14, .inl (fun _ => 0))), (q3, .inl (cI, 14, .inl (fun _ => 0))), (q4, .inl (cI, 14, .inl (fun _ => 0)))] := hD
  refine W.widen (k := 4) (n := 56) (Nat.le_of_ble_eq_true rfl) (Nat.le_of_ble_eq_true rfl) ?_
  refine va_putF (D := D) (ci := 0) (v := .ref q4) (ty := .array .int) (C := RX0) (T := TX0) (N := 12) hx hb hts wyX0 tyX0 tyX0_ok nmX0 hown hK hP hD hS 0 rfl rfl 4 (by decide) (hts _ wfX0_25) (fun _ h9 => h9) rfl hin rfl (by decide +kernel) rfl rfl (Nat.le_of_ble_eq_true rfl) dX0_init_38 (fun H locs hP hD hS => ?_)
  have hP : va_P D vwCl [(h0, .inr (0, [.int (0 : Int32), .ref q1, .ref q2, .ref q3, .ref q4, .null, .null, .int 0, .int 0, .int 0, .int 0, .null])), (q1, .inl (cI, 14, .inl (fun _ => 0))), (q2, .inl (cI, 14, .inl (fun _ => 0))), (q3, .inl (cI, 14, .inl (fun _ => 0))), (q4, .inl (cI, 14, .inl (fun _ => 0)))] H := hP
  have hD : va_D A [(h0, .inr (0, [.int (0 : Int32), .ref q1, .ref q2, .ref q3, .ref q4, .null, .null, .int 0, .int 0, .int 0, .int 0, .null])), (q1, .inl (cI, 14, .inl (fun _ => 0))), (q2, .inl (cI, 14, .inl (fun _ => 0))), (q3, .inl (cI, 14, .inl (fun _ => 0))), (q4, .inl (cI, 14, .inl (fun _ => 0)))] := hD
  refine lv_aload_n hx hb dX0_init_41 rfl (lv_at hl 0 rfl) ?_
  refine lv_bipush (v := 14) hx hb dX0_init_42 (by decide) ?_
  refine va_newa (atype := .int) (ty := .int) (N' := 14) (a0 := (14, .inl (fun _ => 0))) hx hb (hts _ wa_int) rfl hK hP hD hS hA (fun _ => rfl) (by decide) (by decide) (Nat.le_of_ble_eq_true rfl) (Nat.le_of_ble_eq_true rfl) (Nat.le_of_ble_eq_true rfl) dX0_init_44 (fun q5 cA H hK hP hD hS => ?_)
  have e9 : cI = cA := ci_eq hK 0 1 rfl rfl
  subst e9
  have hK := hK.sub (tys' := [(cI, .int)]) [0] rfl
  have hP : va_P D vwCl [(h0, .inr (0, [.int (0 : Int32), .ref q1, .ref q2, .ref q3, .ref q4, .null, .null, .int 0, .int 0, .int 0, .int 0, .null])), (q1, .inl (cI, 14, .inl (fun _ => 0))), (q2, .inl (cI, 14, .inl (fun _ => 0))), (q3, .inl (cI, 14, .inl (fun _ => 0))), (q4, .inl (cI, 14, .inl (fun _ => 0))), (q5, .inl (cI, 14, .inl (fun _ => 0)))] H := hP
  have hD : va_D A [(h0, .inr (0, [.int (0 : Int32), .ref q1, .ref q2, .ref q3, .ref q4, .null, .null, .int 0, .int 0, .int 0, .int 0, .null])), (q1, .inl (cI, 14, .inl (fun _ => 0))), (q2, .inl (cI, 14, .inl (fun _ => 0))), (q3, .inl (cI, 14, .inl (fun _ => 0))), (q4, .inl (cI, 14, .inl (fun _ => 0))), (q5, .inl (cI, 14, .inl (fun _ => 0)))] := hD
  refine W.widen (k := 5) (n := 70) (Nat.le_of_ble_eq_true rfl) (Nat.le_of_ble_eq_true rfl) ?_
  refine va_putF (D := D) (ci := 0) (v := .ref q5) (ty := .array .int) (C := RX0) (T := TX0) (N := 12) hx hb hts wyX0 tyX0 tyX0_ok nmX0 hown hK hP hD hS 0 rfl rfl 5 (by decide) (hts _ wfX0_28) (fun _ h9 => h9) rfl hin rfl (by decide +kernel) rfl rfl (Nat.le_of_ble_eq_true rfl) dX0_init_46 (fun H locs hP hD hS => ?_)
  have hP : va_P D vwCl [(h0, .inr (0, [.int (0 : Int32), .ref q1, .ref q2, .ref q3, .ref q4, .ref q5, .null, .int 0, .int 0, .int 0, .int 0, .null])), (q1, .inl (cI, 14, .inl (fun _ => 0))), (q2, .inl (cI, 14, .inl (fun _ => 0))), (q3, .inl (cI, 14, .inl (fun _ => 0))), (q4, .inl (cI, 14, .inl (fun _ => 0))), (q5, .inl (cI, 14, .inl (fun _ => 0)))] H := hP
  have hD : va_D A [(h0, .inr (0, [.int (0 : Int32), .ref q1, .ref q2, .ref q3, .ref q4, .ref q5, .null, .int 0, .int 0, .int 0, .int 0, .null])), (q1, .inl (cI, 14, .inl (fun _ => 0))), (q2, .inl (cI, 14, .inl (fun _ => 0))), (q3, .inl (cI, 14, .inl (fun _ => 0))), (q4, .inl (cI, 14, .inl (fun _ => 0))), (q5, .inl (cI, 14, .inl (fun _ => 0)))] := hD
  refine lv_aload_n hx hb dX0_init_49 rfl (lv_at hl 0 rfl) ?_
  refine lv_bipush (v := 14) hx hb dX0_init_50 (by decide) ?_
  refine va_newa (atype := .int) (ty := .int) (N' := 14) (a0 := (14, .inl (fun _ => 0))) hx hb (hts _ wa_int) rfl hK hP hD hS hA (fun _ => rfl) (by decide) (by decide) (Nat.le_of_ble_eq_true rfl) (Nat.le_of_ble_eq_true rfl) (Nat.le_of_ble_eq_true rfl) dX0_init_52 (fun q6 cA H hK hP hD hS => ?_)
  have e9 : cI = cA := ci_eq hK 0 1 rfl rfl
  subst e9
  have hK := hK.sub (tys' := [(cI, .int)]) [0] rfl
  have hP : va_P D vwCl [(h0, .inr (0, [.int (0 : Int32), .ref q1, .ref q2, .ref q3, .ref q4, .ref q5, .null, .int 0, .int 0, .int 0, .int 0, .null])), (q1, .inl (cI, 14, .inl (fun _ => 0))), (q2, .inl (cI, 14, .inl (fun _ => 0))), (q3, .inl (cI, 14, .inl (fun _ => 0))), (q4, .inl (cI, 14, .inl (fun _ => 0))), (q5, .inl (cI, 14, .inl (fun _ => 0))), (q6, .inl (cI, 14, .inl (fun _ => 0)))] H := hP
  have hD : va_D A [(h0, .inr (0, [.int (0 : Int32), .ref q1, .ref q2, .ref q3, .ref q4, .ref q5, .null, .int 0, .int 0, .int 0, .int 0, .null])), (q1, .inl (cI, 14, .inl (fun _ => 0))), (q2, .inl (cI, 14, .inl (fun _ => 0))), (q3, .inl (cI, 14, .inl (fun _ => 0))), (q4, .inl (cI, 14, .inl (fun _ => 0))), (q5, .inl (cI, 14, .inl (fun _ => 0))), (q6, .inl (cI, 14, .inl (fun _ => 0)))] := hD
  refine W.widen (k := 6) (n := 84) (Nat.le_of_ble_eq_true rfl) (Nat.le_of_ble_eq_true rfl) ?_
  refine va_putF (D := D) (ci := 0) (v := .ref q6) (ty := .array .int) (C := RX0) (T := TX0) (N := 12) hx hb hts wyX0 tyX0 tyX0_ok nmX0 hown hK hP hD hS 0 rfl rfl 6 (by decide) (hts _ wfX0_31) (fun _ h9 => h9) rfl hin rfl (by decide +kernel) rfl rfl (Nat.le_of_ble_eq_true rfl) dX0_init_54 (fun H locs hP hD hS => ?_)
  have hP : va_P D vwCl [(h0, .inr (0, [.int (0 : Int32), .ref q1, .ref q2, .ref q3, .ref q4, .ref q5, .ref q6, .int 0, .int 0, .int 0, .int 0, .null])), (q1, .inl (cI, 14, .inl (fun _ => 0))), (q2, .inl (cI, 14, .inl (fun _ => 0))), (q3, .inl (cI, 14, .inl (fun _ => 0))), (q4, .inl (cI, 14, .inl (fun _ => 0))), (q5, .inl (cI, 14, .inl (fun _ => 0))), (q6, .inl (cI, 14, .inl (fun _ => 0)))] H := hP
  have hD : va_D A [(h0, .inr (0, [.int (0 : Int32), .ref q1, .ref q2, .ref q3, .ref q4, .ref q5, .ref q6, .int 0, .int 0, .int 0, .int 0, .null])), (q1, .inl (cI, 14, .inl (fun _ => 0))), (q2, .inl (cI, 14, .inl (fun _ => 0))), (q3, .inl (cI, 14, .inl (fun _ => 0))), (q4, .inl (cI, 14, .inl (fun _ => 0))), (q5, .inl (cI, 14, .inl (fun _ => 0))), (q6, .inl (cI, 14, .inl (fun _ => 0)))] := hD
  refine lv_aload_n hx hb dX0_init_57 rfl (lv_at hl 0 rfl) ?_
  refine lv_iconst (v := 0) hx hb dX0_init_58 (by decide) ?_
  refine va_put (D := D) (ci := 0) (v := .int (0 : Int32)) (ty := .int) (C := RX0) (T := TX0) (N := 12) hx hb hts wyX0 tyX0 tyX0_ok nmX0 hown hK hP hD hS 0 rfl rfl 7 (by decide) (hts _ wfX0_34) (fun _ h9 => h9) rfl (by decide +kernel) rfl rfl (Nat.le_of_ble_eq_true rfl) dX0_init_59 (fun H locs hP hD hS => ?_)
  have hP : va_P D vwCl [(h0, .inr (0, [.int (0 : Int32), .ref q1, .ref q2, .ref q3, .ref q4, .ref q5, .ref q6, .int (0 : Int32), .int 0, .int 0, .int 0, .null])), (q1, .inl (cI, 14, .inl (fun _ => 0))), (q2, .inl (cI, 14, .inl (fun _ => 0))), (q3, .inl (cI, 14, .inl (fun _ => 0))), (q4, .inl (cI, 14, .inl (fun _ => 0))), (q5, .inl (cI, 14, .inl (fun _ => 0))), (q6, .inl (cI, 14, .inl (fun _ => 0)))] H := hP
  have hD : va_D A [(h0, .inr (0, [.int (0 : Int32), .ref q1, .ref q2, .ref q3, .ref q4, .ref q5, .ref q6, .int (0 : Int32), .int 0, .int 0, .int 0, .null])), (q1, .inl (cI, 14, .inl (fun _ => 0))), (q2, .inl (cI, 14, .inl (fun _ => 0))), (q3, .inl (cI, 14, .inl (fun _ => 0))), (q4, .inl (cI, 14, .inl (fun _ => 0))), (q5, .inl (cI, 14, .inl (fun _ => 0))), (q6, .inl (cI, 14, .inl (fun _ => 0)))] := hD
  refine lv_aload_n hx hb dX0_init_62 rfl (lv_at hl 0 rfl) ?_
  refine lv_iconst (v := 0) hx hb dX0_init_63 (by decide) ?_
  refine va_put (D := D) (ci := 0) (v := .int (0 : Int32)) (ty := .int) (C := RX0) (T := TX0) (N := 12) hx hb hts wyX0 tyX0 tyX0_ok nmX0 hown hK hP hD hS 0 rfl rfl 8 (by decide) (hts _ wfX0_37) (fun _ h9 => h9) rfl (by decide +kernel) rfl rfl (Nat.le_of_ble_eq_true rfl) dX0_init_64 (fun H locs hP hD hS => ?_)
  have hP : va_P D vwCl [(h0, .inr (0, [.int (0 : Int32), .ref q1, .ref q2, .ref q3, .ref q4, .ref q5, .ref q6, .int (0 : Int32), .int (0 : Int32), .int 0, .int 0, .null])), (q1, .inl (cI, 14, .inl (fun _ => 0))), (q2, .inl (cI, 14, .inl (fun _ => 0))), (q3, .inl (cI, 14, .inl (fun _ => 0))), (q4, .inl (cI, 14, .inl (fun _ => 0))), (q5, .inl (cI, 14, .inl (fun _ => 0))), (q6, .inl (cI, 14, .inl (fun _ => 0)))] H := hP
  have hD : va_D A [(h0, .inr (0, [.int (0 : Int32), .ref q1, .ref q2, .ref q3, .ref q4, .ref q5, .ref q6, .int (0 : Int32), .int (0 : Int32), .int 0, .int 0, .null])), (q1, .inl (cI, 14, .inl (fun _ => 0))), (q2, .inl (cI, 14, .inl (fun _ => 0))), (q3, .inl (cI, 14, .inl (fun _ => 0))), (q4, .inl (cI, 14, .inl (fun _ => 0))), (q5, .inl (cI, 14, .inl (fun _ => 0))), (q6, .inl (cI, 14, .inl (fun _ => 0)))] := hD
  refine lv_aload_n hx hb dX0_init_67 rfl (lv_at hl 0 rfl) ?_
  refine lv_iconst (v := 0) hx hb dX0_init_68 (by decide) ?_
  refine va_put (D := D) (ci := 0) (v := .int (0 : Int32)) (ty := .int) (C := RX0) (T := TX0) (N := 12) hx hb hts wyX0 tyX0 tyX0_ok nmX0 hown hK hP hD hS 0 rfl rfl 9 (by decide) (hts _ wfX0_40) (fun _ h9 => h9) rfl (by decide +kernel) rfl rfl (Nat.le_of_ble_eq_true rfl) dX0_init_69 (fun H locs hP hD hS => ?_)
  have hP : va_P D vwCl [(h0, .inr (0, [.int (0 : Int32), .ref q1, .ref q2, .ref q3, .ref q4, .ref q5, .ref q6, .int (0 : Int32), .int (0 : Int32), .int (0 : Int32), .int 0, .null])), (q1, .inl (cI, 14, .inl (fun _ => 0))), (q2, .inl (cI, 14, .inl (fun _ => 0))), (q3, .inl (cI, 14, .inl (fun _ => 0))), (q4, .inl (cI, 14, .inl (fun _ => 0))), (q5, .inl (cI, 14, .inl (fun _ => 0))), (q6, .inl (cI, 14, .inl (fun _ => 0)))] H := hP
  have hD : va_D A [(h0, .inr (0, [.int (0 : Int32), .ref q1, .ref q2, .ref q3, .ref q4, .ref q5, .ref q6, .int (0 : Int32), .int (0 : Int32), .int (0 : Int32), .int 0, .null])), (q1, .inl (cI, 14, .inl (fun _ => 0))), (q2, .inl (cI, 14, .inl (fun _ => 0))), (q3, .inl (cI, 14, .inl (fun _ => 0))), (q4, .inl (cI, 14, .inl (fun _ => 0))), (q5, .inl (cI, 14, .inl (fun _ => 0))), (q6, .inl (cI, 14, .inl (fun _ => 0)))] := hD
  refine lv_aload_n hx hb dX0_init_72 rfl (lv_at hl 0 rfl) ?_
  refine lv_iconst (v := 1) hx hb dX0_init_73 (by decide) ?_
  refine va_put (D := D) (ci := 0) (v := .int (1 : Int32)) (ty := .int) (C := RX0) (T := TX0) (N := 12) hx hb hts wyX0 tyX0 tyX0_ok nmX0 hown hK hP hD hS 0 rfl rfl 10 (by decide) (hts _ wfX0_43) (fun _ h9 => h9) rfl (by decide +kernel) rfl rfl (Nat.le_of_ble_eq_true rfl) dX0_init_74 (fun H locs hP hD hS => ?_)
  have hP : va_P D vwCl [(h0, .inr (0, [.int (0 : Int32), .ref q1, .ref q2, .ref q3, .ref q4, .ref q5, .ref q6, .int (0 : Int32), .int (0 : Int32), .int (0 : Int32), .int (1 : Int32), .null])), (q1, .inl (cI, 14, .inl (fun _ => 0))), (q2, .inl (cI, 14, .inl (fun _ => 0))), (q3, .inl (cI, 14, .inl (fun _ => 0))), (q4, .inl (cI, 14, .inl (fun _ => 0))), (q5, .inl (cI, 14, .inl (fun _ => 0))), (q6, .inl (cI, 14, .inl (fun _ => 0)))] H := hP
  have hD : va_D A [(h0, .inr (0, [.int (0 : Int32), .ref q1, .ref q2, .ref q3, .ref q4, .ref q5, .ref q6, .int (0 : Int32), .int (0 : Int32), .int (0 : Int32), .int (1 : Int32), .null])), (q1, .inl (cI, 14, .inl (fun _ => 0))), (q2, .inl (cI, 14, .inl (fun _ => 0))), (q3, .inl (cI, 14, .inl (fun _ => 0))), (q4, .inl (cI, 14, .inl (fun _ => 0))), (q5, .inl (cI, 14, .inl (fun _ => 0))), (q6, .inl (cI, 14, .inl (fun _ => 0)))] := hD
  refine lv_aload_n hx hb dX0_init_77 rfl (lv_at hl 0 rfl) ?_
  refine lv_null hx hb dX0_init_78 ?_
  refine va_put (D := D) (ci := 0) (v := .null) (ty := .object "RoadSorted$Law") (C := RX0) (T := TX0) (N := 12) hx hb hts wyX0 tyX0 tyX0_ok nmX0 hown hK hP hD hS 0 rfl rfl 11 (by decide) (hts _ wfX0_46) (fun _ h9 => h9) rfl (by decide +kernel) rfl rfl (Nat.le_of_ble_eq_true rfl) dX0_init_79 (fun H locs hP hD hS => ?_)
  have hP : va_P D vwCl [(h0, .inr (0, [.int (0 : Int32), .ref q1, .ref q2, .ref q3, .ref q4, .ref q5, .ref q6, .int (0 : Int32), .int (0 : Int32), .int (0 : Int32), .int (1 : Int32), .null])), (q1, .inl (cI, 14, .inl (fun _ => 0))), (q2, .inl (cI, 14, .inl (fun _ => 0))), (q3, .inl (cI, 14, .inl (fun _ => 0))), (q4, .inl (cI, 14, .inl (fun _ => 0))), (q5, .inl (cI, 14, .inl (fun _ => 0))), (q6, .inl (cI, 14, .inl (fun _ => 0)))] H := hP
  have hD : va_D A [(h0, .inr (0, [.int (0 : Int32), .ref q1, .ref q2, .ref q3, .ref q4, .ref q5, .ref q6, .int (0 : Int32), .int (0 : Int32), .int (0 : Int32), .int (1 : Int32), .null])), (q1, .inl (cI, 14, .inl (fun _ => 0))), (q2, .inl (cI, 14, .inl (fun _ => 0))), (q3, .inl (cI, 14, .inl (fun _ => 0))), (q4, .inl (cI, 14, .inl (fun _ => 0))), (q5, .inl (cI, 14, .inl (fun _ => 0))), (q6, .inl (cI, 14, .inl (fun _ => 0)))] := hD
  have hP9 := hP.sub (ws' := [(h0, .inr (0, [.int (0 : Int32), .ref q1, .ref q2, .ref q3, .ref q4, .ref q5, .ref q6, .int (0 : Int32), .int (0 : Int32), .int (0 : Int32), .int (1 : Int32), .null])), (q1, .inl (cI, 14, .inl (fun _ => 0))), (q2, .inl (cI, 14, .inl (fun _ => 0))), (q3, .inl (cI, 14, .inl (fun _ => 0))), (q4, .inl (cI, 14, .inl (fun _ => 0))), (q5, .inl (cI, 14, .inl (fun _ => 0))), (q6, .inl (cI, 14, .inl (fun _ => 0)))]) [0, 1, 2, 3, 4, 5, 6] rfl
  have hD9 := hD.sub (ws' := [(h0, .inr (0, [.int (0 : Int32), .ref q1, .ref q2, .ref q3, .ref q4, .ref q5, .ref q6, .int (0 : Int32), .int (0 : Int32), .int (0 : Int32), .int (1 : Int32), .null])), (q1, .inl (cI, 14, .inl (fun _ => 0))), (q2, .inl (cI, 14, .inl (fun _ => 0))), (q3, .inl (cI, 14, .inl (fun _ => 0))), (q4, .inl (cI, 14, .inl (fun _ => 0))), (q5, .inl (cI, 14, .inl (fun _ => 0))), (q6, .inl (cI, 14, .inl (fun _ => 0)))]) [0, 1, 2, 3, 4, 5, 6] (by decide) rfl
  have hK9 := hK.sub (tys' := [(cI, .int)]) [0] rfl
  exact W.vret hx hb hr (fun t ht hW => ⟨⟨(), rfl, trivial, q1, q2, q3, q4, q5, q6, by rw [ht]; exact hP9, va_K.moved hW.alike hK9, hD9⟩, hS.F ht⟩) hS.2.2 dX0_init_82

theorem hdX4_init : yX4_init.cls ≠ "java/lang/invoke/MethodHandle" ∧ yX4_init.cls ≠ "java/lang/invoke/VarHandle" ∧ (parseMethodDescriptor yX4_init.desc).map (fun d => d.parameters.length) = some 0 := by decide +kernel
set_option maxHeartbeats 4000000 in
set_option maxRecDepth 100000 in
theorem eX4_init (l : Launch) (D : va_G) (cI : ClassId) (h0 : Nat) (sz : Nat) : Met l yX4_init (Cond.code yX4_init cX4_init 1 none :: Tw) { frames := 1, cells := 1, slots := 24, locals := 12 } (eP D cI [(h0, .inr (3, [.int 0, .int 0, .null]))] sz [.ref h0]) (va_Qv (fun (_ : Unit) => True) (fun _ t => ∃ q1 : Nat, va_P D vwCl [(h0, .inr (3, [.int (-1 : Int32), .int (0 : Int32), .ref q1])), (q1, .inl (cI, 24, .inl (fun _ => 0)))] t.heap ∧ va_K D vwCl [(cI, .int)] t ∧ va_D (va_A [(h0, .inr (3, [.int 0, .int 0, .null]))] sz) [(h0, .inr (3, [.int (-1 : Int32), .int (0 : Int32), .ref q1])), (q1, .inl (cI, 24, .inl (fun _ => 0)))]) (va_A [(h0, .inr (3, [.int 0, .int 0, .null]))] sz)) 1 24 (va_A [(h0, .inr (3, [.int 0, .int 0, .null]))] sz) := by
  refine Met.ofW (cc := cX4_init) (maxL := 1) (ret := none) (by decide) rfl ?_
  intro p e s m args below meth c s₁ Bd hml hv
  obtain ⟨hC, hr⟩ := jC_of Bd hml
  have hC : jC p s m args meth c cX4_init 1 RX4 := hC
  have hin : meth.name = "<init>" := (name_of_methodNamed Bd.named Bd.method).1
  obtain ⟨rfl, hsz, hP, hK, hD0, hN⟩ := hv
  subst hsz
  have hx := hC.1.1
  have hb := hC.1.2.1
  have hown := hC.1.2.2.2.1
  have hts := hC.1.2.2.2.2
  have hlocks := hC.2
  have hD := hD0.self (sz := s.heap.size)
  generalize hAe : va_A [(h0, .inr (3, [.int 0, .int 0, .null]))] s.heap.size = A at hD ⊢
  have hA : ∀ q : Nat, s.heap.size ≤ q → A q := fun q h => by rw [← hAe]; exact Or.inr h
  have hS : va_S A s.heap s.heap [] := va_S.rf
  have hl := lv_entry ([.ref h0]) (n := 1) (Nat.le_of_ble_eq_true rfl)
  rw [lg_entry_eq]
  generalize (lg_sl ([.ref h0]) ++ List.replicate (1 - (lg_sl ([.ref h0])).length) Slot.unset).toArray = ls at hl ⊢
  have hl : lv_has ls 1 [(0, .ref h0)] := hl
  refine W_nm (fun H locs eH eL => ?_)
  have hP : va_P D vwCl [(h0, .inr (3, [.int 0, .int 0, .null]))] H := by rw [eH]; exact hP
  have hS : va_S A s.heap H locs := by rw [eH, eL]; exact hS
  show W p l e { frames := 1, cells := 1, slots := 24, locals := 12 } s m _ below meth c H locs 0 0 _ (F0 m 0 ls [])
  refine lv_aload_n hx hb dX4_init_0 rfl (lv_at hl 0 rfl) ?_
  refine W.objInit hx hb hown (hts _ wmX4_3) (hts _ wOi) (hts _ wOc) rfl (by rw [hml]; exact hl.1) rfl dX4_init_1 (Nat.le_of_ble_eq_true rfl) (Nat.le_of_ble_eq_true rfl) ?_
  refine W.eq (g2 := F0 m 4 ls []) rfl ?_
  refine lv_aload_n hx hb dX4_init_4 rfl (lv_at hl 0 rfl) ?_
  refine lv_iconst (v := -1) hx hb dX4_init_5 (by decide) ?_
  refine va_put (D := D) (ci := 3) (v := .int (-1 : Int32)) (ty := .int) (C := RX4) (T := TX4) (N := 3) hx hb hts wyX4 tyX4 tyX4_ok nmX4 hown hK hP hD hS 0 rfl rfl 0 (by decide) (hts _ wfX4_11) (fun _ h9 => h9) rfl (by decide +kernel) rfl rfl (Nat.le_of_ble_eq_true rfl) dX4_init_6 (fun H locs hP hD hS => ?_)
  have hP : va_P D vwCl [(h0, .inr (3, [.int (-1 : Int32), .int 0, .null]))] H := hP
  have hD : va_D A [(h0, .inr (3, [.int (-1 : Int32), .int 0, .null]))] := hD
  refine lv_aload_n hx hb dX4_init_9 rfl (lv_at hl 0 rfl) ?_
  refine lv_iconst (v := 0) hx hb dX4_init_10 (by decide) ?_
  refine va_put (D := D) (ci := 3) (v := .int (0 : Int32)) (ty := .int) (C := RX4) (T := TX4) (N := 3) hx hb hts wyX4 tyX4 tyX4_ok nmX4 hown hK hP hD hS 0 rfl rfl 1 (by decide) (hts _ wfX4_15) (fun _ h9 => h9) rfl (by decide +kernel) rfl rfl (Nat.le_of_ble_eq_true rfl) dX4_init_11 (fun H locs hP hD hS => ?_)
  have hP : va_P D vwCl [(h0, .inr (3, [.int (-1 : Int32), .int (0 : Int32), .null]))] H := hP
  have hD : va_D A [(h0, .inr (3, [.int (-1 : Int32), .int (0 : Int32), .null]))] := hD
  refine lv_aload_n hx hb dX4_init_14 rfl (lv_at hl 0 rfl) ?_
  refine lv_bipush (v := 24) hx hb dX4_init_15 (by decide) ?_
  refine va_newa (atype := .int) (ty := .int) (N' := 24) (a0 := (24, .inl (fun _ => 0))) hx hb (hts _ wa_int) rfl hK hP hD hS hA (fun _ => rfl) (by decide) (by decide) (Nat.le_of_ble_eq_true rfl) (Nat.le_of_ble_eq_true rfl) (Nat.le_of_ble_eq_true rfl) dX4_init_17 (fun q1 cA H hK hP hD hS => ?_)
  have e9 : cI = cA := ci_eq hK 0 1 rfl rfl
  subst e9
  have hK := hK.sub (tys' := [(cI, .int)]) [0] rfl
  have hP : va_P D vwCl [(h0, .inr (3, [.int (-1 : Int32), .int (0 : Int32), .null])), (q1, .inl (cI, 24, .inl (fun _ => 0)))] H := hP
  have hD : va_D A [(h0, .inr (3, [.int (-1 : Int32), .int (0 : Int32), .null])), (q1, .inl (cI, 24, .inl (fun _ => 0)))] := hD
  refine W.widen (k := 1) (n := 24) (Nat.le_of_ble_eq_true rfl) (Nat.le_of_ble_eq_true rfl) ?_
  refine va_putF (D := D) (ci := 3) (v := .ref q1) (ty := .array .int) (C := RX4) (T := TX4) (N := 3) hx hb hts wyX4 tyX4 tyX4_ok nmX4 hown hK hP hD hS 0 rfl rfl 2 (by decide) (hts _ wfX4_18) (fun _ h9 => h9) rfl hin rfl (by decide +kernel) rfl rfl (Nat.le_of_ble_eq_true rfl) dX4_init_19 (fun H locs hP hD hS => ?_)
  have hP : va_P D vwCl [(h0, .inr (3, [.int (-1 : Int32), .int (0 : Int32), .ref q1])), (q1, .inl (cI, 24, .inl (fun _ => 0)))] H := hP
  have hD : va_D A [(h0, .inr (3, [.int (-1 : Int32), .int (0 : Int32), .ref q1])), (q1, .inl (cI, 24, .inl (fun _ => 0)))] := hD
  have hP9 := hP.sub (ws' := [(h0, .inr (3, [.int (-1 : Int32), .int (0 : Int32), .ref q1])), (q1, .inl (cI, 24, .inl (fun _ => 0)))]) [0, 1] rfl
  have hD9 := hD.sub (ws' := [(h0, .inr (3, [.int (-1 : Int32), .int (0 : Int32), .ref q1])), (q1, .inl (cI, 24, .inl (fun _ => 0)))]) [0, 1] (by decide) rfl
  have hK9 := hK.sub (tys' := [(cI, .int)]) [0] rfl
  exact W.vret hx hb hr (fun t ht hW => ⟨⟨(), rfl, trivial, q1, by rw [ht]; exact hP9, va_K.moved hW.alike hK9, hD9⟩, hS.F ht⟩) hS.2.2 dX4_init_22

theorem hdX6_init : yX6_init.cls ≠ "java/lang/invoke/MethodHandle" ∧ yX6_init.cls ≠ "java/lang/invoke/VarHandle" ∧ (parseMethodDescriptor yX6_init.desc).map (fun d => d.parameters.length) = some 0 := by decide +kernel
set_option maxHeartbeats 4000000 in
set_option maxRecDepth 100000 in
theorem eX6_init (l : Launch) (D : va_G) (cI : ClassId) (h0 : Nat) (sz : Nat) : Met l yX6_init (Cond.code yX6_init cX6_init 1 none :: Tw) { frames := 1, cells := 1, slots := 96, locals := 12 } (eP D cI [(h0, .inr (5, [.null, .int 0, .int 0, .int 0, .int 0]))] sz [.ref h0]) (va_Qv (fun (_ : Unit) => True) (fun _ t => ∃ q1 : Nat, va_P D vwCl [(h0, .inr (5, [.ref q1, .int (0 : Int32), .int (3 : Int32), .int (0 : Int32), .int (0 : Int32)])), (q1, .inl (cI, 96, .inl (fun _ => 0)))] t.heap ∧ va_K D vwCl [(cI, .int)] t ∧ va_D (va_A [(h0, .inr (5, [.null, .int 0, .int 0, .int 0, .int 0]))] sz) [(h0, .inr (5, [.ref q1, .int (0 : Int32), .int (3 : Int32), .int (0 : Int32), .int (0 : Int32)])), (q1, .inl (cI, 96, .inl (fun _ => 0)))]) (va_A [(h0, .inr (5, [.null, .int 0, .int 0, .int 0, .int 0]))] sz)) 1 96 (va_A [(h0, .inr (5, [.null, .int 0, .int 0, .int 0, .int 0]))] sz) := by
  refine Met.ofW (cc := cX6_init) (maxL := 1) (ret := none) (by decide) rfl ?_
  intro p e s m args below meth c s₁ Bd hml hv
  obtain ⟨hC, hr⟩ := jC_of Bd hml
  have hC : jC p s m args meth c cX6_init 1 RX6 := hC
  have hin : meth.name = "<init>" := (name_of_methodNamed Bd.named Bd.method).1
  obtain ⟨rfl, hsz, hP, hK, hD0, hN⟩ := hv
  subst hsz
  have hx := hC.1.1
  have hb := hC.1.2.1
  have hown := hC.1.2.2.2.1
  have hts := hC.1.2.2.2.2
  have hlocks := hC.2
  have hD := hD0.self (sz := s.heap.size)
  generalize hAe : va_A [(h0, .inr (5, [.null, .int 0, .int 0, .int 0, .int 0]))] s.heap.size = A at hD ⊢
  have hA : ∀ q : Nat, s.heap.size ≤ q → A q := fun q h => by rw [← hAe]; exact Or.inr h
  have hS : va_S A s.heap s.heap [] := va_S.rf
  have hl := lv_entry ([.ref h0]) (n := 1) (Nat.le_of_ble_eq_true rfl)
  rw [lg_entry_eq]
  generalize (lg_sl ([.ref h0]) ++ List.replicate (1 - (lg_sl ([.ref h0])).length) Slot.unset).toArray = ls at hl ⊢
  have hl : lv_has ls 1 [(0, .ref h0)] := hl
  refine W_nm (fun H locs eH eL => ?_)
  have hP : va_P D vwCl [(h0, .inr (5, [.null, .int 0, .int 0, .int 0, .int 0]))] H := by rw [eH]; exact hP
  have hS : va_S A s.heap H locs := by rw [eH, eL]; exact hS
  show W p l e { frames := 1, cells := 1, slots := 96, locals := 12 } s m _ below meth c H locs 0 0 _ (F0 m 0 ls [])
  refine lv_aload_n hx hb dX6_init_0 rfl (lv_at hl 0 rfl) ?_
  refine W.objInit hx hb hown (hts _ wmX6_1) (hts _ wOi) (hts _ wOc) rfl (by rw [hml]; exact hl.1) rfl dX6_init_1 (Nat.le_of_ble_eq_true rfl) (Nat.le_of_ble_eq_true rfl) ?_
  refine W.eq (g2 := F0 m 4 ls []) rfl ?_
  refine lv_aload_n hx hb dX6_init_4 rfl (lv_at hl 0 rfl) ?_
  refine lv_bipush (v := 96) hx hb dX6_init_5 (by decide) ?_
  refine va_newa (atype := .int) (ty := .int) (N' := 96) (a0 := (96, .inl (fun _ => 0))) hx hb (hts _ wa_int) rfl hK hP hD hS hA (fun _ => rfl) (by decide) (by decide) (Nat.le_of_ble_eq_true rfl) (Nat.le_of_ble_eq_true rfl) (Nat.le_of_ble_eq_true rfl) dX6_init_7 (fun q1 cA H hK hP hD hS => ?_)
  have e9 : cI = cA := ci_eq hK 0 1 rfl rfl
  subst e9
  have hK := hK.sub (tys' := [(cI, .int)]) [0] rfl
  have hP : va_P D vwCl [(h0, .inr (5, [.null, .int 0, .int 0, .int 0, .int 0])), (q1, .inl (cI, 96, .inl (fun _ => 0)))] H := hP
  have hD : va_D A [(h0, .inr (5, [.null, .int 0, .int 0, .int 0, .int 0])), (q1, .inl (cI, 96, .inl (fun _ => 0)))] := hD
  refine W.widen (k := 1) (n := 96) (Nat.le_of_ble_eq_true rfl) (Nat.le_of_ble_eq_true rfl) ?_
  refine va_putF (D := D) (ci := 5) (v := .ref q1) (ty := .array .int) (C := RX6) (T := TX6) (N := 5) hx hb hts wyX6 tyX6 tyX6_ok nmX6 hown hK hP hD hS 0 rfl rfl 0 (by decide) (hts _ wfX6_9) (fun _ h9 => h9) rfl hin rfl (by decide +kernel) rfl rfl (Nat.le_of_ble_eq_true rfl) dX6_init_9 (fun H locs hP hD hS => ?_)
  have hP : va_P D vwCl [(h0, .inr (5, [.ref q1, .int 0, .int 0, .int 0, .int 0])), (q1, .inl (cI, 96, .inl (fun _ => 0)))] H := hP
  have hD : va_D A [(h0, .inr (5, [.ref q1, .int 0, .int 0, .int 0, .int 0])), (q1, .inl (cI, 96, .inl (fun _ => 0)))] := hD
  refine lv_aload_n hx hb dX6_init_12 rfl (lv_at hl 0 rfl) ?_
  refine lv_iconst (v := 0) hx hb dX6_init_13 (by decide) ?_
  refine va_put (D := D) (ci := 5) (v := .int (0 : Int32)) (ty := .int) (C := RX6) (T := TX6) (N := 5) hx hb hts wyX6 tyX6 tyX6_ok nmX6 hown hK hP hD hS 0 rfl rfl 1 (by decide) (hts _ wfX6_13) (fun _ h9 => h9) rfl (by decide +kernel) rfl rfl (Nat.le_of_ble_eq_true rfl) dX6_init_14 (fun H locs hP hD hS => ?_)
  have hP : va_P D vwCl [(h0, .inr (5, [.ref q1, .int (0 : Int32), .int 0, .int 0, .int 0])), (q1, .inl (cI, 96, .inl (fun _ => 0)))] H := hP
  have hD : va_D A [(h0, .inr (5, [.ref q1, .int (0 : Int32), .int 0, .int 0, .int 0])), (q1, .inl (cI, 96, .inl (fun _ => 0)))] := hD
  refine lv_aload_n hx hb dX6_init_17 rfl (lv_at hl 0 rfl) ?_
  refine lv_iconst (v := 3) hx hb dX6_init_18 (by decide) ?_
  refine va_put (D := D) (ci := 5) (v := .int (3 : Int32)) (ty := .int) (C := RX6) (T := TX6) (N := 5) hx hb hts wyX6 tyX6 tyX6_ok nmX6 hown hK hP hD hS 0 rfl rfl 2 (by decide) (hts _ wfX6_17) (fun _ h9 => h9) rfl (by decide +kernel) rfl rfl (Nat.le_of_ble_eq_true rfl) dX6_init_19 (fun H locs hP hD hS => ?_)
  have hP : va_P D vwCl [(h0, .inr (5, [.ref q1, .int (0 : Int32), .int (3 : Int32), .int 0, .int 0])), (q1, .inl (cI, 96, .inl (fun _ => 0)))] H := hP
  have hD : va_D A [(h0, .inr (5, [.ref q1, .int (0 : Int32), .int (3 : Int32), .int 0, .int 0])), (q1, .inl (cI, 96, .inl (fun _ => 0)))] := hD
  refine lv_aload_n hx hb dX6_init_22 rfl (lv_at hl 0 rfl) ?_
  refine lv_iconst (v := 0) hx hb dX6_init_23 (by decide) ?_
  refine va_put (D := D) (ci := 5) (v := .int (0 : Int32)) (ty := .int) (C := RX6) (T := TX6) (N := 5) hx hb hts wyX6 tyX6 tyX6_ok nmX6 hown hK hP hD hS 0 rfl rfl 3 (by decide) (hts _ wfX6_20) (fun _ h9 => h9) rfl (by decide +kernel) rfl rfl (Nat.le_of_ble_eq_true rfl) dX6_init_24 (fun H locs hP hD hS => ?_)
  have hP : va_P D vwCl [(h0, .inr (5, [.ref q1, .int (0 : Int32), .int (3 : Int32), .int (0 : Int32), .int 0])), (q1, .inl (cI, 96, .inl (fun _ => 0)))] H := hP
  have hD : va_D A [(h0, .inr (5, [.ref q1, .int (0 : Int32), .int (3 : Int32), .int (0 : Int32), .int 0])), (q1, .inl (cI, 96, .inl (fun _ => 0)))] := hD
  refine lv_aload_n hx hb dX6_init_27 rfl (lv_at hl 0 rfl) ?_
  refine lv_iconst (v := 0) hx hb dX6_init_28 (by decide) ?_
  refine va_put (D := D) (ci := 5) (v := .int (0 : Int32)) (ty := .int) (C := RX6) (T := TX6) (N := 5) hx hb hts wyX6 tyX6 tyX6_ok nmX6 hown hK hP hD hS 0 rfl rfl 4 (by decide) (hts _ wfX6_23) (fun _ h9 => h9) rfl (by decide +kernel) rfl rfl (Nat.le_of_ble_eq_true rfl) dX6_init_29 (fun H locs hP hD hS => ?_)
  have hP : va_P D vwCl [(h0, .inr (5, [.ref q1, .int (0 : Int32), .int (3 : Int32), .int (0 : Int32), .int (0 : Int32)])), (q1, .inl (cI, 96, .inl (fun _ => 0)))] H := hP
  have hD : va_D A [(h0, .inr (5, [.ref q1, .int (0 : Int32), .int (3 : Int32), .int (0 : Int32), .int (0 : Int32)])), (q1, .inl (cI, 96, .inl (fun _ => 0)))] := hD
  have hP9 := hP.sub (ws' := [(h0, .inr (5, [.ref q1, .int (0 : Int32), .int (3 : Int32), .int (0 : Int32), .int (0 : Int32)])), (q1, .inl (cI, 96, .inl (fun _ => 0)))]) [0, 1] rfl
  have hD9 := hD.sub (ws' := [(h0, .inr (5, [.ref q1, .int (0 : Int32), .int (3 : Int32), .int (0 : Int32), .int (0 : Int32)])), (q1, .inl (cI, 96, .inl (fun _ => 0)))]) [0, 1] (by decide) rfl
  have hK9 := hK.sub (tys' := [(cI, .int)]) [0] rfl
  exact W.vret hx hb hr (fun t ht hW => ⟨⟨(), rfl, trivial, q1, by rw [ht]; exact hP9, va_K.moved hW.alike hK9, hD9⟩, hS.F ht⟩) hS.2.2 dX6_init_32

theorem hdX3_init : yX3_init.cls ≠ "java/lang/invoke/MethodHandle" ∧ yX3_init.cls ≠ "java/lang/invoke/VarHandle" ∧ (parseMethodDescriptor yX3_init.desc).map (fun d => d.parameters.length) = some 1 := by decide +kernel
set_option maxHeartbeats 4000000 in
set_option maxRecDepth 100000 in
theorem eX3_init (l : Launch) (D : va_G) (cI : ClassId) (h0 : Nat) (p1 : Nat) (sz : Nat) : Met l yX3_init (Cond.code yX3_init cX3_init 2 none :: Tw) { frames := 1, cells := 1, slots := 96, locals := 12 } (eP D cI [(h0, .inr (2, [.null, .int 0, .int 0, .null, .int 0, .int 0, .int 0]))] sz [.ref h0, .ref p1]) (va_Qv (fun (_ : Unit) => True) (fun _ t => ∃ q1 : Nat, va_P D vwCl [(h0, .inr (2, [.ref p1, .int (0 : Int32), .int (0 : Int32), .ref q1, .int (0 : Int32), .int (0 : Int32), .int (0 : Int32)])), (q1, .inl (cI, 96, .inl (fun _ => 0)))] t.heap ∧ va_K D vwCl [(cI, .int)] t ∧ va_D (va_A [(h0, .inr (2, [.null, .int 0, .int 0, .null, .int 0, .int 0, .int 0]))] sz) [(h0, .inr (2, [.ref p1, .int (0 : Int32), .int (0 : Int32), .ref q1, .int (0 : Int32), .int (0 : Int32), .int (0 : Int32)])), (q1, .inl (cI, 96, .inl (fun _ => 0)))]) (va_A [(h0, .inr (2, [.null, .int 0, .int 0, .null, .int 0, .int 0, .int 0]))] sz)) 1 96 (va_A [(h0, .inr (2, [.null, .int 0, .int 0, .null, .int 0, .int 0, .int 0]))] sz) := by
  refine Met.ofW (cc := cX3_init) (maxL := 2) (ret := none) (by decide) rfl ?_
  intro p e s m args below meth c s₁ Bd hml hv
  obtain ⟨hC, hr⟩ := jC_of Bd hml
  have hC : jC p s m args meth c cX3_init 2 RX3 := hC
  have hin : meth.name = "<init>" := (name_of_methodNamed Bd.named Bd.method).1
  obtain ⟨rfl, hsz, hP, hK, hD0, hN⟩ := hv
  subst hsz
  have hx := hC.1.1
  have hb := hC.1.2.1
  have hown := hC.1.2.2.2.1
  have hts := hC.1.2.2.2.2
  have hlocks := hC.2
  have hD := hD0.self (sz := s.heap.size)
  generalize hAe : va_A [(h0, .inr (2, [.null, .int 0, .int 0, .null, .int 0, .int 0, .int 0]))] s.heap.size = A at hD ⊢
  have hA : ∀ q : Nat, s.heap.size ≤ q → A q := fun q h => by rw [← hAe]; exact Or.inr h
  have hS : va_S A s.heap s.heap [] := va_S.rf
  have hl := lv_entry ([.ref h0, .ref p1]) (n := 2) (Nat.le_of_ble_eq_true rfl)
  rw [lg_entry_eq]
  generalize (lg_sl ([.ref h0, .ref p1]) ++ List.replicate (2 - (lg_sl ([.ref h0, .ref p1])).length) Slot.unset).toArray = ls at hl ⊢
  have hl : lv_has ls 2 [(0, .ref h0), (1, .ref p1)] := hl
  refine W_nm (fun H locs eH eL => ?_)
  have hP : va_P D vwCl [(h0, .inr (2, [.null, .int 0, .int 0, .null, .int 0, .int 0, .int 0]))] H := by rw [eH]; exact hP
  have hS : va_S A s.heap H locs := by rw [eH, eL]; exact hS
  show W p l e { frames := 1, cells := 1, slots := 96, locals := 12 } s m _ below meth c H locs 0 0 _ (F0 m 0 ls [])
  refine lv_aload_n hx hb dX3_init_0 rfl (lv_at hl 0 rfl) ?_
  refine W.objInit hx hb hown (hts _ wmX3_1) (hts _ wOi) (hts _ wOc) rfl (by rw [hml]; exact hl.1) rfl dX3_init_1 (Nat.le_of_ble_eq_true rfl) (Nat.le_of_ble_eq_true rfl) ?_
  refine W.eq (g2 := F0 m 4 ls []) rfl ?_
  refine lv_aload_n hx hb dX3_init_4 rfl (lv_at hl 0 rfl) ?_
  refine lv_iconst (v := 0) hx hb dX3_init_5 (by decide) ?_
  refine va_put (D := D) (ci := 2) (v := .int (0 : Int32)) (ty := .int) (C := RX3) (T := TX3) (N := 7) hx hb hts wyX3 tyX3 tyX3_ok nmX3 hown hK hP hD hS 0 rfl rfl 1 (by decide) (hts _ wfX3_9) (fun _ h9 => h9) rfl (by decide +kernel) rfl rfl (Nat.le_of_ble_eq_true rfl) dX3_init_6 (fun H locs hP hD hS => ?_)
  have hP : va_P D vwCl [(h0, .inr (2, [.null, .int (0 : Int32), .int 0, .null, .int 0, .int 0, .int 0]))] H := hP
  have hD : va_D A [(h0, .inr (2, [.null, .int (0 : Int32), .int 0, .null, .int 0, .int 0, .int 0]))] := hD
  refine lv_aload_n hx hb dX3_init_9 rfl (lv_at hl 0 rfl) ?_
  refine lv_iconst (v := 0) hx hb dX3_init_10 (by decide) ?_
  refine va_put (D := D) (ci := 2) (v := .int (0 : Int32)) (ty := .int) (C := RX3) (T := TX3) (N := 7) hx hb hts wyX3 tyX3 tyX3_ok nmX3 hown hK hP hD hS 0 rfl rfl 2 (by decide) (hts _ wfX3_15) (fun _ h9 => h9) rfl (by decide +kernel) rfl rfl (Nat.le_of_ble_eq_true rfl) dX3_init_11 (fun H locs hP hD hS => ?_)
  have hP : va_P D vwCl [(h0, .inr (2, [.null, .int (0 : Int32), .int (0 : Int32), .null, .int 0, .int 0, .int 0]))] H := hP
  have hD : va_D A [(h0, .inr (2, [.null, .int (0 : Int32), .int (0 : Int32), .null, .int 0, .int 0, .int 0]))] := hD
  refine lv_aload_n hx hb dX3_init_14 rfl (lv_at hl 0 rfl) ?_
  refine lv_bipush (v := 96) hx hb dX3_init_15 (by decide) ?_
  refine va_newa (atype := .int) (ty := .int) (N' := 96) (a0 := (96, .inl (fun _ => 0))) hx hb (hts _ wa_int) rfl hK hP hD hS hA (fun _ => rfl) (by decide) (by decide) (Nat.le_of_ble_eq_true rfl) (Nat.le_of_ble_eq_true rfl) (Nat.le_of_ble_eq_true rfl) dX3_init_17 (fun q1 cA H hK hP hD hS => ?_)
  have e9 : cI = cA := ci_eq hK 0 1 rfl rfl
  subst e9
  have hK := hK.sub (tys' := [(cI, .int)]) [0] rfl
  have hP : va_P D vwCl [(h0, .inr (2, [.null, .int (0 : Int32), .int (0 : Int32), .null, .int 0, .int 0, .int 0])), (q1, .inl (cI, 96, .inl (fun _ => 0)))] H := hP
  have hD : va_D A [(h0, .inr (2, [.null, .int (0 : Int32), .int (0 : Int32), .null, .int 0, .int 0, .int 0])), (q1, .inl (cI, 96, .inl (fun _ => 0)))] := hD
  refine W.widen (k := 1) (n := 96) (Nat.le_of_ble_eq_true rfl) (Nat.le_of_ble_eq_true rfl) ?_
  refine va_putF (D := D) (ci := 2) (v := .ref q1) (ty := .array .int) (C := RX3) (T := TX3) (N := 7) hx hb hts wyX3 tyX3 tyX3_ok nmX3 hown hK hP hD hS 0 rfl rfl 3 (by decide) (hts _ wfX3_20) (fun _ h9 => h9) rfl hin rfl (by decide +kernel) rfl rfl (Nat.le_of_ble_eq_true rfl) dX3_init_19 (fun H locs hP hD hS => ?_)
  have hP : va_P D vwCl [(h0, .inr (2, [.null, .int (0 : Int32), .int (0 : Int32), .ref q1, .int 0, .int 0, .int 0])), (q1, .inl (cI, 96, .inl (fun _ => 0)))] H := hP
  have hD : va_D A [(h0, .inr (2, [.null, .int (0 : Int32), .int (0 : Int32), .ref q1, .int 0, .int 0, .int 0])), (q1, .inl (cI, 96, .inl (fun _ => 0)))] := hD
  refine lv_aload_n hx hb dX3_init_22 rfl (lv_at hl 0 rfl) ?_
  refine lv_iconst (v := 0) hx hb dX3_init_23 (by decide) ?_
  refine va_put (D := D) (ci := 2) (v := .int (0 : Int32)) (ty := .int) (C := RX3) (T := TX3) (N := 7) hx hb hts wyX3 tyX3 tyX3_ok nmX3 hown hK hP hD hS 0 rfl rfl 4 (by decide) (hts _ wfX3_24) (fun _ h9 => h9) rfl (by decide +kernel) rfl rfl (Nat.le_of_ble_eq_true rfl) dX3_init_24 (fun H locs hP hD hS => ?_)
  have hP : va_P D vwCl [(h0, .inr (2, [.null, .int (0 : Int32), .int (0 : Int32), .ref q1, .int (0 : Int32), .int 0, .int 0])), (q1, .inl (cI, 96, .inl (fun _ => 0)))] H := hP
  have hD : va_D A [(h0, .inr (2, [.null, .int (0 : Int32), .int (0 : Int32), .ref q1, .int (0 : Int32), .int 0, .int 0])), (q1, .inl (cI, 96, .inl (fun _ => 0)))] := hD
  refine lv_aload_n hx hb dX3_init_27 rfl (lv_at hl 0 rfl) ?_
  refine lv_iconst (v := 0) hx hb dX3_init_28 (by decide) ?_
  refine va_put (D := D) (ci := 2) (v := .int (0 : Int32)) (ty := .int) (C := RX3) (T := TX3) (N := 7) hx hb hts wyX3 tyX3 tyX3_ok nmX3 hown hK hP hD hS 0 rfl rfl 5 (by decide) (hts _ wfX3_27) (fun _ h9 => h9) rfl (by decide +kernel) rfl rfl (Nat.le_of_ble_eq_true rfl) dX3_init_29 (fun H locs hP hD hS => ?_)
  have hP : va_P D vwCl [(h0, .inr (2, [.null, .int (0 : Int32), .int (0 : Int32), .ref q1, .int (0 : Int32), .int (0 : Int32), .int 0])), (q1, .inl (cI, 96, .inl (fun _ => 0)))] H := hP
  have hD : va_D A [(h0, .inr (2, [.null, .int (0 : Int32), .int (0 : Int32), .ref q1, .int (0 : Int32), .int (0 : Int32), .int 0])), (q1, .inl (cI, 96, .inl (fun _ => 0)))] := hD
  refine lv_aload_n hx hb dX3_init_32 rfl (lv_at hl 0 rfl) ?_
  refine lv_iconst (v := 0) hx hb dX3_init_33 (by decide) ?_
  refine va_put (D := D) (ci := 2) (v := .int (0 : Int32)) (ty := .int) (C := RX3) (T := TX3) (N := 7) hx hb hts wyX3 tyX3 tyX3_ok nmX3 hown hK hP hD hS 0 rfl rfl 6 (by decide) (hts _ wfX3_30) (fun _ h9 => h9) rfl (by decide +kernel) rfl rfl (Nat.le_of_ble_eq_true rfl) dX3_init_34 (fun H locs hP hD hS => ?_)
  have hP : va_P D vwCl [(h0, .inr (2, [.null, .int (0 : Int32), .int (0 : Int32), .ref q1, .int (0 : Int32), .int (0 : Int32), .int (0 : Int32)])), (q1, .inl (cI, 96, .inl (fun _ => 0)))] H := hP
  have hD : va_D A [(h0, .inr (2, [.null, .int (0 : Int32), .int (0 : Int32), .ref q1, .int (0 : Int32), .int (0 : Int32), .int (0 : Int32)])), (q1, .inl (cI, 96, .inl (fun _ => 0)))] := hD
  refine lv_aload_n hx hb dX3_init_37 rfl (lv_at hl 0 rfl) ?_
  refine lv_aload_n hx hb dX3_init_38 rfl (lv_at hl 1 rfl) ?_
  refine va_putF (D := D) (ci := 2) (v := .ref p1) (ty := .object "RoadSorted$Tape") (C := RX3) (T := TX3) (N := 7) hx hb hts wyX3 tyX3 tyX3_ok nmX3 hown hK hP hD hS 0 rfl rfl 0 (by decide) (hts _ wfX3_33) (fun _ h9 => h9) rfl hin rfl (by decide +kernel) rfl rfl (Nat.le_of_ble_eq_true rfl) dX3_init_39 (fun H locs hP hD hS => ?_)
  have hP : va_P D vwCl [(h0, .inr (2, [.ref p1, .int (0 : Int32), .int (0 : Int32), .ref q1, .int (0 : Int32), .int (0 : Int32), .int (0 : Int32)])), (q1, .inl (cI, 96, .inl (fun _ => 0)))] H := hP
  have hD : va_D A [(h0, .inr (2, [.ref p1, .int (0 : Int32), .int (0 : Int32), .ref q1, .int (0 : Int32), .int (0 : Int32), .int (0 : Int32)])), (q1, .inl (cI, 96, .inl (fun _ => 0)))] := hD
  have hP9 := hP.sub (ws' := [(h0, .inr (2, [.ref p1, .int (0 : Int32), .int (0 : Int32), .ref q1, .int (0 : Int32), .int (0 : Int32), .int (0 : Int32)])), (q1, .inl (cI, 96, .inl (fun _ => 0)))]) [0, 1] rfl
  have hD9 := hD.sub (ws' := [(h0, .inr (2, [.ref p1, .int (0 : Int32), .int (0 : Int32), .ref q1, .int (0 : Int32), .int (0 : Int32), .int (0 : Int32)])), (q1, .inl (cI, 96, .inl (fun _ => 0)))]) [0, 1] (by decide) rfl
  have hK9 := hK.sub (tys' := [(cI, .int)]) [0] rfl
  exact W.vret hx hb hr (fun t ht hW => ⟨⟨(), rfl, trivial, q1, by rw [ht]; exact hP9, va_K.moved hW.alike hK9, hD9⟩, hS.F ht⟩) hS.2.2 dX3_init_42

theorem hdX5_init : yX5_init.cls ≠ "java/lang/invoke/MethodHandle" ∧ yX5_init.cls ≠ "java/lang/invoke/VarHandle" ∧ (parseMethodDescriptor yX5_init.desc).map (fun d => d.parameters.length) = some 0 := by decide +kernel
set_option maxHeartbeats 4000000 in
set_option maxRecDepth 100000 in
theorem eX5_init (l : Launch) (D : va_G) (cI : ClassId) (h0 : Nat) (sz : Nat) : Met l yX5_init (Cond.code yX5_init cX5_init 1 none :: Tw) { frames := 2, cells := 2, slots := 27, locals := 32 } (eP D cI [(h0, .inr (4, [.int 0, .int 0, .int 0, .int 0, .null]))] sz [.ref h0]) (va_Qv (fun (_ : Unit) => True) (fun _ t => ∃ q1 q2 : Nat, va_P D vwCl [(h0, .inr (4, [.int (0 : Int32), .int (0 : Int32), .int (0 : Int32), .int (0 : Int32), .ref q1])), (q1, .inr (3, [.int (-1 : Int32), .int (0 : Int32), .ref q2])), (q2, .inl (cI, 24, .inl (fun _ => 0)))] t.heap ∧ va_K D vwCl [(cI, .int)] t ∧ va_D (va_A [(h0, .inr (4, [.int 0, .int 0, .int 0, .int 0, .null]))] sz) [(h0, .inr (4, [.int (0 : Int32), .int (0 : Int32), .int (0 : Int32), .int (0 : Int32), .ref q1])), (q1, .inr (3, [.int (-1 : Int32), .int (0 : Int32), .ref q2])), (q2, .inl (cI, 24, .inl (fun _ => 0)))]) (va_A [(h0, .inr (4, [.int 0, .int 0, .int 0, .int 0, .null]))] sz)) 2 27 (va_A [(h0, .inr (4, [.int 0, .int 0, .int 0, .int 0, .null]))] sz) := by
  refine Met.ofW (cc := cX5_init) (maxL := 1) (ret := none) (by decide) rfl ?_
  intro p e s m args below meth c s₁ Bd hml hv
  obtain ⟨hC, hr⟩ := jC_of Bd hml
  have hC : jC p s m args meth c cX5_init 1 RX5 := hC
  have hin : meth.name = "<init>" := (name_of_methodNamed Bd.named Bd.method).1
  obtain ⟨rfl, hsz, hP, hK, hD0, hN⟩ := hv
  subst hsz
  have hx := hC.1.1
  have hb := hC.1.2.1
  have hown := hC.1.2.2.2.1
  have hts := hC.1.2.2.2.2
  have hlocks := hC.2
  have hD := hD0.self (sz := s.heap.size)
  generalize hAe : va_A [(h0, .inr (4, [.int 0, .int 0, .int 0, .int 0, .null]))] s.heap.size = A at hD ⊢
  have hA : ∀ q : Nat, s.heap.size ≤ q → A q := fun q h => by rw [← hAe]; exact Or.inr h
  have hS : va_S A s.heap s.heap [] := va_S.rf
  have hl := lv_entry ([.ref h0]) (n := 1) (Nat.le_of_ble_eq_true rfl)
  rw [lg_entry_eq]
  generalize (lg_sl ([.ref h0]) ++ List.replicate (1 - (lg_sl ([.ref h0])).length) Slot.unset).toArray = ls at hl ⊢
  have hl : lv_has ls 1 [(0, .ref h0)] := hl
  refine W_nm (fun H locs eH eL => ?_)
  have hP : va_P D vwCl [(h0, .inr (4, [.int 0, .int 0, .int 0, .int 0, .null]))] H := by rw [eH]; exact hP
  have hS : va_S A s.heap H locs := by rw [eH, eL]; exact hS
  show W p l e { frames := 2, cells := 2, slots := 27, locals := 32 } s m _ below meth c H locs 0 0 _ (F0 m 0 ls [])
  refine lv_aload_n hx hb dX5_init_0 rfl (lv_at hl 0 rfl) ?_
  refine W.objInit hx hb hown (hts _ wmX5_3) (hts _ wOi) (hts _ wOc) rfl (by rw [hml]; exact hl.1) rfl dX5_init_1 (Nat.le_of_ble_eq_true rfl) (Nat.le_of_ble_eq_true rfl) ?_
  refine W.eq (g2 := F0 m 4 ls []) rfl ?_
  refine lv_aload_n hx hb dX5_init_4 rfl (lv_at hl 0 rfl) ?_
  refine lv_iconst (v := 0) hx hb dX5_init_5 (by decide) ?_
  refine va_put (D := D) (ci := 4) (v := .int (0 : Int32)) (ty := .int) (C := RX5) (T := TX5) (N := 5) hx hb hts wyX5 tyX5 tyX5_ok nmX5 hown hK hP hD hS 0 rfl rfl 0 (by decide) (hts _ wfX5_9) (fun _ h9 => h9) rfl (by decide +kernel) rfl rfl (Nat.le_of_ble_eq_true rfl) dX5_init_6 (fun H locs hP hD hS => ?_)
  have hP : va_P D vwCl [(h0, .inr (4, [.int (0 : Int32), .int 0, .int 0, .int 0, .null]))] H := hP
  have hD : va_D A [(h0, .inr (4, [.int (0 : Int32), .int 0, .int 0, .int 0, .null]))] := hD
  refine lv_aload_n hx hb dX5_init_9 rfl (lv_at hl 0 rfl) ?_
  refine lv_iconst (v := 0) hx hb dX5_init_10 (by decide) ?_
  refine va_put (D := D) (ci := 4) (v := .int (0 : Int32)) (ty := .int) (C := RX5) (T := TX5) (N := 5) hx hb hts wyX5 tyX5 tyX5_ok nmX5 hown hK hP hD hS 0 rfl rfl 1 (by decide) (hts _ wfX5_15) (fun _ h9 => h9) rfl (by decide +kernel) rfl rfl (Nat.le_of_ble_eq_true rfl) dX5_init_11 (fun H locs hP hD hS => ?_)
  have hP : va_P D vwCl [(h0, .inr (4, [.int (0 : Int32), .int (0 : Int32), .int 0, .int 0, .null]))] H := hP
  have hD : va_D A [(h0, .inr (4, [.int (0 : Int32), .int (0 : Int32), .int 0, .int 0, .null]))] := hD
  refine lv_aload_n hx hb dX5_init_14 rfl (lv_at hl 0 rfl) ?_
  refine lv_iconst (v := 0) hx hb dX5_init_15 (by decide) ?_
  refine va_put (D := D) (ci := 4) (v := .int (0 : Int32)) (ty := .int) (C := RX5) (T := TX5) (N := 5) hx hb hts wyX5 tyX5 tyX5_ok nmX5 hown hK hP hD hS 0 rfl rfl 2 (by decide) (hts _ wfX5_18) (fun _ h9 => h9) rfl (by decide +kernel) rfl rfl (Nat.le_of_ble_eq_true rfl) dX5_init_16 (fun H locs hP hD hS => ?_)
  have hP : va_P D vwCl [(h0, .inr (4, [.int (0 : Int32), .int (0 : Int32), .int (0 : Int32), .int 0, .null]))] H := hP
  have hD : va_D A [(h0, .inr (4, [.int (0 : Int32), .int (0 : Int32), .int (0 : Int32), .int 0, .null]))] := hD
  refine lv_aload_n hx hb dX5_init_19 rfl (lv_at hl 0 rfl) ?_
  refine lv_iconst (v := 0) hx hb dX5_init_20 (by decide) ?_
  refine va_put (D := D) (ci := 4) (v := .int (0 : Int32)) (ty := .int) (C := RX5) (T := TX5) (N := 5) hx hb hts wyX5 tyX5 tyX5_ok nmX5 hown hK hP hD hS 0 rfl rfl 3 (by decide) (hts _ wfX5_21) (fun _ h9 => h9) rfl (by decide +kernel) rfl rfl (Nat.le_of_ble_eq_true rfl) dX5_init_21 (fun H locs hP hD hS => ?_)
  have hP : va_P D vwCl [(h0, .inr (4, [.int (0 : Int32), .int (0 : Int32), .int (0 : Int32), .int (0 : Int32), .null]))] H := hP
  have hD : va_D A [(h0, .inr (4, [.int (0 : Int32), .int (0 : Int32), .int (0 : Int32), .int (0 : Int32), .null]))] := hD
  refine lv_aload_n hx hb dX5_init_24 rfl (lv_at hl 0 rfl) ?_
  refine va_new (ci := 3) (fs := [.int 0, .int 0, .null]) (C := RX4) (T := TX4) (N := 3) hx hb hts wyX4 tyX4 tyX4_ok hown (hts _ wlX5_24) (hts _ wiX4) (hts _ wzX4) hK hP hD hS hA rfl (fun j hj => by rcases (show j = 0 ∨ j = 1 ∨ j = 2 by omega) with rfl | rfl | rfl <;> rfl) (Nat.le_of_ble_eq_true rfl) (Nat.le_of_ble_eq_true rfl) dX5_init_25 (fun q1 H hP hD hS => ?_)
  have hP : va_P D vwCl [(h0, .inr (4, [.int (0 : Int32), .int (0 : Int32), .int (0 : Int32), .int (0 : Int32), .null])), (q1, .inr (3, [.int 0, .int 0, .null]))] H := hP
  have hD : va_D A [(h0, .inr (4, [.int (0 : Int32), .int (0 : Int32), .int (0 : Int32), .int (0 : Int32), .null])), (q1, .inr (3, [.int 0, .int 0, .null]))] := hD
  refine W.widen (k := 1) (n := 3) (Nat.le_of_ble_eq_true rfl) (Nat.le_of_ble_eq_true rfl) ?_
  refine lv_dup hx hb dX5_init_28 rfl ?_
  have hPc := hP.sub (ws' := [(q1, .inr (3, [.int 0, .int 0, .null]))]) [1] rfl
  have hDc := hD.sub (ws' := [(q1, .inr (3, [.int 0, .int 0, .null]))]) [1] (by decide) rfl
  have hKc := hK.sub (tys' := [(cI, .int)]) [0] rfl
  have hFc := va_free (wc := [(q1, .inr (3, [.int 0, .int 0, .null]))]) hD hS hA [1] rfl
  refine va_callv (va_runIN (host := "RoadSorted") (As := []) (rest := [.ref q1, .ref h0]) hC.1 (eX4_init l D cI q1 H.size) ⟨va_cnB (host := "RoadSorted") 0 hts (gC wnX4_init.2.2) rfl rfl rfl (hN.1 (RX5, 26, yX4_init, "RoadSorted") (by decide +kernel)) (hts _ wnX4_init.2.1) hdX4_init ⟨Nat.le_of_ble_eq_true rfl, Nat.le_of_ble_eq_true rfl⟩, rfl, hts _ wnX4_init.1⟩ ⟨e_blind, fun U hU hW => ⟨rfl, by rw [hU], by rw [hU]; exact hPc, va_K.moved hW.alike hKc, hDc.weaken (fun _ _ _ _ => trivial), eN_warm hW hN⟩⟩ rfl rfl hl.1 rfl (lv_room (Nat.le_of_ble_eq_true rfl)) dX5_init_29 ⟨Nat.le_of_ble_eq_true rfl, Nat.le_of_ble_eq_true rfl⟩) hS (fun q _ h => hFc q h) hFc (fun u t H1 locs ht hvm hw hB hz1 hk1 hS => ?_)
  obtain ⟨q2, hP1, hK1, hD1⟩ := hB
  rw [ht] at hP1
  obtain ⟨hP, hD⟩ := va_join (wr := [(h0, .inr (4, [.int (0 : Int32), .int (0 : Int32), .int (0 : Int32), .int (0 : Int32), .null]))]) (w1 := [(q1, .inr (3, [.int (-1 : Int32), .int (0 : Int32), .ref q2])), (q2, .inl (cI, 24, .inl (fun _ => 0)))]) hP hD [1] [0] rfl rfl (by decide) (by decide) hk1 hFc hP1 hD1
  generalize H1 = H at hP hS ⊢
  have hP : va_P D vwCl [(h0, .inr (4, [.int (0 : Int32), .int (0 : Int32), .int (0 : Int32), .int (0 : Int32), .null])), (q1, .inr (3, [.int (-1 : Int32), .int (0 : Int32), .ref q2])), (q2, .inl (cI, 24, .inl (fun _ => 0)))] H := hP
  have hD : va_D A [(h0, .inr (4, [.int (0 : Int32), .int (0 : Int32), .int (0 : Int32), .int (0 : Int32), .null])), (q1, .inr (3, [.int (-1 : Int32), .int (0 : Int32), .ref q2])), (q2, .inl (cI, 24, .inl (fun _ => 0)))] := hD
  refine W.widen (k := 2) (n := 27) (Nat.le_of_ble_eq_true rfl) (Nat.le_of_ble_eq_true rfl) ?_
  refine va_putF (D := D) (ci := 4) (v := .ref q1) (ty := .object "RoadSorted$Sheet") (C := RX5) (T := TX5) (N := 5) hx hb hts wyX5 tyX5 tyX5_ok nmX5 hown hK hP hD hS 0 rfl rfl 4 (by decide) (hts _ wfX5_27) (fun _ h9 => h9) rfl hin rfl (by decide +kernel) rfl rfl (Nat.le_of_ble_eq_true rfl) dX5_init_32 (fun H locs hP hD hS => ?_)
  have hP : va_P D vwCl [(h0, .inr (4, [.int (0 : Int32), .int (0 : Int32), .int (0 : Int32), .int (0 : Int32), .ref q1])), (q1, .inr (3, [.int (-1 : Int32), .int (0 : Int32), .ref q2])), (q2, .inl (cI, 24, .inl (fun _ => 0)))] H := hP
  have hD : va_D A [(h0, .inr (4, [.int (0 : Int32), .int (0 : Int32), .int (0 : Int32), .int (0 : Int32), .ref q1])), (q1, .inr (3, [.int (-1 : Int32), .int (0 : Int32), .ref q2])), (q2, .inl (cI, 24, .inl (fun _ => 0)))] := hD
  have hP9 := hP.sub (ws' := [(h0, .inr (4, [.int (0 : Int32), .int (0 : Int32), .int (0 : Int32), .int (0 : Int32), .ref q1])), (q1, .inr (3, [.int (-1 : Int32), .int (0 : Int32), .ref q2])), (q2, .inl (cI, 24, .inl (fun _ => 0)))]) [0, 1, 2] rfl
  have hD9 := hD.sub (ws' := [(h0, .inr (4, [.int (0 : Int32), .int (0 : Int32), .int (0 : Int32), .int (0 : Int32), .ref q1])), (q1, .inr (3, [.int (-1 : Int32), .int (0 : Int32), .ref q2])), (q2, .inl (cI, 24, .inl (fun _ => 0)))]) [0, 1, 2] (by decide) rfl
  have hK9 := hK.sub (tys' := [(cI, .int)]) [0] rfl
  exact W.vret hx hb hr (fun t ht hW => ⟨⟨(), rfl, trivial, q1, q2, by rw [ht]; exact hP9, va_K.moved hW.alike hK9, hD9⟩, hS.F ht⟩) hS.2.2 dX5_init_35
