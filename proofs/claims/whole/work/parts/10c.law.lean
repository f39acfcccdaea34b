abbrev eP0 (D : va_G) (cI : ClassId) (ws : va_W) (sz : Nat) (av : List Value) : Array Value → State → Prop := va_Pc av (fun U => U.heap.size = sz ∧ va_P D vwCl ws U.heap ∧ va_K D vwCl [(cI, .int)] U ∧ va_D (fun _ => True) ws)
theorem e0_blind {D : va_G} {cI : ClassId} {ws : va_W} {sz : Nat} {av : List Value} : FrameBlind (eP0 D cI ws sz av) := fun a U g mk q => by
  obtain ⟨q0, q1, qP, qK, qD⟩ := q
  exact ⟨q0, q1, qP, va_K.moved (u := U) (U := U.calling g mk a) (Vm.Alike.refl U.vm) qK, qD⟩
theorem hdJ7_copyOf : yJ7_copyOf_59c91.cls ≠ "java/lang/invoke/MethodHandle" ∧ yJ7_copyOf_59c91.cls ≠ "java/lang/invoke/VarHandle" ∧ (parseMethodDescriptor yJ7_copyOf_59c91.desc).map (fun d => d.parameters.length) = some 2 := by decide +kernel
theorem hdX2_init : yX2_init.cls ≠ "java/lang/invoke/MethodHandle" ∧ yX2_init.cls ≠ "java/lang/invoke/VarHandle" ∧ (parseMethodDescriptor yX2_init.desc).map (fun d => d.parameters.length) = some 3 := by decide +kernel
set_option maxHeartbeats 4000000 in
set_option maxRecDepth 100000 in
theorem eX2_init (l : Launch) (D : va_G) (cI : ClassId) (h0 : Nat) (x1 : Int32) (n : Nat) (p3 : Nat) (hn : n ≤ 96) (sz : Nat) : Met l yX2_init (Cond.code yX2_init cX2_init 4 none :: Tw) { frames := 1, cells := 1, slots := 96, locals := 12 } (eP0 D cI [(h0, .inr (1, [.int 0, .int 0, .null, .null]))] sz [.ref h0, .int x1, .int (nI n), .ref p3]) (va_Qv (fun (_ : Unit) => True) (fun _ t => ∃ q1 : Nat, va_P D vwCl [(h0, .inr (1, [.int x1, .int (nI n), .ref p3, .ref q1])), (q1, .inl (cI, n, .inl (fun _ => 0)))] t.heap ∧ va_K D vwCl [(cI, .int)] t ∧ va_D (va_A [(h0, .inr (1, [.int 0, .int 0, .null, .null]))] sz) [(h0, .inr (1, [.int x1, .int (nI n), .ref p3, .ref q1])), (q1, .inl (cI, n, .inl (fun _ => 0)))]) (va_A [(h0, .inr (1, [.int 0, .int 0, .null, .null]))] sz)) 1 96 (va_A [(h0, .inr (1, [.int 0, .int 0, .null, .null]))] sz) := by
  refine Met.ofW (cc := cX2_init) (maxL := 4) (ret := none) (by decide) rfl ?_
  intro p e s m args below meth c s₁ Bd hml hv
  obtain ⟨hC, hr⟩ := jC_of Bd hml
  have hC : jC p s m args meth c cX2_init 4 RX2 := hC
  have hin : meth.name = "<init>" := (name_of_methodNamed Bd.named Bd.method).1
  obtain ⟨rfl, hsz, hP, hK, hD0⟩ := hv
  subst hsz
  have hx := hC.1.1
  have hb := hC.1.2.1
  have hown := hC.1.2.2.2.1
  have hts := hC.1.2.2.2.2
  have hlocks := hC.2
  have hD := hD0.self (sz := s.heap.size)
  generalize hAe : va_A [(h0, .inr (1, [.int 0, .int 0, .null, .null]))] s.heap.size = A at hD ⊢
  have hA : ∀ q : Nat, s.heap.size ≤ q → A q := fun q h => by rw [← hAe]; exact Or.inr h
  have hS : va_S A s.heap s.heap [] := va_S.rf
  have hl := lv_entry ([.ref h0, .int x1, .int (nI n), .ref p3]) (n := 4) (Nat.le_of_ble_eq_true rfl)
  rw [lg_entry_eq]
  generalize (lg_sl ([.ref h0, .int x1, .int (nI n), .ref p3]) ++ List.replicate (4 - (lg_sl ([.ref h0, .int x1, .int (nI n), .ref p3])).length) Slot.unset).toArray = ls at hl ⊢
  have hl : lv_has ls 4 [(0, .ref h0), (1, .int x1), (2, .int (nI n)), (3, .ref p3)] := hl
  refine W_nm (fun H locs eH eL => ?_)
  have hP : va_P D vwCl [(h0, .inr (1, [.int 0, .int 0, .null, .null]))] H := by rw [eH]; exact hP
  have hS : va_S A s.heap H locs := by rw [eH, eL]; exact hS
  show W p l e { frames := 1, cells := 1, slots := 96, locals := 12 } s m _ below meth c H locs 0 0 _ (F0 m 0 ls [])
  refine lv_aload_n hx hb dX2_init_0 rfl (lv_at hl 0 rfl) ?_
  refine W.objInit hx hb hown (hts _ wmX2_1) (hts _ wOi) (hts _ wOc) rfl (by rw [hml]; exact hl.1) rfl dX2_init_1 (Nat.le_of_ble_eq_true rfl) (Nat.le_of_ble_eq_true rfl) ?_
  refine W.eq (g2 := F0 m 4 ls []) rfl ?_
  refine lv_aload_n hx hb dX2_init_4 rfl (lv_at hl 0 rfl) ?_
  refine lv_iload_n hx hb dX2_init_5 rfl (lv_at hl 1 rfl) ?_
  refine va_putF (D := D) (ci := 1) (v := .int x1) (ty := .int) (C := RX2) (T := TX2) (N := 4) hx hb hts wyX2 tyX2 tyX2_ok nmX2 hown hK hP hD hS 0 rfl rfl 0 (by decide) (hts _ wfX2_7) (fun _ h9 => h9) rfl hin rfl (by decide +kernel) rfl rfl (Nat.le_of_ble_eq_true rfl) dX2_init_6 (fun H locs hP hD hS => ?_)
  have hP : va_P D vwCl [(h0, .inr (1, [.int x1, .int 0, .null, .null]))] H := hP
  have hD : va_D A [(h0, .inr (1, [.int x1, .int 0, .null, .null]))] := hD
  refine lv_aload_n hx hb dX2_init_9 rfl (lv_at hl 0 rfl) ?_
  refine lv_iload_n hx hb dX2_init_10 rfl (lv_at hl 2 rfl) ?_
  refine va_putF (D := D) (ci := 1) (v := .int (nI n)) (ty := .int) (C := RX2) (T := TX2) (N := 4) hx hb hts wyX2 tyX2 tyX2_ok nmX2 hown hK hP hD hS 0 rfl rfl 1 (by decide) (hts _ wfX2_13) (fun _ h9 => h9) rfl hin rfl (by decide +kernel) rfl rfl (Nat.le_of_ble_eq_true rfl) dX2_init_11 (fun H locs hP hD hS => ?_)
  have hP : va_P D vwCl [(h0, .inr (1, [.int x1, .int (nI n), .null, .null]))] H := hP
  have hD : va_D A [(h0, .inr (1, [.int x1, .int (nI n), .null, .null]))] := hD
  refine lv_aload_n hx hb dX2_init_14 rfl (lv_at hl 0 rfl) ?_
  refine lv_aload_n hx hb dX2_init_15 rfl (lv_at hl 3 rfl) ?_
  refine va_putF (D := D) (ci := 1) (v := .ref p3) (ty := .array .int) (C := RX2) (T := TX2) (N := 4) hx hb hts wyX2 tyX2 tyX2_ok nmX2 hown hK hP hD hS 0 rfl rfl 2 (by decide) (hts _ wfX2_16) (fun _ h9 => h9) rfl hin rfl (by decide +kernel) rfl rfl (Nat.le_of_ble_eq_true rfl) dX2_init_16 (fun H locs hP hD hS => ?_)
  have hP : va_P D vwCl [(h0, .inr (1, [.int x1, .int (nI n), .ref p3, .null]))] H := hP
  have hD : va_D A [(h0, .inr (1, [.int x1, .int (nI n), .ref p3, .null]))] := hD
  refine lv_aload_n hx hb dX2_init_19 rfl (lv_at hl 0 rfl) ?_
  refine lv_iload_n hx hb dX2_init_20 rfl (lv_at hl 2 rfl) ?_
  refine va_newa (atype := .int) (ty := .int) (N' := n) (a0 := (n, .inl (fun _ => 0))) hx hb (hts _ wa_int) rfl hK hP hD hS hA (fun _ => rfl) (nI_pos (by omega)) (nI_clamp (by omega)) (by show n * 4 ≤ 536870912; omega) (Nat.le_of_ble_eq_true rfl) (by show 0 + n ≤ 96; omega) dX2_init_21 (fun q1 cA H hK hP hD hS => ?_)
  have e9 : cI = cA := ci_eq hK 0 1 rfl rfl
  subst e9
  have hK := hK.sub (tys' := [(cI, .int)]) [0] rfl
  have hP : va_P D vwCl [(h0, .inr (1, [.int x1, .int (nI n), .ref p3, .null])), (q1, .inl (cI, n, .inl (fun _ => 0)))] H := hP
  have hD : va_D A [(h0, .inr (1, [.int x1, .int (nI n), .ref p3, .null])), (q1, .inl (cI, n, .inl (fun _ => 0)))] := hD
  refine W.widen (k := 1) (n := 96) (Nat.le_of_ble_eq_true rfl) (by omega) ?_
  refine va_putF (D := D) (ci := 1) (v := .ref q1) (ty := .array .int) (C := RX2) (T := TX2) (N := 4) hx hb hts wyX2 tyX2 tyX2_ok nmX2 hown hK hP hD hS 0 rfl rfl 3 (by decide) (hts _ wfX2_20) (fun _ h9 => h9) rfl hin rfl (by decide +kernel) rfl rfl (Nat.le_of_ble_eq_true rfl) dX2_init_23 (fun H locs hP hD hS => ?_)
  have hP : va_P D vwCl [(h0, .inr (1, [.int x1, .int (nI n), .ref p3, .ref q1])), (q1, .inl (cI, n, .inl (fun _ => 0)))] H := hP
  have hD : va_D A [(h0, .inr (1, [.int x1, .int (nI n), .ref p3, .ref q1])), (q1, .inl (cI, n, .inl (fun _ => 0)))] := hD
  have hP9 := hP.sub (ws' := [(h0, .inr (1, [.int x1, .int (nI n), .ref p3, .ref q1])), (q1, .inl (cI, n, .inl (fun _ => 0)))]) [0, 1] rfl
  have hD9 := hD.sub (ws' := [(h0, .inr (1, [.int x1, .int (nI n), .ref p3, .ref q1])), (q1, .inl (cI, n, .inl (fun _ => 0)))]) [0, 1] (by decide) rfl
  have hK9 := hK.sub (tys' := [(cI, .int)]) [0] rfl
  exact W.vret hx hb hr (fun t ht hW => ⟨⟨(), rfl, trivial, q1, by rw [ht]; exact hP9, va_K.moved hW.alike hK9, hD9⟩, hS.F ht⟩) hS.2.2 dX2_init_26
set_option maxHeartbeats 4000000 in
set_option maxRecDepth 100000 in
/-- Arrays.copyOf of 96 places, fewer asked for: a new row of the first n -/
theorem eJ7_copyOf (l : Launch) (D : va_G) (cI : ClassId) (a0 : Nat) (f : Nat → Int32) (n : Nat) (hn : n < 96) (sz : Nat) : Met l yJ7_copyOf_59c91 (Cond.code yJ7_copyOf_59c91 cJ7_copyOf_59c91 3 (some (.array .int)) :: Tw) { frames := 1, cells := 1, slots := 96, locals := 60 } (eP0 D cI [(a0, .inl (cI, 96, .inl f))] sz [.ref a0, .int (nI n)]) (va_Qr (fun (_ : Unit) => True) (fun _ q t => va_P D vwCl [(a0, .inl (cI, 96, .inl f)), (q, .inl (cI, n, .inl (va_cpy f (fun _ => 0) 0 0 n)))] t.heap ∧ va_K D vwCl [(cI, .int)] t ∧ va_D (va_A [(a0, .inl (cI, 96, .inl f))] sz) [(a0, .inl (cI, 96, .inl f)), (q, .inl (cI, n, .inl (va_cpy f (fun _ => 0) 0 0 n)))]) (va_A [(a0, .inl (cI, 96, .inl f))] sz)) 1 96 (va_A [(a0, .inl (cI, 96, .inl f))] sz) := by
  refine Met.ofW (cc := cJ7_copyOf_59c91) (maxL := 3) (ret := (some (.array .int))) (by decide) rfl ?_
  intro p e s m args below meth c s₁ Bd hml hv
  obtain ⟨hC, hr⟩ := jC_of Bd hml
  have hC : jC p s m args meth c cJ7_copyOf_59c91 3 RJ7 := hC
  obtain ⟨rfl, hsz, hP, hK, hD0⟩ := hv
  subst hsz
  have hx := hC.1.1
  have hb := hC.1.2.1
  have hown := hC.1.2.2.2.1
  have hts := hC.1.2.2.2.2
  have hlocks := hC.2
  have hD := hD0.self (sz := s.heap.size)
  generalize hAe : va_A [(a0, .inl (cI, 96, .inl f))] s.heap.size = A at hD ⊢
  have hA : ∀ q : Nat, s.heap.size ≤ q → A q := fun q h => by rw [← hAe]; exact Or.inr h
  have hS : va_S A s.heap s.heap [] := va_S.rf
  have hl := lv_entry ([.ref a0, .int (nI n)]) (n := 3) (Nat.le_of_ble_eq_true rfl)
  rw [lg_entry_eq]
  generalize (lg_sl ([.ref a0, .int (nI n)]) ++ List.replicate (3 - (lg_sl ([.ref a0, .int (nI n)])).length) Slot.unset).toArray = ls at hl ⊢
  have hl : lv_has ls 3 [(0, .ref a0), (1, .int (nI n))] := hl
  refine W_nm (fun H locs eH eL => ?_)
  have hP : va_P D vwCl [(a0, .inl (cI, 96, .inl f))] H := by rw [eH]; exact hP
  have hS : va_S A s.heap H locs := by rw [eH, eL]; exact hS
  show W p l e { frames := 1, cells := 1, slots := 96, locals := 60 } s m _ below meth c H locs 0 0 _ (F0 m 0 ls [])
  refine lv_iload_n hx hb dJ7_copyOf_59c91_0 rfl (lv_at hl 1 rfl) ?_
  refine lv_aload_n hx hb dJ7_copyOf_59c91_1 rfl (lv_at hl 0 rfl) ?_
  refine va_alen (v := 96) hx hb hK hP 0 0 rfl (ty := .int) rfl (show Int32.ofNat 96 = 96 by decide) dJ7_copyOf_59c91_2 ?_
  refine lv_icmp_ne (tgt := 14) hx hb dJ7_copyOf_59c91_3 (by decide) (fun c1 => ?_) (fun c1 => ?_)
  · refine lv_iload_n hx hb dJ7_copyOf_59c91_14 rfl (lv_at hl 1 rfl) ?_
    refine va_newa (atype := .int) (ty := .int) (N' := n) (a0 := (n, .inl (fun _ => 0))) hx hb (hts _ wa_int) rfl hK hP hD hS hA (fun _ => rfl) (nI_pos (by omega)) (nI_clamp (by omega)) (by show n * 4 ≤ 536870912; omega) (Nat.le_of_ble_eq_true rfl) (by show 0 + n ≤ 96; omega) dJ7_copyOf_59c91_15 (fun q cA H hK hP hD hS => ?_)
    have e9 : cI = cA := ci_eq hK 0 1 rfl rfl
    subst e9
    have hK := hK.sub (tys' := [(cI, .int)]) [0] rfl
    have hP : va_P D vwCl [(a0, .inl (cI, 96, .inl f)), (q, .inl (cI, n, .inl (fun _ => 0)))] H := hP
    have hD : va_D A [(a0, .inl (cI, 96, .inl f)), (q, .inl (cI, n, .inl (fun _ => 0)))] := hD
    refine W.widen (k := 1) (n := 96) (Nat.le_of_ble_eq_true rfl) (by omega) ?_
    refine lv_astore_n (lv' := [(2, .ref q), (0, .ref a0), (1, .int (nI n))]) hx hb dJ7_copyOf_59c91_17 rfl hl (by decide) rfl (fun ls hl => ?_)
    refine lv_aload_n hx hb dJ7_copyOf_59c91_18 rfl (lv_at hl 1 rfl) ?_
    refine lv_iconst (v := 0) hx hb dJ7_copyOf_59c91_19 (by decide) ?_
    refine lv_aload_n hx hb dJ7_copyOf_59c91_20 rfl (lv_at hl 0 rfl) ?_
    refine lv_iconst (v := 0) hx hb dJ7_copyOf_59c91_21 (by decide) ?_
    refine lv_aload_n hx hb dJ7_copyOf_59c91_22 rfl (lv_at hl 1 rfl) ?_
    refine va_alen (v := 96) hx hb hK hP 0 0 rfl (ty := .int) rfl (show Int32.ofNat 96 = 96 by decide) dJ7_copyOf_59c91_23 ?_
    refine lv_iload_n hx hb dJ7_copyOf_59c91_24 rfl (lv_at hl 2 rfl) ?_
    refine va_mmin hx hb (hC.1.2.2.1.trans hl.1.symm) hown (hts _ wmJ7_304) (hts _ wMa_min.1) (hts _ wMa_min.2.1) (hts _ wMa_min.2.2) (Nat.le_of_ble_eq_true rfl) (Nat.le_of_ble_eq_true rfl) (Nat.le_of_ble_eq_true rfl) (Nat.le_of_ble_eq_true rfl) dJ7_copyOf_59c91_25 ?_
    have em : nI n = (if nI n < 96 then nI n else 96) := by rw [if_pos (show nI n < 96 from nI_lt (a := n) (b := 96) hn (by omega))]
    refine lv_tope em ?_
    refine va_copyi (ty := .int) hx hb (hC.1.2.2.1.trans hl.1.symm) hown (hts _ wmJ7_150) (hts _ wAcn) (hts _ wAcs) (hts _ wzJ10) hK hP hD hS 0 1 0 0 rfl rfl rfl rfl rfl (by decide) (by decide) (nI_pos (by omega)) (by rw [nI_clamp (by omega)]; show 0 + n ≤ 96; omega) (by rw [nI_clamp (by omega)]; show 0 + n ≤ n; omega) (fun _ _ => rfl) (Nat.le_of_ble_eq_true rfl) (by decide +kernel) dJ7_copyOf_59c91_28 (fun H locs hP hD hS => ?_)
    rw [nI_clamp (show n < 2 ^ 31 by omega)] at hP hD
    have hP : va_P D vwCl [(a0, .inl (cI, 96, .inl f)), (q, .inl (cI, n, .inl (va_cpy f (fun _ => 0) 0 0 n)))] H := hP
    have hD : va_D A [(a0, .inl (cI, 96, .inl f)), (q, .inl (cI, n, .inl (va_cpy f (fun _ => 0) 0 0 n)))] := hD
    refine lv_aload_n hx hb dJ7_copyOf_59c91_31 rfl (lv_at hl 0 rfl) ?_
    exact W.aret (rt := .array .int) hx hb hr (Or.inr ⟨_, rfl⟩) (Or.inr ⟨q, rfl⟩) (fun t ht hW => ⟨⟨(), q, rfl, trivial, by rw [ht]; exact hP, va_K.moved hW.alike hK, hD⟩, hS.F ht⟩) hS.2.2 dJ7_copyOf_59c91_32
  · exact absurd c1 (fun h => by
      have h2 := (nI_eq (a := n) (b := 96) (by omega) (by omega)).mp h
      omega)
/-! a new law in the pool: the object a, its codes c, its stack t -/
def frs (L : List Nat) (a c t : Nat) : Prop := a ∉ L ∧ c ∉ L ∧ t ∉ L ∧ a ≠ c ∧ a ≠ t ∧ c ≠ t
def xnew (σ : XS) (a c t : Nat) : XS := (σ.1, σ.2.1, σ.2.2.1, σ.2.2.2.1 ++ [a, c, t],
  (fun b k => if b = a then (if k = 0 then c else if k = 1 then t else 0) else if b = c then (if k = 2 then (xi σ 6 4).toNatClampNeg else if k = 3 then 1 else 0) else if b = t then (if k = 2 then (xi σ 6 2).toNatClampNeg else if k = 3 then 1 else 0) else xq σ b k),
  (fun b k => if b = a then (if k = 0 then xi σ 6 1 else if k = 1 then xi σ 6 2 else 0) else if b = c then va_cpy (xi σ 55) (fun _ => 0) 0 0 (xi σ 6 4).toNatClampNeg k else if b = t then 0 else xw σ b k))
theorem xW_new (G : XG) (σ : XS) (a c t : Nat) (h : frs (xL σ) a c t) : xW G (xnew σ a c t) = xW G σ ++ [(a, .inr (1, [.int (xi σ 6 1), .int (xi σ 6 2), .ref c, .ref t])), (c, .inl (xK G 0, (xi σ 6 4).toNatClampNeg, .inl (va_cpy (xi σ 55) (fun _ => 0) 0 0 (xi σ 6 4).toNatClampNeg))), (t, .inl (xK G 0, (xi σ 6 2).toNatClampNeg, .inl (fun _ => 0)))] := by
  obtain ⟨h1, h2, h3, h4, h5, h6⟩ := h
  unfold xW
  rw [show xHd G (xnew σ a c t) = xHd G σ from rfl, List.append_assoc]
  congr 1
  show List.map _ (xL σ ++ [a, c, t]) = _
  rw [List.map_append]
  congr 1
  · apply List.map_congr_left
    intro b hb
    have n1 : b ≠ a := fun q => h1 (q ▸ hb)
    have n2 : b ≠ c := fun q => h2 (q ▸ hb)
    have n3 : b ≠ t := fun q => h3 (q ▸ hb)
    have eq : xq (xnew σ a c t) b = xq σ b := by
      funext k
      show (if b = a then _ else if b = c then _ else if b = t then _ else xq σ b k) = xq σ b k
      rw [if_neg n1, if_neg n2, if_neg n3]
    have ew : xw (xnew σ a c t) b = xw σ b := by
      funext k
      show (if b = a then _ else if b = c then _ else if b = t then _ else xw σ b k) = xw σ b k
      rw [if_neg n1, if_neg n2, if_neg n3]
    unfold xf fL
    rw [eq, ew]
  · have qa : xq (xnew σ a c t) a = fun k => if k = 0 then c else if k = 1 then t else 0 := by
      funext k; show (if a = a then _ else _) = _; rw [if_pos rfl]
    have wa : xw (xnew σ a c t) a = fun k => if k = 0 then xi σ 6 1 else if k = 1 then xi σ 6 2 else 0 := by
      funext k; show (if a = a then _ else _) = _; rw [if_pos rfl]
    have qc : xq (xnew σ a c t) c = fun k => if k = 2 then (xi σ 6 4).toNatClampNeg else if k = 3 then 1 else 0 := by
      funext k; show (if c = a then _ else if c = c then _ else _) = _; rw [if_neg (Ne.symm h4), if_pos rfl]
    have wc : xw (xnew σ a c t) c = va_cpy (xi σ 55) (fun _ => 0) 0 0 (xi σ 6 4).toNatClampNeg := by
      funext k; show (if c = a then _ else if c = c then _ else _) = _; rw [if_neg (Ne.symm h4), if_pos rfl]
    have qt : xq (xnew σ a c t) t = fun k => if k = 2 then (xi σ 6 2).toNatClampNeg else if k = 3 then 1 else 0 := by
      funext k; show (if t = a then _ else if t = c then _ else if t = t then _ else _) = _; rw [if_neg (Ne.symm h5), if_neg (Ne.symm h6), if_pos rfl]
    have wt : xw (xnew σ a c t) t = fun _ => 0 := by
      funext k; show (if t = a then _ else if t = c then _ else if t = t then _ else _) = _; rw [if_neg (Ne.symm h5), if_neg (Ne.symm h6), if_pos rfl]
    simp only [List.map_cons, List.map_nil]
    unfold xf fL
    rw [qa, wa, qc, wc, qt, wt]
    rfl

theorem va_grow {D : va_G} {cl : List vw_C} {A : Nat → Prop} {ws w1 : va_W} {H H1 : Heap} (hP : va_P D cl ws H) (hD : va_D A ws) (hk : ∀ (k : Nat) (q : Nat × va_E), ws[k]? = some q → H1[q.1]? = H[q.1]?) (hP1 : va_P D cl w1 H1) (hD1 : va_D A w1) (hn : ∀ (k : Nat) (q : Nat × va_E), w1[k]? = some q → H.size ≤ q.1) : va_P D cl (ws ++ w1) H1 ∧ va_D A (ws ++ w1) :=
  ⟨(hP.kept hk).app hP1, hD.app hD1 (fun i j x y hx hy e => by
    have h1 := (hP i x hx).lt
    have h2 := hn j y hy
    omega)⟩
set_option maxHeartbeats 4000000 in
set_option maxRecDepth 100000 in
/-- Reader.law(): a new law in the pool -/
theorem cR_law (l : Launch) (G : XG) (σ0 : XS) (no nc : Nat) (hno : xi σ0 6 2 = nI no) (hno2 : no ≤ 96) (hnc : xi σ0 6 4 = nI nc) (hnc2 : nc < 96) : ∀ sz, Met l yX3_law (Cond.code yX3_law cX3_law 1 (some (.object "RoadSorted$Law")) :: Tw) { frames := 2, cells := 3, slots := 196, locals := 120 } (xP G σ0 sz [.ref (xA G 7)]) (va_Qr (fun u : Nat × Nat × Nat => frs (xL σ0) u.1 u.2.1 u.2.2) (fun u a t => a = u.1 ∧ xB G σ0 sz (xnew σ0 u.1 u.2.1 u.2.2) t) (va_A (xW G σ0) sz)) 3 196 (va_A (xW G σ0) sz) := by
  intro sz
  refine Met.ofW (cc := cX3_law) (maxL := 1) (ret := (some (.object "RoadSorted$Law"))) (by decide) rfl ?_
  intro p e s m args below meth c s₁ Bd hml hv
  obtain ⟨hC, hr⟩ := jC_of Bd hml
  obtain ⟨rfl, rfl, hH⟩ := x_enter hv
  have hC : jC p s m _ meth c cX3_law 1 RX3 := hC
  have hx := hC.1.1
  have hb := hC.1.2.1
  have hown := hC.1.2.2.2.1
  have hts := hC.1.2.2.2.2
  have hl := lv_entry ([.ref (xA G 7)]) (n := 1) (Nat.le_of_ble_eq_true rfl)
  rw [lg_entry_eq]
  generalize (lg_sl ([.ref (xA G 7)]) ++ List.replicate (1 - (lg_sl ([.ref (xA G 7)])).length) Slot.unset).toArray = ls at hl ⊢
  have hl : lv_has ls 1 [(0, .ref (xA G 7))] := hl
  refine W_nm (fun H locs eH eL => ?_)
  have hH : xH G s (va_A (xW G σ0) s.heap.size) σ0 H locs := by rw [eH, eL]; exact hH
  show W p l e { frames := 2, cells := 3, slots := 196, locals := 120 } s m _ below meth c H locs 0 0 _ (F0 m 0 ls [])
  have hlocks := hC.2
  obtain ⟨hP, hD, hS, hA, hK, hE⟩ := hH
  generalize hAe : va_A (xW G σ0) s.heap.size = A at hD hS hA hE ⊢
  have hS0 := hS
  have hP0 := hP
  have hH0 : H = s.heap := eH
  refine va_new (ci := 1) (fs := [.int 0, .int 0, .null, .null]) (C := RX2) (T := TX2) (N := 4) hx hb hts wyX2 tyX2 tyX2_ok hown (hts _ wlX3_7) (hts _ wiX2) (hts _ wzX2) hK hP hD hS hA rfl (fun j hj => by rcases (show j = 0 ∨ j = 1 ∨ j = 2 ∨ j = 3 by omega) with rfl | rfl | rfl | rfl <;> rfl) (Nat.le_of_ble_eq_true rfl) (Nat.le_of_ble_eq_true rfl) dX3_law_0 (fun qa H2 hP hD hS => ?_)
  refine W.widen (k := 1) (n := 4) (Nat.le_of_ble_eq_true rfl) (Nat.le_of_ble_eq_true rfl) ?_
  have e6 : (xW G σ0 ++ [(qa, .inr (1, [.int 0, .int 0, .null, .null]))])[6]? = some (xA G 7, .inr (2, fR G σ0)) := rfl
  refine lv_dup hx hb dX3_law_3 rfl ?_
  refine lv_aload_n hx hb dX3_law_4 rfl (lv_at hl 0 rfl) ?_
  refine va_get (D := xD G) (ci := 2) (v := .int (xi σ0 6 1)) (C := RX3) (T := TX3) (N := 7) hx hb hts wyX3 hown hK hP 6 e6 rfl 1 (by decide) (hts _ wfX3_9) (fun _ h9 => h9) rfl dX3_law_5 ?_
  refine lv_aload_n hx hb dX3_law_8 rfl (lv_at hl 0 rfl) ?_
  refine va_get (D := xD G) (ci := 2) (v := .int (xi σ0 6 2)) (C := RX3) (T := TX3) (N := 7) hx hb hts wyX3 hown hK hP 6 e6 rfl 2 (by decide) (hts _ wfX3_15) (fun _ h9 => h9) rfl dX3_law_9 ?_
  refine lv_aload_n hx hb dX3_law_12 rfl (lv_at hl 0 rfl) ?_
  refine va_get (D := xD G) (ci := 2) (v := .ref (xA G (100 + 55))) (C := RX3) (T := TX3) (N := 7) hx hb hts wyX3 hown hK hP 6 e6 rfl 3 (by decide) (hts _ wfX3_20) (fun _ h9 => h9) rfl dX3_law_13 ?_
  refine lv_aload_n hx hb dX3_law_16 rfl (lv_at hl 0 rfl) ?_
  refine va_get (D := xD G) (ci := 2) (v := .int (xi σ0 6 4)) (C := RX3) (T := TX3) (N := 7) hx hb hts wyX3 hown hK hP 6 e6 rfl 4 (by decide) (hts _ wfX3_24) (fun _ h9 => h9) rfl dX3_law_17 ?_
  refine lv_tope hnc.symm ?_
  have hPc : va_P (xD G) vwCl [(xA G (100 + 55), .inl (xK G 0, 96, .inl (xi σ0 55)))] H2 := hP.sub [49] rfl
  have hDc : va_D A [(xA G (100 + 55), .inl (xK G 0, 96, .inl (xi σ0 55)))] := hD.sub [49] (by decide) rfl
  have hKc : va_K (xD G) vwCl [(xK G 0, .int)] s := hK.sub [0] rfl
  have hFc : ∀ q, va_A [(xA G (100 + 55), .inl (xK G 0, 96, .inl (xi σ0 55)))] H2.size q → A q := va_free hD hS hA [49] rfl
  refine va_callr (va_runS (As := [.ref (xA G (100 + 55)), .int (nI nc)]) (rest := [.int (xi σ0 6 2), .int (xi σ0 6 1), .ref qa, .ref qa]) hC.1 (eJ7_copyOf l (xD G) (xK G 0) (xA G (100 + 55)) (xi σ0 55) nc hnc2 H2.size) (va_cwS 2 hts (gS wmX3_51 wsJ7_copyOf_59c91) rfl rfl rfl hdJ7_copyOf ⟨Nat.le_of_ble_eq_true rfl, Nat.le_of_ble_eq_true rfl⟩) ⟨e0_blind, fun U hU hW => ⟨rfl, by rw [hU], by rw [hU]; exact hPc, va_K.moved hW.alike hKc, hDc.weaken (fun _ _ _ _ => trivial)⟩⟩ rfl rfl hl.1 rfl (lv_room (Nat.le_of_ble_eq_true rfl)) dX3_law_20 ⟨Nat.le_of_ble_eq_true rfl, Nat.le_of_ble_eq_true rfl⟩) hS (fun q _ h => hFc q h) hFc (fun u qc t H3 locs3 ht hvm hw hB hz3 hk3 hS => ?_)
  obtain ⟨hP1, hK1, hD1⟩ := hB
  rw [ht] at hP1
  have hk3 : ∀ (k : Nat) (q : Nat × va_E), (xW G σ0 ++ [(qa, .inr (1, [.int 0, .int 0, .null, .null]))])[k]? = some q → H3[q.1]? = H2[q.1]? := fun k q hq => by
    by_cases hc : q.1 = xA G (100 + 55)
    · rw [hc]
      have a1 : H3[xA G (100 + 55)]? = some (vp_cell (xK G 0) (96, .inl (xi σ0 55))) := hP1 0 _ rfl
      have a2 : H2[xA G (100 + 55)]? = some (vp_cell (xK G 0) (96, .inl (xi σ0 55))) := hPc 0 _ rfl
      rw [a1, a2]
    · refine hk3 q.1 (hP k q hq).lt (fun hq2 => ?_)
      rcases hq2 with ⟨k2, e2, h2⟩ | h2
      · match k2, h2 with
        | 0, h2 => exact hc (congrArg (fun z => (Option.getD z (0, .inr (0, []))).1) h2).symm
        | k2 + 1, h2 => cases h2
      · have := (hP k q hq).lt
        omega
  have hc3 : H2.size ≤ qc := by
    rcases hD1.2 1 _ rfl with ⟨k2, e2, h2⟩ | h2
    · match k2, h2 with
      | 0, h2 =>
        have h3 : qc = xA G (100 + 55) := (congrArg (fun z => (Option.getD z (0, .inr (0, []))).1) h2).symm
        exact absurd (hD1.1 0 1 _ _ rfl rfl h3.symm) (by omega)
      | k2 + 1, h2 => cases h2
    · exact h2
  obtain ⟨hP, hD⟩ := va_grow (w1 := [(qc, .inl (xK G 0, nc, .inl (va_cpy (xi σ0 55) (fun _ => 0) 0 0 nc)))]) hP hD hk3 (hP1.sub [1] rfl) ((hD1.sub [1] (by decide) rfl).weaken (fun _ q _ h => hFc _ h)) (fun k q hq => by
    match k, hq with
    | 0, hq => cases hq; exact hc3
    | k + 1, hq => cases hq)
  refine W.widen (k := 2) (n := 100) (Nat.le_of_ble_eq_true rfl) (Nat.le_of_ble_eq_true rfl) ?_
  have qaL : (xW G σ0 ++ [(qa, .inr (1, [.int 0, .int 0, .null, .null]))])[(xW G σ0).length]? = some (qa, .inr (1, [.int 0, .int 0, .null, .null])) := by simp
  have qaL2 : ((xW G σ0 ++ [(qa, .inr (1, [.int 0, .int 0, .null, .null]))]) ++ [(qc, .inl (xK G 0, nc, .inl (va_cpy (xi σ0 55) (fun _ => 0) 0 0 nc)))])[(xW G σ0).length]? = some (qa, .inr (1, [.int 0, .int 0, .null, .null])) := by
    rw [List.getElem?_append_left (by simp)]; exact qaL
  have hPa : va_P (xD G) vwCl [(qa, .inr (1, [.int 0, .int 0, .null, .null]))] H3 := hP.sub [(xW G σ0).length] (by rw [List.filterMap_cons]; rw [qaL2]; rfl)
  have hDa : va_D A [(qa, .inr (1, [.int 0, .int 0, .null, .null]))] := hD.sub [(xW G σ0).length] rfl (by rw [List.map_cons]; rw [qaL2]; rfl)
  have hFa : ∀ q, va_A [(qa, .inr (1, [.int 0, .int 0, .null, .null]))] H3.size q → A q := va_free hD hS hA [(xW G σ0).length] (by rw [List.map_cons]; rw [qaL2]; rfl)
  have hrest : W p l e { frames := 2, cells := 3, slots := 196, locals := 120 } s m #[.ref (xA G 7)] below meth c H3 locs3 2 100 (MQ below (va_Qr (fun u : Nat × Nat × Nat => frs (xL σ0) u.1 u.2.1 u.2.2) (fun u a t => a = u.1 ∧ xB G σ0 s.heap.size (xnew σ0 u.1 u.2.1 u.2.2) t) A) #[.ref (xA G 7)] s 3 196 A) (F0 m 23 ls [.ref qc, .int (nI no), .int (xi σ0 6 1), .ref qa, .ref qa]) := by
    refine va_callv (va_runI (As := [.int (xi σ0 6 1), .int (nI no), .ref qc]) (rest := [.ref qa]) hC.1 (eX2_init l (xD G) (xK G 0) qa (xi σ0 6 1) no qc hno2 H3.size) (cwI 3 hts (gC wnX2_init.2.2) rfl rfl rfl (hts _ wnX2_init.2.1) (hts _ wmX3_57) (hts _ wnX2_init.1) rfl hdX2_init ⟨Nat.le_of_ble_eq_true rfl, Nat.le_of_ble_eq_true rfl⟩) ⟨e0_blind, fun U hU hW => ⟨rfl, by rw [hU], by rw [hU]; exact hPa, va_K.moved hW.alike hKc, hDa.weaken (fun _ _ _ _ => trivial)⟩⟩ rfl rfl hl.1 rfl (lv_room (Nat.le_of_ble_eq_true rfl)) dX3_law_23 ⟨Nat.le_of_ble_eq_true rfl, Nat.le_of_ble_eq_true rfl⟩) hS (fun q _ h => hFa q h) hFa (fun u t4 H4 locs4 ht hvm hw hB hz4 hk4 hS => ?_)
    obtain ⟨qt, hP4, hK4, hD4⟩ := hB
    rw [ht] at hP4
    have hq4 : H3.size ≤ qt := by
      rcases hD4.2 1 _ rfl with ⟨k2, e2, h2⟩ | h2
      · match k2, h2 with
        | 0, h2 =>
          have h3 : qt = qa := (congrArg (fun z => (Option.getD z (0, .inr (0, []))).1) h2).symm
          exact absurd (hD4.1 0 1 _ _ rfl rfl h3.symm) (by omega)
        | k2 + 1, h2 => cases h2
      · exact h2
    -- what was there, but for the law's own cell, is as it was
    have hkeep : ∀ (k : Nat) (q : Nat × va_E), (xW G σ0 ++ [(qa, .inr (1, [.int 0, .int 0, .null, .null]))] ++ [(qc, .inl (xK G 0, nc, .inl (va_cpy (xi σ0 55) (fun _ => 0) 0 0 nc)))])[k]? = some q → q.1 ≠ qa → H4[q.1]? = H3[q.1]? := fun k q hq hne => by
      refine hk4 q.1 (hP k q hq).lt (fun hq2 => ?_)
      rcases hq2 with ⟨k2, e2, h2⟩ | h2
      · match k2, h2 with
        | 0, h2 => cases h2; exact hne rfl
        | k2 + 1, h2 => cases h2
      · have := (hP k q hq).lt
        omega
    have hidx : ∀ k q, (xW G σ0)[k]? = some q → (xW G σ0 ++ [(qa, .inr (1, [.int 0, .int 0, .null, .null]))] ++ [(qc, .inl (xK G 0, nc, .inl (va_cpy (xi σ0 55) (fun _ => 0) 0 0 nc)))])[k]? = some q := fun k q hq => by
      have hlt := (List.getElem?_eq_some_iff.mp hq).1
      rw [List.getElem?_append_left (by simp; omega), List.getElem?_append_left hlt]; exact hq
    have hidxc : (xW G σ0 ++ [(qa, .inr (1, [.int 0, .int 0, .null, .null]))] ++ [(qc, .inl (xK G 0, nc, .inl (va_cpy (xi σ0 55) (fun _ => 0) 0 0 nc)))])[(xW G σ0).length + 1]? = some (qc, .inl (xK G 0, nc, .inl (va_cpy (xi σ0 55) (fun _ => 0) 0 0 nc))) := by
      rw [List.getElem?_append_right (by simp)]; simp
    have nea : ∀ (k : Nat) (q : Nat × va_E), (xW G σ0)[k]? = some q → q.1 ≠ qa := fun k q hq e => by
      have hlt := (List.getElem?_eq_some_iff.mp hq).1
      have := hD.1 k (xW G σ0).length q _ (hidx k q hq) qaL2 e
      omega
    have nec : ∀ (k : Nat) (q : Nat × va_E), (xW G σ0)[k]? = some q → q.1 ≠ qc := fun k q hq e => by
      have hlt := (List.getElem?_eq_some_iff.mp hq).1
      have := hD.1 k ((xW G σ0).length + 1) q _ (hidx k q hq) hidxc e
      omega
    have neca : qc ≠ qa := fun e => by
      have := hD.1 ((xW G σ0).length + 1) (xW G σ0).length _ _ hidxc qaL2 e
      omega
    have net : ∀ (k : Nat) (q : Nat × va_E), (xW G σ0)[k]? = some q → q.1 ≠ qt := fun k q hq e => by
      have := (hP k q (hidx k q hq)).lt
      omega
    have net2 : qc ≠ qt := fun e => by
      have h5 : qc < H3.size := (hP ((xW G σ0).length + 1) _ hidxc).lt
      omega
    have net3 : qa ≠ qt := fun e => by
      have h5 : qa < H3.size := (hP (xW G σ0).length _ qaL2).lt
      omega
    have hmem : ∀ b, b ∈ xL σ0 → ∃ (k : Nat) (q : Nat × va_E), (xW G σ0)[k]? = some q ∧ q.1 = b := fun b hb => by
      obtain ⟨k, hk⟩ := va_pl_get (X := xHd G σ0) (f := xf G σ0) hb
      exact ⟨k, _, hk, rfl⟩
    have hfr : frs (xL σ0) qa qc qt := by
      refine ⟨fun hb => ?_, fun hb => ?_, fun hb => ?_, Ne.symm neca, net3, net2⟩
      · obtain ⟨k, q, h1, h2⟩ := hmem _ hb; exact nea k q h1 h2
      · obtain ⟨k, q, h1, h2⟩ := hmem _ hb; exact nec k q h1 h2
      · obtain ⟨k, q, h1, h2⟩ := hmem _ hb; exact net k q h1 h2
    have ec : (xi σ0 6 4).toNatClampNeg = nc := by rw [hnc]; exact nI_clamp (by omega)
    have eo : (xi σ0 6 2).toNatClampNeg = no := by rw [hno]; exact nI_clamp (by omega)
    have hW9 : xW G (xnew σ0 qa qc qt) = xW G σ0 ++ [(qa, .inr (1, [.int (xi σ0 6 1), .int (nI no), .ref qc, .ref qt])), (qc, .inl (xK G 0, nc, .inl (va_cpy (xi σ0 55) (fun _ => 0) 0 0 nc))), (qt, .inl (xK G 0, no, .inl (fun _ => 0)))] := by
      rw [xW_new G σ0 qa qc qt hfr, ec, eo, hno]
    have hP9 : va_P (xD G) vwCl (xW G (xnew σ0 qa qc qt)) H4 := by
      rw [hW9]
      refine va_P.app (fun k q hq => (hP k q (hidx k q hq)).kept (hkeep k q (hidx k q hq) (nea k q hq))) (fun k q hq => ?_)
      match k, hq with
      | 0, hq => cases hq; exact hP4 0 _ rfl
      | 1, hq => cases hq; exact (hP _ _ hidxc).kept (hkeep _ _ hidxc neca)
      | 2, hq => cases hq; exact hP4 1 _ rfl
      | k + 3, hq => cases hq
    have hD9 : va_D A (xW G (xnew σ0 qa qc qt)) := by
      rw [hW9]
      have d0 : va_D A (xW G σ0) := ⟨fun i j x y hx hy e => hD.1 i j x y (hidx i x hx) (hidx j y hy) e, fun k q hq => hD.2 k q (hidx k q hq)⟩
      refine va_D.app d0 ⟨fun i j x y hx hy e => ?_, fun k q hq => ?_⟩ (fun i j x y hx hy e => ?_)
      · match i, j, hx, hy with
        | 0, 0, _, _ => rfl
        | 1, 1, _, _ => rfl
        | 2, 2, _, _ => rfl
        | 0, 1, hx, hy => cases hx; cases hy; exact absurd e (Ne.symm neca)
        | 1, 0, hx, hy => cases hx; cases hy; exact absurd e neca
        | 0, 2, hx, hy => cases hx; cases hy; exact absurd e net3
        | 2, 0, hx, hy => cases hx; cases hy; exact absurd e (Ne.symm net3)
        | 1, 2, hx, hy => cases hx; cases hy; exact absurd e net2
        | 2, 1, hx, hy => cases hx; cases hy; exact absurd e (Ne.symm net2)
        | i + 3, _, hx, _ => cases hx
        | 0, j + 3, _, hy => cases hy
        | 1, j + 3, _, hy => cases hy
        | 2, j + 3, _, hy => cases hy
      · match k, hq with
        | 0, hq => cases hq; exact (show A qa from hD.2 _ _ qaL2)
        | 1, hq => cases hq; exact hD.2 _ _ hidxc
        | 2, hq => cases hq; exact hFa _ (hD4.2 1 _ rfl)
        | k + 3, hq => cases hq
      · match j, hy with
        | 0, hy => cases hy; exact nea i x hx e
        | 1, hy => cases hy; exact nec i x hx e
        | 2, hy => cases hy; exact net i x hx e
        | j + 3, hy => cases hy
    refine W.widen (k := 3) (n := 196) (Nat.le_of_ble_eq_true rfl) (Nat.le_of_ble_eq_true rfl) ?_
    exact W.aret (rt := .object "RoadSorted$Law") hx hb hr (Or.inl ⟨_, rfl⟩) (Or.inr ⟨qa, rfl⟩) (fun t5 ht hW => ⟨⟨(qa, qc, qt), qa, rfl, hfr, rfl, by rw [ht]; exact hP9, va_K.moved hW.alike hK, by rw [hAe]; exact hD9⟩, hS.F ht⟩) hS.2.2 dX3_law_26
  rw [← hno] at hrest
  exact hrest
