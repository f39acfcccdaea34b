/-! THE MODEL's cells as one picture: μ 0 k is its field k, μ (k + 1) the row of its field k -/
abbrev MS : Type := Nat → Nat → Int32
def up2 (μ : MS) (c i : Nat) (v : Int32) : MS := fun c' => if c' = c then upd (μ c) i v else μ c'

def mF (B : Nat → Nat) (μ : MS) : List Value := [.ref (B 1), .ref (B 2), .ref (B 3), .int (μ 0 3), .ref (B 5), .ref (B 6), .ref (B 7), .ref (B 8), .ref (B 9), .ref (B 10), .ref (B 11), .ref (B 12), .int (μ 0 12), .ref (B 14), .ref (B 15), .ref (B 16), .ref (B 17), .int (μ 0 17), .int (μ 0 18), .int (μ 0 19), .int (μ 0 20), .int (μ 0 21), .int (μ 0 22), .int (μ 0 23), .int (μ 0 24), .int (μ 0 25), .int (μ 0 26), .int (μ 0 27), .ref (B 29), .ref (B 30), .ref (B 31), .ref (B 32), .int (μ 0 32), .ref (B 34)]
def mA (B : Nat → Nat) (cI : ClassId) (μ : MS) : va_W := [(B 1, .inl (cI, 3076, .inl (μ 1))), (B 2, .inl (cI, 3076, .inl (μ 2))), (B 3, .inl (cI, 3076, .inl (μ 3))), (B 5, .inl (cI, 4, .inl (μ 5))), (B 6, .inl (cI, 4, .inl (μ 6))), (B 7, .inl (cI, 96, .inl (μ 7))), (B 8, .inl (cI, 5, .inl (μ 8))), (B 9, .inl (cI, 5, .inl (μ 9))), (B 10, .inl (cI, 5, .inl (μ 10))), (B 11, .inl (cI, 5, .inl (μ 11))), (B 12, .inl (cI, 120, .inl (μ 12))), (B 14, .inl (cI, 4096, .inl (μ 14))), (B 15, .inl (cI, 4096, .inl (μ 15))), (B 16, .inl (cI, 76, .inl (μ 16))), (B 17, .inl (cI, 96, .inl (μ 17))), (B 29, .inl (cI, 128, .inl (μ 29))), (B 30, .inl (cI, 100, .inl (μ 30))), (B 31, .inl (cI, 24, .inl (μ 31))), (B 32, .inl (cI, 60, .inl (μ 32))), (B 34, .inl (cI, 60, .inl (μ 34)))]
def mW (B : Nat → Nat) (cI : ClassId) (μ : MS) : va_W := (B 0, .inr (7, mF B μ)) :: mA B cI μ
def mLen (c : Nat) : Nat := match c with
  | 1 => 3076
  | 2 => 3076
  | 3 => 3076
  | 5 => 4
  | 6 => 4
  | 7 => 96
  | 8 => 5
  | 9 => 5
  | 10 => 5
  | 11 => 5
  | 12 => 120
  | 14 => 4096
  | 15 => 4096
  | 16 => 76
  | 17 => 96
  | 29 => 128
  | 30 => 100
  | 31 => 24
  | 32 => 60
  | 34 => 60
  | _ => 0
def mPos (c : Nat) : Nat := match c with
  | 1 => 1
  | 2 => 2
  | 3 => 3
  | 5 => 4
  | 6 => 5
  | 7 => 6
  | 8 => 7
  | 9 => 8
  | 10 => 9
  | 11 => 10
  | 12 => 11
  | 14 => 12
  | 15 => 13
  | 16 => 14
  | 17 => 15
  | 29 => 16
  | 30 => 17
  | 31 => 18
  | 32 => 19
  | 34 => 20
  | _ => 0
def mIs (c : Nat) : Bool := match c with
  | 1 => true
  | 2 => true
  | 3 => true
  | 5 => true
  | 6 => true
  | 7 => true
  | 8 => true
  | 9 => true
  | 10 => true
  | 11 => true
  | 12 => true
  | 14 => true
  | 15 => true
  | 16 => true
  | 17 => true
  | 29 => true
  | 30 => true
  | 31 => true
  | 32 => true
  | 34 => true
  | _ => false
theorem mW_at (B : Nat → Nat) (cI : ClassId) (μ : MS) {c : Nat} (h : mIs c = true) : (mW B cI μ)[mPos c]? = some (B c, .inl (cI, mLen c, .inl (μ c))) := by
  unfold mIs at h
  split at h <;> first | rfl | cases h
theorem mF_a (B : Nat → Nat) (μ : MS) {c : Nat} (h : mIs c = true) (i : Nat) (v : Int32) : mF B (up2 μ c i v) = mF B μ := by
  unfold mIs at h
  split at h <;> first | rfl | cases h
theorem mW_st (B : Nat → Nat) (cI : ClassId) (μ : MS) {c : Nat} (h : mIs c = true) (i : Nat) (v : Int32) : (mW B cI μ).set (mPos c) (B c, .inl (cI, mLen c, .inl (upd (μ c) i v))) = mW B cI (up2 μ c i v) := by
  unfold mW
  rw [mF_a B μ h]
  unfold mIs at h
  split at h <;> first | rfl | cases h
theorem mA_0 (B : Nat → Nat) (cI : ClassId) (μ : MS) (k : Nat) (v : Int32) : mA B cI (up2 μ 0 k v) = mA B cI μ := rfl
theorem mF_3 (B : Nat → Nat) (μ : MS) (v : Int32) : (mF B μ).set 3 (.int v) = mF B (up2 μ 0 3 v) := rfl
theorem mF_12 (B : Nat → Nat) (μ : MS) (v : Int32) : (mF B μ).set 12 (.int v) = mF B (up2 μ 0 12 v) := rfl
theorem mF_17 (B : Nat → Nat) (μ : MS) (v : Int32) : (mF B μ).set 17 (.int v) = mF B (up2 μ 0 17 v) := rfl
theorem mF_18 (B : Nat → Nat) (μ : MS) (v : Int32) : (mF B μ).set 18 (.int v) = mF B (up2 μ 0 18 v) := rfl
theorem mF_19 (B : Nat → Nat) (μ : MS) (v : Int32) : (mF B μ).set 19 (.int v) = mF B (up2 μ 0 19 v) := rfl
theorem mF_20 (B : Nat → Nat) (μ : MS) (v : Int32) : (mF B μ).set 20 (.int v) = mF B (up2 μ 0 20 v) := rfl
theorem mF_21 (B : Nat → Nat) (μ : MS) (v : Int32) : (mF B μ).set 21 (.int v) = mF B (up2 μ 0 21 v) := rfl
theorem mF_22 (B : Nat → Nat) (μ : MS) (v : Int32) : (mF B μ).set 22 (.int v) = mF B (up2 μ 0 22 v) := rfl
theorem mF_23 (B : Nat → Nat) (μ : MS) (v : Int32) : (mF B μ).set 23 (.int v) = mF B (up2 μ 0 23 v) := rfl
theorem mF_24 (B : Nat → Nat) (μ : MS) (v : Int32) : (mF B μ).set 24 (.int v) = mF B (up2 μ 0 24 v) := rfl
theorem mF_25 (B : Nat → Nat) (μ : MS) (v : Int32) : (mF B μ).set 25 (.int v) = mF B (up2 μ 0 25 v) := rfl
theorem mF_26 (B : Nat → Nat) (μ : MS) (v : Int32) : (mF B μ).set 26 (.int v) = mF B (up2 μ 0 26 v) := rfl
theorem mF_27 (B : Nat → Nat) (μ : MS) (v : Int32) : (mF B μ).set 27 (.int v) = mF B (up2 μ 0 27 v) := rfl
theorem mF_32 (B : Nat → Nat) (μ : MS) (v : Int32) : (mF B μ).set 32 (.int v) = mF B (up2 μ 0 32 v) := rfl
/-- what holds in a method's body: the machine, the code, the words -/
def jC (p : Program) (s : State) (m : MethodId) (args : Array Value) (meth : Method) (c : Code) (cc : ByteArray) (nL : Nat) (own : String) : Prop := CallFix p m c cc nL s args Tw own ∧ meth.locks = false
/-- the model's world in a body -/
def mH (D : va_G) (cI : ClassId) (B : Nat → Nat) (s : State) (A0 : Nat → Prop) (μ : MS) (H : Heap) (locs : List Loc) : Prop := va_P D vwCl (mW B cI μ) H ∧ va_D A0 (mW B cI μ) ∧ va_S A0 s.heap H locs ∧ (∀ q, s.heap.size ≤ q → A0 q) ∧ va_K D vwCl [(cI, .int)] s
abbrev mP (D : va_G) (cI : ClassId) (B : Nat → Nat) (μ : MS) (sz : Nat) (av : List Value) : Array Value → State → Prop := va_Pc av (fun U => U.heap.size = sz ∧ va_P D vwCl (mW B cI μ) U.heap ∧ va_K D vwCl [(cI, .int)] U ∧ va_D (fun _ => True) (mW B cI μ))
abbrev mB (D : va_G) (cI : ClassId) (B : Nat → Nat) (μ : MS) (sz : Nat) (μ1 : MS) (t : State) : Prop := va_P D vwCl (mW B cI μ1) t.heap ∧ va_K D vwCl [(cI, .int)] t ∧ va_D (va_A (mW B cI μ) sz) (mW B cI μ1)
abbrev mQi (D : va_G) (cI : ClassId) (B : Nat → Nat) (μ : MS) (sz : Nat) (μ1 : MS) (r : Int32) := va_Qi (fun (r' : Int32) (_ : Unit) => r' = r) (fun _ t => mB D cI B μ sz μ1 t) (va_A (mW B cI μ) sz)
abbrev mQv (D : va_G) (cI : ClassId) (B : Nat → Nat) (μ : MS) (sz : Nat) (μ1 : MS) := va_Qv (fun (_ : Unit) => True) (fun _ t => mB D cI B μ sz μ1 t) (va_A (mW B cI μ) sz)
section MROW
variable {p : Program} {l : Launch} {e : Env} {R : Room} {s : State} {m : MethodId} {args : Array Value} {below : List Frame} {meth : Method} {c : Code} {H : Heap} {locs : List Loc} {cells slots : Nat} {Q : State → Prop}
variable {cc : ByteArray} {pc : Nat} {ls : Array Slot} {rest : List Value} {D : va_G} {cI : ClassId} {B : Nat → Nat} {A0 : Nat → Prop} {μ : MS} {nL : Nat}
theorem m_get (hC : jC p s m args meth c cc nL RX8) (hH : mH D cI B s A0 μ H locs) (k : Nat) (hk : k < 34) {index : Nat} (hlink : Cond.fieldLink RX8 index "RoadSortedModel" (TX8 k).2.1 (TX8 k).2.2.1 ∈ Tw) (hsame : (TX8 k).1 = "RoadSortedModel") {v : Value} (hv : (mF B μ)[k]? = some v) (hdg : decode cc pc = .ok (.getfield index, 3))
    (kk : W p l e R s m args below meth c H locs cells slots Q (F0 m (pc + 3) ls (v :: rest))) : W p l e R s m args below meth c H locs cells slots Q (F0 m pc ls (.ref (B 0) :: rest)) :=
  va_get (D := D) (ci := 7) (C := RX8) (T := TX8) (N := 34) hC.1.1 hC.1.2.1 hC.1.2.2.2.2 wyX8 hC.1.2.2.2.1 hH.2.2.2.2 hH.1 0 rfl rfl k hk (hC.1.2.2.2.2 _ hlink) (fun _ h9 => by rw [← hsame]; exact h9) hv hdg kk
theorem m_put (hC : jC p s m args meth c cc nL RX8) (hH : mH D cI B s A0 μ H locs) (k : Nat) (hk : k < 34) {index : Nat} (hlink : Cond.fieldLink RX8 index "RoadSortedModel" (TX8 k).2.1 (TX8 k).2.2.1 ∈ Tw) (hsame : (TX8 k).1 = "RoadSortedModel") (hfin : (TX8 k).2.2.2 = false) {ty : FieldType} {v : Int32} (hd : parseFieldDescriptor (TX8 k).2.2.1 = some ty) (hn : narrow ty (.int v) = .int v) (hfit : fits ty (.int v) = true) {μ1 : MS} (hμ : μ1 = up2 μ 0 k v) (hs : (mF B μ).set k (.int v) = mF B (up2 μ 0 k v)) (hdg : decode cc pc = .ok (.putfield index, 3))
    (kk : ∀ (H1 : Heap) (locs1 : List Loc), mH D cI B s A0 μ1 H1 locs1 → W p l e R s m args below meth c H1 locs1 cells slots Q (F0 m (pc + 3) ls rest)) : W p l e R s m args below meth c H locs cells slots Q (F0 m pc ls (.int v :: .ref (B 0) :: rest)) := by
  refine va_put (D := D) (ci := 7) (C := RX8) (T := TX8) (N := 34) hC.1.1 hC.1.2.1 hC.1.2.2.2.2 wyX8 tyX8 tyX8_ok nmX8 hC.1.2.2.2.1 hH.2.2.2.2 hH.1 hH.2.1 hH.2.2.1 0 rfl rfl k hk (hC.1.2.2.2.2 _ hlink) (fun _ h9 => by rw [← hsame]; exact h9) hfin hd hn hfit hk hdg (fun H1 locs1 hP hD hS => kk H1 locs1 ?_)
  have e1 : (mW B cI μ).set 0 (B 0, .inr (7, (mF B μ).set k (.int v))) = mW B cI μ1 := by
    rw [hs, hμ]; rfl
  rw [e1] at hP hD
  exact ⟨hP, hD, hS, hH.2.2.2.1, hH.2.2.2.2⟩
theorem m_ald (hC : jC p s m args meth c cc nL RX8) (hH : mH D cI B s A0 μ H locs) {a : Nat} (ha : mIs a = true) {i : Int32} {j : Nat} (hj : i.toNatClampNeg = j) (hin : vp_in i (mLen a)) (hdg : decode cc pc = .ok (.iaload, 1))
    (kk : W p l e R s m args below meth c H locs cells slots Q (F0 m (pc + 1) ls (.int (μ a j) :: rest))) : W p l e R s m args below meth c H locs cells slots Q (F0 m pc ls (.int i :: .ref (B a) :: rest)) := by
  subst hj
  exact va_iald hC.1.1 hC.1.2.1 hH.2.2.2.2 hH.1 (mPos a) 0 (mW_at B cI μ ha) rfl hin hdg kk
theorem m_ast (hC : jC p s m args meth c cc nL RX8) (hH : mH D cI B s A0 μ H locs) {a : Nat} (ha : mIs a = true) {i v : Int32} {j : Nat} (hj : i.toNatClampNeg = j) {μ1 : MS} (hμ : μ1 = up2 μ a j v) (hin : vp_in i (mLen a)) (hdg : decode cc pc = .ok (.iastore, 1))
    (kk : ∀ (H1 : Heap) (locs1 : List Loc), mH D cI B s A0 μ1 H1 locs1 → W p l e R s m args below meth c H1 locs1 cells slots Q (F0 m (pc + 1) ls rest)) : W p l e R s m args below meth c H locs cells slots Q (F0 m pc ls (.int v :: .int i :: .ref (B a) :: rest)) := by
  subst hj
  refine va_iast hC.1.1 hC.1.2.1 hH.2.2.2.2 hH.1 hH.2.1 hH.2.2.1 (mPos a) 0 (mW_at B cI μ ha) rfl hin hdg (fun H1 locs1 hP hD hS => kk H1 locs1 ?_)
  rw [mW_st B cI μ ha, ← hμ] at hP hD
  exact ⟨hP, hD, hS, hH.2.2.2.1, hH.2.2.2.2⟩
theorem m_blind {sz : Nat} {av : List Value} : FrameBlind (mP D cI B μ sz av) := fun a U g mk q => by
  obtain ⟨q0, q1, qP, qK, qD⟩ := q
  exact ⟨q0, q1, qP, va_K.moved (u := U) (U := U.calling g mk a) (Vm.Alike.refl U.vm) qK, qD⟩
theorem m_pre (hH : mH D cI B s A0 μ H locs) (av : List Value) : ∀ U : State, U.heap = H → s.WarmedH U.vm → mP D cI B μ H.size av av.toArray U := fun U hU hW =>
  ⟨rfl, by rw [hU], by rw [hU]; exact hH.1, va_K.moved hW.alike hH.2.2.2.2, hH.2.1.weaken (fun _ _ _ _ => trivial)⟩
theorem m_sub (hH : mH D cI B s A0 μ H locs) : ∀ q, va_A (mW B cI μ) H.size q → A0 q := by
  intro q h
  rcases h with ⟨k, e, hk⟩ | h
  · exact hH.2.1.2 k (q, e) hk
  · exact hH.2.2.2.1 q (Nat.le_trans hH.2.2.1.1 h)
theorem m_aft {μ1 : MS} {H1 : Heap} {locs1 : List Loc} {t : State} (hH : mH D cI B s A0 μ H locs) (ht : t.heap = H1) (hB : mB D cI B μ H.size μ1 t) (hS : va_S A0 s.heap H1 locs1) : mH D cI B s A0 μ1 H1 locs1 :=
  ⟨by rw [← ht]; exact hB.1, hB.2.2.weaken (fun _ q _ h => m_sub hH _ h), hS, hH.2.2.2.1, hH.2.2.2.2⟩
variable {y : MethodName} {bytes : ByteArray} {maxL n index : Nat} {ret : Option FieldType} {rm : Room} {As : List Value} {μ1 : MS} {lv : List (Nat × Value)} {own : String}
theorem m_calli {r : Int32} (hM : ∀ sz, Met l y (Cond.code y bytes maxL ret :: Tw) rm (mP D cI B μ sz (.ref (B 0) :: As)) (mQi D cI B μ sz μ1 r) 0 0 (va_A (mW B cI μ) sz)) (hC : jC p s m args meth c cc nL own) (hH : mH D cI B s A0 μ H locs) (hl : lv_has ls nL lv)
    (cw : CallW R s args own RX8 index y bytes maxL ret (Cond.code y bytes maxL ret :: Tw) rm 0 0 n) (hn : As.length = n) {st0 : List Value} (hst : st0 = As.reverse ++ .ref (B 0) :: rest) (hrw : (rest.map fun v => v.category).sum ≤ 8) (hf : cells ≤ R.cells ∧ slots ≤ R.slots) (hdg : decode cc pc = .ok (.invokevirtual index, 3))
    (kk : ∀ (H1 : Heap) (locs1 : List Loc), mH D cI B s A0 μ1 H1 locs1 → W p l e R s m args below meth c H1 locs1 cells slots Q (F0 m (pc + 3) ls (.int r :: rest))) : W p l e R s m args below meth c H locs cells slots Q (F0 m pc ls st0) := by
  refine va_calli (va_runV (As := As) (rest := rest) hC.1 (hM H.size) cw ⟨m_blind, va_recv hH.2.2.2.2 hH.1 (ci := 7) (q0 := 0) rfl rfl, m_pre hH (.ref (B 0) :: As)⟩ rfl hn hl.1 hst (lv_room hrw) hdg hf) hH.2.2.1 (fun q _ h => m_sub hH q h) (m_sub hH) (fun r2 u t H1 locs1 ht hvm hw hB hz1 hk1 hS => ?_)
  subst hw
  exact kk H1 locs1 (m_aft hH ht hB hS)
theorem m_callv (hM : ∀ sz, Met l y (Cond.code y bytes maxL ret :: Tw) rm (mP D cI B μ sz (.ref (B 0) :: As)) (mQv D cI B μ sz μ1) 0 0 (va_A (mW B cI μ) sz)) (hC : jC p s m args meth c cc nL own) (hH : mH D cI B s A0 μ H locs) (hl : lv_has ls nL lv)
    (cw : CallW R s args own RX8 index y bytes maxL ret (Cond.code y bytes maxL ret :: Tw) rm 0 0 n) (hn : As.length = n) {st0 : List Value} (hst : st0 = As.reverse ++ .ref (B 0) :: rest) (hrw : (rest.map fun v => v.category).sum ≤ 8) (hf : cells ≤ R.cells ∧ slots ≤ R.slots) (hdg : decode cc pc = .ok (.invokevirtual index, 3))
    (kk : ∀ (H1 : Heap) (locs1 : List Loc), mH D cI B s A0 μ1 H1 locs1 → W p l e R s m args below meth c H1 locs1 cells slots Q (F0 m (pc + 3) ls rest)) : W p l e R s m args below meth c H locs cells slots Q (F0 m pc ls st0) := by
  refine va_callv (va_runV (As := As) (rest := rest) hC.1 (hM H.size) cw ⟨m_blind, va_recv hH.2.2.2.2 hH.1 (ci := 7) (q0 := 0) rfl rfl, m_pre hH (.ref (B 0) :: As)⟩ rfl hn hl.1 hst (lv_room hrw) hdg hf) hH.2.2.1 (fun q _ h => m_sub hH q h) (m_sub hH) (fun u t H1 locs1 ht hvm hw hB hz1 hk1 hS => ?_)
  exact kk H1 locs1 (m_aft hH ht hB hS)
theorem m_calls {r : Int32} (hM : ∀ sz, Met l y (Cond.code y bytes maxL ret :: Tw) rm (mP D cI B μ sz As) (mQi D cI B μ sz μ1 r) 0 0 (va_A (mW B cI μ) sz)) (hC : jC p s m args meth c cc nL own) (hH : mH D cI B s A0 μ H locs) (hl : lv_has ls nL lv)
    (cw : CallB R s args own index y bytes maxL ret (Cond.code y bytes maxL ret :: Tw) rm 0 0 n ∧ (Cond.static y).before args s = true) (hn : As.length = n) {st0 : List Value} (hst : st0 = As.reverse ++ rest) (hrw : (rest.map fun v => v.category).sum ≤ 8) (hf : cells ≤ R.cells ∧ slots ≤ R.slots) (hdg : decode cc pc = .ok (.invokestatic index, 3))
    (kk : ∀ (H1 : Heap) (locs1 : List Loc), mH D cI B s A0 μ1 H1 locs1 → W p l e R s m args below meth c H1 locs1 cells slots Q (F0 m (pc + 3) ls (.int r :: rest))) : W p l e R s m args below meth c H locs cells slots Q (F0 m pc ls st0) := by
  refine va_calli (va_runS (As := As) (rest := rest) hC.1 (hM H.size) cw ⟨m_blind, m_pre hH As⟩ rfl hn hl.1 hst (lv_room hrw) hdg hf) hH.2.2.1 (fun q _ h => m_sub hH q h) (m_sub hH) (fun r2 u t H1 locs1 ht hvm hw hB hz1 hk1 hS => ?_)
  subst hw
  exact kk H1 locs1 (m_aft hH ht hB hS)
theorem m_iret {μ0 : MS} {v : Int32} {ty : FieldType} (hC : jC p s m args meth c cc nL own) (hH : mH D cI B s (va_A (mW B cI μ0) s.heap.size) μ1 H locs) (hr : meth.sig.returnType = some ty) (hn : narrow ty (.int v) = .int v) (hdg : decode cc pc = .ok (.ireturn, 1)) :
    W p l e R s m args below meth c H locs cells slots (MQ below (mQi D cI B μ0 s.heap.size μ1 v) args s cells slots (va_A (mW B cI μ0) s.heap.size)) (F0 m pc ls [.int v]) :=
  W.zret (ty := ty) hC.1.1 hC.1.2.1 hr hn (fun t ht hW => ⟨⟨v, (), rfl, rfl, by rw [ht]; exact hH.1, va_K.moved hW.alike hH.2.2.2.2, hH.2.1⟩, hH.2.2.1.F ht⟩) hH.2.2.1.2.2 hdg hC.2
theorem m_vret {μ0 : MS} (hC : jC p s m args meth c cc nL own) (hH : mH D cI B s (va_A (mW B cI μ0) s.heap.size) μ1 H locs) (hr : meth.sig.returnType = none) (hdg : decode cc pc = .ok (.return_, 1)) :
    W p l e R s m args below meth c H locs cells slots (MQ below (mQv D cI B μ0 s.heap.size μ1) args s cells slots (va_A (mW B cI μ0) s.heap.size)) (F0 m pc ls []) :=
  W.vret hC.1.1 hC.1.2.1 hr (fun t ht hW => ⟨⟨(), rfl, trivial, by rw [ht]; exact hH.1, va_K.moved hW.alike hH.2.2.2.2, hH.2.1⟩, hH.2.2.1.F ht⟩) hH.2.2.1.2.2 hdg hC.2
end MROW
theorem m_enter {D : va_G} {cI : ClassId} {B : Nat → Nat} {μ : MS} {s : State} {av : List Value} {args : Array Value} {sz : Nat} (h : mP D cI B μ sz av args s) : args = av.toArray ∧ sz = s.heap.size ∧ mH D cI B s (va_A (mW B cI μ) s.heap.size) μ s.heap [] := by
  obtain ⟨h1, h2, hP, hK, hD⟩ := h
  refine ⟨h1, h2.symm, hP, hD.self, va_S.rf, fun q hq => Or.inr hq, hK⟩
theorem jC_of {l : Launch} {y : MethodName} {rm : Room} {cc : ByteArray} {maxL : Nat} {ret : Option FieldType} {p : Program} {e : Env} {s : State} {m : MethodId} {args : Array Value} {below : List Frame} {meth : Method} {c : Code} {s₁ : State} (B : BodyLoose p l y (headSpec (Cond.code y cc maxL ret :: Tw) rm) cc maxL ret e s m args below meth c s₁) (hml : c.maxLocals = maxL) : jC p s m args meth c cc maxL y.cls ∧ meth.sig.returnType = ret :=
  ⟨⟨⟨B.exec, B.bytes, hml, findClass_of_methodNamed B.named, fun w hw => atoms_spec (ws := Cond.code y cc maxL ret :: Tw) B.pre w (List.mem_cons_of_mem _ hw)⟩, B.notSynchronized⟩, B.returns⟩

