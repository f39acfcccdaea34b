/-- the class's world in a body -/
def xH (G : XG) (s : State) (A0 : Nat → Prop) (σ : XS) (H : Heap) (locs : List Loc) : Prop := va_P (xD G) vwCl (xW G σ) H ∧ va_D A0 (xW G σ) ∧ va_S A0 s.heap H locs ∧ (∀ q, s.heap.size ≤ q → A0 q) ∧ va_K (xD G) vwCl (xT G) s ∧ xE G A0 s s.heap
abbrev xP (G : XG) (σ : XS) (sz : Nat) (av : List Value) : Array Value → State → Prop := va_Pc av (fun U => U.heap.size = sz ∧ va_P (xD G) vwCl (xW G σ) U.heap ∧ va_K (xD G) vwCl (xT G) U ∧ va_D (fun _ => True) (xW G σ) ∧ xE G (va_A (xW G σ) sz) U U.heap)
abbrev xB (G : XG) (σ : XS) (sz : Nat) (σ1 : XS) (t : State) : Prop := va_P (xD G) vwCl (xW G σ1) t.heap ∧ va_K (xD G) vwCl (xT G) t ∧ va_D (va_A (xW G σ) sz) (xW G σ1)
abbrev xQi (G : XG) (σ : XS) (sz : Nat) (σ1 : XS) (r : Int32) := va_Qi (fun (r' : Int32) (_ : Unit) => r' = r) (fun _ t => xB G σ sz σ1 t) (va_A (xW G σ) sz)
abbrev xQv (G : XG) (σ : XS) (sz : Nat) (σ1 : XS) := va_Qv (fun (_ : Unit) => True) (fun _ t => xB G σ sz σ1 t) (va_A (xW G σ) sz)
abbrev xQq (G : XG) (σ : XS) (sz : Nat) (σ1 : XS) (r : Option Nat) := va_Qq (fun (r' : Option Nat) (_ : Unit) => r' = r) (fun _ t => xB G σ sz σ1 t) (va_A (xW G σ) sz)
/-! pure: a law that is in the pool, a row that is in the pool, a reference that may be null, a copy's bounds -/
def lk {α : Type} (σ : XS) (a : Nat) (k : Option α) : Option α := if a ∈ xL σ ∧ xq σ a 3 = 0 then k else none
def la {α : Type} (σ : XS) (a : Nat) (k : Option α) : Option α := if a ∈ xL σ ∧ ¬ xq σ a 3 = 0 then k else none
def oc {α : Type} (x : Option Nat) (n : Option α) (f : Nat → Option α) : Option α := match x with
  | none => n
  | some a => f a
def cp3 {α : Type} (sp dp n : Int32) (n0 n1 : Nat) (k : Option α) : Option α := if ¬ sp < 0 ∧ ¬ dp < 0 ∧ ¬ n < 0 ∧ sp.toNatClampNeg + n.toNatClampNeg ≤ n0 ∧ dp.toNatClampNeg + n.toNatClampNeg ≤ n1 then k else none
theorem lk_some {α : Type} {σ : XS} {a : Nat} {k : Option α} {r : α} (h : lk σ a k = some r) : (a ∈ xL σ ∧ xq σ a 3 = 0) ∧ k = some r := by
  unfold lk at h
  by_cases c : a ∈ xL σ ∧ xq σ a 3 = 0
  · rw [if_pos c] at h; exact ⟨c, h⟩
  · rw [if_neg c] at h; cases h
theorem la_some {α : Type} {σ : XS} {a : Nat} {k : Option α} {r : α} (h : la σ a k = some r) : (a ∈ xL σ ∧ ¬ xq σ a 3 = 0) ∧ k = some r := by
  unfold la at h
  by_cases c : a ∈ xL σ ∧ ¬ xq σ a 3 = 0
  · rw [if_pos c] at h; exact ⟨c, h⟩
  · rw [if_neg c] at h; cases h
theorem cp3_some {α : Type} {sp dp n : Int32} {n0 n1 : Nat} {k : Option α} {r : α} (h : cp3 sp dp n n0 n1 k = some r) : (¬ sp < 0 ∧ ¬ dp < 0 ∧ ¬ n < 0 ∧ sp.toNatClampNeg + n.toNatClampNeg ≤ n0 ∧ dp.toNatClampNeg + n.toNatClampNeg ≤ n1) ∧ k = some r := by
  unfold cp3 at h
  by_cases c : ¬ sp < 0 ∧ ¬ dp < 0 ∧ ¬ n < 0 ∧ sp.toNatClampNeg + n.toNatClampNeg ≤ n0 ∧ dp.toNatClampNeg + n.toNatClampNeg ≤ n1
  · rw [if_pos c] at h; exact ⟨c, h⟩
  · rw [if_neg c] at h; cases h
theorem oc_n {α : Type} {x : Option Nat} {n : Option α} {f : Nat → Option α} {r : Option α} (e : x = none) (h : oc x n f = r) : n = r := by subst e; exact h
theorem oc_s {α : Type} {x : Option Nat} {n : Option α} {f : Nat → Option α} {r : Option α} {a : Nat} (e : x = some a) (h : oc x n f = r) : f a = r := by subst e; exact h
theorem in_lt {i : Int32} {n k : Nat} (h : vp_in i n) (hk : n ≤ k) : i.toNatClampNeg < k := by
  by_cases c : n ≤ i.toNatClampNeg
  · exact absurd (Or.inr c) h
  · omega
section XROW
variable {p : Program} {l : Launch} {e : Env} {R : Room} {s : State} {m : MethodId} {args : Array Value} {below : List Frame} {meth : Method} {c : Code} {H : Heap} {locs : List Loc} {cells slots : Nat} {Q : State → Prop}
variable {cc : ByteArray} {pc : Nat} {ls : Array Slot} {rest : List Value} {G : XG} {A0 : Nat → Prop} {σ σ1 : XS} {nL : Nat} {own ref C host : String} {T : u_T} {N ci q0 a index : Nat} {fs : List Value}
theorem x_opt {x : Option Nat} {pc : Nat} (kn : x = none → W p l e R s m args below meth c H locs cells slots Q (F0 m pc ls (.null :: rest))) (ks : ∀ a : Nat, x = some a → W p l e R s m args below meth c H locs cells slots Q (F0 m pc ls (.ref a :: rest))) : W p l e R s m args below meth c H locs cells slots Q (F0 m pc ls (va_rf x :: rest)) := by
  cases x with
  | none => exact kn rfl
  | some a => exact ks a rfl
theorem x_get (hC : jC p s m args meth c cc nL own) (hH : xH G s A0 σ H locs) (he : (xW G σ)[q0]? = some (a, .inr (ci, fs))) (hcl : vwCl[ci]? = some (C, T, N)) (hin : ∀ w ∈ u_ws C T N, w ∈ Tw) (k : Nat) (hk : k < N) (hlink : Cond.fieldLink own index ref (T k).2.1 (T k).2.2.1 ∈ Tw) (hsame : (T k).1 = ref) {v : Value} (hv : fs[k]? = some v) (hdg : decode cc pc = .ok (.getfield index, 3))
    (kk : W p l e R s m args below meth c H locs cells slots Q (F0 m (pc + 3) ls (v :: rest))) : W p l e R s m args below meth c H locs cells slots Q (F0 m pc ls (.ref a :: rest)) :=
  va_get (D := xD G) (ci := ci) (C := C) (T := T) (N := N) hC.1.1 hC.1.2.1 hC.1.2.2.2.2 hin hC.1.2.2.2.1 hH.2.2.2.2.1 hH.1 q0 he hcl k hk (hC.1.2.2.2.2 _ hlink) (fun _ h9 => by rw [← hsame]; exact h9) hv hdg kk
theorem x_getN (hC : jC p s m args meth c cc nL own) (hH : xH G s A0 σ H locs) (he : (xW G σ)[q0]? = some (a, .inr (ci, fs))) (hcl : vwCl[ci]? = some (C, T, N)) (hin : ∀ w ∈ u_ws C T N, w ∈ Tw) (k : Nat) (hk : k < N) (hlink : (own, index, ref, (T k).2.1, (T k).2.2.1, host) ∈ xNF) (hsame : (T k).1 = ref) {v : Value} (hv : fs[k]? = some v) (hdg : decode cc pc = .ok (.getfield index, 3))
    (kk : W p l e R s m args below meth c H locs cells slots Q (F0 m (pc + 3) ls (v :: rest))) : W p l e R s m args below meth c H locs cells slots Q (F0 m pc ls (.ref a :: rest)) :=
  va_getN (D := xD G) (ci := ci) (C := C) (T := T) (N := N) (host := host) hC.1.1 hC.1.2.1 hC.1.2.2.2.2 hin hC.1.2.2.2.1 hH.2.2.2.2.1 hH.1 q0 he hcl k hk (va_Nw.use rfl (hH.2.2.2.2.2.1 _ hlink)) (fun _ h9 => by rw [← hsame]; exact h9) hv hdg kk
theorem x_put (hC : jC p s m args meth c cc nL own) (hH : xH G s A0 σ H locs) (he : (xW G σ)[q0]? = some (a, .inr (ci, fs))) (hcl : vwCl[ci]? = some (C, T, N)) (hin : ∀ w ∈ u_ws C T N, w ∈ Tw) {ty0 : Nat → FieldType} (hty : ∀ k, k < N → parseFieldDescriptor (T k).2.2.1 = some (ty0 k)) (hnm : ∀ a, a < N → ∀ b, b < N → a ≠ b → (T a).2.1 ≠ (T b).2.1) (k : Nat) (hk : k < N) (hlink : Cond.fieldLink own index ref (T k).2.1 (T k).2.2.1 ∈ Tw) (hsame : (T k).1 = ref) (hfin : (T k).2.2.2 = false) {ty : FieldType} {v : Value} (hd : parseFieldDescriptor (T k).2.2.1 = some ty) (hn : narrow ty v = v) (hfit : fits ty v = true) (hfl : k < fs.length) {σ2 : XS} (hσ : σ1 = σ2) (hs : (xW G σ).set q0 (a, .inr (ci, fs.set k v)) = xW G σ2) (hdg : decode cc pc = .ok (.putfield index, 3))
    (kk : ∀ (H1 : Heap) (locs1 : List Loc), xH G s A0 σ1 H1 locs1 → W p l e R s m args below meth c H1 locs1 cells slots Q (F0 m (pc + 3) ls rest)) : W p l e R s m args below meth c H locs cells slots Q (F0 m pc ls (v :: .ref a :: rest)) := by
  refine va_put (D := xD G) (ci := ci) (C := C) (T := T) (N := N) hC.1.1 hC.1.2.1 hC.1.2.2.2.2 hin ty0 hty hnm hC.1.2.2.2.1 hH.2.2.2.2.1 hH.1 hH.2.1 hH.2.2.1 q0 he hcl k hk (hC.1.2.2.2.2 _ hlink) (fun _ h9 => by rw [← hsame]; exact h9) hfin hd hn hfit hfl hdg (fun H1 locs1 hP hD hS => kk H1 locs1 ?_)
  rw [hs, ← hσ] at hP hD
  exact ⟨hP, hD, hS, hH.2.2.2.1, hH.2.2.2.2.1, hH.2.2.2.2.2⟩
theorem x_putN (hC : jC p s m args meth c cc nL own) (hH : xH G s A0 σ H locs) (he : (xW G σ)[q0]? = some (a, .inr (ci, fs))) (hcl : vwCl[ci]? = some (C, T, N)) (hin : ∀ w ∈ u_ws C T N, w ∈ Tw) {ty0 : Nat → FieldType} (hty : ∀ k, k < N → parseFieldDescriptor (T k).2.2.1 = some (ty0 k)) (hnm : ∀ a, a < N → ∀ b, b < N → a ≠ b → (T a).2.1 ≠ (T b).2.1) (k : Nat) (hk : k < N) (hlink : (own, index, ref, (T k).2.1, (T k).2.2.1, host) ∈ xNF) (hsame : (T k).1 = ref) (hfin : (T k).2.2.2 = false) {ty : FieldType} {v : Value} (hd : parseFieldDescriptor (T k).2.2.1 = some ty) (hn : narrow ty v = v) (hfit : fits ty v = true) (hfl : k < fs.length) {σ2 : XS} (hσ : σ1 = σ2) (hs : (xW G σ).set q0 (a, .inr (ci, fs.set k v)) = xW G σ2) (hdg : decode cc pc = .ok (.putfield index, 3))
    (kk : ∀ (H1 : Heap) (locs1 : List Loc), xH G s A0 σ1 H1 locs1 → W p l e R s m args below meth c H1 locs1 cells slots Q (F0 m (pc + 3) ls rest)) : W p l e R s m args below meth c H locs cells slots Q (F0 m pc ls (v :: .ref a :: rest)) := by
  refine va_putN (D := xD G) (ci := ci) (C := C) (T := T) (N := N) (host := host) hC.1.1 hC.1.2.1 hC.1.2.2.2.2 hin ty0 hty hnm hC.1.2.2.2.1 hH.2.2.2.2.1 hH.1 hH.2.1 hH.2.2.1 q0 he hcl k hk (va_Nw.use rfl (hH.2.2.2.2.2.1 _ hlink)) (fun _ h9 => by rw [← hsame]; exact h9) hfin hd hn hfit hfl hdg (fun H1 locs1 hP hD hS => kk H1 locs1 ?_)
  rw [hs, ← hσ] at hP hD
  exact ⟨hP, hD, hS, hH.2.2.2.1, hH.2.2.2.2.1, hH.2.2.2.2.2⟩
theorem x_ald (hC : jC p s m args meth c cc nL own) (hH : xH G s A0 σ H locs) {d n : Nat} (ha : xIs d = true) (hd : xLen d = n) {i : Int32} {j : Nat} (hj : i.toNatClampNeg = j) (hin : vp_in i n) (hdg : decode cc pc = .ok (.iaload, 1))
    (kk : W p l e R s m args below meth c H locs cells slots Q (F0 m (pc + 1) ls (.int (xi σ d j) :: rest))) : W p l e R s m args below meth c H locs cells slots Q (F0 m pc ls (.int i :: .ref (xA G (100 + d)) :: rest)) := by
  subst hj; subst hd
  exact va_iald hC.1.1 hC.1.2.1 hH.2.2.2.2.1 hH.1 (xPos d) 0 (xe_arr G σ ha) rfl hin hdg kk
theorem x_ast (hC : jC p s m args meth c cc nL own) (hH : xH G s A0 σ H locs) {d n : Nat} (ha : xIs d = true) (hd : xLen d = n) {i v : Int32} {j : Nat} (hj : i.toNatClampNeg = j) (hσ : σ1 = xu σ d j v) (hin : vp_in i n) (hdg : decode cc pc = .ok (.iastore, 1))
    (kk : ∀ (H1 : Heap) (locs1 : List Loc), xH G s A0 σ1 H1 locs1 → W p l e R s m args below meth c H1 locs1 cells slots Q (F0 m (pc + 1) ls rest)) : W p l e R s m args below meth c H locs cells slots Q (F0 m pc ls (.int v :: .int i :: .ref (xA G (100 + d)) :: rest)) := by
  subst hj; subst hd
  refine va_iast hC.1.1 hC.1.2.1 hH.2.2.2.2.1 hH.1 hH.2.1 hH.2.2.1 (xPos d) 0 (xe_arr G σ ha) rfl hin hdg (fun H1 locs1 hP hD hS => kk H1 locs1 ?_)
  have e1 : xua σ d (upd (xi σ d) i.toNatClampNeg v) = σ1 := by rw [hσ]; rfl
  rw [xs_arr G σ ha, e1] at hP hD
  exact ⟨hP, hD, hS, hH.2.2.2.1, hH.2.2.2.2.1, hH.2.2.2.2.2⟩
theorem x_pald (hC : jC p s m args meth c cc nL own) (hH : xH G s A0 σ H locs) (ha : a ∈ xL σ ∧ ¬ xq σ a 3 = 0) {i : Int32} {j : Nat} (hj : i.toNatClampNeg = j) (hin : vp_in i (xq σ a 2)) (hdg : decode cc pc = .ok (.iaload, 1))
    (kk : W p l e R s m args below meth c H locs cells slots Q (F0 m (pc + 1) ls (.int (xw σ a j) :: rest))) : W p l e R s m args below meth c H locs cells slots Q (F0 m pc ls (.int i :: .ref a :: rest)) := by
  subst hj
  obtain ⟨k, hk⟩ := xe_pa G σ ha.1 ha.2
  exact va_iald hC.1.1 hC.1.2.1 hH.2.2.2.2.1 hH.1 k 0 hk rfl hin hdg kk
theorem x_past (hC : jC p s m args meth c cc nL own) (hH : xH G s A0 σ H locs) (ha : a ∈ xL σ ∧ ¬ xq σ a 3 = 0) {i v : Int32} {j : Nat} (hj : i.toNatClampNeg = j) (hσ : σ1 = xuw σ a j v) (hin : vp_in i (xq σ a 2)) (hdg : decode cc pc = .ok (.iastore, 1))
    (kk : ∀ (H1 : Heap) (locs1 : List Loc), xH G s A0 σ1 H1 locs1 → W p l e R s m args below meth c H1 locs1 cells slots Q (F0 m (pc + 1) ls rest)) : W p l e R s m args below meth c H locs cells slots Q (F0 m pc ls (.int v :: .int i :: .ref a :: rest)) := by
  subst hj
  obtain ⟨k, hk⟩ := xe_pa G σ ha.1 ha.2
  refine va_iast hC.1.1 hC.1.2.1 hH.2.2.2.2.1 hH.1 hH.2.1 hH.2.2.1 k 0 hk rfl hin hdg (fun H1 locs1 hP hD hS => kk H1 locs1 ?_)
  rw [xs_pa G σ hH.2.1 ha.1 ha.2 hk, ← hσ] at hP hD
  exact ⟨hP, hD, hS, hH.2.2.2.1, hH.2.2.2.2.1, hH.2.2.2.2.2⟩
theorem x_alen (hC : jC p s m args meth c cc nL own) (hH : xH G s A0 σ H locs) {d n : Nat} (ha : xIs d = true) (hd : xLen d = n) {v : Int32} (hv : Int32.ofNat n = v) (hdg : decode cc pc = .ok (.arraylength, 1))
    (kk : W p l e R s m args below meth c H locs cells slots Q (F0 m (pc + 1) ls (.int v :: rest))) : W p l e R s m args below meth c H locs cells slots Q (F0 m pc ls (.ref (xA G (100 + d)) :: rest)) := by
  subst hd
  exact va_alen hC.1.1 hC.1.2.1 hH.2.2.2.2.1 hH.1 (xPos d) 0 (xe_arr G σ ha) (ty := .int) rfl hv hdg kk
theorem x_palen (hC : jC p s m args meth c cc nL own) (hH : xH G s A0 σ H locs) (ha : a ∈ xL σ ∧ ¬ xq σ a 3 = 0) {v : Int32} (hv : Int32.ofNat (xq σ a 2) = v) (hdg : decode cc pc = .ok (.arraylength, 1))
    (kk : W p l e R s m args below meth c H locs cells slots Q (F0 m (pc + 1) ls (.int v :: rest))) : W p l e R s m args below meth c H locs cells slots Q (F0 m pc ls (.ref a :: rest)) := by
  obtain ⟨k, hk⟩ := xe_pa G σ ha.1 ha.2
  exact va_alen hC.1.1 hC.1.2.1 hH.2.2.2.2.1 hH.1 k 0 hk (ty := .int) rfl hv hdg kk
theorem x_pget (hC : jC p s m args meth c cc nL own) (hH : xH G s A0 σ H locs) (ha : a ∈ xL σ ∧ xq σ a 3 = 0) (k : Nat) (hk : k < 4) (hlink : Cond.fieldLink own index ref (TX2 k).2.1 (TX2 k).2.2.1 ∈ Tw) (hsame : (TX2 k).1 = ref) {v : Value} (hv : (fL σ a)[k]? = some v) (hdg : decode cc pc = .ok (.getfield index, 3))
    (kk : W p l e R s m args below meth c H locs cells slots Q (F0 m (pc + 3) ls (v :: rest))) : W p l e R s m args below meth c H locs cells slots Q (F0 m pc ls (.ref a :: rest)) := by
  obtain ⟨k0, hk0⟩ := xe_L G σ ha.1 ha.2
  exact x_get hC hH hk0 rfl wyX2 k hk hlink hsame hv hdg kk
theorem x_pgetN (hC : jC p s m args meth c cc nL own) (hH : xH G s A0 σ H locs) (ha : a ∈ xL σ ∧ xq σ a 3 = 0) (k : Nat) (hk : k < 4) (hlink : (own, index, ref, (TX2 k).2.1, (TX2 k).2.2.1, host) ∈ xNF) (hsame : (TX2 k).1 = ref) {v : Value} (hv : (fL σ a)[k]? = some v) (hdg : decode cc pc = .ok (.getfield index, 3))
    (kk : W p l e R s m args below meth c H locs cells slots Q (F0 m (pc + 3) ls (v :: rest))) : W p l e R s m args below meth c H locs cells slots Q (F0 m pc ls (.ref a :: rest)) := by
  obtain ⟨k0, hk0⟩ := xe_L G σ ha.1 ha.2
  exact x_getN hC hH hk0 rfl wyX2 k hk hlink hsame hv hdg kk
theorem x_sheets (hC : jC p s m args meth c cc nL own) (hH : xH G s A0 σ H locs) {i : Int32} (hin : vp_in i 4) (hdg : decode cc pc = .ok (.aaload, 1))
    (kk : W p l e R s m args below meth c H locs cells slots Q (F0 m (pc + 1) ls (.ref (xA G (60 + i.toNatClampNeg)) :: rest))) : W p l e R s m args below meth c H locs cells slots Q (F0 m pc ls (.int i :: .ref (xA G 8) :: rest)) :=
  va_aldq hC.1.1 hC.1.2.1 hH.2.2.2.2.1 hH.1 8 2 (xe_sheets G σ) rfl hin hdg kk
theorem x_slots (hC : jC p s m args meth c cc nL own) (hH : xH G s A0 σ H locs) {i : Int32} (hin : vp_in i 5) (hdg : decode cc pc = .ok (.aaload, 1))
    (kk : W p l e R s m args below meth c H locs cells slots Q (F0 m (pc + 1) ls (.ref (xA G (70 + i.toNatClampNeg)) :: rest))) : W p l e R s m args below meth c H locs cells slots Q (F0 m pc ls (.int i :: .ref (xA G 9) :: rest)) :=
  va_aldq hC.1.1 hC.1.2.1 hH.2.2.2.2.1 hH.1 9 3 (xe_slots G σ) rfl hin hdg kk
theorem x_laws (hC : jC p s m args meth c cc nL own) (hH : xH G s A0 σ H locs) {i : Int32} (hin : vp_in i 14) (hdg : decode cc pc = .ok (.aaload, 1))
    (kk : W p l e R s m args below meth c H locs cells slots Q (F0 m (pc + 1) ls (va_rf (xl σ i.toNatClampNeg) :: rest))) : W p l e R s m args below meth c H locs cells slots Q (F0 m pc ls (.int i :: .ref (xA G 5) :: rest)) :=
  va_aldq hC.1.1 hC.1.2.1 hH.2.2.2.2.1 hH.1 7 1 (xe_laws G σ) rfl hin hdg kk
theorem x_lawsSt (hC : jC p s m args meth c cc nL own) (hH : xH G s A0 σ H locs) (ha : a ∈ xL σ ∧ xq σ a 3 = 0) {i : Int32} (hin : vp_in i 14) (hσ : σ1 = xul σ i.toNatClampNeg (some a)) (hdg : decode cc pc = .ok (.aastore, 1))
    (kk : ∀ (H1 : Heap) (locs1 : List Loc), xH G s A0 σ1 H1 locs1 → W p l e R s m args below meth c H1 locs1 cells slots Q (F0 m (pc + 1) ls rest)) : W p l e R s m args below meth c H locs cells slots Q (F0 m pc ls (.ref a :: .int i :: .ref (xA G 5) :: rest)) := by
  obtain ⟨k0, hk0⟩ := xe_L G σ ha.1 ha.2
  refine va_astq (r := (RX2, TX2, 4)) hC.1.1 hC.1.2.1 hH.2.2.2.2.1 hH.1 hH.2.1 hH.2.2.1 7 1 k0 1 (xe_laws G σ) rfl hk0 rfl hin hdg (fun H1 locs1 hP hD hS => kk H1 locs1 ?_)
  rw [xs_laws, ← hσ] at hP hD
  exact ⟨hP, hD, hS, hH.2.2.2.1, hH.2.2.2.2.1, hH.2.2.2.2.2⟩
theorem x_copy (hC : jC p s m args meth c cc nL own) (hH : xH G s A0 σ H locs) (hl : ls.size = nL) (hlink : Cond.methodLink own index arraycopyName ∈ Tw) (hnat : Cond.native arraycopyName ∈ Tw) (hstat : Cond.static arraycopyName ∈ Tw) (hini : Cond.initialized "java/lang/System" ∈ Tw) {d0 d1 n0 n1 : Nat} (ha0 : xIs d0 = true) (hd0 : xLen d0 = n0) (ha1 : xIs d1 = true) (hd1 : xLen d1 = n1) {sp dp n : Int32} (hb : ¬ sp < 0 ∧ ¬ dp < 0 ∧ ¬ n < 0 ∧ sp.toNatClampNeg + n.toNatClampNeg ≤ n0 ∧ dp.toNatClampNeg + n.toNatClampNeg ≤ n1) (hσ : σ1 = xua σ d1 (va_cpy (xi σ d0) (xi σ d1) sp.toNatClampNeg dp.toNatClampNeg n.toNatClampNeg)) (hframes : 1 ≤ R.frames) (hlocals : (rest.map fun v => v.category).sum + (nativeFrameWords "java/lang/System" "arraycopy" 5 + 11) ≤ R.locals) (hdg : decode cc pc = .ok (.invokestatic index, 3))
    (kk : ∀ (H1 : Heap) (locs1 : List Loc), xH G s A0 σ1 H1 locs1 → W p l e R s m args below meth c H1 locs1 cells slots Q (F0 m (pc + 3) ls rest)) : W p l e R s m args below meth c H locs cells slots Q (F0 m pc ls (.int n :: .int dp :: .ref (xA G (100 + d1)) :: .int sp :: .ref (xA G (100 + d0)) :: rest)) := by
  subst hd0; subst hd1
  refine va_copyi (ty := .int) hC.1.1 hC.1.2.1 (by rw [hC.1.2.2.1, hl]) hC.1.2.2.2.1 (hC.1.2.2.2.2 _ hlink) (hC.1.2.2.2.2 _ hnat) (hC.1.2.2.2.2 _ hstat) (hC.1.2.2.2.2 _ hini) hH.2.2.2.2.1 hH.1 hH.2.1 hH.2.2.1 (xPos d0) (xPos d1) 0 0 (xe_arr G σ ha0) (xe_arr G σ ha1) rfl rfl rfl hb.1 hb.2.1 hb.2.2.1 hb.2.2.2.1 hb.2.2.2.2 (fun _ _ => rfl) hframes hlocals hdg (fun H1 locs1 hP hD hS => kk H1 locs1 ?_)
  rw [xs_arr G σ ha1, ← hσ] at hP hD
  exact ⟨hP, hD, hS, hH.2.2.2.1, hH.2.2.2.2.1, hH.2.2.2.2.2⟩
theorem x_sub (hH : xH G s A0 σ H locs) : ∀ q, va_A (xW G σ) H.size q → A0 q := by
  intro q h
  rcases h with ⟨k, e, hk⟩ | h
  · exact hH.2.1.2 k (q, e) hk
  · exact hH.2.2.2.1 q (Nat.le_trans hH.2.2.1.1 h)
theorem x_blind {sz : Nat} {av : List Value} : FrameBlind (xP G σ sz av) := fun a U g mk q => by
  obtain ⟨q0, q1, qP, qK, qD, qE⟩ := q
  exact ⟨q0, q1, qP, va_K.moved (u := U) (U := U.calling g mk a) (Vm.Alike.refl U.vm) qK, qD, xE_call qE⟩
theorem x_pre (hH : xH G s A0 σ H locs) (av : List Value) : ∀ U : State, U.heap = H → s.WarmedH U.vm → xP G σ H.size av av.toArray U := fun U hU hW =>
  ⟨rfl, by rw [hU], by rw [hU]; exact hH.1, va_K.moved hW.alike hH.2.2.2.2.1, hH.2.1.weaken (fun _ _ _ _ => trivial), xE_to hH.2.2.2.2.2 hH.2.2.1.2.1 (x_sub hH) hU hW⟩
theorem x_aft {H1 : Heap} {locs1 : List Loc} {t : State} (hH : xH G s A0 σ H locs) (ht : t.heap = H1) (hB : xB G σ H.size σ1 t) (hS : va_S A0 s.heap H1 locs1) : xH G s A0 σ1 H1 locs1 :=
  ⟨by rw [← ht]; exact hB.1, hB.2.2.weaken (fun _ q _ h => x_sub hH _ h), hS, hH.2.2.2.1, hH.2.2.2.2.1, hH.2.2.2.2.2⟩
variable {y : MethodName} {bytes : ByteArray} {maxL n : Nat} {ret : Option FieldType} {rm : Room} {As : List Value} {lv : List (Nat × Value)} {vw : vw_C}
theorem x_calli {r : Int32} (hM : ∀ sz, Met l y (Cond.code y bytes maxL ret :: Tw) rm (xP G σ sz (.ref a :: As)) (xQi G σ sz σ1 r) 0 0 (va_A (xW G σ) sz)) (hC : jC p s m args meth c cc nL own) (hH : xH G s A0 σ H locs) (hl : lv_has ls nL lv) (he : (xW G σ)[q0]? = some (a, .inr (ci, fs))) (hcl : vwCl[ci]? = some vw)
    (cw : CallW R s args own vw.1 index y bytes maxL ret (Cond.code y bytes maxL ret :: Tw) rm 0 0 n) (hn : As.length = n) {st0 : List Value} (hst : st0 = As.reverse ++ .ref a :: rest) (hrw : (rest.map fun v => v.category).sum ≤ 8) (hf : cells ≤ R.cells ∧ slots ≤ R.slots) (hdg : decode cc pc = .ok (.invokevirtual index, 3))
    (kk : ∀ (H1 : Heap) (locs1 : List Loc), xH G s A0 σ1 H1 locs1 → W p l e R s m args below meth c H1 locs1 cells slots Q (F0 m (pc + 3) ls (.int r :: rest))) : W p l e R s m args below meth c H locs cells slots Q (F0 m pc ls st0) := by
  refine va_calli (va_runV (As := As) (rest := rest) hC.1 (hM H.size) cw ⟨x_blind, va_recv hH.2.2.2.2.1 hH.1 hcl he, x_pre hH (.ref a :: As)⟩ rfl hn hl.1 hst (lv_room hrw) hdg hf) hH.2.2.1 (fun q _ h => x_sub hH q h) (x_sub hH) (fun r2 u t H1 locs1 ht hvm hw hB hz1 hk1 hS => ?_)
  subst hw
  exact kk H1 locs1 (x_aft hH ht hB hS)
theorem x_callv (hM : ∀ sz, Met l y (Cond.code y bytes maxL ret :: Tw) rm (xP G σ sz (.ref a :: As)) (xQv G σ sz σ1) 0 0 (va_A (xW G σ) sz)) (hC : jC p s m args meth c cc nL own) (hH : xH G s A0 σ H locs) (hl : lv_has ls nL lv) (he : (xW G σ)[q0]? = some (a, .inr (ci, fs))) (hcl : vwCl[ci]? = some vw)
    (cw : CallW R s args own vw.1 index y bytes maxL ret (Cond.code y bytes maxL ret :: Tw) rm 0 0 n) (hn : As.length = n) {st0 : List Value} (hst : st0 = As.reverse ++ .ref a :: rest) (hrw : (rest.map fun v => v.category).sum ≤ 8) (hf : cells ≤ R.cells ∧ slots ≤ R.slots) (hdg : decode cc pc = .ok (.invokevirtual index, 3))
    (kk : ∀ (H1 : Heap) (locs1 : List Loc), xH G s A0 σ1 H1 locs1 → W p l e R s m args below meth c H1 locs1 cells slots Q (F0 m (pc + 3) ls rest)) : W p l e R s m args below meth c H locs cells slots Q (F0 m pc ls st0) := by
  refine va_callv (va_runV (As := As) (rest := rest) hC.1 (hM H.size) cw ⟨x_blind, va_recv hH.2.2.2.2.1 hH.1 hcl he, x_pre hH (.ref a :: As)⟩ rfl hn hl.1 hst (lv_room hrw) hdg hf) hH.2.2.1 (fun q _ h => x_sub hH q h) (x_sub hH) (fun u t H1 locs1 ht hvm hw hB hz1 hk1 hS => ?_)
  exact kk H1 locs1 (x_aft hH ht hB hS)
theorem x_callq {r : Option Nat} (hM : ∀ sz, Met l y (Cond.code y bytes maxL ret :: Tw) rm (xP G σ sz (.ref a :: As)) (xQq G σ sz σ1 r) 0 0 (va_A (xW G σ) sz)) (hC : jC p s m args meth c cc nL own) (hH : xH G s A0 σ H locs) (hl : lv_has ls nL lv) (he : (xW G σ)[q0]? = some (a, .inr (ci, fs))) (hcl : vwCl[ci]? = some vw)
    (cw : CallW R s args own vw.1 index y bytes maxL ret (Cond.code y bytes maxL ret :: Tw) rm 0 0 n) (hn : As.length = n) {st0 : List Value} (hst : st0 = As.reverse ++ .ref a :: rest) (hrw : (rest.map fun v => v.category).sum ≤ 8) (hf : cells ≤ R.cells ∧ slots ≤ R.slots) (hdg : decode cc pc = .ok (.invokevirtual index, 3))
    (kk : ∀ (H1 : Heap) (locs1 : List Loc), xH G s A0 σ1 H1 locs1 → W p l e R s m args below meth c H1 locs1 cells slots Q (F0 m (pc + 3) ls (va_rf r :: rest))) : W p l e R s m args below meth c H locs cells slots Q (F0 m pc ls st0) := by
  refine va_callq (va_runV (As := As) (rest := rest) hC.1 (hM H.size) cw ⟨x_blind, va_recv hH.2.2.2.2.1 hH.1 hcl he, x_pre hH (.ref a :: As)⟩ rfl hn hl.1 hst (lv_room hrw) hdg hf) hH.2.2.1 (fun q _ h => x_sub hH q h) (x_sub hH) (fun r2 u t H1 locs1 ht hvm hw hB hz1 hk1 hS => ?_)
  subst hw
  exact kk H1 locs1 (x_aft hH ht hB hS)
theorem x_calls {r : Int32} (hM : ∀ sz, Met l y (Cond.code y bytes maxL ret :: Tw) rm (xP G σ sz As) (xQi G σ sz σ1 r) 0 0 (va_A (xW G σ) sz)) (hC : jC p s m args meth c cc nL own) (hH : xH G s A0 σ H locs) (hl : lv_has ls nL lv)
    (cw : CallB R s args own index y bytes maxL ret (Cond.code y bytes maxL ret :: Tw) rm 0 0 n ∧ (Cond.static y).before args s = true) (hn : As.length = n) {st0 : List Value} (hst : st0 = As.reverse ++ rest) (hrw : (rest.map fun v => v.category).sum ≤ 8) (hf : cells ≤ R.cells ∧ slots ≤ R.slots) (hdg : decode cc pc = .ok (.invokestatic index, 3))
    (kk : ∀ (H1 : Heap) (locs1 : List Loc), xH G s A0 σ1 H1 locs1 → W p l e R s m args below meth c H1 locs1 cells slots Q (F0 m (pc + 3) ls (.int r :: rest))) : W p l e R s m args below meth c H locs cells slots Q (F0 m pc ls st0) := by
  refine va_calli (va_runS (As := As) (rest := rest) hC.1 (hM H.size) cw ⟨x_blind, x_pre hH As⟩ rfl hn hl.1 hst (lv_room hrw) hdg hf) hH.2.2.1 (fun q _ h => x_sub hH q h) (x_sub hH) (fun r2 u t H1 locs1 ht hvm hw hB hz1 hk1 hS => ?_)
  subst hw
  exact kk H1 locs1 (x_aft hH ht hB hS)
theorem x_callsv (hM : ∀ sz, Met l y (Cond.code y bytes maxL ret :: Tw) rm (xP G σ sz As) (xQv G σ sz σ1) 0 0 (va_A (xW G σ) sz)) (hC : jC p s m args meth c cc nL own) (hH : xH G s A0 σ H locs) (hl : lv_has ls nL lv)
    (cw : CallB R s args own index y bytes maxL ret (Cond.code y bytes maxL ret :: Tw) rm 0 0 n ∧ (Cond.static y).before args s = true) (hn : As.length = n) {st0 : List Value} (hst : st0 = As.reverse ++ rest) (hrw : (rest.map fun v => v.category).sum ≤ 8) (hf : cells ≤ R.cells ∧ slots ≤ R.slots) (hdg : decode cc pc = .ok (.invokestatic index, 3))
    (kk : ∀ (H1 : Heap) (locs1 : List Loc), xH G s A0 σ1 H1 locs1 → W p l e R s m args below meth c H1 locs1 cells slots Q (F0 m (pc + 3) ls rest)) : W p l e R s m args below meth c H locs cells slots Q (F0 m pc ls st0) := by
  refine va_callv (va_runS (As := As) (rest := rest) hC.1 (hM H.size) cw ⟨x_blind, x_pre hH As⟩ rfl hn hl.1 hst (lv_room hrw) hdg hf) hH.2.2.1 (fun q _ h => x_sub hH q h) (x_sub hH) (fun u t H1 locs1 ht hvm hw hB hz1 hk1 hS => ?_)
  exact kk H1 locs1 (x_aft hH ht hB hS)
theorem x_callsq {r : Option Nat} (hM : ∀ sz, Met l y (Cond.code y bytes maxL ret :: Tw) rm (xP G σ sz As) (xQq G σ sz σ1 r) 0 0 (va_A (xW G σ) sz)) (hC : jC p s m args meth c cc nL own) (hH : xH G s A0 σ H locs) (hl : lv_has ls nL lv)
    (cw : CallB R s args own index y bytes maxL ret (Cond.code y bytes maxL ret :: Tw) rm 0 0 n ∧ (Cond.static y).before args s = true) (hn : As.length = n) {st0 : List Value} (hst : st0 = As.reverse ++ rest) (hrw : (rest.map fun v => v.category).sum ≤ 8) (hf : cells ≤ R.cells ∧ slots ≤ R.slots) (hdg : decode cc pc = .ok (.invokestatic index, 3))
    (kk : ∀ (H1 : Heap) (locs1 : List Loc), xH G s A0 σ1 H1 locs1 → W p l e R s m args below meth c H1 locs1 cells slots Q (F0 m (pc + 3) ls (va_rf r :: rest))) : W p l e R s m args below meth c H locs cells slots Q (F0 m pc ls st0) := by
  refine va_callq (va_runS (As := As) (rest := rest) hC.1 (hM H.size) cw ⟨x_blind, x_pre hH As⟩ rfl hn hl.1 hst (lv_room hrw) hdg hf) hH.2.2.1 (fun q _ h => x_sub hH q h) (x_sub hH) (fun r2 u t H1 locs1 ht hvm hw hB hz1 hk1 hS => ?_)
  subst hw
  exact kk H1 locs1 (x_aft hH ht hB hS)
theorem x_callsN {r : Int32} (hM : ∀ sz, Met l y (Cond.code y bytes maxL ret :: Tw) rm (xP G σ sz As) (xQi G σ sz σ1 r) 0 0 (va_A (xW G σ) sz)) (hC : jC p s m args meth c cc nL own) (hH : xH G s A0 σ H locs) (hl : lv_has ls nL lv)
    (hlink : (own, index, y, host) ∈ xNM) (hw : Cond.static y ∈ Tw ∧ Cond.initialized y.cls ∈ Tw ∧ Cond.code y bytes maxL ret ∈ Tw) (hrc : rm.cells = 0) (hrs : rm.slots = 0) (hd : y.cls ≠ "java/lang/invoke/MethodHandle" ∧ y.cls ≠ "java/lang/invoke/VarHandle" ∧ (parseMethodDescriptor y.desc).map (fun d => d.parameters.length) = some n) (hR : rm.frames + 1 ≤ R.frames ∧ 8 + (maxL + 11) + rm.locals ≤ R.locals) (hn : As.length = n) {st0 : List Value} (hst : st0 = As.reverse ++ rest) (hrw : (rest.map fun v => v.category).sum ≤ 8) (hf : cells ≤ R.cells ∧ slots ≤ R.slots) (hdg : decode cc pc = .ok (.invokestatic index, 3))
    (kk : ∀ (H1 : Heap) (locs1 : List Loc), xH G s A0 σ1 H1 locs1 → W p l e R s m args below meth c H1 locs1 cells slots Q (F0 m (pc + 3) ls (.int r :: rest))) : W p l e R s m args below meth c H locs cells slots Q (F0 m pc ls st0) := by
  refine va_calli (va_runSN (As := As) (rest := rest) hC.1 (hM H.size) ⟨va_cnB (host := host) n hC.1.2.2.2.2 (gC hw.2.2) rfl hrc hrs (hH.2.2.2.2.2.2.1 _ hlink) (hC.1.2.2.2.2 _ hw.2.1) hd hR, hC.1.2.2.2.2 _ hw.1, trivial⟩ ⟨x_blind, x_pre hH As⟩ rfl hn hl.1 hst (lv_room hrw) hdg hf) hH.2.2.1 (fun q _ h => x_sub hH q h) (x_sub hH) (fun r2 u t H1 locs1 ht hvm hw hB hz1 hk1 hS => ?_)
  subst hw
  exact kk H1 locs1 (x_aft hH ht hB hS)
theorem x_iret {σ0 : XS} {v : Int32} {ty : FieldType} (hC : jC p s m args meth c cc nL own) (hH : xH G s (va_A (xW G σ0) s.heap.size) σ1 H locs) (hr : meth.sig.returnType = some ty) (hn : narrow ty (.int v) = .int v) (hdg : decode cc pc = .ok (.ireturn, 1)) :
    W p l e R s m args below meth c H locs cells slots (MQ below (xQi G σ0 s.heap.size σ1 v) args s cells slots (va_A (xW G σ0) s.heap.size)) (F0 m pc ls [.int v]) :=
  W.zret (ty := ty) hC.1.1 hC.1.2.1 hr hn (fun t ht hW => ⟨⟨v, (), rfl, rfl, by rw [ht]; exact hH.1, va_K.moved hW.alike hH.2.2.2.2.1, hH.2.1⟩, hH.2.2.1.F ht⟩) hH.2.2.1.2.2 hdg hC.2
theorem x_vret {σ0 : XS} (hC : jC p s m args meth c cc nL own) (hH : xH G s (va_A (xW G σ0) s.heap.size) σ1 H locs) (hr : meth.sig.returnType = none) (hdg : decode cc pc = .ok (.return_, 1)) :
    W p l e R s m args below meth c H locs cells slots (MQ below (xQv G σ0 s.heap.size σ1) args s cells slots (va_A (xW G σ0) s.heap.size)) (F0 m pc ls []) :=
  W.vret hC.1.1 hC.1.2.1 hr (fun t ht hW => ⟨⟨(), rfl, trivial, by rw [ht]; exact hH.1, va_K.moved hW.alike hH.2.2.2.2.1, hH.2.1⟩, hH.2.2.1.F ht⟩) hH.2.2.1.2.2 hdg hC.2
theorem x_qret {σ0 : XS} {v : Option Nat} {w : Value} (hw : va_rf v = w) {o : String} (hC : jC p s m args meth c cc nL own) (hH : xH G s (va_A (xW G σ0) s.heap.size) σ1 H locs) (hr : meth.sig.returnType = some (.object o)) (hdg : decode cc pc = .ok (.areturn, 1)) :
    W p l e R s m args below meth c H locs cells slots (MQ below (xQq G σ0 s.heap.size σ1 v) args s cells slots (va_A (xW G σ0) s.heap.size)) (F0 m pc ls [w]) := by
  subst hw
  exact W.aret (rt := .object o) hC.1.1 hC.1.2.1 hr (Or.inl ⟨o, rfl⟩) (va_rf_or v) (fun t ht hW => ⟨⟨v, (), rfl, rfl, by rw [ht]; exact hH.1, va_K.moved hW.alike hH.2.2.2.2.1, hH.2.1⟩, hH.2.2.1.F ht⟩) hH.2.2.1.2.2 hdg hC.2
end XROW
theorem x_enter {G : XG} {σ : XS} {s : State} {av : List Value} {args : Array Value} {sz : Nat} (h : xP G σ sz av args s) : args = av.toArray ∧ sz = s.heap.size ∧ xH G s (va_A (xW G σ) s.heap.size) σ s.heap [] := by
  obtain ⟨h1, h2, hP, hK, hD, hE⟩ := h
  refine ⟨h1, h2.symm, hP, hD.self, va_S.rf, fun q hq => Or.inr hq, hK, ?_⟩
  rw [h2]; exact hE
