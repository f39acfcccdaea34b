/-! THE CLAIM OUT OF ONE WALK OF THE LAW'S BODY. Your part is whole_start (and what it stands on); all else here is the same for every law, but numbers. -/
def R_law : String := "RoadSortedLaw"
def lw_P (b : Addr) (xs : List Int32) (args : Array Value) (s : State) : Prop := args = #[.ref b] ∧ s.IntsAt b xs ∧ xs.length ≤ 3072 ∧ (Jvm.Cond.and given_1 narrow_1).before args s = true
def lw_Q (_ : Array Value) (s : State) (o : Outcome) (t : State) : Prop := o = .returned (some (.int 1)) ∧ Framed s o t [] 600000 7302250
def lw_Z (below : List Frame) (a : Array Value) (s : State) : State → Prop := fun t => ∃ o, t.status = .running ∧ Ended t below o ∧ lw_Q a s o t
/-- the law's own end, with 1 on the stack, nothing written that was there before, its room as the claim has it -/
theorem lw_ret {p : Program} {l : Launch} {e : Env} {s : State} {m : MethodId} {below : List Frame} {meth : Method} {c : Code} {b : Nat} (hx : p.tables.exec = Jvm.exec) (hb : c.code = code) (hr : meth.sig.returnType = ret) (hlocks : meth.locks = false) {pc : Nat} {H : Heap} {ls : Array Slot} (hdg : decode code pc = .ok (.ireturn, 1)) : W p l e room_1 s m #[Value.ref b] below meth c H [] 600000 7302250 (lw_Z below #[Value.ref b] s) (F0 m pc ls [.int 1]) := by
  intro T hT X
  obtain ⟨fs, hret, hrun, hended, hW, hframe⟩ := X.leave (v := some (.int 1)) (hlocks := hlocks) (fun h => by rw [hr] at h; cases h)
  have hmeth' : T.vm.method? m = some meth := X.method'
  refine ⟨T.setFrames fs, ?_, .returned (some (.int 1)), hrun, hended, rfl, ⟨_, rfl⟩, hW, hframe⟩
  jvm_step X.here [X.here.top, hx, hb, hdg, hmeth', hr, ret, narrow_b1]
  (try refine ⟨rfl, ?_⟩); (try refine ⟨rfl, ?_⟩)
  first | (intro acts; rw [hret _ acts rfl rfl rfl]) | rw [hret _ _ rfl rfl rfl]
  exact Steps.refl _
/-- what holds at the law's entry: the machine, the code, the tables' words (any of lw_tbl by 'hts w (by decide +kernel)'), the script of L ints xs at the cell b, what the Statement gives of the start (any of its parts by flat_of_before) -/
def lw_At (p : Program) (s : State) (m : MethodId) (meth : Method) (c : Code) (b L : Nat) (xs : Nat → Int32) : Prop :=
  p.tables.exec = Jvm.exec ∧ c.code = code ∧ meth.sig.returnType = ret ∧ c.maxLocals = 4 ∧ s.vm.findClass R_law = some m.cls ∧ (∀ w ∈ lw_tbl, w.before #[Value.ref b] s = true) ∧ va_X b L xs s s.heap ∧ b < s.heap.size ∧ meth.locks = false ∧ (Jvm.Cond.and given_1 narrow_1).before #[Value.ref b] s = true

/-! the law's world: the class's and the model's, apart -/
def lH (G : XG) (B : Nat → Nat) (s : State) (A0 : Nat → Prop) (σ : XS) (μ : MS) (H : Heap) (locs : List Loc) : Prop := xH G s A0 σ H locs ∧ mH (xD G) (xK G 0) B s A0 μ H locs ∧ ∀ (i j : Nat) (p q : Nat × va_E), (xW G σ)[i]? = some p → (mW B (xK G 0) μ)[j]? = some q → p.1 ≠ q.1
section LROW
variable {p : Program} {l : Launch} {e : Env} {R : Room} {s : State} {m : MethodId} {args : Array Value} {below : List Frame} {meth : Method} {c : Code} {H H1 : Heap} {locs locs1 : List Loc} {cells slots : Nat} {Q : State → Prop}
variable {cc : ByteArray} {pc : Nat} {ls : Array Slot} {rest : List Value} {G : XG} {B : Nat → Nat} {A0 : Nat → Prop} {σ σ1 : XS} {μ μ1 : MS} {nL : Nat} {own : String} {index : Nat}
theorem l_frX {t : State} (hH : lH G B s A0 σ μ H locs) (ht : t.heap = H1) (hB : xB G σ H.size σ1 t) (hk : ∀ q : Nat, q < H.size → ¬ va_A (xW G σ) H.size q → H1[q]? = H[q]?) (hS : va_S A0 s.heap H1 locs1) : lH G B s A0 σ1 μ H1 locs1 := by
  obtain ⟨hX, hM, hd⟩ := hH
  refine ⟨x_aft hX ht hB hS, ⟨hM.1.kept (fun k q hq => hk q.1 (hM.1 k q hq).lt (fun h => ?_)), hM.2.1, hS, hM.2.2.2.1, hM.2.2.2.2⟩, fun i j x y hx hy e => ?_⟩
  · rcases h with ⟨k2, e2, h2⟩ | h2
    · exact hd k2 k _ _ h2 hq rfl
    · have := (hM.1 k q hq).lt
      omega
  · rcases hB.2.2.2 i x hx with ⟨k2, e2, h2⟩ | h2
    · exact hd k2 j _ _ h2 hy e
    · have := (hM.1 j y hy).lt
      omega
theorem l_frM {t : State} (hH : lH G B s A0 σ μ H locs) (ht : t.heap = H1) (hB : mB (xD G) (xK G 0) B μ H.size μ1 t) (hk : ∀ q : Nat, q < H.size → ¬ va_A (mW B (xK G 0) μ) H.size q → H1[q]? = H[q]?) (hS : va_S A0 s.heap H1 locs1) : lH G B s A0 σ μ1 H1 locs1 := by
  obtain ⟨hX, hM, hd⟩ := hH
  refine ⟨⟨hX.1.kept (fun k q hq => hk q.1 (hX.1 k q hq).lt (fun h => ?_)), hX.2.1, hS, hX.2.2.2.1, hX.2.2.2.2.1, hX.2.2.2.2.2⟩, m_aft hM ht hB hS, fun i j x y hx hy e => ?_⟩
  · rcases h with ⟨k2, e2, h2⟩ | h2
    · exact hd k k2 _ _ hq h2 rfl
    · have := (hX.1 k q hq).lt
      omega
  · rcases hB.2.2.2 j y hy with ⟨k2, e2, h2⟩ | h2
    · exact hd i k2 _ _ hx h2 e
    · have := (hX.1 i x hx).lt
      omega
variable {y : MethodName} {bytes : ByteArray} {maxL n : Nat} {ret : Option FieldType} {rm : Room} {As : List Value} {lv : List (Nat × Value)}
theorem l_callX {r : Int32} (hM : ∀ sz, Met l y (Cond.code y bytes maxL ret :: Tw) rm (xP G σ sz (.ref (xA G 0) :: As)) (xQi G σ sz σ1 r) 0 0 (va_A (xW G σ) sz)) (hC : jC p s m args meth c cc nL own) (hH : lH G B s A0 σ μ H locs) (hl : lv_has ls nL lv)
    (cw : CallW R s args own RX7 index y bytes maxL ret (Cond.code y bytes maxL ret :: Tw) rm 0 0 n) (hn : As.length = n) {st0 : List Value} (hst : st0 = As.reverse ++ .ref (xA G 0) :: rest) (hrw : (rest.map fun v => v.category).sum ≤ 8) (hf : cells ≤ R.cells ∧ slots ≤ R.slots) (hdg : decode cc pc = .ok (.invokevirtual index, 3))
    (kk : ∀ (H1 : Heap) (locs1 : List Loc), lH G B s A0 σ1 μ H1 locs1 → W p l e R s m args below meth c H1 locs1 cells slots Q (F0 m (pc + 3) ls (.int r :: rest))) : W p l e R s m args below meth c H locs cells slots Q (F0 m pc ls st0) := by
  refine va_calli (va_runV (As := As) (rest := rest) hC.1 (hM H.size) cw ⟨x_blind, va_recv hH.1.2.2.2.2.1 hH.1.1 (ci := 6) (q0 := 0) rfl (xe_X G σ), x_pre hH.1 (.ref (xA G 0) :: As)⟩ rfl hn hl.1 hst (lv_room hrw) hdg hf) hH.1.2.2.1 (fun q _ h => x_sub hH.1 q h) (x_sub hH.1) (fun r2 u t H1 locs1 ht hvm hw hB hz1 hk1 hS => ?_)
  subst hw
  exact kk H1 locs1 (l_frX hH ht hB hk1 hS)
theorem l_callM {r : Int32} (hM : ∀ sz, Met l y (Cond.code y bytes maxL ret :: Tw) rm (mP (xD G) (xK G 0) B μ sz (.ref (B 0) :: As)) (mQi (xD G) (xK G 0) B μ sz μ1 r) 0 0 (va_A (mW B (xK G 0) μ) sz)) (hC : jC p s m args meth c cc nL own) (hH : lH G B s A0 σ μ H locs) (hl : lv_has ls nL lv)
    (cw : CallW R s args own RX8 index y bytes maxL ret (Cond.code y bytes maxL ret :: Tw) rm 0 0 n) (hn : As.length = n) {st0 : List Value} (hst : st0 = As.reverse ++ .ref (B 0) :: rest) (hrw : (rest.map fun v => v.category).sum ≤ 8) (hf : cells ≤ R.cells ∧ slots ≤ R.slots) (hdg : decode cc pc = .ok (.invokevirtual index, 3))
    (kk : ∀ (H1 : Heap) (locs1 : List Loc), lH G B s A0 σ μ1 H1 locs1 → W p l e R s m args below meth c H1 locs1 cells slots Q (F0 m (pc + 3) ls (.int r :: rest))) : W p l e R s m args below meth c H locs cells slots Q (F0 m pc ls st0) := by
  refine va_calli (va_runV (As := As) (rest := rest) hC.1 (hM H.size) cw ⟨m_blind, va_recv hH.2.1.2.2.2.2 hH.2.1.1 (ci := 7) (q0 := 0) rfl rfl, m_pre hH.2.1 (.ref (B 0) :: As)⟩ rfl hn hl.1 hst (lv_room hrw) hdg hf) hH.1.2.2.1 (fun q _ h => m_sub hH.2.1 q h) (m_sub hH.2.1) (fun r2 u t H1 locs1 ht hvm hw hB hz1 hk1 hS => ?_)
  subst hw
  exact kk H1 locs1 (l_frM hH ht hB hk1 hS)
theorem l_callT {z : (Int32 × XS) ⊕ XS} (hM : ∀ sz, Met l y (Cond.code y bytes maxL ret :: Tw) rm (xP G σ sz (.ref (xA G 0) :: [])) (xQt G σ sz z) 3 196 (va_A (xW G σ) sz)) (hC : jC p s m args meth c cc nL own) (hH : lH G B s A0 σ μ H locs) (hl : lv_has ls nL lv)
    (cw : CallW R s args own RX7 index y bytes maxL ret (Cond.code y bytes maxL ret :: Tw) rm 3 196 0) {st0 : List Value} (hst : st0 = .ref (xA G 0) :: rest) (hrw : (rest.map fun v => v.category).sum ≤ 8) (hf : cells + 3 ≤ R.cells ∧ slots + 196 ≤ R.slots) (hdg : decode cc pc = .ok (.invokevirtual index, 3))
    (kk : ∀ (r : Int32) (u : XS) (H1 : Heap) (locs1 : List Loc), xTo z r u → lH G B s A0 u μ H1 locs1 → W p l e R s m args below meth c H1 locs1 (cells + 3) (slots + 196) Q (F0 m (pc + 3) ls (.int r :: rest))) : W p l e R s m args below meth c H locs cells slots Q (F0 m pc ls st0) := by
  refine va_calli (va_runV (As := []) (rest := rest) hC.1 (hM H.size) cw ⟨x_blind, va_recv hH.1.2.2.2.2.1 hH.1.1 (ci := 6) (q0 := 0) rfl (xe_X G σ), x_pre hH.1 [.ref (xA G 0)]⟩ rfl rfl hl.1 hst (lv_room hrw) hdg hf) hH.1.2.2.1 (fun q _ h => x_sub hH.1 q h) (x_sub hH.1) (fun r2 u t H1 locs1 ht hvm hw hB hz1 hk1 hS => ?_)
  exact kk r2 u H1 locs1 hw (l_frX hH ht hB hk1 hS)
end LROW
theorem sc_in {i : Int32} {L k : Nat} (hL : L ≤ 3072) (j : Nat) (hi : i = nI j) (h : j + 6 ≤ L) (hk : k < 6) : vp_in (i + Int32.ofNat k) L := by
  rw [hi, show Int32.ofNat k = nI k from rfl, nI_add]
  exact vp_in_nI (by omega) (by omega)

def Ls_letter (Re : XS → MS → Prop) : Prop := ∀ (σ : XS) (μ : MS) (x1 x2 x3 : Int32), Re σ μ → ∃ (r : Int32) (σ' : XS) (μ' : MS), fX_letter σ x1 x2 x3 = some (r, σ') ∧ fM_letter μ x1 x2 x3 = some (r, μ') ∧ Re σ' μ'

def Ls_told (Re : XS → MS → Prop) : Prop := ∀ (σ : XS) (μ : MS) (x1 x2 : Int32), Re σ μ → ∃ (r : Int32) (μ' : MS), fX_told σ x1 x2 = some r ∧ fM_told μ x1 x2 = some (r, μ') ∧ Re σ μ'

def Ls_as (Re : XS → MS → Prop) : Prop := ∀ (σ : XS) (μ : MS) (x1 x2 : Int32), Re σ μ → ∃ (r : Int32), fX_as σ x1 x2 = some r ∧ fM_as μ x1 x2 = some r

def Ls_turns (Re : XS → MS → Prop) : Prop := ∀ (σ : XS) (μ : MS) (x1 x2 : Int32), Re σ μ → ∃ (r : Int32) (σ' : XS) (μ' : MS), fX_turns σ x1 x2 = some (r, σ') ∧ fM_turns μ x1 x2 = some (r, μ') ∧ Re σ' μ'

def Ls_set (Re : XS → MS → Prop) : Prop := ∀ (σ : XS) (μ : MS) (x1 x2 x3 : Int32), Re σ μ → ∃ (r : Int32) (σ' : XS) (μ' : MS), fX_set σ x1 x2 x3 = some (r, σ') ∧ fM_set μ x1 x2 x3 = some (r, μ') ∧ Re σ' μ'

def Ls_puts (Re : XS → MS → Prop) : Prop := ∀ (σ : XS) (μ : MS) (x1 x2 : Int32), Re σ μ → ∃ (r : Int32) (σ' : XS) (μ' : MS), fX_puts σ x1 x2 = some (r, σ') ∧ fM_puts μ x1 x2 = some (r, μ') ∧ Re σ' μ'

def Ls_at (Re : XS → MS → Prop) : Prop := ∀ (σ : XS) (μ : MS) (x1 : Int32), Re σ μ → ∃ (r : Int32), fX_at σ x1 = some r ∧ fM_at μ x1 = some r

def Ls_halt (Re : XS → MS → Prop) : Prop := ∀ (σ : XS) (μ : MS), Re σ μ → ∃ (r : Int32) (σ' : XS) (μ' : MS), fX_halt σ = some (r, σ') ∧ fM_halt μ = some (r, μ') ∧ Re σ' μ'

def Ls_bump (Re : XS → MS → Prop) : Prop := ∀ (σ : XS) (μ : MS) (x1 : Int32), Re σ μ → ∃ (r : Int32) (σ' : XS) (μ' : MS), fX_bump σ x1 = some (r, σ') ∧ fM_bump μ x1 = some (r, μ') ∧ Re σ' μ'

def Ls_deal (Re : XS → MS → Prop) : Prop := ∀ (σ : XS) (μ : MS) (x1 : Int32), Re σ μ → ∃ (r : Int32) (σ' : XS) (μ' : MS), fX_deal σ x1 = some (r, σ') ∧ fM_deal μ x1 = some (r, μ') ∧ Re σ' μ'

def Ls_seed (Re : XS → MS → Prop) : Prop := ∀ (σ : XS) (μ : MS) (x1 : Int32), Re σ μ → ∃ (r : Int32) (σ' : XS) (μ' : MS), fX_seed σ x1 = some (r, σ') ∧ fM_seed μ x1 = some (r, μ') ∧ Re σ' μ'

def Ls_jolts (Re : XS → MS → Prop) : Prop := ∀ (σ : XS) (μ : MS) (x1 : Int32), Re σ μ → ∃ (r : Int32) (σ' : XS) (μ' : MS), fX_jolts σ x1 = some (r, σ') ∧ fM_jolts μ x1 = some (r, μ') ∧ Re σ' μ'

def Ls_bag (Re : XS → MS → Prop) : Prop := ∀ (σ : XS) (μ : MS) (x1 : Int32), Re σ μ → ∃ (r : Int32) (μ' : MS), fX_bag σ x1 = some r ∧ fM_bag μ x1 = some (r, μ') ∧ Re σ μ'

def Ls_behind (Re : XS → MS → Prop) : Prop := ∀ (σ : XS) (μ : MS) (x1 x2 : Int32), Re σ μ → ∃ (r : Int32) (σ' : XS) (μ' : MS), fX_behind σ x1 x2 = some (r, σ') ∧ fM_behind μ x1 x2 = some (r, μ') ∧ Re σ' μ'

def Ls_rests (Re : XS → MS → Prop) : Prop := ∀ (σ : XS) (μ : MS), Re σ μ → ∃ (r : Int32) (σ' : XS) (μ' : MS), fX_rests σ = some (r, σ') ∧ fM_rests μ = some (r, μ') ∧ Re σ' μ'

def Ls_padding (Re : XS → MS → Prop) : Prop := ∀ (σ : XS) (μ : MS) (x1 x2 x3 : Int32), Re σ μ → ∃ (r : Int32) (σ' : XS) (μ' : MS), fX_padding σ x1 x2 x3 = some (r, σ') ∧ fM_padding μ x1 x2 x3 = some (r, μ') ∧ Re σ' μ'

def Ls_stays (Re : XS → MS → Prop) : Prop := ∀ (σ : XS) (μ : MS) (x1 : Int32), Re σ μ → ∃ (r : Int32) (σ' : XS) (μ' : MS), fX_stays σ x1 = some (r, σ') ∧ fM_stays μ x1 = some (r, μ') ∧ Re σ' μ'

def Ls_bundle (Re : XS → MS → Prop) : Prop := ∀ (σ : XS) (μ : MS) (x1 x2 : Int32), Re σ μ → ∃ (r : Int32) (σ' : XS) (μ' : MS), fX_bundle σ x1 x2 = some (r, σ') ∧ fM_bundle μ x1 x2 = some (r, μ') ∧ Re σ' μ'

def Ls_halts (Re : XS → MS → Prop) : Prop := ∀ (σ : XS) (μ : MS) (x1 x2 : Int32), Re σ μ → ∃ (r : Int32) (σ' : XS) (μ' : MS), fX_halts σ x1 x2 = some (r, σ') ∧ fM_halts μ x1 x2 = some (r, μ') ∧ Re σ' μ'

def Ls_miles (Re : XS → MS → Prop) : Prop := ∀ (σ : XS) (μ : MS) (x1 x2 : Int32), Re σ μ → ∃ (r : Int32) (σ' : XS) (μ' : MS), fX_miles σ x1 x2 = some (r, σ') ∧ fM_miles μ x1 x2 = some (r, μ') ∧ Re σ' μ'

def Ls_fee (Re : XS → MS → Prop) : Prop := ∀ (σ : XS) (μ : MS), Re σ μ → ∃ (r : Int32) (σ' : XS) (μ' : MS), fX_fee σ = some (r, σ') ∧ fM_fee μ = some (r, μ') ∧ Re σ' μ'

def Ls_fine (Re : XS → MS → Prop) : Prop := ∀ (σ : XS) (μ : MS) (x1 : Int32), Re σ μ → ∃ (r : Int32) (σ' : XS) (μ' : MS), fX_fine σ x1 = some (r, σ') ∧ fM_fine μ x1 = some (r, μ') ∧ Re σ' μ'

def Ls_feed (Re : XS → MS → Prop) : Prop := ∀ (σ : XS) (μ : MS) (x1 x2 x3 : Int32), Re σ μ → ∃ (r : Int32) (σ' : XS) (μ' : MS), fX_feed σ x1 x2 x3 = some (r, σ') ∧ fM_feed μ x1 x2 x3 = some (r, μ') ∧ Re σ' μ'

def Ls_trim (Re : XS → MS → Prop) : Prop := ∀ (σ : XS) (μ : MS) (x1 : Int32), Re σ μ → ∃ (r : Int32) (σ' : XS) (μ' : MS), fX_trim σ x1 = some (r, σ') ∧ fM_trim μ x1 = some (r, μ') ∧ Re σ' μ'

def Ls_text (Re : XS → MS → Prop) : Prop := ∀ (σ : XS) (μ : MS), Re σ μ → ∃ z, fX_text σ = some z ∧ (∀ σk, z = .inr σk → ∀ a c t, frs (xL σk) a c t → ∃ y, fX_textK (xnew σk a c t) a = some y) ∧ ∀ (r : Int32) (u : XS), xTo z r u → ∃ μ', fM_text μ = some (r, μ') ∧ Re u μ'

def Ls_textTold (Re : XS → MS → Prop) : Prop := ∀ (σ : XS) (μ : MS) (x1 x2 : Int32), Re σ μ → ∃ (r : Int32), fX_textTold σ x1 x2 = some r ∧ fM_textTold μ x1 x2 = some r

def Ls_why (Re : XS → MS → Prop) : Prop := ∀ (σ : XS) (μ : MS) (x1 : Int32), Re σ μ → ∃ (r : Int32), fX_why σ x1 = some r ∧ fM_why μ x1 = some r

def Ls_sheet (Re : XS → MS → Prop) : Prop := ∀ (σ : XS) (μ : MS) (x1 x2 x3 : Int32), Re σ μ → ∃ (r : Int32) (σ' : XS) (μ' : MS), fX_sheet σ x1 x2 x3 = some (r, σ') ∧ fM_sheet μ x1 x2 x3 = some (r, μ') ∧ Re σ' μ'

def Ls_mark (Re : XS → MS → Prop) : Prop := ∀ (σ : XS) (μ : MS) (x1 x2 x3 : Int32), Re σ μ → ∃ (r : Int32) (σ' : XS) (μ' : MS), fX_mark σ x1 x2 x3 = some (r, σ') ∧ fM_mark μ x1 x2 x3 = some (r, μ') ∧ Re σ' μ'

def Ls_pour (Re : XS → MS → Prop) : Prop := ∀ (σ : XS) (μ : MS) (x1 : Int32), Re σ μ → ∃ (r : Int32) (σ' : XS) (μ' : MS), fX_pour σ x1 = some (r, σ') ∧ fM_pour μ x1 = some (r, μ') ∧ Re σ' μ'

def Ls_reads (Re : XS → MS → Prop) : Prop := ∀ (σ : XS) (μ : MS) (x1 : Int32), Re σ μ → ∃ (r : Int32), fX_reads σ x1 = some r ∧ fM_reads μ x1 = some r

def Ls_copy (Re : XS → MS → Prop) : Prop := ∀ (σ : XS) (μ : MS) (x1 x2 x3 x4 x5 : Int32), Re σ μ → ∃ (r : Int32) (σ' : XS) (μ' : MS), fX_copy σ x1 x2 x3 x4 x5 = some (r, σ') ∧ fM_copy μ x1 x2 x3 x4 x5 = some (r, μ') ∧ Re σ' μ'

def Ls_lay (Re : XS → MS → Prop) : Prop := ∀ (σ : XS) (μ : MS) (x1 x2 x3 : Int32), Re σ μ → ∃ (r : Int32) (σ' : XS) (μ' : MS), fX_lay σ x1 x2 x3 = some (r, σ') ∧ fM_lay μ x1 x2 x3 = some (r, μ') ∧ Re σ' μ'

def Ls_ask (Re : XS → MS → Prop) : Prop := ∀ (σ : XS) (μ : MS) (x1 x2 : Int32), Re σ μ → ∃ (r : Int32), fX_ask σ x1 x2 = some r ∧ fM_ask μ x1 x2 = some r

def Ls_item (Re : XS → MS → Prop) : Prop := ∀ (σ : XS) (μ : MS) (x1 x2 : Int32), Re σ μ → ∃ (r : Int32), fX_item σ x1 x2 = some r ∧ fM_item μ x1 x2 = some r

def Ls_rest (Re : XS → MS → Prop) : Prop := ∀ (σ : XS) (μ : MS) (x1 x2 : Int32), Re σ μ → ∃ (r : Int32), fX_rest σ x1 x2 = some r ∧ fM_rest μ x1 x2 = some r

def Ls_tell (Re : XS → MS → Prop) : Prop := ∀ (σ : XS) (μ : MS) (x1 : Int32), Re σ μ → ∃ (r : Int32) (σ' : XS) (μ' : MS), fX_tell σ x1 = some (r, σ') ∧ fM_tell μ x1 = some (r, μ') ∧ Re σ' μ'

def Ls_check (Re : XS → MS → Prop) : Prop := ∀ (σ : XS) (μ : MS) (x1 : Int32), Re σ μ → ∃ (r : Int32) (σ' : XS) (μ' : MS), fX_check σ x1 = some (r, σ') ∧ fM_check μ x1 = some (r, μ') ∧ Re σ' μ'

def Ls_keep (Re : XS → MS → Prop) : Prop := ∀ (σ : XS) (μ : MS), Re σ μ → ∃ (r : Int32) (σ' : XS) (μ' : MS), fX_keep σ = some (r, σ') ∧ fM_keep μ = some (r, μ') ∧ Re σ' μ'

def Ls_back (Re : XS → MS → Prop) : Prop := ∀ (σ : XS) (μ : MS), Re σ μ → ∃ (r : Int32) (σ' : XS) (μ' : MS), fX_back σ = some (r, σ') ∧ fM_back μ = some (r, μ') ∧ Re σ' μ'

def Ls_count (Re : XS → MS → Prop) : Prop := ∀ (σ : XS) (μ : MS) (x1 : Int32), Re σ μ → ∃ (r : Int32), fX_count σ x1 = some r ∧ fM_count μ x1 = some r

set_option maxHeartbeats 4000000 in
set_option maxRecDepth 100000 in
theorem law_letter {p : Program} {l : Launch} {e : Env} {s : State} {m : MethodId} {below : List Frame} {meth : Method} {c : Code} {b L : Nat} {xs : Nat → Int32} {G : XG} {B : Nat → Nat} {Re : XS → MS → Prop} (hL : L ≤ 3072) (hC : jC p s m #[Value.ref b] meth c cL_law 4 RL) (hX : va_X b L xs s s.heap) (hbl : b < s.heap.size) (hSt_letter : Ls_letter Re) (n j : Nat) (x3 : Int32) (ej : x3 = nI j) (hj : j + 6 ≤ L) (σ : XS) (μ : MS) (hRe : Re σ μ) (cells slots : Nat) (hc1 : cells + 3 * (n + 1) ≤ 600000) (hc2 : slots + 196 * (n + 1) ≤ 7302250) (H : Heap) (locs : List Loc) (ls : Array Slot) (hH : lH G B s (fun q : Nat => s.heap.size ≤ q) σ μ H locs) (hl : lv_has ls 4 [(0, .ref b), (1, .ref (xA G 0)), (2, .ref (B 0)), (3, .int x3)])
    (hgo : ∀ (σ : XS) (μ : MS), Re σ μ → ∀ (cells slots : Nat), cells + 3 * n ≤ 600000 → slots + 196 * n ≤ 7302250 → ∀ (H : Heap) (locs : List Loc) (ls : Array Slot), lH G B s (fun q : Nat => s.heap.size ≤ q) σ μ H locs → lv_has ls 4 [(0, .ref b), (1, .ref (xA G 0)), (2, .ref (B 0)), (3, .int x3)] → W p l e room_1 s m #[Value.ref b] below meth c H locs cells slots (lw_Z below #[Value.ref b] s) (F0 m 1395 ls [])) : W p l e room_1 s m #[Value.ref b] below meth c H locs cells slots (lw_Z below #[Value.ref b] s) (F0 m 212 ls []) := by
  have hx := hC.1.1
  have hb := hC.1.2.1
  have hts := hC.1.2.2.2.2
  have hbA : ¬ (fun q : Nat => s.heap.size ≤ q) b := Nat.not_le.mpr hbl
  have hcs : cells ≤ room_1.cells ∧ slots ≤ room_1.slots := ⟨by show cells ≤ 600000; omega, by show slots ≤ 7302250; omega⟩
  obtain ⟨r, σ', μ', hfx, hfm, hRe⟩ := hSt_letter σ μ (xs (x3 + (1 : Int32)).toNatClampNeg) (xs (x3 + (2 : Int32)).toNatClampNeg) (xs (x3 + (3 : Int32)).toNatClampNeg) hRe
  refine lv_aload_n hx hb dL_law_212 rfl (lv_at hl 1 rfl) ?_
  refine lv_aload_n hx hb dL_law_213 rfl (lv_at hl 0 rfl) ?_
  refine lv_iload_n hx hb dL_law_214 rfl (lv_at hl 3 rfl) ?_
  refine lv_iconst (v := 1) hx hb dL_law_215 (by decide) ?_
  refine lv_iadd hx hb dL_law_216 ?_
  refine va_sld hx hb hX hbl hbA hH.1.2.2.1 (sc_in (k := 1) hL j ej hj (by decide)) dL_law_217 ?_
  refine lv_aload_n hx hb dL_law_218 rfl (lv_at hl 0 rfl) ?_
  refine lv_iload_n hx hb dL_law_219 rfl (lv_at hl 3 rfl) ?_
  refine lv_iconst (v := 2) hx hb dL_law_220 (by decide) ?_
  refine lv_iadd hx hb dL_law_221 ?_
  refine va_sld hx hb hX hbl hbA hH.1.2.2.1 (sc_in (k := 2) hL j ej hj (by decide)) dL_law_222 ?_
  refine lv_aload_n hx hb dL_law_223 rfl (lv_at hl 0 rfl) ?_
  refine lv_iload_n hx hb dL_law_224 rfl (lv_at hl 3 rfl) ?_
  refine lv_iconst (v := 3) hx hb dL_law_225 (by decide) ?_
  refine lv_iadd hx hb dL_law_226 ?_
  refine va_sld hx hb hX hbl hbA hH.1.2.2.1 (sc_in (k := 3) hL j ej hj (by decide)) dL_law_227 ?_
  refine l_callX (As := [.int (xs (x3 + (1 : Int32)).toNatClampNeg), .int (xs (x3 + (2 : Int32)).toNatClampNeg), .int (xs (x3 + (3 : Int32)).toNatClampNeg)]) (rest := []) (cX_letter l G σ (xs (x3 + (1 : Int32)).toNatClampNeg) (xs (x3 + (2 : Int32)).toNatClampNeg) (xs (x3 + (3 : Int32)).toNatClampNeg) hfx) hC hH hl (cwV 3 hts (gV wmL_13 wvX7_letter) rfl rfl rfl hdX7_letter ⟨Nat.le_of_ble_eq_true rfl, Nat.le_of_ble_eq_true rfl⟩) rfl rfl (Nat.le_of_ble_eq_true rfl) hcs dL_law_228 (fun H locs hH => ?_)
  refine lv_aload_n hx hb dL_law_231 rfl (lv_at hl 2 rfl) ?_
  refine lv_aload_n hx hb dL_law_232 rfl (lv_at hl 0 rfl) ?_
  refine lv_iload_n hx hb dL_law_233 rfl (lv_at hl 3 rfl) ?_
  refine lv_iconst (v := 1) hx hb dL_law_234 (by decide) ?_
  refine lv_iadd hx hb dL_law_235 ?_
  refine va_sld hx hb hX hbl hbA hH.1.2.2.1 (sc_in (k := 1) hL j ej hj (by decide)) dL_law_236 ?_
  refine lv_aload_n hx hb dL_law_237 rfl (lv_at hl 0 rfl) ?_
  refine lv_iload_n hx hb dL_law_238 rfl (lv_at hl 3 rfl) ?_
  refine lv_iconst (v := 2) hx hb dL_law_239 (by decide) ?_
  refine lv_iadd hx hb dL_law_240 ?_
  refine va_sld hx hb hX hbl hbA hH.1.2.2.1 (sc_in (k := 2) hL j ej hj (by decide)) dL_law_241 ?_
  refine lv_aload_n hx hb dL_law_242 rfl (lv_at hl 0 rfl) ?_
  refine lv_iload_n hx hb dL_law_243 rfl (lv_at hl 3 rfl) ?_
  refine lv_iconst (v := 3) hx hb dL_law_244 (by decide) ?_
  refine lv_iadd hx hb dL_law_245 ?_
  refine va_sld hx hb hX hbl hbA hH.1.2.2.1 (sc_in (k := 3) hL j ej hj (by decide)) dL_law_246 ?_
  refine l_callM (As := [.int (xs (x3 + (1 : Int32)).toNatClampNeg), .int (xs (x3 + (2 : Int32)).toNatClampNeg), .int (xs (x3 + (3 : Int32)).toNatClampNeg)]) (rest := [.int r]) (cM_letter l (xD G) (xK G 0) B μ (xs (x3 + (1 : Int32)).toNatClampNeg) (xs (x3 + (2 : Int32)).toNatClampNeg) (xs (x3 + (3 : Int32)).toNatClampNeg) hfm) hC hH hl (cwV 3 hts (gV wmL_17 wvX8_letter) rfl rfl rfl hdX8_letter ⟨Nat.le_of_ble_eq_true rfl, Nat.le_of_ble_eq_true rfl⟩) rfl rfl (Nat.le_of_ble_eq_true rfl) hcs dL_law_247 (fun H locs hH => ?_)
  refine lv_icmp_eq (tgt := 1395) hx hb dL_law_250 (by decide) (fun _ => ?_) (fun c9 => absurd rfl c9)
  exact hgo σ' μ' hRe cells slots (by omega) (by omega) H locs ls hH hl

set_option maxHeartbeats 4000000 in
set_option maxRecDepth 100000 in
theorem law_told {p : Program} {l : Launch} {e : Env} {s : State} {m : MethodId} {below : List Frame} {meth : Method} {c : Code} {b L : Nat} {xs : Nat → Int32} {G : XG} {B : Nat → Nat} {Re : XS → MS → Prop} (hL : L ≤ 3072) (hC : jC p s m #[Value.ref b] meth c cL_law 4 RL) (hX : va_X b L xs s s.heap) (hbl : b < s.heap.size) (hSt_told : Ls_told Re) (n j : Nat) (x3 : Int32) (ej : x3 = nI j) (hj : j + 6 ≤ L) (σ : XS) (μ : MS) (hRe : Re σ μ) (cells slots : Nat) (hc1 : cells + 3 * (n + 1) ≤ 600000) (hc2 : slots + 196 * (n + 1) ≤ 7302250) (H : Heap) (locs : List Loc) (ls : Array Slot) (hH : lH G B s (fun q : Nat => s.heap.size ≤ q) σ μ H locs) (hl : lv_has ls 4 [(0, .ref b), (1, .ref (xA G 0)), (2, .ref (B 0)), (3, .int x3)])
    (hgo : ∀ (σ : XS) (μ : MS), Re σ μ → ∀ (cells slots : Nat), cells + 3 * n ≤ 600000 → slots + 196 * n ≤ 7302250 → ∀ (H : Heap) (locs : List Loc) (ls : Array Slot), lH G B s (fun q : Nat => s.heap.size ≤ q) σ μ H locs → lv_has ls 4 [(0, .ref b), (1, .ref (xA G 0)), (2, .ref (B 0)), (3, .int x3)] → W p l e room_1 s m #[Value.ref b] below meth c H locs cells slots (lw_Z below #[Value.ref b] s) (F0 m 1395 ls [])) : W p l e room_1 s m #[Value.ref b] below meth c H locs cells slots (lw_Z below #[Value.ref b] s) (F0 m 255 ls []) := by
  have hx := hC.1.1
  have hb := hC.1.2.1
  have hts := hC.1.2.2.2.2
  have hbA : ¬ (fun q : Nat => s.heap.size ≤ q) b := Nat.not_le.mpr hbl
  have hcs : cells ≤ room_1.cells ∧ slots ≤ room_1.slots := ⟨by show cells ≤ 600000; omega, by show slots ≤ 7302250; omega⟩
  obtain ⟨r, μ', hfx, hfm, hRe⟩ := hSt_told σ μ (xs (x3 + (1 : Int32)).toNatClampNeg) (xs (x3 + (2 : Int32)).toNatClampNeg) hRe
  refine lv_aload_n hx hb dL_law_255 rfl (lv_at hl 1 rfl) ?_
  refine lv_aload_n hx hb dL_law_256 rfl (lv_at hl 0 rfl) ?_
  refine lv_iload_n hx hb dL_law_257 rfl (lv_at hl 3 rfl) ?_
  refine lv_iconst (v := 1) hx hb dL_law_258 (by decide) ?_
  refine lv_iadd hx hb dL_law_259 ?_
  refine va_sld hx hb hX hbl hbA hH.1.2.2.1 (sc_in (k := 1) hL j ej hj (by decide)) dL_law_260 ?_
  refine lv_aload_n hx hb dL_law_261 rfl (lv_at hl 0 rfl) ?_
  refine lv_iload_n hx hb dL_law_262 rfl (lv_at hl 3 rfl) ?_
  refine lv_iconst (v := 2) hx hb dL_law_263 (by decide) ?_
  refine lv_iadd hx hb dL_law_264 ?_
  refine va_sld hx hb hX hbl hbA hH.1.2.2.1 (sc_in (k := 2) hL j ej hj (by decide)) dL_law_265 ?_
  refine l_callX (As := [.int (xs (x3 + (1 : Int32)).toNatClampNeg), .int (xs (x3 + (2 : Int32)).toNatClampNeg)]) (rest := []) (cX_told l G σ (xs (x3 + (1 : Int32)).toNatClampNeg) (xs (x3 + (2 : Int32)).toNatClampNeg) hfx) hC hH hl (cwV 2 hts (gV wmL_18 wvX7_told) rfl rfl rfl hdX7_told ⟨Nat.le_of_ble_eq_true rfl, Nat.le_of_ble_eq_true rfl⟩) rfl rfl (Nat.le_of_ble_eq_true rfl) hcs dL_law_266 (fun H locs hH => ?_)
  refine lv_aload_n hx hb dL_law_269 rfl (lv_at hl 2 rfl) ?_
  refine lv_aload_n hx hb dL_law_270 rfl (lv_at hl 0 rfl) ?_
  refine lv_iload_n hx hb dL_law_271 rfl (lv_at hl 3 rfl) ?_
  refine lv_iconst (v := 1) hx hb dL_law_272 (by decide) ?_
  refine lv_iadd hx hb dL_law_273 ?_
  refine va_sld hx hb hX hbl hbA hH.1.2.2.1 (sc_in (k := 1) hL j ej hj (by decide)) dL_law_274 ?_
  refine lv_aload_n hx hb dL_law_275 rfl (lv_at hl 0 rfl) ?_
  refine lv_iload_n hx hb dL_law_276 rfl (lv_at hl 3 rfl) ?_
  refine lv_iconst (v := 2) hx hb dL_law_277 (by decide) ?_
  refine lv_iadd hx hb dL_law_278 ?_
  refine va_sld hx hb hX hbl hbA hH.1.2.2.1 (sc_in (k := 2) hL j ej hj (by decide)) dL_law_279 ?_
  refine l_callM (As := [.int (xs (x3 + (1 : Int32)).toNatClampNeg), .int (xs (x3 + (2 : Int32)).toNatClampNeg)]) (rest := [.int r]) (cM_told l (xD G) (xK G 0) B μ (xs (x3 + (1 : Int32)).toNatClampNeg) (xs (x3 + (2 : Int32)).toNatClampNeg) hfm) hC hH hl (cwV 2 hts (gV wmL_22 wvX8_told) rfl rfl rfl hdX8_told ⟨Nat.le_of_ble_eq_true rfl, Nat.le_of_ble_eq_true rfl⟩) rfl rfl (Nat.le_of_ble_eq_true rfl) hcs dL_law_280 (fun H locs hH => ?_)
  refine lv_icmp_eq (tgt := 1395) hx hb dL_law_283 (by decide) (fun _ => ?_) (fun c9 => absurd rfl c9)
  exact hgo σ μ' hRe cells slots (by omega) (by omega) H locs ls hH hl

set_option maxHeartbeats 4000000 in
set_option maxRecDepth 100000 in
theorem law_as {p : Program} {l : Launch} {e : Env} {s : State} {m : MethodId} {below : List Frame} {meth : Method} {c : Code} {b L : Nat} {xs : Nat → Int32} {G : XG} {B : Nat → Nat} {Re : XS → MS → Prop} (hL : L ≤ 3072) (hC : jC p s m #[Value.ref b] meth c cL_law 4 RL) (hX : va_X b L xs s s.heap) (hbl : b < s.heap.size) (hSt_as : Ls_as Re) (n j : Nat) (x3 : Int32) (ej : x3 = nI j) (hj : j + 6 ≤ L) (σ : XS) (μ : MS) (hRe : Re σ μ) (cells slots : Nat) (hc1 : cells + 3 * (n + 1) ≤ 600000) (hc2 : slots + 196 * (n + 1) ≤ 7302250) (H : Heap) (locs : List Loc) (ls : Array Slot) (hH : lH G B s (fun q : Nat => s.heap.size ≤ q) σ μ H locs) (hl : lv_has ls 4 [(0, .ref b), (1, .ref (xA G 0)), (2, .ref (B 0)), (3, .int x3)])
    (hgo : ∀ (σ : XS) (μ : MS), Re σ μ → ∀ (cells slots : Nat), cells + 3 * n ≤ 600000 → slots + 196 * n ≤ 7302250 → ∀ (H : Heap) (locs : List Loc) (ls : Array Slot), lH G B s (fun q : Nat => s.heap.size ≤ q) σ μ H locs → lv_has ls 4 [(0, .ref b), (1, .ref (xA G 0)), (2, .ref (B 0)), (3, .int x3)] → W p l e room_1 s m #[Value.ref b] below meth c H locs cells slots (lw_Z below #[Value.ref b] s) (F0 m 1395 ls [])) : W p l e room_1 s m #[Value.ref b] below meth c H locs cells slots (lw_Z below #[Value.ref b] s) (F0 m 288 ls []) := by
  have hx := hC.1.1
  have hb := hC.1.2.1
  have hts := hC.1.2.2.2.2
  have hbA : ¬ (fun q : Nat => s.heap.size ≤ q) b := Nat.not_le.mpr hbl
  have hcs : cells ≤ room_1.cells ∧ slots ≤ room_1.slots := ⟨by show cells ≤ 600000; omega, by show slots ≤ 7302250; omega⟩
  obtain ⟨r, hfx, hfm⟩ := hSt_as σ μ (xs (x3 + (1 : Int32)).toNatClampNeg) (xs (x3 + (2 : Int32)).toNatClampNeg) hRe
  refine lv_aload_n hx hb dL_law_288 rfl (lv_at hl 1 rfl) ?_
  refine lv_aload_n hx hb dL_law_289 rfl (lv_at hl 0 rfl) ?_
  refine lv_iload_n hx hb dL_law_290 rfl (lv_at hl 3 rfl) ?_
  refine lv_iconst (v := 1) hx hb dL_law_291 (by decide) ?_
  refine lv_iadd hx hb dL_law_292 ?_
  refine va_sld hx hb hX hbl hbA hH.1.2.2.1 (sc_in (k := 1) hL j ej hj (by decide)) dL_law_293 ?_
  refine lv_aload_n hx hb dL_law_294 rfl (lv_at hl 0 rfl) ?_
  refine lv_iload_n hx hb dL_law_295 rfl (lv_at hl 3 rfl) ?_
  refine lv_iconst (v := 2) hx hb dL_law_296 (by decide) ?_
  refine lv_iadd hx hb dL_law_297 ?_
  refine va_sld hx hb hX hbl hbA hH.1.2.2.1 (sc_in (k := 2) hL j ej hj (by decide)) dL_law_298 ?_
  refine l_callX (As := [.int (xs (x3 + (1 : Int32)).toNatClampNeg), .int (xs (x3 + (2 : Int32)).toNatClampNeg)]) (rest := []) (cX_as l G σ (xs (x3 + (1 : Int32)).toNatClampNeg) (xs (x3 + (2 : Int32)).toNatClampNeg) hfx) hC hH hl (cwV 2 hts (gV wmL_23 wvX7_as) rfl rfl rfl hdX7_as ⟨Nat.le_of_ble_eq_true rfl, Nat.le_of_ble_eq_true rfl⟩) rfl rfl (Nat.le_of_ble_eq_true rfl) hcs dL_law_299 (fun H locs hH => ?_)
  refine lv_aload_n hx hb dL_law_302 rfl (lv_at hl 2 rfl) ?_
  refine lv_aload_n hx hb dL_law_303 rfl (lv_at hl 0 rfl) ?_
  refine lv_iload_n hx hb dL_law_304 rfl (lv_at hl 3 rfl) ?_
  refine lv_iconst (v := 1) hx hb dL_law_305 (by decide) ?_
  refine lv_iadd hx hb dL_law_306 ?_
  refine va_sld hx hb hX hbl hbA hH.1.2.2.1 (sc_in (k := 1) hL j ej hj (by decide)) dL_law_307 ?_
  refine lv_aload_n hx hb dL_law_308 rfl (lv_at hl 0 rfl) ?_
  refine lv_iload_n hx hb dL_law_309 rfl (lv_at hl 3 rfl) ?_
  refine lv_iconst (v := 2) hx hb dL_law_310 (by decide) ?_
  refine lv_iadd hx hb dL_law_311 ?_
  refine va_sld hx hb hX hbl hbA hH.1.2.2.1 (sc_in (k := 2) hL j ej hj (by decide)) dL_law_312 ?_
  refine l_callM (As := [.int (xs (x3 + (1 : Int32)).toNatClampNeg), .int (xs (x3 + (2 : Int32)).toNatClampNeg)]) (rest := [.int r]) (cM_as l (xD G) (xK G 0) B μ (xs (x3 + (1 : Int32)).toNatClampNeg) (xs (x3 + (2 : Int32)).toNatClampNeg) hfm) hC hH hl (cwV 2 hts (gV wmL_26 wvX8_as) rfl rfl rfl hdX8_as ⟨Nat.le_of_ble_eq_true rfl, Nat.le_of_ble_eq_true rfl⟩) rfl rfl (Nat.le_of_ble_eq_true rfl) hcs dL_law_313 (fun H locs hH => ?_)
  refine lv_icmp_eq (tgt := 1395) hx hb dL_law_316 (by decide) (fun _ => ?_) (fun c9 => absurd rfl c9)
  exact hgo σ μ hRe cells slots (by omega) (by omega) H locs ls hH hl

set_option maxHeartbeats 4000000 in
set_option maxRecDepth 100000 in
theorem law_turns {p : Program} {l : Launch} {e : Env} {s : State} {m : MethodId} {below : List Frame} {meth : Method} {c : Code} {b L : Nat} {xs : Nat → Int32} {G : XG} {B : Nat → Nat} {Re : XS → MS → Prop} (hL : L ≤ 3072) (hC : jC p s m #[Value.ref b] meth c cL_law 4 RL) (hX : va_X b L xs s s.heap) (hbl : b < s.heap.size) (hSt_turns : Ls_turns Re) (n j : Nat) (x3 : Int32) (ej : x3 = nI j) (hj : j + 6 ≤ L) (σ : XS) (μ : MS) (hRe : Re σ μ) (cells slots : Nat) (hc1 : cells + 3 * (n + 1) ≤ 600000) (hc2 : slots + 196 * (n + 1) ≤ 7302250) (H : Heap) (locs : List Loc) (ls : Array Slot) (hH : lH G B s (fun q : Nat => s.heap.size ≤ q) σ μ H locs) (hl : lv_has ls 4 [(0, .ref b), (1, .ref (xA G 0)), (2, .ref (B 0)), (3, .int x3)])
    (hgo : ∀ (σ : XS) (μ : MS), Re σ μ → ∀ (cells slots : Nat), cells + 3 * n ≤ 600000 → slots + 196 * n ≤ 7302250 → ∀ (H : Heap) (locs : List Loc) (ls : Array Slot), lH G B s (fun q : Nat => s.heap.size ≤ q) σ μ H locs → lv_has ls 4 [(0, .ref b), (1, .ref (xA G 0)), (2, .ref (B 0)), (3, .int x3)] → W p l e room_1 s m #[Value.ref b] below meth c H locs cells slots (lw_Z below #[Value.ref b] s) (F0 m 1395 ls [])) : W p l e room_1 s m #[Value.ref b] below meth c H locs cells slots (lw_Z below #[Value.ref b] s) (F0 m 321 ls []) := by
  have hx := hC.1.1
  have hb := hC.1.2.1
  have hts := hC.1.2.2.2.2
  have hbA : ¬ (fun q : Nat => s.heap.size ≤ q) b := Nat.not_le.mpr hbl
  have hcs : cells ≤ room_1.cells ∧ slots ≤ room_1.slots := ⟨by show cells ≤ 600000; omega, by show slots ≤ 7302250; omega⟩
  obtain ⟨r, σ', μ', hfx, hfm, hRe⟩ := hSt_turns σ μ (xs (x3 + (1 : Int32)).toNatClampNeg) (xs (x3 + (2 : Int32)).toNatClampNeg) hRe
  refine lv_aload_n hx hb dL_law_321 rfl (lv_at hl 1 rfl) ?_
  refine lv_aload_n hx hb dL_law_322 rfl (lv_at hl 0 rfl) ?_
  refine lv_iload_n hx hb dL_law_323 rfl (lv_at hl 3 rfl) ?_
  refine lv_iconst (v := 1) hx hb dL_law_324 (by decide) ?_
  refine lv_iadd hx hb dL_law_325 ?_
  refine va_sld hx hb hX hbl hbA hH.1.2.2.1 (sc_in (k := 1) hL j ej hj (by decide)) dL_law_326 ?_
  refine lv_aload_n hx hb dL_law_327 rfl (lv_at hl 0 rfl) ?_
  refine lv_iload_n hx hb dL_law_328 rfl (lv_at hl 3 rfl) ?_
  refine lv_iconst (v := 2) hx hb dL_law_329 (by decide) ?_
  refine lv_iadd hx hb dL_law_330 ?_
  refine va_sld hx hb hX hbl hbA hH.1.2.2.1 (sc_in (k := 2) hL j ej hj (by decide)) dL_law_331 ?_
  refine l_callX (As := [.int (xs (x3 + (1 : Int32)).toNatClampNeg), .int (xs (x3 + (2 : Int32)).toNatClampNeg)]) (rest := []) (cX_turns l G σ (xs (x3 + (1 : Int32)).toNatClampNeg) (xs (x3 + (2 : Int32)).toNatClampNeg) hfx) hC hH hl (cwV 2 hts (gV wmL_27 wvX7_turns) rfl rfl rfl hdX7_turns ⟨Nat.le_of_ble_eq_true rfl, Nat.le_of_ble_eq_true rfl⟩) rfl rfl (Nat.le_of_ble_eq_true rfl) hcs dL_law_332 (fun H locs hH => ?_)
  refine lv_aload_n hx hb dL_law_335 rfl (lv_at hl 2 rfl) ?_
  refine lv_aload_n hx hb dL_law_336 rfl (lv_at hl 0 rfl) ?_
  refine lv_iload_n hx hb dL_law_337 rfl (lv_at hl 3 rfl) ?_
  refine lv_iconst (v := 1) hx hb dL_law_338 (by decide) ?_
  refine lv_iadd hx hb dL_law_339 ?_
  refine va_sld hx hb hX hbl hbA hH.1.2.2.1 (sc_in (k := 1) hL j ej hj (by decide)) dL_law_340 ?_
  refine lv_aload_n hx hb dL_law_341 rfl (lv_at hl 0 rfl) ?_
  refine lv_iload_n hx hb dL_law_342 rfl (lv_at hl 3 rfl) ?_
  refine lv_iconst (v := 2) hx hb dL_law_343 (by decide) ?_
  refine lv_iadd hx hb dL_law_344 ?_
  refine va_sld hx hb hX hbl hbA hH.1.2.2.1 (sc_in (k := 2) hL j ej hj (by decide)) dL_law_345 ?_
  refine l_callM (As := [.int (xs (x3 + (1 : Int32)).toNatClampNeg), .int (xs (x3 + (2 : Int32)).toNatClampNeg)]) (rest := [.int r]) (cM_turns l (xD G) (xK G 0) B μ (xs (x3 + (1 : Int32)).toNatClampNeg) (xs (x3 + (2 : Int32)).toNatClampNeg) hfm) hC hH hl (cwV 2 hts (gV wmL_30 wvX8_turns) rfl rfl rfl hdX8_turns ⟨Nat.le_of_ble_eq_true rfl, Nat.le_of_ble_eq_true rfl⟩) rfl rfl (Nat.le_of_ble_eq_true rfl) hcs dL_law_346 (fun H locs hH => ?_)
  refine lv_icmp_eq (tgt := 1395) hx hb dL_law_349 (by decide) (fun _ => ?_) (fun c9 => absurd rfl c9)
  exact hgo σ' μ' hRe cells slots (by omega) (by omega) H locs ls hH hl

set_option maxHeartbeats 4000000 in
set_option maxRecDepth 100000 in
theorem law_set {p : Program} {l : Launch} {e : Env} {s : State} {m : MethodId} {below : List Frame} {meth : Method} {c : Code} {b L : Nat} {xs : Nat → Int32} {G : XG} {B : Nat → Nat} {Re : XS → MS → Prop} (hL : L ≤ 3072) (hC : jC p s m #[Value.ref b] meth c cL_law 4 RL) (hX : va_X b L xs s s.heap) (hbl : b < s.heap.size) (hSt_set : Ls_set Re) (n j : Nat) (x3 : Int32) (ej : x3 = nI j) (hj : j + 6 ≤ L) (σ : XS) (μ : MS) (hRe : Re σ μ) (cells slots : Nat) (hc1 : cells + 3 * (n + 1) ≤ 600000) (hc2 : slots + 196 * (n + 1) ≤ 7302250) (H : Heap) (locs : List Loc) (ls : Array Slot) (hH : lH G B s (fun q : Nat => s.heap.size ≤ q) σ μ H locs) (hl : lv_has ls 4 [(0, .ref b), (1, .ref (xA G 0)), (2, .ref (B 0)), (3, .int x3)])
    (hgo : ∀ (σ : XS) (μ : MS), Re σ μ → ∀ (cells slots : Nat), cells + 3 * n ≤ 600000 → slots + 196 * n ≤ 7302250 → ∀ (H : Heap) (locs : List Loc) (ls : Array Slot), lH G B s (fun q : Nat => s.heap.size ≤ q) σ μ H locs → lv_has ls 4 [(0, .ref b), (1, .ref (xA G 0)), (2, .ref (B 0)), (3, .int x3)] → W p l e room_1 s m #[Value.ref b] below meth c H locs cells slots (lw_Z below #[Value.ref b] s) (F0 m 1395 ls [])) : W p l e room_1 s m #[Value.ref b] below meth c H locs cells slots (lw_Z below #[Value.ref b] s) (F0 m 354 ls []) := by
  have hx := hC.1.1
  have hb := hC.1.2.1
  have hts := hC.1.2.2.2.2
  have hbA : ¬ (fun q : Nat => s.heap.size ≤ q) b := Nat.not_le.mpr hbl
  have hcs : cells ≤ room_1.cells ∧ slots ≤ room_1.slots := ⟨by show cells ≤ 600000; omega, by show slots ≤ 7302250; omega⟩
  obtain ⟨r, σ', μ', hfx, hfm, hRe⟩ := hSt_set σ μ (xs (x3 + (1 : Int32)).toNatClampNeg) (xs (x3 + (2 : Int32)).toNatClampNeg) (xs (x3 + (3 : Int32)).toNatClampNeg) hRe
  refine lv_aload_n hx hb dL_law_354 rfl (lv_at hl 1 rfl) ?_
  refine lv_aload_n hx hb dL_law_355 rfl (lv_at hl 0 rfl) ?_
  refine lv_iload_n hx hb dL_law_356 rfl (lv_at hl 3 rfl) ?_
  refine lv_iconst (v := 1) hx hb dL_law_357 (by decide) ?_
  refine lv_iadd hx hb dL_law_358 ?_
  refine va_sld hx hb hX hbl hbA hH.1.2.2.1 (sc_in (k := 1) hL j ej hj (by decide)) dL_law_359 ?_
  refine lv_aload_n hx hb dL_law_360 rfl (lv_at hl 0 rfl) ?_
  refine lv_iload_n hx hb dL_law_361 rfl (lv_at hl 3 rfl) ?_
  refine lv_iconst (v := 2) hx hb dL_law_362 (by decide) ?_
  refine lv_iadd hx hb dL_law_363 ?_
  refine va_sld hx hb hX hbl hbA hH.1.2.2.1 (sc_in (k := 2) hL j ej hj (by decide)) dL_law_364 ?_
  refine lv_aload_n hx hb dL_law_365 rfl (lv_at hl 0 rfl) ?_
  refine lv_iload_n hx hb dL_law_366 rfl (lv_at hl 3 rfl) ?_
  refine lv_iconst (v := 3) hx hb dL_law_367 (by decide) ?_
  refine lv_iadd hx hb dL_law_368 ?_
  refine va_sld hx hb hX hbl hbA hH.1.2.2.1 (sc_in (k := 3) hL j ej hj (by decide)) dL_law_369 ?_
  refine l_callX (As := [.int (xs (x3 + (1 : Int32)).toNatClampNeg), .int (xs (x3 + (2 : Int32)).toNatClampNeg), .int (xs (x3 + (3 : Int32)).toNatClampNeg)]) (rest := []) (cX_set l G σ (xs (x3 + (1 : Int32)).toNatClampNeg) (xs (x3 + (2 : Int32)).toNatClampNeg) (xs (x3 + (3 : Int32)).toNatClampNeg) hfx) hC hH hl (cwV 3 hts (gV wmL_31 wvX7_set) rfl rfl rfl hdX7_set ⟨Nat.le_of_ble_eq_true rfl, Nat.le_of_ble_eq_true rfl⟩) rfl rfl (Nat.le_of_ble_eq_true rfl) hcs dL_law_370 (fun H locs hH => ?_)
  refine lv_aload_n hx hb dL_law_373 rfl (lv_at hl 2 rfl) ?_
  refine lv_aload_n hx hb dL_law_374 rfl (lv_at hl 0 rfl) ?_
  refine lv_iload_n hx hb dL_law_375 rfl (lv_at hl 3 rfl) ?_
  refine lv_iconst (v := 1) hx hb dL_law_376 (by decide) ?_
  refine lv_iadd hx hb dL_law_377 ?_
  refine va_sld hx hb hX hbl hbA hH.1.2.2.1 (sc_in (k := 1) hL j ej hj (by decide)) dL_law_378 ?_
  refine lv_aload_n hx hb dL_law_379 rfl (lv_at hl 0 rfl) ?_
  refine lv_iload_n hx hb dL_law_380 rfl (lv_at hl 3 rfl) ?_
  refine lv_iconst (v := 2) hx hb dL_law_381 (by decide) ?_
  refine lv_iadd hx hb dL_law_382 ?_
  refine va_sld hx hb hX hbl hbA hH.1.2.2.1 (sc_in (k := 2) hL j ej hj (by decide)) dL_law_383 ?_
  refine lv_aload_n hx hb dL_law_384 rfl (lv_at hl 0 rfl) ?_
  refine lv_iload_n hx hb dL_law_385 rfl (lv_at hl 3 rfl) ?_
  refine lv_iconst (v := 3) hx hb dL_law_386 (by decide) ?_
  refine lv_iadd hx hb dL_law_387 ?_
  refine va_sld hx hb hX hbl hbA hH.1.2.2.1 (sc_in (k := 3) hL j ej hj (by decide)) dL_law_388 ?_
  refine l_callM (As := [.int (xs (x3 + (1 : Int32)).toNatClampNeg), .int (xs (x3 + (2 : Int32)).toNatClampNeg), .int (xs (x3 + (3 : Int32)).toNatClampNeg)]) (rest := [.int r]) (cM_set l (xD G) (xK G 0) B μ (xs (x3 + (1 : Int32)).toNatClampNeg) (xs (x3 + (2 : Int32)).toNatClampNeg) (xs (x3 + (3 : Int32)).toNatClampNeg) hfm) hC hH hl (cwV 3 hts (gV wmL_34 wvX8_set) rfl rfl rfl hdX8_set ⟨Nat.le_of_ble_eq_true rfl, Nat.le_of_ble_eq_true rfl⟩) rfl rfl (Nat.le_of_ble_eq_true rfl) hcs dL_law_389 (fun H locs hH => ?_)
  refine lv_icmp_eq (tgt := 1395) hx hb dL_law_392 (by decide) (fun _ => ?_) (fun c9 => absurd rfl c9)
  exact hgo σ' μ' hRe cells slots (by omega) (by omega) H locs ls hH hl

set_option maxHeartbeats 4000000 in
set_option maxRecDepth 100000 in
theorem law_puts {p : Program} {l : Launch} {e : Env} {s : State} {m : MethodId} {below : List Frame} {meth : Method} {c : Code} {b L : Nat} {xs : Nat → Int32} {G : XG} {B : Nat → Nat} {Re : XS → MS → Prop} (hL : L ≤ 3072) (hC : jC p s m #[Value.ref b] meth c cL_law 4 RL) (hX : va_X b L xs s s.heap) (hbl : b < s.heap.size) (hSt_puts : Ls_puts Re) (n j : Nat) (x3 : Int32) (ej : x3 = nI j) (hj : j + 6 ≤ L) (σ : XS) (μ : MS) (hRe : Re σ μ) (cells slots : Nat) (hc1 : cells + 3 * (n + 1) ≤ 600000) (hc2 : slots + 196 * (n + 1) ≤ 7302250) (H : Heap) (locs : List Loc) (ls : Array Slot) (hH : lH G B s (fun q : Nat => s.heap.size ≤ q) σ μ H locs) (hl : lv_has ls 4 [(0, .ref b), (1, .ref (xA G 0)), (2, .ref (B 0)), (3, .int x3)])
    (hgo : ∀ (σ : XS) (μ : MS), Re σ μ → ∀ (cells slots : Nat), cells + 3 * n ≤ 600000 → slots + 196 * n ≤ 7302250 → ∀ (H : Heap) (locs : List Loc) (ls : Array Slot), lH G B s (fun q : Nat => s.heap.size ≤ q) σ μ H locs → lv_has ls 4 [(0, .ref b), (1, .ref (xA G 0)), (2, .ref (B 0)), (3, .int x3)] → W p l e room_1 s m #[Value.ref b] below meth c H locs cells slots (lw_Z below #[Value.ref b] s) (F0 m 1395 ls [])) : W p l e room_1 s m #[Value.ref b] below meth c H locs cells slots (lw_Z below #[Value.ref b] s) (F0 m 397 ls []) := by
  have hx := hC.1.1
  have hb := hC.1.2.1
  have hts := hC.1.2.2.2.2
  have hbA : ¬ (fun q : Nat => s.heap.size ≤ q) b := Nat.not_le.mpr hbl
  have hcs : cells ≤ room_1.cells ∧ slots ≤ room_1.slots := ⟨by show cells ≤ 600000; omega, by show slots ≤ 7302250; omega⟩
  obtain ⟨r, σ', μ', hfx, hfm, hRe⟩ := hSt_puts σ μ (xs (x3 + (1 : Int32)).toNatClampNeg) (xs (x3 + (2 : Int32)).toNatClampNeg) hRe
  refine lv_aload_n hx hb dL_law_397 rfl (lv_at hl 1 rfl) ?_
  refine lv_aload_n hx hb dL_law_398 rfl (lv_at hl 0 rfl) ?_
  refine lv_iload_n hx hb dL_law_399 rfl (lv_at hl 3 rfl) ?_
  refine lv_iconst (v := 1) hx hb dL_law_400 (by decide) ?_
  refine lv_iadd hx hb dL_law_401 ?_
  refine va_sld hx hb hX hbl hbA hH.1.2.2.1 (sc_in (k := 1) hL j ej hj (by decide)) dL_law_402 ?_
  refine lv_aload_n hx hb dL_law_403 rfl (lv_at hl 0 rfl) ?_
  refine lv_iload_n hx hb dL_law_404 rfl (lv_at hl 3 rfl) ?_
  refine lv_iconst (v := 2) hx hb dL_law_405 (by decide) ?_
  refine lv_iadd hx hb dL_law_406 ?_
  refine va_sld hx hb hX hbl hbA hH.1.2.2.1 (sc_in (k := 2) hL j ej hj (by decide)) dL_law_407 ?_
  refine l_callX (As := [.int (xs (x3 + (1 : Int32)).toNatClampNeg), .int (xs (x3 + (2 : Int32)).toNatClampNeg)]) (rest := []) (cX_puts l G σ (xs (x3 + (1 : Int32)).toNatClampNeg) (xs (x3 + (2 : Int32)).toNatClampNeg) hfx) hC hH hl (cwV 2 hts (gV wmL_35 wvX7_puts) rfl rfl rfl hdX7_puts ⟨Nat.le_of_ble_eq_true rfl, Nat.le_of_ble_eq_true rfl⟩) rfl rfl (Nat.le_of_ble_eq_true rfl) hcs dL_law_408 (fun H locs hH => ?_)
  refine lv_aload_n hx hb dL_law_411 rfl (lv_at hl 2 rfl) ?_
  refine lv_aload_n hx hb dL_law_412 rfl (lv_at hl 0 rfl) ?_
  refine lv_iload_n hx hb dL_law_413 rfl (lv_at hl 3 rfl) ?_
  refine lv_iconst (v := 1) hx hb dL_law_414 (by decide) ?_
  refine lv_iadd hx hb dL_law_415 ?_
  refine va_sld hx hb hX hbl hbA hH.1.2.2.1 (sc_in (k := 1) hL j ej hj (by decide)) dL_law_416 ?_
  refine lv_aload_n hx hb dL_law_417 rfl (lv_at hl 0 rfl) ?_
  refine lv_iload_n hx hb dL_law_418 rfl (lv_at hl 3 rfl) ?_
  refine lv_iconst (v := 2) hx hb dL_law_419 (by decide) ?_
  refine lv_iadd hx hb dL_law_420 ?_
  refine va_sld hx hb hX hbl hbA hH.1.2.2.1 (sc_in (k := 2) hL j ej hj (by decide)) dL_law_421 ?_
  refine l_callM (As := [.int (xs (x3 + (1 : Int32)).toNatClampNeg), .int (xs (x3 + (2 : Int32)).toNatClampNeg)]) (rest := [.int r]) (cM_puts l (xD G) (xK G 0) B μ (xs (x3 + (1 : Int32)).toNatClampNeg) (xs (x3 + (2 : Int32)).toNatClampNeg) hfm) hC hH hl (cwV 2 hts (gV wmL_38 wvX8_puts) rfl rfl rfl hdX8_puts ⟨Nat.le_of_ble_eq_true rfl, Nat.le_of_ble_eq_true rfl⟩) rfl rfl (Nat.le_of_ble_eq_true rfl) hcs dL_law_422 (fun H locs hH => ?_)
  refine lv_icmp_eq (tgt := 1395) hx hb dL_law_425 (by decide) (fun _ => ?_) (fun c9 => absurd rfl c9)
  exact hgo σ' μ' hRe cells slots (by omega) (by omega) H locs ls hH hl

set_option maxHeartbeats 4000000 in
set_option maxRecDepth 100000 in
theorem law_at {p : Program} {l : Launch} {e : Env} {s : State} {m : MethodId} {below : List Frame} {meth : Method} {c : Code} {b L : Nat} {xs : Nat → Int32} {G : XG} {B : Nat → Nat} {Re : XS → MS → Prop} (hL : L ≤ 3072) (hC : jC p s m #[Value.ref b] meth c cL_law 4 RL) (hX : va_X b L xs s s.heap) (hbl : b < s.heap.size) (hSt_at : Ls_at Re) (n j : Nat) (x3 : Int32) (ej : x3 = nI j) (hj : j + 6 ≤ L) (σ : XS) (μ : MS) (hRe : Re σ μ) (cells slots : Nat) (hc1 : cells + 3 * (n + 1) ≤ 600000) (hc2 : slots + 196 * (n + 1) ≤ 7302250) (H : Heap) (locs : List Loc) (ls : Array Slot) (hH : lH G B s (fun q : Nat => s.heap.size ≤ q) σ μ H locs) (hl : lv_has ls 4 [(0, .ref b), (1, .ref (xA G 0)), (2, .ref (B 0)), (3, .int x3)])
    (hgo : ∀ (σ : XS) (μ : MS), Re σ μ → ∀ (cells slots : Nat), cells + 3 * n ≤ 600000 → slots + 196 * n ≤ 7302250 → ∀ (H : Heap) (locs : List Loc) (ls : Array Slot), lH G B s (fun q : Nat => s.heap.size ≤ q) σ μ H locs → lv_has ls 4 [(0, .ref b), (1, .ref (xA G 0)), (2, .ref (B 0)), (3, .int x3)] → W p l e room_1 s m #[Value.ref b] below meth c H locs cells slots (lw_Z below #[Value.ref b] s) (F0 m 1395 ls [])) : W p l e room_1 s m #[Value.ref b] below meth c H locs cells slots (lw_Z below #[Value.ref b] s) (F0 m 430 ls []) := by
  have hx := hC.1.1
  have hb := hC.1.2.1
  have hts := hC.1.2.2.2.2
  have hbA : ¬ (fun q : Nat => s.heap.size ≤ q) b := Nat.not_le.mpr hbl
  have hcs : cells ≤ room_1.cells ∧ slots ≤ room_1.slots := ⟨by show cells ≤ 600000; omega, by show slots ≤ 7302250; omega⟩
  obtain ⟨r, hfx, hfm⟩ := hSt_at σ μ (xs (x3 + (1 : Int32)).toNatClampNeg) hRe
  refine lv_aload_n hx hb dL_law_430 rfl (lv_at hl 1 rfl) ?_
  refine lv_aload_n hx hb dL_law_431 rfl (lv_at hl 0 rfl) ?_
  refine lv_iload_n hx hb dL_law_432 rfl (lv_at hl 3 rfl) ?_
  refine lv_iconst (v := 1) hx hb dL_law_433 (by decide) ?_
  refine lv_iadd hx hb dL_law_434 ?_
  refine va_sld hx hb hX hbl hbA hH.1.2.2.1 (sc_in (k := 1) hL j ej hj (by decide)) dL_law_435 ?_
  refine l_callX (As := [.int (xs (x3 + (1 : Int32)).toNatClampNeg)]) (rest := []) (cX_at l G σ (xs (x3 + (1 : Int32)).toNatClampNeg) hfx) hC hH hl (cwV 1 hts (gV wmL_39 wvX7_at) rfl rfl rfl hdX7_at ⟨Nat.le_of_ble_eq_true rfl, Nat.le_of_ble_eq_true rfl⟩) rfl rfl (Nat.le_of_ble_eq_true rfl) hcs dL_law_436 (fun H locs hH => ?_)
  refine lv_aload_n hx hb dL_law_439 rfl (lv_at hl 2 rfl) ?_
  refine lv_aload_n hx hb dL_law_440 rfl (lv_at hl 0 rfl) ?_
  refine lv_iload_n hx hb dL_law_441 rfl (lv_at hl 3 rfl) ?_
  refine lv_iconst (v := 1) hx hb dL_law_442 (by decide) ?_
  refine lv_iadd hx hb dL_law_443 ?_
  refine va_sld hx hb hX hbl hbA hH.1.2.2.1 (sc_in (k := 1) hL j ej hj (by decide)) dL_law_444 ?_
  refine l_callM (As := [.int (xs (x3 + (1 : Int32)).toNatClampNeg)]) (rest := [.int r]) (cM_at l (xD G) (xK G 0) B μ (xs (x3 + (1 : Int32)).toNatClampNeg) hfm) hC hH hl (cwV 1 hts (gV wmL_43 wvX8_at) rfl rfl rfl hdX8_at ⟨Nat.le_of_ble_eq_true rfl, Nat.le_of_ble_eq_true rfl⟩) rfl rfl (Nat.le_of_ble_eq_true rfl) hcs dL_law_445 (fun H locs hH => ?_)
  refine lv_icmp_eq (tgt := 1395) hx hb dL_law_448 (by decide) (fun _ => ?_) (fun c9 => absurd rfl c9)
  exact hgo σ μ hRe cells slots (by omega) (by omega) H locs ls hH hl

set_option maxHeartbeats 4000000 in
set_option maxRecDepth 100000 in
theorem law_halt {p : Program} {l : Launch} {e : Env} {s : State} {m : MethodId} {below : List Frame} {meth : Method} {c : Code} {b L : Nat} {xs : Nat → Int32} {G : XG} {B : Nat → Nat} {Re : XS → MS → Prop} (hL : L ≤ 3072) (hC : jC p s m #[Value.ref b] meth c cL_law 4 RL) (hX : va_X b L xs s s.heap) (hbl : b < s.heap.size) (hSt_halt : Ls_halt Re) (n j : Nat) (x3 : Int32) (ej : x3 = nI j) (hj : j + 6 ≤ L) (σ : XS) (μ : MS) (hRe : Re σ μ) (cells slots : Nat) (hc1 : cells + 3 * (n + 1) ≤ 600000) (hc2 : slots + 196 * (n + 1) ≤ 7302250) (H : Heap) (locs : List Loc) (ls : Array Slot) (hH : lH G B s (fun q : Nat => s.heap.size ≤ q) σ μ H locs) (hl : lv_has ls 4 [(0, .ref b), (1, .ref (xA G 0)), (2, .ref (B 0)), (3, .int x3)])
    (hgo : ∀ (σ : XS) (μ : MS), Re σ μ → ∀ (cells slots : Nat), cells + 3 * n ≤ 600000 → slots + 196 * n ≤ 7302250 → ∀ (H : Heap) (locs : List Loc) (ls : Array Slot), lH G B s (fun q : Nat => s.heap.size ≤ q) σ μ H locs → lv_has ls 4 [(0, .ref b), (1, .ref (xA G 0)), (2, .ref (B 0)), (3, .int x3)] → W p l e room_1 s m #[Value.ref b] below meth c H locs cells slots (lw_Z below #[Value.ref b] s) (F0 m 1395 ls [])) : W p l e room_1 s m #[Value.ref b] below meth c H locs cells slots (lw_Z below #[Value.ref b] s) (F0 m 453 ls []) := by
  have hx := hC.1.1
  have hb := hC.1.2.1
  have hts := hC.1.2.2.2.2
  have hbA : ¬ (fun q : Nat => s.heap.size ≤ q) b := Nat.not_le.mpr hbl
  have hcs : cells ≤ room_1.cells ∧ slots ≤ room_1.slots := ⟨by show cells ≤ 600000; omega, by show slots ≤ 7302250; omega⟩
  obtain ⟨r, σ', μ', hfx, hfm, hRe⟩ := hSt_halt σ μ hRe
  refine lv_aload_n hx hb dL_law_453 rfl (lv_at hl 1 rfl) ?_
  refine l_callX (As := []) (rest := []) (cX_halt l G σ hfx) hC hH hl (cwV 0 hts (gV wmL_44 wvX7_halt) rfl rfl rfl hdX7_halt ⟨Nat.le_of_ble_eq_true rfl, Nat.le_of_ble_eq_true rfl⟩) rfl rfl (Nat.le_of_ble_eq_true rfl) hcs dL_law_454 (fun H locs hH => ?_)
  refine lv_aload_n hx hb dL_law_457 rfl (lv_at hl 2 rfl) ?_
  refine l_callM (As := []) (rest := [.int r]) (cM_halt l (xD G) (xK G 0) B μ hfm) hC hH hl (cwV 0 hts (gV wmL_48 wvX8_halt) rfl rfl rfl hdX8_halt ⟨Nat.le_of_ble_eq_true rfl, Nat.le_of_ble_eq_true rfl⟩) rfl rfl (Nat.le_of_ble_eq_true rfl) hcs dL_law_458 (fun H locs hH => ?_)
  refine lv_icmp_eq (tgt := 1395) hx hb dL_law_461 (by decide) (fun _ => ?_) (fun c9 => absurd rfl c9)
  exact hgo σ' μ' hRe cells slots (by omega) (by omega) H locs ls hH hl

set_option maxHeartbeats 4000000 in
set_option maxRecDepth 100000 in
theorem law_bump {p : Program} {l : Launch} {e : Env} {s : State} {m : MethodId} {below : List Frame} {meth : Method} {c : Code} {b L : Nat} {xs : Nat → Int32} {G : XG} {B : Nat → Nat} {Re : XS → MS → Prop} (hL : L ≤ 3072) (hC : jC p s m #[Value.ref b] meth c cL_law 4 RL) (hX : va_X b L xs s s.heap) (hbl : b < s.heap.size) (hSt_bump : Ls_bump Re) (n j : Nat) (x3 : Int32) (ej : x3 = nI j) (hj : j + 6 ≤ L) (σ : XS) (μ : MS) (hRe : Re σ μ) (cells slots : Nat) (hc1 : cells + 3 * (n + 1) ≤ 600000) (hc2 : slots + 196 * (n + 1) ≤ 7302250) (H : Heap) (locs : List Loc) (ls : Array Slot) (hH : lH G B s (fun q : Nat => s.heap.size ≤ q) σ μ H locs) (hl : lv_has ls 4 [(0, .ref b), (1, .ref (xA G 0)), (2, .ref (B 0)), (3, .int x3)])
    (hgo : ∀ (σ : XS) (μ : MS), Re σ μ → ∀ (cells slots : Nat), cells + 3 * n ≤ 600000 → slots + 196 * n ≤ 7302250 → ∀ (H : Heap) (locs : List Loc) (ls : Array Slot), lH G B s (fun q : Nat => s.heap.size ≤ q) σ μ H locs → lv_has ls 4 [(0, .ref b), (1, .ref (xA G 0)), (2, .ref (B 0)), (3, .int x3)] → W p l e room_1 s m #[Value.ref b] below meth c H locs cells slots (lw_Z below #[Value.ref b] s) (F0 m 1395 ls [])) : W p l e room_1 s m #[Value.ref b] below meth c H locs cells slots (lw_Z below #[Value.ref b] s) (F0 m 466 ls []) := by
  have hx := hC.1.1
  have hb := hC.1.2.1
  have hts := hC.1.2.2.2.2
  have hbA : ¬ (fun q : Nat => s.heap.size ≤ q) b := Nat.not_le.mpr hbl
  have hcs : cells ≤ room_1.cells ∧ slots ≤ room_1.slots := ⟨by show cells ≤ 600000; omega, by show slots ≤ 7302250; omega⟩
  obtain ⟨r, σ', μ', hfx, hfm, hRe⟩ := hSt_bump σ μ (xs (x3 + (1 : Int32)).toNatClampNeg) hRe
  refine lv_aload_n hx hb dL_law_466 rfl (lv_at hl 1 rfl) ?_
  refine lv_aload_n hx hb dL_law_467 rfl (lv_at hl 0 rfl) ?_
  refine lv_iload_n hx hb dL_law_468 rfl (lv_at hl 3 rfl) ?_
  refine lv_iconst (v := 1) hx hb dL_law_469 (by decide) ?_
  refine lv_iadd hx hb dL_law_470 ?_
  refine va_sld hx hb hX hbl hbA hH.1.2.2.1 (sc_in (k := 1) hL j ej hj (by decide)) dL_law_471 ?_
  refine l_callX (As := [.int (xs (x3 + (1 : Int32)).toNatClampNeg)]) (rest := []) (cX_bump l G σ (xs (x3 + (1 : Int32)).toNatClampNeg) hfx) hC hH hl (cwV 1 hts (gV wmL_49 wvX7_bump) rfl rfl rfl hdX7_bump ⟨Nat.le_of_ble_eq_true rfl, Nat.le_of_ble_eq_true rfl⟩) rfl rfl (Nat.le_of_ble_eq_true rfl) hcs dL_law_472 (fun H locs hH => ?_)
  refine lv_aload_n hx hb dL_law_475 rfl (lv_at hl 2 rfl) ?_
  refine lv_aload_n hx hb dL_law_476 rfl (lv_at hl 0 rfl) ?_
  refine lv_iload_n hx hb dL_law_477 rfl (lv_at hl 3 rfl) ?_
  refine lv_iconst (v := 1) hx hb dL_law_478 (by decide) ?_
  refine lv_iadd hx hb dL_law_479 ?_
  refine va_sld hx hb hX hbl hbA hH.1.2.2.1 (sc_in (k := 1) hL j ej hj (by decide)) dL_law_480 ?_
  refine l_callM (As := [.int (xs (x3 + (1 : Int32)).toNatClampNeg)]) (rest := [.int r]) (cM_bump l (xD G) (xK G 0) B μ (xs (x3 + (1 : Int32)).toNatClampNeg) hfm) hC hH hl (cwV 1 hts (gV wmL_52 wvX8_bump) rfl rfl rfl hdX8_bump ⟨Nat.le_of_ble_eq_true rfl, Nat.le_of_ble_eq_true rfl⟩) rfl rfl (Nat.le_of_ble_eq_true rfl) hcs dL_law_481 (fun H locs hH => ?_)
  refine lv_icmp_eq (tgt := 1395) hx hb dL_law_484 (by decide) (fun _ => ?_) (fun c9 => absurd rfl c9)
  exact hgo σ' μ' hRe cells slots (by omega) (by omega) H locs ls hH hl

set_option maxHeartbeats 4000000 in
set_option maxRecDepth 100000 in
theorem law_deal {p : Program} {l : Launch} {e : Env} {s : State} {m : MethodId} {below : List Frame} {meth : Method} {c : Code} {b L : Nat} {xs : Nat → Int32} {G : XG} {B : Nat → Nat} {Re : XS → MS → Prop} (hL : L ≤ 3072) (hC : jC p s m #[Value.ref b] meth c cL_law 4 RL) (hX : va_X b L xs s s.heap) (hbl : b < s.heap.size) (hSt_deal : Ls_deal Re) (n j : Nat) (x3 : Int32) (ej : x3 = nI j) (hj : j + 6 ≤ L) (σ : XS) (μ : MS) (hRe : Re σ μ) (cells slots : Nat) (hc1 : cells + 3 * (n + 1) ≤ 600000) (hc2 : slots + 196 * (n + 1) ≤ 7302250) (H : Heap) (locs : List Loc) (ls : Array Slot) (hH : lH G B s (fun q : Nat => s.heap.size ≤ q) σ μ H locs) (hl : lv_has ls 4 [(0, .ref b), (1, .ref (xA G 0)), (2, .ref (B 0)), (3, .int x3)])
    (hgo : ∀ (σ : XS) (μ : MS), Re σ μ → ∀ (cells slots : Nat), cells + 3 * n ≤ 600000 → slots + 196 * n ≤ 7302250 → ∀ (H : Heap) (locs : List Loc) (ls : Array Slot), lH G B s (fun q : Nat => s.heap.size ≤ q) σ μ H locs → lv_has ls 4 [(0, .ref b), (1, .ref (xA G 0)), (2, .ref (B 0)), (3, .int x3)] → W p l e room_1 s m #[Value.ref b] below meth c H locs cells slots (lw_Z below #[Value.ref b] s) (F0 m 1395 ls [])) : W p l e room_1 s m #[Value.ref b] below meth c H locs cells slots (lw_Z below #[Value.ref b] s) (F0 m 489 ls []) := by
  have hx := hC.1.1
  have hb := hC.1.2.1
  have hts := hC.1.2.2.2.2
  have hbA : ¬ (fun q : Nat => s.heap.size ≤ q) b := Nat.not_le.mpr hbl
  have hcs : cells ≤ room_1.cells ∧ slots ≤ room_1.slots := ⟨by show cells ≤ 600000; omega, by show slots ≤ 7302250; omega⟩
  obtain ⟨r, σ', μ', hfx, hfm, hRe⟩ := hSt_deal σ μ (xs (x3 + (1 : Int32)).toNatClampNeg) hRe
  refine lv_aload_n hx hb dL_law_489 rfl (lv_at hl 1 rfl) ?_
  refine lv_aload_n hx hb dL_law_490 rfl (lv_at hl 0 rfl) ?_
  refine lv_iload_n hx hb dL_law_491 rfl (lv_at hl 3 rfl) ?_
  refine lv_iconst (v := 1) hx hb dL_law_492 (by decide) ?_
  refine lv_iadd hx hb dL_law_493 ?_
  refine va_sld hx hb hX hbl hbA hH.1.2.2.1 (sc_in (k := 1) hL j ej hj (by decide)) dL_law_494 ?_
  refine l_callX (As := [.int (xs (x3 + (1 : Int32)).toNatClampNeg)]) (rest := []) (cX_deal l G σ (xs (x3 + (1 : Int32)).toNatClampNeg) hfx) hC hH hl (cwV 1 hts (gV wmL_53 wvX7_deal) rfl rfl rfl hdX7_deal ⟨Nat.le_of_ble_eq_true rfl, Nat.le_of_ble_eq_true rfl⟩) rfl rfl (Nat.le_of_ble_eq_true rfl) hcs dL_law_495 (fun H locs hH => ?_)
  refine lv_aload_n hx hb dL_law_498 rfl (lv_at hl 2 rfl) ?_
  refine lv_aload_n hx hb dL_law_499 rfl (lv_at hl 0 rfl) ?_
  refine lv_iload_n hx hb dL_law_500 rfl (lv_at hl 3 rfl) ?_
  refine lv_iconst (v := 1) hx hb dL_law_501 (by decide) ?_
  refine lv_iadd hx hb dL_law_502 ?_
  refine va_sld hx hb hX hbl hbA hH.1.2.2.1 (sc_in (k := 1) hL j ej hj (by decide)) dL_law_503 ?_
  refine l_callM (As := [.int (xs (x3 + (1 : Int32)).toNatClampNeg)]) (rest := [.int r]) (cM_deal l (xD G) (xK G 0) B μ (xs (x3 + (1 : Int32)).toNatClampNeg) hfm) hC hH hl (cwV 1 hts (gV wmL_56 wvX8_deal) rfl rfl rfl hdX8_deal ⟨Nat.le_of_ble_eq_true rfl, Nat.le_of_ble_eq_true rfl⟩) rfl rfl (Nat.le_of_ble_eq_true rfl) hcs dL_law_504 (fun H locs hH => ?_)
  refine lv_icmp_eq (tgt := 1395) hx hb dL_law_507 (by decide) (fun _ => ?_) (fun c9 => absurd rfl c9)
  exact hgo σ' μ' hRe cells slots (by omega) (by omega) H locs ls hH hl

set_option maxHeartbeats 4000000 in
set_option maxRecDepth 100000 in
theorem law_seed {p : Program} {l : Launch} {e : Env} {s : State} {m : MethodId} {below : List Frame} {meth : Method} {c : Code} {b L : Nat} {xs : Nat → Int32} {G : XG} {B : Nat → Nat} {Re : XS → MS → Prop} (hL : L ≤ 3072) (hC : jC p s m #[Value.ref b] meth c cL_law 4 RL) (hX : va_X b L xs s s.heap) (hbl : b < s.heap.size) (hSt_seed : Ls_seed Re) (n j : Nat) (x3 : Int32) (ej : x3 = nI j) (hj : j + 6 ≤ L) (σ : XS) (μ : MS) (hRe : Re σ μ) (cells slots : Nat) (hc1 : cells + 3 * (n + 1) ≤ 600000) (hc2 : slots + 196 * (n + 1) ≤ 7302250) (H : Heap) (locs : List Loc) (ls : Array Slot) (hH : lH G B s (fun q : Nat => s.heap.size ≤ q) σ μ H locs) (hl : lv_has ls 4 [(0, .ref b), (1, .ref (xA G 0)), (2, .ref (B 0)), (3, .int x3)])
    (hgo : ∀ (σ : XS) (μ : MS), Re σ μ → ∀ (cells slots : Nat), cells + 3 * n ≤ 600000 → slots + 196 * n ≤ 7302250 → ∀ (H : Heap) (locs : List Loc) (ls : Array Slot), lH G B s (fun q : Nat => s.heap.size ≤ q) σ μ H locs → lv_has ls 4 [(0, .ref b), (1, .ref (xA G 0)), (2, .ref (B 0)), (3, .int x3)] → W p l e room_1 s m #[Value.ref b] below meth c H locs cells slots (lw_Z below #[Value.ref b] s) (F0 m 1395 ls [])) : W p l e room_1 s m #[Value.ref b] below meth c H locs cells slots (lw_Z below #[Value.ref b] s) (F0 m 512 ls []) := by
  have hx := hC.1.1
  have hb := hC.1.2.1
  have hts := hC.1.2.2.2.2
  have hbA : ¬ (fun q : Nat => s.heap.size ≤ q) b := Nat.not_le.mpr hbl
  have hcs : cells ≤ room_1.cells ∧ slots ≤ room_1.slots := ⟨by show cells ≤ 600000; omega, by show slots ≤ 7302250; omega⟩
  obtain ⟨r, σ', μ', hfx, hfm, hRe⟩ := hSt_seed σ μ (xs (x3 + (1 : Int32)).toNatClampNeg) hRe
  refine lv_aload_n hx hb dL_law_512 rfl (lv_at hl 1 rfl) ?_
  refine lv_aload_n hx hb dL_law_513 rfl (lv_at hl 0 rfl) ?_
  refine lv_iload_n hx hb dL_law_514 rfl (lv_at hl 3 rfl) ?_
  refine lv_iconst (v := 1) hx hb dL_law_515 (by decide) ?_
  refine lv_iadd hx hb dL_law_516 ?_
  refine va_sld hx hb hX hbl hbA hH.1.2.2.1 (sc_in (k := 1) hL j ej hj (by decide)) dL_law_517 ?_
  refine l_callX (As := [.int (xs (x3 + (1 : Int32)).toNatClampNeg)]) (rest := []) (cX_seed l G σ (xs (x3 + (1 : Int32)).toNatClampNeg) hfx) hC hH hl (cwV 1 hts (gV wmL_57 wvX7_seed) rfl rfl rfl hdX7_seed ⟨Nat.le_of_ble_eq_true rfl, Nat.le_of_ble_eq_true rfl⟩) rfl rfl (Nat.le_of_ble_eq_true rfl) hcs dL_law_518 (fun H locs hH => ?_)
  refine lv_aload_n hx hb dL_law_521 rfl (lv_at hl 2 rfl) ?_
  refine lv_aload_n hx hb dL_law_522 rfl (lv_at hl 0 rfl) ?_
  refine lv_iload_n hx hb dL_law_523 rfl (lv_at hl 3 rfl) ?_
  refine lv_iconst (v := 1) hx hb dL_law_524 (by decide) ?_
  refine lv_iadd hx hb dL_law_525 ?_
  refine va_sld hx hb hX hbl hbA hH.1.2.2.1 (sc_in (k := 1) hL j ej hj (by decide)) dL_law_526 ?_
  refine l_callM (As := [.int (xs (x3 + (1 : Int32)).toNatClampNeg)]) (rest := [.int r]) (cM_seed l (xD G) (xK G 0) B μ (xs (x3 + (1 : Int32)).toNatClampNeg) hfm) hC hH hl (cwV 1 hts (gV wmL_60 wvX8_seed) rfl rfl rfl hdX8_seed ⟨Nat.le_of_ble_eq_true rfl, Nat.le_of_ble_eq_true rfl⟩) rfl rfl (Nat.le_of_ble_eq_true rfl) hcs dL_law_527 (fun H locs hH => ?_)
  refine lv_icmp_eq (tgt := 1395) hx hb dL_law_530 (by decide) (fun _ => ?_) (fun c9 => absurd rfl c9)
  exact hgo σ' μ' hRe cells slots (by omega) (by omega) H locs ls hH hl

set_option maxHeartbeats 4000000 in
set_option maxRecDepth 100000 in
theorem law_jolts {p : Program} {l : Launch} {e : Env} {s : State} {m : MethodId} {below : List Frame} {meth : Method} {c : Code} {b L : Nat} {xs : Nat → Int32} {G : XG} {B : Nat → Nat} {Re : XS → MS → Prop} (hL : L ≤ 3072) (hC : jC p s m #[Value.ref b] meth c cL_law 4 RL) (hX : va_X b L xs s s.heap) (hbl : b < s.heap.size) (hSt_jolts : Ls_jolts Re) (n j : Nat) (x3 : Int32) (ej : x3 = nI j) (hj : j + 6 ≤ L) (σ : XS) (μ : MS) (hRe : Re σ μ) (cells slots : Nat) (hc1 : cells + 3 * (n + 1) ≤ 600000) (hc2 : slots + 196 * (n + 1) ≤ 7302250) (H : Heap) (locs : List Loc) (ls : Array Slot) (hH : lH G B s (fun q : Nat => s.heap.size ≤ q) σ μ H locs) (hl : lv_has ls 4 [(0, .ref b), (1, .ref (xA G 0)), (2, .ref (B 0)), (3, .int x3)])
    (hgo : ∀ (σ : XS) (μ : MS), Re σ μ → ∀ (cells slots : Nat), cells + 3 * n ≤ 600000 → slots + 196 * n ≤ 7302250 → ∀ (H : Heap) (locs : List Loc) (ls : Array Slot), lH G B s (fun q : Nat => s.heap.size ≤ q) σ μ H locs → lv_has ls 4 [(0, .ref b), (1, .ref (xA G 0)), (2, .ref (B 0)), (3, .int x3)] → W p l e room_1 s m #[Value.ref b] below meth c H locs cells slots (lw_Z below #[Value.ref b] s) (F0 m 1395 ls [])) : W p l e room_1 s m #[Value.ref b] below meth c H locs cells slots (lw_Z below #[Value.ref b] s) (F0 m 535 ls []) := by
  have hx := hC.1.1
  have hb := hC.1.2.1
  have hts := hC.1.2.2.2.2
  have hbA : ¬ (fun q : Nat => s.heap.size ≤ q) b := Nat.not_le.mpr hbl
  have hcs : cells ≤ room_1.cells ∧ slots ≤ room_1.slots := ⟨by show cells ≤ 600000; omega, by show slots ≤ 7302250; omega⟩
  obtain ⟨r, σ', μ', hfx, hfm, hRe⟩ := hSt_jolts σ μ (xs (x3 + (1 : Int32)).toNatClampNeg) hRe
  refine lv_aload_n hx hb dL_law_535 rfl (lv_at hl 1 rfl) ?_
  refine lv_aload_n hx hb dL_law_536 rfl (lv_at hl 0 rfl) ?_
  refine lv_iload_n hx hb dL_law_537 rfl (lv_at hl 3 rfl) ?_
  refine lv_iconst (v := 1) hx hb dL_law_538 (by decide) ?_
  refine lv_iadd hx hb dL_law_539 ?_
  refine va_sld hx hb hX hbl hbA hH.1.2.2.1 (sc_in (k := 1) hL j ej hj (by decide)) dL_law_540 ?_
  refine l_callX (As := [.int (xs (x3 + (1 : Int32)).toNatClampNeg)]) (rest := []) (cX_jolts l G σ (xs (x3 + (1 : Int32)).toNatClampNeg) hfx) hC hH hl (cwV 1 hts (gV wmL_61 wvX7_jolts) rfl rfl rfl hdX7_jolts ⟨Nat.le_of_ble_eq_true rfl, Nat.le_of_ble_eq_true rfl⟩) rfl rfl (Nat.le_of_ble_eq_true rfl) hcs dL_law_541 (fun H locs hH => ?_)
  refine lv_aload_n hx hb dL_law_544 rfl (lv_at hl 2 rfl) ?_
  refine lv_aload_n hx hb dL_law_545 rfl (lv_at hl 0 rfl) ?_
  refine lv_iload_n hx hb dL_law_546 rfl (lv_at hl 3 rfl) ?_
  refine lv_iconst (v := 1) hx hb dL_law_547 (by decide) ?_
  refine lv_iadd hx hb dL_law_548 ?_
  refine va_sld hx hb hX hbl hbA hH.1.2.2.1 (sc_in (k := 1) hL j ej hj (by decide)) dL_law_549 ?_
  refine l_callM (As := [.int (xs (x3 + (1 : Int32)).toNatClampNeg)]) (rest := [.int r]) (cM_jolts l (xD G) (xK G 0) B μ (xs (x3 + (1 : Int32)).toNatClampNeg) hfm) hC hH hl (cwV 1 hts (gV wmL_64 wvX8_jolts) rfl rfl rfl hdX8_jolts ⟨Nat.le_of_ble_eq_true rfl, Nat.le_of_ble_eq_true rfl⟩) rfl rfl (Nat.le_of_ble_eq_true rfl) hcs dL_law_550 (fun H locs hH => ?_)
  refine lv_icmp_eq (tgt := 1395) hx hb dL_law_553 (by decide) (fun _ => ?_) (fun c9 => absurd rfl c9)
  exact hgo σ' μ' hRe cells slots (by omega) (by omega) H locs ls hH hl

set_option maxHeartbeats 4000000 in
set_option maxRecDepth 100000 in
theorem law_bag {p : Program} {l : Launch} {e : Env} {s : State} {m : MethodId} {below : List Frame} {meth : Method} {c : Code} {b L : Nat} {xs : Nat → Int32} {G : XG} {B : Nat → Nat} {Re : XS → MS → Prop} (hL : L ≤ 3072) (hC : jC p s m #[Value.ref b] meth c cL_law 4 RL) (hX : va_X b L xs s s.heap) (hbl : b < s.heap.size) (hSt_bag : Ls_bag Re) (n j : Nat) (x3 : Int32) (ej : x3 = nI j) (hj : j + 6 ≤ L) (σ : XS) (μ : MS) (hRe : Re σ μ) (cells slots : Nat) (hc1 : cells + 3 * (n + 1) ≤ 600000) (hc2 : slots + 196 * (n + 1) ≤ 7302250) (H : Heap) (locs : List Loc) (ls : Array Slot) (hH : lH G B s (fun q : Nat => s.heap.size ≤ q) σ μ H locs) (hl : lv_has ls 4 [(0, .ref b), (1, .ref (xA G 0)), (2, .ref (B 0)), (3, .int x3)])
    (hgo : ∀ (σ : XS) (μ : MS), Re σ μ → ∀ (cells slots : Nat), cells + 3 * n ≤ 600000 → slots + 196 * n ≤ 7302250 → ∀ (H : Heap) (locs : List Loc) (ls : Array Slot), lH G B s (fun q : Nat => s.heap.size ≤ q) σ μ H locs → lv_has ls 4 [(0, .ref b), (1, .ref (xA G 0)), (2, .ref (B 0)), (3, .int x3)] → W p l e room_1 s m #[Value.ref b] below meth c H locs cells slots (lw_Z below #[Value.ref b] s) (F0 m 1395 ls [])) : W p l e room_1 s m #[Value.ref b] below meth c H locs cells slots (lw_Z below #[Value.ref b] s) (F0 m 558 ls []) := by
  have hx := hC.1.1
  have hb := hC.1.2.1
  have hts := hC.1.2.2.2.2
  have hbA : ¬ (fun q : Nat => s.heap.size ≤ q) b := Nat.not_le.mpr hbl
  have hcs : cells ≤ room_1.cells ∧ slots ≤ room_1.slots := ⟨by show cells ≤ 600000; omega, by show slots ≤ 7302250; omega⟩
  obtain ⟨r, μ', hfx, hfm, hRe⟩ := hSt_bag σ μ (xs (x3 + (1 : Int32)).toNatClampNeg) hRe
  refine lv_aload_n hx hb dL_law_558 rfl (lv_at hl 1 rfl) ?_
  refine lv_aload_n hx hb dL_law_559 rfl (lv_at hl 0 rfl) ?_
  refine lv_iload_n hx hb dL_law_560 rfl (lv_at hl 3 rfl) ?_
  refine lv_iconst (v := 1) hx hb dL_law_561 (by decide) ?_
  refine lv_iadd hx hb dL_law_562 ?_
  refine va_sld hx hb hX hbl hbA hH.1.2.2.1 (sc_in (k := 1) hL j ej hj (by decide)) dL_law_563 ?_
  refine l_callX (As := [.int (xs (x3 + (1 : Int32)).toNatClampNeg)]) (rest := []) (cX_bag l G σ (xs (x3 + (1 : Int32)).toNatClampNeg) hfx) hC hH hl (cwV 1 hts (gV wmL_65 wvX7_bag) rfl rfl rfl hdX7_bag ⟨Nat.le_of_ble_eq_true rfl, Nat.le_of_ble_eq_true rfl⟩) rfl rfl (Nat.le_of_ble_eq_true rfl) hcs dL_law_564 (fun H locs hH => ?_)
  refine lv_aload_n hx hb dL_law_567 rfl (lv_at hl 2 rfl) ?_
  refine lv_aload_n hx hb dL_law_568 rfl (lv_at hl 0 rfl) ?_
  refine lv_iload_n hx hb dL_law_569 rfl (lv_at hl 3 rfl) ?_
  refine lv_iconst (v := 1) hx hb dL_law_570 (by decide) ?_
  refine lv_iadd hx hb dL_law_571 ?_
  refine va_sld hx hb hX hbl hbA hH.1.2.2.1 (sc_in (k := 1) hL j ej hj (by decide)) dL_law_572 ?_
  refine l_callM (As := [.int (xs (x3 + (1 : Int32)).toNatClampNeg)]) (rest := [.int r]) (cM_bag l (xD G) (xK G 0) B μ (xs (x3 + (1 : Int32)).toNatClampNeg) hfm) hC hH hl (cwV 1 hts (gV wmL_68 wvX8_bag) rfl rfl rfl hdX8_bag ⟨Nat.le_of_ble_eq_true rfl, Nat.le_of_ble_eq_true rfl⟩) rfl rfl (Nat.le_of_ble_eq_true rfl) hcs dL_law_573 (fun H locs hH => ?_)
  refine lv_icmp_eq (tgt := 1395) hx hb dL_law_576 (by decide) (fun _ => ?_) (fun c9 => absurd rfl c9)
  exact hgo σ μ' hRe cells slots (by omega) (by omega) H locs ls hH hl

set_option maxHeartbeats 4000000 in
set_option maxRecDepth 100000 in
theorem law_behind {p : Program} {l : Launch} {e : Env} {s : State} {m : MethodId} {below : List Frame} {meth : Method} {c : Code} {b L : Nat} {xs : Nat → Int32} {G : XG} {B : Nat → Nat} {Re : XS → MS → Prop} (hL : L ≤ 3072) (hC : jC p s m #[Value.ref b] meth c cL_law 4 RL) (hX : va_X b L xs s s.heap) (hbl : b < s.heap.size) (hSt_behind : Ls_behind Re) (n j : Nat) (x3 : Int32) (ej : x3 = nI j) (hj : j + 6 ≤ L) (σ : XS) (μ : MS) (hRe : Re σ μ) (cells slots : Nat) (hc1 : cells + 3 * (n + 1) ≤ 600000) (hc2 : slots + 196 * (n + 1) ≤ 7302250) (H : Heap) (locs : List Loc) (ls : Array Slot) (hH : lH G B s (fun q : Nat => s.heap.size ≤ q) σ μ H locs) (hl : lv_has ls 4 [(0, .ref b), (1, .ref (xA G 0)), (2, .ref (B 0)), (3, .int x3)])
    (hgo : ∀ (σ : XS) (μ : MS), Re σ μ → ∀ (cells slots : Nat), cells + 3 * n ≤ 600000 → slots + 196 * n ≤ 7302250 → ∀ (H : Heap) (locs : List Loc) (ls : Array Slot), lH G B s (fun q : Nat => s.heap.size ≤ q) σ μ H locs → lv_has ls 4 [(0, .ref b), (1, .ref (xA G 0)), (2, .ref (B 0)), (3, .int x3)] → W p l e room_1 s m #[Value.ref b] below meth c H locs cells slots (lw_Z below #[Value.ref b] s) (F0 m 1395 ls [])) : W p l e room_1 s m #[Value.ref b] below meth c H locs cells slots (lw_Z below #[Value.ref b] s) (F0 m 581 ls []) := by
  have hx := hC.1.1
  have hb := hC.1.2.1
  have hts := hC.1.2.2.2.2
  have hbA : ¬ (fun q : Nat => s.heap.size ≤ q) b := Nat.not_le.mpr hbl
  have hcs : cells ≤ room_1.cells ∧ slots ≤ room_1.slots := ⟨by show cells ≤ 600000; omega, by show slots ≤ 7302250; omega⟩
  obtain ⟨r, σ', μ', hfx, hfm, hRe⟩ := hSt_behind σ μ (xs (x3 + (1 : Int32)).toNatClampNeg) (xs (x3 + (2 : Int32)).toNatClampNeg) hRe
  refine lv_aload_n hx hb dL_law_581 rfl (lv_at hl 1 rfl) ?_
  refine lv_aload_n hx hb dL_law_582 rfl (lv_at hl 0 rfl) ?_
  refine lv_iload_n hx hb dL_law_583 rfl (lv_at hl 3 rfl) ?_
  refine lv_iconst (v := 1) hx hb dL_law_584 (by decide) ?_
  refine lv_iadd hx hb dL_law_585 ?_
  refine va_sld hx hb hX hbl hbA hH.1.2.2.1 (sc_in (k := 1) hL j ej hj (by decide)) dL_law_586 ?_
  refine lv_aload_n hx hb dL_law_587 rfl (lv_at hl 0 rfl) ?_
  refine lv_iload_n hx hb dL_law_588 rfl (lv_at hl 3 rfl) ?_
  refine lv_iconst (v := 2) hx hb dL_law_589 (by decide) ?_
  refine lv_iadd hx hb dL_law_590 ?_
  refine va_sld hx hb hX hbl hbA hH.1.2.2.1 (sc_in (k := 2) hL j ej hj (by decide)) dL_law_591 ?_
  refine l_callX (As := [.int (xs (x3 + (1 : Int32)).toNatClampNeg), .int (xs (x3 + (2 : Int32)).toNatClampNeg)]) (rest := []) (cX_behind l G σ (xs (x3 + (1 : Int32)).toNatClampNeg) (xs (x3 + (2 : Int32)).toNatClampNeg) hfx) hC hH hl (cwV 2 hts (gV wmL_69 wvX7_behind) rfl rfl rfl hdX7_behind ⟨Nat.le_of_ble_eq_true rfl, Nat.le_of_ble_eq_true rfl⟩) rfl rfl (Nat.le_of_ble_eq_true rfl) hcs dL_law_592 (fun H locs hH => ?_)
  refine lv_aload_n hx hb dL_law_595 rfl (lv_at hl 2 rfl) ?_
  refine lv_aload_n hx hb dL_law_596 rfl (lv_at hl 0 rfl) ?_
  refine lv_iload_n hx hb dL_law_597 rfl (lv_at hl 3 rfl) ?_
  refine lv_iconst (v := 1) hx hb dL_law_598 (by decide) ?_
  refine lv_iadd hx hb dL_law_599 ?_
  refine va_sld hx hb hX hbl hbA hH.1.2.2.1 (sc_in (k := 1) hL j ej hj (by decide)) dL_law_600 ?_
  refine lv_aload_n hx hb dL_law_601 rfl (lv_at hl 0 rfl) ?_
  refine lv_iload_n hx hb dL_law_602 rfl (lv_at hl 3 rfl) ?_
  refine lv_iconst (v := 2) hx hb dL_law_603 (by decide) ?_
  refine lv_iadd hx hb dL_law_604 ?_
  refine va_sld hx hb hX hbl hbA hH.1.2.2.1 (sc_in (k := 2) hL j ej hj (by decide)) dL_law_605 ?_
  refine l_callM (As := [.int (xs (x3 + (1 : Int32)).toNatClampNeg), .int (xs (x3 + (2 : Int32)).toNatClampNeg)]) (rest := [.int r]) (cM_behind l (xD G) (xK G 0) B μ (xs (x3 + (1 : Int32)).toNatClampNeg) (xs (x3 + (2 : Int32)).toNatClampNeg) hfm) hC hH hl (cwV 2 hts (gV wmL_72 wvX8_behind) rfl rfl rfl hdX8_behind ⟨Nat.le_of_ble_eq_true rfl, Nat.le_of_ble_eq_true rfl⟩) rfl rfl (Nat.le_of_ble_eq_true rfl) hcs dL_law_606 (fun H locs hH => ?_)
  refine lv_icmp_eq (tgt := 1395) hx hb dL_law_609 (by decide) (fun _ => ?_) (fun c9 => absurd rfl c9)
  exact hgo σ' μ' hRe cells slots (by omega) (by omega) H locs ls hH hl

set_option maxHeartbeats 4000000 in
set_option maxRecDepth 100000 in
theorem law_rests {p : Program} {l : Launch} {e : Env} {s : State} {m : MethodId} {below : List Frame} {meth : Method} {c : Code} {b L : Nat} {xs : Nat → Int32} {G : XG} {B : Nat → Nat} {Re : XS → MS → Prop} (hL : L ≤ 3072) (hC : jC p s m #[Value.ref b] meth c cL_law 4 RL) (hX : va_X b L xs s s.heap) (hbl : b < s.heap.size) (hSt_rests : Ls_rests Re) (n j : Nat) (x3 : Int32) (ej : x3 = nI j) (hj : j + 6 ≤ L) (σ : XS) (μ : MS) (hRe : Re σ μ) (cells slots : Nat) (hc1 : cells + 3 * (n + 1) ≤ 600000) (hc2 : slots + 196 * (n + 1) ≤ 7302250) (H : Heap) (locs : List Loc) (ls : Array Slot) (hH : lH G B s (fun q : Nat => s.heap.size ≤ q) σ μ H locs) (hl : lv_has ls 4 [(0, .ref b), (1, .ref (xA G 0)), (2, .ref (B 0)), (3, .int x3)])
    (hgo : ∀ (σ : XS) (μ : MS), Re σ μ → ∀ (cells slots : Nat), cells + 3 * n ≤ 600000 → slots + 196 * n ≤ 7302250 → ∀ (H : Heap) (locs : List Loc) (ls : Array Slot), lH G B s (fun q : Nat => s.heap.size ≤ q) σ μ H locs → lv_has ls 4 [(0, .ref b), (1, .ref (xA G 0)), (2, .ref (B 0)), (3, .int x3)] → W p l e room_1 s m #[Value.ref b] below meth c H locs cells slots (lw_Z below #[Value.ref b] s) (F0 m 1395 ls [])) : W p l e room_1 s m #[Value.ref b] below meth c H locs cells slots (lw_Z below #[Value.ref b] s) (F0 m 614 ls []) := by
  have hx := hC.1.1
  have hb := hC.1.2.1
  have hts := hC.1.2.2.2.2
  have hbA : ¬ (fun q : Nat => s.heap.size ≤ q) b := Nat.not_le.mpr hbl
  have hcs : cells ≤ room_1.cells ∧ slots ≤ room_1.slots := ⟨by show cells ≤ 600000; omega, by show slots ≤ 7302250; omega⟩
  obtain ⟨r, σ', μ', hfx, hfm, hRe⟩ := hSt_rests σ μ hRe
  refine lv_aload_n hx hb dL_law_614 rfl (lv_at hl 1 rfl) ?_
  refine l_callX (As := []) (rest := []) (cX_rests l G σ hfx) hC hH hl (cwV 0 hts (gV wmL_73 wvX7_rests) rfl rfl rfl hdX7_rests ⟨Nat.le_of_ble_eq_true rfl, Nat.le_of_ble_eq_true rfl⟩) rfl rfl (Nat.le_of_ble_eq_true rfl) hcs dL_law_615 (fun H locs hH => ?_)
  refine lv_aload_n hx hb dL_law_618 rfl (lv_at hl 2 rfl) ?_
  refine l_callM (As := []) (rest := [.int r]) (cM_rests l (xD G) (xK G 0) B μ hfm) hC hH hl (cwV 0 hts (gV wmL_76 wvX8_rests) rfl rfl rfl hdX8_rests ⟨Nat.le_of_ble_eq_true rfl, Nat.le_of_ble_eq_true rfl⟩) rfl rfl (Nat.le_of_ble_eq_true rfl) hcs dL_law_619 (fun H locs hH => ?_)
  refine lv_icmp_eq (tgt := 1395) hx hb dL_law_622 (by decide) (fun _ => ?_) (fun c9 => absurd rfl c9)
  exact hgo σ' μ' hRe cells slots (by omega) (by omega) H locs ls hH hl

set_option maxHeartbeats 4000000 in
set_option maxRecDepth 100000 in
theorem law_padding {p : Program} {l : Launch} {e : Env} {s : State} {m : MethodId} {below : List Frame} {meth : Method} {c : Code} {b L : Nat} {xs : Nat → Int32} {G : XG} {B : Nat → Nat} {Re : XS → MS → Prop} (hL : L ≤ 3072) (hC : jC p s m #[Value.ref b] meth c cL_law 4 RL) (hX : va_X b L xs s s.heap) (hbl : b < s.heap.size) (hSt_padding : Ls_padding Re) (n j : Nat) (x3 : Int32) (ej : x3 = nI j) (hj : j + 6 ≤ L) (σ : XS) (μ : MS) (hRe : Re σ μ) (cells slots : Nat) (hc1 : cells + 3 * (n + 1) ≤ 600000) (hc2 : slots + 196 * (n + 1) ≤ 7302250) (H : Heap) (locs : List Loc) (ls : Array Slot) (hH : lH G B s (fun q : Nat => s.heap.size ≤ q) σ μ H locs) (hl : lv_has ls 4 [(0, .ref b), (1, .ref (xA G 0)), (2, .ref (B 0)), (3, .int x3)])
    (hgo : ∀ (σ : XS) (μ : MS), Re σ μ → ∀ (cells slots : Nat), cells + 3 * n ≤ 600000 → slots + 196 * n ≤ 7302250 → ∀ (H : Heap) (locs : List Loc) (ls : Array Slot), lH G B s (fun q : Nat => s.heap.size ≤ q) σ μ H locs → lv_has ls 4 [(0, .ref b), (1, .ref (xA G 0)), (2, .ref (B 0)), (3, .int x3)] → W p l e room_1 s m #[Value.ref b] below meth c H locs cells slots (lw_Z below #[Value.ref b] s) (F0 m 1395 ls [])) : W p l e room_1 s m #[Value.ref b] below meth c H locs cells slots (lw_Z below #[Value.ref b] s) (F0 m 627 ls []) := by
  have hx := hC.1.1
  have hb := hC.1.2.1
  have hts := hC.1.2.2.2.2
  have hbA : ¬ (fun q : Nat => s.heap.size ≤ q) b := Nat.not_le.mpr hbl
  have hcs : cells ≤ room_1.cells ∧ slots ≤ room_1.slots := ⟨by show cells ≤ 600000; omega, by show slots ≤ 7302250; omega⟩
  obtain ⟨r, σ', μ', hfx, hfm, hRe⟩ := hSt_padding σ μ (xs (x3 + (1 : Int32)).toNatClampNeg) (xs (x3 + (2 : Int32)).toNatClampNeg) (xs (x3 + (3 : Int32)).toNatClampNeg) hRe
  refine lv_aload_n hx hb dL_law_627 rfl (lv_at hl 1 rfl) ?_
  refine lv_aload_n hx hb dL_law_628 rfl (lv_at hl 0 rfl) ?_
  refine lv_iload_n hx hb dL_law_629 rfl (lv_at hl 3 rfl) ?_
  refine lv_iconst (v := 1) hx hb dL_law_630 (by decide) ?_
  refine lv_iadd hx hb dL_law_631 ?_
  refine va_sld hx hb hX hbl hbA hH.1.2.2.1 (sc_in (k := 1) hL j ej hj (by decide)) dL_law_632 ?_
  refine lv_aload_n hx hb dL_law_633 rfl (lv_at hl 0 rfl) ?_
  refine lv_iload_n hx hb dL_law_634 rfl (lv_at hl 3 rfl) ?_
  refine lv_iconst (v := 2) hx hb dL_law_635 (by decide) ?_
  refine lv_iadd hx hb dL_law_636 ?_
  refine va_sld hx hb hX hbl hbA hH.1.2.2.1 (sc_in (k := 2) hL j ej hj (by decide)) dL_law_637 ?_
  refine lv_aload_n hx hb dL_law_638 rfl (lv_at hl 0 rfl) ?_
  refine lv_iload_n hx hb dL_law_639 rfl (lv_at hl 3 rfl) ?_
  refine lv_iconst (v := 3) hx hb dL_law_640 (by decide) ?_
  refine lv_iadd hx hb dL_law_641 ?_
  refine va_sld hx hb hX hbl hbA hH.1.2.2.1 (sc_in (k := 3) hL j ej hj (by decide)) dL_law_642 ?_
  refine l_callX (As := [.int (xs (x3 + (1 : Int32)).toNatClampNeg), .int (xs (x3 + (2 : Int32)).toNatClampNeg), .int (xs (x3 + (3 : Int32)).toNatClampNeg)]) (rest := []) (cX_padding l G σ (xs (x3 + (1 : Int32)).toNatClampNeg) (xs (x3 + (2 : Int32)).toNatClampNeg) (xs (x3 + (3 : Int32)).toNatClampNeg) hfx) hC hH hl (cwV 3 hts (gV wmL_77 wvX7_padding) rfl rfl rfl hdX7_padding ⟨Nat.le_of_ble_eq_true rfl, Nat.le_of_ble_eq_true rfl⟩) rfl rfl (Nat.le_of_ble_eq_true rfl) hcs dL_law_643 (fun H locs hH => ?_)
  refine lv_aload_n hx hb dL_law_646 rfl (lv_at hl 2 rfl) ?_
  refine lv_aload_n hx hb dL_law_647 rfl (lv_at hl 0 rfl) ?_
  refine lv_iload_n hx hb dL_law_648 rfl (lv_at hl 3 rfl) ?_
  refine lv_iconst (v := 1) hx hb dL_law_649 (by decide) ?_
  refine lv_iadd hx hb dL_law_650 ?_
  refine va_sld hx hb hX hbl hbA hH.1.2.2.1 (sc_in (k := 1) hL j ej hj (by decide)) dL_law_651 ?_
  refine lv_aload_n hx hb dL_law_652 rfl (lv_at hl 0 rfl) ?_
  refine lv_iload_n hx hb dL_law_653 rfl (lv_at hl 3 rfl) ?_
  refine lv_iconst (v := 2) hx hb dL_law_654 (by decide) ?_
  refine lv_iadd hx hb dL_law_655 ?_
  refine va_sld hx hb hX hbl hbA hH.1.2.2.1 (sc_in (k := 2) hL j ej hj (by decide)) dL_law_656 ?_
  refine lv_aload_n hx hb dL_law_657 rfl (lv_at hl 0 rfl) ?_
  refine lv_iload_n hx hb dL_law_658 rfl (lv_at hl 3 rfl) ?_
  refine lv_iconst (v := 3) hx hb dL_law_659 (by decide) ?_
  refine lv_iadd hx hb dL_law_660 ?_
  refine va_sld hx hb hX hbl hbA hH.1.2.2.1 (sc_in (k := 3) hL j ej hj (by decide)) dL_law_661 ?_
  refine l_callM (As := [.int (xs (x3 + (1 : Int32)).toNatClampNeg), .int (xs (x3 + (2 : Int32)).toNatClampNeg), .int (xs (x3 + (3 : Int32)).toNatClampNeg)]) (rest := [.int r]) (cM_padding l (xD G) (xK G 0) B μ (xs (x3 + (1 : Int32)).toNatClampNeg) (xs (x3 + (2 : Int32)).toNatClampNeg) (xs (x3 + (3 : Int32)).toNatClampNeg) hfm) hC hH hl (cwV 3 hts (gV wmL_80 wvX8_padding) rfl rfl rfl hdX8_padding ⟨Nat.le_of_ble_eq_true rfl, Nat.le_of_ble_eq_true rfl⟩) rfl rfl (Nat.le_of_ble_eq_true rfl) hcs dL_law_662 (fun H locs hH => ?_)
  refine lv_icmp_eq (tgt := 1395) hx hb dL_law_665 (by decide) (fun _ => ?_) (fun c9 => absurd rfl c9)
  exact hgo σ' μ' hRe cells slots (by omega) (by omega) H locs ls hH hl

set_option maxHeartbeats 4000000 in
set_option maxRecDepth 100000 in
theorem law_stays {p : Program} {l : Launch} {e : Env} {s : State} {m : MethodId} {below : List Frame} {meth : Method} {c : Code} {b L : Nat} {xs : Nat → Int32} {G : XG} {B : Nat → Nat} {Re : XS → MS → Prop} (hL : L ≤ 3072) (hC : jC p s m #[Value.ref b] meth c cL_law 4 RL) (hX : va_X b L xs s s.heap) (hbl : b < s.heap.size) (hSt_stays : Ls_stays Re) (n j : Nat) (x3 : Int32) (ej : x3 = nI j) (hj : j + 6 ≤ L) (σ : XS) (μ : MS) (hRe : Re σ μ) (cells slots : Nat) (hc1 : cells + 3 * (n + 1) ≤ 600000) (hc2 : slots + 196 * (n + 1) ≤ 7302250) (H : Heap) (locs : List Loc) (ls : Array Slot) (hH : lH G B s (fun q : Nat => s.heap.size ≤ q) σ μ H locs) (hl : lv_has ls 4 [(0, .ref b), (1, .ref (xA G 0)), (2, .ref (B 0)), (3, .int x3)])
    (hgo : ∀ (σ : XS) (μ : MS), Re σ μ → ∀ (cells slots : Nat), cells + 3 * n ≤ 600000 → slots + 196 * n ≤ 7302250 → ∀ (H : Heap) (locs : List Loc) (ls : Array Slot), lH G B s (fun q : Nat => s.heap.size ≤ q) σ μ H locs → lv_has ls 4 [(0, .ref b), (1, .ref (xA G 0)), (2, .ref (B 0)), (3, .int x3)] → W p l e room_1 s m #[Value.ref b] below meth c H locs cells slots (lw_Z below #[Value.ref b] s) (F0 m 1395 ls [])) : W p l e room_1 s m #[Value.ref b] below meth c H locs cells slots (lw_Z below #[Value.ref b] s) (F0 m 670 ls []) := by
  have hx := hC.1.1
  have hb := hC.1.2.1
  have hts := hC.1.2.2.2.2
  have hbA : ¬ (fun q : Nat => s.heap.size ≤ q) b := Nat.not_le.mpr hbl
  have hcs : cells ≤ room_1.cells ∧ slots ≤ room_1.slots := ⟨by show cells ≤ 600000; omega, by show slots ≤ 7302250; omega⟩
  obtain ⟨r, σ', μ', hfx, hfm, hRe⟩ := hSt_stays σ μ (xs (x3 + (1 : Int32)).toNatClampNeg) hRe
  refine lv_aload_n hx hb dL_law_670 rfl (lv_at hl 1 rfl) ?_
  refine lv_aload_n hx hb dL_law_671 rfl (lv_at hl 0 rfl) ?_
  refine lv_iload_n hx hb dL_law_672 rfl (lv_at hl 3 rfl) ?_
  refine lv_iconst (v := 1) hx hb dL_law_673 (by decide) ?_
  refine lv_iadd hx hb dL_law_674 ?_
  refine va_sld hx hb hX hbl hbA hH.1.2.2.1 (sc_in (k := 1) hL j ej hj (by decide)) dL_law_675 ?_
  refine l_callX (As := [.int (xs (x3 + (1 : Int32)).toNatClampNeg)]) (rest := []) (cX_stays l G σ (xs (x3 + (1 : Int32)).toNatClampNeg) hfx) hC hH hl (cwV 1 hts (gV wmL_81 wvX7_stays) rfl rfl rfl hdX7_stays ⟨Nat.le_of_ble_eq_true rfl, Nat.le_of_ble_eq_true rfl⟩) rfl rfl (Nat.le_of_ble_eq_true rfl) hcs dL_law_676 (fun H locs hH => ?_)
  refine lv_aload_n hx hb dL_law_679 rfl (lv_at hl 2 rfl) ?_
  refine lv_aload_n hx hb dL_law_680 rfl (lv_at hl 0 rfl) ?_
  refine lv_iload_n hx hb dL_law_681 rfl (lv_at hl 3 rfl) ?_
  refine lv_iconst (v := 1) hx hb dL_law_682 (by decide) ?_
  refine lv_iadd hx hb dL_law_683 ?_
  refine va_sld hx hb hX hbl hbA hH.1.2.2.1 (sc_in (k := 1) hL j ej hj (by decide)) dL_law_684 ?_
  refine l_callM (As := [.int (xs (x3 + (1 : Int32)).toNatClampNeg)]) (rest := [.int r]) (cM_stays l (xD G) (xK G 0) B μ (xs (x3 + (1 : Int32)).toNatClampNeg) hfm) hC hH hl (cwV 1 hts (gV wmL_84 wvX8_stays) rfl rfl rfl hdX8_stays ⟨Nat.le_of_ble_eq_true rfl, Nat.le_of_ble_eq_true rfl⟩) rfl rfl (Nat.le_of_ble_eq_true rfl) hcs dL_law_685 (fun H locs hH => ?_)
  refine lv_icmp_eq (tgt := 1395) hx hb dL_law_688 (by decide) (fun _ => ?_) (fun c9 => absurd rfl c9)
  exact hgo σ' μ' hRe cells slots (by omega) (by omega) H locs ls hH hl

set_option maxHeartbeats 4000000 in
set_option maxRecDepth 100000 in
theorem law_bundle {p : Program} {l : Launch} {e : Env} {s : State} {m : MethodId} {below : List Frame} {meth : Method} {c : Code} {b L : Nat} {xs : Nat → Int32} {G : XG} {B : Nat → Nat} {Re : XS → MS → Prop} (hL : L ≤ 3072) (hC : jC p s m #[Value.ref b] meth c cL_law 4 RL) (hX : va_X b L xs s s.heap) (hbl : b < s.heap.size) (hSt_bundle : Ls_bundle Re) (n j : Nat) (x3 : Int32) (ej : x3 = nI j) (hj : j + 6 ≤ L) (σ : XS) (μ : MS) (hRe : Re σ μ) (cells slots : Nat) (hc1 : cells + 3 * (n + 1) ≤ 600000) (hc2 : slots + 196 * (n + 1) ≤ 7302250) (H : Heap) (locs : List Loc) (ls : Array Slot) (hH : lH G B s (fun q : Nat => s.heap.size ≤ q) σ μ H locs) (hl : lv_has ls 4 [(0, .ref b), (1, .ref (xA G 0)), (2, .ref (B 0)), (3, .int x3)])
    (hgo : ∀ (σ : XS) (μ : MS), Re σ μ → ∀ (cells slots : Nat), cells + 3 * n ≤ 600000 → slots + 196 * n ≤ 7302250 → ∀ (H : Heap) (locs : List Loc) (ls : Array Slot), lH G B s (fun q : Nat => s.heap.size ≤ q) σ μ H locs → lv_has ls 4 [(0, .ref b), (1, .ref (xA G 0)), (2, .ref (B 0)), (3, .int x3)] → W p l e room_1 s m #[Value.ref b] below meth c H locs cells slots (lw_Z below #[Value.ref b] s) (F0 m 1395 ls [])) : W p l e room_1 s m #[Value.ref b] below meth c H locs cells slots (lw_Z below #[Value.ref b] s) (F0 m 693 ls []) := by
  have hx := hC.1.1
  have hb := hC.1.2.1
  have hts := hC.1.2.2.2.2
  have hbA : ¬ (fun q : Nat => s.heap.size ≤ q) b := Nat.not_le.mpr hbl
  have hcs : cells ≤ room_1.cells ∧ slots ≤ room_1.slots := ⟨by show cells ≤ 600000; omega, by show slots ≤ 7302250; omega⟩
  obtain ⟨r, σ', μ', hfx, hfm, hRe⟩ := hSt_bundle σ μ (xs (x3 + (1 : Int32)).toNatClampNeg) (xs (x3 + (2 : Int32)).toNatClampNeg) hRe
  refine lv_aload_n hx hb dL_law_693 rfl (lv_at hl 1 rfl) ?_
  refine lv_aload_n hx hb dL_law_694 rfl (lv_at hl 0 rfl) ?_
  refine lv_iload_n hx hb dL_law_695 rfl (lv_at hl 3 rfl) ?_
  refine lv_iconst (v := 1) hx hb dL_law_696 (by decide) ?_
  refine lv_iadd hx hb dL_law_697 ?_
  refine va_sld hx hb hX hbl hbA hH.1.2.2.1 (sc_in (k := 1) hL j ej hj (by decide)) dL_law_698 ?_
  refine lv_aload_n hx hb dL_law_699 rfl (lv_at hl 0 rfl) ?_
  refine lv_iload_n hx hb dL_law_700 rfl (lv_at hl 3 rfl) ?_
  refine lv_iconst (v := 2) hx hb dL_law_701 (by decide) ?_
  refine lv_iadd hx hb dL_law_702 ?_
  refine va_sld hx hb hX hbl hbA hH.1.2.2.1 (sc_in (k := 2) hL j ej hj (by decide)) dL_law_703 ?_
  refine l_callX (As := [.int (xs (x3 + (1 : Int32)).toNatClampNeg), .int (xs (x3 + (2 : Int32)).toNatClampNeg)]) (rest := []) (cX_bundle l G σ (xs (x3 + (1 : Int32)).toNatClampNeg) (xs (x3 + (2 : Int32)).toNatClampNeg) hfx) hC hH hl (cwV 2 hts (gV wmL_85 wvX7_bundle) rfl rfl rfl hdX7_bundle ⟨Nat.le_of_ble_eq_true rfl, Nat.le_of_ble_eq_true rfl⟩) rfl rfl (Nat.le_of_ble_eq_true rfl) hcs dL_law_704 (fun H locs hH => ?_)
  refine lv_aload_n hx hb dL_law_707 rfl (lv_at hl 2 rfl) ?_
  refine lv_aload_n hx hb dL_law_708 rfl (lv_at hl 0 rfl) ?_
  refine lv_iload_n hx hb dL_law_709 rfl (lv_at hl 3 rfl) ?_
  refine lv_iconst (v := 1) hx hb dL_law_710 (by decide) ?_
  refine lv_iadd hx hb dL_law_711 ?_
  refine va_sld hx hb hX hbl hbA hH.1.2.2.1 (sc_in (k := 1) hL j ej hj (by decide)) dL_law_712 ?_
  refine lv_aload_n hx hb dL_law_713 rfl (lv_at hl 0 rfl) ?_
  refine lv_iload_n hx hb dL_law_714 rfl (lv_at hl 3 rfl) ?_
  refine lv_iconst (v := 2) hx hb dL_law_715 (by decide) ?_
  refine lv_iadd hx hb dL_law_716 ?_
  refine va_sld hx hb hX hbl hbA hH.1.2.2.1 (sc_in (k := 2) hL j ej hj (by decide)) dL_law_717 ?_
  refine l_callM (As := [.int (xs (x3 + (1 : Int32)).toNatClampNeg), .int (xs (x3 + (2 : Int32)).toNatClampNeg)]) (rest := [.int r]) (cM_bundle l (xD G) (xK G 0) B μ (xs (x3 + (1 : Int32)).toNatClampNeg) (xs (x3 + (2 : Int32)).toNatClampNeg) hfm) hC hH hl (cwV 2 hts (gV wmL_88 wvX8_bundle) rfl rfl rfl hdX8_bundle ⟨Nat.le_of_ble_eq_true rfl, Nat.le_of_ble_eq_true rfl⟩) rfl rfl (Nat.le_of_ble_eq_true rfl) hcs dL_law_718 (fun H locs hH => ?_)
  refine lv_icmp_eq (tgt := 1395) hx hb dL_law_721 (by decide) (fun _ => ?_) (fun c9 => absurd rfl c9)
  exact hgo σ' μ' hRe cells slots (by omega) (by omega) H locs ls hH hl

set_option maxHeartbeats 4000000 in
set_option maxRecDepth 100000 in
theorem law_halts {p : Program} {l : Launch} {e : Env} {s : State} {m : MethodId} {below : List Frame} {meth : Method} {c : Code} {b L : Nat} {xs : Nat → Int32} {G : XG} {B : Nat → Nat} {Re : XS → MS → Prop} (hL : L ≤ 3072) (hC : jC p s m #[Value.ref b] meth c cL_law 4 RL) (hX : va_X b L xs s s.heap) (hbl : b < s.heap.size) (hSt_halts : Ls_halts Re) (n j : Nat) (x3 : Int32) (ej : x3 = nI j) (hj : j + 6 ≤ L) (σ : XS) (μ : MS) (hRe : Re σ μ) (cells slots : Nat) (hc1 : cells + 3 * (n + 1) ≤ 600000) (hc2 : slots + 196 * (n + 1) ≤ 7302250) (H : Heap) (locs : List Loc) (ls : Array Slot) (hH : lH G B s (fun q : Nat => s.heap.size ≤ q) σ μ H locs) (hl : lv_has ls 4 [(0, .ref b), (1, .ref (xA G 0)), (2, .ref (B 0)), (3, .int x3)])
    (hgo : ∀ (σ : XS) (μ : MS), Re σ μ → ∀ (cells slots : Nat), cells + 3 * n ≤ 600000 → slots + 196 * n ≤ 7302250 → ∀ (H : Heap) (locs : List Loc) (ls : Array Slot), lH G B s (fun q : Nat => s.heap.size ≤ q) σ μ H locs → lv_has ls 4 [(0, .ref b), (1, .ref (xA G 0)), (2, .ref (B 0)), (3, .int x3)] → W p l e room_1 s m #[Value.ref b] below meth c H locs cells slots (lw_Z below #[Value.ref b] s) (F0 m 1395 ls [])) : W p l e room_1 s m #[Value.ref b] below meth c H locs cells slots (lw_Z below #[Value.ref b] s) (F0 m 726 ls []) := by
  have hx := hC.1.1
  have hb := hC.1.2.1
  have hts := hC.1.2.2.2.2
  have hbA : ¬ (fun q : Nat => s.heap.size ≤ q) b := Nat.not_le.mpr hbl
  have hcs : cells ≤ room_1.cells ∧ slots ≤ room_1.slots := ⟨by show cells ≤ 600000; omega, by show slots ≤ 7302250; omega⟩
  obtain ⟨r, σ', μ', hfx, hfm, hRe⟩ := hSt_halts σ μ (xs (x3 + (1 : Int32)).toNatClampNeg) (xs (x3 + (2 : Int32)).toNatClampNeg) hRe
  refine lv_aload_n hx hb dL_law_726 rfl (lv_at hl 1 rfl) ?_
  refine lv_aload_n hx hb dL_law_727 rfl (lv_at hl 0 rfl) ?_
  refine lv_iload_n hx hb dL_law_728 rfl (lv_at hl 3 rfl) ?_
  refine lv_iconst (v := 1) hx hb dL_law_729 (by decide) ?_
  refine lv_iadd hx hb dL_law_730 ?_
  refine va_sld hx hb hX hbl hbA hH.1.2.2.1 (sc_in (k := 1) hL j ej hj (by decide)) dL_law_731 ?_
  refine lv_aload_n hx hb dL_law_732 rfl (lv_at hl 0 rfl) ?_
  refine lv_iload_n hx hb dL_law_733 rfl (lv_at hl 3 rfl) ?_
  refine lv_iconst (v := 2) hx hb dL_law_734 (by decide) ?_
  refine lv_iadd hx hb dL_law_735 ?_
  refine va_sld hx hb hX hbl hbA hH.1.2.2.1 (sc_in (k := 2) hL j ej hj (by decide)) dL_law_736 ?_
  refine l_callX (As := [.int (xs (x3 + (1 : Int32)).toNatClampNeg), .int (xs (x3 + (2 : Int32)).toNatClampNeg)]) (rest := []) (cX_halts l G σ (xs (x3 + (1 : Int32)).toNatClampNeg) (xs (x3 + (2 : Int32)).toNatClampNeg) hfx) hC hH hl (cwV 2 hts (gV wmL_89 wvX7_halts) rfl rfl rfl hdX7_halts ⟨Nat.le_of_ble_eq_true rfl, Nat.le_of_ble_eq_true rfl⟩) rfl rfl (Nat.le_of_ble_eq_true rfl) hcs dL_law_737 (fun H locs hH => ?_)
  refine lv_aload_n hx hb dL_law_740 rfl (lv_at hl 2 rfl) ?_
  refine lv_aload_n hx hb dL_law_741 rfl (lv_at hl 0 rfl) ?_
  refine lv_iload_n hx hb dL_law_742 rfl (lv_at hl 3 rfl) ?_
  refine lv_iconst (v := 1) hx hb dL_law_743 (by decide) ?_
  refine lv_iadd hx hb dL_law_744 ?_
  refine va_sld hx hb hX hbl hbA hH.1.2.2.1 (sc_in (k := 1) hL j ej hj (by decide)) dL_law_745 ?_
  refine lv_aload_n hx hb dL_law_746 rfl (lv_at hl 0 rfl) ?_
  refine lv_iload_n hx hb dL_law_747 rfl (lv_at hl 3 rfl) ?_
  refine lv_iconst (v := 2) hx hb dL_law_748 (by decide) ?_
  refine lv_iadd hx hb dL_law_749 ?_
  refine va_sld hx hb hX hbl hbA hH.1.2.2.1 (sc_in (k := 2) hL j ej hj (by decide)) dL_law_750 ?_
  refine l_callM (As := [.int (xs (x3 + (1 : Int32)).toNatClampNeg), .int (xs (x3 + (2 : Int32)).toNatClampNeg)]) (rest := [.int r]) (cM_halts l (xD G) (xK G 0) B μ (xs (x3 + (1 : Int32)).toNatClampNeg) (xs (x3 + (2 : Int32)).toNatClampNeg) hfm) hC hH hl (cwV 2 hts (gV wmL_92 wvX8_halts) rfl rfl rfl hdX8_halts ⟨Nat.le_of_ble_eq_true rfl, Nat.le_of_ble_eq_true rfl⟩) rfl rfl (Nat.le_of_ble_eq_true rfl) hcs dL_law_751 (fun H locs hH => ?_)
  refine lv_icmp_eq (tgt := 1395) hx hb dL_law_754 (by decide) (fun _ => ?_) (fun c9 => absurd rfl c9)
  exact hgo σ' μ' hRe cells slots (by omega) (by omega) H locs ls hH hl

set_option maxHeartbeats 4000000 in
set_option maxRecDepth 100000 in
theorem law_miles {p : Program} {l : Launch} {e : Env} {s : State} {m : MethodId} {below : List Frame} {meth : Method} {c : Code} {b L : Nat} {xs : Nat → Int32} {G : XG} {B : Nat → Nat} {Re : XS → MS → Prop} (hL : L ≤ 3072) (hC : jC p s m #[Value.ref b] meth c cL_law 4 RL) (hX : va_X b L xs s s.heap) (hbl : b < s.heap.size) (hSt_miles : Ls_miles Re) (n j : Nat) (x3 : Int32) (ej : x3 = nI j) (hj : j + 6 ≤ L) (σ : XS) (μ : MS) (hRe : Re σ μ) (cells slots : Nat) (hc1 : cells + 3 * (n + 1) ≤ 600000) (hc2 : slots + 196 * (n + 1) ≤ 7302250) (H : Heap) (locs : List Loc) (ls : Array Slot) (hH : lH G B s (fun q : Nat => s.heap.size ≤ q) σ μ H locs) (hl : lv_has ls 4 [(0, .ref b), (1, .ref (xA G 0)), (2, .ref (B 0)), (3, .int x3)])
    (hgo : ∀ (σ : XS) (μ : MS), Re σ μ → ∀ (cells slots : Nat), cells + 3 * n ≤ 600000 → slots + 196 * n ≤ 7302250 → ∀ (H : Heap) (locs : List Loc) (ls : Array Slot), lH G B s (fun q : Nat => s.heap.size ≤ q) σ μ H locs → lv_has ls 4 [(0, .ref b), (1, .ref (xA G 0)), (2, .ref (B 0)), (3, .int x3)] → W p l e room_1 s m #[Value.ref b] below meth c H locs cells slots (lw_Z below #[Value.ref b] s) (F0 m 1395 ls [])) : W p l e room_1 s m #[Value.ref b] below meth c H locs cells slots (lw_Z below #[Value.ref b] s) (F0 m 759 ls []) := by
  have hx := hC.1.1
  have hb := hC.1.2.1
  have hts := hC.1.2.2.2.2
  have hbA : ¬ (fun q : Nat => s.heap.size ≤ q) b := Nat.not_le.mpr hbl
  have hcs : cells ≤ room_1.cells ∧ slots ≤ room_1.slots := ⟨by show cells ≤ 600000; omega, by show slots ≤ 7302250; omega⟩
  obtain ⟨r, σ', μ', hfx, hfm, hRe⟩ := hSt_miles σ μ (xs (x3 + (1 : Int32)).toNatClampNeg) (xs (x3 + (2 : Int32)).toNatClampNeg) hRe
  refine lv_aload_n hx hb dL_law_759 rfl (lv_at hl 1 rfl) ?_
  refine lv_aload_n hx hb dL_law_760 rfl (lv_at hl 0 rfl) ?_
  refine lv_iload_n hx hb dL_law_761 rfl (lv_at hl 3 rfl) ?_
  refine lv_iconst (v := 1) hx hb dL_law_762 (by decide) ?_
  refine lv_iadd hx hb dL_law_763 ?_
  refine va_sld hx hb hX hbl hbA hH.1.2.2.1 (sc_in (k := 1) hL j ej hj (by decide)) dL_law_764 ?_
  refine lv_aload_n hx hb dL_law_765 rfl (lv_at hl 0 rfl) ?_
  refine lv_iload_n hx hb dL_law_766 rfl (lv_at hl 3 rfl) ?_
  refine lv_iconst (v := 2) hx hb dL_law_767 (by decide) ?_
  refine lv_iadd hx hb dL_law_768 ?_
  refine va_sld hx hb hX hbl hbA hH.1.2.2.1 (sc_in (k := 2) hL j ej hj (by decide)) dL_law_769 ?_
  refine l_callX (As := [.int (xs (x3 + (1 : Int32)).toNatClampNeg), .int (xs (x3 + (2 : Int32)).toNatClampNeg)]) (rest := []) (cX_miles l G σ (xs (x3 + (1 : Int32)).toNatClampNeg) (xs (x3 + (2 : Int32)).toNatClampNeg) hfx) hC hH hl (cwV 2 hts (gV wmL_93 wvX7_miles) rfl rfl rfl hdX7_miles ⟨Nat.le_of_ble_eq_true rfl, Nat.le_of_ble_eq_true rfl⟩) rfl rfl (Nat.le_of_ble_eq_true rfl) hcs dL_law_770 (fun H locs hH => ?_)
  refine lv_aload_n hx hb dL_law_773 rfl (lv_at hl 2 rfl) ?_
  refine lv_aload_n hx hb dL_law_774 rfl (lv_at hl 0 rfl) ?_
  refine lv_iload_n hx hb dL_law_775 rfl (lv_at hl 3 rfl) ?_
  refine lv_iconst (v := 1) hx hb dL_law_776 (by decide) ?_
  refine lv_iadd hx hb dL_law_777 ?_
  refine va_sld hx hb hX hbl hbA hH.1.2.2.1 (sc_in (k := 1) hL j ej hj (by decide)) dL_law_778 ?_
  refine lv_aload_n hx hb dL_law_779 rfl (lv_at hl 0 rfl) ?_
  refine lv_iload_n hx hb dL_law_780 rfl (lv_at hl 3 rfl) ?_
  refine lv_iconst (v := 2) hx hb dL_law_781 (by decide) ?_
  refine lv_iadd hx hb dL_law_782 ?_
  refine va_sld hx hb hX hbl hbA hH.1.2.2.1 (sc_in (k := 2) hL j ej hj (by decide)) dL_law_783 ?_
  refine l_callM (As := [.int (xs (x3 + (1 : Int32)).toNatClampNeg), .int (xs (x3 + (2 : Int32)).toNatClampNeg)]) (rest := [.int r]) (cM_miles l (xD G) (xK G 0) B μ (xs (x3 + (1 : Int32)).toNatClampNeg) (xs (x3 + (2 : Int32)).toNatClampNeg) hfm) hC hH hl (cwV 2 hts (gV wmL_96 wvX8_miles) rfl rfl rfl hdX8_miles ⟨Nat.le_of_ble_eq_true rfl, Nat.le_of_ble_eq_true rfl⟩) rfl rfl (Nat.le_of_ble_eq_true rfl) hcs dL_law_784 (fun H locs hH => ?_)
  refine lv_icmp_eq (tgt := 1395) hx hb dL_law_787 (by decide) (fun _ => ?_) (fun c9 => absurd rfl c9)
  exact hgo σ' μ' hRe cells slots (by omega) (by omega) H locs ls hH hl

set_option maxHeartbeats 4000000 in
set_option maxRecDepth 100000 in
theorem law_fee {p : Program} {l : Launch} {e : Env} {s : State} {m : MethodId} {below : List Frame} {meth : Method} {c : Code} {b L : Nat} {xs : Nat → Int32} {G : XG} {B : Nat → Nat} {Re : XS → MS → Prop} (hL : L ≤ 3072) (hC : jC p s m #[Value.ref b] meth c cL_law 4 RL) (hX : va_X b L xs s s.heap) (hbl : b < s.heap.size) (hSt_fee : Ls_fee Re) (n j : Nat) (x3 : Int32) (ej : x3 = nI j) (hj : j + 6 ≤ L) (σ : XS) (μ : MS) (hRe : Re σ μ) (cells slots : Nat) (hc1 : cells + 3 * (n + 1) ≤ 600000) (hc2 : slots + 196 * (n + 1) ≤ 7302250) (H : Heap) (locs : List Loc) (ls : Array Slot) (hH : lH G B s (fun q : Nat => s.heap.size ≤ q) σ μ H locs) (hl : lv_has ls 4 [(0, .ref b), (1, .ref (xA G 0)), (2, .ref (B 0)), (3, .int x3)])
    (hgo : ∀ (σ : XS) (μ : MS), Re σ μ → ∀ (cells slots : Nat), cells + 3 * n ≤ 600000 → slots + 196 * n ≤ 7302250 → ∀ (H : Heap) (locs : List Loc) (ls : Array Slot), lH G B s (fun q : Nat => s.heap.size ≤ q) σ μ H locs → lv_has ls 4 [(0, .ref b), (1, .ref (xA G 0)), (2, .ref (B 0)), (3, .int x3)] → W p l e room_1 s m #[Value.ref b] below meth c H locs cells slots (lw_Z below #[Value.ref b] s) (F0 m 1395 ls [])) : W p l e room_1 s m #[Value.ref b] below meth c H locs cells slots (lw_Z below #[Value.ref b] s) (F0 m 792 ls []) := by
  have hx := hC.1.1
  have hb := hC.1.2.1
  have hts := hC.1.2.2.2.2
  have hbA : ¬ (fun q : Nat => s.heap.size ≤ q) b := Nat.not_le.mpr hbl
  have hcs : cells ≤ room_1.cells ∧ slots ≤ room_1.slots := ⟨by show cells ≤ 600000; omega, by show slots ≤ 7302250; omega⟩
  obtain ⟨r, σ', μ', hfx, hfm, hRe⟩ := hSt_fee σ μ hRe
  refine lv_aload_n hx hb dL_law_792 rfl (lv_at hl 1 rfl) ?_
  refine l_callX (As := []) (rest := []) (cX_fee l G σ hfx) hC hH hl (cwV 0 hts (gV wmL_97 wvX7_fee) rfl rfl rfl hdX7_fee ⟨Nat.le_of_ble_eq_true rfl, Nat.le_of_ble_eq_true rfl⟩) rfl rfl (Nat.le_of_ble_eq_true rfl) hcs dL_law_793 (fun H locs hH => ?_)
  refine lv_aload_n hx hb dL_law_796 rfl (lv_at hl 2 rfl) ?_
  refine l_callM (As := []) (rest := [.int r]) (cM_fee l (xD G) (xK G 0) B μ hfm) hC hH hl (cwV 0 hts (gV wmL_100 wvX8_fee) rfl rfl rfl hdX8_fee ⟨Nat.le_of_ble_eq_true rfl, Nat.le_of_ble_eq_true rfl⟩) rfl rfl (Nat.le_of_ble_eq_true rfl) hcs dL_law_797 (fun H locs hH => ?_)
  refine lv_icmp_eq (tgt := 1395) hx hb dL_law_800 (by decide) (fun _ => ?_) (fun c9 => absurd rfl c9)
  exact hgo σ' μ' hRe cells slots (by omega) (by omega) H locs ls hH hl

set_option maxHeartbeats 4000000 in
set_option maxRecDepth 100000 in
theorem law_fine {p : Program} {l : Launch} {e : Env} {s : State} {m : MethodId} {below : List Frame} {meth : Method} {c : Code} {b L : Nat} {xs : Nat → Int32} {G : XG} {B : Nat → Nat} {Re : XS → MS → Prop} (hL : L ≤ 3072) (hC : jC p s m #[Value.ref b] meth c cL_law 4 RL) (hX : va_X b L xs s s.heap) (hbl : b < s.heap.size) (hSt_fine : Ls_fine Re) (n j : Nat) (x3 : Int32) (ej : x3 = nI j) (hj : j + 6 ≤ L) (σ : XS) (μ : MS) (hRe : Re σ μ) (cells slots : Nat) (hc1 : cells + 3 * (n + 1) ≤ 600000) (hc2 : slots + 196 * (n + 1) ≤ 7302250) (H : Heap) (locs : List Loc) (ls : Array Slot) (hH : lH G B s (fun q : Nat => s.heap.size ≤ q) σ μ H locs) (hl : lv_has ls 4 [(0, .ref b), (1, .ref (xA G 0)), (2, .ref (B 0)), (3, .int x3)])
    (hgo : ∀ (σ : XS) (μ : MS), Re σ μ → ∀ (cells slots : Nat), cells + 3 * n ≤ 600000 → slots + 196 * n ≤ 7302250 → ∀ (H : Heap) (locs : List Loc) (ls : Array Slot), lH G B s (fun q : Nat => s.heap.size ≤ q) σ μ H locs → lv_has ls 4 [(0, .ref b), (1, .ref (xA G 0)), (2, .ref (B 0)), (3, .int x3)] → W p l e room_1 s m #[Value.ref b] below meth c H locs cells slots (lw_Z below #[Value.ref b] s) (F0 m 1395 ls [])) : W p l e room_1 s m #[Value.ref b] below meth c H locs cells slots (lw_Z below #[Value.ref b] s) (F0 m 805 ls []) := by
  have hx := hC.1.1
  have hb := hC.1.2.1
  have hts := hC.1.2.2.2.2
  have hbA : ¬ (fun q : Nat => s.heap.size ≤ q) b := Nat.not_le.mpr hbl
  have hcs : cells ≤ room_1.cells ∧ slots ≤ room_1.slots := ⟨by show cells ≤ 600000; omega, by show slots ≤ 7302250; omega⟩
  obtain ⟨r, σ', μ', hfx, hfm, hRe⟩ := hSt_fine σ μ (xs (x3 + (1 : Int32)).toNatClampNeg) hRe
  refine lv_aload_n hx hb dL_law_805 rfl (lv_at hl 1 rfl) ?_
  refine lv_aload_n hx hb dL_law_806 rfl (lv_at hl 0 rfl) ?_
  refine lv_iload_n hx hb dL_law_807 rfl (lv_at hl 3 rfl) ?_
  refine lv_iconst (v := 1) hx hb dL_law_808 (by decide) ?_
  refine lv_iadd hx hb dL_law_809 ?_
  refine va_sld hx hb hX hbl hbA hH.1.2.2.1 (sc_in (k := 1) hL j ej hj (by decide)) dL_law_810 ?_
  refine l_callX (As := [.int (xs (x3 + (1 : Int32)).toNatClampNeg)]) (rest := []) (cX_fine l G σ (xs (x3 + (1 : Int32)).toNatClampNeg) hfx) hC hH hl (cwV 1 hts (gV wmL_101 wvX7_fine) rfl rfl rfl hdX7_fine ⟨Nat.le_of_ble_eq_true rfl, Nat.le_of_ble_eq_true rfl⟩) rfl rfl (Nat.le_of_ble_eq_true rfl) hcs dL_law_811 (fun H locs hH => ?_)
  refine lv_aload_n hx hb dL_law_814 rfl (lv_at hl 2 rfl) ?_
  refine lv_aload_n hx hb dL_law_815 rfl (lv_at hl 0 rfl) ?_
  refine lv_iload_n hx hb dL_law_816 rfl (lv_at hl 3 rfl) ?_
  refine lv_iconst (v := 1) hx hb dL_law_817 (by decide) ?_
  refine lv_iadd hx hb dL_law_818 ?_
  refine va_sld hx hb hX hbl hbA hH.1.2.2.1 (sc_in (k := 1) hL j ej hj (by decide)) dL_law_819 ?_
  refine l_callM (As := [.int (xs (x3 + (1 : Int32)).toNatClampNeg)]) (rest := [.int r]) (cM_fine l (xD G) (xK G 0) B μ (xs (x3 + (1 : Int32)).toNatClampNeg) hfm) hC hH hl (cwV 1 hts (gV wmL_104 wvX8_fine) rfl rfl rfl hdX8_fine ⟨Nat.le_of_ble_eq_true rfl, Nat.le_of_ble_eq_true rfl⟩) rfl rfl (Nat.le_of_ble_eq_true rfl) hcs dL_law_820 (fun H locs hH => ?_)
  refine lv_icmp_eq (tgt := 1395) hx hb dL_law_823 (by decide) (fun _ => ?_) (fun c9 => absurd rfl c9)
  exact hgo σ' μ' hRe cells slots (by omega) (by omega) H locs ls hH hl

set_option maxHeartbeats 4000000 in
set_option maxRecDepth 100000 in
theorem law_feed {p : Program} {l : Launch} {e : Env} {s : State} {m : MethodId} {below : List Frame} {meth : Method} {c : Code} {b L : Nat} {xs : Nat → Int32} {G : XG} {B : Nat → Nat} {Re : XS → MS → Prop} (hL : L ≤ 3072) (hC : jC p s m #[Value.ref b] meth c cL_law 4 RL) (hX : va_X b L xs s s.heap) (hbl : b < s.heap.size) (hSt_feed : Ls_feed Re) (n j : Nat) (x3 : Int32) (ej : x3 = nI j) (hj : j + 6 ≤ L) (σ : XS) (μ : MS) (hRe : Re σ μ) (cells slots : Nat) (hc1 : cells + 3 * (n + 1) ≤ 600000) (hc2 : slots + 196 * (n + 1) ≤ 7302250) (H : Heap) (locs : List Loc) (ls : Array Slot) (hH : lH G B s (fun q : Nat => s.heap.size ≤ q) σ μ H locs) (hl : lv_has ls 4 [(0, .ref b), (1, .ref (xA G 0)), (2, .ref (B 0)), (3, .int x3)])
    (hgo : ∀ (σ : XS) (μ : MS), Re σ μ → ∀ (cells slots : Nat), cells + 3 * n ≤ 600000 → slots + 196 * n ≤ 7302250 → ∀ (H : Heap) (locs : List Loc) (ls : Array Slot), lH G B s (fun q : Nat => s.heap.size ≤ q) σ μ H locs → lv_has ls 4 [(0, .ref b), (1, .ref (xA G 0)), (2, .ref (B 0)), (3, .int x3)] → W p l e room_1 s m #[Value.ref b] below meth c H locs cells slots (lw_Z below #[Value.ref b] s) (F0 m 1395 ls [])) : W p l e room_1 s m #[Value.ref b] below meth c H locs cells slots (lw_Z below #[Value.ref b] s) (F0 m 828 ls []) := by
  have hx := hC.1.1
  have hb := hC.1.2.1
  have hts := hC.1.2.2.2.2
  have hbA : ¬ (fun q : Nat => s.heap.size ≤ q) b := Nat.not_le.mpr hbl
  have hcs : cells ≤ room_1.cells ∧ slots ≤ room_1.slots := ⟨by show cells ≤ 600000; omega, by show slots ≤ 7302250; omega⟩
  obtain ⟨r, σ', μ', hfx, hfm, hRe⟩ := hSt_feed σ μ (xs (x3 + (1 : Int32)).toNatClampNeg) (xs (x3 + (2 : Int32)).toNatClampNeg) (xs (x3 + (3 : Int32)).toNatClampNeg) hRe
  refine lv_aload_n hx hb dL_law_828 rfl (lv_at hl 1 rfl) ?_
  refine lv_aload_n hx hb dL_law_829 rfl (lv_at hl 0 rfl) ?_
  refine lv_iload_n hx hb dL_law_830 rfl (lv_at hl 3 rfl) ?_
  refine lv_iconst (v := 1) hx hb dL_law_831 (by decide) ?_
  refine lv_iadd hx hb dL_law_832 ?_
  refine va_sld hx hb hX hbl hbA hH.1.2.2.1 (sc_in (k := 1) hL j ej hj (by decide)) dL_law_833 ?_
  refine lv_aload_n hx hb dL_law_834 rfl (lv_at hl 0 rfl) ?_
  refine lv_iload_n hx hb dL_law_835 rfl (lv_at hl 3 rfl) ?_
  refine lv_iconst (v := 2) hx hb dL_law_836 (by decide) ?_
  refine lv_iadd hx hb dL_law_837 ?_
  refine va_sld hx hb hX hbl hbA hH.1.2.2.1 (sc_in (k := 2) hL j ej hj (by decide)) dL_law_838 ?_
  refine lv_aload_n hx hb dL_law_839 rfl (lv_at hl 0 rfl) ?_
  refine lv_iload_n hx hb dL_law_840 rfl (lv_at hl 3 rfl) ?_
  refine lv_iconst (v := 3) hx hb dL_law_841 (by decide) ?_
  refine lv_iadd hx hb dL_law_842 ?_
  refine va_sld hx hb hX hbl hbA hH.1.2.2.1 (sc_in (k := 3) hL j ej hj (by decide)) dL_law_843 ?_
  refine l_callX (As := [.int (xs (x3 + (1 : Int32)).toNatClampNeg), .int (xs (x3 + (2 : Int32)).toNatClampNeg), .int (xs (x3 + (3 : Int32)).toNatClampNeg)]) (rest := []) (cX_feed l G σ (xs (x3 + (1 : Int32)).toNatClampNeg) (xs (x3 + (2 : Int32)).toNatClampNeg) (xs (x3 + (3 : Int32)).toNatClampNeg) hfx) hC hH hl (cwV 3 hts (gV wmL_105 wvX7_feed) rfl rfl rfl hdX7_feed ⟨Nat.le_of_ble_eq_true rfl, Nat.le_of_ble_eq_true rfl⟩) rfl rfl (Nat.le_of_ble_eq_true rfl) hcs dL_law_844 (fun H locs hH => ?_)
  refine lv_aload_n hx hb dL_law_847 rfl (lv_at hl 2 rfl) ?_
  refine lv_aload_n hx hb dL_law_848 rfl (lv_at hl 0 rfl) ?_
  refine lv_iload_n hx hb dL_law_849 rfl (lv_at hl 3 rfl) ?_
  refine lv_iconst (v := 1) hx hb dL_law_850 (by decide) ?_
  refine lv_iadd hx hb dL_law_851 ?_
  refine va_sld hx hb hX hbl hbA hH.1.2.2.1 (sc_in (k := 1) hL j ej hj (by decide)) dL_law_852 ?_
  refine lv_aload_n hx hb dL_law_853 rfl (lv_at hl 0 rfl) ?_
  refine lv_iload_n hx hb dL_law_854 rfl (lv_at hl 3 rfl) ?_
  refine lv_iconst (v := 2) hx hb dL_law_855 (by decide) ?_
  refine lv_iadd hx hb dL_law_856 ?_
  refine va_sld hx hb hX hbl hbA hH.1.2.2.1 (sc_in (k := 2) hL j ej hj (by decide)) dL_law_857 ?_
  refine lv_aload_n hx hb dL_law_858 rfl (lv_at hl 0 rfl) ?_
  refine lv_iload_n hx hb dL_law_859 rfl (lv_at hl 3 rfl) ?_
  refine lv_iconst (v := 3) hx hb dL_law_860 (by decide) ?_
  refine lv_iadd hx hb dL_law_861 ?_
  refine va_sld hx hb hX hbl hbA hH.1.2.2.1 (sc_in (k := 3) hL j ej hj (by decide)) dL_law_862 ?_
  refine l_callM (As := [.int (xs (x3 + (1 : Int32)).toNatClampNeg), .int (xs (x3 + (2 : Int32)).toNatClampNeg), .int (xs (x3 + (3 : Int32)).toNatClampNeg)]) (rest := [.int r]) (cM_feed l (xD G) (xK G 0) B μ (xs (x3 + (1 : Int32)).toNatClampNeg) (xs (x3 + (2 : Int32)).toNatClampNeg) (xs (x3 + (3 : Int32)).toNatClampNeg) hfm) hC hH hl (cwV 3 hts (gV wmL_108 wvX8_feed) rfl rfl rfl hdX8_feed ⟨Nat.le_of_ble_eq_true rfl, Nat.le_of_ble_eq_true rfl⟩) rfl rfl (Nat.le_of_ble_eq_true rfl) hcs dL_law_863 (fun H locs hH => ?_)
  refine lv_icmp_eq (tgt := 1395) hx hb dL_law_866 (by decide) (fun _ => ?_) (fun c9 => absurd rfl c9)
  exact hgo σ' μ' hRe cells slots (by omega) (by omega) H locs ls hH hl

set_option maxHeartbeats 4000000 in
set_option maxRecDepth 100000 in
theorem law_trim {p : Program} {l : Launch} {e : Env} {s : State} {m : MethodId} {below : List Frame} {meth : Method} {c : Code} {b L : Nat} {xs : Nat → Int32} {G : XG} {B : Nat → Nat} {Re : XS → MS → Prop} (hL : L ≤ 3072) (hC : jC p s m #[Value.ref b] meth c cL_law 4 RL) (hX : va_X b L xs s s.heap) (hbl : b < s.heap.size) (hSt_trim : Ls_trim Re) (n j : Nat) (x3 : Int32) (ej : x3 = nI j) (hj : j + 6 ≤ L) (σ : XS) (μ : MS) (hRe : Re σ μ) (cells slots : Nat) (hc1 : cells + 3 * (n + 1) ≤ 600000) (hc2 : slots + 196 * (n + 1) ≤ 7302250) (H : Heap) (locs : List Loc) (ls : Array Slot) (hH : lH G B s (fun q : Nat => s.heap.size ≤ q) σ μ H locs) (hl : lv_has ls 4 [(0, .ref b), (1, .ref (xA G 0)), (2, .ref (B 0)), (3, .int x3)])
    (hgo : ∀ (σ : XS) (μ : MS), Re σ μ → ∀ (cells slots : Nat), cells + 3 * n ≤ 600000 → slots + 196 * n ≤ 7302250 → ∀ (H : Heap) (locs : List Loc) (ls : Array Slot), lH G B s (fun q : Nat => s.heap.size ≤ q) σ μ H locs → lv_has ls 4 [(0, .ref b), (1, .ref (xA G 0)), (2, .ref (B 0)), (3, .int x3)] → W p l e room_1 s m #[Value.ref b] below meth c H locs cells slots (lw_Z below #[Value.ref b] s) (F0 m 1395 ls [])) : W p l e room_1 s m #[Value.ref b] below meth c H locs cells slots (lw_Z below #[Value.ref b] s) (F0 m 871 ls []) := by
  have hx := hC.1.1
  have hb := hC.1.2.1
  have hts := hC.1.2.2.2.2
  have hbA : ¬ (fun q : Nat => s.heap.size ≤ q) b := Nat.not_le.mpr hbl
  have hcs : cells ≤ room_1.cells ∧ slots ≤ room_1.slots := ⟨by show cells ≤ 600000; omega, by show slots ≤ 7302250; omega⟩
  obtain ⟨r, σ', μ', hfx, hfm, hRe⟩ := hSt_trim σ μ (xs (x3 + (1 : Int32)).toNatClampNeg) hRe
  refine lv_aload_n hx hb dL_law_871 rfl (lv_at hl 1 rfl) ?_
  refine lv_aload_n hx hb dL_law_872 rfl (lv_at hl 0 rfl) ?_
  refine lv_iload_n hx hb dL_law_873 rfl (lv_at hl 3 rfl) ?_
  refine lv_iconst (v := 1) hx hb dL_law_874 (by decide) ?_
  refine lv_iadd hx hb dL_law_875 ?_
  refine va_sld hx hb hX hbl hbA hH.1.2.2.1 (sc_in (k := 1) hL j ej hj (by decide)) dL_law_876 ?_
  refine l_callX (As := [.int (xs (x3 + (1 : Int32)).toNatClampNeg)]) (rest := []) (cX_trim l G σ (xs (x3 + (1 : Int32)).toNatClampNeg) hfx) hC hH hl (cwV 1 hts (gV wmL_109 wvX7_trim) rfl rfl rfl hdX7_trim ⟨Nat.le_of_ble_eq_true rfl, Nat.le_of_ble_eq_true rfl⟩) rfl rfl (Nat.le_of_ble_eq_true rfl) hcs dL_law_877 (fun H locs hH => ?_)
  refine lv_aload_n hx hb dL_law_880 rfl (lv_at hl 2 rfl) ?_
  refine lv_aload_n hx hb dL_law_881 rfl (lv_at hl 0 rfl) ?_
  refine lv_iload_n hx hb dL_law_882 rfl (lv_at hl 3 rfl) ?_
  refine lv_iconst (v := 1) hx hb dL_law_883 (by decide) ?_
  refine lv_iadd hx hb dL_law_884 ?_
  refine va_sld hx hb hX hbl hbA hH.1.2.2.1 (sc_in (k := 1) hL j ej hj (by decide)) dL_law_885 ?_
  refine l_callM (As := [.int (xs (x3 + (1 : Int32)).toNatClampNeg)]) (rest := [.int r]) (cM_trim l (xD G) (xK G 0) B μ (xs (x3 + (1 : Int32)).toNatClampNeg) hfm) hC hH hl (cwV 1 hts (gV wmL_112 wvX8_trim) rfl rfl rfl hdX8_trim ⟨Nat.le_of_ble_eq_true rfl, Nat.le_of_ble_eq_true rfl⟩) rfl rfl (Nat.le_of_ble_eq_true rfl) hcs dL_law_886 (fun H locs hH => ?_)
  refine lv_icmp_eq (tgt := 1395) hx hb dL_law_889 (by decide) (fun _ => ?_) (fun c9 => absurd rfl c9)
  exact hgo σ' μ' hRe cells slots (by omega) (by omega) H locs ls hH hl

set_option maxHeartbeats 4000000 in
set_option maxRecDepth 100000 in
theorem law_text {p : Program} {l : Launch} {e : Env} {s : State} {m : MethodId} {below : List Frame} {meth : Method} {c : Code} {b L : Nat} {xs : Nat → Int32} {G : XG} {B : Nat → Nat} {Re : XS → MS → Prop} (hL : L ≤ 3072) (hC : jC p s m #[Value.ref b] meth c cL_law 4 RL) (hX : va_X b L xs s s.heap) (hbl : b < s.heap.size) (hSt_text : Ls_text Re) (n j : Nat) (x3 : Int32) (ej : x3 = nI j) (hj : j + 6 ≤ L) (σ : XS) (μ : MS) (hRe : Re σ μ) (cells slots : Nat) (hc1 : cells + 3 * (n + 1) ≤ 600000) (hc2 : slots + 196 * (n + 1) ≤ 7302250) (H : Heap) (locs : List Loc) (ls : Array Slot) (hH : lH G B s (fun q : Nat => s.heap.size ≤ q) σ μ H locs) (hl : lv_has ls 4 [(0, .ref b), (1, .ref (xA G 0)), (2, .ref (B 0)), (3, .int x3)])
    (hgo : ∀ (σ : XS) (μ : MS), Re σ μ → ∀ (cells slots : Nat), cells + 3 * n ≤ 600000 → slots + 196 * n ≤ 7302250 → ∀ (H : Heap) (locs : List Loc) (ls : Array Slot), lH G B s (fun q : Nat => s.heap.size ≤ q) σ μ H locs → lv_has ls 4 [(0, .ref b), (1, .ref (xA G 0)), (2, .ref (B 0)), (3, .int x3)] → W p l e room_1 s m #[Value.ref b] below meth c H locs cells slots (lw_Z below #[Value.ref b] s) (F0 m 1395 ls [])) : W p l e room_1 s m #[Value.ref b] below meth c H locs cells slots (lw_Z below #[Value.ref b] s) (F0 m 894 ls []) := by
  have hx := hC.1.1
  have hb := hC.1.2.1
  have hts := hC.1.2.2.2.2
  have hbA : ¬ (fun q : Nat => s.heap.size ≤ q) b := Nat.not_le.mpr hbl
  have hcs : cells ≤ room_1.cells ∧ slots ≤ room_1.slots := ⟨by show cells ≤ 600000; omega, by show slots ≤ 7302250; omega⟩
  obtain ⟨z, hx1, hx2, hx3⟩ := hSt_text σ μ hRe
  refine lv_aload_n hx hb dL_law_894 rfl (lv_at hl 1 rfl) ?_
  refine l_callT (rest := []) (cX_text l G σ hx1 hx2) hC hH hl (cwV 0 hts (gV wmL_113 wvX7_text) rfl rfl rfl hdX7_text ⟨Nat.le_of_ble_eq_true rfl, Nat.le_of_ble_eq_true rfl⟩) rfl (Nat.le_of_ble_eq_true rfl) ⟨by show cells + 3 ≤ 600000; omega, by show slots + 196 ≤ 7302250; omega⟩ dL_law_895 (fun r u H locs hq hH => ?_)
  obtain ⟨μ', hfm, hRe⟩ := hx3 r u hq
  refine lv_aload_n hx hb dL_law_898 rfl (lv_at hl 2 rfl) ?_
  refine l_callM (As := []) (rest := [.int r]) (cM_text l (xD G) (xK G 0) B μ hfm) hC hH hl (cwV 0 hts (gV wmL_116 wvX8_text) rfl rfl rfl hdX8_text ⟨Nat.le_of_ble_eq_true rfl, Nat.le_of_ble_eq_true rfl⟩) rfl rfl (Nat.le_of_ble_eq_true rfl) ⟨by show cells + 3 ≤ 600000; omega, by show slots + 196 ≤ 7302250; omega⟩ dL_law_899 (fun H locs hH => ?_)
  refine lv_icmp_eq (tgt := 1395) hx hb dL_law_902 (by decide) (fun _ => ?_) (fun c9 => absurd rfl c9)
  refine W.widen (k := cells + 3) (n := slots + 196) (by omega) (by omega) ?_
  exact hgo u μ' hRe (cells + 3) (slots + 196) (by omega) (by omega) H locs ls hH hl

set_option maxHeartbeats 4000000 in
set_option maxRecDepth 100000 in
theorem law_textTold {p : Program} {l : Launch} {e : Env} {s : State} {m : MethodId} {below : List Frame} {meth : Method} {c : Code} {b L : Nat} {xs : Nat → Int32} {G : XG} {B : Nat → Nat} {Re : XS → MS → Prop} (hL : L ≤ 3072) (hC : jC p s m #[Value.ref b] meth c cL_law 4 RL) (hX : va_X b L xs s s.heap) (hbl : b < s.heap.size) (hSt_textTold : Ls_textTold Re) (n j : Nat) (x3 : Int32) (ej : x3 = nI j) (hj : j + 6 ≤ L) (σ : XS) (μ : MS) (hRe : Re σ μ) (cells slots : Nat) (hc1 : cells + 3 * (n + 1) ≤ 600000) (hc2 : slots + 196 * (n + 1) ≤ 7302250) (H : Heap) (locs : List Loc) (ls : Array Slot) (hH : lH G B s (fun q : Nat => s.heap.size ≤ q) σ μ H locs) (hl : lv_has ls 4 [(0, .ref b), (1, .ref (xA G 0)), (2, .ref (B 0)), (3, .int x3)])
    (hgo : ∀ (σ : XS) (μ : MS), Re σ μ → ∀ (cells slots : Nat), cells + 3 * n ≤ 600000 → slots + 196 * n ≤ 7302250 → ∀ (H : Heap) (locs : List Loc) (ls : Array Slot), lH G B s (fun q : Nat => s.heap.size ≤ q) σ μ H locs → lv_has ls 4 [(0, .ref b), (1, .ref (xA G 0)), (2, .ref (B 0)), (3, .int x3)] → W p l e room_1 s m #[Value.ref b] below meth c H locs cells slots (lw_Z below #[Value.ref b] s) (F0 m 1395 ls [])) : W p l e room_1 s m #[Value.ref b] below meth c H locs cells slots (lw_Z below #[Value.ref b] s) (F0 m 907 ls []) := by
  have hx := hC.1.1
  have hb := hC.1.2.1
  have hts := hC.1.2.2.2.2
  have hbA : ¬ (fun q : Nat => s.heap.size ≤ q) b := Nat.not_le.mpr hbl
  have hcs : cells ≤ room_1.cells ∧ slots ≤ room_1.slots := ⟨by show cells ≤ 600000; omega, by show slots ≤ 7302250; omega⟩
  obtain ⟨r, hfx, hfm⟩ := hSt_textTold σ μ (xs (x3 + (1 : Int32)).toNatClampNeg) (xs (x3 + (2 : Int32)).toNatClampNeg) hRe
  refine lv_aload_n hx hb dL_law_907 rfl (lv_at hl 1 rfl) ?_
  refine lv_aload_n hx hb dL_law_908 rfl (lv_at hl 0 rfl) ?_
  refine lv_iload_n hx hb dL_law_909 rfl (lv_at hl 3 rfl) ?_
  refine lv_iconst (v := 1) hx hb dL_law_910 (by decide) ?_
  refine lv_iadd hx hb dL_law_911 ?_
  refine va_sld hx hb hX hbl hbA hH.1.2.2.1 (sc_in (k := 1) hL j ej hj (by decide)) dL_law_912 ?_
  refine lv_aload_n hx hb dL_law_913 rfl (lv_at hl 0 rfl) ?_
  refine lv_iload_n hx hb dL_law_914 rfl (lv_at hl 3 rfl) ?_
  refine lv_iconst (v := 2) hx hb dL_law_915 (by decide) ?_
  refine lv_iadd hx hb dL_law_916 ?_
  refine va_sld hx hb hX hbl hbA hH.1.2.2.1 (sc_in (k := 2) hL j ej hj (by decide)) dL_law_917 ?_
  refine l_callX (As := [.int (xs (x3 + (1 : Int32)).toNatClampNeg), .int (xs (x3 + (2 : Int32)).toNatClampNeg)]) (rest := []) (cX_textTold l G σ (xs (x3 + (1 : Int32)).toNatClampNeg) (xs (x3 + (2 : Int32)).toNatClampNeg) hfx) hC hH hl (cwV 2 hts (gV wmL_117 wvX7_textTold) rfl rfl rfl hdX7_textTold ⟨Nat.le_of_ble_eq_true rfl, Nat.le_of_ble_eq_true rfl⟩) rfl rfl (Nat.le_of_ble_eq_true rfl) hcs dL_law_918 (fun H locs hH => ?_)
  refine lv_aload_n hx hb dL_law_921 rfl (lv_at hl 2 rfl) ?_
  refine lv_aload_n hx hb dL_law_922 rfl (lv_at hl 0 rfl) ?_
  refine lv_iload_n hx hb dL_law_923 rfl (lv_at hl 3 rfl) ?_
  refine lv_iconst (v := 1) hx hb dL_law_924 (by decide) ?_
  refine lv_iadd hx hb dL_law_925 ?_
  refine va_sld hx hb hX hbl hbA hH.1.2.2.1 (sc_in (k := 1) hL j ej hj (by decide)) dL_law_926 ?_
  refine lv_aload_n hx hb dL_law_927 rfl (lv_at hl 0 rfl) ?_
  refine lv_iload_n hx hb dL_law_928 rfl (lv_at hl 3 rfl) ?_
  refine lv_iconst (v := 2) hx hb dL_law_929 (by decide) ?_
  refine lv_iadd hx hb dL_law_930 ?_
  refine va_sld hx hb hX hbl hbA hH.1.2.2.1 (sc_in (k := 2) hL j ej hj (by decide)) dL_law_931 ?_
  refine l_callM (As := [.int (xs (x3 + (1 : Int32)).toNatClampNeg), .int (xs (x3 + (2 : Int32)).toNatClampNeg)]) (rest := [.int r]) (cM_textTold l (xD G) (xK G 0) B μ (xs (x3 + (1 : Int32)).toNatClampNeg) (xs (x3 + (2 : Int32)).toNatClampNeg) hfm) hC hH hl (cwV 2 hts (gV wmL_120 wvX8_textTold) rfl rfl rfl hdX8_textTold ⟨Nat.le_of_ble_eq_true rfl, Nat.le_of_ble_eq_true rfl⟩) rfl rfl (Nat.le_of_ble_eq_true rfl) hcs dL_law_932 (fun H locs hH => ?_)
  refine lv_icmp_eq (tgt := 1395) hx hb dL_law_935 (by decide) (fun _ => ?_) (fun c9 => absurd rfl c9)
  exact hgo σ μ hRe cells slots (by omega) (by omega) H locs ls hH hl

set_option maxHeartbeats 4000000 in
set_option maxRecDepth 100000 in
theorem law_why {p : Program} {l : Launch} {e : Env} {s : State} {m : MethodId} {below : List Frame} {meth : Method} {c : Code} {b L : Nat} {xs : Nat → Int32} {G : XG} {B : Nat → Nat} {Re : XS → MS → Prop} (hL : L ≤ 3072) (hC : jC p s m #[Value.ref b] meth c cL_law 4 RL) (hX : va_X b L xs s s.heap) (hbl : b < s.heap.size) (hSt_why : Ls_why Re) (n j : Nat) (x3 : Int32) (ej : x3 = nI j) (hj : j + 6 ≤ L) (σ : XS) (μ : MS) (hRe : Re σ μ) (cells slots : Nat) (hc1 : cells + 3 * (n + 1) ≤ 600000) (hc2 : slots + 196 * (n + 1) ≤ 7302250) (H : Heap) (locs : List Loc) (ls : Array Slot) (hH : lH G B s (fun q : Nat => s.heap.size ≤ q) σ μ H locs) (hl : lv_has ls 4 [(0, .ref b), (1, .ref (xA G 0)), (2, .ref (B 0)), (3, .int x3)])
    (hgo : ∀ (σ : XS) (μ : MS), Re σ μ → ∀ (cells slots : Nat), cells + 3 * n ≤ 600000 → slots + 196 * n ≤ 7302250 → ∀ (H : Heap) (locs : List Loc) (ls : Array Slot), lH G B s (fun q : Nat => s.heap.size ≤ q) σ μ H locs → lv_has ls 4 [(0, .ref b), (1, .ref (xA G 0)), (2, .ref (B 0)), (3, .int x3)] → W p l e room_1 s m #[Value.ref b] below meth c H locs cells slots (lw_Z below #[Value.ref b] s) (F0 m 1395 ls [])) : W p l e room_1 s m #[Value.ref b] below meth c H locs cells slots (lw_Z below #[Value.ref b] s) (F0 m 940 ls []) := by
  have hx := hC.1.1
  have hb := hC.1.2.1
  have hts := hC.1.2.2.2.2
  have hbA : ¬ (fun q : Nat => s.heap.size ≤ q) b := Nat.not_le.mpr hbl
  have hcs : cells ≤ room_1.cells ∧ slots ≤ room_1.slots := ⟨by show cells ≤ 600000; omega, by show slots ≤ 7302250; omega⟩
  obtain ⟨r, hfx, hfm⟩ := hSt_why σ μ (xs (x3 + (1 : Int32)).toNatClampNeg) hRe
  refine lv_aload_n hx hb dL_law_940 rfl (lv_at hl 1 rfl) ?_
  refine lv_aload_n hx hb dL_law_941 rfl (lv_at hl 0 rfl) ?_
  refine lv_iload_n hx hb dL_law_942 rfl (lv_at hl 3 rfl) ?_
  refine lv_iconst (v := 1) hx hb dL_law_943 (by decide) ?_
  refine lv_iadd hx hb dL_law_944 ?_
  refine va_sld hx hb hX hbl hbA hH.1.2.2.1 (sc_in (k := 1) hL j ej hj (by decide)) dL_law_945 ?_
  refine l_callX (As := [.int (xs (x3 + (1 : Int32)).toNatClampNeg)]) (rest := []) (cX_why l G σ (xs (x3 + (1 : Int32)).toNatClampNeg) hfx) hC hH hl (cwV 1 hts (gV wmL_121 wvX7_why) rfl rfl rfl hdX7_why ⟨Nat.le_of_ble_eq_true rfl, Nat.le_of_ble_eq_true rfl⟩) rfl rfl (Nat.le_of_ble_eq_true rfl) hcs dL_law_946 (fun H locs hH => ?_)
  refine lv_aload_n hx hb dL_law_949 rfl (lv_at hl 2 rfl) ?_
  refine lv_aload_n hx hb dL_law_950 rfl (lv_at hl 0 rfl) ?_
  refine lv_iload_n hx hb dL_law_951 rfl (lv_at hl 3 rfl) ?_
  refine lv_iconst (v := 1) hx hb dL_law_952 (by decide) ?_
  refine lv_iadd hx hb dL_law_953 ?_
  refine va_sld hx hb hX hbl hbA hH.1.2.2.1 (sc_in (k := 1) hL j ej hj (by decide)) dL_law_954 ?_
  refine l_callM (As := [.int (xs (x3 + (1 : Int32)).toNatClampNeg)]) (rest := [.int r]) (cM_why l (xD G) (xK G 0) B μ (xs (x3 + (1 : Int32)).toNatClampNeg) hfm) hC hH hl (cwV 1 hts (gV wmL_124 wvX8_why) rfl rfl rfl hdX8_why ⟨Nat.le_of_ble_eq_true rfl, Nat.le_of_ble_eq_true rfl⟩) rfl rfl (Nat.le_of_ble_eq_true rfl) hcs dL_law_955 (fun H locs hH => ?_)
  refine lv_icmp_eq (tgt := 1395) hx hb dL_law_958 (by decide) (fun _ => ?_) (fun c9 => absurd rfl c9)
  exact hgo σ μ hRe cells slots (by omega) (by omega) H locs ls hH hl

set_option maxHeartbeats 4000000 in
set_option maxRecDepth 100000 in
theorem law_sheet {p : Program} {l : Launch} {e : Env} {s : State} {m : MethodId} {below : List Frame} {meth : Method} {c : Code} {b L : Nat} {xs : Nat → Int32} {G : XG} {B : Nat → Nat} {Re : XS → MS → Prop} (hL : L ≤ 3072) (hC : jC p s m #[Value.ref b] meth c cL_law 4 RL) (hX : va_X b L xs s s.heap) (hbl : b < s.heap.size) (hSt_sheet : Ls_sheet Re) (n j : Nat) (x3 : Int32) (ej : x3 = nI j) (hj : j + 6 ≤ L) (σ : XS) (μ : MS) (hRe : Re σ μ) (cells slots : Nat) (hc1 : cells + 3 * (n + 1) ≤ 600000) (hc2 : slots + 196 * (n + 1) ≤ 7302250) (H : Heap) (locs : List Loc) (ls : Array Slot) (hH : lH G B s (fun q : Nat => s.heap.size ≤ q) σ μ H locs) (hl : lv_has ls 4 [(0, .ref b), (1, .ref (xA G 0)), (2, .ref (B 0)), (3, .int x3)])
    (hgo : ∀ (σ : XS) (μ : MS), Re σ μ → ∀ (cells slots : Nat), cells + 3 * n ≤ 600000 → slots + 196 * n ≤ 7302250 → ∀ (H : Heap) (locs : List Loc) (ls : Array Slot), lH G B s (fun q : Nat => s.heap.size ≤ q) σ μ H locs → lv_has ls 4 [(0, .ref b), (1, .ref (xA G 0)), (2, .ref (B 0)), (3, .int x3)] → W p l e room_1 s m #[Value.ref b] below meth c H locs cells slots (lw_Z below #[Value.ref b] s) (F0 m 1395 ls [])) : W p l e room_1 s m #[Value.ref b] below meth c H locs cells slots (lw_Z below #[Value.ref b] s) (F0 m 963 ls []) := by
  have hx := hC.1.1
  have hb := hC.1.2.1
  have hts := hC.1.2.2.2.2
  have hbA : ¬ (fun q : Nat => s.heap.size ≤ q) b := Nat.not_le.mpr hbl
  have hcs : cells ≤ room_1.cells ∧ slots ≤ room_1.slots := ⟨by show cells ≤ 600000; omega, by show slots ≤ 7302250; omega⟩
  obtain ⟨r, σ', μ', hfx, hfm, hRe⟩ := hSt_sheet σ μ (xs (x3 + (1 : Int32)).toNatClampNeg) (xs (x3 + (2 : Int32)).toNatClampNeg) (xs (x3 + (3 : Int32)).toNatClampNeg) hRe
  refine lv_aload_n hx hb dL_law_963 rfl (lv_at hl 1 rfl) ?_
  refine lv_aload_n hx hb dL_law_964 rfl (lv_at hl 0 rfl) ?_
  refine lv_iload_n hx hb dL_law_965 rfl (lv_at hl 3 rfl) ?_
  refine lv_iconst (v := 1) hx hb dL_law_966 (by decide) ?_
  refine lv_iadd hx hb dL_law_967 ?_
  refine va_sld hx hb hX hbl hbA hH.1.2.2.1 (sc_in (k := 1) hL j ej hj (by decide)) dL_law_968 ?_
  refine lv_aload_n hx hb dL_law_969 rfl (lv_at hl 0 rfl) ?_
  refine lv_iload_n hx hb dL_law_970 rfl (lv_at hl 3 rfl) ?_
  refine lv_iconst (v := 2) hx hb dL_law_971 (by decide) ?_
  refine lv_iadd hx hb dL_law_972 ?_
  refine va_sld hx hb hX hbl hbA hH.1.2.2.1 (sc_in (k := 2) hL j ej hj (by decide)) dL_law_973 ?_
  refine lv_aload_n hx hb dL_law_974 rfl (lv_at hl 0 rfl) ?_
  refine lv_iload_n hx hb dL_law_975 rfl (lv_at hl 3 rfl) ?_
  refine lv_iconst (v := 3) hx hb dL_law_976 (by decide) ?_
  refine lv_iadd hx hb dL_law_977 ?_
  refine va_sld hx hb hX hbl hbA hH.1.2.2.1 (sc_in (k := 3) hL j ej hj (by decide)) dL_law_978 ?_
  refine l_callX (As := [.int (xs (x3 + (1 : Int32)).toNatClampNeg), .int (xs (x3 + (2 : Int32)).toNatClampNeg), .int (xs (x3 + (3 : Int32)).toNatClampNeg)]) (rest := []) (cX_sheet l G σ (xs (x3 + (1 : Int32)).toNatClampNeg) (xs (x3 + (2 : Int32)).toNatClampNeg) (xs (x3 + (3 : Int32)).toNatClampNeg) hfx) hC hH hl (cwV 3 hts (gV wmL_125 wvX7_sheet) rfl rfl rfl hdX7_sheet ⟨Nat.le_of_ble_eq_true rfl, Nat.le_of_ble_eq_true rfl⟩) rfl rfl (Nat.le_of_ble_eq_true rfl) hcs dL_law_979 (fun H locs hH => ?_)
  refine lv_aload_n hx hb dL_law_982 rfl (lv_at hl 2 rfl) ?_
  refine lv_aload_n hx hb dL_law_983 rfl (lv_at hl 0 rfl) ?_
  refine lv_iload_n hx hb dL_law_984 rfl (lv_at hl 3 rfl) ?_
  refine lv_iconst (v := 1) hx hb dL_law_985 (by decide) ?_
  refine lv_iadd hx hb dL_law_986 ?_
  refine va_sld hx hb hX hbl hbA hH.1.2.2.1 (sc_in (k := 1) hL j ej hj (by decide)) dL_law_987 ?_
  refine lv_aload_n hx hb dL_law_988 rfl (lv_at hl 0 rfl) ?_
  refine lv_iload_n hx hb dL_law_989 rfl (lv_at hl 3 rfl) ?_
  refine lv_iconst (v := 2) hx hb dL_law_990 (by decide) ?_
  refine lv_iadd hx hb dL_law_991 ?_
  refine va_sld hx hb hX hbl hbA hH.1.2.2.1 (sc_in (k := 2) hL j ej hj (by decide)) dL_law_992 ?_
  refine lv_aload_n hx hb dL_law_993 rfl (lv_at hl 0 rfl) ?_
  refine lv_iload_n hx hb dL_law_994 rfl (lv_at hl 3 rfl) ?_
  refine lv_iconst (v := 3) hx hb dL_law_995 (by decide) ?_
  refine lv_iadd hx hb dL_law_996 ?_
  refine va_sld hx hb hX hbl hbA hH.1.2.2.1 (sc_in (k := 3) hL j ej hj (by decide)) dL_law_997 ?_
  refine l_callM (As := [.int (xs (x3 + (1 : Int32)).toNatClampNeg), .int (xs (x3 + (2 : Int32)).toNatClampNeg), .int (xs (x3 + (3 : Int32)).toNatClampNeg)]) (rest := [.int r]) (cM_sheet l (xD G) (xK G 0) B μ (xs (x3 + (1 : Int32)).toNatClampNeg) (xs (x3 + (2 : Int32)).toNatClampNeg) (xs (x3 + (3 : Int32)).toNatClampNeg) hfm) hC hH hl (cwV 3 hts (gV wmL_128 wvX8_sheet) rfl rfl rfl hdX8_sheet ⟨Nat.le_of_ble_eq_true rfl, Nat.le_of_ble_eq_true rfl⟩) rfl rfl (Nat.le_of_ble_eq_true rfl) hcs dL_law_998 (fun H locs hH => ?_)
  refine lv_icmp_eq (tgt := 1395) hx hb dL_law_1001 (by decide) (fun _ => ?_) (fun c9 => absurd rfl c9)
  exact hgo σ' μ' hRe cells slots (by omega) (by omega) H locs ls hH hl

set_option maxHeartbeats 4000000 in
set_option maxRecDepth 100000 in
theorem law_mark {p : Program} {l : Launch} {e : Env} {s : State} {m : MethodId} {below : List Frame} {meth : Method} {c : Code} {b L : Nat} {xs : Nat → Int32} {G : XG} {B : Nat → Nat} {Re : XS → MS → Prop} (hL : L ≤ 3072) (hC : jC p s m #[Value.ref b] meth c cL_law 4 RL) (hX : va_X b L xs s s.heap) (hbl : b < s.heap.size) (hSt_mark : Ls_mark Re) (n j : Nat) (x3 : Int32) (ej : x3 = nI j) (hj : j + 6 ≤ L) (σ : XS) (μ : MS) (hRe : Re σ μ) (cells slots : Nat) (hc1 : cells + 3 * (n + 1) ≤ 600000) (hc2 : slots + 196 * (n + 1) ≤ 7302250) (H : Heap) (locs : List Loc) (ls : Array Slot) (hH : lH G B s (fun q : Nat => s.heap.size ≤ q) σ μ H locs) (hl : lv_has ls 4 [(0, .ref b), (1, .ref (xA G 0)), (2, .ref (B 0)), (3, .int x3)])
    (hgo : ∀ (σ : XS) (μ : MS), Re σ μ → ∀ (cells slots : Nat), cells + 3 * n ≤ 600000 → slots + 196 * n ≤ 7302250 → ∀ (H : Heap) (locs : List Loc) (ls : Array Slot), lH G B s (fun q : Nat => s.heap.size ≤ q) σ μ H locs → lv_has ls 4 [(0, .ref b), (1, .ref (xA G 0)), (2, .ref (B 0)), (3, .int x3)] → W p l e room_1 s m #[Value.ref b] below meth c H locs cells slots (lw_Z below #[Value.ref b] s) (F0 m 1395 ls [])) : W p l e room_1 s m #[Value.ref b] below meth c H locs cells slots (lw_Z below #[Value.ref b] s) (F0 m 1006 ls []) := by
  have hx := hC.1.1
  have hb := hC.1.2.1
  have hts := hC.1.2.2.2.2
  have hbA : ¬ (fun q : Nat => s.heap.size ≤ q) b := Nat.not_le.mpr hbl
  have hcs : cells ≤ room_1.cells ∧ slots ≤ room_1.slots := ⟨by show cells ≤ 600000; omega, by show slots ≤ 7302250; omega⟩
  obtain ⟨r, σ', μ', hfx, hfm, hRe⟩ := hSt_mark σ μ (xs (x3 + (1 : Int32)).toNatClampNeg) (xs (x3 + (2 : Int32)).toNatClampNeg) (xs (x3 + (3 : Int32)).toNatClampNeg) hRe
  refine lv_aload_n hx hb dL_law_1006 rfl (lv_at hl 1 rfl) ?_
  refine lv_aload_n hx hb dL_law_1007 rfl (lv_at hl 0 rfl) ?_
  refine lv_iload_n hx hb dL_law_1008 rfl (lv_at hl 3 rfl) ?_
  refine lv_iconst (v := 1) hx hb dL_law_1009 (by decide) ?_
  refine lv_iadd hx hb dL_law_1010 ?_
  refine va_sld hx hb hX hbl hbA hH.1.2.2.1 (sc_in (k := 1) hL j ej hj (by decide)) dL_law_1011 ?_
  refine lv_aload_n hx hb dL_law_1012 rfl (lv_at hl 0 rfl) ?_
  refine lv_iload_n hx hb dL_law_1013 rfl (lv_at hl 3 rfl) ?_
  refine lv_iconst (v := 2) hx hb dL_law_1014 (by decide) ?_
  refine lv_iadd hx hb dL_law_1015 ?_
  refine va_sld hx hb hX hbl hbA hH.1.2.2.1 (sc_in (k := 2) hL j ej hj (by decide)) dL_law_1016 ?_
  refine lv_aload_n hx hb dL_law_1017 rfl (lv_at hl 0 rfl) ?_
  refine lv_iload_n hx hb dL_law_1018 rfl (lv_at hl 3 rfl) ?_
  refine lv_iconst (v := 3) hx hb dL_law_1019 (by decide) ?_
  refine lv_iadd hx hb dL_law_1020 ?_
  refine va_sld hx hb hX hbl hbA hH.1.2.2.1 (sc_in (k := 3) hL j ej hj (by decide)) dL_law_1021 ?_
  refine l_callX (As := [.int (xs (x3 + (1 : Int32)).toNatClampNeg), .int (xs (x3 + (2 : Int32)).toNatClampNeg), .int (xs (x3 + (3 : Int32)).toNatClampNeg)]) (rest := []) (cX_mark l G σ (xs (x3 + (1 : Int32)).toNatClampNeg) (xs (x3 + (2 : Int32)).toNatClampNeg) (xs (x3 + (3 : Int32)).toNatClampNeg) hfx) hC hH hl (cwV 3 hts (gV wmL_129 wvX7_mark) rfl rfl rfl hdX7_mark ⟨Nat.le_of_ble_eq_true rfl, Nat.le_of_ble_eq_true rfl⟩) rfl rfl (Nat.le_of_ble_eq_true rfl) hcs dL_law_1022 (fun H locs hH => ?_)
  refine lv_aload_n hx hb dL_law_1025 rfl (lv_at hl 2 rfl) ?_
  refine lv_aload_n hx hb dL_law_1026 rfl (lv_at hl 0 rfl) ?_
  refine lv_iload_n hx hb dL_law_1027 rfl (lv_at hl 3 rfl) ?_
  refine lv_iconst (v := 1) hx hb dL_law_1028 (by decide) ?_
  refine lv_iadd hx hb dL_law_1029 ?_
  refine va_sld hx hb hX hbl hbA hH.1.2.2.1 (sc_in (k := 1) hL j ej hj (by decide)) dL_law_1030 ?_
  refine lv_aload_n hx hb dL_law_1031 rfl (lv_at hl 0 rfl) ?_
  refine lv_iload_n hx hb dL_law_1032 rfl (lv_at hl 3 rfl) ?_
  refine lv_iconst (v := 2) hx hb dL_law_1033 (by decide) ?_
  refine lv_iadd hx hb dL_law_1034 ?_
  refine va_sld hx hb hX hbl hbA hH.1.2.2.1 (sc_in (k := 2) hL j ej hj (by decide)) dL_law_1035 ?_
  refine lv_aload_n hx hb dL_law_1036 rfl (lv_at hl 0 rfl) ?_
  refine lv_iload_n hx hb dL_law_1037 rfl (lv_at hl 3 rfl) ?_
  refine lv_iconst (v := 3) hx hb dL_law_1038 (by decide) ?_
  refine lv_iadd hx hb dL_law_1039 ?_
  refine va_sld hx hb hX hbl hbA hH.1.2.2.1 (sc_in (k := 3) hL j ej hj (by decide)) dL_law_1040 ?_
  refine l_callM (As := [.int (xs (x3 + (1 : Int32)).toNatClampNeg), .int (xs (x3 + (2 : Int32)).toNatClampNeg), .int (xs (x3 + (3 : Int32)).toNatClampNeg)]) (rest := [.int r]) (cM_mark l (xD G) (xK G 0) B μ (xs (x3 + (1 : Int32)).toNatClampNeg) (xs (x3 + (2 : Int32)).toNatClampNeg) (xs (x3 + (3 : Int32)).toNatClampNeg) hfm) hC hH hl (cwV 3 hts (gV wmL_132 wvX8_mark) rfl rfl rfl hdX8_mark ⟨Nat.le_of_ble_eq_true rfl, Nat.le_of_ble_eq_true rfl⟩) rfl rfl (Nat.le_of_ble_eq_true rfl) hcs dL_law_1041 (fun H locs hH => ?_)
  refine lv_icmp_eq (tgt := 1395) hx hb dL_law_1044 (by decide) (fun _ => ?_) (fun c9 => absurd rfl c9)
  exact hgo σ' μ' hRe cells slots (by omega) (by omega) H locs ls hH hl

set_option maxHeartbeats 4000000 in
set_option maxRecDepth 100000 in
theorem law_pour {p : Program} {l : Launch} {e : Env} {s : State} {m : MethodId} {below : List Frame} {meth : Method} {c : Code} {b L : Nat} {xs : Nat → Int32} {G : XG} {B : Nat → Nat} {Re : XS → MS → Prop} (hL : L ≤ 3072) (hC : jC p s m #[Value.ref b] meth c cL_law 4 RL) (hX : va_X b L xs s s.heap) (hbl : b < s.heap.size) (hSt_pour : Ls_pour Re) (n j : Nat) (x3 : Int32) (ej : x3 = nI j) (hj : j + 6 ≤ L) (σ : XS) (μ : MS) (hRe : Re σ μ) (cells slots : Nat) (hc1 : cells + 3 * (n + 1) ≤ 600000) (hc2 : slots + 196 * (n + 1) ≤ 7302250) (H : Heap) (locs : List Loc) (ls : Array Slot) (hH : lH G B s (fun q : Nat => s.heap.size ≤ q) σ μ H locs) (hl : lv_has ls 4 [(0, .ref b), (1, .ref (xA G 0)), (2, .ref (B 0)), (3, .int x3)])
    (hgo : ∀ (σ : XS) (μ : MS), Re σ μ → ∀ (cells slots : Nat), cells + 3 * n ≤ 600000 → slots + 196 * n ≤ 7302250 → ∀ (H : Heap) (locs : List Loc) (ls : Array Slot), lH G B s (fun q : Nat => s.heap.size ≤ q) σ μ H locs → lv_has ls 4 [(0, .ref b), (1, .ref (xA G 0)), (2, .ref (B 0)), (3, .int x3)] → W p l e room_1 s m #[Value.ref b] below meth c H locs cells slots (lw_Z below #[Value.ref b] s) (F0 m 1395 ls [])) : W p l e room_1 s m #[Value.ref b] below meth c H locs cells slots (lw_Z below #[Value.ref b] s) (F0 m 1049 ls []) := by
  have hx := hC.1.1
  have hb := hC.1.2.1
  have hts := hC.1.2.2.2.2
  have hbA : ¬ (fun q : Nat => s.heap.size ≤ q) b := Nat.not_le.mpr hbl
  have hcs : cells ≤ room_1.cells ∧ slots ≤ room_1.slots := ⟨by show cells ≤ 600000; omega, by show slots ≤ 7302250; omega⟩
  obtain ⟨r, σ', μ', hfx, hfm, hRe⟩ := hSt_pour σ μ (xs (x3 + (1 : Int32)).toNatClampNeg) hRe
  refine lv_aload_n hx hb dL_law_1049 rfl (lv_at hl 1 rfl) ?_
  refine lv_aload_n hx hb dL_law_1050 rfl (lv_at hl 0 rfl) ?_
  refine lv_iload_n hx hb dL_law_1051 rfl (lv_at hl 3 rfl) ?_
  refine lv_iconst (v := 1) hx hb dL_law_1052 (by decide) ?_
  refine lv_iadd hx hb dL_law_1053 ?_
  refine va_sld hx hb hX hbl hbA hH.1.2.2.1 (sc_in (k := 1) hL j ej hj (by decide)) dL_law_1054 ?_
  refine l_callX (As := [.int (xs (x3 + (1 : Int32)).toNatClampNeg)]) (rest := []) (cX_pour l G σ (xs (x3 + (1 : Int32)).toNatClampNeg) hfx) hC hH hl (cwV 1 hts (gV wmL_133 wvX7_pour) rfl rfl rfl hdX7_pour ⟨Nat.le_of_ble_eq_true rfl, Nat.le_of_ble_eq_true rfl⟩) rfl rfl (Nat.le_of_ble_eq_true rfl) hcs dL_law_1055 (fun H locs hH => ?_)
  refine lv_aload_n hx hb dL_law_1058 rfl (lv_at hl 2 rfl) ?_
  refine lv_aload_n hx hb dL_law_1059 rfl (lv_at hl 0 rfl) ?_
  refine lv_iload_n hx hb dL_law_1060 rfl (lv_at hl 3 rfl) ?_
  refine lv_iconst (v := 1) hx hb dL_law_1061 (by decide) ?_
  refine lv_iadd hx hb dL_law_1062 ?_
  refine va_sld hx hb hX hbl hbA hH.1.2.2.1 (sc_in (k := 1) hL j ej hj (by decide)) dL_law_1063 ?_
  refine l_callM (As := [.int (xs (x3 + (1 : Int32)).toNatClampNeg)]) (rest := [.int r]) (cM_pour l (xD G) (xK G 0) B μ (xs (x3 + (1 : Int32)).toNatClampNeg) hfm) hC hH hl (cwV 1 hts (gV wmL_136 wvX8_pour) rfl rfl rfl hdX8_pour ⟨Nat.le_of_ble_eq_true rfl, Nat.le_of_ble_eq_true rfl⟩) rfl rfl (Nat.le_of_ble_eq_true rfl) hcs dL_law_1064 (fun H locs hH => ?_)
  refine lv_icmp_eq (tgt := 1395) hx hb dL_law_1067 (by decide) (fun _ => ?_) (fun c9 => absurd rfl c9)
  exact hgo σ' μ' hRe cells slots (by omega) (by omega) H locs ls hH hl

set_option maxHeartbeats 4000000 in
set_option maxRecDepth 100000 in
theorem law_reads {p : Program} {l : Launch} {e : Env} {s : State} {m : MethodId} {below : List Frame} {meth : Method} {c : Code} {b L : Nat} {xs : Nat → Int32} {G : XG} {B : Nat → Nat} {Re : XS → MS → Prop} (hL : L ≤ 3072) (hC : jC p s m #[Value.ref b] meth c cL_law 4 RL) (hX : va_X b L xs s s.heap) (hbl : b < s.heap.size) (hSt_reads : Ls_reads Re) (n j : Nat) (x3 : Int32) (ej : x3 = nI j) (hj : j + 6 ≤ L) (σ : XS) (μ : MS) (hRe : Re σ μ) (cells slots : Nat) (hc1 : cells + 3 * (n + 1) ≤ 600000) (hc2 : slots + 196 * (n + 1) ≤ 7302250) (H : Heap) (locs : List Loc) (ls : Array Slot) (hH : lH G B s (fun q : Nat => s.heap.size ≤ q) σ μ H locs) (hl : lv_has ls 4 [(0, .ref b), (1, .ref (xA G 0)), (2, .ref (B 0)), (3, .int x3)])
    (hgo : ∀ (σ : XS) (μ : MS), Re σ μ → ∀ (cells slots : Nat), cells + 3 * n ≤ 600000 → slots + 196 * n ≤ 7302250 → ∀ (H : Heap) (locs : List Loc) (ls : Array Slot), lH G B s (fun q : Nat => s.heap.size ≤ q) σ μ H locs → lv_has ls 4 [(0, .ref b), (1, .ref (xA G 0)), (2, .ref (B 0)), (3, .int x3)] → W p l e room_1 s m #[Value.ref b] below meth c H locs cells slots (lw_Z below #[Value.ref b] s) (F0 m 1395 ls [])) : W p l e room_1 s m #[Value.ref b] below meth c H locs cells slots (lw_Z below #[Value.ref b] s) (F0 m 1072 ls []) := by
  have hx := hC.1.1
  have hb := hC.1.2.1
  have hts := hC.1.2.2.2.2
  have hbA : ¬ (fun q : Nat => s.heap.size ≤ q) b := Nat.not_le.mpr hbl
  have hcs : cells ≤ room_1.cells ∧ slots ≤ room_1.slots := ⟨by show cells ≤ 600000; omega, by show slots ≤ 7302250; omega⟩
  obtain ⟨r, hfx, hfm⟩ := hSt_reads σ μ (xs (x3 + (1 : Int32)).toNatClampNeg) hRe
  refine lv_aload_n hx hb dL_law_1072 rfl (lv_at hl 1 rfl) ?_
  refine lv_aload_n hx hb dL_law_1073 rfl (lv_at hl 0 rfl) ?_
  refine lv_iload_n hx hb dL_law_1074 rfl (lv_at hl 3 rfl) ?_
  refine lv_iconst (v := 1) hx hb dL_law_1075 (by decide) ?_
  refine lv_iadd hx hb dL_law_1076 ?_
  refine va_sld hx hb hX hbl hbA hH.1.2.2.1 (sc_in (k := 1) hL j ej hj (by decide)) dL_law_1077 ?_
  refine l_callX (As := [.int (xs (x3 + (1 : Int32)).toNatClampNeg)]) (rest := []) (cX_reads l G σ (xs (x3 + (1 : Int32)).toNatClampNeg) hfx) hC hH hl (cwV 1 hts (gV wmL_137 wvX7_reads) rfl rfl rfl hdX7_reads ⟨Nat.le_of_ble_eq_true rfl, Nat.le_of_ble_eq_true rfl⟩) rfl rfl (Nat.le_of_ble_eq_true rfl) hcs dL_law_1078 (fun H locs hH => ?_)
  refine lv_aload_n hx hb dL_law_1081 rfl (lv_at hl 2 rfl) ?_
  refine lv_aload_n hx hb dL_law_1082 rfl (lv_at hl 0 rfl) ?_
  refine lv_iload_n hx hb dL_law_1083 rfl (lv_at hl 3 rfl) ?_
  refine lv_iconst (v := 1) hx hb dL_law_1084 (by decide) ?_
  refine lv_iadd hx hb dL_law_1085 ?_
  refine va_sld hx hb hX hbl hbA hH.1.2.2.1 (sc_in (k := 1) hL j ej hj (by decide)) dL_law_1086 ?_
  refine l_callM (As := [.int (xs (x3 + (1 : Int32)).toNatClampNeg)]) (rest := [.int r]) (cM_reads l (xD G) (xK G 0) B μ (xs (x3 + (1 : Int32)).toNatClampNeg) hfm) hC hH hl (cwV 1 hts (gV wmL_140 wvX8_reads) rfl rfl rfl hdX8_reads ⟨Nat.le_of_ble_eq_true rfl, Nat.le_of_ble_eq_true rfl⟩) rfl rfl (Nat.le_of_ble_eq_true rfl) hcs dL_law_1087 (fun H locs hH => ?_)
  refine lv_icmp_eq (tgt := 1395) hx hb dL_law_1090 (by decide) (fun _ => ?_) (fun c9 => absurd rfl c9)
  exact hgo σ μ hRe cells slots (by omega) (by omega) H locs ls hH hl

set_option maxHeartbeats 4000000 in
set_option maxRecDepth 100000 in
theorem law_copy {p : Program} {l : Launch} {e : Env} {s : State} {m : MethodId} {below : List Frame} {meth : Method} {c : Code} {b L : Nat} {xs : Nat → Int32} {G : XG} {B : Nat → Nat} {Re : XS → MS → Prop} (hL : L ≤ 3072) (hC : jC p s m #[Value.ref b] meth c cL_law 4 RL) (hX : va_X b L xs s s.heap) (hbl : b < s.heap.size) (hSt_copy : Ls_copy Re) (n j : Nat) (x3 : Int32) (ej : x3 = nI j) (hj : j + 6 ≤ L) (σ : XS) (μ : MS) (hRe : Re σ μ) (cells slots : Nat) (hc1 : cells + 3 * (n + 1) ≤ 600000) (hc2 : slots + 196 * (n + 1) ≤ 7302250) (H : Heap) (locs : List Loc) (ls : Array Slot) (hH : lH G B s (fun q : Nat => s.heap.size ≤ q) σ μ H locs) (hl : lv_has ls 4 [(0, .ref b), (1, .ref (xA G 0)), (2, .ref (B 0)), (3, .int x3)])
    (hgo : ∀ (σ : XS) (μ : MS), Re σ μ → ∀ (cells slots : Nat), cells + 3 * n ≤ 600000 → slots + 196 * n ≤ 7302250 → ∀ (H : Heap) (locs : List Loc) (ls : Array Slot), lH G B s (fun q : Nat => s.heap.size ≤ q) σ μ H locs → lv_has ls 4 [(0, .ref b), (1, .ref (xA G 0)), (2, .ref (B 0)), (3, .int x3)] → W p l e room_1 s m #[Value.ref b] below meth c H locs cells slots (lw_Z below #[Value.ref b] s) (F0 m 1395 ls [])) : W p l e room_1 s m #[Value.ref b] below meth c H locs cells slots (lw_Z below #[Value.ref b] s) (F0 m 1095 ls []) := by
  have hx := hC.1.1
  have hb := hC.1.2.1
  have hts := hC.1.2.2.2.2
  have hbA : ¬ (fun q : Nat => s.heap.size ≤ q) b := Nat.not_le.mpr hbl
  have hcs : cells ≤ room_1.cells ∧ slots ≤ room_1.slots := ⟨by show cells ≤ 600000; omega, by show slots ≤ 7302250; omega⟩
  obtain ⟨r, σ', μ', hfx, hfm, hRe⟩ := hSt_copy σ μ (xs (x3 + (1 : Int32)).toNatClampNeg) (xs (x3 + (2 : Int32)).toNatClampNeg) (xs (x3 + (3 : Int32)).toNatClampNeg) (xs (x3 + (4 : Int32)).toNatClampNeg) (xs (x3 + (5 : Int32)).toNatClampNeg) hRe
  refine lv_aload_n hx hb dL_law_1095 rfl (lv_at hl 1 rfl) ?_
  refine lv_aload_n hx hb dL_law_1096 rfl (lv_at hl 0 rfl) ?_
  refine lv_iload_n hx hb dL_law_1097 rfl (lv_at hl 3 rfl) ?_
  refine lv_iconst (v := 1) hx hb dL_law_1098 (by decide) ?_
  refine lv_iadd hx hb dL_law_1099 ?_
  refine va_sld hx hb hX hbl hbA hH.1.2.2.1 (sc_in (k := 1) hL j ej hj (by decide)) dL_law_1100 ?_
  refine lv_aload_n hx hb dL_law_1101 rfl (lv_at hl 0 rfl) ?_
  refine lv_iload_n hx hb dL_law_1102 rfl (lv_at hl 3 rfl) ?_
  refine lv_iconst (v := 2) hx hb dL_law_1103 (by decide) ?_
  refine lv_iadd hx hb dL_law_1104 ?_
  refine va_sld hx hb hX hbl hbA hH.1.2.2.1 (sc_in (k := 2) hL j ej hj (by decide)) dL_law_1105 ?_
  refine lv_aload_n hx hb dL_law_1106 rfl (lv_at hl 0 rfl) ?_
  refine lv_iload_n hx hb dL_law_1107 rfl (lv_at hl 3 rfl) ?_
  refine lv_iconst (v := 3) hx hb dL_law_1108 (by decide) ?_
  refine lv_iadd hx hb dL_law_1109 ?_
  refine va_sld hx hb hX hbl hbA hH.1.2.2.1 (sc_in (k := 3) hL j ej hj (by decide)) dL_law_1110 ?_
  refine lv_aload_n hx hb dL_law_1111 rfl (lv_at hl 0 rfl) ?_
  refine lv_iload_n hx hb dL_law_1112 rfl (lv_at hl 3 rfl) ?_
  refine lv_iconst (v := 4) hx hb dL_law_1113 (by decide) ?_
  refine lv_iadd hx hb dL_law_1114 ?_
  refine va_sld hx hb hX hbl hbA hH.1.2.2.1 (sc_in (k := 4) hL j ej hj (by decide)) dL_law_1115 ?_
  refine lv_aload_n hx hb dL_law_1116 rfl (lv_at hl 0 rfl) ?_
  refine lv_iload_n hx hb dL_law_1117 rfl (lv_at hl 3 rfl) ?_
  refine lv_iconst (v := 5) hx hb dL_law_1118 (by decide) ?_
  refine lv_iadd hx hb dL_law_1119 ?_
  refine va_sld hx hb hX hbl hbA hH.1.2.2.1 (sc_in (k := 5) hL j ej hj (by decide)) dL_law_1120 ?_
  refine l_callX (As := [.int (xs (x3 + (1 : Int32)).toNatClampNeg), .int (xs (x3 + (2 : Int32)).toNatClampNeg), .int (xs (x3 + (3 : Int32)).toNatClampNeg), .int (xs (x3 + (4 : Int32)).toNatClampNeg), .int (xs (x3 + (5 : Int32)).toNatClampNeg)]) (rest := []) (cX_copy l G σ (xs (x3 + (1 : Int32)).toNatClampNeg) (xs (x3 + (2 : Int32)).toNatClampNeg) (xs (x3 + (3 : Int32)).toNatClampNeg) (xs (x3 + (4 : Int32)).toNatClampNeg) (xs (x3 + (5 : Int32)).toNatClampNeg) hfx) hC hH hl (cwV 5 hts (gV wmL_141 wvX7_copy) rfl rfl rfl hdX7_copy ⟨Nat.le_of_ble_eq_true rfl, Nat.le_of_ble_eq_true rfl⟩) rfl rfl (Nat.le_of_ble_eq_true rfl) hcs dL_law_1121 (fun H locs hH => ?_)
  refine lv_aload_n hx hb dL_law_1124 rfl (lv_at hl 2 rfl) ?_
  refine lv_aload_n hx hb dL_law_1125 rfl (lv_at hl 0 rfl) ?_
  refine lv_iload_n hx hb dL_law_1126 rfl (lv_at hl 3 rfl) ?_
  refine lv_iconst (v := 1) hx hb dL_law_1127 (by decide) ?_
  refine lv_iadd hx hb dL_law_1128 ?_
  refine va_sld hx hb hX hbl hbA hH.1.2.2.1 (sc_in (k := 1) hL j ej hj (by decide)) dL_law_1129 ?_
  refine lv_aload_n hx hb dL_law_1130 rfl (lv_at hl 0 rfl) ?_
  refine lv_iload_n hx hb dL_law_1131 rfl (lv_at hl 3 rfl) ?_
  refine lv_iconst (v := 2) hx hb dL_law_1132 (by decide) ?_
  refine lv_iadd hx hb dL_law_1133 ?_
  refine va_sld hx hb hX hbl hbA hH.1.2.2.1 (sc_in (k := 2) hL j ej hj (by decide)) dL_law_1134 ?_
  refine lv_aload_n hx hb dL_law_1135 rfl (lv_at hl 0 rfl) ?_
  refine lv_iload_n hx hb dL_law_1136 rfl (lv_at hl 3 rfl) ?_
  refine lv_iconst (v := 3) hx hb dL_law_1137 (by decide) ?_
  refine lv_iadd hx hb dL_law_1138 ?_
  refine va_sld hx hb hX hbl hbA hH.1.2.2.1 (sc_in (k := 3) hL j ej hj (by decide)) dL_law_1139 ?_
  refine lv_aload_n hx hb dL_law_1140 rfl (lv_at hl 0 rfl) ?_
  refine lv_iload_n hx hb dL_law_1141 rfl (lv_at hl 3 rfl) ?_
  refine lv_iconst (v := 4) hx hb dL_law_1142 (by decide) ?_
  refine lv_iadd hx hb dL_law_1143 ?_
  refine va_sld hx hb hX hbl hbA hH.1.2.2.1 (sc_in (k := 4) hL j ej hj (by decide)) dL_law_1144 ?_
  refine lv_aload_n hx hb dL_law_1145 rfl (lv_at hl 0 rfl) ?_
  refine lv_iload_n hx hb dL_law_1146 rfl (lv_at hl 3 rfl) ?_
  refine lv_iconst (v := 5) hx hb dL_law_1147 (by decide) ?_
  refine lv_iadd hx hb dL_law_1148 ?_
  refine va_sld hx hb hX hbl hbA hH.1.2.2.1 (sc_in (k := 5) hL j ej hj (by decide)) dL_law_1149 ?_
  refine l_callM (As := [.int (xs (x3 + (1 : Int32)).toNatClampNeg), .int (xs (x3 + (2 : Int32)).toNatClampNeg), .int (xs (x3 + (3 : Int32)).toNatClampNeg), .int (xs (x3 + (4 : Int32)).toNatClampNeg), .int (xs (x3 + (5 : Int32)).toNatClampNeg)]) (rest := [.int r]) (cM_copy l (xD G) (xK G 0) B μ (xs (x3 + (1 : Int32)).toNatClampNeg) (xs (x3 + (2 : Int32)).toNatClampNeg) (xs (x3 + (3 : Int32)).toNatClampNeg) (xs (x3 + (4 : Int32)).toNatClampNeg) (xs (x3 + (5 : Int32)).toNatClampNeg) hfm) hC hH hl (cwV 5 hts (gV wmL_145 wvX8_copy) rfl rfl rfl hdX8_copy ⟨Nat.le_of_ble_eq_true rfl, Nat.le_of_ble_eq_true rfl⟩) rfl rfl (Nat.le_of_ble_eq_true rfl) hcs dL_law_1150 (fun H locs hH => ?_)
  refine lv_icmp_eq (tgt := 1395) hx hb dL_law_1153 (by decide) (fun _ => ?_) (fun c9 => absurd rfl c9)
  exact hgo σ' μ' hRe cells slots (by omega) (by omega) H locs ls hH hl

set_option maxHeartbeats 4000000 in
set_option maxRecDepth 100000 in
theorem law_lay {p : Program} {l : Launch} {e : Env} {s : State} {m : MethodId} {below : List Frame} {meth : Method} {c : Code} {b L : Nat} {xs : Nat → Int32} {G : XG} {B : Nat → Nat} {Re : XS → MS → Prop} (hL : L ≤ 3072) (hC : jC p s m #[Value.ref b] meth c cL_law 4 RL) (hX : va_X b L xs s s.heap) (hbl : b < s.heap.size) (hSt_lay : Ls_lay Re) (n j : Nat) (x3 : Int32) (ej : x3 = nI j) (hj : j + 6 ≤ L) (σ : XS) (μ : MS) (hRe : Re σ μ) (cells slots : Nat) (hc1 : cells + 3 * (n + 1) ≤ 600000) (hc2 : slots + 196 * (n + 1) ≤ 7302250) (H : Heap) (locs : List Loc) (ls : Array Slot) (hH : lH G B s (fun q : Nat => s.heap.size ≤ q) σ μ H locs) (hl : lv_has ls 4 [(0, .ref b), (1, .ref (xA G 0)), (2, .ref (B 0)), (3, .int x3)])
    (hgo : ∀ (σ : XS) (μ : MS), Re σ μ → ∀ (cells slots : Nat), cells + 3 * n ≤ 600000 → slots + 196 * n ≤ 7302250 → ∀ (H : Heap) (locs : List Loc) (ls : Array Slot), lH G B s (fun q : Nat => s.heap.size ≤ q) σ μ H locs → lv_has ls 4 [(0, .ref b), (1, .ref (xA G 0)), (2, .ref (B 0)), (3, .int x3)] → W p l e room_1 s m #[Value.ref b] below meth c H locs cells slots (lw_Z below #[Value.ref b] s) (F0 m 1395 ls [])) : W p l e room_1 s m #[Value.ref b] below meth c H locs cells slots (lw_Z below #[Value.ref b] s) (F0 m 1158 ls []) := by
  have hx := hC.1.1
  have hb := hC.1.2.1
  have hts := hC.1.2.2.2.2
  have hbA : ¬ (fun q : Nat => s.heap.size ≤ q) b := Nat.not_le.mpr hbl
  have hcs : cells ≤ room_1.cells ∧ slots ≤ room_1.slots := ⟨by show cells ≤ 600000; omega, by show slots ≤ 7302250; omega⟩
  obtain ⟨r, σ', μ', hfx, hfm, hRe⟩ := hSt_lay σ μ (xs (x3 + (1 : Int32)).toNatClampNeg) (xs (x3 + (2 : Int32)).toNatClampNeg) (xs (x3 + (3 : Int32)).toNatClampNeg) hRe
  refine lv_aload_n hx hb dL_law_1158 rfl (lv_at hl 1 rfl) ?_
  refine lv_aload_n hx hb dL_law_1159 rfl (lv_at hl 0 rfl) ?_
  refine lv_iload_n hx hb dL_law_1160 rfl (lv_at hl 3 rfl) ?_
  refine lv_iconst (v := 1) hx hb dL_law_1161 (by decide) ?_
  refine lv_iadd hx hb dL_law_1162 ?_
  refine va_sld hx hb hX hbl hbA hH.1.2.2.1 (sc_in (k := 1) hL j ej hj (by decide)) dL_law_1163 ?_
  refine lv_aload_n hx hb dL_law_1164 rfl (lv_at hl 0 rfl) ?_
  refine lv_iload_n hx hb dL_law_1165 rfl (lv_at hl 3 rfl) ?_
  refine lv_iconst (v := 2) hx hb dL_law_1166 (by decide) ?_
  refine lv_iadd hx hb dL_law_1167 ?_
  refine va_sld hx hb hX hbl hbA hH.1.2.2.1 (sc_in (k := 2) hL j ej hj (by decide)) dL_law_1168 ?_
  refine lv_aload_n hx hb dL_law_1169 rfl (lv_at hl 0 rfl) ?_
  refine lv_iload_n hx hb dL_law_1170 rfl (lv_at hl 3 rfl) ?_
  refine lv_iconst (v := 3) hx hb dL_law_1171 (by decide) ?_
  refine lv_iadd hx hb dL_law_1172 ?_
  refine va_sld hx hb hX hbl hbA hH.1.2.2.1 (sc_in (k := 3) hL j ej hj (by decide)) dL_law_1173 ?_
  refine l_callX (As := [.int (xs (x3 + (1 : Int32)).toNatClampNeg), .int (xs (x3 + (2 : Int32)).toNatClampNeg), .int (xs (x3 + (3 : Int32)).toNatClampNeg)]) (rest := []) (cX_lay l G σ (xs (x3 + (1 : Int32)).toNatClampNeg) (xs (x3 + (2 : Int32)).toNatClampNeg) (xs (x3 + (3 : Int32)).toNatClampNeg) hfx) hC hH hl (cwV 3 hts (gV wmL_146 wvX7_lay) rfl rfl rfl hdX7_lay ⟨Nat.le_of_ble_eq_true rfl, Nat.le_of_ble_eq_true rfl⟩) rfl rfl (Nat.le_of_ble_eq_true rfl) hcs dL_law_1174 (fun H locs hH => ?_)
  refine lv_aload_n hx hb dL_law_1177 rfl (lv_at hl 2 rfl) ?_
  refine lv_aload_n hx hb dL_law_1178 rfl (lv_at hl 0 rfl) ?_
  refine lv_iload_n hx hb dL_law_1179 rfl (lv_at hl 3 rfl) ?_
  refine lv_iconst (v := 1) hx hb dL_law_1180 (by decide) ?_
  refine lv_iadd hx hb dL_law_1181 ?_
  refine va_sld hx hb hX hbl hbA hH.1.2.2.1 (sc_in (k := 1) hL j ej hj (by decide)) dL_law_1182 ?_
  refine lv_aload_n hx hb dL_law_1183 rfl (lv_at hl 0 rfl) ?_
  refine lv_iload_n hx hb dL_law_1184 rfl (lv_at hl 3 rfl) ?_
  refine lv_iconst (v := 2) hx hb dL_law_1185 (by decide) ?_
  refine lv_iadd hx hb dL_law_1186 ?_
  refine va_sld hx hb hX hbl hbA hH.1.2.2.1 (sc_in (k := 2) hL j ej hj (by decide)) dL_law_1187 ?_
  refine lv_aload_n hx hb dL_law_1188 rfl (lv_at hl 0 rfl) ?_
  refine lv_iload_n hx hb dL_law_1189 rfl (lv_at hl 3 rfl) ?_
  refine lv_iconst (v := 3) hx hb dL_law_1190 (by decide) ?_
  refine lv_iadd hx hb dL_law_1191 ?_
  refine va_sld hx hb hX hbl hbA hH.1.2.2.1 (sc_in (k := 3) hL j ej hj (by decide)) dL_law_1192 ?_
  refine l_callM (As := [.int (xs (x3 + (1 : Int32)).toNatClampNeg), .int (xs (x3 + (2 : Int32)).toNatClampNeg), .int (xs (x3 + (3 : Int32)).toNatClampNeg)]) (rest := [.int r]) (cM_lay l (xD G) (xK G 0) B μ (xs (x3 + (1 : Int32)).toNatClampNeg) (xs (x3 + (2 : Int32)).toNatClampNeg) (xs (x3 + (3 : Int32)).toNatClampNeg) hfm) hC hH hl (cwV 3 hts (gV wmL_149 wvX8_lay) rfl rfl rfl hdX8_lay ⟨Nat.le_of_ble_eq_true rfl, Nat.le_of_ble_eq_true rfl⟩) rfl rfl (Nat.le_of_ble_eq_true rfl) hcs dL_law_1193 (fun H locs hH => ?_)
  refine lv_icmp_eq (tgt := 1395) hx hb dL_law_1196 (by decide) (fun _ => ?_) (fun c9 => absurd rfl c9)
  exact hgo σ' μ' hRe cells slots (by omega) (by omega) H locs ls hH hl

set_option maxHeartbeats 4000000 in
set_option maxRecDepth 100000 in
theorem law_ask {p : Program} {l : Launch} {e : Env} {s : State} {m : MethodId} {below : List Frame} {meth : Method} {c : Code} {b L : Nat} {xs : Nat → Int32} {G : XG} {B : Nat → Nat} {Re : XS → MS → Prop} (hL : L ≤ 3072) (hC : jC p s m #[Value.ref b] meth c cL_law 4 RL) (hX : va_X b L xs s s.heap) (hbl : b < s.heap.size) (hSt_ask : Ls_ask Re) (n j : Nat) (x3 : Int32) (ej : x3 = nI j) (hj : j + 6 ≤ L) (σ : XS) (μ : MS) (hRe : Re σ μ) (cells slots : Nat) (hc1 : cells + 3 * (n + 1) ≤ 600000) (hc2 : slots + 196 * (n + 1) ≤ 7302250) (H : Heap) (locs : List Loc) (ls : Array Slot) (hH : lH G B s (fun q : Nat => s.heap.size ≤ q) σ μ H locs) (hl : lv_has ls 4 [(0, .ref b), (1, .ref (xA G 0)), (2, .ref (B 0)), (3, .int x3)])
    (hgo : ∀ (σ : XS) (μ : MS), Re σ μ → ∀ (cells slots : Nat), cells + 3 * n ≤ 600000 → slots + 196 * n ≤ 7302250 → ∀ (H : Heap) (locs : List Loc) (ls : Array Slot), lH G B s (fun q : Nat => s.heap.size ≤ q) σ μ H locs → lv_has ls 4 [(0, .ref b), (1, .ref (xA G 0)), (2, .ref (B 0)), (3, .int x3)] → W p l e room_1 s m #[Value.ref b] below meth c H locs cells slots (lw_Z below #[Value.ref b] s) (F0 m 1395 ls [])) : W p l e room_1 s m #[Value.ref b] below meth c H locs cells slots (lw_Z below #[Value.ref b] s) (F0 m 1201 ls []) := by
  have hx := hC.1.1
  have hb := hC.1.2.1
  have hts := hC.1.2.2.2.2
  have hbA : ¬ (fun q : Nat => s.heap.size ≤ q) b := Nat.not_le.mpr hbl
  have hcs : cells ≤ room_1.cells ∧ slots ≤ room_1.slots := ⟨by show cells ≤ 600000; omega, by show slots ≤ 7302250; omega⟩
  obtain ⟨r, hfx, hfm⟩ := hSt_ask σ μ (xs (x3 + (1 : Int32)).toNatClampNeg) (xs (x3 + (2 : Int32)).toNatClampNeg) hRe
  refine lv_aload_n hx hb dL_law_1201 rfl (lv_at hl 1 rfl) ?_
  refine lv_aload_n hx hb dL_law_1202 rfl (lv_at hl 0 rfl) ?_
  refine lv_iload_n hx hb dL_law_1203 rfl (lv_at hl 3 rfl) ?_
  refine lv_iconst (v := 1) hx hb dL_law_1204 (by decide) ?_
  refine lv_iadd hx hb dL_law_1205 ?_
  refine va_sld hx hb hX hbl hbA hH.1.2.2.1 (sc_in (k := 1) hL j ej hj (by decide)) dL_law_1206 ?_
  refine lv_aload_n hx hb dL_law_1207 rfl (lv_at hl 0 rfl) ?_
  refine lv_iload_n hx hb dL_law_1208 rfl (lv_at hl 3 rfl) ?_
  refine lv_iconst (v := 2) hx hb dL_law_1209 (by decide) ?_
  refine lv_iadd hx hb dL_law_1210 ?_
  refine va_sld hx hb hX hbl hbA hH.1.2.2.1 (sc_in (k := 2) hL j ej hj (by decide)) dL_law_1211 ?_
  refine l_callX (As := [.int (xs (x3 + (1 : Int32)).toNatClampNeg), .int (xs (x3 + (2 : Int32)).toNatClampNeg)]) (rest := []) (cX_ask l G σ (xs (x3 + (1 : Int32)).toNatClampNeg) (xs (x3 + (2 : Int32)).toNatClampNeg) hfx) hC hH hl (cwV 2 hts (gV wmL_150 wvX7_ask) rfl rfl rfl hdX7_ask ⟨Nat.le_of_ble_eq_true rfl, Nat.le_of_ble_eq_true rfl⟩) rfl rfl (Nat.le_of_ble_eq_true rfl) hcs dL_law_1212 (fun H locs hH => ?_)
  refine lv_aload_n hx hb dL_law_1215 rfl (lv_at hl 2 rfl) ?_
  refine lv_aload_n hx hb dL_law_1216 rfl (lv_at hl 0 rfl) ?_
  refine lv_iload_n hx hb dL_law_1217 rfl (lv_at hl 3 rfl) ?_
  refine lv_iconst (v := 1) hx hb dL_law_1218 (by decide) ?_
  refine lv_iadd hx hb dL_law_1219 ?_
  refine va_sld hx hb hX hbl hbA hH.1.2.2.1 (sc_in (k := 1) hL j ej hj (by decide)) dL_law_1220 ?_
  refine lv_aload_n hx hb dL_law_1221 rfl (lv_at hl 0 rfl) ?_
  refine lv_iload_n hx hb dL_law_1222 rfl (lv_at hl 3 rfl) ?_
  refine lv_iconst (v := 2) hx hb dL_law_1223 (by decide) ?_
  refine lv_iadd hx hb dL_law_1224 ?_
  refine va_sld hx hb hX hbl hbA hH.1.2.2.1 (sc_in (k := 2) hL j ej hj (by decide)) dL_law_1225 ?_
  refine l_callM (As := [.int (xs (x3 + (1 : Int32)).toNatClampNeg), .int (xs (x3 + (2 : Int32)).toNatClampNeg)]) (rest := [.int r]) (cM_ask l (xD G) (xK G 0) B μ (xs (x3 + (1 : Int32)).toNatClampNeg) (xs (x3 + (2 : Int32)).toNatClampNeg) hfm) hC hH hl (cwV 2 hts (gV wmL_153 wvX8_ask) rfl rfl rfl hdX8_ask ⟨Nat.le_of_ble_eq_true rfl, Nat.le_of_ble_eq_true rfl⟩) rfl rfl (Nat.le_of_ble_eq_true rfl) hcs dL_law_1226 (fun H locs hH => ?_)
  refine lv_icmp_eq (tgt := 1395) hx hb dL_law_1229 (by decide) (fun _ => ?_) (fun c9 => absurd rfl c9)
  exact hgo σ μ hRe cells slots (by omega) (by omega) H locs ls hH hl

set_option maxHeartbeats 4000000 in
set_option maxRecDepth 100000 in
theorem law_item {p : Program} {l : Launch} {e : Env} {s : State} {m : MethodId} {below : List Frame} {meth : Method} {c : Code} {b L : Nat} {xs : Nat → Int32} {G : XG} {B : Nat → Nat} {Re : XS → MS → Prop} (hL : L ≤ 3072) (hC : jC p s m #[Value.ref b] meth c cL_law 4 RL) (hX : va_X b L xs s s.heap) (hbl : b < s.heap.size) (hSt_item : Ls_item Re) (n j : Nat) (x3 : Int32) (ej : x3 = nI j) (hj : j + 6 ≤ L) (σ : XS) (μ : MS) (hRe : Re σ μ) (cells slots : Nat) (hc1 : cells + 3 * (n + 1) ≤ 600000) (hc2 : slots + 196 * (n + 1) ≤ 7302250) (H : Heap) (locs : List Loc) (ls : Array Slot) (hH : lH G B s (fun q : Nat => s.heap.size ≤ q) σ μ H locs) (hl : lv_has ls 4 [(0, .ref b), (1, .ref (xA G 0)), (2, .ref (B 0)), (3, .int x3)])
    (hgo : ∀ (σ : XS) (μ : MS), Re σ μ → ∀ (cells slots : Nat), cells + 3 * n ≤ 600000 → slots + 196 * n ≤ 7302250 → ∀ (H : Heap) (locs : List Loc) (ls : Array Slot), lH G B s (fun q : Nat => s.heap.size ≤ q) σ μ H locs → lv_has ls 4 [(0, .ref b), (1, .ref (xA G 0)), (2, .ref (B 0)), (3, .int x3)] → W p l e room_1 s m #[Value.ref b] below meth c H locs cells slots (lw_Z below #[Value.ref b] s) (F0 m 1395 ls [])) : W p l e room_1 s m #[Value.ref b] below meth c H locs cells slots (lw_Z below #[Value.ref b] s) (F0 m 1234 ls []) := by
  have hx := hC.1.1
  have hb := hC.1.2.1
  have hts := hC.1.2.2.2.2
  have hbA : ¬ (fun q : Nat => s.heap.size ≤ q) b := Nat.not_le.mpr hbl
  have hcs : cells ≤ room_1.cells ∧ slots ≤ room_1.slots := ⟨by show cells ≤ 600000; omega, by show slots ≤ 7302250; omega⟩
  obtain ⟨r, hfx, hfm⟩ := hSt_item σ μ (xs (x3 + (1 : Int32)).toNatClampNeg) (xs (x3 + (2 : Int32)).toNatClampNeg) hRe
  refine lv_aload_n hx hb dL_law_1234 rfl (lv_at hl 1 rfl) ?_
  refine lv_aload_n hx hb dL_law_1235 rfl (lv_at hl 0 rfl) ?_
  refine lv_iload_n hx hb dL_law_1236 rfl (lv_at hl 3 rfl) ?_
  refine lv_iconst (v := 1) hx hb dL_law_1237 (by decide) ?_
  refine lv_iadd hx hb dL_law_1238 ?_
  refine va_sld hx hb hX hbl hbA hH.1.2.2.1 (sc_in (k := 1) hL j ej hj (by decide)) dL_law_1239 ?_
  refine lv_aload_n hx hb dL_law_1240 rfl (lv_at hl 0 rfl) ?_
  refine lv_iload_n hx hb dL_law_1241 rfl (lv_at hl 3 rfl) ?_
  refine lv_iconst (v := 2) hx hb dL_law_1242 (by decide) ?_
  refine lv_iadd hx hb dL_law_1243 ?_
  refine va_sld hx hb hX hbl hbA hH.1.2.2.1 (sc_in (k := 2) hL j ej hj (by decide)) dL_law_1244 ?_
  refine l_callX (As := [.int (xs (x3 + (1 : Int32)).toNatClampNeg), .int (xs (x3 + (2 : Int32)).toNatClampNeg)]) (rest := []) (cX_item l G σ (xs (x3 + (1 : Int32)).toNatClampNeg) (xs (x3 + (2 : Int32)).toNatClampNeg) hfx) hC hH hl (cwV 2 hts (gV wmL_154 wvX7_item) rfl rfl rfl hdX7_item ⟨Nat.le_of_ble_eq_true rfl, Nat.le_of_ble_eq_true rfl⟩) rfl rfl (Nat.le_of_ble_eq_true rfl) hcs dL_law_1245 (fun H locs hH => ?_)
  refine lv_aload_n hx hb dL_law_1248 rfl (lv_at hl 2 rfl) ?_
  refine lv_aload_n hx hb dL_law_1249 rfl (lv_at hl 0 rfl) ?_
  refine lv_iload_n hx hb dL_law_1250 rfl (lv_at hl 3 rfl) ?_
  refine lv_iconst (v := 1) hx hb dL_law_1251 (by decide) ?_
  refine lv_iadd hx hb dL_law_1252 ?_
  refine va_sld hx hb hX hbl hbA hH.1.2.2.1 (sc_in (k := 1) hL j ej hj (by decide)) dL_law_1253 ?_
  refine lv_aload_n hx hb dL_law_1254 rfl (lv_at hl 0 rfl) ?_
  refine lv_iload_n hx hb dL_law_1255 rfl (lv_at hl 3 rfl) ?_
  refine lv_iconst (v := 2) hx hb dL_law_1256 (by decide) ?_
  refine lv_iadd hx hb dL_law_1257 ?_
  refine va_sld hx hb hX hbl hbA hH.1.2.2.1 (sc_in (k := 2) hL j ej hj (by decide)) dL_law_1258 ?_
  refine l_callM (As := [.int (xs (x3 + (1 : Int32)).toNatClampNeg), .int (xs (x3 + (2 : Int32)).toNatClampNeg)]) (rest := [.int r]) (cM_item l (xD G) (xK G 0) B μ (xs (x3 + (1 : Int32)).toNatClampNeg) (xs (x3 + (2 : Int32)).toNatClampNeg) hfm) hC hH hl (cwV 2 hts (gV wmL_157 wvX8_item) rfl rfl rfl hdX8_item ⟨Nat.le_of_ble_eq_true rfl, Nat.le_of_ble_eq_true rfl⟩) rfl rfl (Nat.le_of_ble_eq_true rfl) hcs dL_law_1259 (fun H locs hH => ?_)
  refine lv_icmp_eq (tgt := 1395) hx hb dL_law_1262 (by decide) (fun _ => ?_) (fun c9 => absurd rfl c9)
  exact hgo σ μ hRe cells slots (by omega) (by omega) H locs ls hH hl

set_option maxHeartbeats 4000000 in
set_option maxRecDepth 100000 in
theorem law_rest {p : Program} {l : Launch} {e : Env} {s : State} {m : MethodId} {below : List Frame} {meth : Method} {c : Code} {b L : Nat} {xs : Nat → Int32} {G : XG} {B : Nat → Nat} {Re : XS → MS → Prop} (hL : L ≤ 3072) (hC : jC p s m #[Value.ref b] meth c cL_law 4 RL) (hX : va_X b L xs s s.heap) (hbl : b < s.heap.size) (hSt_rest : Ls_rest Re) (n j : Nat) (x3 : Int32) (ej : x3 = nI j) (hj : j + 6 ≤ L) (σ : XS) (μ : MS) (hRe : Re σ μ) (cells slots : Nat) (hc1 : cells + 3 * (n + 1) ≤ 600000) (hc2 : slots + 196 * (n + 1) ≤ 7302250) (H : Heap) (locs : List Loc) (ls : Array Slot) (hH : lH G B s (fun q : Nat => s.heap.size ≤ q) σ μ H locs) (hl : lv_has ls 4 [(0, .ref b), (1, .ref (xA G 0)), (2, .ref (B 0)), (3, .int x3)])
    (hgo : ∀ (σ : XS) (μ : MS), Re σ μ → ∀ (cells slots : Nat), cells + 3 * n ≤ 600000 → slots + 196 * n ≤ 7302250 → ∀ (H : Heap) (locs : List Loc) (ls : Array Slot), lH G B s (fun q : Nat => s.heap.size ≤ q) σ μ H locs → lv_has ls 4 [(0, .ref b), (1, .ref (xA G 0)), (2, .ref (B 0)), (3, .int x3)] → W p l e room_1 s m #[Value.ref b] below meth c H locs cells slots (lw_Z below #[Value.ref b] s) (F0 m 1395 ls [])) : W p l e room_1 s m #[Value.ref b] below meth c H locs cells slots (lw_Z below #[Value.ref b] s) (F0 m 1267 ls []) := by
  have hx := hC.1.1
  have hb := hC.1.2.1
  have hts := hC.1.2.2.2.2
  have hbA : ¬ (fun q : Nat => s.heap.size ≤ q) b := Nat.not_le.mpr hbl
  have hcs : cells ≤ room_1.cells ∧ slots ≤ room_1.slots := ⟨by show cells ≤ 600000; omega, by show slots ≤ 7302250; omega⟩
  obtain ⟨r, hfx, hfm⟩ := hSt_rest σ μ (xs (x3 + (1 : Int32)).toNatClampNeg) (xs (x3 + (2 : Int32)).toNatClampNeg) hRe
  refine lv_aload_n hx hb dL_law_1267 rfl (lv_at hl 1 rfl) ?_
  refine lv_aload_n hx hb dL_law_1268 rfl (lv_at hl 0 rfl) ?_
  refine lv_iload_n hx hb dL_law_1269 rfl (lv_at hl 3 rfl) ?_
  refine lv_iconst (v := 1) hx hb dL_law_1270 (by decide) ?_
  refine lv_iadd hx hb dL_law_1271 ?_
  refine va_sld hx hb hX hbl hbA hH.1.2.2.1 (sc_in (k := 1) hL j ej hj (by decide)) dL_law_1272 ?_
  refine lv_aload_n hx hb dL_law_1273 rfl (lv_at hl 0 rfl) ?_
  refine lv_iload_n hx hb dL_law_1274 rfl (lv_at hl 3 rfl) ?_
  refine lv_iconst (v := 2) hx hb dL_law_1275 (by decide) ?_
  refine lv_iadd hx hb dL_law_1276 ?_
  refine va_sld hx hb hX hbl hbA hH.1.2.2.1 (sc_in (k := 2) hL j ej hj (by decide)) dL_law_1277 ?_
  refine l_callX (As := [.int (xs (x3 + (1 : Int32)).toNatClampNeg), .int (xs (x3 + (2 : Int32)).toNatClampNeg)]) (rest := []) (cX_rest l G σ (xs (x3 + (1 : Int32)).toNatClampNeg) (xs (x3 + (2 : Int32)).toNatClampNeg) hfx) hC hH hl (cwV 2 hts (gV wmL_158 wvX7_rest) rfl rfl rfl hdX7_rest ⟨Nat.le_of_ble_eq_true rfl, Nat.le_of_ble_eq_true rfl⟩) rfl rfl (Nat.le_of_ble_eq_true rfl) hcs dL_law_1278 (fun H locs hH => ?_)
  refine lv_aload_n hx hb dL_law_1281 rfl (lv_at hl 2 rfl) ?_
  refine lv_aload_n hx hb dL_law_1282 rfl (lv_at hl 0 rfl) ?_
  refine lv_iload_n hx hb dL_law_1283 rfl (lv_at hl 3 rfl) ?_
  refine lv_iconst (v := 1) hx hb dL_law_1284 (by decide) ?_
  refine lv_iadd hx hb dL_law_1285 ?_
  refine va_sld hx hb hX hbl hbA hH.1.2.2.1 (sc_in (k := 1) hL j ej hj (by decide)) dL_law_1286 ?_
  refine lv_aload_n hx hb dL_law_1287 rfl (lv_at hl 0 rfl) ?_
  refine lv_iload_n hx hb dL_law_1288 rfl (lv_at hl 3 rfl) ?_
  refine lv_iconst (v := 2) hx hb dL_law_1289 (by decide) ?_
  refine lv_iadd hx hb dL_law_1290 ?_
  refine va_sld hx hb hX hbl hbA hH.1.2.2.1 (sc_in (k := 2) hL j ej hj (by decide)) dL_law_1291 ?_
  refine l_callM (As := [.int (xs (x3 + (1 : Int32)).toNatClampNeg), .int (xs (x3 + (2 : Int32)).toNatClampNeg)]) (rest := [.int r]) (cM_rest l (xD G) (xK G 0) B μ (xs (x3 + (1 : Int32)).toNatClampNeg) (xs (x3 + (2 : Int32)).toNatClampNeg) hfm) hC hH hl (cwV 2 hts (gV wmL_161 wvX8_rest) rfl rfl rfl hdX8_rest ⟨Nat.le_of_ble_eq_true rfl, Nat.le_of_ble_eq_true rfl⟩) rfl rfl (Nat.le_of_ble_eq_true rfl) hcs dL_law_1292 (fun H locs hH => ?_)
  refine lv_icmp_eq (tgt := 1395) hx hb dL_law_1295 (by decide) (fun _ => ?_) (fun c9 => absurd rfl c9)
  exact hgo σ μ hRe cells slots (by omega) (by omega) H locs ls hH hl

set_option maxHeartbeats 4000000 in
set_option maxRecDepth 100000 in
theorem law_tell {p : Program} {l : Launch} {e : Env} {s : State} {m : MethodId} {below : List Frame} {meth : Method} {c : Code} {b L : Nat} {xs : Nat → Int32} {G : XG} {B : Nat → Nat} {Re : XS → MS → Prop} (hL : L ≤ 3072) (hC : jC p s m #[Value.ref b] meth c cL_law 4 RL) (hX : va_X b L xs s s.heap) (hbl : b < s.heap.size) (hSt_tell : Ls_tell Re) (n j : Nat) (x3 : Int32) (ej : x3 = nI j) (hj : j + 6 ≤ L) (σ : XS) (μ : MS) (hRe : Re σ μ) (cells slots : Nat) (hc1 : cells + 3 * (n + 1) ≤ 600000) (hc2 : slots + 196 * (n + 1) ≤ 7302250) (H : Heap) (locs : List Loc) (ls : Array Slot) (hH : lH G B s (fun q : Nat => s.heap.size ≤ q) σ μ H locs) (hl : lv_has ls 4 [(0, .ref b), (1, .ref (xA G 0)), (2, .ref (B 0)), (3, .int x3)])
    (hgo : ∀ (σ : XS) (μ : MS), Re σ μ → ∀ (cells slots : Nat), cells + 3 * n ≤ 600000 → slots + 196 * n ≤ 7302250 → ∀ (H : Heap) (locs : List Loc) (ls : Array Slot), lH G B s (fun q : Nat => s.heap.size ≤ q) σ μ H locs → lv_has ls 4 [(0, .ref b), (1, .ref (xA G 0)), (2, .ref (B 0)), (3, .int x3)] → W p l e room_1 s m #[Value.ref b] below meth c H locs cells slots (lw_Z below #[Value.ref b] s) (F0 m 1395 ls [])) : W p l e room_1 s m #[Value.ref b] below meth c H locs cells slots (lw_Z below #[Value.ref b] s) (F0 m 1300 ls []) := by
  have hx := hC.1.1
  have hb := hC.1.2.1
  have hts := hC.1.2.2.2.2
  have hbA : ¬ (fun q : Nat => s.heap.size ≤ q) b := Nat.not_le.mpr hbl
  have hcs : cells ≤ room_1.cells ∧ slots ≤ room_1.slots := ⟨by show cells ≤ 600000; omega, by show slots ≤ 7302250; omega⟩
  obtain ⟨r, σ', μ', hfx, hfm, hRe⟩ := hSt_tell σ μ (xs (x3 + (1 : Int32)).toNatClampNeg) hRe
  refine lv_aload_n hx hb dL_law_1300 rfl (lv_at hl 1 rfl) ?_
  refine lv_aload_n hx hb dL_law_1301 rfl (lv_at hl 0 rfl) ?_
  refine lv_iload_n hx hb dL_law_1302 rfl (lv_at hl 3 rfl) ?_
  refine lv_iconst (v := 1) hx hb dL_law_1303 (by decide) ?_
  refine lv_iadd hx hb dL_law_1304 ?_
  refine va_sld hx hb hX hbl hbA hH.1.2.2.1 (sc_in (k := 1) hL j ej hj (by decide)) dL_law_1305 ?_
  refine l_callX (As := [.int (xs (x3 + (1 : Int32)).toNatClampNeg)]) (rest := []) (cX_tell l G σ (xs (x3 + (1 : Int32)).toNatClampNeg) hfx) hC hH hl (cwV 1 hts (gV wmL_162 wvX7_tell) rfl rfl rfl hdX7_tell ⟨Nat.le_of_ble_eq_true rfl, Nat.le_of_ble_eq_true rfl⟩) rfl rfl (Nat.le_of_ble_eq_true rfl) hcs dL_law_1306 (fun H locs hH => ?_)
  refine lv_aload_n hx hb dL_law_1309 rfl (lv_at hl 2 rfl) ?_
  refine lv_aload_n hx hb dL_law_1310 rfl (lv_at hl 0 rfl) ?_
  refine lv_iload_n hx hb dL_law_1311 rfl (lv_at hl 3 rfl) ?_
  refine lv_iconst (v := 1) hx hb dL_law_1312 (by decide) ?_
  refine lv_iadd hx hb dL_law_1313 ?_
  refine va_sld hx hb hX hbl hbA hH.1.2.2.1 (sc_in (k := 1) hL j ej hj (by decide)) dL_law_1314 ?_
  refine l_callM (As := [.int (xs (x3 + (1 : Int32)).toNatClampNeg)]) (rest := [.int r]) (cM_tell l (xD G) (xK G 0) B μ (xs (x3 + (1 : Int32)).toNatClampNeg) hfm) hC hH hl (cwV 1 hts (gV wmL_165 wvX8_tell) rfl rfl rfl hdX8_tell ⟨Nat.le_of_ble_eq_true rfl, Nat.le_of_ble_eq_true rfl⟩) rfl rfl (Nat.le_of_ble_eq_true rfl) hcs dL_law_1315 (fun H locs hH => ?_)
  refine lv_icmp_eq (tgt := 1395) hx hb dL_law_1318 (by decide) (fun _ => ?_) (fun c9 => absurd rfl c9)
  exact hgo σ' μ' hRe cells slots (by omega) (by omega) H locs ls hH hl

set_option maxHeartbeats 4000000 in
set_option maxRecDepth 100000 in
theorem law_check {p : Program} {l : Launch} {e : Env} {s : State} {m : MethodId} {below : List Frame} {meth : Method} {c : Code} {b L : Nat} {xs : Nat → Int32} {G : XG} {B : Nat → Nat} {Re : XS → MS → Prop} (hL : L ≤ 3072) (hC : jC p s m #[Value.ref b] meth c cL_law 4 RL) (hX : va_X b L xs s s.heap) (hbl : b < s.heap.size) (hSt_check : Ls_check Re) (n j : Nat) (x3 : Int32) (ej : x3 = nI j) (hj : j + 6 ≤ L) (σ : XS) (μ : MS) (hRe : Re σ μ) (cells slots : Nat) (hc1 : cells + 3 * (n + 1) ≤ 600000) (hc2 : slots + 196 * (n + 1) ≤ 7302250) (H : Heap) (locs : List Loc) (ls : Array Slot) (hH : lH G B s (fun q : Nat => s.heap.size ≤ q) σ μ H locs) (hl : lv_has ls 4 [(0, .ref b), (1, .ref (xA G 0)), (2, .ref (B 0)), (3, .int x3)])
    (hgo : ∀ (σ : XS) (μ : MS), Re σ μ → ∀ (cells slots : Nat), cells + 3 * n ≤ 600000 → slots + 196 * n ≤ 7302250 → ∀ (H : Heap) (locs : List Loc) (ls : Array Slot), lH G B s (fun q : Nat => s.heap.size ≤ q) σ μ H locs → lv_has ls 4 [(0, .ref b), (1, .ref (xA G 0)), (2, .ref (B 0)), (3, .int x3)] → W p l e room_1 s m #[Value.ref b] below meth c H locs cells slots (lw_Z below #[Value.ref b] s) (F0 m 1395 ls [])) : W p l e room_1 s m #[Value.ref b] below meth c H locs cells slots (lw_Z below #[Value.ref b] s) (F0 m 1323 ls []) := by
  have hx := hC.1.1
  have hb := hC.1.2.1
  have hts := hC.1.2.2.2.2
  have hbA : ¬ (fun q : Nat => s.heap.size ≤ q) b := Nat.not_le.mpr hbl
  have hcs : cells ≤ room_1.cells ∧ slots ≤ room_1.slots := ⟨by show cells ≤ 600000; omega, by show slots ≤ 7302250; omega⟩
  obtain ⟨r, σ', μ', hfx, hfm, hRe⟩ := hSt_check σ μ (xs (x3 + (1 : Int32)).toNatClampNeg) hRe
  refine lv_aload_n hx hb dL_law_1323 rfl (lv_at hl 1 rfl) ?_
  refine lv_aload_n hx hb dL_law_1324 rfl (lv_at hl 0 rfl) ?_
  refine lv_iload_n hx hb dL_law_1325 rfl (lv_at hl 3 rfl) ?_
  refine lv_iconst (v := 1) hx hb dL_law_1326 (by decide) ?_
  refine lv_iadd hx hb dL_law_1327 ?_
  refine va_sld hx hb hX hbl hbA hH.1.2.2.1 (sc_in (k := 1) hL j ej hj (by decide)) dL_law_1328 ?_
  refine l_callX (As := [.int (xs (x3 + (1 : Int32)).toNatClampNeg)]) (rest := []) (cX_check l G σ (xs (x3 + (1 : Int32)).toNatClampNeg) hfx) hC hH hl (cwV 1 hts (gV wmL_166 wvX7_check) rfl rfl rfl hdX7_check ⟨Nat.le_of_ble_eq_true rfl, Nat.le_of_ble_eq_true rfl⟩) rfl rfl (Nat.le_of_ble_eq_true rfl) hcs dL_law_1329 (fun H locs hH => ?_)
  refine lv_aload_n hx hb dL_law_1332 rfl (lv_at hl 2 rfl) ?_
  refine lv_aload_n hx hb dL_law_1333 rfl (lv_at hl 0 rfl) ?_
  refine lv_iload_n hx hb dL_law_1334 rfl (lv_at hl 3 rfl) ?_
  refine lv_iconst (v := 1) hx hb dL_law_1335 (by decide) ?_
  refine lv_iadd hx hb dL_law_1336 ?_
  refine va_sld hx hb hX hbl hbA hH.1.2.2.1 (sc_in (k := 1) hL j ej hj (by decide)) dL_law_1337 ?_
  refine l_callM (As := [.int (xs (x3 + (1 : Int32)).toNatClampNeg)]) (rest := [.int r]) (cM_check l (xD G) (xK G 0) B μ (xs (x3 + (1 : Int32)).toNatClampNeg) hfm) hC hH hl (cwV 1 hts (gV wmL_169 wvX8_check) rfl rfl rfl hdX8_check ⟨Nat.le_of_ble_eq_true rfl, Nat.le_of_ble_eq_true rfl⟩) rfl rfl (Nat.le_of_ble_eq_true rfl) hcs dL_law_1338 (fun H locs hH => ?_)
  refine lv_icmp_eq (tgt := 1395) hx hb dL_law_1341 (by decide) (fun _ => ?_) (fun c9 => absurd rfl c9)
  exact hgo σ' μ' hRe cells slots (by omega) (by omega) H locs ls hH hl

set_option maxHeartbeats 4000000 in
set_option maxRecDepth 100000 in
theorem law_keep {p : Program} {l : Launch} {e : Env} {s : State} {m : MethodId} {below : List Frame} {meth : Method} {c : Code} {b L : Nat} {xs : Nat → Int32} {G : XG} {B : Nat → Nat} {Re : XS → MS → Prop} (hL : L ≤ 3072) (hC : jC p s m #[Value.ref b] meth c cL_law 4 RL) (hX : va_X b L xs s s.heap) (hbl : b < s.heap.size) (hSt_keep : Ls_keep Re) (n j : Nat) (x3 : Int32) (ej : x3 = nI j) (hj : j + 6 ≤ L) (σ : XS) (μ : MS) (hRe : Re σ μ) (cells slots : Nat) (hc1 : cells + 3 * (n + 1) ≤ 600000) (hc2 : slots + 196 * (n + 1) ≤ 7302250) (H : Heap) (locs : List Loc) (ls : Array Slot) (hH : lH G B s (fun q : Nat => s.heap.size ≤ q) σ μ H locs) (hl : lv_has ls 4 [(0, .ref b), (1, .ref (xA G 0)), (2, .ref (B 0)), (3, .int x3)])
    (hgo : ∀ (σ : XS) (μ : MS), Re σ μ → ∀ (cells slots : Nat), cells + 3 * n ≤ 600000 → slots + 196 * n ≤ 7302250 → ∀ (H : Heap) (locs : List Loc) (ls : Array Slot), lH G B s (fun q : Nat => s.heap.size ≤ q) σ μ H locs → lv_has ls 4 [(0, .ref b), (1, .ref (xA G 0)), (2, .ref (B 0)), (3, .int x3)] → W p l e room_1 s m #[Value.ref b] below meth c H locs cells slots (lw_Z below #[Value.ref b] s) (F0 m 1395 ls [])) : W p l e room_1 s m #[Value.ref b] below meth c H locs cells slots (lw_Z below #[Value.ref b] s) (F0 m 1346 ls []) := by
  have hx := hC.1.1
  have hb := hC.1.2.1
  have hts := hC.1.2.2.2.2
  have hbA : ¬ (fun q : Nat => s.heap.size ≤ q) b := Nat.not_le.mpr hbl
  have hcs : cells ≤ room_1.cells ∧ slots ≤ room_1.slots := ⟨by show cells ≤ 600000; omega, by show slots ≤ 7302250; omega⟩
  obtain ⟨r, σ', μ', hfx, hfm, hRe⟩ := hSt_keep σ μ hRe
  refine lv_aload_n hx hb dL_law_1346 rfl (lv_at hl 1 rfl) ?_
  refine l_callX (As := []) (rest := []) (cX_keep l G σ hfx) hC hH hl (cwV 0 hts (gV wmL_170 wvX7_keep) rfl rfl rfl hdX7_keep ⟨Nat.le_of_ble_eq_true rfl, Nat.le_of_ble_eq_true rfl⟩) rfl rfl (Nat.le_of_ble_eq_true rfl) hcs dL_law_1347 (fun H locs hH => ?_)
  refine lv_aload_n hx hb dL_law_1350 rfl (lv_at hl 2 rfl) ?_
  refine l_callM (As := []) (rest := [.int r]) (cM_keep l (xD G) (xK G 0) B μ hfm) hC hH hl (cwV 0 hts (gV wmL_173 wvX8_keep) rfl rfl rfl hdX8_keep ⟨Nat.le_of_ble_eq_true rfl, Nat.le_of_ble_eq_true rfl⟩) rfl rfl (Nat.le_of_ble_eq_true rfl) hcs dL_law_1351 (fun H locs hH => ?_)
  refine lv_icmp_eq (tgt := 1395) hx hb dL_law_1354 (by decide) (fun _ => ?_) (fun c9 => absurd rfl c9)
  exact hgo σ' μ' hRe cells slots (by omega) (by omega) H locs ls hH hl

set_option maxHeartbeats 4000000 in
set_option maxRecDepth 100000 in
theorem law_back {p : Program} {l : Launch} {e : Env} {s : State} {m : MethodId} {below : List Frame} {meth : Method} {c : Code} {b L : Nat} {xs : Nat → Int32} {G : XG} {B : Nat → Nat} {Re : XS → MS → Prop} (hL : L ≤ 3072) (hC : jC p s m #[Value.ref b] meth c cL_law 4 RL) (hX : va_X b L xs s s.heap) (hbl : b < s.heap.size) (hSt_back : Ls_back Re) (n j : Nat) (x3 : Int32) (ej : x3 = nI j) (hj : j + 6 ≤ L) (σ : XS) (μ : MS) (hRe : Re σ μ) (cells slots : Nat) (hc1 : cells + 3 * (n + 1) ≤ 600000) (hc2 : slots + 196 * (n + 1) ≤ 7302250) (H : Heap) (locs : List Loc) (ls : Array Slot) (hH : lH G B s (fun q : Nat => s.heap.size ≤ q) σ μ H locs) (hl : lv_has ls 4 [(0, .ref b), (1, .ref (xA G 0)), (2, .ref (B 0)), (3, .int x3)])
    (hgo : ∀ (σ : XS) (μ : MS), Re σ μ → ∀ (cells slots : Nat), cells + 3 * n ≤ 600000 → slots + 196 * n ≤ 7302250 → ∀ (H : Heap) (locs : List Loc) (ls : Array Slot), lH G B s (fun q : Nat => s.heap.size ≤ q) σ μ H locs → lv_has ls 4 [(0, .ref b), (1, .ref (xA G 0)), (2, .ref (B 0)), (3, .int x3)] → W p l e room_1 s m #[Value.ref b] below meth c H locs cells slots (lw_Z below #[Value.ref b] s) (F0 m 1395 ls [])) : W p l e room_1 s m #[Value.ref b] below meth c H locs cells slots (lw_Z below #[Value.ref b] s) (F0 m 1359 ls []) := by
  have hx := hC.1.1
  have hb := hC.1.2.1
  have hts := hC.1.2.2.2.2
  have hbA : ¬ (fun q : Nat => s.heap.size ≤ q) b := Nat.not_le.mpr hbl
  have hcs : cells ≤ room_1.cells ∧ slots ≤ room_1.slots := ⟨by show cells ≤ 600000; omega, by show slots ≤ 7302250; omega⟩
  obtain ⟨r, σ', μ', hfx, hfm, hRe⟩ := hSt_back σ μ hRe
  refine lv_aload_n hx hb dL_law_1359 rfl (lv_at hl 1 rfl) ?_
  refine l_callX (As := []) (rest := []) (cX_back l G σ hfx) hC hH hl (cwV 0 hts (gV wmL_174 wvX7_back) rfl rfl rfl hdX7_back ⟨Nat.le_of_ble_eq_true rfl, Nat.le_of_ble_eq_true rfl⟩) rfl rfl (Nat.le_of_ble_eq_true rfl) hcs dL_law_1360 (fun H locs hH => ?_)
  refine lv_aload_n hx hb dL_law_1363 rfl (lv_at hl 2 rfl) ?_
  refine l_callM (As := []) (rest := [.int r]) (cM_back l (xD G) (xK G 0) B μ hfm) hC hH hl (cwV 0 hts (gV wmL_177 wvX8_back) rfl rfl rfl hdX8_back ⟨Nat.le_of_ble_eq_true rfl, Nat.le_of_ble_eq_true rfl⟩) rfl rfl (Nat.le_of_ble_eq_true rfl) hcs dL_law_1364 (fun H locs hH => ?_)
  refine lv_icmp_eq (tgt := 1395) hx hb dL_law_1367 (by decide) (fun _ => ?_) (fun c9 => absurd rfl c9)
  exact hgo σ' μ' hRe cells slots (by omega) (by omega) H locs ls hH hl

set_option maxHeartbeats 4000000 in
set_option maxRecDepth 100000 in
theorem law_count {p : Program} {l : Launch} {e : Env} {s : State} {m : MethodId} {below : List Frame} {meth : Method} {c : Code} {b L : Nat} {xs : Nat → Int32} {G : XG} {B : Nat → Nat} {Re : XS → MS → Prop} (hL : L ≤ 3072) (hC : jC p s m #[Value.ref b] meth c cL_law 4 RL) (hX : va_X b L xs s s.heap) (hbl : b < s.heap.size) (hSt_count : Ls_count Re) (n j : Nat) (x3 : Int32) (ej : x3 = nI j) (hj : j + 6 ≤ L) (σ : XS) (μ : MS) (hRe : Re σ μ) (cells slots : Nat) (hc1 : cells + 3 * (n + 1) ≤ 600000) (hc2 : slots + 196 * (n + 1) ≤ 7302250) (H : Heap) (locs : List Loc) (ls : Array Slot) (hH : lH G B s (fun q : Nat => s.heap.size ≤ q) σ μ H locs) (hl : lv_has ls 4 [(0, .ref b), (1, .ref (xA G 0)), (2, .ref (B 0)), (3, .int x3)])
    (hgo : ∀ (σ : XS) (μ : MS), Re σ μ → ∀ (cells slots : Nat), cells + 3 * n ≤ 600000 → slots + 196 * n ≤ 7302250 → ∀ (H : Heap) (locs : List Loc) (ls : Array Slot), lH G B s (fun q : Nat => s.heap.size ≤ q) σ μ H locs → lv_has ls 4 [(0, .ref b), (1, .ref (xA G 0)), (2, .ref (B 0)), (3, .int x3)] → W p l e room_1 s m #[Value.ref b] below meth c H locs cells slots (lw_Z below #[Value.ref b] s) (F0 m 1395 ls [])) : W p l e room_1 s m #[Value.ref b] below meth c H locs cells slots (lw_Z below #[Value.ref b] s) (F0 m 1372 ls []) := by
  have hx := hC.1.1
  have hb := hC.1.2.1
  have hts := hC.1.2.2.2.2
  have hbA : ¬ (fun q : Nat => s.heap.size ≤ q) b := Nat.not_le.mpr hbl
  have hcs : cells ≤ room_1.cells ∧ slots ≤ room_1.slots := ⟨by show cells ≤ 600000; omega, by show slots ≤ 7302250; omega⟩
  obtain ⟨r, hfx, hfm⟩ := hSt_count σ μ (xs (x3 + (1 : Int32)).toNatClampNeg) hRe
  refine lv_aload_n hx hb dL_law_1372 rfl (lv_at hl 1 rfl) ?_
  refine lv_aload_n hx hb dL_law_1373 rfl (lv_at hl 0 rfl) ?_
  refine lv_iload_n hx hb dL_law_1374 rfl (lv_at hl 3 rfl) ?_
  refine lv_iconst (v := 1) hx hb dL_law_1375 (by decide) ?_
  refine lv_iadd hx hb dL_law_1376 ?_
  refine va_sld hx hb hX hbl hbA hH.1.2.2.1 (sc_in (k := 1) hL j ej hj (by decide)) dL_law_1377 ?_
  refine l_callX (As := [.int (xs (x3 + (1 : Int32)).toNatClampNeg)]) (rest := []) (cX_count l G σ (xs (x3 + (1 : Int32)).toNatClampNeg) hfx) hC hH hl (cwV 1 hts (gV wmL_178 wvX7_count) rfl rfl rfl hdX7_count ⟨Nat.le_of_ble_eq_true rfl, Nat.le_of_ble_eq_true rfl⟩) rfl rfl (Nat.le_of_ble_eq_true rfl) hcs dL_law_1378 (fun H locs hH => ?_)
  refine lv_aload_n hx hb dL_law_1381 rfl (lv_at hl 2 rfl) ?_
  refine lv_aload_n hx hb dL_law_1382 rfl (lv_at hl 0 rfl) ?_
  refine lv_iload_n hx hb dL_law_1383 rfl (lv_at hl 3 rfl) ?_
  refine lv_iconst (v := 1) hx hb dL_law_1384 (by decide) ?_
  refine lv_iadd hx hb dL_law_1385 ?_
  refine va_sld hx hb hX hbl hbA hH.1.2.2.1 (sc_in (k := 1) hL j ej hj (by decide)) dL_law_1386 ?_
  refine l_callM (As := [.int (xs (x3 + (1 : Int32)).toNatClampNeg)]) (rest := [.int r]) (cM_count l (xD G) (xK G 0) B μ (xs (x3 + (1 : Int32)).toNatClampNeg) hfm) hC hH hl (cwV 1 hts (gV wmL_181 wvX8_count) rfl rfl rfl hdX8_count ⟨Nat.le_of_ble_eq_true rfl, Nat.le_of_ble_eq_true rfl⟩) rfl rfl (Nat.le_of_ble_eq_true rfl) hcs dL_law_1387 (fun H locs hH => ?_)
  refine lv_icmp_eq (tgt := 1395) hx hb dL_law_1390 (by decide) (fun _ => ?_) (fun c9 => absurd rfl c9)
  exact hgo σ μ hRe cells slots (by omega) (by omega) H locs ls hH hl

