theorem rf_n (o : String) (x : Option Nat) : narrow (.object o) (va_rf x) = va_rf x := by cases x <;> rfl
theorem rf_f (o : String) (x : Option Nat) : fits (.object o) (va_rf x) = true := by cases x <;> rfl
def zc {α : Type} (v : Int32) (k : Option α) : Option α := if (v.toUInt32 % 65536).toInt32 = v then k else none
theorem zc_some {α : Type} {v : Int32} {k : Option α} {r : α} (h : zc v k = some r) : narrow .char (.int v) = .int v ∧ k = some r := by
  unfold zc at h
  by_cases c : (v.toUInt32 % 65536).toInt32 = v
  · rw [if_pos c] at h
    refine ⟨?_, h⟩
    have := pk_nc v
    rw [c] at this
    exact this
  · rw [if_neg c] at h; cases h
def gd6 {α : Type} (v : Nat) (k : Option α) : Option α := if v < 6 then k else none
theorem gd6_some {α : Type} {v : Nat} {k : Option α} {r : α} (h : gd6 v k = some r) : v < 6 ∧ k = some r := by
  unfold gd6 at h
  by_cases c : v < 6
  · rw [if_pos c] at h; exact ⟨c, h⟩
  · rw [if_neg c] at h; cases h
theorem zq_opt {C n d : String} {A : Nat → Prop} {U : State} {H : Heap} (h : va_Zq C n d A U H) : ∃ x : Option Nat, va_Z C n d (va_rf x) A U H := by
  rcases h with h | ⟨t, h⟩
  · exact ⟨none, h⟩
  · exact ⟨some t, h⟩
theorem x_callS {p : Program} {l : Launch} {e : Env} {R : Room} {s : State} {m : MethodId} {args : Array Value} {below : List Frame} {meth : Method} {c : Code} {H : Heap} {locs : List Loc} {cells slots : Nat} {Q : State → Prop} {cc : ByteArray} {pc : Nat} {ls : Array Slot} {rest : List Value} {G : XG} {A0 : Nat → Prop} {σ σ1 : XS} {nL : Nat} {own : String} {index : Nat} {y : MethodName} {bytes : ByteArray} {maxL n : Nat} {ret : Option FieldType} {rm : Room} {As : List Value} {lv : List (Nat × Value)} {i : Nat} {r : Int32} (hM : ∀ sz, Met l y (Cond.code y bytes maxL ret :: Tw) rm (xP G σ sz (.ref (xaK G i) :: As)) (xQi G σ sz σ1 r) 0 0 (va_A (xW G σ) sz)) (hC : jC p s m args meth c cc nL own) (hH : xH G s A0 σ H locs) (hl : lv_has ls nL lv) (hi : i < 6)
    (cw : CallW R s args own RJ0 index y bytes maxL ret (Cond.code y bytes maxL ret :: Tw) rm 0 0 n) (hn : As.length = n) {st0 : List Value} (hst : st0 = As.reverse ++ .ref (xaK G i) :: rest) (hrw : (rest.map fun v => v.category).sum ≤ 8) (hf : cells ≤ R.cells ∧ slots ≤ R.slots) (hdg : decode cc pc = .ok (.invokevirtual index, 3))
    (kk : ∀ (H1 : Heap) (locs1 : List Loc), xH G s A0 σ1 H1 locs1 → W p l e R s m args below meth c H1 locs1 cells slots Q (F0 m (pc + 3) ls (.int r :: rest))) : W p l e R s m args below meth c H locs cells slots Q (F0 m pc ls st0) := by
  refine va_calli (va_runV (As := As) (rest := rest) hC.1 (hM H.size) cw ⟨x_blind, vk_recv hH.2.2.2.2.2.2.2.1 hi hH.2.2.1, x_pre hH (.ref (xaK G i) :: As)⟩ rfl hn hl.1 hst (lv_room hrw) hdg hf) hH.2.2.1 (fun q _ h => x_sub hH q h) (x_sub hH) (fun r2 u t H1 locs1 ht hvm hw hB hz1 hk1 hS => ?_)
  subst hw
  exact kk H1 locs1 (x_aft hH ht hB hS)
theorem rowlt {j : Nat} (h : j < 5) : 4 + j < 9 := by omega

def rmL_joined : Room := { frames := 0, cells := 0, slots := 0, locals := 0 }
theorem hdX2_joined : yX2_joined.cls ≠ "java/lang/invoke/MethodHandle" ∧ yX2_joined.cls ≠ "java/lang/invoke/VarHandle" ∧ (parseMethodDescriptor yX2_joined.desc).map (fun d => d.parameters.length) = some 3 := by decide +kernel

def fL_joined (σ0 : XS) (x0 : Int32) (x1 : Int32) (x2 : Int32) : Option (Int32) :=
  if x0 = (38 : Int32) then (
    if x1 = 0 then (
      some (0 : Int32))
    else (
      if x2 = 0 then (
        some (0 : Int32))
      else (
        some (1 : Int32))))
  else if x0 = (42 : Int32) then (
    some (x1 * x2))
  else if x0 = (43 : Int32) then (
    some (x1 + x2))
  else if x0 = (45 : Int32) then (
    some (x1 - x2))
  else if x0 = (60 : Int32) then (
    if x2 ≤ x1 then (
      some (0 : Int32))
    else (
      some (1 : Int32)))
  else if x0 = (61 : Int32) then (
    if x1 = x2 then (
      some (1 : Int32))
    else (
      some (0 : Int32)))
  else if x0 = (62 : Int32) then (
    if x1 ≤ x2 then (
      some (0 : Int32))
    else (
      some (1 : Int32)))
  else if x0 = (124 : Int32) then (
    if x1 = 0 then (
      if x2 = 0 then (
        some (0 : Int32))
      else (
        some (1 : Int32)))
    else (
      some (1 : Int32)))
  else (
    if x2 = 0 then (
      some (0 : Int32))
    else (
      nz x2 <|
      some (x1 / x2)))

set_option maxHeartbeats 4000000 in
set_option maxRecDepth 100000 in
theorem cL_joined (l : Launch) (G : XG) (σ0 : XS) (x0 : Int32) (x1 : Int32) (x2 : Int32) {r : Int32} (h : fL_joined σ0 x0 x1 x2 = some r) : ∀ sz, Met l yX2_joined (Cond.code yX2_joined cX2_joined 3 (some .int) :: Tw) rmL_joined (xP G σ0 sz [.int x0, .int x1, .int x2]) (xQi G σ0 sz σ0 r) 0 0 (va_A (xW G σ0) sz) := by
  intro sz
  refine Met.ofW (cc := cX2_joined) (maxL := 3) (ret := (some .int)) (by decide) rfl ?_
  intro p e s m args below meth c s₁ Bd hml hv
  obtain ⟨hC, hr⟩ := jC_of Bd hml
  obtain ⟨rfl, rfl, hH⟩ := x_enter hv
  have hC : jC p s m _ meth c cX2_joined 3 RX2 := hC
  have hx := hC.1.1
  have hb := hC.1.2.1
  have hown := hC.1.2.2.2.1
  have hts := hC.1.2.2.2.2
  have hl := lv_entry ([.int x0, .int x1, .int x2]) (n := 3) (Nat.le_of_ble_eq_true rfl)
  rw [lg_entry_eq]
  generalize (lg_sl ([.int x0, .int x1, .int x2]) ++ List.replicate (3 - (lg_sl ([.int x0, .int x1, .int x2])).length) Slot.unset).toArray = ls at hl ⊢
  have hl : lv_has ls 3 [(0, .int x0), (1, .int x1), (2, .int x2)] := hl
  unfold fL_joined at h
  refine W_nm (fun H locs eH eL => ?_)
  have hH : xH G s (va_A (xW G σ0) s.heap.size) σ0 H locs := by rw [eH, eL]; exact hH
  show W p l e rmL_joined s m _ below meth c H locs 0 0 _ (F0 m 0 ls [])
  refine lv_iload_n hx hb dX2_joined_0 rfl (lv_at hl 0 rfl) ?_
  by_cases c1 : x0 = (38 : Int32)
  · have h := ite_t c1 h
    refine lv_lsw (tgt := 90) (off := 89) hx hb (38) c1 dX2_joined_1 (by decide) (by decide) (by decide) ?_
    refine lv_iload_n hx hb dX2_joined_90 rfl (lv_at hl 1 rfl) ?_
    refine lv_if_eq (tgt := 102) hx hb dX2_joined_91 (by decide) (fun c2 => ?_) (fun c2 => ?_)
    · have h := ite_t c2 h
      refine lv_iconst (v := 0) hx hb dX2_joined_102 (by decide) ?_
      obtain rfl := some_i1 h
      exact x_iret (v := 0) hC hH hr rfl dX2_joined_103
    · have h := ite_f c2 h
      refine lv_iload_n hx hb dX2_joined_94 rfl (lv_at hl 2 rfl) ?_
      refine lv_if_eq (tgt := 102) hx hb dX2_joined_95 (by decide) (fun c3 => ?_) (fun c3 => ?_)
      · have h := ite_t c3 h
        refine lv_iconst (v := 0) hx hb dX2_joined_102 (by decide) ?_
        obtain rfl := some_i1 h
        exact x_iret (v := 0) hC hH hr rfl dX2_joined_103
      · have h := ite_f c3 h
        refine lv_iconst (v := 1) hx hb dX2_joined_98 (by decide) ?_
        refine lv_goto (tgt := 103) hx hb dX2_joined_99 (by decide) ?_
        obtain rfl := some_i1 h
        exact x_iret (v := 1) hC hH hr rfl dX2_joined_103
  · have h := ite_f c1 h
    by_cases c4 : x0 = (42 : Int32)
    · have h := ite_t c4 h
      refine lv_lsw (tgt := 145) (off := 144) hx hb (42) c4 dX2_joined_1 (by decide) (by decide) (by decide) ?_
      refine lv_iload_n hx hb dX2_joined_145 rfl (lv_at hl 1 rfl) ?_
      refine lv_iload_n hx hb dX2_joined_146 rfl (lv_at hl 2 rfl) ?_
      refine lv_imul hx hb dX2_joined_147 ?_
      obtain rfl := some_i1 h
      exact x_iret hC hH hr rfl dX2_joined_148
    · have h := ite_f c4 h
      by_cases c5 : x0 = (43 : Int32)
      · have h := ite_t c5 h
        refine lv_lsw (tgt := 137) (off := 136) hx hb (43) c5 dX2_joined_1 (by decide) (by decide) (by decide) ?_
        refine lv_iload_n hx hb dX2_joined_137 rfl (lv_at hl 1 rfl) ?_
        refine lv_iload_n hx hb dX2_joined_138 rfl (lv_at hl 2 rfl) ?_
        refine lv_iadd hx hb dX2_joined_139 ?_
        obtain rfl := some_i1 h
        exact x_iret hC hH hr rfl dX2_joined_140
      · have h := ite_f c5 h
        by_cases c6 : x0 = (45 : Int32)
        · have h := ite_t c6 h
          refine lv_lsw (tgt := 141) (off := 140) hx hb (45) c6 dX2_joined_1 (by decide) (by decide) (by decide) ?_
          refine lv_iload_n hx hb dX2_joined_141 rfl (lv_at hl 1 rfl) ?_
          refine lv_iload_n hx hb dX2_joined_142 rfl (lv_at hl 2 rfl) ?_
          refine lv_isub hx hb dX2_joined_143 ?_
          obtain rfl := some_i1 h
          exact x_iret hC hH hr rfl dX2_joined_144
        · have h := ite_f c6 h
          by_cases c7 : x0 = (60 : Int32)
          · have h := ite_t c7 h
            refine lv_lsw (tgt := 104) (off := 103) hx hb (60) c7 dX2_joined_1 (by decide) (by decide) (by decide) ?_
            refine lv_iload_n hx hb dX2_joined_104 rfl (lv_at hl 1 rfl) ?_
            refine lv_iload_n hx hb dX2_joined_105 rfl (lv_at hl 2 rfl) ?_
            refine lv_icmp_ge (tgt := 113) hx hb dX2_joined_106 (by decide) (fun c8 => ?_) (fun c8 => ?_)
            · have h := ite_t c8 h
              refine lv_iconst (v := 0) hx hb dX2_joined_113 (by decide) ?_
              obtain rfl := some_i1 h
              exact x_iret (v := 0) hC hH hr rfl dX2_joined_114
            · have h := ite_f c8 h
              refine lv_iconst (v := 1) hx hb dX2_joined_109 (by decide) ?_
              refine lv_goto (tgt := 114) hx hb dX2_joined_110 (by decide) ?_
              obtain rfl := some_i1 h
              exact x_iret (v := 1) hC hH hr rfl dX2_joined_114
          · have h := ite_f c7 h
            by_cases c9 : x0 = (61 : Int32)
            · have h := ite_t c9 h
              refine lv_lsw (tgt := 115) (off := 114) hx hb (61) c9 dX2_joined_1 (by decide) (by decide) (by decide) ?_
              refine lv_iload_n hx hb dX2_joined_115 rfl (lv_at hl 1 rfl) ?_
              refine lv_iload_n hx hb dX2_joined_116 rfl (lv_at hl 2 rfl) ?_
              refine lv_icmp_ne (tgt := 124) hx hb dX2_joined_117 (by decide) (fun c10 => ?_) (fun c10 => ?_)
              · have h := ite_f c10 h
                refine lv_iconst (v := 0) hx hb dX2_joined_124 (by decide) ?_
                obtain rfl := some_i1 h
                exact x_iret (v := 0) hC hH hr rfl dX2_joined_125
              · have h := ite_t c10 h
                refine lv_iconst (v := 1) hx hb dX2_joined_120 (by decide) ?_
                refine lv_goto (tgt := 125) hx hb dX2_joined_121 (by decide) ?_
                obtain rfl := some_i1 h
                exact x_iret (v := 1) hC hH hr rfl dX2_joined_125
            · have h := ite_f c9 h
              by_cases c11 : x0 = (62 : Int32)
              · have h := ite_t c11 h
                refine lv_lsw (tgt := 126) (off := 125) hx hb (62) c11 dX2_joined_1 (by decide) (by decide) (by decide) ?_
                refine lv_iload_n hx hb dX2_joined_126 rfl (lv_at hl 1 rfl) ?_
                refine lv_iload_n hx hb dX2_joined_127 rfl (lv_at hl 2 rfl) ?_
                refine lv_icmp_le (tgt := 135) hx hb dX2_joined_128 (by decide) (fun c12 => ?_) (fun c12 => ?_)
                · have h := ite_t c12 h
                  refine lv_iconst (v := 0) hx hb dX2_joined_135 (by decide) ?_
                  obtain rfl := some_i1 h
                  exact x_iret (v := 0) hC hH hr rfl dX2_joined_136
                · have h := ite_f c12 h
                  refine lv_iconst (v := 1) hx hb dX2_joined_131 (by decide) ?_
                  refine lv_goto (tgt := 136) hx hb dX2_joined_132 (by decide) ?_
                  obtain rfl := some_i1 h
                  exact x_iret (v := 1) hC hH hr rfl dX2_joined_136
              · have h := ite_f c11 h
                by_cases c13 : x0 = (124 : Int32)
                · have h := ite_t c13 h
                  refine lv_lsw (tgt := 76) (off := 75) hx hb (124) c13 dX2_joined_1 (by decide) (by decide) (by decide) ?_
                  refine lv_iload_n hx hb dX2_joined_76 rfl (lv_at hl 1 rfl) ?_
                  refine lv_if_ne (tgt := 84) hx hb dX2_joined_77 (by decide) (fun c14 => ?_) (fun c14 => ?_)
                  · have h := ite_f c14 h
                    refine lv_iconst (v := 1) hx hb dX2_joined_84 (by decide) ?_
                    refine lv_goto (tgt := 89) hx hb dX2_joined_85 (by decide) ?_
                    obtain rfl := some_i1 h
                    exact x_iret (v := 1) hC hH hr rfl dX2_joined_89
                  · have h := ite_t c14 h
                    refine lv_iload_n hx hb dX2_joined_80 rfl (lv_at hl 2 rfl) ?_
                    refine lv_if_eq (tgt := 88) hx hb dX2_joined_81 (by decide) (fun c15 => ?_) (fun c15 => ?_)
                    · have h := ite_t c15 h
                      refine lv_iconst (v := 0) hx hb dX2_joined_88 (by decide) ?_
                      obtain rfl := some_i1 h
                      exact x_iret (v := 0) hC hH hr rfl dX2_joined_89
                    · have h := ite_f c15 h
                      refine lv_iconst (v := 1) hx hb dX2_joined_84 (by decide) ?_
                      refine lv_goto (tgt := 89) hx hb dX2_joined_85 (by decide) ?_
                      obtain rfl := some_i1 h
                      exact x_iret (v := 1) hC hH hr rfl dX2_joined_89
                · have h := ite_f c13 h
                  refine lv_lookup (tgt := 149) (off := 148) hx hb dX2_joined_1 (by decide) ((lv_osw c1 (by decide)).trans ((lv_osw c4 (by decide)).trans ((lv_osw c5 (by decide)).trans ((lv_osw c6 (by decide)).trans ((lv_osw c7 (by decide)).trans ((lv_osw c9 (by decide)).trans ((lv_osw c11 (by decide)).trans ((lv_osw c13 (by decide)).trans rfl)))))))) (by decide) ?_
                  refine lv_iload_n hx hb dX2_joined_149 rfl (lv_at hl 2 rfl) ?_
                  refine lv_if_ne (tgt := 157) hx hb dX2_joined_150 (by decide) (fun c16 => ?_) (fun c16 => ?_)
                  · have h := ite_f c16 h
                    refine lv_iload_n hx hb dX2_joined_157 rfl (lv_at hl 1 rfl) ?_
                    refine lv_iload_n hx hb dX2_joined_158 rfl (lv_at hl 2 rfl) ?_
                    obtain ⟨z17, h⟩ := nz_some h
                    refine lv_idiv hx hb dX2_joined_159 z17 ?_
                    obtain rfl := some_i1 h
                    exact x_iret hC hH hr rfl dX2_joined_160
                  · have h := ite_t c16 h
                    refine lv_iconst (v := 0) hx hb dX2_joined_153 (by decide) ?_
                    refine lv_goto (tgt := 160) hx hb dX2_joined_154 (by decide) ?_
                    obtain rfl := some_i1 h
                    exact x_iret (v := 0) hC hH hr rfl dX2_joined_160

def rmL_gives : Room := { frames := 1, cells := 0, slots := 0, locals := 22 }
theorem hdX2_gives : yX2_gives.cls = RX2 ∧ yX2_gives.cls ≠ "java/lang/invoke/MethodHandle" ∧ yX2_gives.cls ≠ "java/lang/invoke/VarHandle" ∧ (parseMethodDescriptor yX2_gives.desc).map (fun d => d.parameters.length) = some 3 := by decide +kernel

def fL_gives_L6 (aw : Nat) (k174 : Int32 → XS → Option (Int32 × XS)) : Nat → Int32 → Int32 → Int32 → Int32 → Int32 → XS → Option (Int32 × XS)
  | 0, _, _, _, _, _, _ => none
  | n + 1, x1, x2, x3, x4, x5, σ =>
    lk σ aw <|
    la σ (xq σ aw 0) <|
    if (Int32.ofNat (xq σ (xq σ aw 0) 2)) ≤ x5 then (
      k174 x4 σ)
    else (
      lk σ aw <|
      la σ (xq σ aw 0) <|
      ck x5 (xq σ (xq σ aw 0) 2) <|
      bnd (xw σ (xq σ aw 0) (x5).toNatClampNeg) fun v7 =>
      if v7 < (-3 : Int32) then (
        if v7 = (-33 : Int32) then (
          if x4 ≤ 0 then (
            bnd (x5 + (1 : Int32)) fun v32 =>
            (fL_gives_L6 aw k174 n) x1 x2 x3 x4 v32 σ)
          else (
            lk σ aw <|
            lk σ aw <|
            la σ (xq σ aw 1) <|
            ck (x4 - (1 : Int32)) (xq σ (xq σ aw 1) 2) <|
            if (xw σ (xq σ aw 1) ((x4 - (1 : Int32))).toNatClampNeg) = 0 then (
              la σ (xq σ aw 1) <|
              ck (x4 - (1 : Int32)) (xq σ (xq σ aw 1) 2) <|
              bnd (xuw σ (xq σ aw 1) ((x4 - (1 : Int32))).toNatClampNeg (1 : Int32)) fun σ45 =>
              bnd (x5 + (1 : Int32)) fun v49 =>
              (fL_gives_L6 aw k174 n) x1 x2 x3 x4 v49 σ45)
            else (
              la σ (xq σ aw 1) <|
              ck (x4 - (1 : Int32)) (xq σ (xq σ aw 1) 2) <|
              bnd (xuw σ (xq σ aw 1) ((x4 - (1 : Int32))).toNatClampNeg (0 : Int32)) fun σ39 =>
              bnd (x5 + (1 : Int32)) fun v43 =>
              (fL_gives_L6 aw k174 n) x1 x2 x3 x4 v43 σ39)))
        else (
          if x4 ≤ (1 : Int32) then (
            bnd (x5 + (1 : Int32)) fun v12 =>
            (fL_gives_L6 aw k174 n) x1 x2 x3 x4 v12 σ)
          else (
            bnd (x4 + (-1 : Int32)) fun v14 =>
            lk σ aw <|
            lk σ aw <|
            la σ (xq σ aw 1) <|
            ck (v14 - (1 : Int32)) (xq σ (xq σ aw 1) 2) <|
            lk σ aw <|
            la σ (xq σ aw 1) <|
            ck v14 (xq σ (xq σ aw 1) 2) <|
            ob (fL_joined σ (-v7) (xw σ (xq σ aw 1) ((v14 - (1 : Int32))).toNatClampNeg) (xw σ (xq σ aw 1) (v14).toNatClampNeg)) fun r24 =>
            la σ (xq σ aw 1) <|
            ck (v14 - (1 : Int32)) (xq σ (xq σ aw 1) 2) <|
            bnd (xuw σ (xq σ aw 1) ((v14 - (1 : Int32))).toNatClampNeg r24) fun σ25 =>
            bnd (x5 + (1 : Int32)) fun v29 =>
            (fL_gives_L6 aw k174 n) x1 x2 x3 v14 v29 σ25)))
      else (
        lk σ aw <|
        la σ (xq σ aw 1) <|
        if (Int32.ofNat (xq σ (xq σ aw 1) 2)) ≤ x4 then (
          bnd (x5 + (1 : Int32)) fun v54 =>
          (fL_gives_L6 aw k174 n) x1 x2 x3 x4 v54 σ)
        else (
          lk σ aw <|
          if v7 < 0 then (
            if v7 = (-1 : Int32) then (
              la σ (xq σ aw 1) <|
              ck x4 (xq σ (xq σ aw 1) 2) <|
              bnd (xuw σ (xq σ aw 1) (x4).toNatClampNeg x1) fun σ76 =>
              bnd (x4 + (1 : Int32)) fun v80 =>
              bnd (x5 + (1 : Int32)) fun v82 =>
              (fL_gives_L6 aw k174 n) x1 x2 x3 v80 v82 σ76)
            else (
              if v7 = (-2 : Int32) then (
                la σ (xq σ aw 1) <|
                ck x4 (xq σ (xq σ aw 1) 2) <|
                bnd (xuw σ (xq σ aw 1) (x4).toNatClampNeg x2) fun σ68 =>
                bnd (x4 + (1 : Int32)) fun v72 =>
                bnd (x5 + (1 : Int32)) fun v74 =>
                (fL_gives_L6 aw k174 n) x1 x2 x3 v72 v74 σ68)
              else (
                la σ (xq σ aw 1) <|
                ck x4 (xq σ (xq σ aw 1) 2) <|
                bnd (xuw σ (xq σ aw 1) (x4).toNatClampNeg x3) fun σ60 =>
                bnd (x4 + (1 : Int32)) fun v64 =>
                bnd (x5 + (1 : Int32)) fun v66 =>
                (fL_gives_L6 aw k174 n) x1 x2 x3 v64 v66 σ60)))
          else (
            la σ (xq σ aw 1) <|
            ck x4 (xq σ (xq σ aw 1) 2) <|
            bnd (xuw σ (xq σ aw 1) (x4).toNatClampNeg v7) fun σ84 =>
            bnd (x4 + (1 : Int32)) fun v88 =>
            bnd (x5 + (1 : Int32)) fun v90 =>
            (fL_gives_L6 aw k174 n) x1 x2 x3 v88 v90 σ84))))

set_option maxHeartbeats 4000000 in
set_option maxRecDepth 100000 in
theorem wL_gives_L6 {p : Program} {l : Launch} {e : Env} {s : State} {m : MethodId} {args : Array Value} {below : List Frame} {meth : Method} {c : Code} {G : XG} {σ0 : XS} {aw : Nat} {r : Int32} {σr : XS} (hC : jC p s m args meth c cX2_gives 7 RX2) (hr : meth.sig.returnType = some .int) {k174 : Int32 → XS → Option (Int32 × XS)} (hk174 : ∀ (x4 : Int32) (σ : XS) (H : Heap) (locs : List Loc) (ls : Array Slot), xH G s (va_A (xW G σ0) s.heap.size) σ H locs → lv_has ls 7 [(0, .ref aw), (4, .int x4)] → k174 x4 σ = some (r, σr) → W p l e rmL_gives s m args below meth c H locs 0 0 (MQ below (xQi G σ0 s.heap.size σr r) args s 0 0 (va_A (xW G σ0) s.heap.size)) (F0 m 174 ls [])) : ∀ (n : Nat) (x1 : Int32) (x2 : Int32) (x3 : Int32) (x4 : Int32) (x5 : Int32) (σ : XS) (H : Heap) (locs : List Loc) (ls : Array Slot), xH G s (va_A (xW G σ0) s.heap.size) σ H locs → lv_has ls 7 [(0, .ref aw), (1, .int x1), (2, .int x2), (3, .int x3), (4, .int x4), (5, .int x5)] → fL_gives_L6 aw k174 n x1 x2 x3 x4 x5 σ = some (r, σr) → W p l e rmL_gives s m args below meth c H locs 0 0 (MQ below (xQi G σ0 s.heap.size σr r) args s 0 0 (va_A (xW G σ0) s.heap.size)) (F0 m 6 ls []) := by
  have hx := hC.1.1
  have hb := hC.1.2.1
  have hown := hC.1.2.2.2.1
  have hts := hC.1.2.2.2.2
  intro n
  induction n with
  | zero =>
    intro x1 x2 x3 x4 x5 σ H locs ls  hH hl h
    rw [fL_gives_L6] at h
    cases h
  | succ n ih =>
    intro x1 x2 x3 x4 x5 σ H locs ls  hH hl h
    rw [fL_gives_L6] at h
    refine lv_iload hx hb dX2_gives_6 (lv_at hl 5 rfl) ?_
    refine lv_aload_n hx hb dX2_gives_8 rfl (lv_at hl 0 rfl) ?_
    obtain ⟨q1, h⟩ := lk_some h
    refine x_pget hC hH q1 2 (by decide) wfX2_16 rfl rfl dX2_gives_9 ?_
    obtain ⟨q2, h⟩ := la_some h
    refine x_palen hC hH q2 rfl dX2_gives_12 ?_
    refine lv_icmp_ge (tgt := 174) hx hb dX2_gives_13 (by decide) (fun c3 => ?_) (fun c3 => ?_)
    · have h := ite_t c3 h
      exact hk174 x4 σ H locs ls  hH (lv_sub hl [0, 4] rfl) h
    · have h := ite_f c3 h
      refine lv_aload_n hx hb dX2_gives_16 rfl (lv_at hl 0 rfl) ?_
      obtain ⟨q4, h⟩ := lk_some h
      refine x_pget hC hH q4 2 (by decide) wfX2_16 rfl rfl dX2_gives_17 ?_
      refine lv_iload hx hb dX2_gives_20 (lv_at hl 5 rfl) ?_
      obtain ⟨q5, h⟩ := la_some h
      obtain ⟨i6, h⟩ := ck_some h
      refine x_pald hC hH q5 rfl i6 dX2_gives_22 ?_
      obtain ⟨v7, e8, h⟩ := bnd_some h
      refine lv_tope e8 ?_
      refine lv_istore (lv' := [(6, .int v7), (0, .ref aw), (1, .int x1), (2, .int x2), (3, .int x3), (4, .int x4), (5, .int x5)]) hx hb dX2_gives_23 hl (by decide) rfl (fun ls hl => ?_)
      refine lv_iload hx hb dX2_gives_25 (lv_at hl 0 rfl) ?_
      refine lv_bipush (v := -3) hx hb dX2_gives_27 (by decide) ?_
      refine lv_icmp_lt (tgt := 87) hx hb dX2_gives_29 (by decide) (fun c9 => ?_) (fun c9 => ?_)
      · have h := ite_t c9 h
        refine lv_iload hx hb dX2_gives_87 (lv_at hl 0 rfl) ?_
        refine lv_bipush (v := -33) hx hb dX2_gives_89 (by decide) ?_
        refine lv_icmp_ne (tgt := 128) hx hb dX2_gives_91 (by decide) (fun c10 => ?_) (fun c10 => ?_)
        · have h := ite_f c10 h
          refine lv_iload hx hb dX2_gives_128 (lv_at hl 5 rfl) ?_
          refine lv_iconst (v := 1) hx hb dX2_gives_130 (by decide) ?_
          refine lv_icmp_le (tgt := 168) hx hb dX2_gives_131 (by decide) (fun c11 => ?_) (fun c11 => ?_)
          · have h := ite_t c11 h
            obtain ⟨v12, e13, h⟩ := bnd_some h
            refine lv_iinc (v := v12) (lv' := [(5, .int v12), (6, .int v7), (0, .ref aw), (1, .int x1), (2, .int x2), (3, .int x3), (4, .int x4)]) hx hb dX2_gives_168 hl (k := 6) rfl (by rw [e13]; rfl) (by decide) rfl (fun ls hl => ?_)
            refine lv_goto (tgt := 6) hx hb dX2_gives_171 (by decide) ?_
            exact ih x1 x2 x3 x4 v12 σ H locs ls  hH (lv_sub hl [2, 3, 4, 5, 6, 0] rfl) h
          · have h := ite_f c11 h
            obtain ⟨v14, e15, h⟩ := bnd_some h
            refine lv_iinc (v := v14) (lv' := [(4, .int v14), (6, .int v7), (0, .ref aw), (1, .int x1), (2, .int x2), (3, .int x3), (5, .int x5)]) hx hb dX2_gives_134 hl (k := 5) rfl (by rw [e15]; rfl) (by decide) rfl (fun ls hl => ?_)
            refine lv_aload_n hx hb dX2_gives_137 rfl (lv_at hl 2 rfl) ?_
            obtain ⟨q16, h⟩ := lk_some h
            refine x_pget hC hH q16 3 (by decide) wfX2_20 rfl rfl dX2_gives_138 ?_
            refine lv_iload hx hb dX2_gives_141 (lv_at hl 0 rfl) ?_
            refine lv_iconst (v := 1) hx hb dX2_gives_143 (by decide) ?_
            refine lv_isub hx hb dX2_gives_144 ?_
            refine lv_iload hx hb dX2_gives_145 (lv_at hl 1 rfl) ?_
            refine lv_ineg hx hb dX2_gives_147 ?_
            refine lv_aload_n hx hb dX2_gives_148 rfl (lv_at hl 2 rfl) ?_
            obtain ⟨q17, h⟩ := lk_some h
            refine x_pget hC hH q17 3 (by decide) wfX2_20 rfl rfl dX2_gives_149 ?_
            refine lv_iload hx hb dX2_gives_152 (lv_at hl 0 rfl) ?_
            refine lv_iconst (v := 1) hx hb dX2_gives_154 (by decide) ?_
            refine lv_isub hx hb dX2_gives_155 ?_
            obtain ⟨q18, h⟩ := la_some h
            obtain ⟨i19, h⟩ := ck_some h
            refine x_pald hC hH q18 rfl i19 dX2_gives_156 ?_
            refine lv_aload_n hx hb dX2_gives_157 rfl (lv_at hl 2 rfl) ?_
            obtain ⟨q20, h⟩ := lk_some h
            refine x_pget hC hH q20 3 (by decide) wfX2_20 rfl rfl dX2_gives_158 ?_
            refine lv_iload hx hb dX2_gives_161 (lv_at hl 0 rfl) ?_
            obtain ⟨q21, h⟩ := la_some h
            obtain ⟨i22, h⟩ := ck_some h
            refine x_pald hC hH q21 rfl i22 dX2_gives_163 ?_
            obtain ⟨r24, h23, h⟩ := ob_some h
            refine x_calls (As := [.int (-v7), .int (xw σ (xq σ aw 1) ((v14 - (1 : Int32))).toNatClampNeg), .int (xw σ (xq σ aw 1) (v14).toNatClampNeg)]) (rest := [.int (v14 - (1 : Int32)), .ref (xq σ aw 1)]) (cL_joined l G σ (-v7) (xw σ (xq σ aw 1) ((v14 - (1 : Int32))).toNatClampNeg) (xw σ (xq σ aw 1) (v14).toNatClampNeg)  h23) hC hH hl (va_cwS 3 hts (gS wmX2_29 wsX2_joined) rfl rfl rfl hdX2_joined ⟨Nat.le_of_ble_eq_true rfl, Nat.le_of_ble_eq_true rfl⟩) rfl rfl (Nat.le_of_ble_eq_true rfl) ⟨Nat.zero_le _, Nat.zero_le _⟩ dX2_gives_164 (fun H locs hH => ?_)
            obtain ⟨q27, h⟩ := la_some h
            obtain ⟨i28, h⟩ := ck_some h
            obtain ⟨σ25, e26, h⟩ := bnd_some h
            refine x_past hC hH q27 rfl e26 i28 dX2_gives_167 (fun H locs hH => ?_)
            obtain ⟨v29, e30, h⟩ := bnd_some h
            refine lv_iinc (v := v29) (lv' := [(5, .int v29), (4, .int v14), (6, .int v7), (0, .ref aw), (1, .int x1), (2, .int x2), (3, .int x3)]) hx hb dX2_gives_168 hl (k := 6) rfl (by rw [e30]; rfl) (by decide) rfl (fun ls hl => ?_)
            refine lv_goto (tgt := 6) hx hb dX2_gives_171 (by decide) ?_
            exact ih x1 x2 x3 v14 v29 σ25 H locs ls  hH (lv_sub hl [3, 4, 5, 6, 1, 0] rfl) h
        · have h := ite_t c10 h
          refine lv_iload hx hb dX2_gives_94 (lv_at hl 5 rfl) ?_
          refine lv_if_le (tgt := 168) hx hb dX2_gives_96 (by decide) (fun c31 => ?_) (fun c31 => ?_)
          · have h := ite_t c31 h
            obtain ⟨v32, e33, h⟩ := bnd_some h
            refine lv_iinc (v := v32) (lv' := [(5, .int v32), (6, .int v7), (0, .ref aw), (1, .int x1), (2, .int x2), (3, .int x3), (4, .int x4)]) hx hb dX2_gives_168 hl (k := 6) rfl (by rw [e33]; rfl) (by decide) rfl (fun ls hl => ?_)
            refine lv_goto (tgt := 6) hx hb dX2_gives_171 (by decide) ?_
            exact ih x1 x2 x3 x4 v32 σ H locs ls  hH (lv_sub hl [2, 3, 4, 5, 6, 0] rfl) h
          · have h := ite_f c31 h
            refine lv_aload_n hx hb dX2_gives_99 rfl (lv_at hl 1 rfl) ?_
            obtain ⟨q34, h⟩ := lk_some h
            refine x_pget hC hH q34 3 (by decide) wfX2_20 rfl rfl dX2_gives_100 ?_
            refine lv_iload hx hb dX2_gives_103 (lv_at hl 5 rfl) ?_
            refine lv_iconst (v := 1) hx hb dX2_gives_105 (by decide) ?_
            refine lv_isub hx hb dX2_gives_106 ?_
            refine lv_aload_n hx hb dX2_gives_107 rfl (lv_at hl 1 rfl) ?_
            obtain ⟨q35, h⟩ := lk_some h
            refine x_pget hC hH q35 3 (by decide) wfX2_20 rfl rfl dX2_gives_108 ?_
            refine lv_iload hx hb dX2_gives_111 (lv_at hl 5 rfl) ?_
            refine lv_iconst (v := 1) hx hb dX2_gives_113 (by decide) ?_
            refine lv_isub hx hb dX2_gives_114 ?_
            obtain ⟨q36, h⟩ := la_some h
            obtain ⟨i37, h⟩ := ck_some h
            refine x_pald hC hH q36 rfl i37 dX2_gives_115 ?_
            refine lv_if_ne (tgt := 123) hx hb dX2_gives_116 (by decide) (fun c38 => ?_) (fun c38 => ?_)
            · have h := ite_f c38 h
              refine lv_iconst (v := 0) hx hb dX2_gives_123 (by decide) ?_
              obtain ⟨q41, h⟩ := la_some h
              obtain ⟨i42, h⟩ := ck_some h
              obtain ⟨σ39, e40, h⟩ := bnd_some h
              refine x_past hC hH q41 rfl e40 i42 dX2_gives_124 (fun H locs hH => ?_)
              refine lv_goto (tgt := 168) hx hb dX2_gives_125 (by decide) ?_
              obtain ⟨v43, e44, h⟩ := bnd_some h
              refine lv_iinc (v := v43) (lv' := [(5, .int v43), (6, .int v7), (0, .ref aw), (1, .int x1), (2, .int x2), (3, .int x3), (4, .int x4)]) hx hb dX2_gives_168 hl (k := 6) rfl (by rw [e44]; rfl) (by decide) rfl (fun ls hl => ?_)
              refine lv_goto (tgt := 6) hx hb dX2_gives_171 (by decide) ?_
              exact ih x1 x2 x3 x4 v43 σ39 H locs ls  hH (lv_sub hl [2, 3, 4, 5, 6, 0] rfl) h
            · have h := ite_t c38 h
              refine lv_iconst (v := 1) hx hb dX2_gives_119 (by decide) ?_
              refine lv_goto (tgt := 124) hx hb dX2_gives_120 (by decide) ?_
              obtain ⟨q47, h⟩ := la_some h
              obtain ⟨i48, h⟩ := ck_some h
              obtain ⟨σ45, e46, h⟩ := bnd_some h
              refine x_past hC hH q47 rfl e46 i48 dX2_gives_124 (fun H locs hH => ?_)
              refine lv_goto (tgt := 168) hx hb dX2_gives_125 (by decide) ?_
              obtain ⟨v49, e50, h⟩ := bnd_some h
              refine lv_iinc (v := v49) (lv' := [(5, .int v49), (6, .int v7), (0, .ref aw), (1, .int x1), (2, .int x2), (3, .int x3), (4, .int x4)]) hx hb dX2_gives_168 hl (k := 6) rfl (by rw [e50]; rfl) (by decide) rfl (fun ls hl => ?_)
              refine lv_goto (tgt := 6) hx hb dX2_gives_171 (by decide) ?_
              exact ih x1 x2 x3 x4 v49 σ45 H locs ls  hH (lv_sub hl [2, 3, 4, 5, 6, 0] rfl) h
      · have h := ite_f c9 h
        refine lv_iload hx hb dX2_gives_32 (lv_at hl 5 rfl) ?_
        refine lv_aload_n hx hb dX2_gives_34 rfl (lv_at hl 1 rfl) ?_
        obtain ⟨q51, h⟩ := lk_some h
        refine x_pget hC hH q51 3 (by decide) wfX2_20 rfl rfl dX2_gives_35 ?_
        obtain ⟨q52, h⟩ := la_some h
        refine x_palen hC hH q52 rfl dX2_gives_38 ?_
        refine lv_icmp_ge (tgt := 168) hx hb dX2_gives_39 (by decide) (fun c53 => ?_) (fun c53 => ?_)
        · have h := ite_t c53 h
          obtain ⟨v54, e55, h⟩ := bnd_some h
          refine lv_iinc (v := v54) (lv' := [(5, .int v54), (6, .int v7), (0, .ref aw), (1, .int x1), (2, .int x2), (3, .int x3), (4, .int x4)]) hx hb dX2_gives_168 hl (k := 6) rfl (by rw [e55]; rfl) (by decide) rfl (fun ls hl => ?_)
          refine lv_goto (tgt := 6) hx hb dX2_gives_171 (by decide) ?_
          exact ih x1 x2 x3 x4 v54 σ H locs ls  hH (lv_sub hl [2, 3, 4, 5, 6, 0] rfl) h
        · have h := ite_f c53 h
          refine lv_aload_n hx hb dX2_gives_42 rfl (lv_at hl 1 rfl) ?_
          obtain ⟨q56, h⟩ := lk_some h
          refine x_pget hC hH q56 3 (by decide) wfX2_20 rfl rfl dX2_gives_43 ?_
          refine lv_iload hx hb dX2_gives_46 (lv_at hl 5 rfl) ?_
          refine lv_iload hx hb dX2_gives_48 (lv_at hl 0 rfl) ?_
          refine lv_if_lt (tgt := 58) hx hb dX2_gives_50 (by decide) (fun c57 => ?_) (fun c57 => ?_)
          · have h := ite_t c57 h
            refine lv_iload hx hb dX2_gives_58 (lv_at hl 0 rfl) ?_
            refine lv_iconst (v := -1) hx hb dX2_gives_60 (by decide) ?_
            refine lv_icmp_ne (tgt := 68) hx hb dX2_gives_61 (by decide) (fun c58 => ?_) (fun c58 => ?_)
            · have h := ite_f c58 h
              refine lv_iload hx hb dX2_gives_68 (lv_at hl 0 rfl) ?_
              refine lv_bipush (v := -2) hx hb dX2_gives_70 (by decide) ?_
              refine lv_icmp_ne (tgt := 79) hx hb dX2_gives_72 (by decide) (fun c59 => ?_) (fun c59 => ?_)
              · have h := ite_f c59 h
                refine lv_iload_n hx hb dX2_gives_79 rfl (lv_at hl 4 rfl) ?_
                obtain ⟨q62, h⟩ := la_some h
                obtain ⟨i63, h⟩ := ck_some h
                obtain ⟨σ60, e61, h⟩ := bnd_some h
                refine x_past hC hH q62 rfl e61 i63 dX2_gives_80 (fun H locs hH => ?_)
                obtain ⟨v64, e65, h⟩ := bnd_some h
                refine lv_iinc (v := v64) (lv' := [(4, .int v64), (6, .int v7), (0, .ref aw), (1, .int x1), (2, .int x2), (3, .int x3), (5, .int x5)]) hx hb dX2_gives_81 hl (k := 5) rfl (by rw [e65]; rfl) (by decide) rfl (fun ls hl => ?_)
                refine lv_goto (tgt := 168) hx hb dX2_gives_84 (by decide) ?_
                obtain ⟨v66, e67, h⟩ := bnd_some h
                refine lv_iinc (v := v66) (lv' := [(5, .int v66), (4, .int v64), (6, .int v7), (0, .ref aw), (1, .int x1), (2, .int x2), (3, .int x3)]) hx hb dX2_gives_168 hl (k := 6) rfl (by rw [e67]; rfl) (by decide) rfl (fun ls hl => ?_)
                refine lv_goto (tgt := 6) hx hb dX2_gives_171 (by decide) ?_
                exact ih x1 x2 x3 v64 v66 σ60 H locs ls  hH (lv_sub hl [3, 4, 5, 6, 1, 0] rfl) h
              · have h := ite_t c59 h
                refine lv_iload_n hx hb dX2_gives_75 rfl (lv_at hl 3 rfl) ?_
                refine lv_goto (tgt := 80) hx hb dX2_gives_76 (by decide) ?_
                obtain ⟨q70, h⟩ := la_some h
                obtain ⟨i71, h⟩ := ck_some h
                obtain ⟨σ68, e69, h⟩ := bnd_some h
                refine x_past hC hH q70 rfl e69 i71 dX2_gives_80 (fun H locs hH => ?_)
                obtain ⟨v72, e73, h⟩ := bnd_some h
                refine lv_iinc (v := v72) (lv' := [(4, .int v72), (6, .int v7), (0, .ref aw), (1, .int x1), (2, .int x2), (3, .int x3), (5, .int x5)]) hx hb dX2_gives_81 hl (k := 5) rfl (by rw [e73]; rfl) (by decide) rfl (fun ls hl => ?_)
                refine lv_goto (tgt := 168) hx hb dX2_gives_84 (by decide) ?_
                obtain ⟨v74, e75, h⟩ := bnd_some h
                refine lv_iinc (v := v74) (lv' := [(5, .int v74), (4, .int v72), (6, .int v7), (0, .ref aw), (1, .int x1), (2, .int x2), (3, .int x3)]) hx hb dX2_gives_168 hl (k := 6) rfl (by rw [e75]; rfl) (by decide) rfl (fun ls hl => ?_)
                refine lv_goto (tgt := 6) hx hb dX2_gives_171 (by decide) ?_
                exact ih x1 x2 x3 v72 v74 σ68 H locs ls  hH (lv_sub hl [3, 4, 5, 6, 1, 0] rfl) h
            · have h := ite_t c58 h
              refine lv_iload_n hx hb dX2_gives_64 rfl (lv_at hl 2 rfl) ?_
              refine lv_goto (tgt := 80) hx hb dX2_gives_65 (by decide) ?_
              obtain ⟨q78, h⟩ := la_some h
              obtain ⟨i79, h⟩ := ck_some h
              obtain ⟨σ76, e77, h⟩ := bnd_some h
              refine x_past hC hH q78 rfl e77 i79 dX2_gives_80 (fun H locs hH => ?_)
              obtain ⟨v80, e81, h⟩ := bnd_some h
              refine lv_iinc (v := v80) (lv' := [(4, .int v80), (6, .int v7), (0, .ref aw), (1, .int x1), (2, .int x2), (3, .int x3), (5, .int x5)]) hx hb dX2_gives_81 hl (k := 5) rfl (by rw [e81]; rfl) (by decide) rfl (fun ls hl => ?_)
              refine lv_goto (tgt := 168) hx hb dX2_gives_84 (by decide) ?_
              obtain ⟨v82, e83, h⟩ := bnd_some h
              refine lv_iinc (v := v82) (lv' := [(5, .int v82), (4, .int v80), (6, .int v7), (0, .ref aw), (1, .int x1), (2, .int x2), (3, .int x3)]) hx hb dX2_gives_168 hl (k := 6) rfl (by rw [e83]; rfl) (by decide) rfl (fun ls hl => ?_)
              refine lv_goto (tgt := 6) hx hb dX2_gives_171 (by decide) ?_
              exact ih x1 x2 x3 v80 v82 σ76 H locs ls  hH (lv_sub hl [3, 4, 5, 6, 1, 0] rfl) h
          · have h := ite_f c57 h
            refine lv_iload hx hb dX2_gives_53 (lv_at hl 0 rfl) ?_
            refine lv_goto (tgt := 80) hx hb dX2_gives_55 (by decide) ?_
            obtain ⟨q86, h⟩ := la_some h
            obtain ⟨i87, h⟩ := ck_some h
            obtain ⟨σ84, e85, h⟩ := bnd_some h
            refine x_past hC hH q86 rfl e85 i87 dX2_gives_80 (fun H locs hH => ?_)
            obtain ⟨v88, e89, h⟩ := bnd_some h
            refine lv_iinc (v := v88) (lv' := [(4, .int v88), (6, .int v7), (0, .ref aw), (1, .int x1), (2, .int x2), (3, .int x3), (5, .int x5)]) hx hb dX2_gives_81 hl (k := 5) rfl (by rw [e89]; rfl) (by decide) rfl (fun ls hl => ?_)
            refine lv_goto (tgt := 168) hx hb dX2_gives_84 (by decide) ?_
            obtain ⟨v90, e91, h⟩ := bnd_some h
            refine lv_iinc (v := v90) (lv' := [(5, .int v90), (4, .int v88), (6, .int v7), (0, .ref aw), (1, .int x1), (2, .int x2), (3, .int x3)]) hx hb dX2_gives_168 hl (k := 6) rfl (by rw [e91]; rfl) (by decide) rfl (fun ls hl => ?_)
            refine lv_goto (tgt := 6) hx hb dX2_gives_171 (by decide) ?_
            exact ih x1 x2 x3 v88 v90 σ84 H locs ls  hH (lv_sub hl [3, 4, 5, 6, 1, 0] rfl) h

def fL_gives (σ0 : XS) (aw : Nat) (x1 : Int32) (x2 : Int32) (x3 : Int32) : Option (Int32 × XS) :=
  fL_gives_L6 aw (fun (x4 : Int32) (σ : XS) => if x4 ≤ 0 then (
      some ((0 : Int32), σ))
    else (
      lk σ aw <|
      la σ (xq σ aw 1) <|
      ck (0 : Int32) (xq σ (xq σ aw 1) 2) <|
      some ((xw σ (xq σ aw 1) ((0 : Int32)).toNatClampNeg), σ))) 10000 x1 x2 x3 (0 : Int32) (0 : Int32) σ0

set_option maxHeartbeats 4000000 in
set_option maxRecDepth 100000 in
theorem cL_gives (l : Launch) (G : XG) (σ0 : XS) (aw : Nat) (x1 : Int32) (x2 : Int32) (x3 : Int32) {r : Int32} {σr : XS} (h : fL_gives σ0 aw x1 x2 x3 = some (r, σr)) : ∀ sz, Met l yX2_gives (Cond.code yX2_gives cX2_gives 7 (some .int) :: Tw) rmL_gives (xP G σ0 sz [.ref aw, .int x1, .int x2, .int x3]) (xQi G σ0 sz σr r) 0 0 (va_A (xW G σ0) sz) := by
  intro sz
  refine Met.ofW (cc := cX2_gives) (maxL := 7) (ret := (some .int)) (by decide) rfl ?_
  intro p e s m args below meth c s₁ Bd hml hv
  obtain ⟨hC, hr⟩ := jC_of Bd hml
  obtain ⟨rfl, rfl, hH⟩ := x_enter hv
  have hC : jC p s m _ meth c cX2_gives 7 RX2 := hC
  have hx := hC.1.1
  have hb := hC.1.2.1
  have hown := hC.1.2.2.2.1
  have hts := hC.1.2.2.2.2
  have hl := lv_entry ([.ref aw, .int x1, .int x2, .int x3]) (n := 7) (Nat.le_of_ble_eq_true rfl)
  rw [lg_entry_eq]
  generalize (lg_sl ([.ref aw, .int x1, .int x2, .int x3]) ++ List.replicate (7 - (lg_sl ([.ref aw, .int x1, .int x2, .int x3])).length) Slot.unset).toArray = ls at hl ⊢
  have hl : lv_has ls 7 [(0, .ref aw), (1, .int x1), (2, .int x2), (3, .int x3)] := hl
  unfold fL_gives at h
  refine W_nm (fun H locs eH eL => ?_)
  have hH : xH G s (va_A (xW G σ0) s.heap.size) σ0 H locs := by rw [eH, eL]; exact hH
  show W p l e rmL_gives s m _ below meth c H locs 0 0 _ (F0 m 0 ls [])
  refine lv_iconst (v := 0) hx hb dX2_gives_0 (by decide) ?_
  refine lv_istore (lv' := [(4, .int (0 : Int32)), (0, .ref aw), (1, .int x1), (2, .int x2), (3, .int x3)]) hx hb dX2_gives_1 hl (by decide) rfl (fun ls hl => ?_)
  refine lv_iconst (v := 0) hx hb dX2_gives_3 (by decide) ?_
  refine lv_istore (lv' := [(5, .int (0 : Int32)), (4, .int (0 : Int32)), (0, .ref aw), (1, .int x1), (2, .int x2), (3, .int x3)]) hx hb dX2_gives_4 hl (by decide) rfl (fun ls hl => ?_)
  refine wL_gives_L6 hC hr  ?_ 10000 x1 x2 x3 (0 : Int32) (0 : Int32) σ0 H locs ls  hH (lv_sub hl [2, 3, 4, 5, 1, 0] rfl) h
  intro x4 σ H locs ls  hH hl h
  refine lv_iload hx hb dX2_gives_174 (lv_at hl 1 rfl) ?_
  refine lv_if_le (tgt := 188) hx hb dX2_gives_176 (by decide) (fun c92 => ?_) (fun c92 => ?_)
  · have h := ite_t c92 h
    refine lv_iconst (v := 0) hx hb dX2_gives_188 (by decide) ?_
    obtain ⟨rfl, rfl⟩ := some_i2 h
    exact x_iret (v := 0) hC hH hr rfl dX2_gives_189
  · have h := ite_f c92 h
    refine lv_aload_n hx hb dX2_gives_179 rfl (lv_at hl 0 rfl) ?_
    obtain ⟨q93, h⟩ := lk_some h
    refine x_pget hC hH q93 3 (by decide) wfX2_20 rfl rfl dX2_gives_180 ?_
    refine lv_iconst (v := 0) hx hb dX2_gives_183 (by decide) ?_
    obtain ⟨q94, h⟩ := la_some h
    obtain ⟨i95, h⟩ := ck_some h
    refine x_pald hC hH q94 rfl i95 dX2_gives_184 ?_
    refine lv_goto (tgt := 189) hx hb dX2_gives_185 (by decide) ?_
    obtain ⟨rfl, rfl⟩ := some_i2 h
    exact x_iret hC hH hr rfl dX2_gives_189

def rmB_has : Room := { frames := 0, cells := 0, slots := 0, locals := 0 }
theorem hdX0_has : yX0_has.cls = RX0 ∧ yX0_has.cls ≠ "java/lang/invoke/MethodHandle" ∧ yX0_has.cls ≠ "java/lang/invoke/VarHandle" ∧ (parseMethodDescriptor yX0_has.desc).map (fun d => d.parameters.length) = some 1 := by decide +kernel

def fB_has (σ0 : XS) (bg : Nat) (x1 : Int32) : Option (Int32) :=
  if x1 < 0 then (
    some (0 : Int32))
  else (
    if (xi σ0 (1 + bg) 0) ≤ x1 then (
      some (0 : Int32))
    else (
      some (1 : Int32)))

set_option maxHeartbeats 4000000 in
set_option maxRecDepth 100000 in
theorem cB_has (l : Launch) (G : XG) (σ0 : XS) (bg : Nat) (x1 : Int32) (hbg : bg < 4) {r : Int32} (h : fB_has σ0 bg x1 = some r) : ∀ sz, Met l yX0_has (Cond.code yX0_has cX0_has 2 (some .boolean) :: Tw) rmB_has (xP G σ0 sz [.ref (xA G (1 + bg)), .int x1]) (xQi G σ0 sz σ0 r) 0 0 (va_A (xW G σ0) sz) := by
  intro sz
  refine Met.ofW (cc := cX0_has) (maxL := 2) (ret := (some .boolean)) (by decide) rfl ?_
  intro p e s m args below meth c s₁ Bd hml hv
  obtain ⟨hC, hr⟩ := jC_of Bd hml
  obtain ⟨rfl, rfl, hH⟩ := x_enter hv
  have hC : jC p s m _ meth c cX0_has 2 RX0 := hC
  have hx := hC.1.1
  have hb := hC.1.2.1
  have hown := hC.1.2.2.2.1
  have hts := hC.1.2.2.2.2
  have hl := lv_entry ([.ref (xA G (1 + bg)), .int x1]) (n := 2) (Nat.le_of_ble_eq_true rfl)
  rw [lg_entry_eq]
  generalize (lg_sl ([.ref (xA G (1 + bg)), .int x1]) ++ List.replicate (2 - (lg_sl ([.ref (xA G (1 + bg)), .int x1])).length) Slot.unset).toArray = ls at hl ⊢
  have hl : lv_has ls 2 [(0, .ref (xA G (1 + bg))), (1, .int x1)] := hl
  unfold fB_has at h
  refine W_nm (fun H locs eH eL => ?_)
  have hH : xH G s (va_A (xW G σ0) s.heap.size) σ0 H locs := by rw [eH, eL]; exact hH
  show W p l e rmB_has s m _ below meth c H locs 0 0 _ (F0 m 0 ls [])
  refine lv_iload_n hx hb dX0_has_0 rfl (lv_at hl 1 rfl) ?_
  refine lv_if_lt (tgt := 16) hx hb dX0_has_1 (by decide) (fun c1 => ?_) (fun c1 => ?_)
  · have h := ite_t c1 h
    refine lv_iconst (v := 0) hx hb dX0_has_16 (by decide) ?_
    obtain rfl := some_i1 h
    exact x_iret (v := 0) hC hH hr (by decide) dX0_has_17
  · have h := ite_f c1 h
    refine lv_iload_n hx hb dX0_has_4 rfl (lv_at hl 1 rfl) ?_
    refine lv_aload_n hx hb dX0_has_5 rfl (lv_at hl 0 rfl) ?_
    refine x_get (C := RX0) (T := TX0) (N := 12) (v := .int (xi σ0 (1 + bg) 0)) hC hH (xe_B G σ0 hbg) rfl wyX0 0 (by decide) wfX0_9 rfl rfl dX0_has_6 ?_
    refine lv_icmp_ge (tgt := 16) hx hb dX0_has_9 (by decide) (fun c2 => ?_) (fun c2 => ?_)
    · have h := ite_t c2 h
      refine lv_iconst (v := 0) hx hb dX0_has_16 (by decide) ?_
      obtain rfl := some_i1 h
      exact x_iret (v := 0) hC hH hr (by decide) dX0_has_17
    · have h := ite_f c2 h
      refine lv_iconst (v := 1) hx hb dX0_has_12 (by decide) ?_
      refine lv_goto (tgt := 17) hx hb dX0_has_13 (by decide) ?_
      obtain rfl := some_i1 h
      exact x_iret (v := 1) hC hH hr (by decide) dX0_has_17

def rmB_becomeAs : Room := { frames := 1, cells := 0, slots := 0, locals := 60 }
theorem hdX0_becomeAs : yX0_becomeAs.cls = RX0 ∧ yX0_becomeAs.cls ≠ "java/lang/invoke/MethodHandle" ∧ yX0_becomeAs.cls ≠ "java/lang/invoke/VarHandle" ∧ (parseMethodDescriptor yX0_becomeAs.desc).map (fun d => d.parameters.length) = some 1 := by decide +kernel

def fB_becomeAs (σ0 : XS) (bg : Nat) (p0 : Nat) : Option (XS) :=
  bnd (xu σ0 (1 + bg) 0 (xi σ0 (1 + p0) 0)) fun σ1 =>
  bnd (xua σ1 (30 + 6 * bg + 0) (va_cpy (xi σ1 (30 + 6 * p0 + 0)) (xi σ1 (30 + 6 * bg + 0)) ((0 : Int32)).toNatClampNeg ((0 : Int32)).toNatClampNeg ((14 : Int32)).toNatClampNeg)) fun σ3 =>
  bnd (xua σ3 (30 + 6 * bg + 1) (va_cpy (xi σ3 (30 + 6 * p0 + 1)) (xi σ3 (30 + 6 * bg + 1)) ((0 : Int32)).toNatClampNeg ((0 : Int32)).toNatClampNeg ((14 : Int32)).toNatClampNeg)) fun σ5 =>
  bnd (xua σ5 (30 + 6 * bg + 2) (va_cpy (xi σ5 (30 + 6 * p0 + 2)) (xi σ5 (30 + 6 * bg + 2)) ((0 : Int32)).toNatClampNeg ((0 : Int32)).toNatClampNeg ((14 : Int32)).toNatClampNeg)) fun σ7 =>
  bnd (xua σ7 (30 + 6 * bg + 3) (va_cpy (xi σ7 (30 + 6 * p0 + 3)) (xi σ7 (30 + 6 * bg + 3)) ((0 : Int32)).toNatClampNeg ((0 : Int32)).toNatClampNeg ((14 : Int32)).toNatClampNeg)) fun σ9 =>
  bnd (xua σ9 (30 + 6 * bg + 4) (va_cpy (xi σ9 (30 + 6 * p0 + 4)) (xi σ9 (30 + 6 * bg + 4)) ((0 : Int32)).toNatClampNeg ((0 : Int32)).toNatClampNeg ((14 : Int32)).toNatClampNeg)) fun σ11 =>
  bnd (xua σ11 (30 + 6 * bg + 5) (va_cpy (xi σ11 (30 + 6 * p0 + 5)) (xi σ11 (30 + 6 * bg + 5)) ((0 : Int32)).toNatClampNeg ((0 : Int32)).toNatClampNeg ((14 : Int32)).toNatClampNeg)) fun σ13 =>
  bnd (xu σ13 (1 + bg) 7 (xi σ13 (1 + p0) 7)) fun σ15 =>
  bnd (xu σ15 (1 + bg) 8 (xi σ15 (1 + p0) 8)) fun σ17 =>
  bnd (xu σ17 (1 + bg) 9 (xi σ17 (1 + p0) 9)) fun σ19 =>
  bnd (xu σ19 (1 + bg) 10 (xi σ19 (1 + p0) 10)) fun σ21 =>
  bnd (xur σ21 bg (xr σ21 p0)) fun σ23 =>
  some σ23

set_option maxHeartbeats 4000000 in
set_option maxRecDepth 100000 in
theorem cB_becomeAs (l : Launch) (G : XG) (σ0 : XS) (bg : Nat) (p0 : Nat) (hbg : bg < 4) (hp0 : p0 < 4) {σr : XS} (h : fB_becomeAs σ0 bg p0 = some σr) : ∀ sz, Met l yX0_becomeAs (Cond.code yX0_becomeAs cX0_becomeAs 2 none :: Tw) rmB_becomeAs (xP G σ0 sz [.ref (xA G (1 + bg)), .ref (xA G (1 + p0))]) (xQv G σ0 sz σr) 0 0 (va_A (xW G σ0) sz) := by
  intro sz
  refine Met.ofW (cc := cX0_becomeAs) (maxL := 2) (ret := (none)) (by decide) rfl ?_
  intro p e s m args below meth c s₁ Bd hml hv
  obtain ⟨hC, hr⟩ := jC_of Bd hml
  obtain ⟨rfl, rfl, hH⟩ := x_enter hv
  have hC : jC p s m _ meth c cX0_becomeAs 2 RX0 := hC
  have hx := hC.1.1
  have hb := hC.1.2.1
  have hown := hC.1.2.2.2.1
  have hts := hC.1.2.2.2.2
  have hl := lv_entry ([.ref (xA G (1 + bg)), .ref (xA G (1 + p0))]) (n := 2) (Nat.le_of_ble_eq_true rfl)
  rw [lg_entry_eq]
  generalize (lg_sl ([.ref (xA G (1 + bg)), .ref (xA G (1 + p0))]) ++ List.replicate (2 - (lg_sl ([.ref (xA G (1 + bg)), .ref (xA G (1 + p0))])).length) Slot.unset).toArray = ls at hl ⊢
  have hl : lv_has ls 2 [(0, .ref (xA G (1 + bg))), (1, .ref (xA G (1 + p0)))] := hl
  unfold fB_becomeAs at h
  refine W_nm (fun H locs eH eL => ?_)
  have hH : xH G s (va_A (xW G σ0) s.heap.size) σ0 H locs := by rw [eH, eL]; exact hH
  show W p l e rmB_becomeAs s m _ below meth c H locs 0 0 _ (F0 m 0 ls [])
  refine lv_aload_n hx hb dX0_becomeAs_0 rfl (lv_at hl 0 rfl) ?_
  refine lv_aload_n hx hb dX0_becomeAs_1 rfl (lv_at hl 1 rfl) ?_
  refine x_get (C := RX0) (T := TX0) (N := 12) (v := .int (xi σ0 (1 + p0) 0)) hC hH (xe_B G σ0 hp0) rfl wyX0 0 (by decide) wfX0_9 rfl rfl dX0_becomeAs_2 ?_
  obtain ⟨σ1, e2, h⟩ := bnd_some h
  refine x_put (C := RX0) (T := TX0) (N := 12) (ty := .int) (v := .int (xi σ0 (1 + p0) 0)) hC hH (xe_B G σ0 hbg) rfl wyX0 tyX0_ok nmX0 0 (by decide) wfX0_9 rfl rfl (by decide +kernel) rfl rfl (Nat.le_of_ble_eq_true rfl) e2 (xs_B_0 G σ0 hbg _) dX0_becomeAs_5 (fun H locs hH => ?_)
  refine lv_aload_n hx hb dX0_becomeAs_8 rfl (lv_at hl 1 rfl) ?_
  refine x_get (C := RX0) (T := TX0) (N := 12) (v := .ref (xA G (100 + (30 + 6 * p0 + 0)))) hC hH (xe_B G σ1 hp0) rfl wyX0 1 (by decide) wfX0_15 rfl rfl dX0_becomeAs_9 ?_
  refine lv_iconst (v := 0) hx hb dX0_becomeAs_12 (by decide) ?_
  refine lv_aload_n hx hb dX0_becomeAs_13 rfl (lv_at hl 0 rfl) ?_
  refine x_get (C := RX0) (T := TX0) (N := 12) (v := .ref (xA G (100 + (30 + 6 * bg + 0)))) hC hH (xe_B G σ1 hbg) rfl wyX0 1 (by decide) wfX0_15 rfl rfl dX0_becomeAs_14 ?_
  refine lv_iconst (v := 0) hx hb dX0_becomeAs_17 (by decide) ?_
  refine lv_bipush (v := 14) hx hb dX0_becomeAs_18 (by decide) ?_
  obtain ⟨σ3, e4, h⟩ := bnd_some h
  refine x_copy (d0 := (30 + 6 * p0 + 0)) (d1 := (30 + 6 * bg + 0)) hC hH hl.1 wmX0_50 wAcn wAcs wzJ10 (xIs_b hp0 (by decide)) (xLen_b hp0 (by decide)) (xIs_b hbg (by decide)) (xLen_b hbg (by decide)) (by decide) e4 (Nat.le_of_ble_eq_true rfl) (by decide +kernel) dX0_becomeAs_20 (fun H locs hH => ?_)
  refine lv_aload_n hx hb dX0_becomeAs_23 rfl (lv_at hl 1 rfl) ?_
  refine x_get (C := RX0) (T := TX0) (N := 12) (v := .ref (xA G (100 + (30 + 6 * p0 + 1)))) hC hH (xe_B G σ3 hp0) rfl wyX0 2 (by decide) wfX0_19 rfl rfl dX0_becomeAs_24 ?_
  refine lv_iconst (v := 0) hx hb dX0_becomeAs_27 (by decide) ?_
  refine lv_aload_n hx hb dX0_becomeAs_28 rfl (lv_at hl 0 rfl) ?_
  refine x_get (C := RX0) (T := TX0) (N := 12) (v := .ref (xA G (100 + (30 + 6 * bg + 1)))) hC hH (xe_B G σ3 hbg) rfl wyX0 2 (by decide) wfX0_19 rfl rfl dX0_becomeAs_29 ?_
  refine lv_iconst (v := 0) hx hb dX0_becomeAs_32 (by decide) ?_
  refine lv_bipush (v := 14) hx hb dX0_becomeAs_33 (by decide) ?_
  obtain ⟨σ5, e6, h⟩ := bnd_some h
  refine x_copy (d0 := (30 + 6 * p0 + 1)) (d1 := (30 + 6 * bg + 1)) hC hH hl.1 wmX0_50 wAcn wAcs wzJ10 (xIs_b hp0 (by decide)) (xLen_b hp0 (by decide)) (xIs_b hbg (by decide)) (xLen_b hbg (by decide)) (by decide) e6 (Nat.le_of_ble_eq_true rfl) (by decide +kernel) dX0_becomeAs_35 (fun H locs hH => ?_)
  refine lv_aload_n hx hb dX0_becomeAs_38 rfl (lv_at hl 1 rfl) ?_
  refine x_get (C := RX0) (T := TX0) (N := 12) (v := .ref (xA G (100 + (30 + 6 * p0 + 2)))) hC hH (xe_B G σ5 hp0) rfl wyX0 3 (by decide) wfX0_22 rfl rfl dX0_becomeAs_39 ?_
  refine lv_iconst (v := 0) hx hb dX0_becomeAs_42 (by decide) ?_
  refine lv_aload_n hx hb dX0_becomeAs_43 rfl (lv_at hl 0 rfl) ?_
  refine x_get (C := RX0) (T := TX0) (N := 12) (v := .ref (xA G (100 + (30 + 6 * bg + 2)))) hC hH (xe_B G σ5 hbg) rfl wyX0 3 (by decide) wfX0_22 rfl rfl dX0_becomeAs_44 ?_
  refine lv_iconst (v := 0) hx hb dX0_becomeAs_47 (by decide) ?_
  refine lv_bipush (v := 14) hx hb dX0_becomeAs_48 (by decide) ?_
  obtain ⟨σ7, e8, h⟩ := bnd_some h
  refine x_copy (d0 := (30 + 6 * p0 + 2)) (d1 := (30 + 6 * bg + 2)) hC hH hl.1 wmX0_50 wAcn wAcs wzJ10 (xIs_b hp0 (by decide)) (xLen_b hp0 (by decide)) (xIs_b hbg (by decide)) (xLen_b hbg (by decide)) (by decide) e8 (Nat.le_of_ble_eq_true rfl) (by decide +kernel) dX0_becomeAs_50 (fun H locs hH => ?_)
  refine lv_aload_n hx hb dX0_becomeAs_53 rfl (lv_at hl 1 rfl) ?_
  refine x_get (C := RX0) (T := TX0) (N := 12) (v := .ref (xA G (100 + (30 + 6 * p0 + 3)))) hC hH (xe_B G σ7 hp0) rfl wyX0 4 (by decide) wfX0_25 rfl rfl dX0_becomeAs_54 ?_
  refine lv_iconst (v := 0) hx hb dX0_becomeAs_57 (by decide) ?_
  refine lv_aload_n hx hb dX0_becomeAs_58 rfl (lv_at hl 0 rfl) ?_
  refine x_get (C := RX0) (T := TX0) (N := 12) (v := .ref (xA G (100 + (30 + 6 * bg + 3)))) hC hH (xe_B G σ7 hbg) rfl wyX0 4 (by decide) wfX0_25 rfl rfl dX0_becomeAs_59 ?_
  refine lv_iconst (v := 0) hx hb dX0_becomeAs_62 (by decide) ?_
  refine lv_bipush (v := 14) hx hb dX0_becomeAs_63 (by decide) ?_
  obtain ⟨σ9, e10, h⟩ := bnd_some h
  refine x_copy (d0 := (30 + 6 * p0 + 3)) (d1 := (30 + 6 * bg + 3)) hC hH hl.1 wmX0_50 wAcn wAcs wzJ10 (xIs_b hp0 (by decide)) (xLen_b hp0 (by decide)) (xIs_b hbg (by decide)) (xLen_b hbg (by decide)) (by decide) e10 (Nat.le_of_ble_eq_true rfl) (by decide +kernel) dX0_becomeAs_65 (fun H locs hH => ?_)
  refine lv_aload_n hx hb dX0_becomeAs_68 rfl (lv_at hl 1 rfl) ?_
  refine x_get (C := RX0) (T := TX0) (N := 12) (v := .ref (xA G (100 + (30 + 6 * p0 + 4)))) hC hH (xe_B G σ9 hp0) rfl wyX0 5 (by decide) wfX0_28 rfl rfl dX0_becomeAs_69 ?_
  refine lv_iconst (v := 0) hx hb dX0_becomeAs_72 (by decide) ?_
  refine lv_aload_n hx hb dX0_becomeAs_73 rfl (lv_at hl 0 rfl) ?_
  refine x_get (C := RX0) (T := TX0) (N := 12) (v := .ref (xA G (100 + (30 + 6 * bg + 4)))) hC hH (xe_B G σ9 hbg) rfl wyX0 5 (by decide) wfX0_28 rfl rfl dX0_becomeAs_74 ?_
  refine lv_iconst (v := 0) hx hb dX0_becomeAs_77 (by decide) ?_
  refine lv_bipush (v := 14) hx hb dX0_becomeAs_78 (by decide) ?_
  obtain ⟨σ11, e12, h⟩ := bnd_some h
  refine x_copy (d0 := (30 + 6 * p0 + 4)) (d1 := (30 + 6 * bg + 4)) hC hH hl.1 wmX0_50 wAcn wAcs wzJ10 (xIs_b hp0 (by decide)) (xLen_b hp0 (by decide)) (xIs_b hbg (by decide)) (xLen_b hbg (by decide)) (by decide) e12 (Nat.le_of_ble_eq_true rfl) (by decide +kernel) dX0_becomeAs_80 (fun H locs hH => ?_)
  refine lv_aload_n hx hb dX0_becomeAs_83 rfl (lv_at hl 1 rfl) ?_
  refine x_get (C := RX0) (T := TX0) (N := 12) (v := .ref (xA G (100 + (30 + 6 * p0 + 5)))) hC hH (xe_B G σ11 hp0) rfl wyX0 6 (by decide) wfX0_31 rfl rfl dX0_becomeAs_84 ?_
  refine lv_iconst (v := 0) hx hb dX0_becomeAs_87 (by decide) ?_
  refine lv_aload_n hx hb dX0_becomeAs_88 rfl (lv_at hl 0 rfl) ?_
  refine x_get (C := RX0) (T := TX0) (N := 12) (v := .ref (xA G (100 + (30 + 6 * bg + 5)))) hC hH (xe_B G σ11 hbg) rfl wyX0 6 (by decide) wfX0_31 rfl rfl dX0_becomeAs_89 ?_
  refine lv_iconst (v := 0) hx hb dX0_becomeAs_92 (by decide) ?_
  refine lv_bipush (v := 14) hx hb dX0_becomeAs_93 (by decide) ?_
  obtain ⟨σ13, e14, h⟩ := bnd_some h
  refine x_copy (d0 := (30 + 6 * p0 + 5)) (d1 := (30 + 6 * bg + 5)) hC hH hl.1 wmX0_50 wAcn wAcs wzJ10 (xIs_b hp0 (by decide)) (xLen_b hp0 (by decide)) (xIs_b hbg (by decide)) (xLen_b hbg (by decide)) (by decide) e14 (Nat.le_of_ble_eq_true rfl) (by decide +kernel) dX0_becomeAs_95 (fun H locs hH => ?_)
  refine lv_aload_n hx hb dX0_becomeAs_98 rfl (lv_at hl 0 rfl) ?_
  refine lv_aload_n hx hb dX0_becomeAs_99 rfl (lv_at hl 1 rfl) ?_
  refine x_get (C := RX0) (T := TX0) (N := 12) (v := .int (xi σ13 (1 + p0) 7)) hC hH (xe_B G σ13 hp0) rfl wyX0 7 (by decide) wfX0_34 rfl rfl dX0_becomeAs_100 ?_
  obtain ⟨σ15, e16, h⟩ := bnd_some h
  refine x_put (C := RX0) (T := TX0) (N := 12) (ty := .int) (v := .int (xi σ13 (1 + p0) 7)) hC hH (xe_B G σ13 hbg) rfl wyX0 tyX0_ok nmX0 7 (by decide) wfX0_34 rfl rfl (by decide +kernel) rfl rfl (Nat.le_of_ble_eq_true rfl) e16 (xs_B_7 G σ13 hbg _) dX0_becomeAs_103 (fun H locs hH => ?_)
  refine lv_aload_n hx hb dX0_becomeAs_106 rfl (lv_at hl 0 rfl) ?_
  refine lv_aload_n hx hb dX0_becomeAs_107 rfl (lv_at hl 1 rfl) ?_
  refine x_get (C := RX0) (T := TX0) (N := 12) (v := .int (xi σ15 (1 + p0) 8)) hC hH (xe_B G σ15 hp0) rfl wyX0 8 (by decide) wfX0_37 rfl rfl dX0_becomeAs_108 ?_
  obtain ⟨σ17, e18, h⟩ := bnd_some h
  refine x_put (C := RX0) (T := TX0) (N := 12) (ty := .int) (v := .int (xi σ15 (1 + p0) 8)) hC hH (xe_B G σ15 hbg) rfl wyX0 tyX0_ok nmX0 8 (by decide) wfX0_37 rfl rfl (by decide +kernel) rfl rfl (Nat.le_of_ble_eq_true rfl) e18 (xs_B_8 G σ15 hbg _) dX0_becomeAs_111 (fun H locs hH => ?_)
  refine lv_aload_n hx hb dX0_becomeAs_114 rfl (lv_at hl 0 rfl) ?_
  refine lv_aload_n hx hb dX0_becomeAs_115 rfl (lv_at hl 1 rfl) ?_
  refine x_get (C := RX0) (T := TX0) (N := 12) (v := .int (xi σ17 (1 + p0) 9)) hC hH (xe_B G σ17 hp0) rfl wyX0 9 (by decide) wfX0_40 rfl rfl dX0_becomeAs_116 ?_
  obtain ⟨σ19, e20, h⟩ := bnd_some h
  refine x_put (C := RX0) (T := TX0) (N := 12) (ty := .int) (v := .int (xi σ17 (1 + p0) 9)) hC hH (xe_B G σ17 hbg) rfl wyX0 tyX0_ok nmX0 9 (by decide) wfX0_40 rfl rfl (by decide +kernel) rfl rfl (Nat.le_of_ble_eq_true rfl) e20 (xs_B_9 G σ17 hbg _) dX0_becomeAs_119 (fun H locs hH => ?_)
  refine lv_aload_n hx hb dX0_becomeAs_122 rfl (lv_at hl 0 rfl) ?_
  refine lv_aload_n hx hb dX0_becomeAs_123 rfl (lv_at hl 1 rfl) ?_
  refine x_get (C := RX0) (T := TX0) (N := 12) (v := .int (xi σ19 (1 + p0) 10)) hC hH (xe_B G σ19 hp0) rfl wyX0 10 (by decide) wfX0_43 rfl rfl dX0_becomeAs_124 ?_
  obtain ⟨σ21, e22, h⟩ := bnd_some h
  refine x_put (C := RX0) (T := TX0) (N := 12) (ty := .int) (v := .int (xi σ19 (1 + p0) 10)) hC hH (xe_B G σ19 hbg) rfl wyX0 tyX0_ok nmX0 10 (by decide) wfX0_43 rfl rfl (by decide +kernel) rfl rfl (Nat.le_of_ble_eq_true rfl) e22 (xs_B_10 G σ19 hbg _) dX0_becomeAs_127 (fun H locs hH => ?_)
  refine lv_aload_n hx hb dX0_becomeAs_130 rfl (lv_at hl 0 rfl) ?_
  refine lv_aload_n hx hb dX0_becomeAs_131 rfl (lv_at hl 1 rfl) ?_
  refine x_get (C := RX0) (T := TX0) (N := 12) (v := va_rf (xr σ21 p0)) hC hH (xe_B G σ21 hp0) rfl wyX0 11 (by decide) wfX0_46 rfl rfl dX0_becomeAs_132 ?_
  obtain ⟨σ23, e24, h⟩ := bnd_some h
  refine x_put (C := RX0) (T := TX0) (N := 12) (ty := .object "RoadSorted$Law") (v := va_rf (xr σ21 p0)) hC hH (xe_B G σ21 hbg) rfl wyX0 tyX0_ok nmX0 11 (by decide) wfX0_46 rfl rfl (by decide +kernel) (rf_n _ _) (rf_f _ _) (Nat.le_of_ble_eq_true rfl) e24 (xs_Br G σ21 hbg (xr σ21 p0)) dX0_becomeAs_135 (fun H locs hH => ?_)
  obtain rfl := some_i1 h
  exact x_vret hC hH hr dX0_becomeAs_138

def rmX_held : Room := { frames := 1, cells := 0, slots := 0, locals := 40 }
theorem hdX7_held : yX7_held.cls ≠ "java/lang/invoke/MethodHandle" ∧ yX7_held.cls ≠ "java/lang/invoke/VarHandle" ∧ (parseMethodDescriptor yX7_held.desc).map (fun d => d.parameters.length) = some 3 := by decide +kernel

def fX_held (σ0 : XS) (x0 : Int32) (x1 : Int32) (x2 : Int32) : Option (Int32) :=
  some (if x1 < (if x0 < x2 then x0 else x2) then (if x0 < x2 then x0 else x2) else x1)

set_option maxHeartbeats 4000000 in
set_option maxRecDepth 100000 in
theorem cX_held (l : Launch) (G : XG) (σ0 : XS) (x0 : Int32) (x1 : Int32) (x2 : Int32) {r : Int32} (h : fX_held σ0 x0 x1 x2 = some r) : ∀ sz, Met l yX7_held (Cond.code yX7_held cX7_held 3 (some .int) :: Tw) rmX_held (xP G σ0 sz [.int x0, .int x1, .int x2]) (xQi G σ0 sz σ0 r) 0 0 (va_A (xW G σ0) sz) := by
  intro sz
  refine Met.ofW (cc := cX7_held) (maxL := 3) (ret := (some .int)) (by decide) rfl ?_
  intro p e s m args below meth c s₁ Bd hml hv
  obtain ⟨hC, hr⟩ := jC_of Bd hml
  obtain ⟨rfl, rfl, hH⟩ := x_enter hv
  have hC : jC p s m _ meth c cX7_held 3 RX7 := hC
  have hx := hC.1.1
  have hb := hC.1.2.1
  have hown := hC.1.2.2.2.1
  have hts := hC.1.2.2.2.2
  have hl := lv_entry ([.int x0, .int x1, .int x2]) (n := 3) (Nat.le_of_ble_eq_true rfl)
  rw [lg_entry_eq]
  generalize (lg_sl ([.int x0, .int x1, .int x2]) ++ List.replicate (3 - (lg_sl ([.int x0, .int x1, .int x2])).length) Slot.unset).toArray = ls at hl ⊢
  have hl : lv_has ls 3 [(0, .int x0), (1, .int x1), (2, .int x2)] := hl
  unfold fX_held at h
  refine W_nm (fun H locs eH eL => ?_)
  have hH : xH G s (va_A (xW G σ0) s.heap.size) σ0 H locs := by rw [eH, eL]; exact hH
  show W p l e rmX_held s m _ below meth c H locs 0 0 _ (F0 m 0 ls [])
  refine lv_iload_n hx hb dX7_held_0 rfl (lv_at hl 1 rfl) ?_
  refine lv_iload_n hx hb dX7_held_1 rfl (lv_at hl 2 rfl) ?_
  refine lv_iload_n hx hb dX7_held_2 rfl (lv_at hl 0 rfl) ?_
  refine va_mmin hx hb (hC.1.2.2.1.trans hl.1.symm) hown (hts _ wmX7_155) (hts _ wMa_min.1) (hts _ wMa_min.2.1) (hts _ wMa_min.2.2) (Nat.le_of_ble_eq_true rfl) (Nat.le_of_ble_eq_true rfl) (Nat.zero_le _) (Nat.zero_le _) dX7_held_3 ?_
  refine va_mmax hx hb (hC.1.2.2.1.trans hl.1.symm) hown (hts _ wmX7_315) (hts _ wMa_max.1) (hts _ wMa_max.2.1) (hts _ wMa_max.2.2) (Nat.le_of_ble_eq_true rfl) (Nat.le_of_ble_eq_true rfl) (Nat.zero_le _) (Nat.zero_le _) dX7_held_6 ?_
  obtain rfl := some_i1 h
  exact x_iret hC hH hr rfl dX7_held_9

def rmK_rises : Room := { frames := 1, cells := 0, slots := 0, locals := 40 }
theorem hdX1_rises : yX1_rises.cls ≠ "java/lang/invoke/MethodHandle" ∧ yX1_rises.cls ≠ "java/lang/invoke/VarHandle" ∧ (parseMethodDescriptor yX1_rises.desc).map (fun d => d.parameters.length) = some 2 := by decide +kernel

def fK_rises (σ0 : XS) (x0 : Int32) (x1 : Int32) : Option (Int32) :=
  bnd (if (0 : Int32) < (x1 - (20 : Int32)) then (x1 - (20 : Int32)) else (0 : Int32)) fun v1 =>
  if x0 = (1 : Int32) then (
    some v1)
  else if x0 = (2 : Int32) then (
    some (if (0 : Int32) < (x1 - (5 : Int32)) then (x1 - (5 : Int32)) else (0 : Int32)))
  else if x0 = (3 : Int32) then (
    some (v1 / (2 : Int32)))
  else if x0 = (4 : Int32) then (
    some (0 : Int32))
  else if x0 = (5 : Int32) then (
    some ((2 : Int32) * x1))
  else (
    some x1)

set_option maxHeartbeats 4000000 in
set_option maxRecDepth 100000 in
theorem cK_rises (l : Launch) (G : XG) (σ0 : XS) (x0 : Int32) (x1 : Int32) {r : Int32} (h : fK_rises σ0 x0 x1 = some r) : ∀ sz, Met l yX1_rises (Cond.code yX1_rises cX1_rises 3 (some .int) :: Tw) rmK_rises (xP G σ0 sz [.int x0, .int x1]) (xQi G σ0 sz σ0 r) 0 0 (va_A (xW G σ0) sz) := by
  intro sz
  refine Met.ofW (cc := cX1_rises) (maxL := 3) (ret := (some .int)) (by decide) rfl ?_
  intro p e s m args below meth c s₁ Bd hml hv
  obtain ⟨hC, hr⟩ := jC_of Bd hml
  obtain ⟨rfl, rfl, hH⟩ := x_enter hv
  have hC : jC p s m _ meth c cX1_rises 3 RX1 := hC
  have hx := hC.1.1
  have hb := hC.1.2.1
  have hown := hC.1.2.2.2.1
  have hts := hC.1.2.2.2.2
  have hl := lv_entry ([.int x0, .int x1]) (n := 3) (Nat.le_of_ble_eq_true rfl)
  rw [lg_entry_eq]
  generalize (lg_sl ([.int x0, .int x1]) ++ List.replicate (3 - (lg_sl ([.int x0, .int x1])).length) Slot.unset).toArray = ls at hl ⊢
  have hl : lv_has ls 3 [(0, .int x0), (1, .int x1)] := hl
  unfold fK_rises at h
  refine W_nm (fun H locs eH eL => ?_)
  have hH : xH G s (va_A (xW G σ0) s.heap.size) σ0 H locs := by rw [eH, eL]; exact hH
  show W p l e rmK_rises s m _ below meth c H locs 0 0 _ (F0 m 0 ls [])
  refine lv_iconst (v := 0) hx hb dX1_rises_0 (by decide) ?_
  refine lv_iload_n hx hb dX1_rises_1 rfl (lv_at hl 1 rfl) ?_
  refine lv_bipush (v := 20) hx hb dX1_rises_2 (by decide) ?_
  refine lv_isub hx hb dX1_rises_4 ?_
  refine va_mmax hx hb (hC.1.2.2.1.trans hl.1.symm) hown (hts _ wmX1_9) (hts _ wMa_max.1) (hts _ wMa_max.2.1) (hts _ wMa_max.2.2) (Nat.le_of_ble_eq_true rfl) (Nat.le_of_ble_eq_true rfl) (Nat.zero_le _) (Nat.zero_le _) dX1_rises_5 ?_
  obtain ⟨v1, e2, h⟩ := bnd_some h
  refine lv_tope e2 ?_
  refine lv_istore_n (lv' := [(2, .int v1), (0, .int x0), (1, .int x1)]) hx hb dX1_rises_8 rfl hl (by decide) rfl (fun ls hl => ?_)
  refine lv_iload_n hx hb dX1_rises_9 rfl (lv_at hl 1 rfl) ?_
  by_cases c3 : x0 = (1 : Int32)
  · have h := ite_t c3 h
    refine lv_tsw (tgt := 44) (off := 34) hx hb (1) c3 dX1_rises_10 (by decide) (by decide) (by decide) (by decide) ?_
    refine lv_iload_n hx hb dX1_rises_44 rfl (lv_at hl 0 rfl) ?_
    obtain rfl := some_i1 h
    exact x_iret hC hH hr rfl dX1_rises_45
  · have h := ite_f c3 h
    by_cases c4 : x0 = (2 : Int32)
    · have h := ite_t c4 h
      refine lv_tsw (tgt := 50) (off := 40) hx hb (2) c4 dX1_rises_10 (by decide) (by decide) (by decide) (by decide) ?_
      refine lv_iconst (v := 0) hx hb dX1_rises_50 (by decide) ?_
      refine lv_iload_n hx hb dX1_rises_51 rfl (lv_at hl 2 rfl) ?_
      refine lv_iconst (v := 5) hx hb dX1_rises_52 (by decide) ?_
      refine lv_isub hx hb dX1_rises_53 ?_
      refine va_mmax hx hb (hC.1.2.2.1.trans hl.1.symm) hown (hts _ wmX1_9) (hts _ wMa_max.1) (hts _ wMa_max.2.1) (hts _ wMa_max.2.2) (Nat.le_of_ble_eq_true rfl) (Nat.le_of_ble_eq_true rfl) (Nat.zero_le _) (Nat.zero_le _) dX1_rises_54 ?_
      obtain rfl := some_i1 h
      exact x_iret hC hH hr rfl dX1_rises_57
    · have h := ite_f c4 h
      by_cases c5 : x0 = (3 : Int32)
      · have h := ite_t c5 h
        refine lv_tsw (tgt := 46) (off := 36) hx hb (3) c5 dX1_rises_10 (by decide) (by decide) (by decide) (by decide) ?_
        refine lv_iload_n hx hb dX1_rises_46 rfl (lv_at hl 0 rfl) ?_
        refine lv_iconst (v := 2) hx hb dX1_rises_47 (by decide) ?_
        refine lv_idiv hx hb dX1_rises_48 (by decide) ?_
        obtain rfl := some_i1 h
        exact x_iret hC hH hr rfl dX1_rises_49
      · have h := ite_f c5 h
        by_cases c6 : x0 = (4 : Int32)
        · have h := ite_t c6 h
          refine lv_tsw (tgt := 58) (off := 48) hx hb (4) c6 dX1_rises_10 (by decide) (by decide) (by decide) (by decide) ?_
          refine lv_iconst (v := 0) hx hb dX1_rises_58 (by decide) ?_
          obtain rfl := some_i1 h
          exact x_iret (v := 0) hC hH hr rfl dX1_rises_59
        · have h := ite_f c6 h
          by_cases c7 : x0 = (5 : Int32)
          · have h := ite_t c7 h
            refine lv_tsw (tgt := 60) (off := 50) hx hb (5) c7 dX1_rises_10 (by decide) (by decide) (by decide) (by decide) ?_
            refine lv_iconst (v := 2) hx hb dX1_rises_60 (by decide) ?_
            refine lv_iload_n hx hb dX1_rises_61 rfl (lv_at hl 2 rfl) ?_
            refine lv_imul hx hb dX1_rises_62 ?_
            obtain rfl := some_i1 h
            exact x_iret hC hH hr rfl dX1_rises_63
          · have h := ite_f c7 h
            refine lv_tswd (tgt := 64) hx hb [1, 2, 3, 4, 5] (by simp only [List.mem_cons, List.not_mem_nil, or_false]; intro z hz; rcases hz with rfl | rfl | rfl | rfl | rfl <;> first | exact i32ne c3 (by decide) | exact i32ne c4 (by decide) | exact i32ne c5 (by decide) | exact i32ne c6 (by decide) | exact i32ne c7 (by decide)) dX1_rises_10 (by decide) (by decide) (by decide) ?_
            refine lv_iload_n hx hb dX1_rises_64 rfl (lv_at hl 2 rfl) ?_
            obtain rfl := some_i1 h
            exact x_iret hC hH hr rfl dX1_rises_65

def rmB_weigh : Room := { frames := 2, cells := 0, slots := 0, locals := 62 }
theorem hdX0_weigh : yX0_weigh.cls = RX0 ∧ yX0_weigh.cls ≠ "java/lang/invoke/MethodHandle" ∧ yX0_weigh.cls ≠ "java/lang/invoke/VarHandle" ∧ (parseMethodDescriptor yX0_weigh.desc).map (fun d => d.parameters.length) = some 1 := by decide +kernel

def fB_weigh_J41 (bg : Nat) (x1 : Int32) (y0 : Int32) (σ : XS) : Option (XS) :=
  ck x1 (14) <|
  ob (fX_held σ y0 (0 : Int32) (999 : Int32)) fun r6 =>
  ob (fK_rises σ (xi σ (30 + 6 * bg + 0) (x1).toNatClampNeg) r6) fun r8 =>
  ck x1 (14) <|
  bnd (xu σ (30 + 6 * bg + 4) (x1).toNatClampNeg r8) fun σ9 =>
  some σ9

set_option maxHeartbeats 4000000 in
set_option maxRecDepth 100000 in
theorem wB_weigh_J41 {p : Program} {l : Launch} {e : Env} {s : State} {m : MethodId} {args : Array Value} {below : List Frame} {meth : Method} {c : Code} {G : XG} {σ0 : XS} {bg : Nat} {σr : XS} (hC : jC p s m args meth c cX0_weigh 3 RX0) (hr : meth.sig.returnType = none) (hbg : bg < 4) (x1 : Int32) (y0 : Int32) (σ : XS) (H : Heap) (locs : List Loc) (ls : Array Slot) (hH : xH G s (va_A (xW G σ0) s.heap.size) σ H locs) (hl : lv_has ls 3 [(0, .ref (xA G (1 + bg))), (1, .int x1)]) (h : fB_weigh_J41 bg x1 y0 σ = some σr) : W p l e rmB_weigh s m args below meth c H locs 0 0 (MQ below (xQv G σ0 s.heap.size σr) args s 0 0 (va_A (xW G σ0) s.heap.size)) (F0 m 41 ls [.int y0]) := by
  have hx := hC.1.1
  have hb := hC.1.2.1
  have hown := hC.1.2.2.2.1
  have hts := hC.1.2.2.2.2
  unfold fB_weigh_J41 at h
  refine lv_istore_n (lv' := [(2, .int y0), (0, .ref (xA G (1 + bg))), (1, .int x1)]) hx hb dX0_weigh_41 rfl hl (by decide) rfl (fun ls hl => ?_)
  refine lv_aload_n hx hb dX0_weigh_42 rfl (lv_at hl 1 rfl) ?_
  refine x_get (C := RX0) (T := TX0) (N := 12) (v := .ref (xA G (100 + (30 + 6 * bg + 4)))) hC hH (xe_B G σ hbg) rfl wyX0 5 (by decide) wfX0_28 rfl rfl dX0_weigh_43 ?_
  refine lv_iload_n hx hb dX0_weigh_46 rfl (lv_at hl 2 rfl) ?_
  refine lv_aload_n hx hb dX0_weigh_47 rfl (lv_at hl 1 rfl) ?_
  refine x_get (C := RX0) (T := TX0) (N := 12) (v := .ref (xA G (100 + (30 + 6 * bg + 0)))) hC hH (xe_B G σ hbg) rfl wyX0 1 (by decide) wfX0_15 rfl rfl dX0_weigh_48 ?_
  refine lv_iload_n hx hb dX0_weigh_51 rfl (lv_at hl 2 rfl) ?_
  obtain ⟨i4, h⟩ := ck_some h
  refine x_ald hC hH (d := (30 + 6 * bg + 0)) (xIs_b hbg (by decide)) (xLen_b hbg (by decide)) rfl i4 dX0_weigh_52 ?_
  refine lv_iload_n hx hb dX0_weigh_53 rfl (lv_at hl 0 rfl) ?_
  refine lv_iconst (v := 0) hx hb dX0_weigh_54 (by decide) ?_
  refine lv_sipush (v := 999) hx hb dX0_weigh_55 (by decide) ?_
  obtain ⟨r6, h5, h⟩ := ob_some h
  refine x_callsN (host := "RoadSorted") (As := [.int y0, .int (0 : Int32), .int (999 : Int32)]) (rest := [.int (xi σ (30 + 6 * bg + 0) (x1).toNatClampNeg), .int x1, .ref (xA G (100 + (30 + 6 * bg + 4)))]) (cX_held l G σ y0 (0 : Int32) (999 : Int32)  h5) hC hH hl (by decide +kernel) wsX7_held rfl rfl hdX7_held ⟨Nat.le_of_ble_eq_true rfl, Nat.le_of_ble_eq_true rfl⟩ rfl rfl (Nat.le_of_ble_eq_true rfl) ⟨Nat.zero_le _, Nat.zero_le _⟩ dX0_weigh_58 (fun H locs hH => ?_)
  obtain ⟨r8, h7, h⟩ := ob_some h
  refine x_calls (As := [.int (xi σ (30 + 6 * bg + 0) (x1).toNatClampNeg), .int r6]) (rest := [.int x1, .ref (xA G (100 + (30 + 6 * bg + 4)))]) (cK_rises l G σ (xi σ (30 + 6 * bg + 0) (x1).toNatClampNeg) r6  h7) hC hH hl (va_cwS 2 hts (gS wmX0_74 wsX1_rises) rfl rfl rfl hdX1_rises ⟨Nat.le_of_ble_eq_true rfl, Nat.le_of_ble_eq_true rfl⟩) rfl rfl (Nat.le_of_ble_eq_true rfl) ⟨Nat.zero_le _, Nat.zero_le _⟩ dX0_weigh_61 (fun H locs hH => ?_)
  obtain ⟨i11, h⟩ := ck_some h
  obtain ⟨σ9, e10, h⟩ := bnd_some h
  refine x_ast hC hH (d := (30 + 6 * bg + 4)) (xIs_b hbg (by decide)) (xLen_b hbg (by decide)) rfl e10 i11 dX0_weigh_64 (fun H locs hH => ?_)
  obtain rfl := some_i1 h
  exact x_vret hC hH hr dX0_weigh_65

def fB_weigh (σ0 : XS) (bg : Nat) (x1 : Int32) : Option (XS) :=
  oc (xr σ0 bg) (
    ck x1 (14) <|
    fB_weigh_J41 bg x1 (xi σ0 (30 + 6 * bg + 1) (x1).toNatClampNeg) σ0) fun a2 => (
    ck x1 (14) <|
    ck x1 (14) <|
    ck x1 (14) <|
    lk σ0 a2 <|
    ob2 (fL_gives σ0 a2 (xi σ0 (30 + 6 * bg + 1) (x1).toNatClampNeg) (xi σ0 (30 + 6 * bg + 2) (x1).toNatClampNeg) (xi σ0 (30 + 6 * bg + 3) (x1).toNatClampNeg)) fun r16 σ17 =>
    fB_weigh_J41 bg x1 r16 σ17)

set_option maxHeartbeats 4000000 in
set_option maxRecDepth 100000 in
theorem cB_weigh (l : Launch) (G : XG) (σ0 : XS) (bg : Nat) (x1 : Int32) (hbg : bg < 4) {σr : XS} (h : fB_weigh σ0 bg x1 = some σr) : ∀ sz, Met l yX0_weigh (Cond.code yX0_weigh cX0_weigh 3 none :: Tw) rmB_weigh (xP G σ0 sz [.ref (xA G (1 + bg)), .int x1]) (xQv G σ0 sz σr) 0 0 (va_A (xW G σ0) sz) := by
  intro sz
  refine Met.ofW (cc := cX0_weigh) (maxL := 3) (ret := (none)) (by decide) rfl ?_
  intro p e s m args below meth c s₁ Bd hml hv
  obtain ⟨hC, hr⟩ := jC_of Bd hml
  obtain ⟨rfl, rfl, hH⟩ := x_enter hv
  have hC : jC p s m _ meth c cX0_weigh 3 RX0 := hC
  have hx := hC.1.1
  have hb := hC.1.2.1
  have hown := hC.1.2.2.2.1
  have hts := hC.1.2.2.2.2
  have hl := lv_entry ([.ref (xA G (1 + bg)), .int x1]) (n := 3) (Nat.le_of_ble_eq_true rfl)
  rw [lg_entry_eq]
  generalize (lg_sl ([.ref (xA G (1 + bg)), .int x1]) ++ List.replicate (3 - (lg_sl ([.ref (xA G (1 + bg)), .int x1])).length) Slot.unset).toArray = ls at hl ⊢
  have hl : lv_has ls 3 [(0, .ref (xA G (1 + bg))), (1, .int x1)] := hl
  unfold fB_weigh at h
  refine W_nm (fun H locs eH eL => ?_)
  have hH : xH G s (va_A (xW G σ0) s.heap.size) σ0 H locs := by rw [eH, eL]; exact hH
  show W p l e rmB_weigh s m _ below meth c H locs 0 0 _ (F0 m 0 ls [])
  refine lv_aload_n hx hb dX0_weigh_0 rfl (lv_at hl 0 rfl) ?_
  refine x_get (C := RX0) (T := TX0) (N := 12) (v := va_rf (xr σ0 bg)) hC hH (xe_B G σ0 hbg) rfl wyX0 11 (by decide) wfX0_46 rfl rfl dX0_weigh_1 ?_
  refine x_opt (fun c1 => ?_) (fun a2 c1 => ?_)
  · have h := oc_n c1 h
    refine lv_ifnonnullN hx hb dX0_weigh_4 ?_
    refine lv_aload_n hx hb dX0_weigh_7 rfl (lv_at hl 0 rfl) ?_
    refine x_get (C := RX0) (T := TX0) (N := 12) (v := .ref (xA G (100 + (30 + 6 * bg + 1)))) hC hH (xe_B G σ0 hbg) rfl wyX0 2 (by decide) wfX0_19 rfl rfl dX0_weigh_8 ?_
    refine lv_iload_n hx hb dX0_weigh_11 rfl (lv_at hl 1 rfl) ?_
    obtain ⟨i3, h⟩ := ck_some h
    refine x_ald hC hH (d := (30 + 6 * bg + 1)) (xIs_b hbg (by decide)) (xLen_b hbg (by decide)) rfl i3 dX0_weigh_12 ?_
    refine lv_goto (tgt := 41) hx hb dX0_weigh_13 (by decide) ?_
    exact wB_weigh_J41 hC hr hbg  x1 (xi σ0 (30 + 6 * bg + 1) (x1).toNatClampNeg) σ0 H locs ls  hH hl h
  · have h := oc_s c1 h
    refine lv_ifnonnull (tgt := 16) hx hb dX0_weigh_4 (by decide) ?_
    refine lv_aload_n hx hb dX0_weigh_16 rfl (lv_at hl 0 rfl) ?_
    refine x_get (C := RX0) (T := TX0) (N := 12) (v := .ref a2) hC hH (xe_B G σ0 hbg) rfl wyX0 11 (by decide) wfX0_46 rfl (by show some (va_rf (xr σ0 bg)) = _; rw [c1]; rfl) dX0_weigh_17 ?_
    refine lv_aload_n hx hb dX0_weigh_20 rfl (lv_at hl 0 rfl) ?_
    refine x_get (C := RX0) (T := TX0) (N := 12) (v := .ref (xA G (100 + (30 + 6 * bg + 1)))) hC hH (xe_B G σ0 hbg) rfl wyX0 2 (by decide) wfX0_19 rfl rfl dX0_weigh_21 ?_
    refine lv_iload_n hx hb dX0_weigh_24 rfl (lv_at hl 1 rfl) ?_
    obtain ⟨i12, h⟩ := ck_some h
    refine x_ald hC hH (d := (30 + 6 * bg + 1)) (xIs_b hbg (by decide)) (xLen_b hbg (by decide)) rfl i12 dX0_weigh_25 ?_
    refine lv_aload_n hx hb dX0_weigh_26 rfl (lv_at hl 0 rfl) ?_
    refine x_get (C := RX0) (T := TX0) (N := 12) (v := .ref (xA G (100 + (30 + 6 * bg + 2)))) hC hH (xe_B G σ0 hbg) rfl wyX0 3 (by decide) wfX0_22 rfl rfl dX0_weigh_27 ?_
    refine lv_iload_n hx hb dX0_weigh_30 rfl (lv_at hl 1 rfl) ?_
    obtain ⟨i13, h⟩ := ck_some h
    refine x_ald hC hH (d := (30 + 6 * bg + 2)) (xIs_b hbg (by decide)) (xLen_b hbg (by decide)) rfl i13 dX0_weigh_31 ?_
    refine lv_aload_n hx hb dX0_weigh_32 rfl (lv_at hl 0 rfl) ?_
    refine x_get (C := RX0) (T := TX0) (N := 12) (v := .ref (xA G (100 + (30 + 6 * bg + 3)))) hC hH (xe_B G σ0 hbg) rfl wyX0 4 (by decide) wfX0_25 rfl rfl dX0_weigh_33 ?_
    refine lv_iload_n hx hb dX0_weigh_36 rfl (lv_at hl 1 rfl) ?_
    obtain ⟨i14, h⟩ := ck_some h
    refine x_ald hC hH (d := (30 + 6 * bg + 3)) (xIs_b hbg (by decide)) (xLen_b hbg (by decide)) rfl i14 dX0_weigh_37 ?_
    obtain ⟨q18, h⟩ := lk_some h
    obtain ⟨r16, σ17, h15, h⟩ := ob2_some h
    obtain ⟨j19, q20⟩ := xe_L G σ0 q18.1 q18.2
    refine x_calli (vw := (RX2, TX2, 4)) (As := [.int (xi σ0 (30 + 6 * bg + 1) (x1).toNatClampNeg), .int (xi σ0 (30 + 6 * bg + 2) (x1).toNatClampNeg), .int (xi σ0 (30 + 6 * bg + 3) (x1).toNatClampNeg)]) (rest := []) (cL_gives l G σ0 a2 (xi σ0 (30 + 6 * bg + 1) (x1).toNatClampNeg) (xi σ0 (30 + 6 * bg + 2) (x1).toNatClampNeg) (xi σ0 (30 + 6 * bg + 3) (x1).toNatClampNeg)  h15) hC hH hl q20 rfl (cwV 3 hts (gV wmX0_65 wvX2_gives) rfl rfl rfl hdX2_gives ⟨Nat.le_of_ble_eq_true rfl, Nat.le_of_ble_eq_true rfl⟩) rfl rfl (Nat.le_of_ble_eq_true rfl) ⟨Nat.zero_le _, Nat.zero_le _⟩ dX0_weigh_38 (fun H locs hH => ?_)
    exact wB_weigh_J41 hC hr hbg  x1 r16 σ17 H locs ls  hH hl h

def rmB_become : Room := { frames := 3, cells := 0, slots := 0, locals := 84 }
theorem hdX0_become : yX0_become.cls = RX0 ∧ yX0_become.cls ≠ "java/lang/invoke/MethodHandle" ∧ yX0_become.cls ≠ "java/lang/invoke/VarHandle" ∧ (parseMethodDescriptor yX0_become.desc).map (fun d => d.parameters.length) = some 4 := by decide +kernel

def fB_become (σ0 : XS) (bg : Nat) (x1 : Int32) (x2 : Int32) (x3 : Int32) (x4 : Int32) : Option (XS) :=
  ck x1 (14) <|
  bnd (xu σ0 (30 + 6 * bg + 0) (x1).toNatClampNeg x2) fun σ1 =>
  ck x1 (14) <|
  bnd (xu σ1 (30 + 6 * bg + 1) (x1).toNatClampNeg x3) fun σ4 =>
  ck x1 (14) <|
  bnd (xu σ4 (30 + 6 * bg + 2) (x1).toNatClampNeg x4) fun σ7 =>
  ob (fB_weigh σ7 bg x1) fun σ11 =>
  some σ11

set_option maxHeartbeats 4000000 in
set_option maxRecDepth 100000 in
theorem cB_become (l : Launch) (G : XG) (σ0 : XS) (bg : Nat) (x1 : Int32) (x2 : Int32) (x3 : Int32) (x4 : Int32) (hbg : bg < 4) {σr : XS} (h : fB_become σ0 bg x1 x2 x3 x4 = some σr) : ∀ sz, Met l yX0_become (Cond.code yX0_become cX0_become 5 none :: Tw) rmB_become (xP G σ0 sz [.ref (xA G (1 + bg)), .int x1, .int x2, .int x3, .int x4]) (xQv G σ0 sz σr) 0 0 (va_A (xW G σ0) sz) := by
  intro sz
  refine Met.ofW (cc := cX0_become) (maxL := 5) (ret := (none)) (by decide) rfl ?_
  intro p e s m args below meth c s₁ Bd hml hv
  obtain ⟨hC, hr⟩ := jC_of Bd hml
  obtain ⟨rfl, rfl, hH⟩ := x_enter hv
  have hC : jC p s m _ meth c cX0_become 5 RX0 := hC
  have hx := hC.1.1
  have hb := hC.1.2.1
  have hown := hC.1.2.2.2.1
  have hts := hC.1.2.2.2.2
  have hl := lv_entry ([.ref (xA G (1 + bg)), .int x1, .int x2, .int x3, .int x4]) (n := 5) (Nat.le_of_ble_eq_true rfl)
  rw [lg_entry_eq]
  generalize (lg_sl ([.ref (xA G (1 + bg)), .int x1, .int x2, .int x3, .int x4]) ++ List.replicate (5 - (lg_sl ([.ref (xA G (1 + bg)), .int x1, .int x2, .int x3, .int x4])).length) Slot.unset).toArray = ls at hl ⊢
  have hl : lv_has ls 5 [(0, .ref (xA G (1 + bg))), (1, .int x1), (2, .int x2), (3, .int x3), (4, .int x4)] := hl
  unfold fB_become at h
  refine W_nm (fun H locs eH eL => ?_)
  have hH : xH G s (va_A (xW G σ0) s.heap.size) σ0 H locs := by rw [eH, eL]; exact hH
  show W p l e rmB_become s m _ below meth c H locs 0 0 _ (F0 m 0 ls [])
  refine lv_aload_n hx hb dX0_become_0 rfl (lv_at hl 0 rfl) ?_
  refine x_get (C := RX0) (T := TX0) (N := 12) (v := .ref (xA G (100 + (30 + 6 * bg + 0)))) hC hH (xe_B G σ0 hbg) rfl wyX0 1 (by decide) wfX0_15 rfl rfl dX0_become_1 ?_
  refine lv_iload_n hx hb dX0_become_4 rfl (lv_at hl 1 rfl) ?_
  refine lv_iload_n hx hb dX0_become_5 rfl (lv_at hl 2 rfl) ?_
  obtain ⟨i3, h⟩ := ck_some h
  obtain ⟨σ1, e2, h⟩ := bnd_some h
  refine x_ast hC hH (d := (30 + 6 * bg + 0)) (xIs_b hbg (by decide)) (xLen_b hbg (by decide)) rfl e2 i3 dX0_become_6 (fun H locs hH => ?_)
  refine lv_aload_n hx hb dX0_become_7 rfl (lv_at hl 0 rfl) ?_
  refine x_get (C := RX0) (T := TX0) (N := 12) (v := .ref (xA G (100 + (30 + 6 * bg + 1)))) hC hH (xe_B G σ1 hbg) rfl wyX0 2 (by decide) wfX0_19 rfl rfl dX0_become_8 ?_
  refine lv_iload_n hx hb dX0_become_11 rfl (lv_at hl 1 rfl) ?_
  refine lv_iload_n hx hb dX0_become_12 rfl (lv_at hl 3 rfl) ?_
  obtain ⟨i6, h⟩ := ck_some h
  obtain ⟨σ4, e5, h⟩ := bnd_some h
  refine x_ast hC hH (d := (30 + 6 * bg + 1)) (xIs_b hbg (by decide)) (xLen_b hbg (by decide)) rfl e5 i6 dX0_become_13 (fun H locs hH => ?_)
  refine lv_aload_n hx hb dX0_become_14 rfl (lv_at hl 0 rfl) ?_
  refine x_get (C := RX0) (T := TX0) (N := 12) (v := .ref (xA G (100 + (30 + 6 * bg + 2)))) hC hH (xe_B G σ4 hbg) rfl wyX0 3 (by decide) wfX0_22 rfl rfl dX0_become_15 ?_
  refine lv_iload_n hx hb dX0_become_18 rfl (lv_at hl 1 rfl) ?_
  refine lv_iload hx hb dX0_become_19 (lv_at hl 4 rfl) ?_
  obtain ⟨i9, h⟩ := ck_some h
  obtain ⟨σ7, e8, h⟩ := bnd_some h
  refine x_ast hC hH (d := (30 + 6 * bg + 2)) (xIs_b hbg (by decide)) (xLen_b hbg (by decide)) rfl e8 i9 dX0_become_21 (fun H locs hH => ?_)
  refine lv_aload_n hx hb dX0_become_22 rfl (lv_at hl 0 rfl) ?_
  refine lv_iload_n hx hb dX0_become_23 rfl (lv_at hl 1 rfl) ?_
  obtain ⟨σ11, h10, h⟩ := ob_some h
  refine x_callv (vw := (RX0, TX0, 12)) (As := [.int x1]) (rest := []) (cB_weigh l G σ7 bg x1 hbg h10) hC hH hl (xe_B G σ7 hbg) rfl (cwV 1 hts (gV wmX0_61 wvX0_weigh) rfl rfl rfl hdX0_weigh ⟨Nat.le_of_ble_eq_true rfl, Nat.le_of_ble_eq_true rfl⟩) rfl rfl (Nat.le_of_ble_eq_true rfl) ⟨Nat.zero_le _, Nat.zero_le _⟩ dX0_become_24 (fun H locs hH => ?_)
  obtain rfl := some_i1 h
  exact x_vret hC hH hr dX0_become_27

def rmB_add : Room := { frames := 4, cells := 0, slots := 0, locals := 108 }
theorem hdX0_add : yX0_add.cls = RX0 ∧ yX0_add.cls ≠ "java/lang/invoke/MethodHandle" ∧ yX0_add.cls ≠ "java/lang/invoke/VarHandle" ∧ (parseMethodDescriptor yX0_add.desc).map (fun d => d.parameters.length) = some 3 := by decide +kernel

def fB_add (σ0 : XS) (bg : Nat) (x1 : Int32) (x2 : Int32) (x3 : Int32) : Option (Int32 × XS) :=
  if (xi σ0 (1 + bg) 0) = (14 : Int32) then (
    some ((-1000000003 : Int32), σ0))
  else (
    bnd (xi σ0 (1 + bg) 0) fun v2 =>
    bnd (xu σ0 (1 + bg) 0 ((xi σ0 (1 + bg) 0) + (1 : Int32))) fun σ4 =>
    ck v2 (14) <|
    bnd (xu σ4 (30 + 6 * bg + 5) (v2).toNatClampNeg v2) fun σ6 =>
    ck v2 (14) <|
    bnd (xu σ6 (30 + 6 * bg + 3) (v2).toNatClampNeg (0 : Int32)) fun σ9 =>
    ob (fB_become σ9 bg v2 x1 x2 x3) fun σ13 =>
    some (v2, σ13))

set_option maxHeartbeats 4000000 in
set_option maxRecDepth 100000 in
theorem cB_add (l : Launch) (G : XG) (σ0 : XS) (bg : Nat) (x1 : Int32) (x2 : Int32) (x3 : Int32) (hbg : bg < 4) {r : Int32} {σr : XS} (h : fB_add σ0 bg x1 x2 x3 = some (r, σr)) : ∀ sz, Met l yX0_add (Cond.code yX0_add cX0_add 5 (some .int) :: Tw) rmB_add (xP G σ0 sz [.ref (xA G (1 + bg)), .int x1, .int x2, .int x3]) (xQi G σ0 sz σr r) 0 0 (va_A (xW G σ0) sz) := by
  intro sz
  refine Met.ofW (cc := cX0_add) (maxL := 5) (ret := (some .int)) (by decide) rfl ?_
  intro p e s m args below meth c s₁ Bd hml hv
  obtain ⟨hC, hr⟩ := jC_of Bd hml
  obtain ⟨rfl, rfl, hH⟩ := x_enter hv
  have hC : jC p s m _ meth c cX0_add 5 RX0 := hC
  have hx := hC.1.1
  have hb := hC.1.2.1
  have hown := hC.1.2.2.2.1
  have hts := hC.1.2.2.2.2
  have hl := lv_entry ([.ref (xA G (1 + bg)), .int x1, .int x2, .int x3]) (n := 5) (Nat.le_of_ble_eq_true rfl)
  rw [lg_entry_eq]
  generalize (lg_sl ([.ref (xA G (1 + bg)), .int x1, .int x2, .int x3]) ++ List.replicate (5 - (lg_sl ([.ref (xA G (1 + bg)), .int x1, .int x2, .int x3])).length) Slot.unset).toArray = ls at hl ⊢
  have hl : lv_has ls 5 [(0, .ref (xA G (1 + bg))), (1, .int x1), (2, .int x2), (3, .int x3)] := hl
  unfold fB_add at h
  refine W_nm (fun H locs eH eL => ?_)
  have hH : xH G s (va_A (xW G σ0) s.heap.size) σ0 H locs := by rw [eH, eL]; exact hH
  show W p l e rmB_add s m _ below meth c H locs 0 0 _ (F0 m 0 ls [])
  refine lv_aload_n hx hb dX0_add_0 rfl (lv_at hl 0 rfl) ?_
  refine x_get (C := RX0) (T := TX0) (N := 12) (v := .int (xi σ0 (1 + bg) 0)) hC hH (xe_B G σ0 hbg) rfl wyX0 0 (by decide) wfX0_9 rfl rfl dX0_add_1 ?_
  refine lv_bipush (v := 14) hx hb dX0_add_4 (by decide) ?_
  refine lv_icmp_ne (tgt := 12) hx hb dX0_add_6 (by decide) (fun c1 => ?_) (fun c1 => ?_)
  · have h := ite_f c1 h
    refine lv_aload_n hx hb dX0_add_12 rfl (lv_at hl 0 rfl) ?_
    refine x_get (C := RX0) (T := TX0) (N := 12) (v := .int (xi σ0 (1 + bg) 0)) hC hH (xe_B G σ0 hbg) rfl wyX0 0 (by decide) wfX0_9 rfl rfl dX0_add_13 ?_
    obtain ⟨v2, e3, h⟩ := bnd_some h
    refine lv_tope e3 ?_
    refine lv_istore (lv' := [(4, .int v2), (0, .ref (xA G (1 + bg))), (1, .int x1), (2, .int x2), (3, .int x3)]) hx hb dX0_add_16 hl (by decide) rfl (fun ls hl => ?_)
    refine lv_aload_n hx hb dX0_add_18 rfl (lv_at hl 1 rfl) ?_
    refine lv_dup hx hb dX0_add_19 rfl ?_
    refine x_get (C := RX0) (T := TX0) (N := 12) (v := .int (xi σ0 (1 + bg) 0)) hC hH (xe_B G σ0 hbg) rfl wyX0 0 (by decide) wfX0_9 rfl rfl dX0_add_20 ?_
    refine lv_iconst (v := 1) hx hb dX0_add_23 (by decide) ?_
    refine lv_iadd hx hb dX0_add_24 ?_
    obtain ⟨σ4, e5, h⟩ := bnd_some h
    refine x_put (C := RX0) (T := TX0) (N := 12) (ty := .int) (v := .int ((xi σ0 (1 + bg) 0) + (1 : Int32))) hC hH (xe_B G σ0 hbg) rfl wyX0 tyX0_ok nmX0 0 (by decide) wfX0_9 rfl rfl (by decide +kernel) rfl rfl (Nat.le_of_ble_eq_true rfl) e5 (xs_B_0 G σ0 hbg _) dX0_add_25 (fun H locs hH => ?_)
    refine lv_aload_n hx hb dX0_add_28 rfl (lv_at hl 1 rfl) ?_
    refine x_get (C := RX0) (T := TX0) (N := 12) (v := .ref (xA G (100 + (30 + 6 * bg + 5)))) hC hH (xe_B G σ4 hbg) rfl wyX0 6 (by decide) wfX0_31 rfl rfl dX0_add_29 ?_
    refine lv_iload hx hb dX0_add_32 (lv_at hl 0 rfl) ?_
    refine lv_iload hx hb dX0_add_34 (lv_at hl 0 rfl) ?_
    obtain ⟨i8, h⟩ := ck_some h
    obtain ⟨σ6, e7, h⟩ := bnd_some h
    refine x_ast hC hH (d := (30 + 6 * bg + 5)) (xIs_b hbg (by decide)) (xLen_b hbg (by decide)) rfl e7 i8 dX0_add_36 (fun H locs hH => ?_)
    refine lv_aload_n hx hb dX0_add_37 rfl (lv_at hl 1 rfl) ?_
    refine x_get (C := RX0) (T := TX0) (N := 12) (v := .ref (xA G (100 + (30 + 6 * bg + 3)))) hC hH (xe_B G σ6 hbg) rfl wyX0 4 (by decide) wfX0_25 rfl rfl dX0_add_38 ?_
    refine lv_iload hx hb dX0_add_41 (lv_at hl 0 rfl) ?_
    refine lv_iconst (v := 0) hx hb dX0_add_43 (by decide) ?_
    obtain ⟨i11, h⟩ := ck_some h
    obtain ⟨σ9, e10, h⟩ := bnd_some h
    refine x_ast hC hH (d := (30 + 6 * bg + 3)) (xIs_b hbg (by decide)) (xLen_b hbg (by decide)) rfl e10 i11 dX0_add_44 (fun H locs hH => ?_)
    refine lv_aload_n hx hb dX0_add_45 rfl (lv_at hl 1 rfl) ?_
    refine lv_iload hx hb dX0_add_46 (lv_at hl 0 rfl) ?_
    refine lv_iload_n hx hb dX0_add_48 rfl (lv_at hl 2 rfl) ?_
    refine lv_iload_n hx hb dX0_add_49 rfl (lv_at hl 3 rfl) ?_
    refine lv_iload_n hx hb dX0_add_50 rfl (lv_at hl 4 rfl) ?_
    obtain ⟨σ13, h12, h⟩ := ob_some h
    refine x_callv (vw := (RX0, TX0, 12)) (As := [.int v2, .int x1, .int x2, .int x3]) (rest := []) (cB_become l G σ9 bg v2 x1 x2 x3 hbg h12) hC hH hl (xe_B G σ9 hbg) rfl (cwV 4 hts (gV wmX0_57 wvX0_become) rfl rfl rfl hdX0_become ⟨Nat.le_of_ble_eq_true rfl, Nat.le_of_ble_eq_true rfl⟩) rfl rfl (Nat.le_of_ble_eq_true rfl) ⟨Nat.zero_le _, Nat.zero_le _⟩ dX0_add_51 (fun H locs hH => ?_)
    refine lv_iload hx hb dX0_add_54 (lv_at hl 0 rfl) ?_
    obtain ⟨rfl, rfl⟩ := some_i2 h
    exact x_iret hC hH hr rfl dX0_add_56
  · have h := ite_t c1 h
    refine lv_ldc (v := -1000000003) hx hb hown (hts _ wkX0_56) dX0_add_9 ?_
    obtain ⟨rfl, rfl⟩ := some_i2 h
    exact x_iret (v := -1000000003) hC hH hr rfl dX0_add_11

def rmB_obey : Room := { frames := 3, cells := 0, slots := 0, locals := 84 }
theorem hdX0_obey : yX0_obey.cls = RX0 ∧ yX0_obey.cls ≠ "java/lang/invoke/MethodHandle" ∧ yX0_obey.cls ≠ "java/lang/invoke/VarHandle" ∧ (parseMethodDescriptor yX0_obey.desc).map (fun d => d.parameters.length) = some 1 := by decide +kernel

def fB_obey_L7 (bg : Nat) (p0 : Nat) (k26 : XS → Option (XS)) : Nat → Int32 → XS → Option (XS)
  | 0, _, _ => none
  | n + 1, x2, σ =>
    if (xi σ (1 + bg) 0) ≤ x2 then (
      k26 σ)
    else (
      ob (fB_weigh σ bg x2) fun σ5 =>
      bnd (x2 + (1 : Int32)) fun v6 =>
      (fB_obey_L7 bg p0 k26 n) v6 σ5)

set_option maxHeartbeats 4000000 in
set_option maxRecDepth 100000 in
theorem wB_obey_L7 {p : Program} {l : Launch} {e : Env} {s : State} {m : MethodId} {args : Array Value} {below : List Frame} {meth : Method} {c : Code} {G : XG} {σ0 : XS} {bg : Nat} {p0 : Nat} {σr : XS} (hC : jC p s m args meth c cX0_obey 3 RX0) (hr : meth.sig.returnType = none) (hbg : bg < 4) {k26 : XS → Option (XS)} (hk26 : ∀ (σ : XS) (H : Heap) (locs : List Loc) (ls : Array Slot), xH G s (va_A (xW G σ0) s.heap.size) σ H locs → lv_has ls 3 [] → k26 σ = some σr → W p l e rmB_obey s m args below meth c H locs 0 0 (MQ below (xQv G σ0 s.heap.size σr) args s 0 0 (va_A (xW G σ0) s.heap.size)) (F0 m 26 ls [])) : ∀ (n : Nat) (x2 : Int32) (σ : XS) (H : Heap) (locs : List Loc) (ls : Array Slot), xH G s (va_A (xW G σ0) s.heap.size) σ H locs → lv_has ls 3 [(0, .ref (xA G (1 + bg))), (2, .int x2)] → fB_obey_L7 bg p0 k26 n x2 σ = some σr → W p l e rmB_obey s m args below meth c H locs 0 0 (MQ below (xQv G σ0 s.heap.size σr) args s 0 0 (va_A (xW G σ0) s.heap.size)) (F0 m 7 ls []) := by
  have hx := hC.1.1
  have hb := hC.1.2.1
  have hown := hC.1.2.2.2.1
  have hts := hC.1.2.2.2.2
  intro n
  induction n with
  | zero =>
    intro x2 σ H locs ls  hH hl h
    rw [fB_obey_L7] at h
    cases h
  | succ n ih =>
    intro x2 σ H locs ls  hH hl h
    rw [fB_obey_L7] at h
    refine lv_iload_n hx hb dX0_obey_7 rfl (lv_at hl 1 rfl) ?_
    refine lv_aload_n hx hb dX0_obey_8 rfl (lv_at hl 0 rfl) ?_
    refine x_get (C := RX0) (T := TX0) (N := 12) (v := .int (xi σ (1 + bg) 0)) hC hH (xe_B G σ hbg) rfl wyX0 0 (by decide) wfX0_9 rfl rfl dX0_obey_9 ?_
    refine lv_icmp_ge (tgt := 26) hx hb dX0_obey_12 (by decide) (fun c3 => ?_) (fun c3 => ?_)
    · have h := ite_t c3 h
      exact hk26 σ H locs ls  hH (lv_sub hl [] rfl) h
    · have h := ite_f c3 h
      refine lv_aload_n hx hb dX0_obey_15 rfl (lv_at hl 0 rfl) ?_
      refine lv_iload_n hx hb dX0_obey_16 rfl (lv_at hl 1 rfl) ?_
      obtain ⟨σ5, h4, h⟩ := ob_some h
      refine x_callv (vw := (RX0, TX0, 12)) (As := [.int x2]) (rest := []) (cB_weigh l G σ bg x2 hbg h4) hC hH hl (xe_B G σ hbg) rfl (cwV 1 hts (gV wmX0_61 wvX0_weigh) rfl rfl rfl hdX0_weigh ⟨Nat.le_of_ble_eq_true rfl, Nat.le_of_ble_eq_true rfl⟩) rfl rfl (Nat.le_of_ble_eq_true rfl) ⟨Nat.zero_le _, Nat.zero_le _⟩ dX0_obey_17 (fun H locs hH => ?_)
      obtain ⟨v6, e7, h⟩ := bnd_some h
      refine lv_iinc (v := v6) (lv' := [(2, .int v6), (0, .ref (xA G (1 + bg)))]) hx hb dX0_obey_20 hl (k := 1) rfl (by rw [e7]; rfl) (by decide) rfl (fun ls hl => ?_)
      refine lv_goto (tgt := 7) hx hb dX0_obey_23 (by decide) ?_
      exact ih v6 σ5 H locs ls  hH (lv_sub hl [1, 0] rfl) h

def fB_obey (σ0 : XS) (bg : Nat) (p0 : Nat) : Option (XS) :=
  bnd (xur σ0 bg (some p0)) fun σ1 =>
  fB_obey_L7 bg p0 (fun (σ : XS) => some σ) 10000 (0 : Int32) σ1

set_option maxHeartbeats 4000000 in
set_option maxRecDepth 100000 in
theorem cB_obey (l : Launch) (G : XG) (σ0 : XS) (bg : Nat) (p0 : Nat) (hbg : bg < 4) {σr : XS} (h : fB_obey σ0 bg p0 = some σr) : ∀ sz, Met l yX0_obey (Cond.code yX0_obey cX0_obey 3 none :: Tw) rmB_obey (xP G σ0 sz [.ref (xA G (1 + bg)), .ref p0]) (xQv G σ0 sz σr) 0 0 (va_A (xW G σ0) sz) := by
  intro sz
  refine Met.ofW (cc := cX0_obey) (maxL := 3) (ret := (none)) (by decide) rfl ?_
  intro p e s m args below meth c s₁ Bd hml hv
  obtain ⟨hC, hr⟩ := jC_of Bd hml
  obtain ⟨rfl, rfl, hH⟩ := x_enter hv
  have hC : jC p s m _ meth c cX0_obey 3 RX0 := hC
  have hx := hC.1.1
  have hb := hC.1.2.1
  have hown := hC.1.2.2.2.1
  have hts := hC.1.2.2.2.2
  have hl := lv_entry ([.ref (xA G (1 + bg)), .ref p0]) (n := 3) (Nat.le_of_ble_eq_true rfl)
  rw [lg_entry_eq]
  generalize (lg_sl ([.ref (xA G (1 + bg)), .ref p0]) ++ List.replicate (3 - (lg_sl ([.ref (xA G (1 + bg)), .ref p0])).length) Slot.unset).toArray = ls at hl ⊢
  have hl : lv_has ls 3 [(0, .ref (xA G (1 + bg))), (1, .ref p0)] := hl
  unfold fB_obey at h
  refine W_nm (fun H locs eH eL => ?_)
  have hH : xH G s (va_A (xW G σ0) s.heap.size) σ0 H locs := by rw [eH, eL]; exact hH
  show W p l e rmB_obey s m _ below meth c H locs 0 0 _ (F0 m 0 ls [])
  refine lv_aload_n hx hb dX0_obey_0 rfl (lv_at hl 0 rfl) ?_
  refine lv_aload_n hx hb dX0_obey_1 rfl (lv_at hl 1 rfl) ?_
  obtain ⟨σ1, e2, h⟩ := bnd_some h
  refine x_put (C := RX0) (T := TX0) (N := 12) (ty := .object "RoadSorted$Law") (v := va_rf (some p0)) hC hH (xe_B G σ0 hbg) rfl wyX0 tyX0_ok nmX0 11 (by decide) wfX0_46 rfl rfl (by decide +kernel) (rf_n _ _) (rf_f _ _) (Nat.le_of_ble_eq_true rfl) e2 (xs_Br G σ0 hbg (some p0)) dX0_obey_2 (fun H locs hH => ?_)
  refine lv_iconst (v := 0) hx hb dX0_obey_5 (by decide) ?_
  refine lv_istore_n (lv' := [(2, .int (0 : Int32)), (0, .ref (xA G (1 + bg))), (1, .ref p0)]) hx hb dX0_obey_6 rfl hl (by decide) rfl (fun ls hl => ?_)
  refine wB_obey_L7 hC hr hbg  ?_ 10000 (0 : Int32) σ1 H locs ls  hH (lv_sub hl [1, 0] rfl) h
  intro σ H locs ls  hH hl h
  obtain rfl := some_i1 h
  exact x_vret hC hH hr dX0_obey_26

def rmB_placeOf : Room := { frames := 0, cells := 0, slots := 0, locals := 0 }
theorem hdX0_placeOf : yX0_placeOf.cls = RX0 ∧ yX0_placeOf.cls ≠ "java/lang/invoke/MethodHandle" ∧ yX0_placeOf.cls ≠ "java/lang/invoke/VarHandle" ∧ (parseMethodDescriptor yX0_placeOf.desc).map (fun d => d.parameters.length) = some 1 := by decide +kernel

def fB_placeOf_L2 (bg : Nat) (σ0 : XS) (k28 : Option (Int32)) : Nat → Int32 → Int32 → Option (Int32)
  | 0, _, _ => none
  | n + 1, x1, x2 =>
    if (xi σ0 (1 + bg) 0) ≤ x2 then (
      k28)
    else (
      ck x2 (14) <|
      if (xi σ0 (30 + 6 * bg + 5) (x2).toNatClampNeg) = x1 then (
        some x2)
      else (
        bnd (x2 + (1 : Int32)) fun v4 =>
        (fB_placeOf_L2 bg σ0 k28 n) x1 v4))

set_option maxHeartbeats 4000000 in
set_option maxRecDepth 100000 in
theorem wB_placeOf_L2 {p : Program} {l : Launch} {e : Env} {s : State} {m : MethodId} {args : Array Value} {below : List Frame} {meth : Method} {c : Code} {G : XG} {σ0 : XS} {bg : Nat} {r : Int32} (hC : jC p s m args meth c cX0_placeOf 3 RX0) (hr : meth.sig.returnType = some .int) (hbg : bg < 4) {k28 : Option (Int32)} (hk28 : ∀ (H : Heap) (locs : List Loc) (ls : Array Slot), xH G s (va_A (xW G σ0) s.heap.size) σ0 H locs → lv_has ls 3 [] → k28 = some r → W p l e rmB_placeOf s m args below meth c H locs 0 0 (MQ below (xQi G σ0 s.heap.size σ0 r) args s 0 0 (va_A (xW G σ0) s.heap.size)) (F0 m 28 ls [])) : ∀ (n : Nat) (x1 : Int32) (x2 : Int32) (H : Heap) (locs : List Loc) (ls : Array Slot), xH G s (va_A (xW G σ0) s.heap.size) σ0 H locs → lv_has ls 3 [(0, .ref (xA G (1 + bg))), (1, .int x1), (2, .int x2)] → fB_placeOf_L2 bg σ0 k28 n x1 x2 = some r → W p l e rmB_placeOf s m args below meth c H locs 0 0 (MQ below (xQi G σ0 s.heap.size σ0 r) args s 0 0 (va_A (xW G σ0) s.heap.size)) (F0 m 2 ls []) := by
  have hx := hC.1.1
  have hb := hC.1.2.1
  have hown := hC.1.2.2.2.1
  have hts := hC.1.2.2.2.2
  intro n
  induction n with
  | zero =>
    intro x1 x2 H locs ls  hH hl h
    rw [fB_placeOf_L2] at h
    cases h
  | succ n ih =>
    intro x1 x2 H locs ls  hH hl h
    rw [fB_placeOf_L2] at h
    refine lv_iload_n hx hb dX0_placeOf_2 rfl (lv_at hl 2 rfl) ?_
    refine lv_aload_n hx hb dX0_placeOf_3 rfl (lv_at hl 0 rfl) ?_
    refine x_get (C := RX0) (T := TX0) (N := 12) (v := .int (xi σ0 (1 + bg) 0)) hC hH (xe_B G σ0 hbg) rfl wyX0 0 (by decide) wfX0_9 rfl rfl dX0_placeOf_4 ?_
    refine lv_icmp_ge (tgt := 28) hx hb dX0_placeOf_7 (by decide) (fun c1 => ?_) (fun c1 => ?_)
    · have h := ite_t c1 h
      exact hk28  H locs ls  hH (lv_sub hl [] rfl) h
    · have h := ite_f c1 h
      refine lv_aload_n hx hb dX0_placeOf_10 rfl (lv_at hl 0 rfl) ?_
      refine x_get (C := RX0) (T := TX0) (N := 12) (v := .ref (xA G (100 + (30 + 6 * bg + 5)))) hC hH (xe_B G σ0 hbg) rfl wyX0 6 (by decide) wfX0_31 rfl rfl dX0_placeOf_11 ?_
      refine lv_iload_n hx hb dX0_placeOf_14 rfl (lv_at hl 2 rfl) ?_
      obtain ⟨i2, h⟩ := ck_some h
      refine x_ald hC hH (d := (30 + 6 * bg + 5)) (xIs_b hbg (by decide)) (xLen_b hbg (by decide)) rfl i2 dX0_placeOf_15 ?_
      refine lv_iload_n hx hb dX0_placeOf_16 rfl (lv_at hl 1 rfl) ?_
      refine lv_icmp_ne (tgt := 22) hx hb dX0_placeOf_17 (by decide) (fun c3 => ?_) (fun c3 => ?_)
      · have h := ite_f c3 h
        obtain ⟨v4, e5, h⟩ := bnd_some h
        refine lv_iinc (v := v4) (lv' := [(2, .int v4), (0, .ref (xA G (1 + bg))), (1, .int x1)]) hx hb dX0_placeOf_22 hl (k := 2) rfl (by rw [e5]; rfl) (by decide) rfl (fun ls hl => ?_)
        refine lv_goto (tgt := 2) hx hb dX0_placeOf_25 (by decide) ?_
        exact ih x1 v4 H locs ls  hH (lv_sub hl [1, 2, 0] rfl) h
      · have h := ite_t c3 h
        refine lv_iload_n hx hb dX0_placeOf_20 rfl (lv_at hl 2 rfl) ?_
        obtain rfl := some_i1 h
        exact x_iret hC hH hr rfl dX0_placeOf_21

def fB_placeOf (σ0 : XS) (bg : Nat) (x1 : Int32) : Option (Int32) :=
  fB_placeOf_L2 bg σ0 (some (-1000000005 : Int32)) 10000 x1 (0 : Int32)

set_option maxHeartbeats 4000000 in
set_option maxRecDepth 100000 in
theorem cB_placeOf (l : Launch) (G : XG) (σ0 : XS) (bg : Nat) (x1 : Int32) (hbg : bg < 4) {r : Int32} (h : fB_placeOf σ0 bg x1 = some r) : ∀ sz, Met l yX0_placeOf (Cond.code yX0_placeOf cX0_placeOf 3 (some .int) :: Tw) rmB_placeOf (xP G σ0 sz [.ref (xA G (1 + bg)), .int x1]) (xQi G σ0 sz σ0 r) 0 0 (va_A (xW G σ0) sz) := by
  intro sz
  refine Met.ofW (cc := cX0_placeOf) (maxL := 3) (ret := (some .int)) (by decide) rfl ?_
  intro p e s m args below meth c s₁ Bd hml hv
  obtain ⟨hC, hr⟩ := jC_of Bd hml
  obtain ⟨rfl, rfl, hH⟩ := x_enter hv
  have hC : jC p s m _ meth c cX0_placeOf 3 RX0 := hC
  have hx := hC.1.1
  have hb := hC.1.2.1
  have hown := hC.1.2.2.2.1
  have hts := hC.1.2.2.2.2
  have hl := lv_entry ([.ref (xA G (1 + bg)), .int x1]) (n := 3) (Nat.le_of_ble_eq_true rfl)
  rw [lg_entry_eq]
  generalize (lg_sl ([.ref (xA G (1 + bg)), .int x1]) ++ List.replicate (3 - (lg_sl ([.ref (xA G (1 + bg)), .int x1])).length) Slot.unset).toArray = ls at hl ⊢
  have hl : lv_has ls 3 [(0, .ref (xA G (1 + bg))), (1, .int x1)] := hl
  unfold fB_placeOf at h
  refine W_nm (fun H locs eH eL => ?_)
  have hH : xH G s (va_A (xW G σ0) s.heap.size) σ0 H locs := by rw [eH, eL]; exact hH
  show W p l e rmB_placeOf s m _ below meth c H locs 0 0 _ (F0 m 0 ls [])
  refine lv_iconst (v := 0) hx hb dX0_placeOf_0 (by decide) ?_
  refine lv_istore_n (lv' := [(2, .int (0 : Int32)), (0, .ref (xA G (1 + bg))), (1, .int x1)]) hx hb dX0_placeOf_1 rfl hl (by decide) rfl (fun ls hl => ?_)
  refine wB_placeOf_L2 hC hr hbg  ?_ 10000 x1 (0 : Int32) H locs ls  hH (lv_sub hl [1, 2, 0] rfl) h
  intro  H locs ls  hH hl h
  refine lv_ldc (v := -1000000005) hx hb hown (hts _ wkX0_79) dX0_placeOf_28 ?_
  obtain rfl := some_i1 h
  exact x_iret (v := -1000000005) hC hH hr rfl dX0_placeOf_30

def rmB_move : Room := { frames := 1, cells := 0, slots := 0, locals := 21 }
theorem hdX0_move : yX0_move.cls = RX0 ∧ yX0_move.cls ≠ "java/lang/invoke/MethodHandle" ∧ yX0_move.cls ≠ "java/lang/invoke/VarHandle" ∧ (parseMethodDescriptor yX0_move.desc).map (fun d => d.parameters.length) = some 2 := by decide +kernel

def fB_move_L27 (bg : Nat) (k55 : Int32 → Int32 → Int32 → XS → Option (XS)) : Nat → Int32 → Int32 → Int32 → Int32 → XS → Option (XS)
  | 0, _, _, _, _, _ => none
  | n + 1, x1, x2, x3, x4, σ =>
    if x2 ≤ x4 then (
      k55 x1 x2 x3 σ)
    else (
      ck (x4 + (1 : Int32)) (14) <|
      ck x4 (14) <|
      bnd (xu σ (30 + 6 * bg + 5) (x4).toNatClampNeg (xi σ (30 + 6 * bg + 5) ((x4 + (1 : Int32))).toNatClampNeg)) fun σ12 =>
      bnd (x4 + (1 : Int32)) fun v15 =>
      (fB_move_L27 bg k55 n) x1 x2 x3 v15 σ12)

set_option maxHeartbeats 4000000 in
set_option maxRecDepth 100000 in
theorem wB_move_L27 {p : Program} {l : Launch} {e : Env} {s : State} {m : MethodId} {args : Array Value} {below : List Frame} {meth : Method} {c : Code} {G : XG} {σ0 : XS} {bg : Nat} {σr : XS} (hC : jC p s m args meth c cX0_move 5 RX0) (hr : meth.sig.returnType = none) (hbg : bg < 4) {k55 : Int32 → Int32 → Int32 → XS → Option (XS)} (hk55 : ∀ (x1 : Int32) (x2 : Int32) (x3 : Int32) (σ : XS) (H : Heap) (locs : List Loc) (ls : Array Slot), xH G s (va_A (xW G σ0) s.heap.size) σ H locs → lv_has ls 5 [(0, .ref (xA G (1 + bg))), (1, .int x1), (2, .int x2), (3, .int x3)] → k55 x1 x2 x3 σ = some σr → W p l e rmB_move s m args below meth c H locs 0 0 (MQ below (xQv G σ0 s.heap.size σr) args s 0 0 (va_A (xW G σ0) s.heap.size)) (F0 m 55 ls [])) : ∀ (n : Nat) (x1 : Int32) (x2 : Int32) (x3 : Int32) (x4 : Int32) (σ : XS) (H : Heap) (locs : List Loc) (ls : Array Slot), xH G s (va_A (xW G σ0) s.heap.size) σ H locs → lv_has ls 5 [(0, .ref (xA G (1 + bg))), (1, .int x1), (2, .int x2), (3, .int x3), (4, .int x4)] → fB_move_L27 bg k55 n x1 x2 x3 x4 σ = some σr → W p l e rmB_move s m args below meth c H locs 0 0 (MQ below (xQv G σ0 s.heap.size σr) args s 0 0 (va_A (xW G σ0) s.heap.size)) (F0 m 27 ls []) := by
  have hx := hC.1.1
  have hb := hC.1.2.1
  have hown := hC.1.2.2.2.1
  have hts := hC.1.2.2.2.2
  intro n
  induction n with
  | zero =>
    intro x1 x2 x3 x4 σ H locs ls  hH hl h
    rw [fB_move_L27] at h
    cases h
  | succ n ih =>
    intro x1 x2 x3 x4 σ H locs ls  hH hl h
    rw [fB_move_L27] at h
    refine lv_iload hx hb dX0_move_27 (lv_at hl 4 rfl) ?_
    refine lv_iload_n hx hb dX0_move_29 rfl (lv_at hl 2 rfl) ?_
    refine lv_icmp_ge (tgt := 55) hx hb dX0_move_30 (by decide) (fun c10 => ?_) (fun c10 => ?_)
    · have h := ite_t c10 h
      exact hk55 x1 x2 x3 σ H locs ls  hH (lv_sub hl [0, 1, 2, 3] rfl) h
    · have h := ite_f c10 h
      refine lv_aload_n hx hb dX0_move_33 rfl (lv_at hl 0 rfl) ?_
      refine x_get (C := RX0) (T := TX0) (N := 12) (v := .ref (xA G (100 + (30 + 6 * bg + 5)))) hC hH (xe_B G σ hbg) rfl wyX0 6 (by decide) wfX0_31 rfl rfl dX0_move_34 ?_
      refine lv_iload hx hb dX0_move_37 (lv_at hl 4 rfl) ?_
      refine lv_aload_n hx hb dX0_move_39 rfl (lv_at hl 0 rfl) ?_
      refine x_get (C := RX0) (T := TX0) (N := 12) (v := .ref (xA G (100 + (30 + 6 * bg + 5)))) hC hH (xe_B G σ hbg) rfl wyX0 6 (by decide) wfX0_31 rfl rfl dX0_move_40 ?_
      refine lv_iload hx hb dX0_move_43 (lv_at hl 4 rfl) ?_
      refine lv_iconst (v := 1) hx hb dX0_move_45 (by decide) ?_
      refine lv_iadd hx hb dX0_move_46 ?_
      obtain ⟨i11, h⟩ := ck_some h
      refine x_ald hC hH (d := (30 + 6 * bg + 5)) (xIs_b hbg (by decide)) (xLen_b hbg (by decide)) rfl i11 dX0_move_47 ?_
      obtain ⟨i14, h⟩ := ck_some h
      obtain ⟨σ12, e13, h⟩ := bnd_some h
      refine x_ast hC hH (d := (30 + 6 * bg + 5)) (xIs_b hbg (by decide)) (xLen_b hbg (by decide)) rfl e13 i14 dX0_move_48 (fun H locs hH => ?_)
      obtain ⟨v15, e16, h⟩ := bnd_some h
      refine lv_iinc (v := v15) (lv' := [(4, .int v15), (0, .ref (xA G (1 + bg))), (1, .int x1), (2, .int x2), (3, .int x3)]) hx hb dX0_move_49 hl (k := 4) rfl (by rw [e16]; rfl) (by decide) rfl (fun ls hl => ?_)
      refine lv_goto (tgt := 27) hx hb dX0_move_52 (by decide) ?_
      exact ih x1 x2 x3 v15 σ12 H locs ls  hH (lv_sub hl [1, 2, 3, 4, 0] rfl) h

def fB_move_L58 (bg : Nat) (k86 : Int32 → Int32 → XS → Option (XS)) : Nat → Int32 → Int32 → Int32 → XS → Option (XS)
  | 0, _, _, _, _ => none
  | n + 1, x2, x3, x4, σ =>
    if x4 ≤ x2 then (
      k86 x2 x3 σ)
    else (
      ck (x4 - (1 : Int32)) (14) <|
      ck x4 (14) <|
      bnd (xu σ (30 + 6 * bg + 5) (x4).toNatClampNeg (xi σ (30 + 6 * bg + 5) ((x4 - (1 : Int32))).toNatClampNeg)) fun σ19 =>
      bnd (x4 + (-1 : Int32)) fun v22 =>
      (fB_move_L58 bg k86 n) x2 x3 v22 σ19)

set_option maxHeartbeats 4000000 in
set_option maxRecDepth 100000 in
theorem wB_move_L58 {p : Program} {l : Launch} {e : Env} {s : State} {m : MethodId} {args : Array Value} {below : List Frame} {meth : Method} {c : Code} {G : XG} {σ0 : XS} {bg : Nat} {σr : XS} (hC : jC p s m args meth c cX0_move 5 RX0) (hr : meth.sig.returnType = none) (hbg : bg < 4) {k86 : Int32 → Int32 → XS → Option (XS)} (hk86 : ∀ (x2 : Int32) (x3 : Int32) (σ : XS) (H : Heap) (locs : List Loc) (ls : Array Slot), xH G s (va_A (xW G σ0) s.heap.size) σ H locs → lv_has ls 5 [(0, .ref (xA G (1 + bg))), (2, .int x2), (3, .int x3)] → k86 x2 x3 σ = some σr → W p l e rmB_move s m args below meth c H locs 0 0 (MQ below (xQv G σ0 s.heap.size σr) args s 0 0 (va_A (xW G σ0) s.heap.size)) (F0 m 86 ls [])) : ∀ (n : Nat) (x2 : Int32) (x3 : Int32) (x4 : Int32) (σ : XS) (H : Heap) (locs : List Loc) (ls : Array Slot), xH G s (va_A (xW G σ0) s.heap.size) σ H locs → lv_has ls 5 [(0, .ref (xA G (1 + bg))), (2, .int x2), (3, .int x3), (4, .int x4)] → fB_move_L58 bg k86 n x2 x3 x4 σ = some σr → W p l e rmB_move s m args below meth c H locs 0 0 (MQ below (xQv G σ0 s.heap.size σr) args s 0 0 (va_A (xW G σ0) s.heap.size)) (F0 m 58 ls []) := by
  have hx := hC.1.1
  have hb := hC.1.2.1
  have hown := hC.1.2.2.2.1
  have hts := hC.1.2.2.2.2
  intro n
  induction n with
  | zero =>
    intro x2 x3 x4 σ H locs ls  hH hl h
    rw [fB_move_L58] at h
    cases h
  | succ n ih =>
    intro x2 x3 x4 σ H locs ls  hH hl h
    rw [fB_move_L58] at h
    refine lv_iload hx hb dX0_move_58 (lv_at hl 3 rfl) ?_
    refine lv_iload_n hx hb dX0_move_60 rfl (lv_at hl 1 rfl) ?_
    refine lv_icmp_le (tgt := 86) hx hb dX0_move_61 (by decide) (fun c17 => ?_) (fun c17 => ?_)
    · have h := ite_t c17 h
      exact hk86 x2 x3 σ H locs ls  hH (lv_sub hl [0, 1, 2] rfl) h
    · have h := ite_f c17 h
      refine lv_aload_n hx hb dX0_move_64 rfl (lv_at hl 0 rfl) ?_
      refine x_get (C := RX0) (T := TX0) (N := 12) (v := .ref (xA G (100 + (30 + 6 * bg + 5)))) hC hH (xe_B G σ hbg) rfl wyX0 6 (by decide) wfX0_31 rfl rfl dX0_move_65 ?_
      refine lv_iload hx hb dX0_move_68 (lv_at hl 3 rfl) ?_
      refine lv_aload_n hx hb dX0_move_70 rfl (lv_at hl 0 rfl) ?_
      refine x_get (C := RX0) (T := TX0) (N := 12) (v := .ref (xA G (100 + (30 + 6 * bg + 5)))) hC hH (xe_B G σ hbg) rfl wyX0 6 (by decide) wfX0_31 rfl rfl dX0_move_71 ?_
      refine lv_iload hx hb dX0_move_74 (lv_at hl 3 rfl) ?_
      refine lv_iconst (v := 1) hx hb dX0_move_76 (by decide) ?_
      refine lv_isub hx hb dX0_move_77 ?_
      obtain ⟨i18, h⟩ := ck_some h
      refine x_ald hC hH (d := (30 + 6 * bg + 5)) (xIs_b hbg (by decide)) (xLen_b hbg (by decide)) rfl i18 dX0_move_78 ?_
      obtain ⟨i21, h⟩ := ck_some h
      obtain ⟨σ19, e20, h⟩ := bnd_some h
      refine x_ast hC hH (d := (30 + 6 * bg + 5)) (xIs_b hbg (by decide)) (xLen_b hbg (by decide)) rfl e20 i21 dX0_move_79 (fun H locs hH => ?_)
      obtain ⟨v22, e23, h⟩ := bnd_some h
      refine lv_iinc (v := v22) (lv' := [(4, .int v22), (0, .ref (xA G (1 + bg))), (2, .int x2), (3, .int x3)]) hx hb dX0_move_80 hl (k := 3) rfl (by rw [e23]; rfl) (by decide) rfl (fun ls hl => ?_)
      refine lv_goto (tgt := 58) hx hb dX0_move_83 (by decide) ?_
      exact ih x2 x3 v22 σ19 H locs ls  hH (lv_sub hl [1, 2, 3, 0] rfl) h

def fB_move (σ0 : XS) (bg : Nat) (x1 : Int32) (x2 : Int32) : Option (XS) :=
  ob (fB_has σ0 bg x1) fun r2 =>
  if r2 = 0 then (
    some σ0)
  else (
    ob (fB_has σ0 bg x2) fun r5 =>
    if r5 = 0 then (
      some σ0)
    else (
      ck x1 (14) <|
      bnd (xi σ0 (30 + 6 * bg + 5) (x1).toNatClampNeg) fun v8 =>
      fB_move_L27 bg (fun (x1 : Int32) (x2 : Int32) (x3 : Int32) (σ : XS) => fB_move_L58 bg (fun (x2 : Int32) (x3 : Int32) (σ : XS) => ck x2 (14) <|
          bnd (xu σ (30 + 6 * bg + 5) (x2).toNatClampNeg x3) fun σ24 =>
          some σ24) 10000 x2 x3 x1 σ) 10000 x1 x2 v8 x1 σ0))

set_option maxHeartbeats 4000000 in
set_option maxRecDepth 100000 in
theorem cB_move (l : Launch) (G : XG) (σ0 : XS) (bg : Nat) (x1 : Int32) (x2 : Int32) (hbg : bg < 4) {σr : XS} (h : fB_move σ0 bg x1 x2 = some σr) : ∀ sz, Met l yX0_move (Cond.code yX0_move cX0_move 5 none :: Tw) rmB_move (xP G σ0 sz [.ref (xA G (1 + bg)), .int x1, .int x2]) (xQv G σ0 sz σr) 0 0 (va_A (xW G σ0) sz) := by
  intro sz
  refine Met.ofW (cc := cX0_move) (maxL := 5) (ret := (none)) (by decide) rfl ?_
  intro p e s m args below meth c s₁ Bd hml hv
  obtain ⟨hC, hr⟩ := jC_of Bd hml
  obtain ⟨rfl, rfl, hH⟩ := x_enter hv
  have hC : jC p s m _ meth c cX0_move 5 RX0 := hC
  have hx := hC.1.1
  have hb := hC.1.2.1
  have hown := hC.1.2.2.2.1
  have hts := hC.1.2.2.2.2
  have hl := lv_entry ([.ref (xA G (1 + bg)), .int x1, .int x2]) (n := 5) (Nat.le_of_ble_eq_true rfl)
  rw [lg_entry_eq]
  generalize (lg_sl ([.ref (xA G (1 + bg)), .int x1, .int x2]) ++ List.replicate (5 - (lg_sl ([.ref (xA G (1 + bg)), .int x1, .int x2])).length) Slot.unset).toArray = ls at hl ⊢
  have hl : lv_has ls 5 [(0, .ref (xA G (1 + bg))), (1, .int x1), (2, .int x2)] := hl
  unfold fB_move at h
  refine W_nm (fun H locs eH eL => ?_)
  have hH : xH G s (va_A (xW G σ0) s.heap.size) σ0 H locs := by rw [eH, eL]; exact hH
  show W p l e rmB_move s m _ below meth c H locs 0 0 _ (F0 m 0 ls [])
  refine lv_aload_n hx hb dX0_move_0 rfl (lv_at hl 0 rfl) ?_
  refine lv_iload_n hx hb dX0_move_1 rfl (lv_at hl 1 rfl) ?_
  obtain ⟨r2, h1, h⟩ := ob_some h
  refine x_calli (vw := (RX0, TX0, 12)) (As := [.int x1]) (rest := []) (cB_has l G σ0 bg x1 hbg h1) hC hH hl (xe_B G σ0 hbg) rfl (cwV 1 hts (gV wmX0_80 wvX0_has) rfl rfl rfl hdX0_has ⟨Nat.le_of_ble_eq_true rfl, Nat.le_of_ble_eq_true rfl⟩) rfl rfl (Nat.le_of_ble_eq_true rfl) ⟨Nat.zero_le _, Nat.zero_le _⟩ dX0_move_2 (fun H locs hH => ?_)
  refine lv_if_eq (tgt := 16) hx hb dX0_move_5 (by decide) (fun c3 => ?_) (fun c3 => ?_)
  · have h := ite_t c3 h
    obtain rfl := some_i1 h
    exact x_vret hC hH hr dX0_move_16
  · have h := ite_f c3 h
    refine lv_aload_n hx hb dX0_move_8 rfl (lv_at hl 0 rfl) ?_
    refine lv_iload_n hx hb dX0_move_9 rfl (lv_at hl 2 rfl) ?_
    obtain ⟨r5, h4, h⟩ := ob_some h
    refine x_calli (vw := (RX0, TX0, 12)) (As := [.int x2]) (rest := []) (cB_has l G σ0 bg x2 hbg h4) hC hH hl (xe_B G σ0 hbg) rfl (cwV 1 hts (gV wmX0_80 wvX0_has) rfl rfl rfl hdX0_has ⟨Nat.le_of_ble_eq_true rfl, Nat.le_of_ble_eq_true rfl⟩) rfl rfl (Nat.le_of_ble_eq_true rfl) ⟨Nat.zero_le _, Nat.zero_le _⟩ dX0_move_10 (fun H locs hH => ?_)
    refine lv_if_ne (tgt := 17) hx hb dX0_move_13 (by decide) (fun c6 => ?_) (fun c6 => ?_)
    · have h := ite_f c6 h
      refine lv_aload_n hx hb dX0_move_17 rfl (lv_at hl 0 rfl) ?_
      refine x_get (C := RX0) (T := TX0) (N := 12) (v := .ref (xA G (100 + (30 + 6 * bg + 5)))) hC hH (xe_B G σ0 hbg) rfl wyX0 6 (by decide) wfX0_31 rfl rfl dX0_move_18 ?_
      refine lv_iload_n hx hb dX0_move_21 rfl (lv_at hl 1 rfl) ?_
      obtain ⟨i7, h⟩ := ck_some h
      refine x_ald hC hH (d := (30 + 6 * bg + 5)) (xIs_b hbg (by decide)) (xLen_b hbg (by decide)) rfl i7 dX0_move_22 ?_
      obtain ⟨v8, e9, h⟩ := bnd_some h
      refine lv_tope e9 ?_
      refine lv_istore_n (lv' := [(3, .int v8), (0, .ref (xA G (1 + bg))), (1, .int x1), (2, .int x2)]) hx hb dX0_move_23 rfl hl (by decide) rfl (fun ls hl => ?_)
      refine lv_iload_n hx hb dX0_move_24 rfl (lv_at hl 2 rfl) ?_
      refine lv_istore (lv' := [(4, .int x1), (3, .int v8), (0, .ref (xA G (1 + bg))), (1, .int x1), (2, .int x2)]) hx hb dX0_move_25 hl (by decide) rfl (fun ls hl => ?_)
      refine wB_move_L27 hC hr hbg  ?_ 10000 x1 x2 v8 x1 σ0 H locs ls  hH (lv_sub hl [2, 3, 4, 1, 0] rfl) h
      intro x1 x2 x3 σ H locs ls  hH hl h
      refine lv_iload_n hx hb dX0_move_55 rfl (lv_at hl 1 rfl) ?_
      refine lv_istore (lv' := [(4, .int x1), (0, .ref (xA G (1 + bg))), (1, .int x1), (2, .int x2), (3, .int x3)]) hx hb dX0_move_56 hl (by decide) rfl (fun ls hl => ?_)
      refine wB_move_L58 hC hr hbg  ?_ 10000 x2 x3 x1 σ H locs ls  hH (lv_sub hl [1, 3, 4, 0] rfl) h
      intro x2 x3 σ H locs ls  hH hl h
      refine lv_aload_n hx hb dX0_move_86 rfl (lv_at hl 0 rfl) ?_
      refine x_get (C := RX0) (T := TX0) (N := 12) (v := .ref (xA G (100 + (30 + 6 * bg + 5)))) hC hH (xe_B G σ hbg) rfl wyX0 6 (by decide) wfX0_31 rfl rfl dX0_move_87 ?_
      refine lv_iload_n hx hb dX0_move_90 rfl (lv_at hl 1 rfl) ?_
      refine lv_iload_n hx hb dX0_move_91 rfl (lv_at hl 2 rfl) ?_
      obtain ⟨i26, h⟩ := ck_some h
      obtain ⟨σ24, e25, h⟩ := bnd_some h
      refine x_ast hC hH (d := (30 + 6 * bg + 5)) (xIs_b hbg (by decide)) (xLen_b hbg (by decide)) rfl e25 i26 dX0_move_92 (fun H locs hH => ?_)
      obtain rfl := some_i1 h
      exact x_vret hC hH hr dX0_move_93
    · have h := ite_t c6 h
      obtain rfl := some_i1 h
      exact x_vret hC hH hr dX0_move_16

def rmB_swap : Room := { frames := 0, cells := 0, slots := 0, locals := 0 }
theorem hdX0_swap : yX0_swap.cls = RX0 ∧ yX0_swap.cls ≠ "java/lang/invoke/MethodHandle" ∧ yX0_swap.cls ≠ "java/lang/invoke/VarHandle" ∧ (parseMethodDescriptor yX0_swap.desc).map (fun d => d.parameters.length) = some 2 := by decide +kernel

def fB_swap (σ0 : XS) (bg : Nat) (x1 : Int32) (x2 : Int32) : Option (XS) :=
  ck x1 (14) <|
  bnd (xi σ0 (30 + 6 * bg + 5) (x1).toNatClampNeg) fun v2 =>
  ck x2 (14) <|
  ck x1 (14) <|
  bnd (xu σ0 (30 + 6 * bg + 5) (x1).toNatClampNeg (xi σ0 (30 + 6 * bg + 5) (x2).toNatClampNeg)) fun σ5 =>
  ck x2 (14) <|
  bnd (xu σ5 (30 + 6 * bg + 5) (x2).toNatClampNeg v2) fun σ8 =>
  some σ8

set_option maxHeartbeats 4000000 in
set_option maxRecDepth 100000 in
theorem cB_swap (l : Launch) (G : XG) (σ0 : XS) (bg : Nat) (x1 : Int32) (x2 : Int32) (hbg : bg < 4) {σr : XS} (h : fB_swap σ0 bg x1 x2 = some σr) : ∀ sz, Met l yX0_swap (Cond.code yX0_swap cX0_swap 4 none :: Tw) rmB_swap (xP G σ0 sz [.ref (xA G (1 + bg)), .int x1, .int x2]) (xQv G σ0 sz σr) 0 0 (va_A (xW G σ0) sz) := by
  intro sz
  refine Met.ofW (cc := cX0_swap) (maxL := 4) (ret := (none)) (by decide) rfl ?_
  intro p e s m args below meth c s₁ Bd hml hv
  obtain ⟨hC, hr⟩ := jC_of Bd hml
  obtain ⟨rfl, rfl, hH⟩ := x_enter hv
  have hC : jC p s m _ meth c cX0_swap 4 RX0 := hC
  have hx := hC.1.1
  have hb := hC.1.2.1
  have hown := hC.1.2.2.2.1
  have hts := hC.1.2.2.2.2
  have hl := lv_entry ([.ref (xA G (1 + bg)), .int x1, .int x2]) (n := 4) (Nat.le_of_ble_eq_true rfl)
  rw [lg_entry_eq]
  generalize (lg_sl ([.ref (xA G (1 + bg)), .int x1, .int x2]) ++ List.replicate (4 - (lg_sl ([.ref (xA G (1 + bg)), .int x1, .int x2])).length) Slot.unset).toArray = ls at hl ⊢
  have hl : lv_has ls 4 [(0, .ref (xA G (1 + bg))), (1, .int x1), (2, .int x2)] := hl
  unfold fB_swap at h
  refine W_nm (fun H locs eH eL => ?_)
  have hH : xH G s (va_A (xW G σ0) s.heap.size) σ0 H locs := by rw [eH, eL]; exact hH
  show W p l e rmB_swap s m _ below meth c H locs 0 0 _ (F0 m 0 ls [])
  refine lv_aload_n hx hb dX0_swap_0 rfl (lv_at hl 0 rfl) ?_
  refine x_get (C := RX0) (T := TX0) (N := 12) (v := .ref (xA G (100 + (30 + 6 * bg + 5)))) hC hH (xe_B G σ0 hbg) rfl wyX0 6 (by decide) wfX0_31 rfl rfl dX0_swap_1 ?_
  refine lv_iload_n hx hb dX0_swap_4 rfl (lv_at hl 1 rfl) ?_
  obtain ⟨i1, h⟩ := ck_some h
  refine x_ald hC hH (d := (30 + 6 * bg + 5)) (xIs_b hbg (by decide)) (xLen_b hbg (by decide)) rfl i1 dX0_swap_5 ?_
  obtain ⟨v2, e3, h⟩ := bnd_some h
  refine lv_tope e3 ?_
  refine lv_istore_n (lv' := [(3, .int v2), (0, .ref (xA G (1 + bg))), (1, .int x1), (2, .int x2)]) hx hb dX0_swap_6 rfl hl (by decide) rfl (fun ls hl => ?_)
  refine lv_aload_n hx hb dX0_swap_7 rfl (lv_at hl 1 rfl) ?_
  refine x_get (C := RX0) (T := TX0) (N := 12) (v := .ref (xA G (100 + (30 + 6 * bg + 5)))) hC hH (xe_B G σ0 hbg) rfl wyX0 6 (by decide) wfX0_31 rfl rfl dX0_swap_8 ?_
  refine lv_iload_n hx hb dX0_swap_11 rfl (lv_at hl 2 rfl) ?_
  refine lv_aload_n hx hb dX0_swap_12 rfl (lv_at hl 1 rfl) ?_
  refine x_get (C := RX0) (T := TX0) (N := 12) (v := .ref (xA G (100 + (30 + 6 * bg + 5)))) hC hH (xe_B G σ0 hbg) rfl wyX0 6 (by decide) wfX0_31 rfl rfl dX0_swap_13 ?_
  refine lv_iload_n hx hb dX0_swap_16 rfl (lv_at hl 3 rfl) ?_
  obtain ⟨i4, h⟩ := ck_some h
  refine x_ald hC hH (d := (30 + 6 * bg + 5)) (xIs_b hbg (by decide)) (xLen_b hbg (by decide)) rfl i4 dX0_swap_17 ?_
  obtain ⟨i7, h⟩ := ck_some h
  obtain ⟨σ5, e6, h⟩ := bnd_some h
  refine x_ast hC hH (d := (30 + 6 * bg + 5)) (xIs_b hbg (by decide)) (xLen_b hbg (by decide)) rfl e6 i7 dX0_swap_18 (fun H locs hH => ?_)
  refine lv_aload_n hx hb dX0_swap_19 rfl (lv_at hl 1 rfl) ?_
  refine x_get (C := RX0) (T := TX0) (N := 12) (v := .ref (xA G (100 + (30 + 6 * bg + 5)))) hC hH (xe_B G σ5 hbg) rfl wyX0 6 (by decide) wfX0_31 rfl rfl dX0_swap_20 ?_
  refine lv_iload_n hx hb dX0_swap_23 rfl (lv_at hl 3 rfl) ?_
  refine lv_iload_n hx hb dX0_swap_24 rfl (lv_at hl 0 rfl) ?_
  obtain ⟨i10, h⟩ := ck_some h
  obtain ⟨σ8, e9, h⟩ := bnd_some h
  refine x_ast hC hH (d := (30 + 6 * bg + 5)) (xIs_b hbg (by decide)) (xLen_b hbg (by decide)) rfl e9 i10 dX0_swap_25 (fun H locs hH => ?_)
  obtain rfl := some_i1 h
  exact x_vret hC hH hr dX0_swap_26

def rmB_turnOver : Room := { frames := 1, cells := 0, slots := 0, locals := 23 }
theorem hdX0_turnOver : yX0_turnOver.cls = RX0 ∧ yX0_turnOver.cls ≠ "java/lang/invoke/MethodHandle" ∧ yX0_turnOver.cls ≠ "java/lang/invoke/VarHandle" ∧ (parseMethodDescriptor yX0_turnOver.desc).map (fun d => d.parameters.length) = some 0 := by decide +kernel

def fB_turnOver_L2 (bg : Nat) (k31 : XS → Option (XS)) : Nat → Int32 → XS → Option (XS)
  | 0, _, _ => none
  | n + 1, x1, σ =>
    if ((xi σ (1 + bg) 0) / (2 : Int32)) ≤ x1 then (
      k31 σ)
    else (
      ob (fB_swap σ bg x1 (((xi σ (1 + bg) 0) - (1 : Int32)) - x1)) fun σ3 =>
      bnd (x1 + (1 : Int32)) fun v4 =>
      (fB_turnOver_L2 bg k31 n) v4 σ3)

set_option maxHeartbeats 4000000 in
set_option maxRecDepth 100000 in
theorem wB_turnOver_L2 {p : Program} {l : Launch} {e : Env} {s : State} {m : MethodId} {args : Array Value} {below : List Frame} {meth : Method} {c : Code} {G : XG} {σ0 : XS} {bg : Nat} {σr : XS} (hC : jC p s m args meth c cX0_turnOver 2 RX0) (hr : meth.sig.returnType = none) (hbg : bg < 4) {k31 : XS → Option (XS)} (hk31 : ∀ (σ : XS) (H : Heap) (locs : List Loc) (ls : Array Slot), xH G s (va_A (xW G σ0) s.heap.size) σ H locs → lv_has ls 2 [] → k31 σ = some σr → W p l e rmB_turnOver s m args below meth c H locs 0 0 (MQ below (xQv G σ0 s.heap.size σr) args s 0 0 (va_A (xW G σ0) s.heap.size)) (F0 m 31 ls [])) : ∀ (n : Nat) (x1 : Int32) (σ : XS) (H : Heap) (locs : List Loc) (ls : Array Slot), xH G s (va_A (xW G σ0) s.heap.size) σ H locs → lv_has ls 2 [(0, .ref (xA G (1 + bg))), (1, .int x1)] → fB_turnOver_L2 bg k31 n x1 σ = some σr → W p l e rmB_turnOver s m args below meth c H locs 0 0 (MQ below (xQv G σ0 s.heap.size σr) args s 0 0 (va_A (xW G σ0) s.heap.size)) (F0 m 2 ls []) := by
  have hx := hC.1.1
  have hb := hC.1.2.1
  have hown := hC.1.2.2.2.1
  have hts := hC.1.2.2.2.2
  intro n
  induction n with
  | zero =>
    intro x1 σ H locs ls  hH hl h
    rw [fB_turnOver_L2] at h
    cases h
  | succ n ih =>
    intro x1 σ H locs ls  hH hl h
    rw [fB_turnOver_L2] at h
    refine lv_iload_n hx hb dX0_turnOver_2 rfl (lv_at hl 1 rfl) ?_
    refine lv_aload_n hx hb dX0_turnOver_3 rfl (lv_at hl 0 rfl) ?_
    refine x_get (C := RX0) (T := TX0) (N := 12) (v := .int (xi σ (1 + bg) 0)) hC hH (xe_B G σ hbg) rfl wyX0 0 (by decide) wfX0_9 rfl rfl dX0_turnOver_4 ?_
    refine lv_iconst (v := 2) hx hb dX0_turnOver_7 (by decide) ?_
    refine lv_idiv hx hb dX0_turnOver_8 (by decide) ?_
    refine lv_icmp_ge (tgt := 31) hx hb dX0_turnOver_9 (by decide) (fun c1 => ?_) (fun c1 => ?_)
    · have h := ite_t c1 h
      exact hk31 σ H locs ls  hH (lv_sub hl [] rfl) h
    · have h := ite_f c1 h
      refine lv_aload_n hx hb dX0_turnOver_12 rfl (lv_at hl 0 rfl) ?_
      refine lv_iload_n hx hb dX0_turnOver_13 rfl (lv_at hl 1 rfl) ?_
      refine lv_aload_n hx hb dX0_turnOver_14 rfl (lv_at hl 0 rfl) ?_
      refine x_get (C := RX0) (T := TX0) (N := 12) (v := .int (xi σ (1 + bg) 0)) hC hH (xe_B G σ hbg) rfl wyX0 0 (by decide) wfX0_9 rfl rfl dX0_turnOver_15 ?_
      refine lv_iconst (v := 1) hx hb dX0_turnOver_18 (by decide) ?_
      refine lv_isub hx hb dX0_turnOver_19 ?_
      refine lv_iload_n hx hb dX0_turnOver_20 rfl (lv_at hl 1 rfl) ?_
      refine lv_isub hx hb dX0_turnOver_21 ?_
      obtain ⟨σ3, h2, h⟩ := ob_some h
      refine x_callv (vw := (RX0, TX0, 12)) (As := [.int x1, .int (((xi σ (1 + bg) 0) - (1 : Int32)) - x1)]) (rest := []) (cB_swap l G σ bg x1 (((xi σ (1 + bg) 0) - (1 : Int32)) - x1) hbg h2) hC hH hl (xe_B G σ hbg) rfl (cwV 2 hts (gV wmX0_84 wvX0_swap) rfl rfl rfl hdX0_swap ⟨Nat.le_of_ble_eq_true rfl, Nat.le_of_ble_eq_true rfl⟩) rfl rfl (Nat.le_of_ble_eq_true rfl) ⟨Nat.zero_le _, Nat.zero_le _⟩ dX0_turnOver_22 (fun H locs hH => ?_)
      obtain ⟨v4, e5, h⟩ := bnd_some h
      refine lv_iinc (v := v4) (lv' := [(1, .int v4), (0, .ref (xA G (1 + bg)))]) hx hb dX0_turnOver_25 hl (k := 1) rfl (by rw [e5]; rfl) (by decide) rfl (fun ls hl => ?_)
      refine lv_goto (tgt := 2) hx hb dX0_turnOver_28 (by decide) ?_
      exact ih v4 σ3 H locs ls  hH (lv_sub hl [1, 0] rfl) h

def fB_turnOver (σ0 : XS) (bg : Nat) : Option (XS) :=
  fB_turnOver_L2 bg (fun (σ : XS) => some σ) 10000 (0 : Int32) σ0

set_option maxHeartbeats 4000000 in
set_option maxRecDepth 100000 in
theorem cB_turnOver (l : Launch) (G : XG) (σ0 : XS) (bg : Nat) (hbg : bg < 4) {σr : XS} (h : fB_turnOver σ0 bg = some σr) : ∀ sz, Met l yX0_turnOver (Cond.code yX0_turnOver cX0_turnOver 2 none :: Tw) rmB_turnOver (xP G σ0 sz [.ref (xA G (1 + bg))]) (xQv G σ0 sz σr) 0 0 (va_A (xW G σ0) sz) := by
  intro sz
  refine Met.ofW (cc := cX0_turnOver) (maxL := 2) (ret := (none)) (by decide) rfl ?_
  intro p e s m args below meth c s₁ Bd hml hv
  obtain ⟨hC, hr⟩ := jC_of Bd hml
  obtain ⟨rfl, rfl, hH⟩ := x_enter hv
  have hC : jC p s m _ meth c cX0_turnOver 2 RX0 := hC
  have hx := hC.1.1
  have hb := hC.1.2.1
  have hown := hC.1.2.2.2.1
  have hts := hC.1.2.2.2.2
  have hl := lv_entry ([.ref (xA G (1 + bg))]) (n := 2) (Nat.le_of_ble_eq_true rfl)
  rw [lg_entry_eq]
  generalize (lg_sl ([.ref (xA G (1 + bg))]) ++ List.replicate (2 - (lg_sl ([.ref (xA G (1 + bg))])).length) Slot.unset).toArray = ls at hl ⊢
  have hl : lv_has ls 2 [(0, .ref (xA G (1 + bg)))] := hl
  unfold fB_turnOver at h
  refine W_nm (fun H locs eH eL => ?_)
  have hH : xH G s (va_A (xW G σ0) s.heap.size) σ0 H locs := by rw [eH, eL]; exact hH
  show W p l e rmB_turnOver s m _ below meth c H locs 0 0 _ (F0 m 0 ls [])
  refine lv_iconst (v := 0) hx hb dX0_turnOver_0 (by decide) ?_
  refine lv_istore_n (lv' := [(1, .int (0 : Int32)), (0, .ref (xA G (1 + bg)))]) hx hb dX0_turnOver_1 rfl hl (by decide) rfl (fun ls hl => ?_)
  refine wB_turnOver_L2 hC hr hbg  ?_ 10000 (0 : Int32) σ0 H locs ls  hH (lv_sub hl [1, 0] rfl) h
  intro σ H locs ls  hH hl h
  obtain rfl := some_i1 h
  exact x_vret hC hH hr dX0_turnOver_31

def rmB_draw : Room := { frames := 0, cells := 0, slots := 0, locals := 0 }
theorem hdX0_draw : yX0_draw.cls = RX0 ∧ yX0_draw.cls ≠ "java/lang/invoke/MethodHandle" ∧ yX0_draw.cls ≠ "java/lang/invoke/VarHandle" ∧ (parseMethodDescriptor yX0_draw.desc).map (fun d => d.parameters.length) = some 0 := by decide +kernel

def fB_draw (σ0 : XS) (bg : Nat) : Option (Int32 × XS) :=
  bnd (xu σ0 (1 + bg) 10 (((xi σ0 (1 + bg) 10) * (1103515245 : Int32)) + (12345 : Int32))) fun σ1 =>
  some ((((xi σ1 (1 + bg) 10)).toUInt32 >>> (((8 : Int32)).toUInt32 &&& Int32.toUInt32 31)).toInt32, σ1)

set_option maxHeartbeats 4000000 in
set_option maxRecDepth 100000 in
theorem cB_draw (l : Launch) (G : XG) (σ0 : XS) (bg : Nat) (hbg : bg < 4) {r : Int32} {σr : XS} (h : fB_draw σ0 bg = some (r, σr)) : ∀ sz, Met l yX0_draw (Cond.code yX0_draw cX0_draw 1 (some .int) :: Tw) rmB_draw (xP G σ0 sz [.ref (xA G (1 + bg))]) (xQi G σ0 sz σr r) 0 0 (va_A (xW G σ0) sz) := by
  intro sz
  refine Met.ofW (cc := cX0_draw) (maxL := 1) (ret := (some .int)) (by decide) rfl ?_
  intro p e s m args below meth c s₁ Bd hml hv
  obtain ⟨hC, hr⟩ := jC_of Bd hml
  obtain ⟨rfl, rfl, hH⟩ := x_enter hv
  have hC : jC p s m _ meth c cX0_draw 1 RX0 := hC
  have hx := hC.1.1
  have hb := hC.1.2.1
  have hown := hC.1.2.2.2.1
  have hts := hC.1.2.2.2.2
  have hl := lv_entry ([.ref (xA G (1 + bg))]) (n := 1) (Nat.le_of_ble_eq_true rfl)
  rw [lg_entry_eq]
  generalize (lg_sl ([.ref (xA G (1 + bg))]) ++ List.replicate (1 - (lg_sl ([.ref (xA G (1 + bg))])).length) Slot.unset).toArray = ls at hl ⊢
  have hl : lv_has ls 1 [(0, .ref (xA G (1 + bg)))] := hl
  unfold fB_draw at h
  refine W_nm (fun H locs eH eL => ?_)
  have hH : xH G s (va_A (xW G σ0) s.heap.size) σ0 H locs := by rw [eH, eL]; exact hH
  show W p l e rmB_draw s m _ below meth c H locs 0 0 _ (F0 m 0 ls [])
  refine lv_aload_n hx hb dX0_draw_0 rfl (lv_at hl 0 rfl) ?_
  refine lv_aload_n hx hb dX0_draw_1 rfl (lv_at hl 0 rfl) ?_
  refine x_get (C := RX0) (T := TX0) (N := 12) (v := .int (xi σ0 (1 + bg) 10)) hC hH (xe_B G σ0 hbg) rfl wyX0 10 (by decide) wfX0_43 rfl rfl dX0_draw_2 ?_
  refine lv_ldc (v := 1103515245) hx hb hown (hts _ wkX0_88) dX0_draw_5 ?_
  refine lv_imul hx hb dX0_draw_7 ?_
  refine lv_sipush (v := 12345) hx hb dX0_draw_8 (by decide) ?_
  refine lv_iadd hx hb dX0_draw_11 ?_
  obtain ⟨σ1, e2, h⟩ := bnd_some h
  refine x_put (C := RX0) (T := TX0) (N := 12) (ty := .int) (v := .int (((xi σ0 (1 + bg) 10) * (1103515245 : Int32)) + (12345 : Int32))) hC hH (xe_B G σ0 hbg) rfl wyX0 tyX0_ok nmX0 10 (by decide) wfX0_43 rfl rfl (by decide +kernel) rfl rfl (Nat.le_of_ble_eq_true rfl) e2 (xs_B_10 G σ0 hbg _) dX0_draw_12 (fun H locs hH => ?_)
  refine lv_aload_n hx hb dX0_draw_15 rfl (lv_at hl 0 rfl) ?_
  refine x_get (C := RX0) (T := TX0) (N := 12) (v := .int (xi σ1 (1 + bg) 10)) hC hH (xe_B G σ1 hbg) rfl wyX0 10 (by decide) wfX0_43 rfl rfl dX0_draw_16 ?_
  refine lv_bipush (v := 8) hx hb dX0_draw_19 (by decide) ?_
  refine t_iushr hx hb dX0_draw_21 rfl ?_
  obtain ⟨rfl, rfl⟩ := some_i2 h
  exact x_iret hC hH hr rfl dX0_draw_22

def rmK_grips : Room := { frames := 0, cells := 0, slots := 0, locals := 0 }
theorem hdX1_grips : yX1_grips.cls ≠ "java/lang/invoke/MethodHandle" ∧ yX1_grips.cls ≠ "java/lang/invoke/VarHandle" ∧ (parseMethodDescriptor yX1_grips.desc).map (fun d => d.parameters.length) = some 1 := by decide +kernel

def fK_grips (σ0 : XS) (x0 : Int32) : Option (Int32) :=
  bnd ((2 : Int32) + (8 : Int32)) fun v1 =>
  if x0 = (1 : Int32) then (
    some (0 : Int32))
  else if x0 = (2 : Int32) then (
    some v1)
  else if x0 = (3 : Int32) then (
    some ((0 : Int32) + (4 : Int32)))
  else if x0 = (4 : Int32) then (
    some ((2 : Int32) * v1))
  else if x0 = (5 : Int32) then (
    some ((2 : Int32) - (1 : Int32)))
  else (
    some (2 : Int32))

set_option maxHeartbeats 4000000 in
set_option maxRecDepth 100000 in
theorem cK_grips (l : Launch) (G : XG) (σ0 : XS) (x0 : Int32) {r : Int32} (h : fK_grips σ0 x0 = some r) : ∀ sz, Met l yX1_grips (Cond.code yX1_grips cX1_grips 4 (some .int) :: Tw) rmK_grips (xP G σ0 sz [.int x0]) (xQi G σ0 sz σ0 r) 0 0 (va_A (xW G σ0) sz) := by
  intro sz
  refine Met.ofW (cc := cX1_grips) (maxL := 4) (ret := (some .int)) (by decide) rfl ?_
  intro p e s m args below meth c s₁ Bd hml hv
  obtain ⟨hC, hr⟩ := jC_of Bd hml
  obtain ⟨rfl, rfl, hH⟩ := x_enter hv
  have hC : jC p s m _ meth c cX1_grips 4 RX1 := hC
  have hx := hC.1.1
  have hb := hC.1.2.1
  have hown := hC.1.2.2.2.1
  have hts := hC.1.2.2.2.2
  have hl := lv_entry ([.int x0]) (n := 4) (Nat.le_of_ble_eq_true rfl)
  rw [lg_entry_eq]
  generalize (lg_sl ([.int x0]) ++ List.replicate (4 - (lg_sl ([.int x0])).length) Slot.unset).toArray = ls at hl ⊢
  have hl : lv_has ls 4 [(0, .int x0)] := hl
  unfold fK_grips at h
  refine W_nm (fun H locs eH eL => ?_)
  have hH : xH G s (va_A (xW G σ0) s.heap.size) σ0 H locs := by rw [eH, eL]; exact hH
  show W p l e rmK_grips s m _ below meth c H locs 0 0 _ (F0 m 0 ls [])
  refine lv_iconst (v := 2) hx hb dX1_grips_0 (by decide) ?_
  refine lv_istore_n (lv' := [(1, .int (2 : Int32)), (0, .int x0)]) hx hb dX1_grips_1 rfl hl (by decide) rfl (fun ls hl => ?_)
  refine lv_iconst (v := 0) hx hb dX1_grips_2 (by decide) ?_
  refine lv_istore_n (lv' := [(2, .int (0 : Int32)), (1, .int (2 : Int32)), (0, .int x0)]) hx hb dX1_grips_3 rfl hl (by decide) rfl (fun ls hl => ?_)
  refine lv_iload_n hx hb dX1_grips_4 rfl (lv_at hl 1 rfl) ?_
  refine lv_bipush (v := 8) hx hb dX1_grips_5 (by decide) ?_
  refine lv_iadd hx hb dX1_grips_7 ?_
  obtain ⟨v1, e2, h⟩ := bnd_some h
  refine lv_tope e2 ?_
  refine lv_istore_n (lv' := [(3, .int v1), (2, .int (0 : Int32)), (1, .int (2 : Int32)), (0, .int x0)]) hx hb dX1_grips_8 rfl hl (by decide) rfl (fun ls hl => ?_)
  refine lv_iload_n hx hb dX1_grips_9 rfl (lv_at hl 3 rfl) ?_
  by_cases c3 : x0 = (1 : Int32)
  · have h := ite_t c3 h
    refine lv_tsw (tgt := 44) (off := 34) hx hb (1) c3 dX1_grips_10 (by decide) (by decide) (by decide) (by decide) ?_
    refine lv_iload_n hx hb dX1_grips_44 rfl (lv_at hl 1 rfl) ?_
    obtain rfl := some_i1 h
    exact x_iret (v := 0) hC hH hr rfl dX1_grips_45
  · have h := ite_f c3 h
    by_cases c4 : x0 = (2 : Int32)
    · have h := ite_t c4 h
      refine lv_tsw (tgt := 50) (off := 40) hx hb (2) c4 dX1_grips_10 (by decide) (by decide) (by decide) (by decide) ?_
      refine lv_iload_n hx hb dX1_grips_50 rfl (lv_at hl 0 rfl) ?_
      obtain rfl := some_i1 h
      exact x_iret hC hH hr rfl dX1_grips_51
    · have h := ite_f c4 h
      by_cases c5 : x0 = (3 : Int32)
      · have h := ite_t c5 h
        refine lv_tsw (tgt := 46) (off := 36) hx hb (3) c5 dX1_grips_10 (by decide) (by decide) (by decide) (by decide) ?_
        refine lv_iload_n hx hb dX1_grips_46 rfl (lv_at hl 1 rfl) ?_
        refine lv_iconst (v := 4) hx hb dX1_grips_47 (by decide) ?_
        refine lv_iadd hx hb dX1_grips_48 ?_
        obtain rfl := some_i1 h
        exact x_iret hC hH hr rfl dX1_grips_49
      · have h := ite_f c5 h
        by_cases c6 : x0 = (4 : Int32)
        · have h := ite_t c6 h
          refine lv_tsw (tgt := 52) (off := 42) hx hb (4) c6 dX1_grips_10 (by decide) (by decide) (by decide) (by decide) ?_
          refine lv_iconst (v := 2) hx hb dX1_grips_52 (by decide) ?_
          refine lv_iload_n hx hb dX1_grips_53 rfl (lv_at hl 0 rfl) ?_
          refine lv_imul hx hb dX1_grips_54 ?_
          obtain rfl := some_i1 h
          exact x_iret hC hH hr rfl dX1_grips_55
        · have h := ite_f c6 h
          by_cases c7 : x0 = (5 : Int32)
          · have h := ite_t c7 h
            refine lv_tsw (tgt := 56) (off := 46) hx hb (5) c7 dX1_grips_10 (by decide) (by decide) (by decide) (by decide) ?_
            refine lv_iload_n hx hb dX1_grips_56 rfl (lv_at hl 2 rfl) ?_
            refine lv_iconst (v := 1) hx hb dX1_grips_57 (by decide) ?_
            refine lv_isub hx hb dX1_grips_58 ?_
            obtain rfl := some_i1 h
            exact x_iret hC hH hr rfl dX1_grips_59
          · have h := ite_f c7 h
            refine lv_tswd (tgt := 60) hx hb [1, 2, 3, 4, 5] (by simp only [List.mem_cons, List.not_mem_nil, or_false]; intro z hz; rcases hz with rfl | rfl | rfl | rfl | rfl <;> first | exact i32ne c3 (by decide) | exact i32ne c4 (by decide) | exact i32ne c5 (by decide) | exact i32ne c6 (by decide) | exact i32ne c7 (by decide)) dX1_grips_10 (by decide) (by decide) (by decide) ?_
            refine lv_iload_n hx hb dX1_grips_60 rfl (lv_at hl 2 rfl) ?_
            obtain rfl := some_i1 h
            exact x_iret (v := 2) hC hH hr rfl dX1_grips_61

def rmB_climbs : Room := { frames := 1, cells := 0, slots := 0, locals := 23 }
theorem hdX0_climbs : yX0_climbs.cls = RX0 ∧ yX0_climbs.cls ≠ "java/lang/invoke/MethodHandle" ∧ yX0_climbs.cls ≠ "java/lang/invoke/VarHandle" ∧ (parseMethodDescriptor yX0_climbs.desc).map (fun d => d.parameters.length) = some 1 := by decide +kernel

def fB_climbs (σ0 : XS) (bg : Nat) (x1 : Int32) : Option (Int32) :=
  ck x1 (14) <|
  bnd (xi σ0 (30 + 6 * bg + 5) (x1).toNatClampNeg) fun v2 =>
  ck (x1 - (1 : Int32)) (14) <|
  bnd (xi σ0 (30 + 6 * bg + 5) ((x1 - (1 : Int32))).toNatClampNeg) fun v5 =>
  ck v2 (14) <|
  ck v5 (14) <|
  ck v2 (14) <|
  ob (fK_grips σ0 (xi σ0 (30 + 6 * bg + 0) (v2).toNatClampNeg)) fun r11 =>
  ck v5 (14) <|
  ob (fK_grips σ0 (xi σ0 (30 + 6 * bg + 0) (v5).toNatClampNeg)) fun r14 =>
  if ((xi σ0 (30 + 6 * bg + 4) (v2).toNatClampNeg) - (xi σ0 (30 + 6 * bg + 4) (v5).toNatClampNeg)) ≤ (r11 + r14) then (
    some (0 : Int32))
  else (
    some (1 : Int32))

set_option maxHeartbeats 4000000 in
set_option maxRecDepth 100000 in
theorem cB_climbs (l : Launch) (G : XG) (σ0 : XS) (bg : Nat) (x1 : Int32) (hbg : bg < 4) {r : Int32} (h : fB_climbs σ0 bg x1 = some r) : ∀ sz, Met l yX0_climbs (Cond.code yX0_climbs cX0_climbs 4 (some .boolean) :: Tw) rmB_climbs (xP G σ0 sz [.ref (xA G (1 + bg)), .int x1]) (xQi G σ0 sz σ0 r) 0 0 (va_A (xW G σ0) sz) := by
  intro sz
  refine Met.ofW (cc := cX0_climbs) (maxL := 4) (ret := (some .boolean)) (by decide) rfl ?_
  intro p e s m args below meth c s₁ Bd hml hv
  obtain ⟨hC, hr⟩ := jC_of Bd hml
  obtain ⟨rfl, rfl, hH⟩ := x_enter hv
  have hC : jC p s m _ meth c cX0_climbs 4 RX0 := hC
  have hx := hC.1.1
  have hb := hC.1.2.1
  have hown := hC.1.2.2.2.1
  have hts := hC.1.2.2.2.2
  have hl := lv_entry ([.ref (xA G (1 + bg)), .int x1]) (n := 4) (Nat.le_of_ble_eq_true rfl)
  rw [lg_entry_eq]
  generalize (lg_sl ([.ref (xA G (1 + bg)), .int x1]) ++ List.replicate (4 - (lg_sl ([.ref (xA G (1 + bg)), .int x1])).length) Slot.unset).toArray = ls at hl ⊢
  have hl : lv_has ls 4 [(0, .ref (xA G (1 + bg))), (1, .int x1)] := hl
  unfold fB_climbs at h
  refine W_nm (fun H locs eH eL => ?_)
  have hH : xH G s (va_A (xW G σ0) s.heap.size) σ0 H locs := by rw [eH, eL]; exact hH
  show W p l e rmB_climbs s m _ below meth c H locs 0 0 _ (F0 m 0 ls [])
  refine lv_aload_n hx hb dX0_climbs_0 rfl (lv_at hl 0 rfl) ?_
  refine x_get (C := RX0) (T := TX0) (N := 12) (v := .ref (xA G (100 + (30 + 6 * bg + 5)))) hC hH (xe_B G σ0 hbg) rfl wyX0 6 (by decide) wfX0_31 rfl rfl dX0_climbs_1 ?_
  refine lv_iload_n hx hb dX0_climbs_4 rfl (lv_at hl 1 rfl) ?_
  obtain ⟨i1, h⟩ := ck_some h
  refine x_ald hC hH (d := (30 + 6 * bg + 5)) (xIs_b hbg (by decide)) (xLen_b hbg (by decide)) rfl i1 dX0_climbs_5 ?_
  obtain ⟨v2, e3, h⟩ := bnd_some h
  refine lv_tope e3 ?_
  refine lv_istore_n (lv' := [(2, .int v2), (0, .ref (xA G (1 + bg))), (1, .int x1)]) hx hb dX0_climbs_6 rfl hl (by decide) rfl (fun ls hl => ?_)
  refine lv_aload_n hx hb dX0_climbs_7 rfl (lv_at hl 1 rfl) ?_
  refine x_get (C := RX0) (T := TX0) (N := 12) (v := .ref (xA G (100 + (30 + 6 * bg + 5)))) hC hH (xe_B G σ0 hbg) rfl wyX0 6 (by decide) wfX0_31 rfl rfl dX0_climbs_8 ?_
  refine lv_iload_n hx hb dX0_climbs_11 rfl (lv_at hl 2 rfl) ?_
  refine lv_iconst (v := 1) hx hb dX0_climbs_12 (by decide) ?_
  refine lv_isub hx hb dX0_climbs_13 ?_
  obtain ⟨i4, h⟩ := ck_some h
  refine x_ald hC hH (d := (30 + 6 * bg + 5)) (xIs_b hbg (by decide)) (xLen_b hbg (by decide)) rfl i4 dX0_climbs_14 ?_
  obtain ⟨v5, e6, h⟩ := bnd_some h
  refine lv_tope e6 ?_
  refine lv_istore_n (lv' := [(3, .int v5), (2, .int v2), (0, .ref (xA G (1 + bg))), (1, .int x1)]) hx hb dX0_climbs_15 rfl hl (by decide) rfl (fun ls hl => ?_)
  refine lv_aload_n hx hb dX0_climbs_16 rfl (lv_at hl 2 rfl) ?_
  refine x_get (C := RX0) (T := TX0) (N := 12) (v := .ref (xA G (100 + (30 + 6 * bg + 4)))) hC hH (xe_B G σ0 hbg) rfl wyX0 5 (by decide) wfX0_28 rfl rfl dX0_climbs_17 ?_
  refine lv_iload_n hx hb dX0_climbs_20 rfl (lv_at hl 1 rfl) ?_
  obtain ⟨i7, h⟩ := ck_some h
  refine x_ald hC hH (d := (30 + 6 * bg + 4)) (xIs_b hbg (by decide)) (xLen_b hbg (by decide)) rfl i7 dX0_climbs_21 ?_
  refine lv_aload_n hx hb dX0_climbs_22 rfl (lv_at hl 2 rfl) ?_
  refine x_get (C := RX0) (T := TX0) (N := 12) (v := .ref (xA G (100 + (30 + 6 * bg + 4)))) hC hH (xe_B G σ0 hbg) rfl wyX0 5 (by decide) wfX0_28 rfl rfl dX0_climbs_23 ?_
  refine lv_iload_n hx hb dX0_climbs_26 rfl (lv_at hl 0 rfl) ?_
  obtain ⟨i8, h⟩ := ck_some h
  refine x_ald hC hH (d := (30 + 6 * bg + 4)) (xIs_b hbg (by decide)) (xLen_b hbg (by decide)) rfl i8 dX0_climbs_27 ?_
  refine lv_isub hx hb dX0_climbs_28 ?_
  refine lv_aload_n hx hb dX0_climbs_29 rfl (lv_at hl 2 rfl) ?_
  refine x_get (C := RX0) (T := TX0) (N := 12) (v := .ref (xA G (100 + (30 + 6 * bg + 0)))) hC hH (xe_B G σ0 hbg) rfl wyX0 1 (by decide) wfX0_15 rfl rfl dX0_climbs_30 ?_
  refine lv_iload_n hx hb dX0_climbs_33 rfl (lv_at hl 1 rfl) ?_
  obtain ⟨i9, h⟩ := ck_some h
  refine x_ald hC hH (d := (30 + 6 * bg + 0)) (xIs_b hbg (by decide)) (xLen_b hbg (by decide)) rfl i9 dX0_climbs_34 ?_
  obtain ⟨r11, h10, h⟩ := ob_some h
  refine x_calls (As := [.int (xi σ0 (30 + 6 * bg + 0) (v2).toNatClampNeg)]) (rest := [.int ((xi σ0 (30 + 6 * bg + 4) (v2).toNatClampNeg) - (xi σ0 (30 + 6 * bg + 4) (v5).toNatClampNeg))]) (cK_grips l G σ0 (xi σ0 (30 + 6 * bg + 0) (v2).toNatClampNeg)  h10) hC hH hl (va_cwS 1 hts (gS wmX0_102 wsX1_grips) rfl rfl rfl hdX1_grips ⟨Nat.le_of_ble_eq_true rfl, Nat.le_of_ble_eq_true rfl⟩) rfl rfl (Nat.le_of_ble_eq_true rfl) ⟨Nat.zero_le _, Nat.zero_le _⟩ dX0_climbs_35 (fun H locs hH => ?_)
  refine lv_aload_n hx hb dX0_climbs_38 rfl (lv_at hl 2 rfl) ?_
  refine x_get (C := RX0) (T := TX0) (N := 12) (v := .ref (xA G (100 + (30 + 6 * bg + 0)))) hC hH (xe_B G σ0 hbg) rfl wyX0 1 (by decide) wfX0_15 rfl rfl dX0_climbs_39 ?_
  refine lv_iload_n hx hb dX0_climbs_42 rfl (lv_at hl 0 rfl) ?_
  obtain ⟨i12, h⟩ := ck_some h
  refine x_ald hC hH (d := (30 + 6 * bg + 0)) (xIs_b hbg (by decide)) (xLen_b hbg (by decide)) rfl i12 dX0_climbs_43 ?_
  obtain ⟨r14, h13, h⟩ := ob_some h
  refine x_calls (As := [.int (xi σ0 (30 + 6 * bg + 0) (v5).toNatClampNeg)]) (rest := [.int r11, .int ((xi σ0 (30 + 6 * bg + 4) (v2).toNatClampNeg) - (xi σ0 (30 + 6 * bg + 4) (v5).toNatClampNeg))]) (cK_grips l G σ0 (xi σ0 (30 + 6 * bg + 0) (v5).toNatClampNeg)  h13) hC hH hl (va_cwS 1 hts (gS wmX0_102 wsX1_grips) rfl rfl rfl hdX1_grips ⟨Nat.le_of_ble_eq_true rfl, Nat.le_of_ble_eq_true rfl⟩) rfl rfl (Nat.le_of_ble_eq_true rfl) ⟨Nat.zero_le _, Nat.zero_le _⟩ dX0_climbs_44 (fun H locs hH => ?_)
  refine lv_iadd hx hb dX0_climbs_47 ?_
  refine lv_icmp_le (tgt := 55) hx hb dX0_climbs_48 (by decide) (fun c15 => ?_) (fun c15 => ?_)
  · have h := ite_t c15 h
    refine lv_iconst (v := 0) hx hb dX0_climbs_55 (by decide) ?_
    obtain rfl := some_i1 h
    exact x_iret (v := 0) hC hH hr (by decide) dX0_climbs_56
  · have h := ite_f c15 h
    refine lv_iconst (v := 1) hx hb dX0_climbs_51 (by decide) ?_
    refine lv_goto (tgt := 56) hx hb dX0_climbs_52 (by decide) ?_
    obtain rfl := some_i1 h
    exact x_iret (v := 1) hC hH hr (by decide) dX0_climbs_56

def rmB_joltOnce : Room := { frames := 3, cells := 0, slots := 0, locals := 84 }
theorem hdX0_joltOnce : yX0_joltOnce.cls = RX0 ∧ yX0_joltOnce.cls ≠ "java/lang/invoke/MethodHandle" ∧ yX0_joltOnce.cls ≠ "java/lang/invoke/VarHandle" ∧ (parseMethodDescriptor yX0_joltOnce.desc).map (fun d => d.parameters.length) = some 0 := by decide +kernel

def fB_joltOnce_L7 (bg : Nat) (k105 : XS → Option (XS)) : Nat → Int32 → XS → Option (XS)
  | 0, _, _ => none
  | n + 1, x1, σ =>
    if (xi σ (1 + bg) 0) ≤ (x1 + (1 : Int32)) then (
      k105 σ)
    else (
      ob (fB_climbs σ bg (x1 + (1 : Int32))) fun r5 =>
      if r5 = 0 then (
        bnd (x1 + (2 : Int32)) fun v7 =>
        (fB_joltOnce_L7 bg k105 n) v7 σ)
      else (
        ob (fB_swap σ bg x1 (x1 + (1 : Int32))) fun σ10 =>
        bnd (xu σ10 (1 + bg) 8 ((xi σ10 (1 + bg) 8) + (1 : Int32))) fun σ11 =>
        ck x1 (14) <|
        ck (xi σ11 (30 + 6 * bg + 5) (x1).toNatClampNeg) (14) <|
        ck (xi σ11 (30 + 6 * bg + 5) (x1).toNatClampNeg) (14) <|
        bnd (xu σ11 (30 + 6 * bg + 3) ((xi σ11 (30 + 6 * bg + 5) (x1).toNatClampNeg)).toNatClampNeg ((xi σ11 (30 + 6 * bg + 3) ((xi σ11 (30 + 6 * bg + 5) (x1).toNatClampNeg)).toNatClampNeg) + (1 : Int32))) fun σ15 =>
        ck (x1 + (1 : Int32)) (14) <|
        ck (xi σ15 (30 + 6 * bg + 5) ((x1 + (1 : Int32))).toNatClampNeg) (14) <|
        ck (xi σ15 (30 + 6 * bg + 5) ((x1 + (1 : Int32))).toNatClampNeg) (14) <|
        bnd (xu σ15 (30 + 6 * bg + 3) ((xi σ15 (30 + 6 * bg + 5) ((x1 + (1 : Int32))).toNatClampNeg)).toNatClampNeg ((xi σ15 (30 + 6 * bg + 3) ((xi σ15 (30 + 6 * bg + 5) ((x1 + (1 : Int32))).toNatClampNeg)).toNatClampNeg) + (1 : Int32))) fun σ20 =>
        ck x1 (14) <|
        ob (fB_weigh σ20 bg (xi σ20 (30 + 6 * bg + 5) (x1).toNatClampNeg)) fun σ25 =>
        ck (x1 + (1 : Int32)) (14) <|
        ob (fB_weigh σ25 bg (xi σ25 (30 + 6 * bg + 5) ((x1 + (1 : Int32))).toNatClampNeg)) fun σ28 =>
        bnd (x1 + (2 : Int32)) fun v29 =>
        (fB_joltOnce_L7 bg k105 n) v29 σ28))

set_option maxHeartbeats 4000000 in
set_option maxRecDepth 100000 in
theorem wB_joltOnce_L7 {p : Program} {l : Launch} {e : Env} {s : State} {m : MethodId} {args : Array Value} {below : List Frame} {meth : Method} {c : Code} {G : XG} {σ0 : XS} {bg : Nat} {σr : XS} (hC : jC p s m args meth c cX0_joltOnce 2 RX0) (hr : meth.sig.returnType = none) (hbg : bg < 4) {k105 : XS → Option (XS)} (hk105 : ∀ (σ : XS) (H : Heap) (locs : List Loc) (ls : Array Slot), xH G s (va_A (xW G σ0) s.heap.size) σ H locs → lv_has ls 2 [(0, .ref (xA G (1 + bg)))] → k105 σ = some σr → W p l e rmB_joltOnce s m args below meth c H locs 0 0 (MQ below (xQv G σ0 s.heap.size σr) args s 0 0 (va_A (xW G σ0) s.heap.size)) (F0 m 105 ls [])) : ∀ (n : Nat) (x1 : Int32) (σ : XS) (H : Heap) (locs : List Loc) (ls : Array Slot), xH G s (va_A (xW G σ0) s.heap.size) σ H locs → lv_has ls 2 [(0, .ref (xA G (1 + bg))), (1, .int x1)] → fB_joltOnce_L7 bg k105 n x1 σ = some σr → W p l e rmB_joltOnce s m args below meth c H locs 0 0 (MQ below (xQv G σ0 s.heap.size σr) args s 0 0 (va_A (xW G σ0) s.heap.size)) (F0 m 7 ls []) := by
  have hx := hC.1.1
  have hb := hC.1.2.1
  have hown := hC.1.2.2.2.1
  have hts := hC.1.2.2.2.2
  intro n
  induction n with
  | zero =>
    intro x1 σ H locs ls  hH hl h
    rw [fB_joltOnce_L7] at h
    cases h
  | succ n ih =>
    intro x1 σ H locs ls  hH hl h
    rw [fB_joltOnce_L7] at h
    refine lv_iload_n hx hb dX0_joltOnce_7 rfl (lv_at hl 1 rfl) ?_
    refine lv_iconst (v := 1) hx hb dX0_joltOnce_8 (by decide) ?_
    refine lv_iadd hx hb dX0_joltOnce_9 ?_
    refine lv_aload_n hx hb dX0_joltOnce_10 rfl (lv_at hl 0 rfl) ?_
    refine x_get (C := RX0) (T := TX0) (N := 12) (v := .int (xi σ (1 + bg) 0)) hC hH (xe_B G σ hbg) rfl wyX0 0 (by decide) wfX0_9 rfl rfl dX0_joltOnce_11 ?_
    refine lv_icmp_ge (tgt := 105) hx hb dX0_joltOnce_14 (by decide) (fun c3 => ?_) (fun c3 => ?_)
    · have h := ite_t c3 h
      exact hk105 σ H locs ls  hH (lv_sub hl [0] rfl) h
    · have h := ite_f c3 h
      refine lv_aload_n hx hb dX0_joltOnce_17 rfl (lv_at hl 0 rfl) ?_
      refine lv_iload_n hx hb dX0_joltOnce_18 rfl (lv_at hl 1 rfl) ?_
      refine lv_iconst (v := 1) hx hb dX0_joltOnce_19 (by decide) ?_
      refine lv_iadd hx hb dX0_joltOnce_20 ?_
      obtain ⟨r5, h4, h⟩ := ob_some h
      refine x_calli (vw := (RX0, TX0, 12)) (As := [.int (x1 + (1 : Int32))]) (rest := []) (cB_climbs l G σ bg (x1 + (1 : Int32)) hbg h4) hC hH hl (xe_B G σ hbg) rfl (cwV 1 hts (gV wmX0_92 wvX0_climbs) rfl rfl rfl hdX0_climbs ⟨Nat.le_of_ble_eq_true rfl, Nat.le_of_ble_eq_true rfl⟩) rfl rfl (Nat.le_of_ble_eq_true rfl) ⟨Nat.zero_le _, Nat.zero_le _⟩ dX0_joltOnce_21 (fun H locs hH => ?_)
      refine lv_if_eq (tgt := 99) hx hb dX0_joltOnce_24 (by decide) (fun c6 => ?_) (fun c6 => ?_)
      · have h := ite_t c6 h
        obtain ⟨v7, e8, h⟩ := bnd_some h
        refine lv_iinc (v := v7) (lv' := [(1, .int v7), (0, .ref (xA G (1 + bg)))]) hx hb dX0_joltOnce_99 hl (k := 1) rfl (by rw [e8]; rfl) (by decide) rfl (fun ls hl => ?_)
        refine lv_goto (tgt := 7) hx hb dX0_joltOnce_102 (by decide) ?_
        exact ih v7 σ H locs ls  hH (lv_sub hl [1, 0] rfl) h
      · have h := ite_f c6 h
        refine lv_aload_n hx hb dX0_joltOnce_27 rfl (lv_at hl 0 rfl) ?_
        refine lv_iload_n hx hb dX0_joltOnce_28 rfl (lv_at hl 1 rfl) ?_
        refine lv_iload_n hx hb dX0_joltOnce_29 rfl (lv_at hl 1 rfl) ?_
        refine lv_iconst (v := 1) hx hb dX0_joltOnce_30 (by decide) ?_
        refine lv_iadd hx hb dX0_joltOnce_31 ?_
        obtain ⟨σ10, h9, h⟩ := ob_some h
        refine x_callv (vw := (RX0, TX0, 12)) (As := [.int x1, .int (x1 + (1 : Int32))]) (rest := []) (cB_swap l G σ bg x1 (x1 + (1 : Int32)) hbg h9) hC hH hl (xe_B G σ hbg) rfl (cwV 2 hts (gV wmX0_84 wvX0_swap) rfl rfl rfl hdX0_swap ⟨Nat.le_of_ble_eq_true rfl, Nat.le_of_ble_eq_true rfl⟩) rfl rfl (Nat.le_of_ble_eq_true rfl) ⟨Nat.zero_le _, Nat.zero_le _⟩ dX0_joltOnce_32 (fun H locs hH => ?_)
        refine lv_aload_n hx hb dX0_joltOnce_35 rfl (lv_at hl 0 rfl) ?_
        refine lv_dup hx hb dX0_joltOnce_36 rfl ?_
        refine x_get (C := RX0) (T := TX0) (N := 12) (v := .int (xi σ10 (1 + bg) 8)) hC hH (xe_B G σ10 hbg) rfl wyX0 8 (by decide) wfX0_37 rfl rfl dX0_joltOnce_37 ?_
        refine lv_iconst (v := 1) hx hb dX0_joltOnce_40 (by decide) ?_
        refine lv_iadd hx hb dX0_joltOnce_41 ?_
        obtain ⟨σ11, e12, h⟩ := bnd_some h
        refine x_put (C := RX0) (T := TX0) (N := 12) (ty := .int) (v := .int ((xi σ10 (1 + bg) 8) + (1 : Int32))) hC hH (xe_B G σ10 hbg) rfl wyX0 tyX0_ok nmX0 8 (by decide) wfX0_37 rfl rfl (by decide +kernel) rfl rfl (Nat.le_of_ble_eq_true rfl) e12 (xs_B_8 G σ10 hbg _) dX0_joltOnce_42 (fun H locs hH => ?_)
        refine lv_aload_n hx hb dX0_joltOnce_45 rfl (lv_at hl 0 rfl) ?_
        refine x_get (C := RX0) (T := TX0) (N := 12) (v := .ref (xA G (100 + (30 + 6 * bg + 3)))) hC hH (xe_B G σ11 hbg) rfl wyX0 4 (by decide) wfX0_25 rfl rfl dX0_joltOnce_46 ?_
        refine lv_aload_n hx hb dX0_joltOnce_49 rfl (lv_at hl 0 rfl) ?_
        refine x_get (C := RX0) (T := TX0) (N := 12) (v := .ref (xA G (100 + (30 + 6 * bg + 5)))) hC hH (xe_B G σ11 hbg) rfl wyX0 6 (by decide) wfX0_31 rfl rfl dX0_joltOnce_50 ?_
        refine lv_iload_n hx hb dX0_joltOnce_53 rfl (lv_at hl 1 rfl) ?_
        obtain ⟨i13, h⟩ := ck_some h
        refine x_ald hC hH (d := (30 + 6 * bg + 5)) (xIs_b hbg (by decide)) (xLen_b hbg (by decide)) rfl i13 dX0_joltOnce_54 ?_
        refine lv_dup2_11 hx hb dX0_joltOnce_55 rfl rfl ?_
        obtain ⟨i14, h⟩ := ck_some h
        refine x_ald hC hH (d := (30 + 6 * bg + 3)) (xIs_b hbg (by decide)) (xLen_b hbg (by decide)) rfl i14 dX0_joltOnce_56 ?_
        refine lv_iconst (v := 1) hx hb dX0_joltOnce_57 (by decide) ?_
        refine lv_iadd hx hb dX0_joltOnce_58 ?_
        obtain ⟨i17, h⟩ := ck_some h
        obtain ⟨σ15, e16, h⟩ := bnd_some h
        refine x_ast hC hH (d := (30 + 6 * bg + 3)) (xIs_b hbg (by decide)) (xLen_b hbg (by decide)) rfl e16 i17 dX0_joltOnce_59 (fun H locs hH => ?_)
        refine lv_aload_n hx hb dX0_joltOnce_60 rfl (lv_at hl 0 rfl) ?_
        refine x_get (C := RX0) (T := TX0) (N := 12) (v := .ref (xA G (100 + (30 + 6 * bg + 3)))) hC hH (xe_B G σ15 hbg) rfl wyX0 4 (by decide) wfX0_25 rfl rfl dX0_joltOnce_61 ?_
        refine lv_aload_n hx hb dX0_joltOnce_64 rfl (lv_at hl 0 rfl) ?_
        refine x_get (C := RX0) (T := TX0) (N := 12) (v := .ref (xA G (100 + (30 + 6 * bg + 5)))) hC hH (xe_B G σ15 hbg) rfl wyX0 6 (by decide) wfX0_31 rfl rfl dX0_joltOnce_65 ?_
        refine lv_iload_n hx hb dX0_joltOnce_68 rfl (lv_at hl 1 rfl) ?_
        refine lv_iconst (v := 1) hx hb dX0_joltOnce_69 (by decide) ?_
        refine lv_iadd hx hb dX0_joltOnce_70 ?_
        obtain ⟨i18, h⟩ := ck_some h
        refine x_ald hC hH (d := (30 + 6 * bg + 5)) (xIs_b hbg (by decide)) (xLen_b hbg (by decide)) rfl i18 dX0_joltOnce_71 ?_
        refine lv_dup2_11 hx hb dX0_joltOnce_72 rfl rfl ?_
        obtain ⟨i19, h⟩ := ck_some h
        refine x_ald hC hH (d := (30 + 6 * bg + 3)) (xIs_b hbg (by decide)) (xLen_b hbg (by decide)) rfl i19 dX0_joltOnce_73 ?_
        refine lv_iconst (v := 1) hx hb dX0_joltOnce_74 (by decide) ?_
        refine lv_iadd hx hb dX0_joltOnce_75 ?_
        obtain ⟨i22, h⟩ := ck_some h
        obtain ⟨σ20, e21, h⟩ := bnd_some h
        refine x_ast hC hH (d := (30 + 6 * bg + 3)) (xIs_b hbg (by decide)) (xLen_b hbg (by decide)) rfl e21 i22 dX0_joltOnce_76 (fun H locs hH => ?_)
        refine lv_aload_n hx hb dX0_joltOnce_77 rfl (lv_at hl 0 rfl) ?_
        refine lv_aload_n hx hb dX0_joltOnce_78 rfl (lv_at hl 0 rfl) ?_
        refine x_get (C := RX0) (T := TX0) (N := 12) (v := .ref (xA G (100 + (30 + 6 * bg + 5)))) hC hH (xe_B G σ20 hbg) rfl wyX0 6 (by decide) wfX0_31 rfl rfl dX0_joltOnce_79 ?_
        refine lv_iload_n hx hb dX0_joltOnce_82 rfl (lv_at hl 1 rfl) ?_
        obtain ⟨i23, h⟩ := ck_some h
        refine x_ald hC hH (d := (30 + 6 * bg + 5)) (xIs_b hbg (by decide)) (xLen_b hbg (by decide)) rfl i23 dX0_joltOnce_83 ?_
        obtain ⟨σ25, h24, h⟩ := ob_some h
        refine x_callv (vw := (RX0, TX0, 12)) (As := [.int (xi σ20 (30 + 6 * bg + 5) (x1).toNatClampNeg)]) (rest := []) (cB_weigh l G σ20 bg (xi σ20 (30 + 6 * bg + 5) (x1).toNatClampNeg) hbg h24) hC hH hl (xe_B G σ20 hbg) rfl (cwV 1 hts (gV wmX0_61 wvX0_weigh) rfl rfl rfl hdX0_weigh ⟨Nat.le_of_ble_eq_true rfl, Nat.le_of_ble_eq_true rfl⟩) rfl rfl (Nat.le_of_ble_eq_true rfl) ⟨Nat.zero_le _, Nat.zero_le _⟩ dX0_joltOnce_84 (fun H locs hH => ?_)
        refine lv_aload_n hx hb dX0_joltOnce_87 rfl (lv_at hl 0 rfl) ?_
        refine lv_aload_n hx hb dX0_joltOnce_88 rfl (lv_at hl 0 rfl) ?_
        refine x_get (C := RX0) (T := TX0) (N := 12) (v := .ref (xA G (100 + (30 + 6 * bg + 5)))) hC hH (xe_B G σ25 hbg) rfl wyX0 6 (by decide) wfX0_31 rfl rfl dX0_joltOnce_89 ?_
        refine lv_iload_n hx hb dX0_joltOnce_92 rfl (lv_at hl 1 rfl) ?_
        refine lv_iconst (v := 1) hx hb dX0_joltOnce_93 (by decide) ?_
        refine lv_iadd hx hb dX0_joltOnce_94 ?_
        obtain ⟨i26, h⟩ := ck_some h
        refine x_ald hC hH (d := (30 + 6 * bg + 5)) (xIs_b hbg (by decide)) (xLen_b hbg (by decide)) rfl i26 dX0_joltOnce_95 ?_
        obtain ⟨σ28, h27, h⟩ := ob_some h
        refine x_callv (vw := (RX0, TX0, 12)) (As := [.int (xi σ25 (30 + 6 * bg + 5) ((x1 + (1 : Int32))).toNatClampNeg)]) (rest := []) (cB_weigh l G σ25 bg (xi σ25 (30 + 6 * bg + 5) ((x1 + (1 : Int32))).toNatClampNeg) hbg h27) hC hH hl (xe_B G σ25 hbg) rfl (cwV 1 hts (gV wmX0_61 wvX0_weigh) rfl rfl rfl hdX0_weigh ⟨Nat.le_of_ble_eq_true rfl, Nat.le_of_ble_eq_true rfl⟩) rfl rfl (Nat.le_of_ble_eq_true rfl) ⟨Nat.zero_le _, Nat.zero_le _⟩ dX0_joltOnce_96 (fun H locs hH => ?_)
        obtain ⟨v29, e30, h⟩ := bnd_some h
        refine lv_iinc (v := v29) (lv' := [(1, .int v29), (0, .ref (xA G (1 + bg)))]) hx hb dX0_joltOnce_99 hl (k := 1) rfl (by rw [e30]; rfl) (by decide) rfl (fun ls hl => ?_)
        refine lv_goto (tgt := 7) hx hb dX0_joltOnce_102 (by decide) ?_
        exact ih v29 σ28 H locs ls  hH (lv_sub hl [1, 0] rfl) h

def fB_joltOnce (σ0 : XS) (bg : Nat) : Option (XS) :=
  bnd ((xi σ0 (1 + bg) 9) - (xi σ0 (1 + bg) 9) / (2 : Int32) * (2 : Int32)) fun v1 =>
  fB_joltOnce_L7 bg (fun (σ : XS) => if (xi σ (1 + bg) 0) ≤ 0 then (
      bnd (xu σ (1 + bg) 9 ((xi σ (1 + bg) 9) + (1 : Int32))) fun σ32 =>
      some σ32)
    else (
      ob2 (fB_draw σ bg) fun r35 σ36 =>
      if (xi σ36 (1 + bg) 7) ≤ (r35 - r35 / (100 : Int32) * (100 : Int32)) then (
        bnd (xu σ36 (1 + bg) 9 ((xi σ36 (1 + bg) 9) + (1 : Int32))) fun σ38 =>
        some σ38)
      else (
        ob2 (fB_draw σ36 bg) fun r41 σ42 =>
        nz (xi σ42 (1 + bg) 0) <|
        ob (fB_move σ42 bg (r41 - r41 / (xi σ42 (1 + bg) 0) * (xi σ42 (1 + bg) 0)) (0 : Int32)) fun σ45 =>
        bnd (xu σ45 (1 + bg) 9 ((xi σ45 (1 + bg) 9) + (1 : Int32))) fun σ46 =>
        some σ46))) 10000 v1 σ0

set_option maxHeartbeats 4000000 in
set_option maxRecDepth 100000 in
theorem cB_joltOnce (l : Launch) (G : XG) (σ0 : XS) (bg : Nat) (hbg : bg < 4) {σr : XS} (h : fB_joltOnce σ0 bg = some σr) : ∀ sz, Met l yX0_joltOnce (Cond.code yX0_joltOnce cX0_joltOnce 2 none :: Tw) rmB_joltOnce (xP G σ0 sz [.ref (xA G (1 + bg))]) (xQv G σ0 sz σr) 0 0 (va_A (xW G σ0) sz) := by
  intro sz
  refine Met.ofW (cc := cX0_joltOnce) (maxL := 2) (ret := (none)) (by decide) rfl ?_
  intro p e s m args below meth c s₁ Bd hml hv
  obtain ⟨hC, hr⟩ := jC_of Bd hml
  obtain ⟨rfl, rfl, hH⟩ := x_enter hv
  have hC : jC p s m _ meth c cX0_joltOnce 2 RX0 := hC
  have hx := hC.1.1
  have hb := hC.1.2.1
  have hown := hC.1.2.2.2.1
  have hts := hC.1.2.2.2.2
  have hl := lv_entry ([.ref (xA G (1 + bg))]) (n := 2) (Nat.le_of_ble_eq_true rfl)
  rw [lg_entry_eq]
  generalize (lg_sl ([.ref (xA G (1 + bg))]) ++ List.replicate (2 - (lg_sl ([.ref (xA G (1 + bg))])).length) Slot.unset).toArray = ls at hl ⊢
  have hl : lv_has ls 2 [(0, .ref (xA G (1 + bg)))] := hl
  unfold fB_joltOnce at h
  refine W_nm (fun H locs eH eL => ?_)
  have hH : xH G s (va_A (xW G σ0) s.heap.size) σ0 H locs := by rw [eH, eL]; exact hH
  show W p l e rmB_joltOnce s m _ below meth c H locs 0 0 _ (F0 m 0 ls [])
  refine lv_aload_n hx hb dX0_joltOnce_0 rfl (lv_at hl 0 rfl) ?_
  refine x_get (C := RX0) (T := TX0) (N := 12) (v := .int (xi σ0 (1 + bg) 9)) hC hH (xe_B G σ0 hbg) rfl wyX0 9 (by decide) wfX0_40 rfl rfl dX0_joltOnce_1 ?_
  refine lv_iconst (v := 2) hx hb dX0_joltOnce_4 (by decide) ?_
  refine lv_irem hx hb dX0_joltOnce_5 (by decide) ?_
  obtain ⟨v1, e2, h⟩ := bnd_some h
  refine lv_tope e2 ?_
  refine lv_istore_n (lv' := [(1, .int v1), (0, .ref (xA G (1 + bg)))]) hx hb dX0_joltOnce_6 rfl hl (by decide) rfl (fun ls hl => ?_)
  refine wB_joltOnce_L7 hC hr hbg  ?_ 10000 v1 σ0 H locs ls  hH (lv_sub hl [1, 0] rfl) h
  intro σ H locs ls  hH hl h
  refine lv_aload_n hx hb dX0_joltOnce_105 rfl (lv_at hl 0 rfl) ?_
  refine x_get (C := RX0) (T := TX0) (N := 12) (v := .int (xi σ (1 + bg) 0)) hC hH (xe_B G σ hbg) rfl wyX0 0 (by decide) wfX0_9 rfl rfl dX0_joltOnce_106 ?_
  refine lv_if_le (tgt := 140) hx hb dX0_joltOnce_109 (by decide) (fun c31 => ?_) (fun c31 => ?_)
  · have h := ite_t c31 h
    refine lv_aload_n hx hb dX0_joltOnce_140 rfl (lv_at hl 0 rfl) ?_
    refine lv_dup hx hb dX0_joltOnce_141 rfl ?_
    refine x_get (C := RX0) (T := TX0) (N := 12) (v := .int (xi σ (1 + bg) 9)) hC hH (xe_B G σ hbg) rfl wyX0 9 (by decide) wfX0_40 rfl rfl dX0_joltOnce_142 ?_
    refine lv_iconst (v := 1) hx hb dX0_joltOnce_145 (by decide) ?_
    refine lv_iadd hx hb dX0_joltOnce_146 ?_
    obtain ⟨σ32, e33, h⟩ := bnd_some h
    refine x_put (C := RX0) (T := TX0) (N := 12) (ty := .int) (v := .int ((xi σ (1 + bg) 9) + (1 : Int32))) hC hH (xe_B G σ hbg) rfl wyX0 tyX0_ok nmX0 9 (by decide) wfX0_40 rfl rfl (by decide +kernel) rfl rfl (Nat.le_of_ble_eq_true rfl) e33 (xs_B_9 G σ hbg _) dX0_joltOnce_147 (fun H locs hH => ?_)
    obtain rfl := some_i1 h
    exact x_vret hC hH hr dX0_joltOnce_150
  · have h := ite_f c31 h
    refine lv_aload_n hx hb dX0_joltOnce_112 rfl (lv_at hl 0 rfl) ?_
    obtain ⟨r35, σ36, h34, h⟩ := ob2_some h
    refine x_calli (vw := (RX0, TX0, 12)) (As := []) (rest := []) (cB_draw l G σ bg hbg h34) hC hH hl (xe_B G σ hbg) rfl (cwV 0 hts (gV wmX0_95 wvX0_draw) rfl rfl rfl hdX0_draw ⟨Nat.le_of_ble_eq_true rfl, Nat.le_of_ble_eq_true rfl⟩) rfl rfl (Nat.le_of_ble_eq_true rfl) ⟨Nat.zero_le _, Nat.zero_le _⟩ dX0_joltOnce_113 (fun H locs hH => ?_)
    refine lv_bipush (v := 100) hx hb dX0_joltOnce_116 (by decide) ?_
    refine lv_irem hx hb dX0_joltOnce_118 (by decide) ?_
    refine lv_aload_n hx hb dX0_joltOnce_119 rfl (lv_at hl 0 rfl) ?_
    refine x_get (C := RX0) (T := TX0) (N := 12) (v := .int (xi σ36 (1 + bg) 7)) hC hH (xe_B G σ36 hbg) rfl wyX0 7 (by decide) wfX0_34 rfl rfl dX0_joltOnce_120 ?_
    refine lv_icmp_ge (tgt := 140) hx hb dX0_joltOnce_123 (by decide) (fun c37 => ?_) (fun c37 => ?_)
    · have h := ite_t c37 h
      refine lv_aload_n hx hb dX0_joltOnce_140 rfl (lv_at hl 0 rfl) ?_
      refine lv_dup hx hb dX0_joltOnce_141 rfl ?_
      refine x_get (C := RX0) (T := TX0) (N := 12) (v := .int (xi σ36 (1 + bg) 9)) hC hH (xe_B G σ36 hbg) rfl wyX0 9 (by decide) wfX0_40 rfl rfl dX0_joltOnce_142 ?_
      refine lv_iconst (v := 1) hx hb dX0_joltOnce_145 (by decide) ?_
      refine lv_iadd hx hb dX0_joltOnce_146 ?_
      obtain ⟨σ38, e39, h⟩ := bnd_some h
      refine x_put (C := RX0) (T := TX0) (N := 12) (ty := .int) (v := .int ((xi σ36 (1 + bg) 9) + (1 : Int32))) hC hH (xe_B G σ36 hbg) rfl wyX0 tyX0_ok nmX0 9 (by decide) wfX0_40 rfl rfl (by decide +kernel) rfl rfl (Nat.le_of_ble_eq_true rfl) e39 (xs_B_9 G σ36 hbg _) dX0_joltOnce_147 (fun H locs hH => ?_)
      obtain rfl := some_i1 h
      exact x_vret hC hH hr dX0_joltOnce_150
    · have h := ite_f c37 h
      refine lv_aload_n hx hb dX0_joltOnce_126 rfl (lv_at hl 0 rfl) ?_
      refine lv_aload_n hx hb dX0_joltOnce_127 rfl (lv_at hl 0 rfl) ?_
      obtain ⟨r41, σ42, h40, h⟩ := ob2_some h
      refine x_calli (vw := (RX0, TX0, 12)) (As := []) (rest := [.ref (xA G (1 + bg))]) (cB_draw l G σ36 bg hbg h40) hC hH hl (xe_B G σ36 hbg) rfl (cwV 0 hts (gV wmX0_95 wvX0_draw) rfl rfl rfl hdX0_draw ⟨Nat.le_of_ble_eq_true rfl, Nat.le_of_ble_eq_true rfl⟩) rfl rfl (Nat.le_of_ble_eq_true rfl) ⟨Nat.zero_le _, Nat.zero_le _⟩ dX0_joltOnce_128 (fun H locs hH => ?_)
      refine lv_aload_n hx hb dX0_joltOnce_131 rfl (lv_at hl 0 rfl) ?_
      refine x_get (C := RX0) (T := TX0) (N := 12) (v := .int (xi σ42 (1 + bg) 0)) hC hH (xe_B G σ42 hbg) rfl wyX0 0 (by decide) wfX0_9 rfl rfl dX0_joltOnce_132 ?_
      obtain ⟨z43, h⟩ := nz_some h
      refine lv_irem hx hb dX0_joltOnce_135 z43 ?_
      refine lv_iconst (v := 0) hx hb dX0_joltOnce_136 (by decide) ?_
      obtain ⟨σ45, h44, h⟩ := ob_some h
      refine x_callv (vw := (RX0, TX0, 12)) (As := [.int (r41 - r41 / (xi σ42 (1 + bg) 0) * (xi σ42 (1 + bg) 0)), .int (0 : Int32)]) (rest := []) (cB_move l G σ42 bg (r41 - r41 / (xi σ42 (1 + bg) 0) * (xi σ42 (1 + bg) 0)) (0 : Int32) hbg h44) hC hH hl (xe_B G σ42 hbg) rfl (cwV 2 hts (gV wmX0_99 wvX0_move) rfl rfl rfl hdX0_move ⟨Nat.le_of_ble_eq_true rfl, Nat.le_of_ble_eq_true rfl⟩) rfl rfl (Nat.le_of_ble_eq_true rfl) ⟨Nat.zero_le _, Nat.zero_le _⟩ dX0_joltOnce_137 (fun H locs hH => ?_)
      refine lv_aload_n hx hb dX0_joltOnce_140 rfl (lv_at hl 0 rfl) ?_
      refine lv_dup hx hb dX0_joltOnce_141 rfl ?_
      refine x_get (C := RX0) (T := TX0) (N := 12) (v := .int (xi σ45 (1 + bg) 9)) hC hH (xe_B G σ45 hbg) rfl wyX0 9 (by decide) wfX0_40 rfl rfl dX0_joltOnce_142 ?_
      refine lv_iconst (v := 1) hx hb dX0_joltOnce_145 (by decide) ?_
      refine lv_iadd hx hb dX0_joltOnce_146 ?_
      obtain ⟨σ46, e47, h⟩ := bnd_some h
      refine x_put (C := RX0) (T := TX0) (N := 12) (ty := .int) (v := .int ((xi σ45 (1 + bg) 9) + (1 : Int32))) hC hH (xe_B G σ45 hbg) rfl wyX0 tyX0_ok nmX0 9 (by decide) wfX0_40 rfl rfl (by decide +kernel) rfl rfl (Nat.le_of_ble_eq_true rfl) e47 (xs_B_9 G σ45 hbg _) dX0_joltOnce_147 (fun H locs hH => ?_)
      obtain rfl := some_i1 h
      exact x_vret hC hH hr dX0_joltOnce_150

def rmB_ride : Room := { frames := 4, cells := 0, slots := 0, locals := 105 }
theorem hdX0_ride : yX0_ride.cls = RX0 ∧ yX0_ride.cls ≠ "java/lang/invoke/MethodHandle" ∧ yX0_ride.cls ≠ "java/lang/invoke/VarHandle" ∧ (parseMethodDescriptor yX0_ride.desc).map (fun d => d.parameters.length) = some 1 := by decide +kernel

def fB_ride_L2 (bg : Nat) (k17 : XS → Option (XS)) : Nat → Int32 → Int32 → XS → Option (XS)
  | 0, _, _, _ => none
  | n + 1, x1, x2, σ =>
    if x1 ≤ x2 then (
      k17 σ)
    else (
      ob (fB_joltOnce σ bg) fun σ3 =>
      bnd (x2 + (1 : Int32)) fun v4 =>
      (fB_ride_L2 bg k17 n) x1 v4 σ3)

set_option maxHeartbeats 4000000 in
set_option maxRecDepth 100000 in
theorem wB_ride_L2 {p : Program} {l : Launch} {e : Env} {s : State} {m : MethodId} {args : Array Value} {below : List Frame} {meth : Method} {c : Code} {G : XG} {σ0 : XS} {bg : Nat} {σr : XS} (hC : jC p s m args meth c cX0_ride 3 RX0) (hr : meth.sig.returnType = none) (hbg : bg < 4) {k17 : XS → Option (XS)} (hk17 : ∀ (σ : XS) (H : Heap) (locs : List Loc) (ls : Array Slot), xH G s (va_A (xW G σ0) s.heap.size) σ H locs → lv_has ls 3 [] → k17 σ = some σr → W p l e rmB_ride s m args below meth c H locs 0 0 (MQ below (xQv G σ0 s.heap.size σr) args s 0 0 (va_A (xW G σ0) s.heap.size)) (F0 m 17 ls [])) : ∀ (n : Nat) (x1 : Int32) (x2 : Int32) (σ : XS) (H : Heap) (locs : List Loc) (ls : Array Slot), xH G s (va_A (xW G σ0) s.heap.size) σ H locs → lv_has ls 3 [(0, .ref (xA G (1 + bg))), (1, .int x1), (2, .int x2)] → fB_ride_L2 bg k17 n x1 x2 σ = some σr → W p l e rmB_ride s m args below meth c H locs 0 0 (MQ below (xQv G σ0 s.heap.size σr) args s 0 0 (va_A (xW G σ0) s.heap.size)) (F0 m 2 ls []) := by
  have hx := hC.1.1
  have hb := hC.1.2.1
  have hown := hC.1.2.2.2.1
  have hts := hC.1.2.2.2.2
  intro n
  induction n with
  | zero =>
    intro x1 x2 σ H locs ls  hH hl h
    rw [fB_ride_L2] at h
    cases h
  | succ n ih =>
    intro x1 x2 σ H locs ls  hH hl h
    rw [fB_ride_L2] at h
    refine lv_iload_n hx hb dX0_ride_2 rfl (lv_at hl 2 rfl) ?_
    refine lv_iload_n hx hb dX0_ride_3 rfl (lv_at hl 1 rfl) ?_
    refine lv_icmp_ge (tgt := 17) hx hb dX0_ride_4 (by decide) (fun c1 => ?_) (fun c1 => ?_)
    · have h := ite_t c1 h
      exact hk17 σ H locs ls  hH (lv_sub hl [] rfl) h
    · have h := ite_f c1 h
      refine lv_aload_n hx hb dX0_ride_7 rfl (lv_at hl 0 rfl) ?_
      obtain ⟨σ3, h2, h⟩ := ob_some h
      refine x_callv (vw := (RX0, TX0, 12)) (As := []) (rest := []) (cB_joltOnce l G σ bg hbg h2) hC hH hl (xe_B G σ hbg) rfl (cwV 0 hts (gV wmX0_89 wvX0_joltOnce) rfl rfl rfl hdX0_joltOnce ⟨Nat.le_of_ble_eq_true rfl, Nat.le_of_ble_eq_true rfl⟩) rfl rfl (Nat.le_of_ble_eq_true rfl) ⟨Nat.zero_le _, Nat.zero_le _⟩ dX0_ride_8 (fun H locs hH => ?_)
      obtain ⟨v4, e5, h⟩ := bnd_some h
      refine lv_iinc (v := v4) (lv' := [(2, .int v4), (0, .ref (xA G (1 + bg))), (1, .int x1)]) hx hb dX0_ride_11 hl (k := 2) rfl (by rw [e5]; rfl) (by decide) rfl (fun ls hl => ?_)
      refine lv_goto (tgt := 2) hx hb dX0_ride_14 (by decide) ?_
      exact ih x1 v4 σ3 H locs ls  hH (lv_sub hl [1, 2, 0] rfl) h

def fB_ride (σ0 : XS) (bg : Nat) (x1 : Int32) : Option (XS) :=
  fB_ride_L2 bg (fun (σ : XS) => some σ) 10000 x1 (0 : Int32) σ0

set_option maxHeartbeats 4000000 in
set_option maxRecDepth 100000 in
theorem cB_ride (l : Launch) (G : XG) (σ0 : XS) (bg : Nat) (x1 : Int32) (hbg : bg < 4) {σr : XS} (h : fB_ride σ0 bg x1 = some σr) : ∀ sz, Met l yX0_ride (Cond.code yX0_ride cX0_ride 3 none :: Tw) rmB_ride (xP G σ0 sz [.ref (xA G (1 + bg)), .int x1]) (xQv G σ0 sz σr) 0 0 (va_A (xW G σ0) sz) := by
  intro sz
  refine Met.ofW (cc := cX0_ride) (maxL := 3) (ret := (none)) (by decide) rfl ?_
  intro p e s m args below meth c s₁ Bd hml hv
  obtain ⟨hC, hr⟩ := jC_of Bd hml
  obtain ⟨rfl, rfl, hH⟩ := x_enter hv
  have hC : jC p s m _ meth c cX0_ride 3 RX0 := hC
  have hx := hC.1.1
  have hb := hC.1.2.1
  have hown := hC.1.2.2.2.1
  have hts := hC.1.2.2.2.2
  have hl := lv_entry ([.ref (xA G (1 + bg)), .int x1]) (n := 3) (Nat.le_of_ble_eq_true rfl)
  rw [lg_entry_eq]
  generalize (lg_sl ([.ref (xA G (1 + bg)), .int x1]) ++ List.replicate (3 - (lg_sl ([.ref (xA G (1 + bg)), .int x1])).length) Slot.unset).toArray = ls at hl ⊢
  have hl : lv_has ls 3 [(0, .ref (xA G (1 + bg))), (1, .int x1)] := hl
  unfold fB_ride at h
  refine W_nm (fun H locs eH eL => ?_)
  have hH : xH G s (va_A (xW G σ0) s.heap.size) σ0 H locs := by rw [eH, eL]; exact hH
  show W p l e rmB_ride s m _ below meth c H locs 0 0 _ (F0 m 0 ls [])
  refine lv_iconst (v := 0) hx hb dX0_ride_0 (by decide) ?_
  refine lv_istore_n (lv' := [(2, .int (0 : Int32)), (0, .ref (xA G (1 + bg))), (1, .int x1)]) hx hb dX0_ride_1 rfl hl (by decide) rfl (fun ls hl => ?_)
  refine wB_ride_L2 hC hr hbg  ?_ 10000 x1 (0 : Int32) σ0 H locs ls  hH (lv_sub hl [1, 2, 0] rfl) h
  intro σ H locs ls  hH hl h
  obtain rfl := some_i1 h
  exact x_vret hC hH hr dX0_ride_17

def rmB_climbers : Room := { frames := 2, cells := 0, slots := 0, locals := 46 }
theorem hdX0_climbers : yX0_climbers.cls = RX0 ∧ yX0_climbers.cls ≠ "java/lang/invoke/MethodHandle" ∧ yX0_climbers.cls ≠ "java/lang/invoke/VarHandle" ∧ (parseMethodDescriptor yX0_climbers.desc).map (fun d => d.parameters.length) = some 0 := by decide +kernel

def fB_climbers_L4 (bg : Nat) (σ0 : XS) (k29 : Int32 → Option (Int32)) : Nat → Int32 → Int32 → Option (Int32)
  | 0, _, _ => none
  | n + 1, x1, x2 =>
    if (xi σ0 (1 + bg) 0) ≤ x2 then (
      k29 x1)
    else (
      ob (fB_climbs σ0 bg x2) fun r3 =>
      if r3 = 0 then (
        bnd (x2 + (1 : Int32)) fun v5 =>
        (fB_climbers_L4 bg σ0 k29 n) x1 v5)
      else (
        bnd (x1 + (1 : Int32)) fun v7 =>
        bnd (x2 + (1 : Int32)) fun v9 =>
        (fB_climbers_L4 bg σ0 k29 n) v7 v9))

set_option maxHeartbeats 4000000 in
set_option maxRecDepth 100000 in
theorem wB_climbers_L4 {p : Program} {l : Launch} {e : Env} {s : State} {m : MethodId} {args : Array Value} {below : List Frame} {meth : Method} {c : Code} {G : XG} {σ0 : XS} {bg : Nat} {r : Int32} (hC : jC p s m args meth c cX0_climbers 3 RX0) (hr : meth.sig.returnType = some .int) (hbg : bg < 4) {k29 : Int32 → Option (Int32)} (hk29 : ∀ (x1 : Int32) (H : Heap) (locs : List Loc) (ls : Array Slot), xH G s (va_A (xW G σ0) s.heap.size) σ0 H locs → lv_has ls 3 [(1, .int x1)] → k29 x1 = some r → W p l e rmB_climbers s m args below meth c H locs 0 0 (MQ below (xQi G σ0 s.heap.size σ0 r) args s 0 0 (va_A (xW G σ0) s.heap.size)) (F0 m 29 ls [])) : ∀ (n : Nat) (x1 : Int32) (x2 : Int32) (H : Heap) (locs : List Loc) (ls : Array Slot), xH G s (va_A (xW G σ0) s.heap.size) σ0 H locs → lv_has ls 3 [(0, .ref (xA G (1 + bg))), (1, .int x1), (2, .int x2)] → fB_climbers_L4 bg σ0 k29 n x1 x2 = some r → W p l e rmB_climbers s m args below meth c H locs 0 0 (MQ below (xQi G σ0 s.heap.size σ0 r) args s 0 0 (va_A (xW G σ0) s.heap.size)) (F0 m 4 ls []) := by
  have hx := hC.1.1
  have hb := hC.1.2.1
  have hown := hC.1.2.2.2.1
  have hts := hC.1.2.2.2.2
  intro n
  induction n with
  | zero =>
    intro x1 x2 H locs ls  hH hl h
    rw [fB_climbers_L4] at h
    cases h
  | succ n ih =>
    intro x1 x2 H locs ls  hH hl h
    rw [fB_climbers_L4] at h
    refine lv_iload_n hx hb dX0_climbers_4 rfl (lv_at hl 2 rfl) ?_
    refine lv_aload_n hx hb dX0_climbers_5 rfl (lv_at hl 0 rfl) ?_
    refine x_get (C := RX0) (T := TX0) (N := 12) (v := .int (xi σ0 (1 + bg) 0)) hC hH (xe_B G σ0 hbg) rfl wyX0 0 (by decide) wfX0_9 rfl rfl dX0_climbers_6 ?_
    refine lv_icmp_ge (tgt := 29) hx hb dX0_climbers_9 (by decide) (fun c1 => ?_) (fun c1 => ?_)
    · have h := ite_t c1 h
      exact hk29 x1 H locs ls  hH (lv_sub hl [1] rfl) h
    · have h := ite_f c1 h
      refine lv_aload_n hx hb dX0_climbers_12 rfl (lv_at hl 0 rfl) ?_
      refine lv_iload_n hx hb dX0_climbers_13 rfl (lv_at hl 2 rfl) ?_
      obtain ⟨r3, h2, h⟩ := ob_some h
      refine x_calli (vw := (RX0, TX0, 12)) (As := [.int x2]) (rest := []) (cB_climbs l G σ0 bg x2 hbg h2) hC hH hl (xe_B G σ0 hbg) rfl (cwV 1 hts (gV wmX0_92 wvX0_climbs) rfl rfl rfl hdX0_climbs ⟨Nat.le_of_ble_eq_true rfl, Nat.le_of_ble_eq_true rfl⟩) rfl rfl (Nat.le_of_ble_eq_true rfl) ⟨Nat.zero_le _, Nat.zero_le _⟩ dX0_climbers_14 (fun H locs hH => ?_)
      refine lv_if_eq (tgt := 23) hx hb dX0_climbers_17 (by decide) (fun c4 => ?_) (fun c4 => ?_)
      · have h := ite_t c4 h
        obtain ⟨v5, e6, h⟩ := bnd_some h
        refine lv_iinc (v := v5) (lv' := [(2, .int v5), (0, .ref (xA G (1 + bg))), (1, .int x1)]) hx hb dX0_climbers_23 hl (k := 2) rfl (by rw [e6]; rfl) (by decide) rfl (fun ls hl => ?_)
        refine lv_goto (tgt := 4) hx hb dX0_climbers_26 (by decide) ?_
        exact ih x1 v5 H locs ls  hH (lv_sub hl [1, 2, 0] rfl) h
      · have h := ite_f c4 h
        obtain ⟨v7, e8, h⟩ := bnd_some h
        refine lv_iinc (v := v7) (lv' := [(1, .int v7), (0, .ref (xA G (1 + bg))), (2, .int x2)]) hx hb dX0_climbers_20 hl (k := 1) rfl (by rw [e8]; rfl) (by decide) rfl (fun ls hl => ?_)
        obtain ⟨v9, e10, h⟩ := bnd_some h
        refine lv_iinc (v := v9) (lv' := [(2, .int v9), (1, .int v7), (0, .ref (xA G (1 + bg)))]) hx hb dX0_climbers_23 hl (k := 2) rfl (by rw [e10]; rfl) (by decide) rfl (fun ls hl => ?_)
        refine lv_goto (tgt := 4) hx hb dX0_climbers_26 (by decide) ?_
        exact ih v7 v9 H locs ls  hH (lv_sub hl [2, 1, 0] rfl) h

def fB_climbers (σ0 : XS) (bg : Nat) : Option (Int32) :=
  fB_climbers_L4 bg σ0 (fun (x1 : Int32) => some x1) 10000 (0 : Int32) (1 : Int32)

set_option maxHeartbeats 4000000 in
set_option maxRecDepth 100000 in
theorem cB_climbers (l : Launch) (G : XG) (σ0 : XS) (bg : Nat) (hbg : bg < 4) {r : Int32} (h : fB_climbers σ0 bg = some r) : ∀ sz, Met l yX0_climbers (Cond.code yX0_climbers cX0_climbers 3 (some .int) :: Tw) rmB_climbers (xP G σ0 sz [.ref (xA G (1 + bg))]) (xQi G σ0 sz σ0 r) 0 0 (va_A (xW G σ0) sz) := by
  intro sz
  refine Met.ofW (cc := cX0_climbers) (maxL := 3) (ret := (some .int)) (by decide) rfl ?_
  intro p e s m args below meth c s₁ Bd hml hv
  obtain ⟨hC, hr⟩ := jC_of Bd hml
  obtain ⟨rfl, rfl, hH⟩ := x_enter hv
  have hC : jC p s m _ meth c cX0_climbers 3 RX0 := hC
  have hx := hC.1.1
  have hb := hC.1.2.1
  have hown := hC.1.2.2.2.1
  have hts := hC.1.2.2.2.2
  have hl := lv_entry ([.ref (xA G (1 + bg))]) (n := 3) (Nat.le_of_ble_eq_true rfl)
  rw [lg_entry_eq]
  generalize (lg_sl ([.ref (xA G (1 + bg))]) ++ List.replicate (3 - (lg_sl ([.ref (xA G (1 + bg))])).length) Slot.unset).toArray = ls at hl ⊢
  have hl : lv_has ls 3 [(0, .ref (xA G (1 + bg)))] := hl
  unfold fB_climbers at h
  refine W_nm (fun H locs eH eL => ?_)
  have hH : xH G s (va_A (xW G σ0) s.heap.size) σ0 H locs := by rw [eH, eL]; exact hH
  show W p l e rmB_climbers s m _ below meth c H locs 0 0 _ (F0 m 0 ls [])
  refine lv_iconst (v := 0) hx hb dX0_climbers_0 (by decide) ?_
  refine lv_istore_n (lv' := [(1, .int (0 : Int32)), (0, .ref (xA G (1 + bg)))]) hx hb dX0_climbers_1 rfl hl (by decide) rfl (fun ls hl => ?_)
  refine lv_iconst (v := 1) hx hb dX0_climbers_2 (by decide) ?_
  refine lv_istore_n (lv' := [(2, .int (1 : Int32)), (1, .int (0 : Int32)), (0, .ref (xA G (1 + bg)))]) hx hb dX0_climbers_3 rfl hl (by decide) rfl (fun ls hl => ?_)
  refine wB_climbers_L4 hC hr hbg  ?_ 10000 (0 : Int32) (1 : Int32) H locs ls  hH (lv_sub hl [2, 1, 0] rfl) h
  intro x1 H locs ls  hH hl h
  refine lv_iload_n hx hb dX0_climbers_29 rfl (lv_at hl 0 rfl) ?_
  obtain rfl := some_i1 h
  exact x_iret hC hH hr rfl dX0_climbers_30

def rmB_mess : Room := { frames := 0, cells := 0, slots := 0, locals := 0 }
theorem hdX0_mess : yX0_mess.cls = RX0 ∧ yX0_mess.cls ≠ "java/lang/invoke/MethodHandle" ∧ yX0_mess.cls ≠ "java/lang/invoke/VarHandle" ∧ (parseMethodDescriptor yX0_mess.desc).map (fun d => d.parameters.length) = some 0 := by decide +kernel

def fB_mess_L16 (bg : Nat) (σ0 : XS) (k58 : Int32 → Int32 → Option (Int32)) : Nat → Int32 → Int32 → Int32 → Option (Int32)
  | 0, _, _, _ => none
  | n + 1, x1, x2, x3 =>
    if (xi σ0 (1 + bg) 0) ≤ x3 then (
      k58 x1 x2)
    else (
      ck x3 (14) <|
      ck (xi σ0 (30 + 6 * bg + 5) (x3).toNatClampNeg) (14) <|
      ck x2 (14) <|
      ck (xi σ0 (30 + 6 * bg + 5) (x2).toNatClampNeg) (14) <|
      if (xi σ0 (30 + 6 * bg + 4) ((xi σ0 (30 + 6 * bg + 5) (x3).toNatClampNeg)).toNatClampNeg) ≤ (xi σ0 (30 + 6 * bg + 4) ((xi σ0 (30 + 6 * bg + 5) (x2).toNatClampNeg)).toNatClampNeg) then (
        bnd (x3 + (1 : Int32)) fun v10 =>
        (fB_mess_L16 bg σ0 k58 n) x1 x2 v10)
      else (
        bnd (x1 + (1 : Int32)) fun v12 =>
        bnd (x3 + (1 : Int32)) fun v14 =>
        (fB_mess_L16 bg σ0 k58 n) v12 x2 v14))

set_option maxHeartbeats 4000000 in
set_option maxRecDepth 100000 in
theorem wB_mess_L16 {p : Program} {l : Launch} {e : Env} {s : State} {m : MethodId} {args : Array Value} {below : List Frame} {meth : Method} {c : Code} {G : XG} {σ0 : XS} {bg : Nat} {r : Int32} (hC : jC p s m args meth c cX0_mess 4 RX0) (hr : meth.sig.returnType = some .int) (hbg : bg < 4) {k58 : Int32 → Int32 → Option (Int32)} (hk58 : ∀ (x1 : Int32) (x2 : Int32) (H : Heap) (locs : List Loc) (ls : Array Slot), xH G s (va_A (xW G σ0) s.heap.size) σ0 H locs → lv_has ls 4 [(0, .ref (xA G (1 + bg))), (1, .int x1), (2, .int x2)] → k58 x1 x2 = some r → W p l e rmB_mess s m args below meth c H locs 0 0 (MQ below (xQi G σ0 s.heap.size σ0 r) args s 0 0 (va_A (xW G σ0) s.heap.size)) (F0 m 58 ls [])) : ∀ (n : Nat) (x1 : Int32) (x2 : Int32) (x3 : Int32) (H : Heap) (locs : List Loc) (ls : Array Slot), xH G s (va_A (xW G σ0) s.heap.size) σ0 H locs → lv_has ls 4 [(0, .ref (xA G (1 + bg))), (1, .int x1), (2, .int x2), (3, .int x3)] → fB_mess_L16 bg σ0 k58 n x1 x2 x3 = some r → W p l e rmB_mess s m args below meth c H locs 0 0 (MQ below (xQi G σ0 s.heap.size σ0 r) args s 0 0 (va_A (xW G σ0) s.heap.size)) (F0 m 16 ls []) := by
  have hx := hC.1.1
  have hb := hC.1.2.1
  have hown := hC.1.2.2.2.1
  have hts := hC.1.2.2.2.2
  intro n
  induction n with
  | zero =>
    intro x1 x2 x3 H locs ls  hH hl h
    rw [fB_mess_L16] at h
    cases h
  | succ n ih =>
    intro x1 x2 x3 H locs ls  hH hl h
    rw [fB_mess_L16] at h
    refine lv_iload_n hx hb dX0_mess_16 rfl (lv_at hl 3 rfl) ?_
    refine lv_aload_n hx hb dX0_mess_17 rfl (lv_at hl 0 rfl) ?_
    refine x_get (C := RX0) (T := TX0) (N := 12) (v := .int (xi σ0 (1 + bg) 0)) hC hH (xe_B G σ0 hbg) rfl wyX0 0 (by decide) wfX0_9 rfl rfl dX0_mess_18 ?_
    refine lv_icmp_ge (tgt := 58) hx hb dX0_mess_21 (by decide) (fun c4 => ?_) (fun c4 => ?_)
    · have h := ite_t c4 h
      exact hk58 x1 x2 H locs ls  hH (lv_sub hl [0, 1, 2] rfl) h
    · have h := ite_f c4 h
      refine lv_aload_n hx hb dX0_mess_24 rfl (lv_at hl 0 rfl) ?_
      refine x_get (C := RX0) (T := TX0) (N := 12) (v := .ref (xA G (100 + (30 + 6 * bg + 4)))) hC hH (xe_B G σ0 hbg) rfl wyX0 5 (by decide) wfX0_28 rfl rfl dX0_mess_25 ?_
      refine lv_aload_n hx hb dX0_mess_28 rfl (lv_at hl 0 rfl) ?_
      refine x_get (C := RX0) (T := TX0) (N := 12) (v := .ref (xA G (100 + (30 + 6 * bg + 5)))) hC hH (xe_B G σ0 hbg) rfl wyX0 6 (by decide) wfX0_31 rfl rfl dX0_mess_29 ?_
      refine lv_iload_n hx hb dX0_mess_32 rfl (lv_at hl 3 rfl) ?_
      obtain ⟨i5, h⟩ := ck_some h
      refine x_ald hC hH (d := (30 + 6 * bg + 5)) (xIs_b hbg (by decide)) (xLen_b hbg (by decide)) rfl i5 dX0_mess_33 ?_
      obtain ⟨i6, h⟩ := ck_some h
      refine x_ald hC hH (d := (30 + 6 * bg + 4)) (xIs_b hbg (by decide)) (xLen_b hbg (by decide)) rfl i6 dX0_mess_34 ?_
      refine lv_aload_n hx hb dX0_mess_35 rfl (lv_at hl 0 rfl) ?_
      refine x_get (C := RX0) (T := TX0) (N := 12) (v := .ref (xA G (100 + (30 + 6 * bg + 4)))) hC hH (xe_B G σ0 hbg) rfl wyX0 5 (by decide) wfX0_28 rfl rfl dX0_mess_36 ?_
      refine lv_aload_n hx hb dX0_mess_39 rfl (lv_at hl 0 rfl) ?_
      refine x_get (C := RX0) (T := TX0) (N := 12) (v := .ref (xA G (100 + (30 + 6 * bg + 5)))) hC hH (xe_B G σ0 hbg) rfl wyX0 6 (by decide) wfX0_31 rfl rfl dX0_mess_40 ?_
      refine lv_iload_n hx hb dX0_mess_43 rfl (lv_at hl 2 rfl) ?_
      obtain ⟨i7, h⟩ := ck_some h
      refine x_ald hC hH (d := (30 + 6 * bg + 5)) (xIs_b hbg (by decide)) (xLen_b hbg (by decide)) rfl i7 dX0_mess_44 ?_
      obtain ⟨i8, h⟩ := ck_some h
      refine x_ald hC hH (d := (30 + 6 * bg + 4)) (xIs_b hbg (by decide)) (xLen_b hbg (by decide)) rfl i8 dX0_mess_45 ?_
      refine lv_icmp_le (tgt := 52) hx hb dX0_mess_46 (by decide) (fun c9 => ?_) (fun c9 => ?_)
      · have h := ite_t c9 h
        obtain ⟨v10, e11, h⟩ := bnd_some h
        refine lv_iinc (v := v10) (lv' := [(3, .int v10), (0, .ref (xA G (1 + bg))), (1, .int x1), (2, .int x2)]) hx hb dX0_mess_52 hl (k := 3) rfl (by rw [e11]; rfl) (by decide) rfl (fun ls hl => ?_)
        refine lv_goto (tgt := 16) hx hb dX0_mess_55 (by decide) ?_
        exact ih x1 x2 v10 H locs ls  hH (lv_sub hl [1, 2, 3, 0] rfl) h
      · have h := ite_f c9 h
        obtain ⟨v12, e13, h⟩ := bnd_some h
        refine lv_iinc (v := v12) (lv' := [(1, .int v12), (0, .ref (xA G (1 + bg))), (2, .int x2), (3, .int x3)]) hx hb dX0_mess_49 hl (k := 1) rfl (by rw [e13]; rfl) (by decide) rfl (fun ls hl => ?_)
        obtain ⟨v14, e15, h⟩ := bnd_some h
        refine lv_iinc (v := v14) (lv' := [(3, .int v14), (1, .int v12), (0, .ref (xA G (1 + bg))), (2, .int x2)]) hx hb dX0_mess_52 hl (k := 3) rfl (by rw [e15]; rfl) (by decide) rfl (fun ls hl => ?_)
        refine lv_goto (tgt := 16) hx hb dX0_mess_55 (by decide) ?_
        exact ih v12 x2 v14 H locs ls  hH (lv_sub hl [2, 1, 3, 0] rfl) h

def fB_mess_L4 (bg : Nat) (σ0 : XS) (k64 : Int32 → Option (Int32)) : Nat → Int32 → Int32 → Option (Int32)
  | 0, _, _ => none
  | n + 1, x1, x2 =>
    if (xi σ0 (1 + bg) 0) ≤ x2 then (
      k64 x1)
    else (
      bnd (x2 + (1 : Int32)) fun v2 =>
      fB_mess_L16 bg σ0 (fun (x1 : Int32) (x2 : Int32) => bnd (x2 + (1 : Int32)) fun v16 =>
        (fB_mess_L4 bg σ0 k64 n) x1 v16) 10000 x1 x2 v2)

set_option maxHeartbeats 4000000 in
set_option maxRecDepth 100000 in
theorem wB_mess_L4 {p : Program} {l : Launch} {e : Env} {s : State} {m : MethodId} {args : Array Value} {below : List Frame} {meth : Method} {c : Code} {G : XG} {σ0 : XS} {bg : Nat} {r : Int32} (hC : jC p s m args meth c cX0_mess 4 RX0) (hr : meth.sig.returnType = some .int) (hbg : bg < 4) {k64 : Int32 → Option (Int32)} (hk64 : ∀ (x1 : Int32) (H : Heap) (locs : List Loc) (ls : Array Slot), xH G s (va_A (xW G σ0) s.heap.size) σ0 H locs → lv_has ls 4 [(1, .int x1)] → k64 x1 = some r → W p l e rmB_mess s m args below meth c H locs 0 0 (MQ below (xQi G σ0 s.heap.size σ0 r) args s 0 0 (va_A (xW G σ0) s.heap.size)) (F0 m 64 ls [])) : ∀ (n : Nat) (x1 : Int32) (x2 : Int32) (H : Heap) (locs : List Loc) (ls : Array Slot), xH G s (va_A (xW G σ0) s.heap.size) σ0 H locs → lv_has ls 4 [(0, .ref (xA G (1 + bg))), (1, .int x1), (2, .int x2)] → fB_mess_L4 bg σ0 k64 n x1 x2 = some r → W p l e rmB_mess s m args below meth c H locs 0 0 (MQ below (xQi G σ0 s.heap.size σ0 r) args s 0 0 (va_A (xW G σ0) s.heap.size)) (F0 m 4 ls []) := by
  have hx := hC.1.1
  have hb := hC.1.2.1
  have hown := hC.1.2.2.2.1
  have hts := hC.1.2.2.2.2
  intro n
  induction n with
  | zero =>
    intro x1 x2 H locs ls  hH hl h
    rw [fB_mess_L4] at h
    cases h
  | succ n ih =>
    intro x1 x2 H locs ls  hH hl h
    rw [fB_mess_L4] at h
    refine lv_iload_n hx hb dX0_mess_4 rfl (lv_at hl 2 rfl) ?_
    refine lv_aload_n hx hb dX0_mess_5 rfl (lv_at hl 0 rfl) ?_
    refine x_get (C := RX0) (T := TX0) (N := 12) (v := .int (xi σ0 (1 + bg) 0)) hC hH (xe_B G σ0 hbg) rfl wyX0 0 (by decide) wfX0_9 rfl rfl dX0_mess_6 ?_
    refine lv_icmp_ge (tgt := 64) hx hb dX0_mess_9 (by decide) (fun c1 => ?_) (fun c1 => ?_)
    · have h := ite_t c1 h
      exact hk64 x1 H locs ls  hH (lv_sub hl [1] rfl) h
    · have h := ite_f c1 h
      refine lv_iload_n hx hb dX0_mess_12 rfl (lv_at hl 2 rfl) ?_
      refine lv_iconst (v := 1) hx hb dX0_mess_13 (by decide) ?_
      refine lv_iadd hx hb dX0_mess_14 ?_
      obtain ⟨v2, e3, h⟩ := bnd_some h
      refine lv_tope e3 ?_
      refine lv_istore_n (lv' := [(3, .int v2), (0, .ref (xA G (1 + bg))), (1, .int x1), (2, .int x2)]) hx hb dX0_mess_15 rfl hl (by decide) rfl (fun ls hl => ?_)
      refine wB_mess_L16 hC hr hbg  ?_ 10000 x1 x2 v2 H locs ls  hH (lv_sub hl [1, 2, 3, 0] rfl) h
      intro x1 x2 H locs ls  hH hl h
      obtain ⟨v16, e17, h⟩ := bnd_some h
      refine lv_iinc (v := v16) (lv' := [(2, .int v16), (0, .ref (xA G (1 + bg))), (1, .int x1)]) hx hb dX0_mess_58 hl (k := 2) rfl (by rw [e17]; rfl) (by decide) rfl (fun ls hl => ?_)
      refine lv_goto (tgt := 4) hx hb dX0_mess_61 (by decide) ?_
      exact ih x1 v16 H locs ls  hH (lv_sub hl [1, 2, 0] rfl) h

def fB_mess (σ0 : XS) (bg : Nat) : Option (Int32) :=
  fB_mess_L4 bg σ0 (fun (x1 : Int32) => some x1) 10000 (0 : Int32) (0 : Int32)

set_option maxHeartbeats 4000000 in
set_option maxRecDepth 100000 in
theorem cB_mess (l : Launch) (G : XG) (σ0 : XS) (bg : Nat) (hbg : bg < 4) {r : Int32} (h : fB_mess σ0 bg = some r) : ∀ sz, Met l yX0_mess (Cond.code yX0_mess cX0_mess 4 (some .int) :: Tw) rmB_mess (xP G σ0 sz [.ref (xA G (1 + bg))]) (xQi G σ0 sz σ0 r) 0 0 (va_A (xW G σ0) sz) := by
  intro sz
  refine Met.ofW (cc := cX0_mess) (maxL := 4) (ret := (some .int)) (by decide) rfl ?_
  intro p e s m args below meth c s₁ Bd hml hv
  obtain ⟨hC, hr⟩ := jC_of Bd hml
  obtain ⟨rfl, rfl, hH⟩ := x_enter hv
  have hC : jC p s m _ meth c cX0_mess 4 RX0 := hC
  have hx := hC.1.1
  have hb := hC.1.2.1
  have hown := hC.1.2.2.2.1
  have hts := hC.1.2.2.2.2
  have hl := lv_entry ([.ref (xA G (1 + bg))]) (n := 4) (Nat.le_of_ble_eq_true rfl)
  rw [lg_entry_eq]
  generalize (lg_sl ([.ref (xA G (1 + bg))]) ++ List.replicate (4 - (lg_sl ([.ref (xA G (1 + bg))])).length) Slot.unset).toArray = ls at hl ⊢
  have hl : lv_has ls 4 [(0, .ref (xA G (1 + bg)))] := hl
  unfold fB_mess at h
  refine W_nm (fun H locs eH eL => ?_)
  have hH : xH G s (va_A (xW G σ0) s.heap.size) σ0 H locs := by rw [eH, eL]; exact hH
  show W p l e rmB_mess s m _ below meth c H locs 0 0 _ (F0 m 0 ls [])
  refine lv_iconst (v := 0) hx hb dX0_mess_0 (by decide) ?_
  refine lv_istore_n (lv' := [(1, .int (0 : Int32)), (0, .ref (xA G (1 + bg)))]) hx hb dX0_mess_1 rfl hl (by decide) rfl (fun ls hl => ?_)
  refine lv_iconst (v := 0) hx hb dX0_mess_2 (by decide) ?_
  refine lv_istore_n (lv' := [(2, .int (0 : Int32)), (1, .int (0 : Int32)), (0, .ref (xA G (1 + bg)))]) hx hb dX0_mess_3 rfl hl (by decide) rfl (fun ls hl => ?_)
  refine wB_mess_L4 hC hr hbg  ?_ 10000 (0 : Int32) (0 : Int32) H locs ls  hH (lv_sub hl [2, 1, 0] rfl) h
  intro x1 H locs ls  hH hl h
  refine lv_iload_n hx hb dX0_mess_64 rfl (lv_at hl 0 rfl) ?_
  obtain rfl := some_i1 h
  exact x_iret hC hH hr rfl dX0_mess_65

def rmB_startsRow : Room := { frames := 0, cells := 0, slots := 0, locals := 0 }
theorem hdX0_startsRow : yX0_startsRow.cls = RX0 ∧ yX0_startsRow.cls ≠ "java/lang/invoke/MethodHandle" ∧ yX0_startsRow.cls ≠ "java/lang/invoke/VarHandle" ∧ (parseMethodDescriptor yX0_startsRow.desc).map (fun d => d.parameters.length) = some 1 := by decide +kernel

def fB_startsRow (σ0 : XS) (bg : Nat) (x1 : Int32) : Option (Int32) :=
  if x1 = 0 then (
    some (1 : Int32))
  else (
    ck x1 (14) <|
    ck (xi σ0 (30 + 6 * bg + 5) (x1).toNatClampNeg) (14) <|
    ck (x1 - (1 : Int32)) (14) <|
    ck (xi σ0 (30 + 6 * bg + 5) ((x1 - (1 : Int32))).toNatClampNeg) (14) <|
    if (xi σ0 (30 + 6 * bg + 2) ((xi σ0 (30 + 6 * bg + 5) (x1).toNatClampNeg)).toNatClampNeg) = (xi σ0 (30 + 6 * bg + 2) ((xi σ0 (30 + 6 * bg + 5) ((x1 - (1 : Int32))).toNatClampNeg)).toNatClampNeg) then (
      some (0 : Int32))
    else (
      some (1 : Int32)))

set_option maxHeartbeats 4000000 in
set_option maxRecDepth 100000 in
theorem cB_startsRow (l : Launch) (G : XG) (σ0 : XS) (bg : Nat) (x1 : Int32) (hbg : bg < 4) {r : Int32} (h : fB_startsRow σ0 bg x1 = some r) : ∀ sz, Met l yX0_startsRow (Cond.code yX0_startsRow cX0_startsRow 2 (some .boolean) :: Tw) rmB_startsRow (xP G σ0 sz [.ref (xA G (1 + bg)), .int x1]) (xQi G σ0 sz σ0 r) 0 0 (va_A (xW G σ0) sz) := by
  intro sz
  refine Met.ofW (cc := cX0_startsRow) (maxL := 2) (ret := (some .boolean)) (by decide) rfl ?_
  intro p e s m args below meth c s₁ Bd hml hv
  obtain ⟨hC, hr⟩ := jC_of Bd hml
  obtain ⟨rfl, rfl, hH⟩ := x_enter hv
  have hC : jC p s m _ meth c cX0_startsRow 2 RX0 := hC
  have hx := hC.1.1
  have hb := hC.1.2.1
  have hown := hC.1.2.2.2.1
  have hts := hC.1.2.2.2.2
  have hl := lv_entry ([.ref (xA G (1 + bg)), .int x1]) (n := 2) (Nat.le_of_ble_eq_true rfl)
  rw [lg_entry_eq]
  generalize (lg_sl ([.ref (xA G (1 + bg)), .int x1]) ++ List.replicate (2 - (lg_sl ([.ref (xA G (1 + bg)), .int x1])).length) Slot.unset).toArray = ls at hl ⊢
  have hl : lv_has ls 2 [(0, .ref (xA G (1 + bg))), (1, .int x1)] := hl
  unfold fB_startsRow at h
  refine W_nm (fun H locs eH eL => ?_)
  have hH : xH G s (va_A (xW G σ0) s.heap.size) σ0 H locs := by rw [eH, eL]; exact hH
  show W p l e rmB_startsRow s m _ below meth c H locs 0 0 _ (F0 m 0 ls [])
  refine lv_iload_n hx hb dX0_startsRow_0 rfl (lv_at hl 1 rfl) ?_
  refine lv_if_eq (tgt := 31) hx hb dX0_startsRow_1 (by decide) (fun c1 => ?_) (fun c1 => ?_)
  · have h := ite_t c1 h
    refine lv_iconst (v := 1) hx hb dX0_startsRow_31 (by decide) ?_
    refine lv_goto (tgt := 36) hx hb dX0_startsRow_32 (by decide) ?_
    obtain rfl := some_i1 h
    exact x_iret (v := 1) hC hH hr (by decide) dX0_startsRow_36
  · have h := ite_f c1 h
    refine lv_aload_n hx hb dX0_startsRow_4 rfl (lv_at hl 0 rfl) ?_
    refine x_get (C := RX0) (T := TX0) (N := 12) (v := .ref (xA G (100 + (30 + 6 * bg + 2)))) hC hH (xe_B G σ0 hbg) rfl wyX0 3 (by decide) wfX0_22 rfl rfl dX0_startsRow_5 ?_
    refine lv_aload_n hx hb dX0_startsRow_8 rfl (lv_at hl 0 rfl) ?_
    refine x_get (C := RX0) (T := TX0) (N := 12) (v := .ref (xA G (100 + (30 + 6 * bg + 5)))) hC hH (xe_B G σ0 hbg) rfl wyX0 6 (by decide) wfX0_31 rfl rfl dX0_startsRow_9 ?_
    refine lv_iload_n hx hb dX0_startsRow_12 rfl (lv_at hl 1 rfl) ?_
    obtain ⟨i2, h⟩ := ck_some h
    refine x_ald hC hH (d := (30 + 6 * bg + 5)) (xIs_b hbg (by decide)) (xLen_b hbg (by decide)) rfl i2 dX0_startsRow_13 ?_
    obtain ⟨i3, h⟩ := ck_some h
    refine x_ald hC hH (d := (30 + 6 * bg + 2)) (xIs_b hbg (by decide)) (xLen_b hbg (by decide)) rfl i3 dX0_startsRow_14 ?_
    refine lv_aload_n hx hb dX0_startsRow_15 rfl (lv_at hl 0 rfl) ?_
    refine x_get (C := RX0) (T := TX0) (N := 12) (v := .ref (xA G (100 + (30 + 6 * bg + 2)))) hC hH (xe_B G σ0 hbg) rfl wyX0 3 (by decide) wfX0_22 rfl rfl dX0_startsRow_16 ?_
    refine lv_aload_n hx hb dX0_startsRow_19 rfl (lv_at hl 0 rfl) ?_
    refine x_get (C := RX0) (T := TX0) (N := 12) (v := .ref (xA G (100 + (30 + 6 * bg + 5)))) hC hH (xe_B G σ0 hbg) rfl wyX0 6 (by decide) wfX0_31 rfl rfl dX0_startsRow_20 ?_
    refine lv_iload_n hx hb dX0_startsRow_23 rfl (lv_at hl 1 rfl) ?_
    refine lv_iconst (v := 1) hx hb dX0_startsRow_24 (by decide) ?_
    refine lv_isub hx hb dX0_startsRow_25 ?_
    obtain ⟨i4, h⟩ := ck_some h
    refine x_ald hC hH (d := (30 + 6 * bg + 5)) (xIs_b hbg (by decide)) (xLen_b hbg (by decide)) rfl i4 dX0_startsRow_26 ?_
    obtain ⟨i5, h⟩ := ck_some h
    refine x_ald hC hH (d := (30 + 6 * bg + 2)) (xIs_b hbg (by decide)) (xLen_b hbg (by decide)) rfl i5 dX0_startsRow_27 ?_
    refine lv_icmp_eq (tgt := 35) hx hb dX0_startsRow_28 (by decide) (fun c6 => ?_) (fun c6 => ?_)
    · have h := ite_t c6 h
      refine lv_iconst (v := 0) hx hb dX0_startsRow_35 (by decide) ?_
      obtain rfl := some_i1 h
      exact x_iret (v := 0) hC hH hr (by decide) dX0_startsRow_36
    · have h := ite_f c6 h
      refine lv_iconst (v := 1) hx hb dX0_startsRow_31 (by decide) ?_
      refine lv_goto (tgt := 36) hx hb dX0_startsRow_32 (by decide) ?_
      obtain rfl := some_i1 h
      exact x_iret (v := 1) hC hH hr (by decide) dX0_startsRow_36

def rmB_layers : Room := { frames := 1, cells := 0, slots := 0, locals := 21 }
theorem hdX0_layers : yX0_layers.cls = RX0 ∧ yX0_layers.cls ≠ "java/lang/invoke/MethodHandle" ∧ yX0_layers.cls ≠ "java/lang/invoke/VarHandle" ∧ (parseMethodDescriptor yX0_layers.desc).map (fun d => d.parameters.length) = some 0 := by decide +kernel

def fB_layers_L4 (bg : Nat) (σ0 : XS) (k29 : Int32 → Option (Int32)) : Nat → Int32 → Int32 → Option (Int32)
  | 0, _, _ => none
  | n + 1, x1, x2 =>
    if (xi σ0 (1 + bg) 0) ≤ x2 then (
      k29 x1)
    else (
      ob (fB_startsRow σ0 bg x2) fun r3 =>
      if r3 = 0 then (
        bnd (x2 + (1 : Int32)) fun v5 =>
        (fB_layers_L4 bg σ0 k29 n) x1 v5)
      else (
        bnd (x1 + (1 : Int32)) fun v7 =>
        bnd (x2 + (1 : Int32)) fun v9 =>
        (fB_layers_L4 bg σ0 k29 n) v7 v9))

set_option maxHeartbeats 4000000 in
set_option maxRecDepth 100000 in
theorem wB_layers_L4 {p : Program} {l : Launch} {e : Env} {s : State} {m : MethodId} {args : Array Value} {below : List Frame} {meth : Method} {c : Code} {G : XG} {σ0 : XS} {bg : Nat} {r : Int32} (hC : jC p s m args meth c cX0_layers 3 RX0) (hr : meth.sig.returnType = some .int) (hbg : bg < 4) {k29 : Int32 → Option (Int32)} (hk29 : ∀ (x1 : Int32) (H : Heap) (locs : List Loc) (ls : Array Slot), xH G s (va_A (xW G σ0) s.heap.size) σ0 H locs → lv_has ls 3 [(1, .int x1)] → k29 x1 = some r → W p l e rmB_layers s m args below meth c H locs 0 0 (MQ below (xQi G σ0 s.heap.size σ0 r) args s 0 0 (va_A (xW G σ0) s.heap.size)) (F0 m 29 ls [])) : ∀ (n : Nat) (x1 : Int32) (x2 : Int32) (H : Heap) (locs : List Loc) (ls : Array Slot), xH G s (va_A (xW G σ0) s.heap.size) σ0 H locs → lv_has ls 3 [(0, .ref (xA G (1 + bg))), (1, .int x1), (2, .int x2)] → fB_layers_L4 bg σ0 k29 n x1 x2 = some r → W p l e rmB_layers s m args below meth c H locs 0 0 (MQ below (xQi G σ0 s.heap.size σ0 r) args s 0 0 (va_A (xW G σ0) s.heap.size)) (F0 m 4 ls []) := by
  have hx := hC.1.1
  have hb := hC.1.2.1
  have hown := hC.1.2.2.2.1
  have hts := hC.1.2.2.2.2
  intro n
  induction n with
  | zero =>
    intro x1 x2 H locs ls  hH hl h
    rw [fB_layers_L4] at h
    cases h
  | succ n ih =>
    intro x1 x2 H locs ls  hH hl h
    rw [fB_layers_L4] at h
    refine lv_iload_n hx hb dX0_layers_4 rfl (lv_at hl 2 rfl) ?_
    refine lv_aload_n hx hb dX0_layers_5 rfl (lv_at hl 0 rfl) ?_
    refine x_get (C := RX0) (T := TX0) (N := 12) (v := .int (xi σ0 (1 + bg) 0)) hC hH (xe_B G σ0 hbg) rfl wyX0 0 (by decide) wfX0_9 rfl rfl dX0_layers_6 ?_
    refine lv_icmp_ge (tgt := 29) hx hb dX0_layers_9 (by decide) (fun c1 => ?_) (fun c1 => ?_)
    · have h := ite_t c1 h
      exact hk29 x1 H locs ls  hH (lv_sub hl [1] rfl) h
    · have h := ite_f c1 h
      refine lv_aload_n hx hb dX0_layers_12 rfl (lv_at hl 0 rfl) ?_
      refine lv_iload_n hx hb dX0_layers_13 rfl (lv_at hl 2 rfl) ?_
      obtain ⟨r3, h2, h⟩ := ob_some h
      refine x_calli (vw := (RX0, TX0, 12)) (As := [.int x2]) (rest := []) (cB_startsRow l G σ0 bg x2 hbg h2) hC hH hl (xe_B G σ0 hbg) rfl (cwV 1 hts (gV wmX0_106 wvX0_startsRow) rfl rfl rfl hdX0_startsRow ⟨Nat.le_of_ble_eq_true rfl, Nat.le_of_ble_eq_true rfl⟩) rfl rfl (Nat.le_of_ble_eq_true rfl) ⟨Nat.zero_le _, Nat.zero_le _⟩ dX0_layers_14 (fun H locs hH => ?_)
      refine lv_if_eq (tgt := 23) hx hb dX0_layers_17 (by decide) (fun c4 => ?_) (fun c4 => ?_)
      · have h := ite_t c4 h
        obtain ⟨v5, e6, h⟩ := bnd_some h
        refine lv_iinc (v := v5) (lv' := [(2, .int v5), (0, .ref (xA G (1 + bg))), (1, .int x1)]) hx hb dX0_layers_23 hl (k := 2) rfl (by rw [e6]; rfl) (by decide) rfl (fun ls hl => ?_)
        refine lv_goto (tgt := 4) hx hb dX0_layers_26 (by decide) ?_
        exact ih x1 v5 H locs ls  hH (lv_sub hl [1, 2, 0] rfl) h
      · have h := ite_f c4 h
        obtain ⟨v7, e8, h⟩ := bnd_some h
        refine lv_iinc (v := v7) (lv' := [(1, .int v7), (0, .ref (xA G (1 + bg))), (2, .int x2)]) hx hb dX0_layers_20 hl (k := 1) rfl (by rw [e8]; rfl) (by decide) rfl (fun ls hl => ?_)
        obtain ⟨v9, e10, h⟩ := bnd_some h
        refine lv_iinc (v := v9) (lv' := [(2, .int v9), (1, .int v7), (0, .ref (xA G (1 + bg)))]) hx hb dX0_layers_23 hl (k := 2) rfl (by rw [e10]; rfl) (by decide) rfl (fun ls hl => ?_)
        refine lv_goto (tgt := 4) hx hb dX0_layers_26 (by decide) ?_
        exact ih v7 v9 H locs ls  hH (lv_sub hl [2, 1, 0] rfl) h

def fB_layers (σ0 : XS) (bg : Nat) : Option (Int32) :=
  fB_layers_L4 bg σ0 (fun (x1 : Int32) => some x1) 10000 (0 : Int32) (0 : Int32)

set_option maxHeartbeats 4000000 in
set_option maxRecDepth 100000 in
theorem cB_layers (l : Launch) (G : XG) (σ0 : XS) (bg : Nat) (hbg : bg < 4) {r : Int32} (h : fB_layers σ0 bg = some r) : ∀ sz, Met l yX0_layers (Cond.code yX0_layers cX0_layers 3 (some .int) :: Tw) rmB_layers (xP G σ0 sz [.ref (xA G (1 + bg))]) (xQi G σ0 sz σ0 r) 0 0 (va_A (xW G σ0) sz) := by
  intro sz
  refine Met.ofW (cc := cX0_layers) (maxL := 3) (ret := (some .int)) (by decide) rfl ?_
  intro p e s m args below meth c s₁ Bd hml hv
  obtain ⟨hC, hr⟩ := jC_of Bd hml
  obtain ⟨rfl, rfl, hH⟩ := x_enter hv
  have hC : jC p s m _ meth c cX0_layers 3 RX0 := hC
  have hx := hC.1.1
  have hb := hC.1.2.1
  have hown := hC.1.2.2.2.1
  have hts := hC.1.2.2.2.2
  have hl := lv_entry ([.ref (xA G (1 + bg))]) (n := 3) (Nat.le_of_ble_eq_true rfl)
  rw [lg_entry_eq]
  generalize (lg_sl ([.ref (xA G (1 + bg))]) ++ List.replicate (3 - (lg_sl ([.ref (xA G (1 + bg))])).length) Slot.unset).toArray = ls at hl ⊢
  have hl : lv_has ls 3 [(0, .ref (xA G (1 + bg)))] := hl
  unfold fB_layers at h
  refine W_nm (fun H locs eH eL => ?_)
  have hH : xH G s (va_A (xW G σ0) s.heap.size) σ0 H locs := by rw [eH, eL]; exact hH
  show W p l e rmB_layers s m _ below meth c H locs 0 0 _ (F0 m 0 ls [])
  refine lv_iconst (v := 0) hx hb dX0_layers_0 (by decide) ?_
  refine lv_istore_n (lv' := [(1, .int (0 : Int32)), (0, .ref (xA G (1 + bg)))]) hx hb dX0_layers_1 rfl hl (by decide) rfl (fun ls hl => ?_)
  refine lv_iconst (v := 0) hx hb dX0_layers_2 (by decide) ?_
  refine lv_istore_n (lv' := [(2, .int (0 : Int32)), (1, .int (0 : Int32)), (0, .ref (xA G (1 + bg)))]) hx hb dX0_layers_3 rfl hl (by decide) rfl (fun ls hl => ?_)
  refine wB_layers_L4 hC hr hbg  ?_ 10000 (0 : Int32) (0 : Int32) H locs ls  hH (lv_sub hl [2, 1, 0] rfl) h
  intro x1 H locs ls  hH hl h
  refine lv_iload_n hx hb dX0_layers_29 rfl (lv_at hl 0 rfl) ?_
  obtain rfl := some_i1 h
  exact x_iret hC hH hr rfl dX0_layers_30

def rmB_rowsOf : Room := { frames := 1, cells := 0, slots := 0, locals := 21 }
theorem hdX0_rowsOf : yX0_rowsOf.cls = RX0 ∧ yX0_rowsOf.cls ≠ "java/lang/invoke/MethodHandle" ∧ yX0_rowsOf.cls ≠ "java/lang/invoke/VarHandle" ∧ (parseMethodDescriptor yX0_rowsOf.desc).map (fun d => d.parameters.length) = some 1 := by decide +kernel

def fB_rowsOf_L4 (bg : Nat) (σ0 : XS) (k44 : Int32 → Option (Int32)) : Nat → Int32 → Int32 → Int32 → Option (Int32)
  | 0, _, _, _ => none
  | n + 1, x1, x2, x3 =>
    if (xi σ0 (1 + bg) 0) ≤ x3 then (
      k44 x2)
    else (
      ck x3 (14) <|
      ck (xi σ0 (30 + 6 * bg + 5) (x3).toNatClampNeg) (14) <|
      if (xi σ0 (30 + 6 * bg + 2) ((xi σ0 (30 + 6 * bg + 5) (x3).toNatClampNeg)).toNatClampNeg) = x1 then (
        ob (fB_startsRow σ0 bg x3) fun r8 =>
        if r8 = 0 then (
          bnd (x3 + (1 : Int32)) fun v10 =>
          (fB_rowsOf_L4 bg σ0 k44 n) x1 x2 v10)
        else (
          bnd (x2 + (1 : Int32)) fun v12 =>
          bnd (x3 + (1 : Int32)) fun v14 =>
          (fB_rowsOf_L4 bg σ0 k44 n) x1 v12 v14))
      else (
        bnd (x3 + (1 : Int32)) fun v5 =>
        (fB_rowsOf_L4 bg σ0 k44 n) x1 x2 v5))

set_option maxHeartbeats 4000000 in
set_option maxRecDepth 100000 in
theorem wB_rowsOf_L4 {p : Program} {l : Launch} {e : Env} {s : State} {m : MethodId} {args : Array Value} {below : List Frame} {meth : Method} {c : Code} {G : XG} {σ0 : XS} {bg : Nat} {r : Int32} (hC : jC p s m args meth c cX0_rowsOf 4 RX0) (hr : meth.sig.returnType = some .int) (hbg : bg < 4) {k44 : Int32 → Option (Int32)} (hk44 : ∀ (x2 : Int32) (H : Heap) (locs : List Loc) (ls : Array Slot), xH G s (va_A (xW G σ0) s.heap.size) σ0 H locs → lv_has ls 4 [(2, .int x2)] → k44 x2 = some r → W p l e rmB_rowsOf s m args below meth c H locs 0 0 (MQ below (xQi G σ0 s.heap.size σ0 r) args s 0 0 (va_A (xW G σ0) s.heap.size)) (F0 m 44 ls [])) : ∀ (n : Nat) (x1 : Int32) (x2 : Int32) (x3 : Int32) (H : Heap) (locs : List Loc) (ls : Array Slot), xH G s (va_A (xW G σ0) s.heap.size) σ0 H locs → lv_has ls 4 [(0, .ref (xA G (1 + bg))), (1, .int x1), (2, .int x2), (3, .int x3)] → fB_rowsOf_L4 bg σ0 k44 n x1 x2 x3 = some r → W p l e rmB_rowsOf s m args below meth c H locs 0 0 (MQ below (xQi G σ0 s.heap.size σ0 r) args s 0 0 (va_A (xW G σ0) s.heap.size)) (F0 m 4 ls []) := by
  have hx := hC.1.1
  have hb := hC.1.2.1
  have hown := hC.1.2.2.2.1
  have hts := hC.1.2.2.2.2
  intro n
  induction n with
  | zero =>
    intro x1 x2 x3 H locs ls  hH hl h
    rw [fB_rowsOf_L4] at h
    cases h
  | succ n ih =>
    intro x1 x2 x3 H locs ls  hH hl h
    rw [fB_rowsOf_L4] at h
    refine lv_iload_n hx hb dX0_rowsOf_4 rfl (lv_at hl 3 rfl) ?_
    refine lv_aload_n hx hb dX0_rowsOf_5 rfl (lv_at hl 0 rfl) ?_
    refine x_get (C := RX0) (T := TX0) (N := 12) (v := .int (xi σ0 (1 + bg) 0)) hC hH (xe_B G σ0 hbg) rfl wyX0 0 (by decide) wfX0_9 rfl rfl dX0_rowsOf_6 ?_
    refine lv_icmp_ge (tgt := 44) hx hb dX0_rowsOf_9 (by decide) (fun c1 => ?_) (fun c1 => ?_)
    · have h := ite_t c1 h
      exact hk44 x2 H locs ls  hH (lv_sub hl [2] rfl) h
    · have h := ite_f c1 h
      refine lv_aload_n hx hb dX0_rowsOf_12 rfl (lv_at hl 0 rfl) ?_
      refine x_get (C := RX0) (T := TX0) (N := 12) (v := .ref (xA G (100 + (30 + 6 * bg + 2)))) hC hH (xe_B G σ0 hbg) rfl wyX0 3 (by decide) wfX0_22 rfl rfl dX0_rowsOf_13 ?_
      refine lv_aload_n hx hb dX0_rowsOf_16 rfl (lv_at hl 0 rfl) ?_
      refine x_get (C := RX0) (T := TX0) (N := 12) (v := .ref (xA G (100 + (30 + 6 * bg + 5)))) hC hH (xe_B G σ0 hbg) rfl wyX0 6 (by decide) wfX0_31 rfl rfl dX0_rowsOf_17 ?_
      refine lv_iload_n hx hb dX0_rowsOf_20 rfl (lv_at hl 3 rfl) ?_
      obtain ⟨i2, h⟩ := ck_some h
      refine x_ald hC hH (d := (30 + 6 * bg + 5)) (xIs_b hbg (by decide)) (xLen_b hbg (by decide)) rfl i2 dX0_rowsOf_21 ?_
      obtain ⟨i3, h⟩ := ck_some h
      refine x_ald hC hH (d := (30 + 6 * bg + 2)) (xIs_b hbg (by decide)) (xLen_b hbg (by decide)) rfl i3 dX0_rowsOf_22 ?_
      refine lv_iload_n hx hb dX0_rowsOf_23 rfl (lv_at hl 1 rfl) ?_
      refine lv_icmp_ne (tgt := 38) hx hb dX0_rowsOf_24 (by decide) (fun c4 => ?_) (fun c4 => ?_)
      · have h := ite_f c4 h
        obtain ⟨v5, e6, h⟩ := bnd_some h
        refine lv_iinc (v := v5) (lv' := [(3, .int v5), (0, .ref (xA G (1 + bg))), (1, .int x1), (2, .int x2)]) hx hb dX0_rowsOf_38 hl (k := 3) rfl (by rw [e6]; rfl) (by decide) rfl (fun ls hl => ?_)
        refine lv_goto (tgt := 4) hx hb dX0_rowsOf_41 (by decide) ?_
        exact ih x1 x2 v5 H locs ls  hH (lv_sub hl [1, 2, 3, 0] rfl) h
      · have h := ite_t c4 h
        refine lv_aload_n hx hb dX0_rowsOf_27 rfl (lv_at hl 0 rfl) ?_
        refine lv_iload_n hx hb dX0_rowsOf_28 rfl (lv_at hl 3 rfl) ?_
        obtain ⟨r8, h7, h⟩ := ob_some h
        refine x_calli (vw := (RX0, TX0, 12)) (As := [.int x3]) (rest := []) (cB_startsRow l G σ0 bg x3 hbg h7) hC hH hl (xe_B G σ0 hbg) rfl (cwV 1 hts (gV wmX0_106 wvX0_startsRow) rfl rfl rfl hdX0_startsRow ⟨Nat.le_of_ble_eq_true rfl, Nat.le_of_ble_eq_true rfl⟩) rfl rfl (Nat.le_of_ble_eq_true rfl) ⟨Nat.zero_le _, Nat.zero_le _⟩ dX0_rowsOf_29 (fun H locs hH => ?_)
        refine lv_if_eq (tgt := 38) hx hb dX0_rowsOf_32 (by decide) (fun c9 => ?_) (fun c9 => ?_)
        · have h := ite_t c9 h
          obtain ⟨v10, e11, h⟩ := bnd_some h
          refine lv_iinc (v := v10) (lv' := [(3, .int v10), (0, .ref (xA G (1 + bg))), (1, .int x1), (2, .int x2)]) hx hb dX0_rowsOf_38 hl (k := 3) rfl (by rw [e11]; rfl) (by decide) rfl (fun ls hl => ?_)
          refine lv_goto (tgt := 4) hx hb dX0_rowsOf_41 (by decide) ?_
          exact ih x1 x2 v10 H locs ls  hH (lv_sub hl [1, 2, 3, 0] rfl) h
        · have h := ite_f c9 h
          obtain ⟨v12, e13, h⟩ := bnd_some h
          refine lv_iinc (v := v12) (lv' := [(2, .int v12), (0, .ref (xA G (1 + bg))), (1, .int x1), (3, .int x3)]) hx hb dX0_rowsOf_35 hl (k := 2) rfl (by rw [e13]; rfl) (by decide) rfl (fun ls hl => ?_)
          obtain ⟨v14, e15, h⟩ := bnd_some h
          refine lv_iinc (v := v14) (lv' := [(3, .int v14), (2, .int v12), (0, .ref (xA G (1 + bg))), (1, .int x1)]) hx hb dX0_rowsOf_38 hl (k := 3) rfl (by rw [e15]; rfl) (by decide) rfl (fun ls hl => ?_)
          refine lv_goto (tgt := 4) hx hb dX0_rowsOf_41 (by decide) ?_
          exact ih x1 v12 v14 H locs ls  hH (lv_sub hl [2, 3, 1, 0] rfl) h

def fB_rowsOf (σ0 : XS) (bg : Nat) (x1 : Int32) : Option (Int32) :=
  fB_rowsOf_L4 bg σ0 (fun (x2 : Int32) => some x2) 10000 x1 (0 : Int32) (0 : Int32)

set_option maxHeartbeats 4000000 in
set_option maxRecDepth 100000 in
theorem cB_rowsOf (l : Launch) (G : XG) (σ0 : XS) (bg : Nat) (x1 : Int32) (hbg : bg < 4) {r : Int32} (h : fB_rowsOf σ0 bg x1 = some r) : ∀ sz, Met l yX0_rowsOf (Cond.code yX0_rowsOf cX0_rowsOf 4 (some .int) :: Tw) rmB_rowsOf (xP G σ0 sz [.ref (xA G (1 + bg)), .int x1]) (xQi G σ0 sz σ0 r) 0 0 (va_A (xW G σ0) sz) := by
  intro sz
  refine Met.ofW (cc := cX0_rowsOf) (maxL := 4) (ret := (some .int)) (by decide) rfl ?_
  intro p e s m args below meth c s₁ Bd hml hv
  obtain ⟨hC, hr⟩ := jC_of Bd hml
  obtain ⟨rfl, rfl, hH⟩ := x_enter hv
  have hC : jC p s m _ meth c cX0_rowsOf 4 RX0 := hC
  have hx := hC.1.1
  have hb := hC.1.2.1
  have hown := hC.1.2.2.2.1
  have hts := hC.1.2.2.2.2
  have hl := lv_entry ([.ref (xA G (1 + bg)), .int x1]) (n := 4) (Nat.le_of_ble_eq_true rfl)
  rw [lg_entry_eq]
  generalize (lg_sl ([.ref (xA G (1 + bg)), .int x1]) ++ List.replicate (4 - (lg_sl ([.ref (xA G (1 + bg)), .int x1])).length) Slot.unset).toArray = ls at hl ⊢
  have hl : lv_has ls 4 [(0, .ref (xA G (1 + bg))), (1, .int x1)] := hl
  unfold fB_rowsOf at h
  refine W_nm (fun H locs eH eL => ?_)
  have hH : xH G s (va_A (xW G σ0) s.heap.size) σ0 H locs := by rw [eH, eL]; exact hH
  show W p l e rmB_rowsOf s m _ below meth c H locs 0 0 _ (F0 m 0 ls [])
  refine lv_iconst (v := 0) hx hb dX0_rowsOf_0 (by decide) ?_
  refine lv_istore_n (lv' := [(2, .int (0 : Int32)), (0, .ref (xA G (1 + bg))), (1, .int x1)]) hx hb dX0_rowsOf_1 rfl hl (by decide) rfl (fun ls hl => ?_)
  refine lv_iconst (v := 0) hx hb dX0_rowsOf_2 (by decide) ?_
  refine lv_istore_n (lv' := [(3, .int (0 : Int32)), (2, .int (0 : Int32)), (0, .ref (xA G (1 + bg))), (1, .int x1)]) hx hb dX0_rowsOf_3 rfl hl (by decide) rfl (fun ls hl => ?_)
  refine wB_rowsOf_L4 hC hr hbg  ?_ 10000 x1 (0 : Int32) (0 : Int32) H locs ls  hH (lv_sub hl [2, 3, 1, 0] rfl) h
  intro x2 H locs ls  hH hl h
  refine lv_iload_n hx hb dX0_rowsOf_44 rfl (lv_at hl 0 rfl) ?_
  obtain rfl := some_i1 h
  exact x_iret hC hH hr rfl dX0_rowsOf_45

def rmB_thickOfAll : Room := { frames := 0, cells := 0, slots := 0, locals := 0 }
theorem hdX0_thickOfAll : yX0_thickOfAll.cls = RX0 ∧ yX0_thickOfAll.cls ≠ "java/lang/invoke/MethodHandle" ∧ yX0_thickOfAll.cls ≠ "java/lang/invoke/VarHandle" ∧ (parseMethodDescriptor yX0_thickOfAll.desc).map (fun d => d.parameters.length) = some 0 := by decide +kernel

def fB_thickOfAll_L4 (bg : Nat) (σ0 : XS) (k27 : Int32 → Option (Int32)) : Nat → Int32 → Int32 → Option (Int32)
  | 0, _, _ => none
  | n + 1, x1, x2 =>
    if (xi σ0 (1 + bg) 0) ≤ x2 then (
      k27 x1)
    else (
      ck x2 (14) <|
      bnd (x1 + (xi σ0 (30 + 6 * bg + 1) (x2).toNatClampNeg)) fun v3 =>
      bnd (x2 + (1 : Int32)) fun v5 =>
      (fB_thickOfAll_L4 bg σ0 k27 n) v3 v5)

set_option maxHeartbeats 4000000 in
set_option maxRecDepth 100000 in
theorem wB_thickOfAll_L4 {p : Program} {l : Launch} {e : Env} {s : State} {m : MethodId} {args : Array Value} {below : List Frame} {meth : Method} {c : Code} {G : XG} {σ0 : XS} {bg : Nat} {r : Int32} (hC : jC p s m args meth c cX0_thickOfAll 3 RX0) (hr : meth.sig.returnType = some .int) (hbg : bg < 4) {k27 : Int32 → Option (Int32)} (hk27 : ∀ (x1 : Int32) (H : Heap) (locs : List Loc) (ls : Array Slot), xH G s (va_A (xW G σ0) s.heap.size) σ0 H locs → lv_has ls 3 [(1, .int x1)] → k27 x1 = some r → W p l e rmB_thickOfAll s m args below meth c H locs 0 0 (MQ below (xQi G σ0 s.heap.size σ0 r) args s 0 0 (va_A (xW G σ0) s.heap.size)) (F0 m 27 ls [])) : ∀ (n : Nat) (x1 : Int32) (x2 : Int32) (H : Heap) (locs : List Loc) (ls : Array Slot), xH G s (va_A (xW G σ0) s.heap.size) σ0 H locs → lv_has ls 3 [(0, .ref (xA G (1 + bg))), (1, .int x1), (2, .int x2)] → fB_thickOfAll_L4 bg σ0 k27 n x1 x2 = some r → W p l e rmB_thickOfAll s m args below meth c H locs 0 0 (MQ below (xQi G σ0 s.heap.size σ0 r) args s 0 0 (va_A (xW G σ0) s.heap.size)) (F0 m 4 ls []) := by
  have hx := hC.1.1
  have hb := hC.1.2.1
  have hown := hC.1.2.2.2.1
  have hts := hC.1.2.2.2.2
  intro n
  induction n with
  | zero =>
    intro x1 x2 H locs ls  hH hl h
    rw [fB_thickOfAll_L4] at h
    cases h
  | succ n ih =>
    intro x1 x2 H locs ls  hH hl h
    rw [fB_thickOfAll_L4] at h
    refine lv_iload_n hx hb dX0_thickOfAll_4 rfl (lv_at hl 2 rfl) ?_
    refine lv_aload_n hx hb dX0_thickOfAll_5 rfl (lv_at hl 0 rfl) ?_
    refine x_get (C := RX0) (T := TX0) (N := 12) (v := .int (xi σ0 (1 + bg) 0)) hC hH (xe_B G σ0 hbg) rfl wyX0 0 (by decide) wfX0_9 rfl rfl dX0_thickOfAll_6 ?_
    refine lv_icmp_ge (tgt := 27) hx hb dX0_thickOfAll_9 (by decide) (fun c1 => ?_) (fun c1 => ?_)
    · have h := ite_t c1 h
      exact hk27 x1 H locs ls  hH (lv_sub hl [1] rfl) h
    · have h := ite_f c1 h
      refine lv_iload_n hx hb dX0_thickOfAll_12 rfl (lv_at hl 1 rfl) ?_
      refine lv_aload_n hx hb dX0_thickOfAll_13 rfl (lv_at hl 0 rfl) ?_
      refine x_get (C := RX0) (T := TX0) (N := 12) (v := .ref (xA G (100 + (30 + 6 * bg + 1)))) hC hH (xe_B G σ0 hbg) rfl wyX0 2 (by decide) wfX0_19 rfl rfl dX0_thickOfAll_14 ?_
      refine lv_iload_n hx hb dX0_thickOfAll_17 rfl (lv_at hl 2 rfl) ?_
      obtain ⟨i2, h⟩ := ck_some h
      refine x_ald hC hH (d := (30 + 6 * bg + 1)) (xIs_b hbg (by decide)) (xLen_b hbg (by decide)) rfl i2 dX0_thickOfAll_18 ?_
      refine lv_iadd hx hb dX0_thickOfAll_19 ?_
      obtain ⟨v3, e4, h⟩ := bnd_some h
      refine lv_tope e4 ?_
      refine lv_istore_n (lv' := [(1, .int v3), (0, .ref (xA G (1 + bg))), (2, .int x2)]) hx hb dX0_thickOfAll_20 rfl hl (by decide) rfl (fun ls hl => ?_)
      obtain ⟨v5, e6, h⟩ := bnd_some h
      refine lv_iinc (v := v5) (lv' := [(2, .int v5), (1, .int v3), (0, .ref (xA G (1 + bg)))]) hx hb dX0_thickOfAll_21 hl (k := 2) rfl (by rw [e6]; rfl) (by decide) rfl (fun ls hl => ?_)
      refine lv_goto (tgt := 4) hx hb dX0_thickOfAll_24 (by decide) ?_
      exact ih v3 v5 H locs ls  hH (lv_sub hl [2, 1, 0] rfl) h

def fB_thickOfAll (σ0 : XS) (bg : Nat) : Option (Int32) :=
  fB_thickOfAll_L4 bg σ0 (fun (x1 : Int32) => some x1) 10000 (0 : Int32) (0 : Int32)

set_option maxHeartbeats 4000000 in
set_option maxRecDepth 100000 in
theorem cB_thickOfAll (l : Launch) (G : XG) (σ0 : XS) (bg : Nat) (hbg : bg < 4) {r : Int32} (h : fB_thickOfAll σ0 bg = some r) : ∀ sz, Met l yX0_thickOfAll (Cond.code yX0_thickOfAll cX0_thickOfAll 3 (some .int) :: Tw) rmB_thickOfAll (xP G σ0 sz [.ref (xA G (1 + bg))]) (xQi G σ0 sz σ0 r) 0 0 (va_A (xW G σ0) sz) := by
  intro sz
  refine Met.ofW (cc := cX0_thickOfAll) (maxL := 3) (ret := (some .int)) (by decide) rfl ?_
  intro p e s m args below meth c s₁ Bd hml hv
  obtain ⟨hC, hr⟩ := jC_of Bd hml
  obtain ⟨rfl, rfl, hH⟩ := x_enter hv
  have hC : jC p s m _ meth c cX0_thickOfAll 3 RX0 := hC
  have hx := hC.1.1
  have hb := hC.1.2.1
  have hown := hC.1.2.2.2.1
  have hts := hC.1.2.2.2.2
  have hl := lv_entry ([.ref (xA G (1 + bg))]) (n := 3) (Nat.le_of_ble_eq_true rfl)
  rw [lg_entry_eq]
  generalize (lg_sl ([.ref (xA G (1 + bg))]) ++ List.replicate (3 - (lg_sl ([.ref (xA G (1 + bg))])).length) Slot.unset).toArray = ls at hl ⊢
  have hl : lv_has ls 3 [(0, .ref (xA G (1 + bg)))] := hl
  unfold fB_thickOfAll at h
  refine W_nm (fun H locs eH eL => ?_)
  have hH : xH G s (va_A (xW G σ0) s.heap.size) σ0 H locs := by rw [eH, eL]; exact hH
  show W p l e rmB_thickOfAll s m _ below meth c H locs 0 0 _ (F0 m 0 ls [])
  refine lv_iconst (v := 0) hx hb dX0_thickOfAll_0 (by decide) ?_
  refine lv_istore_n (lv' := [(1, .int (0 : Int32)), (0, .ref (xA G (1 + bg)))]) hx hb dX0_thickOfAll_1 rfl hl (by decide) rfl (fun ls hl => ?_)
  refine lv_iconst (v := 0) hx hb dX0_thickOfAll_2 (by decide) ?_
  refine lv_istore_n (lv' := [(2, .int (0 : Int32)), (1, .int (0 : Int32)), (0, .ref (xA G (1 + bg)))]) hx hb dX0_thickOfAll_3 rfl hl (by decide) rfl (fun ls hl => ?_)
  refine wB_thickOfAll_L4 hC hr hbg  ?_ 10000 (0 : Int32) (0 : Int32) H locs ls  hH (lv_sub hl [2, 1, 0] rfl) h
  intro x1 H locs ls  hH hl h
  refine lv_iload_n hx hb dX0_thickOfAll_27 rfl (lv_at hl 0 rfl) ?_
  obtain rfl := some_i1 h
  exact x_iret hC hH hr rfl dX0_thickOfAll_28

def rmB_thickOnTop : Room := { frames := 0, cells := 0, slots := 0, locals := 0 }
theorem hdX0_thickOnTop : yX0_thickOnTop.cls = RX0 ∧ yX0_thickOnTop.cls ≠ "java/lang/invoke/MethodHandle" ∧ yX0_thickOnTop.cls ≠ "java/lang/invoke/VarHandle" ∧ (parseMethodDescriptor yX0_thickOnTop.desc).map (fun d => d.parameters.length) = some 0 := by decide +kernel

def fB_thickOnTop (σ0 : XS) (bg : Nat) : Option (Int32) :=
  if (xi σ0 (1 + bg) 0) = 0 then (
    some (0 : Int32))
  else (
    ck (xi σ0 (30 + 6 * bg + 5) 0) (14) <|
    some (xi σ0 (30 + 6 * bg + 1) ((xi σ0 (30 + 6 * bg + 5) 0)).toNatClampNeg))

set_option maxHeartbeats 4000000 in
set_option maxRecDepth 100000 in
theorem cB_thickOnTop (l : Launch) (G : XG) (σ0 : XS) (bg : Nat) (hbg : bg < 4) {r : Int32} (h : fB_thickOnTop σ0 bg = some r) : ∀ sz, Met l yX0_thickOnTop (Cond.code yX0_thickOnTop cX0_thickOnTop 1 (some .int) :: Tw) rmB_thickOnTop (xP G σ0 sz [.ref (xA G (1 + bg))]) (xQi G σ0 sz σ0 r) 0 0 (va_A (xW G σ0) sz) := by
  intro sz
  refine Met.ofW (cc := cX0_thickOnTop) (maxL := 1) (ret := (some .int)) (by decide) rfl ?_
  intro p e s m args below meth c s₁ Bd hml hv
  obtain ⟨hC, hr⟩ := jC_of Bd hml
  obtain ⟨rfl, rfl, hH⟩ := x_enter hv
  have hC : jC p s m _ meth c cX0_thickOnTop 1 RX0 := hC
  have hx := hC.1.1
  have hb := hC.1.2.1
  have hown := hC.1.2.2.2.1
  have hts := hC.1.2.2.2.2
  have hl := lv_entry ([.ref (xA G (1 + bg))]) (n := 1) (Nat.le_of_ble_eq_true rfl)
  rw [lg_entry_eq]
  generalize (lg_sl ([.ref (xA G (1 + bg))]) ++ List.replicate (1 - (lg_sl ([.ref (xA G (1 + bg))])).length) Slot.unset).toArray = ls at hl ⊢
  have hl : lv_has ls 1 [(0, .ref (xA G (1 + bg)))] := hl
  unfold fB_thickOnTop at h
  refine W_nm (fun H locs eH eL => ?_)
  have hH : xH G s (va_A (xW G σ0) s.heap.size) σ0 H locs := by rw [eH, eL]; exact hH
  show W p l e rmB_thickOnTop s m _ below meth c H locs 0 0 _ (F0 m 0 ls [])
  refine lv_aload_n hx hb dX0_thickOnTop_0 rfl (lv_at hl 0 rfl) ?_
  refine x_get (C := RX0) (T := TX0) (N := 12) (v := .int (xi σ0 (1 + bg) 0)) hC hH (xe_B G σ0 hbg) rfl wyX0 0 (by decide) wfX0_9 rfl rfl dX0_thickOnTop_1 ?_
  refine lv_if_ne (tgt := 11) hx hb dX0_thickOnTop_4 (by decide) (fun c1 => ?_) (fun c1 => ?_)
  · have h := ite_f c1 h
    refine lv_aload_n hx hb dX0_thickOnTop_11 rfl (lv_at hl 0 rfl) ?_
    refine x_get (C := RX0) (T := TX0) (N := 12) (v := .ref (xA G (100 + (30 + 6 * bg + 1)))) hC hH (xe_B G σ0 hbg) rfl wyX0 2 (by decide) wfX0_19 rfl rfl dX0_thickOnTop_12 ?_
    refine lv_aload_n hx hb dX0_thickOnTop_15 rfl (lv_at hl 0 rfl) ?_
    refine x_get (C := RX0) (T := TX0) (N := 12) (v := .ref (xA G (100 + (30 + 6 * bg + 5)))) hC hH (xe_B G σ0 hbg) rfl wyX0 6 (by decide) wfX0_31 rfl rfl dX0_thickOnTop_16 ?_
    refine lv_iconst (v := 0) hx hb dX0_thickOnTop_19 (by decide) ?_
    refine x_ald hC hH (d := (30 + 6 * bg + 5)) (xIs_b hbg (by decide)) (xLen_b hbg (by decide)) rfl (vp_b rfl) dX0_thickOnTop_20 ?_
    obtain ⟨i2, h⟩ := ck_some h
    refine x_ald hC hH (d := (30 + 6 * bg + 1)) (xIs_b hbg (by decide)) (xLen_b hbg (by decide)) rfl i2 dX0_thickOnTop_21 ?_
    obtain rfl := some_i1 h
    exact x_iret hC hH hr rfl dX0_thickOnTop_22
  · have h := ite_t c1 h
    refine lv_iconst (v := 0) hx hb dX0_thickOnTop_7 (by decide) ?_
    refine lv_goto (tgt := 22) hx hb dX0_thickOnTop_8 (by decide) ?_
    obtain rfl := some_i1 h
    exact x_iret (v := 0) hC hH hr rfl dX0_thickOnTop_22

def rmJ_bitCount_0f7a4 : Room := { frames := 0, cells := 0, slots := 0, locals := 0 }
theorem hdJ6_bitCount_0f7a4 : yJ6_bitCount_0f7a4.cls ≠ "java/lang/invoke/MethodHandle" ∧ yJ6_bitCount_0f7a4.cls ≠ "java/lang/invoke/VarHandle" ∧ (parseMethodDescriptor yJ6_bitCount_0f7a4.desc).map (fun d => d.parameters.length) = some 1 := by decide +kernel

def fJ_bitCount_0f7a4 (σ0 : XS) (x0 : Int32) : Option (Int32) :=
  bnd (x0 - (((x0).toUInt32 >>> (((1 : Int32)).toUInt32 &&& Int32.toUInt32 31)).toInt32 &&& (1431655765 : Int32))) fun v1 =>
  bnd ((v1 &&& (858993459 : Int32)) + (((v1).toUInt32 >>> (((2 : Int32)).toUInt32 &&& Int32.toUInt32 31)).toInt32 &&& (858993459 : Int32))) fun v3 =>
  bnd ((v3 + ((v3).toUInt32 >>> (((4 : Int32)).toUInt32 &&& Int32.toUInt32 31)).toInt32) &&& (252645135 : Int32)) fun v5 =>
  bnd (v5 + ((v5).toUInt32 >>> (((8 : Int32)).toUInt32 &&& Int32.toUInt32 31)).toInt32) fun v7 =>
  bnd (v7 + ((v7).toUInt32 >>> (((16 : Int32)).toUInt32 &&& Int32.toUInt32 31)).toInt32) fun v9 =>
  some (v9 &&& (63 : Int32))

set_option maxHeartbeats 4000000 in
set_option maxRecDepth 100000 in
theorem cJ_bitCount_0f7a4 (l : Launch) (G : XG) (σ0 : XS) (x0 : Int32) {r : Int32} (h : fJ_bitCount_0f7a4 σ0 x0 = some r) : ∀ sz, Met l yJ6_bitCount_0f7a4 (Cond.code yJ6_bitCount_0f7a4 cJ6_bitCount_0f7a4 1 (some .int) :: Tw) rmJ_bitCount_0f7a4 (xP G σ0 sz [.int x0]) (xQi G σ0 sz σ0 r) 0 0 (va_A (xW G σ0) sz) := by
  intro sz
  refine Met.ofW (cc := cJ6_bitCount_0f7a4) (maxL := 1) (ret := (some .int)) (by decide) rfl ?_
  intro p e s m args below meth c s₁ Bd hml hv
  obtain ⟨hC, hr⟩ := jC_of Bd hml
  obtain ⟨rfl, rfl, hH⟩ := x_enter hv
  have hC : jC p s m _ meth c cJ6_bitCount_0f7a4 1 RJ6 := hC
  have hx := hC.1.1
  have hb := hC.1.2.1
  have hown := hC.1.2.2.2.1
  have hts := hC.1.2.2.2.2
  have hl := lv_entry ([.int x0]) (n := 1) (Nat.le_of_ble_eq_true rfl)
  rw [lg_entry_eq]
  generalize (lg_sl ([.int x0]) ++ List.replicate (1 - (lg_sl ([.int x0])).length) Slot.unset).toArray = ls at hl ⊢
  have hl : lv_has ls 1 [(0, .int x0)] := hl
  unfold fJ_bitCount_0f7a4 at h
  refine W_nm (fun H locs eH eL => ?_)
  have hH : xH G s (va_A (xW G σ0) s.heap.size) σ0 H locs := by rw [eH, eL]; exact hH
  show W p l e rmJ_bitCount_0f7a4 s m _ below meth c H locs 0 0 _ (F0 m 0 ls [])
  refine lv_iload_n hx hb dJ6_bitCount_0f7a4_0 rfl (lv_at hl 0 rfl) ?_
  refine lv_iload_n hx hb dJ6_bitCount_0f7a4_1 rfl (lv_at hl 0 rfl) ?_
  refine lv_iconst (v := 1) hx hb dJ6_bitCount_0f7a4_2 (by decide) ?_
  refine t_iushr hx hb dJ6_bitCount_0f7a4_3 rfl ?_
  refine lv_ldcw (v := 1431655765) hx hb hown (hts _ wkJ6_265) dJ6_bitCount_0f7a4_4 ?_
  refine lv_iand hx hb dJ6_bitCount_0f7a4_7 ?_
  refine lv_isub hx hb dJ6_bitCount_0f7a4_8 ?_
  obtain ⟨v1, e2, h⟩ := bnd_some h
  refine lv_tope e2 ?_
  refine lv_istore_n (lv' := [(0, .int v1)]) hx hb dJ6_bitCount_0f7a4_9 rfl hl (by decide) rfl (fun ls hl => ?_)
  refine lv_iload_n hx hb dJ6_bitCount_0f7a4_10 rfl (lv_at hl 0 rfl) ?_
  refine lv_ldcw (v := 858993459) hx hb hown (hts _ wkJ6_266) dJ6_bitCount_0f7a4_11 ?_
  refine lv_iand hx hb dJ6_bitCount_0f7a4_14 ?_
  refine lv_iload_n hx hb dJ6_bitCount_0f7a4_15 rfl (lv_at hl 0 rfl) ?_
  refine lv_iconst (v := 2) hx hb dJ6_bitCount_0f7a4_16 (by decide) ?_
  refine t_iushr hx hb dJ6_bitCount_0f7a4_17 rfl ?_
  refine lv_ldcw (v := 858993459) hx hb hown (hts _ wkJ6_266) dJ6_bitCount_0f7a4_18 ?_
  refine lv_iand hx hb dJ6_bitCount_0f7a4_21 ?_
  refine lv_iadd hx hb dJ6_bitCount_0f7a4_22 ?_
  obtain ⟨v3, e4, h⟩ := bnd_some h
  refine lv_tope e4 ?_
  refine lv_istore_n (lv' := [(0, .int v3)]) hx hb dJ6_bitCount_0f7a4_23 rfl hl (by decide) rfl (fun ls hl => ?_)
  refine lv_iload_n hx hb dJ6_bitCount_0f7a4_24 rfl (lv_at hl 0 rfl) ?_
  refine lv_iload_n hx hb dJ6_bitCount_0f7a4_25 rfl (lv_at hl 0 rfl) ?_
  refine lv_iconst (v := 4) hx hb dJ6_bitCount_0f7a4_26 (by decide) ?_
  refine t_iushr hx hb dJ6_bitCount_0f7a4_27 rfl ?_
  refine lv_iadd hx hb dJ6_bitCount_0f7a4_28 ?_
  refine lv_ldcw (v := 252645135) hx hb hown (hts _ wkJ6_267) dJ6_bitCount_0f7a4_29 ?_
  refine lv_iand hx hb dJ6_bitCount_0f7a4_32 ?_
  obtain ⟨v5, e6, h⟩ := bnd_some h
  refine lv_tope e6 ?_
  refine lv_istore_n (lv' := [(0, .int v5)]) hx hb dJ6_bitCount_0f7a4_33 rfl hl (by decide) rfl (fun ls hl => ?_)
  refine lv_iload_n hx hb dJ6_bitCount_0f7a4_34 rfl (lv_at hl 0 rfl) ?_
  refine lv_iload_n hx hb dJ6_bitCount_0f7a4_35 rfl (lv_at hl 0 rfl) ?_
  refine lv_bipush (v := 8) hx hb dJ6_bitCount_0f7a4_36 (by decide) ?_
  refine t_iushr hx hb dJ6_bitCount_0f7a4_38 rfl ?_
  refine lv_iadd hx hb dJ6_bitCount_0f7a4_39 ?_
  obtain ⟨v7, e8, h⟩ := bnd_some h
  refine lv_tope e8 ?_
  refine lv_istore_n (lv' := [(0, .int v7)]) hx hb dJ6_bitCount_0f7a4_40 rfl hl (by decide) rfl (fun ls hl => ?_)
  refine lv_iload_n hx hb dJ6_bitCount_0f7a4_41 rfl (lv_at hl 0 rfl) ?_
  refine lv_iload_n hx hb dJ6_bitCount_0f7a4_42 rfl (lv_at hl 0 rfl) ?_
  refine lv_bipush (v := 16) hx hb dJ6_bitCount_0f7a4_43 (by decide) ?_
  refine t_iushr hx hb dJ6_bitCount_0f7a4_45 rfl ?_
  refine lv_iadd hx hb dJ6_bitCount_0f7a4_46 ?_
  obtain ⟨v9, e10, h⟩ := bnd_some h
  refine lv_tope e10 ?_
  refine lv_istore_n (lv' := [(0, .int v9)]) hx hb dJ6_bitCount_0f7a4_47 rfl hl (by decide) rfl (fun ls hl => ?_)
  refine lv_iload_n hx hb dJ6_bitCount_0f7a4_48 rfl (lv_at hl 0 rfl) ?_
  refine lv_bipush (v := 63) hx hb dJ6_bitCount_0f7a4_49 (by decide) ?_
  refine lv_iand hx hb dJ6_bitCount_0f7a4_51 ?_
  obtain rfl := some_i1 h
  exact x_iret hC hH hr rfl dJ6_bitCount_0f7a4_52

def rmB_townCount : Room := { frames := 1, cells := 0, slots := 0, locals := 20 }
theorem hdX0_townCount : yX0_townCount.cls = RX0 ∧ yX0_townCount.cls ≠ "java/lang/invoke/MethodHandle" ∧ yX0_townCount.cls ≠ "java/lang/invoke/VarHandle" ∧ (parseMethodDescriptor yX0_townCount.desc).map (fun d => d.parameters.length) = some 0 := by decide +kernel

def fB_townCount_L4 (bg : Nat) (σ0 : XS) (k29 : Int32 → Option (Int32)) : Nat → Int32 → Int32 → Option (Int32)
  | 0, _, _ => none
  | n + 1, x1, x2 =>
    if (xi σ0 (1 + bg) 0) ≤ x2 then (
      k29 x1)
    else (
      ck x2 (14) <|
      bnd (x1 ||| ((1 : Int32) <<< ((xi σ0 (30 + 6 * bg + 2) (x2).toNatClampNeg) &&& 31))) fun v3 =>
      bnd (x2 + (1 : Int32)) fun v5 =>
      (fB_townCount_L4 bg σ0 k29 n) v3 v5)

set_option maxHeartbeats 4000000 in
set_option maxRecDepth 100000 in
theorem wB_townCount_L4 {p : Program} {l : Launch} {e : Env} {s : State} {m : MethodId} {args : Array Value} {below : List Frame} {meth : Method} {c : Code} {G : XG} {σ0 : XS} {bg : Nat} {r : Int32} (hC : jC p s m args meth c cX0_townCount 3 RX0) (hr : meth.sig.returnType = some .int) (hbg : bg < 4) {k29 : Int32 → Option (Int32)} (hk29 : ∀ (x1 : Int32) (H : Heap) (locs : List Loc) (ls : Array Slot), xH G s (va_A (xW G σ0) s.heap.size) σ0 H locs → lv_has ls 3 [(1, .int x1)] → k29 x1 = some r → W p l e rmB_townCount s m args below meth c H locs 0 0 (MQ below (xQi G σ0 s.heap.size σ0 r) args s 0 0 (va_A (xW G σ0) s.heap.size)) (F0 m 29 ls [])) : ∀ (n : Nat) (x1 : Int32) (x2 : Int32) (H : Heap) (locs : List Loc) (ls : Array Slot), xH G s (va_A (xW G σ0) s.heap.size) σ0 H locs → lv_has ls 3 [(0, .ref (xA G (1 + bg))), (1, .int x1), (2, .int x2)] → fB_townCount_L4 bg σ0 k29 n x1 x2 = some r → W p l e rmB_townCount s m args below meth c H locs 0 0 (MQ below (xQi G σ0 s.heap.size σ0 r) args s 0 0 (va_A (xW G σ0) s.heap.size)) (F0 m 4 ls []) := by
  have hx := hC.1.1
  have hb := hC.1.2.1
  have hown := hC.1.2.2.2.1
  have hts := hC.1.2.2.2.2
  intro n
  induction n with
  | zero =>
    intro x1 x2 H locs ls  hH hl h
    rw [fB_townCount_L4] at h
    cases h
  | succ n ih =>
    intro x1 x2 H locs ls  hH hl h
    rw [fB_townCount_L4] at h
    refine lv_iload_n hx hb dX0_townCount_4 rfl (lv_at hl 2 rfl) ?_
    refine lv_aload_n hx hb dX0_townCount_5 rfl (lv_at hl 0 rfl) ?_
    refine x_get (C := RX0) (T := TX0) (N := 12) (v := .int (xi σ0 (1 + bg) 0)) hC hH (xe_B G σ0 hbg) rfl wyX0 0 (by decide) wfX0_9 rfl rfl dX0_townCount_6 ?_
    refine lv_icmp_ge (tgt := 29) hx hb dX0_townCount_9 (by decide) (fun c1 => ?_) (fun c1 => ?_)
    · have h := ite_t c1 h
      exact hk29 x1 H locs ls  hH (lv_sub hl [1] rfl) h
    · have h := ite_f c1 h
      refine lv_iload_n hx hb dX0_townCount_12 rfl (lv_at hl 1 rfl) ?_
      refine lv_iconst (v := 1) hx hb dX0_townCount_13 (by decide) ?_
      refine lv_aload_n hx hb dX0_townCount_14 rfl (lv_at hl 0 rfl) ?_
      refine x_get (C := RX0) (T := TX0) (N := 12) (v := .ref (xA G (100 + (30 + 6 * bg + 2)))) hC hH (xe_B G σ0 hbg) rfl wyX0 3 (by decide) wfX0_22 rfl rfl dX0_townCount_15 ?_
      refine lv_iload_n hx hb dX0_townCount_18 rfl (lv_at hl 2 rfl) ?_
      obtain ⟨i2, h⟩ := ck_some h
      refine x_ald hC hH (d := (30 + 6 * bg + 2)) (xIs_b hbg (by decide)) (xLen_b hbg (by decide)) rfl i2 dX0_townCount_19 ?_
      refine lv_ishl hx hb dX0_townCount_20 ?_
      refine lv_ior hx hb dX0_townCount_21 ?_
      obtain ⟨v3, e4, h⟩ := bnd_some h
      refine lv_tope e4 ?_
      refine lv_istore_n (lv' := [(1, .int v3), (0, .ref (xA G (1 + bg))), (2, .int x2)]) hx hb dX0_townCount_22 rfl hl (by decide) rfl (fun ls hl => ?_)
      obtain ⟨v5, e6, h⟩ := bnd_some h
      refine lv_iinc (v := v5) (lv' := [(2, .int v5), (1, .int v3), (0, .ref (xA G (1 + bg)))]) hx hb dX0_townCount_23 hl (k := 2) rfl (by rw [e6]; rfl) (by decide) rfl (fun ls hl => ?_)
      refine lv_goto (tgt := 4) hx hb dX0_townCount_26 (by decide) ?_
      exact ih v3 v5 H locs ls  hH (lv_sub hl [2, 1, 0] rfl) h

def fB_townCount (σ0 : XS) (bg : Nat) : Option (Int32) :=
  fB_townCount_L4 bg σ0 (fun (x1 : Int32) => ob (fJ_bitCount_0f7a4 σ0 x1) fun r8 =>
    some r8) 10000 (0 : Int32) (0 : Int32)

set_option maxHeartbeats 4000000 in
set_option maxRecDepth 100000 in
theorem cB_townCount (l : Launch) (G : XG) (σ0 : XS) (bg : Nat) (hbg : bg < 4) {r : Int32} (h : fB_townCount σ0 bg = some r) : ∀ sz, Met l yX0_townCount (Cond.code yX0_townCount cX0_townCount 3 (some .int) :: Tw) rmB_townCount (xP G σ0 sz [.ref (xA G (1 + bg))]) (xQi G σ0 sz σ0 r) 0 0 (va_A (xW G σ0) sz) := by
  intro sz
  refine Met.ofW (cc := cX0_townCount) (maxL := 3) (ret := (some .int)) (by decide) rfl ?_
  intro p e s m args below meth c s₁ Bd hml hv
  obtain ⟨hC, hr⟩ := jC_of Bd hml
  obtain ⟨rfl, rfl, hH⟩ := x_enter hv
  have hC : jC p s m _ meth c cX0_townCount 3 RX0 := hC
  have hx := hC.1.1
  have hb := hC.1.2.1
  have hown := hC.1.2.2.2.1
  have hts := hC.1.2.2.2.2
  have hl := lv_entry ([.ref (xA G (1 + bg))]) (n := 3) (Nat.le_of_ble_eq_true rfl)
  rw [lg_entry_eq]
  generalize (lg_sl ([.ref (xA G (1 + bg))]) ++ List.replicate (3 - (lg_sl ([.ref (xA G (1 + bg))])).length) Slot.unset).toArray = ls at hl ⊢
  have hl : lv_has ls 3 [(0, .ref (xA G (1 + bg)))] := hl
  unfold fB_townCount at h
  refine W_nm (fun H locs eH eL => ?_)
  have hH : xH G s (va_A (xW G σ0) s.heap.size) σ0 H locs := by rw [eH, eL]; exact hH
  show W p l e rmB_townCount s m _ below meth c H locs 0 0 _ (F0 m 0 ls [])
  refine lv_iconst (v := 0) hx hb dX0_townCount_0 (by decide) ?_
  refine lv_istore_n (lv' := [(1, .int (0 : Int32)), (0, .ref (xA G (1 + bg)))]) hx hb dX0_townCount_1 rfl hl (by decide) rfl (fun ls hl => ?_)
  refine lv_iconst (v := 0) hx hb dX0_townCount_2 (by decide) ?_
  refine lv_istore_n (lv' := [(2, .int (0 : Int32)), (1, .int (0 : Int32)), (0, .ref (xA G (1 + bg)))]) hx hb dX0_townCount_3 rfl hl (by decide) rfl (fun ls hl => ?_)
  refine wB_townCount_L4 hC hr hbg  ?_ 10000 (0 : Int32) (0 : Int32) H locs ls  hH (lv_sub hl [2, 1, 0] rfl) h
  intro x1 H locs ls  hH hl h
  refine lv_iload_n hx hb dX0_townCount_29 rfl (lv_at hl 0 rfl) ?_
  obtain ⟨r8, h7, h⟩ := ob_some h
  refine x_calls (As := [.int x1]) (rest := []) (cJ_bitCount_0f7a4 l G σ0 x1  h7) hC hH hl (va_cwS 1 hts (gS wmX0_109 wsJ6_bitCount_0f7a4) rfl rfl rfl hdJ6_bitCount_0f7a4 ⟨Nat.le_of_ble_eq_true rfl, Nat.le_of_ble_eq_true rfl⟩) rfl rfl (Nat.le_of_ble_eq_true rfl) ⟨Nat.zero_le _, Nat.zero_le _⟩ dX0_townCount_30 (fun H locs hH => ?_)
  obtain rfl := some_i1 h
  exact x_iret hC hH hr rfl dX0_townCount_33

def rmK_isOf : Room := { frames := 0, cells := 0, slots := 0, locals := 0 }
theorem hdX1_isOf : yX1_isOf.cls ≠ "java/lang/invoke/MethodHandle" ∧ yX1_isOf.cls ≠ "java/lang/invoke/VarHandle" ∧ (parseMethodDescriptor yX1_isOf.desc).map (fun d => d.parameters.length) = some 2 := by decide +kernel

def fK_isOf_J19 (σ0 : XS) (x0 : Int32) (x1 : Int32) : Option (Int32) :=
  if x1 = (2 : Int32) then (
    if x0 = (4 : Int32) then (
      some (1 : Int32))
    else (
      some (0 : Int32)))
  else (
    some (0 : Int32))

set_option maxHeartbeats 4000000 in
set_option maxRecDepth 100000 in
theorem wK_isOf_J19 {p : Program} {l : Launch} {e : Env} {s : State} {m : MethodId} {args : Array Value} {below : List Frame} {meth : Method} {c : Code} {G : XG} {σ0 : XS} {r : Int32} (hC : jC p s m args meth c cX1_isOf 2 RX1) (hr : meth.sig.returnType = some .boolean) (x0 : Int32) (x1 : Int32) (H : Heap) (locs : List Loc) (ls : Array Slot) (hH : xH G s (va_A (xW G σ0) s.heap.size) σ0 H locs) (hl : lv_has ls 2 [(0, .int x0), (1, .int x1)]) (h : fK_isOf_J19 σ0 x0 x1 = some r) : W p l e rmK_isOf s m args below meth c H locs 0 0 (MQ below (xQi G σ0 s.heap.size σ0 r) args s 0 0 (va_A (xW G σ0) s.heap.size)) (F0 m 19 ls []) := by
  have hx := hC.1.1
  have hb := hC.1.2.1
  have hown := hC.1.2.2.2.1
  have hts := hC.1.2.2.2.2
  unfold fK_isOf_J19 at h
  refine lv_iload_n hx hb dX1_isOf_19 rfl (lv_at hl 1 rfl) ?_
  refine lv_iconst (v := 2) hx hb dX1_isOf_20 (by decide) ?_
  refine lv_icmp_ne (tgt := 33) hx hb dX1_isOf_21 (by decide) (fun c4 => ?_) (fun c4 => ?_)
  · have h := ite_f c4 h
    refine lv_iconst (v := 0) hx hb dX1_isOf_33 (by decide) ?_
    obtain rfl := some_i1 h
    exact x_iret (v := 0) hC hH hr (by decide) dX1_isOf_34
  · have h := ite_t c4 h
    refine lv_iload_n hx hb dX1_isOf_24 rfl (lv_at hl 0 rfl) ?_
    refine lv_iconst (v := 4) hx hb dX1_isOf_25 (by decide) ?_
    refine lv_icmp_ne (tgt := 33) hx hb dX1_isOf_26 (by decide) (fun c5 => ?_) (fun c5 => ?_)
    · have h := ite_f c5 h
      refine lv_iconst (v := 0) hx hb dX1_isOf_33 (by decide) ?_
      obtain rfl := some_i1 h
      exact x_iret (v := 0) hC hH hr (by decide) dX1_isOf_34
    · have h := ite_t c5 h
      refine lv_iconst (v := 1) hx hb dX1_isOf_29 (by decide) ?_
      refine lv_goto (tgt := 34) hx hb dX1_isOf_30 (by decide) ?_
      obtain rfl := some_i1 h
      exact x_iret (v := 1) hC hH hr (by decide) dX1_isOf_34

def fK_isOf (σ0 : XS) (x0 : Int32) (x1 : Int32) : Option (Int32) :=
  if x1 = x0 then (
    some (1 : Int32))
  else (
    if x1 = 0 then (
      some (1 : Int32))
    else (
      if x1 = (1 : Int32) then (
        if x0 = (3 : Int32) then (
          some (1 : Int32))
        else (
          fK_isOf_J19 σ0 x0 x1))
      else (
        fK_isOf_J19 σ0 x0 x1)))

set_option maxHeartbeats 4000000 in
set_option maxRecDepth 100000 in
theorem cK_isOf (l : Launch) (G : XG) (σ0 : XS) (x0 : Int32) (x1 : Int32) {r : Int32} (h : fK_isOf σ0 x0 x1 = some r) : ∀ sz, Met l yX1_isOf (Cond.code yX1_isOf cX1_isOf 2 (some .boolean) :: Tw) rmK_isOf (xP G σ0 sz [.int x0, .int x1]) (xQi G σ0 sz σ0 r) 0 0 (va_A (xW G σ0) sz) := by
  intro sz
  refine Met.ofW (cc := cX1_isOf) (maxL := 2) (ret := (some .boolean)) (by decide) rfl ?_
  intro p e s m args below meth c s₁ Bd hml hv
  obtain ⟨hC, hr⟩ := jC_of Bd hml
  obtain ⟨rfl, rfl, hH⟩ := x_enter hv
  have hC : jC p s m _ meth c cX1_isOf 2 RX1 := hC
  have hx := hC.1.1
  have hb := hC.1.2.1
  have hown := hC.1.2.2.2.1
  have hts := hC.1.2.2.2.2
  have hl := lv_entry ([.int x0, .int x1]) (n := 2) (Nat.le_of_ble_eq_true rfl)
  rw [lg_entry_eq]
  generalize (lg_sl ([.int x0, .int x1]) ++ List.replicate (2 - (lg_sl ([.int x0, .int x1])).length) Slot.unset).toArray = ls at hl ⊢
  have hl : lv_has ls 2 [(0, .int x0), (1, .int x1)] := hl
  unfold fK_isOf at h
  refine W_nm (fun H locs eH eL => ?_)
  have hH : xH G s (va_A (xW G σ0) s.heap.size) σ0 H locs := by rw [eH, eL]; exact hH
  show W p l e rmK_isOf s m _ below meth c H locs 0 0 _ (F0 m 0 ls [])
  refine lv_iload_n hx hb dX1_isOf_0 rfl (lv_at hl 1 rfl) ?_
  refine lv_iload_n hx hb dX1_isOf_1 rfl (lv_at hl 0 rfl) ?_
  refine lv_icmp_eq (tgt := 29) hx hb dX1_isOf_2 (by decide) (fun c1 => ?_) (fun c1 => ?_)
  · have h := ite_t c1 h
    refine lv_iconst (v := 1) hx hb dX1_isOf_29 (by decide) ?_
    refine lv_goto (tgt := 34) hx hb dX1_isOf_30 (by decide) ?_
    obtain rfl := some_i1 h
    exact x_iret (v := 1) hC hH hr (by decide) dX1_isOf_34
  · have h := ite_f c1 h
    refine lv_iload_n hx hb dX1_isOf_5 rfl (lv_at hl 1 rfl) ?_
    refine lv_if_eq (tgt := 29) hx hb dX1_isOf_6 (by decide) (fun c2 => ?_) (fun c2 => ?_)
    · have h := ite_t c2 h
      refine lv_iconst (v := 1) hx hb dX1_isOf_29 (by decide) ?_
      refine lv_goto (tgt := 34) hx hb dX1_isOf_30 (by decide) ?_
      obtain rfl := some_i1 h
      exact x_iret (v := 1) hC hH hr (by decide) dX1_isOf_34
    · have h := ite_f c2 h
      refine lv_iload_n hx hb dX1_isOf_9 rfl (lv_at hl 1 rfl) ?_
      refine lv_iconst (v := 1) hx hb dX1_isOf_10 (by decide) ?_
      refine lv_icmp_ne (tgt := 19) hx hb dX1_isOf_11 (by decide) (fun c3 => ?_) (fun c3 => ?_)
      · have h := ite_f c3 h
        exact wK_isOf_J19 hC hr  x0 x1 H locs ls  hH hl h
      · have h := ite_t c3 h
        refine lv_iload_n hx hb dX1_isOf_14 rfl (lv_at hl 0 rfl) ?_
        refine lv_iconst (v := 3) hx hb dX1_isOf_15 (by decide) ?_
        refine lv_icmp_eq (tgt := 29) hx hb dX1_isOf_16 (by decide) (fun c6 => ?_) (fun c6 => ?_)
        · have h := ite_t c6 h
          refine lv_iconst (v := 1) hx hb dX1_isOf_29 (by decide) ?_
          refine lv_goto (tgt := 34) hx hb dX1_isOf_30 (by decide) ?_
          obtain rfl := some_i1 h
          exact x_iret (v := 1) hC hH hr (by decide) dX1_isOf_34
        · have h := ite_f c6 h
          exact wK_isOf_J19 hC hr  x0 x1 H locs ls  hH hl h

def rmK_worth : Room := { frames := 0, cells := 0, slots := 0, locals := 0 }
theorem hdX1_worth : yX1_worth.cls ≠ "java/lang/invoke/MethodHandle" ∧ yX1_worth.cls ≠ "java/lang/invoke/VarHandle" ∧ (parseMethodDescriptor yX1_worth.desc).map (fun d => d.parameters.length) = some 2 := by decide +kernel

def fK_worth (σ0 : XS) (x0 : Int32) (x1 : Int32) : Option (Int32) :=
  bnd (x1 + (7 : Int32)) fun v1 =>
  bnd ((99 : Int32) - x1) fun v3 =>
  if x0 = (1 : Int32) then (
    some v1)
  else if x0 = (2 : Int32) then (
    some v3)
  else if x0 = (3 : Int32) then (
    some ((2 : Int32) * v1))
  else if x0 = (4 : Int32) then (
    some (v3 - (6 : Int32)))
  else if x0 = (5 : Int32) then (
    some (2 : Int32))
  else (
    some x1)

set_option maxHeartbeats 4000000 in
set_option maxRecDepth 100000 in
theorem cK_worth (l : Launch) (G : XG) (σ0 : XS) (x0 : Int32) (x1 : Int32) {r : Int32} (h : fK_worth σ0 x0 x1 = some r) : ∀ sz, Met l yX1_worth (Cond.code yX1_worth cX1_worth 4 (some .int) :: Tw) rmK_worth (xP G σ0 sz [.int x0, .int x1]) (xQi G σ0 sz σ0 r) 0 0 (va_A (xW G σ0) sz) := by
  intro sz
  refine Met.ofW (cc := cX1_worth) (maxL := 4) (ret := (some .int)) (by decide) rfl ?_
  intro p e s m args below meth c s₁ Bd hml hv
  obtain ⟨hC, hr⟩ := jC_of Bd hml
  obtain ⟨rfl, rfl, hH⟩ := x_enter hv
  have hC : jC p s m _ meth c cX1_worth 4 RX1 := hC
  have hx := hC.1.1
  have hb := hC.1.2.1
  have hown := hC.1.2.2.2.1
  have hts := hC.1.2.2.2.2
  have hl := lv_entry ([.int x0, .int x1]) (n := 4) (Nat.le_of_ble_eq_true rfl)
  rw [lg_entry_eq]
  generalize (lg_sl ([.int x0, .int x1]) ++ List.replicate (4 - (lg_sl ([.int x0, .int x1])).length) Slot.unset).toArray = ls at hl ⊢
  have hl : lv_has ls 4 [(0, .int x0), (1, .int x1)] := hl
  unfold fK_worth at h
  refine W_nm (fun H locs eH eL => ?_)
  have hH : xH G s (va_A (xW G σ0) s.heap.size) σ0 H locs := by rw [eH, eL]; exact hH
  show W p l e rmK_worth s m _ below meth c H locs 0 0 _ (F0 m 0 ls [])
  refine lv_iload_n hx hb dX1_worth_0 rfl (lv_at hl 1 rfl) ?_
  refine lv_bipush (v := 7) hx hb dX1_worth_1 (by decide) ?_
  refine lv_iadd hx hb dX1_worth_3 ?_
  obtain ⟨v1, e2, h⟩ := bnd_some h
  refine lv_tope e2 ?_
  refine lv_istore_n (lv' := [(2, .int v1), (0, .int x0), (1, .int x1)]) hx hb dX1_worth_4 rfl hl (by decide) rfl (fun ls hl => ?_)
  refine lv_bipush (v := 99) hx hb dX1_worth_5 (by decide) ?_
  refine lv_iload_n hx hb dX1_worth_7 rfl (lv_at hl 2 rfl) ?_
  refine lv_isub hx hb dX1_worth_8 ?_
  obtain ⟨v3, e4, h⟩ := bnd_some h
  refine lv_tope e4 ?_
  refine lv_istore_n (lv' := [(3, .int v3), (2, .int v1), (0, .int x0), (1, .int x1)]) hx hb dX1_worth_9 rfl hl (by decide) rfl (fun ls hl => ?_)
  refine lv_iload_n hx hb dX1_worth_10 rfl (lv_at hl 2 rfl) ?_
  by_cases c5 : x0 = (1 : Int32)
  · have h := ite_t c5 h
    refine lv_tsw (tgt := 44) (off := 33) hx hb (1) c5 dX1_worth_11 (by decide) (by decide) (by decide) (by decide) ?_
    refine lv_iload_n hx hb dX1_worth_44 rfl (lv_at hl 1 rfl) ?_
    obtain rfl := some_i1 h
    exact x_iret hC hH hr rfl dX1_worth_45
  · have h := ite_f c5 h
    by_cases c6 : x0 = (2 : Int32)
    · have h := ite_t c6 h
      refine lv_tsw (tgt := 50) (off := 39) hx hb (2) c6 dX1_worth_11 (by decide) (by decide) (by decide) (by decide) ?_
      refine lv_iload_n hx hb dX1_worth_50 rfl (lv_at hl 0 rfl) ?_
      obtain rfl := some_i1 h
      exact x_iret hC hH hr rfl dX1_worth_51
    · have h := ite_f c6 h
      by_cases c7 : x0 = (3 : Int32)
      · have h := ite_t c7 h
        refine lv_tsw (tgt := 46) (off := 35) hx hb (3) c7 dX1_worth_11 (by decide) (by decide) (by decide) (by decide) ?_
        refine lv_iconst (v := 2) hx hb dX1_worth_46 (by decide) ?_
        refine lv_iload_n hx hb dX1_worth_47 rfl (lv_at hl 1 rfl) ?_
        refine lv_imul hx hb dX1_worth_48 ?_
        obtain rfl := some_i1 h
        exact x_iret hC hH hr rfl dX1_worth_49
      · have h := ite_f c7 h
        by_cases c8 : x0 = (4 : Int32)
        · have h := ite_t c8 h
          refine lv_tsw (tgt := 52) (off := 41) hx hb (4) c8 dX1_worth_11 (by decide) (by decide) (by decide) (by decide) ?_
          refine lv_iload_n hx hb dX1_worth_52 rfl (lv_at hl 0 rfl) ?_
          refine lv_bipush (v := 6) hx hb dX1_worth_53 (by decide) ?_
          refine lv_isub hx hb dX1_worth_55 ?_
          obtain rfl := some_i1 h
          exact x_iret hC hH hr rfl dX1_worth_56
        · have h := ite_f c8 h
          by_cases c9 : x0 = (5 : Int32)
          · have h := ite_t c9 h
            refine lv_tsw (tgt := 57) (off := 46) hx hb (5) c9 dX1_worth_11 (by decide) (by decide) (by decide) (by decide) ?_
            refine lv_iconst (v := 2) hx hb dX1_worth_57 (by decide) ?_
            obtain rfl := some_i1 h
            exact x_iret (v := 2) hC hH hr rfl dX1_worth_58
          · have h := ite_f c9 h
            refine lv_tswd (tgt := 59) hx hb [1, 2, 3, 4, 5] (by simp only [List.mem_cons, List.not_mem_nil, or_false]; intro z hz; rcases hz with rfl | rfl | rfl | rfl | rfl <;> first | exact i32ne c5 (by decide) | exact i32ne c6 (by decide) | exact i32ne c7 (by decide) | exact i32ne c8 (by decide) | exact i32ne c9 (by decide)) dX1_worth_11 (by decide) (by decide) (by decide) ?_
            refine lv_iload_n hx hb dX1_worth_59 rfl (lv_at hl 3 rfl) ?_
            obtain rfl := some_i1 h
            exact x_iret hC hH hr rfl dX1_worth_60

def rmS_isMissing : Room := { frames := 0, cells := 0, slots := 0, locals := 0 }
theorem hdX4_isMissing : yX4_isMissing.cls = RX4 ∧ yX4_isMissing.cls ≠ "java/lang/invoke/MethodHandle" ∧ yX4_isMissing.cls ≠ "java/lang/invoke/VarHandle" ∧ (parseMethodDescriptor yX4_isMissing.desc).map (fun d => d.parameters.length) = some 0 := by decide +kernel

def fS_isMissing (σ0 : XS) (sk : Nat) : Option (Int32) :=
  if (xi σ0 (10 + sk) 0) = (-1 : Int32) then (
    some (1 : Int32))
  else (
    some (0 : Int32))

set_option maxHeartbeats 4000000 in
set_option maxRecDepth 100000 in
theorem cS_isMissing (l : Launch) (G : XG) (σ0 : XS) (sk : Nat) (hsk : sk < 9) {r : Int32} (h : fS_isMissing σ0 sk = some r) : ∀ sz, Met l yX4_isMissing (Cond.code yX4_isMissing cX4_isMissing 1 (some .boolean) :: Tw) rmS_isMissing (xP G σ0 sz [.ref (xA G (60 + sk))]) (xQi G σ0 sz σ0 r) 0 0 (va_A (xW G σ0) sz) := by
  intro sz
  refine Met.ofW (cc := cX4_isMissing) (maxL := 1) (ret := (some .boolean)) (by decide) rfl ?_
  intro p e s m args below meth c s₁ Bd hml hv
  obtain ⟨hC, hr⟩ := jC_of Bd hml
  obtain ⟨rfl, rfl, hH⟩ := x_enter hv
  have hC : jC p s m _ meth c cX4_isMissing 1 RX4 := hC
  have hx := hC.1.1
  have hb := hC.1.2.1
  have hown := hC.1.2.2.2.1
  have hts := hC.1.2.2.2.2
  have hl := lv_entry ([.ref (xA G (60 + sk))]) (n := 1) (Nat.le_of_ble_eq_true rfl)
  rw [lg_entry_eq]
  generalize (lg_sl ([.ref (xA G (60 + sk))]) ++ List.replicate (1 - (lg_sl ([.ref (xA G (60 + sk))])).length) Slot.unset).toArray = ls at hl ⊢
  have hl : lv_has ls 1 [(0, .ref (xA G (60 + sk)))] := hl
  unfold fS_isMissing at h
  refine W_nm (fun H locs eH eL => ?_)
  have hH : xH G s (va_A (xW G σ0) s.heap.size) σ0 H locs := by rw [eH, eL]; exact hH
  show W p l e rmS_isMissing s m _ below meth c H locs 0 0 _ (F0 m 0 ls [])
  refine lv_aload_n hx hb dX4_isMissing_0 rfl (lv_at hl 0 rfl) ?_
  refine x_get (C := RX4) (T := TX4) (N := 3) (v := .int (xi σ0 (10 + sk) 0)) hC hH (xe_S G σ0 hsk) rfl wyX4 0 (by decide) wfX4_11 rfl rfl dX4_isMissing_1 ?_
  refine lv_iconst (v := -1) hx hb dX4_isMissing_4 (by decide) ?_
  refine lv_icmp_ne (tgt := 12) hx hb dX4_isMissing_5 (by decide) (fun c1 => ?_) (fun c1 => ?_)
  · have h := ite_f c1 h
    refine lv_iconst (v := 0) hx hb dX4_isMissing_12 (by decide) ?_
    obtain rfl := some_i1 h
    exact x_iret (v := 0) hC hH hr (by decide) dX4_isMissing_13
  · have h := ite_t c1 h
    refine lv_iconst (v := 1) hx hb dX4_isMissing_8 (by decide) ?_
    refine lv_goto (tgt := 13) hx hb dX4_isMissing_9 (by decide) ?_
    obtain rfl := some_i1 h
    exact x_iret (v := 1) hC hH hr (by decide) dX4_isMissing_13

def rmS_has : Room := { frames := 0, cells := 0, slots := 0, locals := 0 }
theorem hdX4_has : yX4_has.cls = RX4 ∧ yX4_has.cls ≠ "java/lang/invoke/MethodHandle" ∧ yX4_has.cls ≠ "java/lang/invoke/VarHandle" ∧ (parseMethodDescriptor yX4_has.desc).map (fun d => d.parameters.length) = some 1 := by decide +kernel

def fS_has (σ0 : XS) (sk : Nat) (x1 : Int32) : Option (Int32) :=
  if x1 < 0 then (
    some (0 : Int32))
  else (
    if (xi σ0 (10 + sk) 1) ≤ x1 then (
      some (0 : Int32))
    else (
      some (1 : Int32)))

set_option maxHeartbeats 4000000 in
set_option maxRecDepth 100000 in
theorem cS_has (l : Launch) (G : XG) (σ0 : XS) (sk : Nat) (x1 : Int32) (hsk : sk < 9) {r : Int32} (h : fS_has σ0 sk x1 = some r) : ∀ sz, Met l yX4_has (Cond.code yX4_has cX4_has 2 (some .boolean) :: Tw) rmS_has (xP G σ0 sz [.ref (xA G (60 + sk)), .int x1]) (xQi G σ0 sz σ0 r) 0 0 (va_A (xW G σ0) sz) := by
  intro sz
  refine Met.ofW (cc := cX4_has) (maxL := 2) (ret := (some .boolean)) (by decide) rfl ?_
  intro p e s m args below meth c s₁ Bd hml hv
  obtain ⟨hC, hr⟩ := jC_of Bd hml
  obtain ⟨rfl, rfl, hH⟩ := x_enter hv
  have hC : jC p s m _ meth c cX4_has 2 RX4 := hC
  have hx := hC.1.1
  have hb := hC.1.2.1
  have hown := hC.1.2.2.2.1
  have hts := hC.1.2.2.2.2
  have hl := lv_entry ([.ref (xA G (60 + sk)), .int x1]) (n := 2) (Nat.le_of_ble_eq_true rfl)
  rw [lg_entry_eq]
  generalize (lg_sl ([.ref (xA G (60 + sk)), .int x1]) ++ List.replicate (2 - (lg_sl ([.ref (xA G (60 + sk)), .int x1])).length) Slot.unset).toArray = ls at hl ⊢
  have hl : lv_has ls 2 [(0, .ref (xA G (60 + sk))), (1, .int x1)] := hl
  unfold fS_has at h
  refine W_nm (fun H locs eH eL => ?_)
  have hH : xH G s (va_A (xW G σ0) s.heap.size) σ0 H locs := by rw [eH, eL]; exact hH
  show W p l e rmS_has s m _ below meth c H locs 0 0 _ (F0 m 0 ls [])
  refine lv_iload_n hx hb dX4_has_0 rfl (lv_at hl 1 rfl) ?_
  refine lv_if_lt (tgt := 16) hx hb dX4_has_1 (by decide) (fun c1 => ?_) (fun c1 => ?_)
  · have h := ite_t c1 h
    refine lv_iconst (v := 0) hx hb dX4_has_16 (by decide) ?_
    obtain rfl := some_i1 h
    exact x_iret (v := 0) hC hH hr (by decide) dX4_has_17
  · have h := ite_f c1 h
    refine lv_iload_n hx hb dX4_has_4 rfl (lv_at hl 1 rfl) ?_
    refine lv_aload_n hx hb dX4_has_5 rfl (lv_at hl 0 rfl) ?_
    refine x_get (C := RX4) (T := TX4) (N := 3) (v := .int (xi σ0 (10 + sk) 1)) hC hH (xe_S G σ0 hsk) rfl wyX4 1 (by decide) wfX4_15 rfl rfl dX4_has_6 ?_
    refine lv_icmp_ge (tgt := 16) hx hb dX4_has_9 (by decide) (fun c2 => ?_) (fun c2 => ?_)
    · have h := ite_t c2 h
      refine lv_iconst (v := 0) hx hb dX4_has_16 (by decide) ?_
      obtain rfl := some_i1 h
      exact x_iret (v := 0) hC hH hr (by decide) dX4_has_17
    · have h := ite_f c2 h
      refine lv_iconst (v := 1) hx hb dX4_has_12 (by decide) ?_
      refine lv_goto (tgt := 17) hx hb dX4_has_13 (by decide) ?_
      obtain rfl := some_i1 h
      exact x_iret (v := 1) hC hH hr (by decide) dX4_has_17

def rmS_hasRow : Room := { frames := 0, cells := 0, slots := 0, locals := 0 }
theorem hdX4_hasRow : yX4_hasRow.cls = RX4 ∧ yX4_hasRow.cls ≠ "java/lang/invoke/MethodHandle" ∧ yX4_hasRow.cls ≠ "java/lang/invoke/VarHandle" ∧ (parseMethodDescriptor yX4_hasRow.desc).map (fun d => d.parameters.length) = some 2 := by decide +kernel

def fS_hasRow (σ0 : XS) (sk : Nat) (x1 : Int32) (x2 : Int32) : Option (Int32) :=
  if x1 < 0 then (
    some (0 : Int32))
  else (
    if x2 < 0 then (
      some (0 : Int32))
    else (
      if (xi σ0 (10 + sk) 1) < x1 then (
        some (0 : Int32))
      else (
        if ((xi σ0 (10 + sk) 1) - x1) < x2 then (
          some (0 : Int32))
        else (
          some (1 : Int32)))))

set_option maxHeartbeats 4000000 in
set_option maxRecDepth 100000 in
theorem cS_hasRow (l : Launch) (G : XG) (σ0 : XS) (sk : Nat) (x1 : Int32) (x2 : Int32) (hsk : sk < 9) {r : Int32} (h : fS_hasRow σ0 sk x1 x2 = some r) : ∀ sz, Met l yX4_hasRow (Cond.code yX4_hasRow cX4_hasRow 3 (some .boolean) :: Tw) rmS_hasRow (xP G σ0 sz [.ref (xA G (60 + sk)), .int x1, .int x2]) (xQi G σ0 sz σ0 r) 0 0 (va_A (xW G σ0) sz) := by
  intro sz
  refine Met.ofW (cc := cX4_hasRow) (maxL := 3) (ret := (some .boolean)) (by decide) rfl ?_
  intro p e s m args below meth c s₁ Bd hml hv
  obtain ⟨hC, hr⟩ := jC_of Bd hml
  obtain ⟨rfl, rfl, hH⟩ := x_enter hv
  have hC : jC p s m _ meth c cX4_hasRow 3 RX4 := hC
  have hx := hC.1.1
  have hb := hC.1.2.1
  have hown := hC.1.2.2.2.1
  have hts := hC.1.2.2.2.2
  have hl := lv_entry ([.ref (xA G (60 + sk)), .int x1, .int x2]) (n := 3) (Nat.le_of_ble_eq_true rfl)
  rw [lg_entry_eq]
  generalize (lg_sl ([.ref (xA G (60 + sk)), .int x1, .int x2]) ++ List.replicate (3 - (lg_sl ([.ref (xA G (60 + sk)), .int x1, .int x2])).length) Slot.unset).toArray = ls at hl ⊢
  have hl : lv_has ls 3 [(0, .ref (xA G (60 + sk))), (1, .int x1), (2, .int x2)] := hl
  unfold fS_hasRow at h
  refine W_nm (fun H locs eH eL => ?_)
  have hH : xH G s (va_A (xW G σ0) s.heap.size) σ0 H locs := by rw [eH, eL]; exact hH
  show W p l e rmS_hasRow s m _ below meth c H locs 0 0 _ (F0 m 0 ls [])
  refine lv_iload_n hx hb dX4_hasRow_0 rfl (lv_at hl 1 rfl) ?_
  refine lv_if_lt (tgt := 30) hx hb dX4_hasRow_1 (by decide) (fun c1 => ?_) (fun c1 => ?_)
  · have h := ite_t c1 h
    refine lv_iconst (v := 0) hx hb dX4_hasRow_30 (by decide) ?_
    obtain rfl := some_i1 h
    exact x_iret (v := 0) hC hH hr (by decide) dX4_hasRow_31
  · have h := ite_f c1 h
    refine lv_iload_n hx hb dX4_hasRow_4 rfl (lv_at hl 2 rfl) ?_
    refine lv_if_lt (tgt := 30) hx hb dX4_hasRow_5 (by decide) (fun c2 => ?_) (fun c2 => ?_)
    · have h := ite_t c2 h
      refine lv_iconst (v := 0) hx hb dX4_hasRow_30 (by decide) ?_
      obtain rfl := some_i1 h
      exact x_iret (v := 0) hC hH hr (by decide) dX4_hasRow_31
    · have h := ite_f c2 h
      refine lv_iload_n hx hb dX4_hasRow_8 rfl (lv_at hl 1 rfl) ?_
      refine lv_aload_n hx hb dX4_hasRow_9 rfl (lv_at hl 0 rfl) ?_
      refine x_get (C := RX4) (T := TX4) (N := 3) (v := .int (xi σ0 (10 + sk) 1)) hC hH (xe_S G σ0 hsk) rfl wyX4 1 (by decide) wfX4_15 rfl rfl dX4_hasRow_10 ?_
      refine lv_icmp_gt (tgt := 30) hx hb dX4_hasRow_13 (by decide) (fun c3 => ?_) (fun c3 => ?_)
      · have h := ite_t c3 h
        refine lv_iconst (v := 0) hx hb dX4_hasRow_30 (by decide) ?_
        obtain rfl := some_i1 h
        exact x_iret (v := 0) hC hH hr (by decide) dX4_hasRow_31
      · have h := ite_f c3 h
        refine lv_iload_n hx hb dX4_hasRow_16 rfl (lv_at hl 2 rfl) ?_
        refine lv_aload_n hx hb dX4_hasRow_17 rfl (lv_at hl 0 rfl) ?_
        refine x_get (C := RX4) (T := TX4) (N := 3) (v := .int (xi σ0 (10 + sk) 1)) hC hH (xe_S G σ0 hsk) rfl wyX4 1 (by decide) wfX4_15 rfl rfl dX4_hasRow_18 ?_
        refine lv_iload_n hx hb dX4_hasRow_21 rfl (lv_at hl 1 rfl) ?_
        refine lv_isub hx hb dX4_hasRow_22 ?_
        refine lv_icmp_gt (tgt := 30) hx hb dX4_hasRow_23 (by decide) (fun c4 => ?_) (fun c4 => ?_)
        · have h := ite_t c4 h
          refine lv_iconst (v := 0) hx hb dX4_hasRow_30 (by decide) ?_
          obtain rfl := some_i1 h
          exact x_iret (v := 0) hC hH hr (by decide) dX4_hasRow_31
        · have h := ite_f c4 h
          refine lv_iconst (v := 1) hx hb dX4_hasRow_26 (by decide) ?_
          refine lv_goto (tgt := 31) hx hb dX4_hasRow_27 (by decide) ?_
          obtain rfl := some_i1 h
          exact x_iret (v := 1) hC hH hr (by decide) dX4_hasRow_31

def rmS_isNumber : Room := { frames := 1, cells := 0, slots := 0, locals := 21 }
theorem hdX4_isNumber : yX4_isNumber.cls = RX4 ∧ yX4_isNumber.cls ≠ "java/lang/invoke/MethodHandle" ∧ yX4_isNumber.cls ≠ "java/lang/invoke/VarHandle" ∧ (parseMethodDescriptor yX4_isNumber.desc).map (fun d => d.parameters.length) = some 1 := by decide +kernel

def fS_isNumber (σ0 : XS) (sk : Nat) (x1 : Int32) : Option (Int32) :=
  ob (fS_has σ0 sk x1) fun r2 =>
  if r2 = 0 then (
    some (0 : Int32))
  else (
    ck x1 (24) <|
    if (xi σ0 (60 + sk) (x1).toNatClampNeg) = (-1000000005 : Int32) then (
      some (0 : Int32))
    else (
      some (1 : Int32)))

set_option maxHeartbeats 4000000 in
set_option maxRecDepth 100000 in
theorem cS_isNumber (l : Launch) (G : XG) (σ0 : XS) (sk : Nat) (x1 : Int32) (hsk : sk < 9) {r : Int32} (h : fS_isNumber σ0 sk x1 = some r) : ∀ sz, Met l yX4_isNumber (Cond.code yX4_isNumber cX4_isNumber 2 (some .boolean) :: Tw) rmS_isNumber (xP G σ0 sz [.ref (xA G (60 + sk)), .int x1]) (xQi G σ0 sz σ0 r) 0 0 (va_A (xW G σ0) sz) := by
  intro sz
  refine Met.ofW (cc := cX4_isNumber) (maxL := 2) (ret := (some .boolean)) (by decide) rfl ?_
  intro p e s m args below meth c s₁ Bd hml hv
  obtain ⟨hC, hr⟩ := jC_of Bd hml
  obtain ⟨rfl, rfl, hH⟩ := x_enter hv
  have hC : jC p s m _ meth c cX4_isNumber 2 RX4 := hC
  have hx := hC.1.1
  have hb := hC.1.2.1
  have hown := hC.1.2.2.2.1
  have hts := hC.1.2.2.2.2
  have hl := lv_entry ([.ref (xA G (60 + sk)), .int x1]) (n := 2) (Nat.le_of_ble_eq_true rfl)
  rw [lg_entry_eq]
  generalize (lg_sl ([.ref (xA G (60 + sk)), .int x1]) ++ List.replicate (2 - (lg_sl ([.ref (xA G (60 + sk)), .int x1])).length) Slot.unset).toArray = ls at hl ⊢
  have hl : lv_has ls 2 [(0, .ref (xA G (60 + sk))), (1, .int x1)] := hl
  unfold fS_isNumber at h
  refine W_nm (fun H locs eH eL => ?_)
  have hH : xH G s (va_A (xW G σ0) s.heap.size) σ0 H locs := by rw [eH, eL]; exact hH
  show W p l e rmS_isNumber s m _ below meth c H locs 0 0 _ (F0 m 0 ls [])
  refine lv_aload_n hx hb dX4_isNumber_0 rfl (lv_at hl 0 rfl) ?_
  refine lv_iload_n hx hb dX4_isNumber_1 rfl (lv_at hl 1 rfl) ?_
  obtain ⟨r2, h1, h⟩ := ob_some h
  refine x_calli (vw := (RX4, TX4, 3)) (As := [.int x1]) (rest := []) (cS_has l G σ0 sk x1 hsk h1) hC hH hl (xe_S G σ0 hsk) rfl (cwV 1 hts (gV wmX4_22 wvX4_has) rfl rfl rfl hdX4_has ⟨Nat.le_of_ble_eq_true rfl, Nat.le_of_ble_eq_true rfl⟩) rfl rfl (Nat.le_of_ble_eq_true rfl) ⟨Nat.zero_le _, Nat.zero_le _⟩ dX4_isNumber_2 (fun H locs hH => ?_)
  refine lv_if_eq (tgt := 23) hx hb dX4_isNumber_5 (by decide) (fun c3 => ?_) (fun c3 => ?_)
  · have h := ite_t c3 h
    refine lv_iconst (v := 0) hx hb dX4_isNumber_23 (by decide) ?_
    obtain rfl := some_i1 h
    exact x_iret (v := 0) hC hH hr (by decide) dX4_isNumber_24
  · have h := ite_f c3 h
    refine lv_aload_n hx hb dX4_isNumber_8 rfl (lv_at hl 0 rfl) ?_
    refine x_get (C := RX4) (T := TX4) (N := 3) (v := .ref (xA G (100 + (60 + sk)))) hC hH (xe_S G σ0 hsk) rfl wyX4 2 (by decide) wfX4_18 rfl rfl dX4_isNumber_9 ?_
    refine lv_iload_n hx hb dX4_isNumber_12 rfl (lv_at hl 1 rfl) ?_
    obtain ⟨i4, h⟩ := ck_some h
    refine x_ald hC hH (d := (60 + sk)) (xIs_s hsk) (xLen_s hsk) rfl i4 dX4_isNumber_13 ?_
    refine lv_ldc (v := -1000000005) hx hb hown (hts _ wkX4_26) dX4_isNumber_14 ?_
    refine lv_icmp_eq (tgt := 23) hx hb dX4_isNumber_16 (by decide) (fun c5 => ?_) (fun c5 => ?_)
    · have h := ite_t c5 h
      refine lv_iconst (v := 0) hx hb dX4_isNumber_23 (by decide) ?_
      obtain rfl := some_i1 h
      exact x_iret (v := 0) hC hH hr (by decide) dX4_isNumber_24
    · have h := ite_f c5 h
      refine lv_iconst (v := 1) hx hb dX4_isNumber_19 (by decide) ?_
      refine lv_goto (tgt := 24) hx hb dX4_isNumber_20 (by decide) ?_
      obtain rfl := some_i1 h
      exact x_iret (v := 1) hC hH hr (by decide) dX4_isNumber_24

def rmJ_fill_53178 : Room := { frames := 0, cells := 0, slots := 0, locals := 0 }
theorem hdJ7_fill_53178 : yJ7_fill_53178.cls ≠ "java/lang/invoke/MethodHandle" ∧ yJ7_fill_53178.cls ≠ "java/lang/invoke/VarHandle" ∧ (parseMethodDescriptor yJ7_fill_53178.desc).map (fun d => d.parameters.length) = some 2 := by decide +kernel

def fJ_fill_53178_L5 (p0 : Nat) (k20 : XS → Option (XS)) : Nat → Int32 → Int32 → Int32 → XS → Option (XS)
  | 0, _, _, _, _ => none
  | n + 1, x1, x2, x3, σ =>
    if x3 ≤ x2 then (
      k20 σ)
    else (
      ck x2 (xLen p0) <|
      bnd (xu σ p0 (x2).toNatClampNeg x1) fun σ4 =>
      bnd (x2 + (1 : Int32)) fun v7 =>
      (fJ_fill_53178_L5 p0 k20 n) x1 v7 x3 σ4)

set_option maxHeartbeats 4000000 in
set_option maxRecDepth 100000 in
theorem wJ_fill_53178_L5 {p : Program} {l : Launch} {e : Env} {s : State} {m : MethodId} {args : Array Value} {below : List Frame} {meth : Method} {c : Code} {G : XG} {σ0 : XS} {p0 : Nat} {σr : XS} (hC : jC p s m args meth c cJ7_fill_53178 4 RJ7) (hr : meth.sig.returnType = none) (hp0 : xIs p0 = true) {k20 : XS → Option (XS)} (hk20 : ∀ (σ : XS) (H : Heap) (locs : List Loc) (ls : Array Slot), xH G s (va_A (xW G σ0) s.heap.size) σ H locs → lv_has ls 4 [] → k20 σ = some σr → W p l e rmJ_fill_53178 s m args below meth c H locs 0 0 (MQ below (xQv G σ0 s.heap.size σr) args s 0 0 (va_A (xW G σ0) s.heap.size)) (F0 m 20 ls [])) : ∀ (n : Nat) (x1 : Int32) (x2 : Int32) (x3 : Int32) (σ : XS) (H : Heap) (locs : List Loc) (ls : Array Slot), xH G s (va_A (xW G σ0) s.heap.size) σ H locs → lv_has ls 4 [(0, .ref (xA G (100 + p0))), (1, .int x1), (2, .int x2), (3, .int x3)] → fJ_fill_53178_L5 p0 k20 n x1 x2 x3 σ = some σr → W p l e rmJ_fill_53178 s m args below meth c H locs 0 0 (MQ below (xQv G σ0 s.heap.size σr) args s 0 0 (va_A (xW G σ0) s.heap.size)) (F0 m 5 ls []) := by
  have hx := hC.1.1
  have hb := hC.1.2.1
  have hown := hC.1.2.2.2.1
  have hts := hC.1.2.2.2.2
  intro n
  induction n with
  | zero =>
    intro x1 x2 x3 σ H locs ls  hH hl h
    rw [fJ_fill_53178_L5] at h
    cases h
  | succ n ih =>
    intro x1 x2 x3 σ H locs ls  hH hl h
    rw [fJ_fill_53178_L5] at h
    refine lv_iload_n hx hb dJ7_fill_53178_5 rfl (lv_at hl 2 rfl) ?_
    refine lv_iload_n hx hb dJ7_fill_53178_6 rfl (lv_at hl 3 rfl) ?_
    refine lv_icmp_ge (tgt := 20) hx hb dJ7_fill_53178_7 (by decide) (fun c3 => ?_) (fun c3 => ?_)
    · have h := ite_t c3 h
      exact hk20 σ H locs ls  hH (lv_sub hl [] rfl) h
    · have h := ite_f c3 h
      refine lv_aload_n hx hb dJ7_fill_53178_10 rfl (lv_at hl 0 rfl) ?_
      refine lv_iload_n hx hb dJ7_fill_53178_11 rfl (lv_at hl 2 rfl) ?_
      refine lv_iload_n hx hb dJ7_fill_53178_12 rfl (lv_at hl 1 rfl) ?_
      obtain ⟨i6, h⟩ := ck_some h
      obtain ⟨σ4, e5, h⟩ := bnd_some h
      refine x_ast hC hH (d := p0) hp0 rfl rfl e5 i6 dJ7_fill_53178_13 (fun H locs hH => ?_)
      obtain ⟨v7, e8, h⟩ := bnd_some h
      refine lv_iinc (v := v7) (lv' := [(2, .int v7), (0, .ref (xA G (100 + p0))), (1, .int x1), (3, .int x3)]) hx hb dJ7_fill_53178_14 hl (k := 2) rfl (by rw [e8]; rfl) (by decide) rfl (fun ls hl => ?_)
      refine lv_goto (tgt := 5) hx hb dJ7_fill_53178_17 (by decide) ?_
      exact ih x1 v7 x3 σ4 H locs ls  hH (lv_sub hl [1, 2, 0, 3] rfl) h

def fJ_fill_53178 (σ0 : XS) (p0 : Nat) (x1 : Int32) : Option (XS) :=
  bnd (Int32.ofNat (xLen p0)) fun v1 =>
  fJ_fill_53178_L5 p0 (fun (σ : XS) => some σ) 10000 x1 (0 : Int32) v1 σ0

set_option maxHeartbeats 4000000 in
set_option maxRecDepth 100000 in
theorem cJ_fill_53178 (l : Launch) (G : XG) (σ0 : XS) (p0 : Nat) (x1 : Int32) (hp0 : xIs p0 = true) {σr : XS} (h : fJ_fill_53178 σ0 p0 x1 = some σr) : ∀ sz, Met l yJ7_fill_53178 (Cond.code yJ7_fill_53178 cJ7_fill_53178 4 none :: Tw) rmJ_fill_53178 (xP G σ0 sz [.ref (xA G (100 + p0)), .int x1]) (xQv G σ0 sz σr) 0 0 (va_A (xW G σ0) sz) := by
  intro sz
  refine Met.ofW (cc := cJ7_fill_53178) (maxL := 4) (ret := (none)) (by decide) rfl ?_
  intro p e s m args below meth c s₁ Bd hml hv
  obtain ⟨hC, hr⟩ := jC_of Bd hml
  obtain ⟨rfl, rfl, hH⟩ := x_enter hv
  have hC : jC p s m _ meth c cJ7_fill_53178 4 RJ7 := hC
  have hx := hC.1.1
  have hb := hC.1.2.1
  have hown := hC.1.2.2.2.1
  have hts := hC.1.2.2.2.2
  have hl := lv_entry ([.ref (xA G (100 + p0)), .int x1]) (n := 4) (Nat.le_of_ble_eq_true rfl)
  rw [lg_entry_eq]
  generalize (lg_sl ([.ref (xA G (100 + p0)), .int x1]) ++ List.replicate (4 - (lg_sl ([.ref (xA G (100 + p0)), .int x1])).length) Slot.unset).toArray = ls at hl ⊢
  have hl : lv_has ls 4 [(0, .ref (xA G (100 + p0))), (1, .int x1)] := hl
  unfold fJ_fill_53178 at h
  refine W_nm (fun H locs eH eL => ?_)
  have hH : xH G s (va_A (xW G σ0) s.heap.size) σ0 H locs := by rw [eH, eL]; exact hH
  show W p l e rmJ_fill_53178 s m _ below meth c H locs 0 0 _ (F0 m 0 ls [])
  refine lv_iconst (v := 0) hx hb dJ7_fill_53178_0 (by decide) ?_
  refine lv_istore_n (lv' := [(2, .int (0 : Int32)), (0, .ref (xA G (100 + p0))), (1, .int x1)]) hx hb dJ7_fill_53178_1 rfl hl (by decide) rfl (fun ls hl => ?_)
  refine lv_aload_n hx hb dJ7_fill_53178_2 rfl (lv_at hl 1 rfl) ?_
  refine x_alen hC hH (d := p0) hp0 rfl rfl dJ7_fill_53178_3 ?_
  obtain ⟨v1, e2, h⟩ := bnd_some h
  refine lv_tope e2 ?_
  refine lv_istore_n (lv' := [(3, .int v1), (2, .int (0 : Int32)), (0, .ref (xA G (100 + p0))), (1, .int x1)]) hx hb dJ7_fill_53178_4 rfl hl (by decide) rfl (fun ls hl => ?_)
  refine wJ_fill_53178_L5 hC hr hp0  ?_ 10000 x1 (0 : Int32) v1 σ0 H locs ls  hH (lv_sub hl [2, 3, 1, 0] rfl) h
  intro σ H locs ls  hH hl h
  obtain rfl := some_i1 h
  exact x_vret hC hH hr dJ7_fill_53178_20

def rmS_become : Room := { frames := 1, cells := 0, slots := 0, locals := 23 }
theorem hdX4_become : yX4_become.cls = RX4 ∧ yX4_become.cls ≠ "java/lang/invoke/MethodHandle" ∧ yX4_become.cls ≠ "java/lang/invoke/VarHandle" ∧ (parseMethodDescriptor yX4_become.desc).map (fun d => d.parameters.length) = some 2 := by decide +kernel

def fS_become (σ0 : XS) (sk : Nat) (x1 : Int32) (x2 : Int32) : Option (XS) :=
  bnd (xu σ0 (10 + sk) 0 x1) fun σ1 =>
  bnd (xu σ1 (10 + sk) 1 x2) fun σ3 =>
  ob (fJ_fill_53178 σ3 (60 + sk) (0 : Int32)) fun σ6 =>
  some σ6

set_option maxHeartbeats 4000000 in
set_option maxRecDepth 100000 in
theorem cS_become (l : Launch) (G : XG) (σ0 : XS) (sk : Nat) (x1 : Int32) (x2 : Int32) (hsk : sk < 9) {σr : XS} (h : fS_become σ0 sk x1 x2 = some σr) : ∀ sz, Met l yX4_become (Cond.code yX4_become cX4_become 3 none :: Tw) rmS_become (xP G σ0 sz [.ref (xA G (60 + sk)), .int x1, .int x2]) (xQv G σ0 sz σr) 0 0 (va_A (xW G σ0) sz) := by
  intro sz
  refine Met.ofW (cc := cX4_become) (maxL := 3) (ret := (none)) (by decide) rfl ?_
  intro p e s m args below meth c s₁ Bd hml hv
  obtain ⟨hC, hr⟩ := jC_of Bd hml
  obtain ⟨rfl, rfl, hH⟩ := x_enter hv
  have hC : jC p s m _ meth c cX4_become 3 RX4 := hC
  have hx := hC.1.1
  have hb := hC.1.2.1
  have hown := hC.1.2.2.2.1
  have hts := hC.1.2.2.2.2
  have hl := lv_entry ([.ref (xA G (60 + sk)), .int x1, .int x2]) (n := 3) (Nat.le_of_ble_eq_true rfl)
  rw [lg_entry_eq]
  generalize (lg_sl ([.ref (xA G (60 + sk)), .int x1, .int x2]) ++ List.replicate (3 - (lg_sl ([.ref (xA G (60 + sk)), .int x1, .int x2])).length) Slot.unset).toArray = ls at hl ⊢
  have hl : lv_has ls 3 [(0, .ref (xA G (60 + sk))), (1, .int x1), (2, .int x2)] := hl
  unfold fS_become at h
  refine W_nm (fun H locs eH eL => ?_)
  have hH : xH G s (va_A (xW G σ0) s.heap.size) σ0 H locs := by rw [eH, eL]; exact hH
  show W p l e rmS_become s m _ below meth c H locs 0 0 _ (F0 m 0 ls [])
  refine lv_aload_n hx hb dX4_become_0 rfl (lv_at hl 0 rfl) ?_
  refine lv_iload_n hx hb dX4_become_1 rfl (lv_at hl 1 rfl) ?_
  obtain ⟨σ1, e2, h⟩ := bnd_some h
  refine x_put (C := RX4) (T := TX4) (N := 3) (ty := .int) (v := .int x1) hC hH (xe_S G σ0 hsk) rfl wyX4 tyX4_ok nmX4 0 (by decide) wfX4_11 rfl rfl (by decide +kernel) rfl rfl (Nat.le_of_ble_eq_true rfl) e2 (xs_S_0 G σ0 hsk _) dX4_become_2 (fun H locs hH => ?_)
  refine lv_aload_n hx hb dX4_become_5 rfl (lv_at hl 0 rfl) ?_
  refine lv_iload_n hx hb dX4_become_6 rfl (lv_at hl 2 rfl) ?_
  obtain ⟨σ3, e4, h⟩ := bnd_some h
  refine x_put (C := RX4) (T := TX4) (N := 3) (ty := .int) (v := .int x2) hC hH (xe_S G σ1 hsk) rfl wyX4 tyX4_ok nmX4 1 (by decide) wfX4_15 rfl rfl (by decide +kernel) rfl rfl (Nat.le_of_ble_eq_true rfl) e4 (xs_S_1 G σ1 hsk _) dX4_become_7 (fun H locs hH => ?_)
  refine lv_aload_n hx hb dX4_become_10 rfl (lv_at hl 0 rfl) ?_
  refine x_get (C := RX4) (T := TX4) (N := 3) (v := .ref (xA G (100 + (60 + sk)))) hC hH (xe_S G σ3 hsk) rfl wyX4 2 (by decide) wfX4_18 rfl rfl dX4_become_11 ?_
  refine lv_iconst (v := 0) hx hb dX4_become_14 (by decide) ?_
  obtain ⟨σ6, h5, h⟩ := ob_some h
  refine x_callsv (As := [.ref (xA G (100 + (60 + sk))), .int (0 : Int32)]) (rest := []) (cJ_fill_53178 l G σ3 (60 + sk) (0 : Int32) (xIs_s hsk) h5) hC hH hl (va_cwS 2 hts (gS wmX4_27 wsJ7_fill_53178) rfl rfl rfl hdJ7_fill_53178 ⟨Nat.le_of_ble_eq_true rfl, Nat.le_of_ble_eq_true rfl⟩) rfl rfl (Nat.le_of_ble_eq_true rfl) ⟨Nat.zero_le _, Nat.zero_le _⟩ dX4_become_15 (fun H locs hH => ?_)
  obtain rfl := some_i1 h
  exact x_vret hC hH hr dX4_become_18

def rmS_becomeAs : Room := { frames := 1, cells := 0, slots := 0, locals := 60 }
theorem hdX4_becomeAs : yX4_becomeAs.cls = RX4 ∧ yX4_becomeAs.cls ≠ "java/lang/invoke/MethodHandle" ∧ yX4_becomeAs.cls ≠ "java/lang/invoke/VarHandle" ∧ (parseMethodDescriptor yX4_becomeAs.desc).map (fun d => d.parameters.length) = some 1 := by decide +kernel

def fS_becomeAs (σ0 : XS) (sk : Nat) (p0 : Nat) : Option (XS) :=
  bnd (xu σ0 (10 + sk) 0 (xi σ0 (10 + p0) 0)) fun σ1 =>
  bnd (xu σ1 (10 + sk) 1 (xi σ1 (10 + p0) 1)) fun σ3 =>
  bnd (xua σ3 (60 + sk) (va_cpy (xi σ3 (60 + p0)) (xi σ3 (60 + sk)) ((0 : Int32)).toNatClampNeg ((0 : Int32)).toNatClampNeg ((24 : Int32)).toNatClampNeg)) fun σ5 =>
  some σ5

set_option maxHeartbeats 4000000 in
set_option maxRecDepth 100000 in
theorem cS_becomeAs (l : Launch) (G : XG) (σ0 : XS) (sk : Nat) (p0 : Nat) (hsk : sk < 9) (hp0 : p0 < 9) {σr : XS} (h : fS_becomeAs σ0 sk p0 = some σr) : ∀ sz, Met l yX4_becomeAs (Cond.code yX4_becomeAs cX4_becomeAs 2 none :: Tw) rmS_becomeAs (xP G σ0 sz [.ref (xA G (60 + sk)), .ref (xA G (60 + p0))]) (xQv G σ0 sz σr) 0 0 (va_A (xW G σ0) sz) := by
  intro sz
  refine Met.ofW (cc := cX4_becomeAs) (maxL := 2) (ret := (none)) (by decide) rfl ?_
  intro p e s m args below meth c s₁ Bd hml hv
  obtain ⟨hC, hr⟩ := jC_of Bd hml
  obtain ⟨rfl, rfl, hH⟩ := x_enter hv
  have hC : jC p s m _ meth c cX4_becomeAs 2 RX4 := hC
  have hx := hC.1.1
  have hb := hC.1.2.1
  have hown := hC.1.2.2.2.1
  have hts := hC.1.2.2.2.2
  have hl := lv_entry ([.ref (xA G (60 + sk)), .ref (xA G (60 + p0))]) (n := 2) (Nat.le_of_ble_eq_true rfl)
  rw [lg_entry_eq]
  generalize (lg_sl ([.ref (xA G (60 + sk)), .ref (xA G (60 + p0))]) ++ List.replicate (2 - (lg_sl ([.ref (xA G (60 + sk)), .ref (xA G (60 + p0))])).length) Slot.unset).toArray = ls at hl ⊢
  have hl : lv_has ls 2 [(0, .ref (xA G (60 + sk))), (1, .ref (xA G (60 + p0)))] := hl
  unfold fS_becomeAs at h
  refine W_nm (fun H locs eH eL => ?_)
  have hH : xH G s (va_A (xW G σ0) s.heap.size) σ0 H locs := by rw [eH, eL]; exact hH
  show W p l e rmS_becomeAs s m _ below meth c H locs 0 0 _ (F0 m 0 ls [])
  refine lv_aload_n hx hb dX4_becomeAs_0 rfl (lv_at hl 0 rfl) ?_
  refine lv_aload_n hx hb dX4_becomeAs_1 rfl (lv_at hl 1 rfl) ?_
  refine x_get (C := RX4) (T := TX4) (N := 3) (v := .int (xi σ0 (10 + p0) 0)) hC hH (xe_S G σ0 hp0) rfl wyX4 0 (by decide) wfX4_11 rfl rfl dX4_becomeAs_2 ?_
  obtain ⟨σ1, e2, h⟩ := bnd_some h
  refine x_put (C := RX4) (T := TX4) (N := 3) (ty := .int) (v := .int (xi σ0 (10 + p0) 0)) hC hH (xe_S G σ0 hsk) rfl wyX4 tyX4_ok nmX4 0 (by decide) wfX4_11 rfl rfl (by decide +kernel) rfl rfl (Nat.le_of_ble_eq_true rfl) e2 (xs_S_0 G σ0 hsk _) dX4_becomeAs_5 (fun H locs hH => ?_)
  refine lv_aload_n hx hb dX4_becomeAs_8 rfl (lv_at hl 0 rfl) ?_
  refine lv_aload_n hx hb dX4_becomeAs_9 rfl (lv_at hl 1 rfl) ?_
  refine x_get (C := RX4) (T := TX4) (N := 3) (v := .int (xi σ1 (10 + p0) 1)) hC hH (xe_S G σ1 hp0) rfl wyX4 1 (by decide) wfX4_15 rfl rfl dX4_becomeAs_10 ?_
  obtain ⟨σ3, e4, h⟩ := bnd_some h
  refine x_put (C := RX4) (T := TX4) (N := 3) (ty := .int) (v := .int (xi σ1 (10 + p0) 1)) hC hH (xe_S G σ1 hsk) rfl wyX4 tyX4_ok nmX4 1 (by decide) wfX4_15 rfl rfl (by decide +kernel) rfl rfl (Nat.le_of_ble_eq_true rfl) e4 (xs_S_1 G σ1 hsk _) dX4_becomeAs_13 (fun H locs hH => ?_)
  refine lv_aload_n hx hb dX4_becomeAs_16 rfl (lv_at hl 1 rfl) ?_
  refine x_get (C := RX4) (T := TX4) (N := 3) (v := .ref (xA G (100 + (60 + p0)))) hC hH (xe_S G σ3 hp0) rfl wyX4 2 (by decide) wfX4_18 rfl rfl dX4_becomeAs_17 ?_
  refine lv_iconst (v := 0) hx hb dX4_becomeAs_20 (by decide) ?_
  refine lv_aload_n hx hb dX4_becomeAs_21 rfl (lv_at hl 0 rfl) ?_
  refine x_get (C := RX4) (T := TX4) (N := 3) (v := .ref (xA G (100 + (60 + sk)))) hC hH (xe_S G σ3 hsk) rfl wyX4 2 (by decide) wfX4_18 rfl rfl dX4_becomeAs_22 ?_
  refine lv_iconst (v := 0) hx hb dX4_becomeAs_25 (by decide) ?_
  refine lv_bipush (v := 24) hx hb dX4_becomeAs_26 (by decide) ?_
  obtain ⟨σ5, e6, h⟩ := bnd_some h
  refine x_copy (d0 := (60 + p0)) (d1 := (60 + sk)) hC hH hl.1 wmX4_33 wAcn wAcs wzJ10 (xIs_s hp0) (xLen_s hp0) (xIs_s hsk) (xLen_s hsk) (by decide) e6 (Nat.le_of_ble_eq_true rfl) (by decide +kernel) dX4_becomeAs_28 (fun H locs hH => ?_)
  obtain rfl := some_i1 h
  exact x_vret hC hH hr dX4_becomeAs_31
