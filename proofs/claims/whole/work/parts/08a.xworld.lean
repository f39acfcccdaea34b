/-! what the class stands on beside its cells: the links among nest mates, its texts, two static fields -/
def xNF : List (String × Nat × String × String × String × String) := [("RoadSorted", 90, "RoadSorted$Bag", "count", "I", "RoadSorted"), ("RoadSorted", 101, "RoadSorted$Bag", "kind", "[I", "RoadSorted"), ("RoadSorted", 104, "RoadSorted$Bag", "thick", "[I", "RoadSorted"), ("RoadSorted", 107, "RoadSorted$Bag", "town", "[I", "RoadSorted"), ("RoadSorted", 114, "RoadSorted$Bag", "moved", "[I", "RoadSorted"), ("RoadSorted", 117, "RoadSorted$Bag", "rises", "[I", "RoadSorted"), ("RoadSorted", 142, "RoadSorted$Bag", "order", "[I", "RoadSorted"), ("RoadSorted", 152, "RoadSorted$Bag", "bump", "I", "RoadSorted"), ("RoadSorted", 167, "RoadSorted$Bag", "changes", "I", "RoadSorted"), ("RoadSorted", 170, "RoadSorted$Bag", "jolt", "I", "RoadSorted"), ("RoadSorted", 164, "RoadSorted$Bag", "z", "I", "RoadSorted"), ("RoadSorted$Reader", 116, "RoadSorted$Tape", "bytes", "[I", "RoadSorted"), ("RoadSorted", 231, "RoadSorted$Tape", "length", "I", "RoadSorted"), ("RoadSorted$Reader", 48, "RoadSorted$Tape", "sort", "I", "RoadSorted"), ("RoadSorted$Reader", 103, "RoadSorted$Tape", "start", "I", "RoadSorted"), ("RoadSorted", 237, "RoadSorted$Tape", "start", "I", "RoadSorted"), ("RoadSorted$Reader", 100, "RoadSorted$Tape", "end", "I", "RoadSorted"), ("RoadSorted", 262, "RoadSorted$Sheet", "sort", "I", "RoadSorted"), ("RoadSorted", 270, "RoadSorted$Sheet", "size", "I", "RoadSorted"), ("RoadSorted", 265, "RoadSorted$Sheet", "places", "[I", "RoadSorted"), ("RoadSorted", 291, "RoadSorted$Slot", "thing", "I", "RoadSorted"), ("RoadSorted", 294, "RoadSorted$Slot", "kind", "I", "RoadSorted"), ("RoadSorted", 296, "RoadSorted$Slot", "thick", "I", "RoadSorted"), ("RoadSorted", 305, "RoadSorted$Slot", "number", "I", "RoadSorted"), ("RoadSorted", 298, "RoadSorted$Slot", "row", "LRoadSorted$Sheet;", "RoadSorted"), ("RoadSorted", 244, "RoadSorted$Law", "key", "I", "RoadSorted"), ("RoadSorted", 251, "RoadSorted$Law", "operands", "I", "RoadSorted")]
def xNM : List (String × Nat × MethodName × String) := [("RoadSorted", 9, ⟨"RoadSorted$Bag", "<init>", "()V"⟩, "RoadSorted"), ("RoadSorted", 44, ⟨"RoadSorted$Tape", "<init>", "()V"⟩, "RoadSorted"), ("RoadSorted", 77, ⟨"RoadSorted$Sheet", "<init>", "()V"⟩, "RoadSorted"), ("RoadSorted", 78, ⟨"RoadSorted$Slot", "<init>", "()V"⟩, "RoadSorted"), ("RoadSorted$Slot", 26, ⟨"RoadSorted$Sheet", "<init>", "()V"⟩, "RoadSorted"), ("RoadSorted$Bag", 71, ⟨"RoadSorted", "held", "(III)I"⟩, "RoadSorted")]
def xSt : List (String × Nat × String) := [("RoadSorted$Reader", 60, "rise"), ("RoadSorted$Reader", 66, "fee"), ("RoadSorted$Reader", 68, "fine"), ("RoadSorted$Law", 23, "tdm"), ("RoadSorted$Law", 25, "mj"), ("RoadSorted$Law", 27, "tp")]
def xSl : List Nat := [4, 3, 4, 3, 2, 2]
def xSb : List (List Int32) := [[114, 105, 115, 101], [102, 101, 101], [102, 105, 110, 101], [116, 100, 109], [109, 106], [116, 112]]
abbrev XG : Type := va_G × (Nat → ClassId) × (Nat → Nat) × (Nat → Nat) × (Nat → Nat)
abbrev xD (G : XG) : va_G := G.1
abbrev xK (G : XG) : Nat → ClassId := G.2.1
abbrev xA (G : XG) : Nat → Nat := G.2.2.1
abbrev xaK (G : XG) : Nat → Nat := G.2.2.2.1
abbrev xaV (G : XG) : Nat → Nat := G.2.2.2.2
def xE (G : XG) (A : Nat → Prop) (U : State) (H : Heap) : Prop :=
  (∀ q ∈ xNF, va_Nw (.fieldLinkNest q.1 q.2.1 q.2.2.1 q.2.2.2.1 q.2.2.2.2.1 q.2.2.2.2.2) U) ∧ (∀ q ∈ xNM, va_Nw (.methodLinkNest q.1 q.2.1 q.2.2.1 q.2.2.2) U) ∧
  vk_S 6 xSl xSb (xaK G) (xaV G) A U H ∧ (∀ (k : Nat) (q : String × Nat × String), xSt[k]? = some q → vk_R q.1 q.2.1 q.2.2 (xaK G k) U) ∧
  va_Z "java/lang/String" "COMPACT_STRINGS" "Z" (.int 1) A U H ∧ va_Zq "jdk/internal/util/Preconditions" "SIOOBE_FORMATTER" "Ljava/util/function/BiFunction;" A U H
theorem xE_to {G : XG} {A A' : Nat → Prop} {s U : State} {H : Heap} (h : xE G A s s.heap) (hq : ∀ a : Nat, a < s.heap.size → ¬ A a → H[a]? = s.heap[a]?) (hA : ∀ q, A' q → A q) (hU : U.heap = H) (hW : s.WarmedH U.vm) : xE G A' U U.heap := by
  obtain ⟨h1, h2, h3, h4, h5, h6⟩ := h
  refine ⟨fun q hq => va_Nw.warmF hW (h1 q hq), fun q hq => va_Nw.warmM hW (h2 q hq), ?_, fun k q hk => vk_R.warm hW (h4 k q hk), ?_, ?_⟩
  · rw [hU]; exact ((h3.kept hq).narrow hA).moved hW.alike
  · rw [hU]; exact ((h5.kept hq).narrow hA).moved hW.alike
  · rw [hU]; exact ((h6.kept hq).narrow hA).moved hW.alike
theorem xE_call {G : XG} {A : Nat → Prop} {U : State} {g : JFrame} {mk : MethodId} {a : Array Value} (h : xE G A U U.heap) : xE G A (U.calling g mk a) (U.calling g mk a).heap := by
  obtain ⟨h1, h2, h3, h4, h5, h6⟩ := h
  exact ⟨fun q hq => va_Nw.same rfl rfl (h1 q hq), fun q hq => va_Nw.same rfl rfl (h2 q hq), vk_S.moved (u := U) (U := U.calling g mk a) (Vm.Alike.refl U.vm) h3, fun k q hk => vk_R.same rfl (h4 k q hk), va_Z.moved (u := U) (U := U.calling g mk a) (Vm.Alike.refl U.vm) h5, va_Zq.moved (u := U) (U := U.calling g mk a) (Vm.Alike.refl U.vm) h6⟩
/-! THE CLASS's cells as one picture: numbers (object or row, place), the bags' rise, the laws' row, and the pool of laws and their rows -/
abbrev XS : Type := (Nat → Nat → Int32) × (Nat → Option Nat) × (Nat → Option Nat) × List Nat × (Nat → Nat → Nat) × (Nat → Nat → Int32)
def xi (σ : XS) : Nat → Nat → Int32 := σ.1
def xr (σ : XS) : Nat → Option Nat := σ.2.1
def xl (σ : XS) : Nat → Option Nat := σ.2.2.1
def xL (σ : XS) : List Nat := σ.2.2.2.1
def xq (σ : XS) : Nat → Nat → Nat := σ.2.2.2.2.1
def xw (σ : XS) : Nat → Nat → Int32 := σ.2.2.2.2.2
def xu (σ : XS) (c i : Nat) (v : Int32) : XS := (up2 σ.1 c i v, σ.2)
def xua (σ : XS) (c : Nat) (f : Nat → Int32) : XS := (fun c' => if c' = c then f else σ.1 c', σ.2)
def xur (σ : XS) (k : Nat) (v : Option Nat) : XS := (σ.1, va_up σ.2.1 k v, σ.2.2)
def xul (σ : XS) (k : Nat) (v : Option Nat) : XS := (σ.1, σ.2.1, va_up σ.2.2.1 k v, σ.2.2.2)
def xuw (σ : XS) (a j : Nat) (v : Int32) : XS := (σ.1, σ.2.1, σ.2.2.1, σ.2.2.2.1, σ.2.2.2.2.1, up2 σ.2.2.2.2.2 a j v)
def fX (G : XG) (σ : XS) : List Value := [.ref (xA G 1), .ref (xA G 2), .ref (xA G 3), .ref (xA G 4), .int (xi σ 0 4), .ref (xA G 5), .int (xi σ 0 6), .int (xi σ 0 7), .ref (xA G 6), .ref (xA G 7), .ref (xA G 8), .ref (xA G 9), .ref (xA G (100 + 56)), .int (xi σ 0 13)]
def fB (G : XG) (σ : XS) (b : Nat) : List Value := [.int (xi σ (1 + b) 0), .ref (xA G (100 + (30 + 6 * b + 0))), .ref (xA G (100 + (30 + 6 * b + 1))), .ref (xA G (100 + (30 + 6 * b + 2))), .ref (xA G (100 + (30 + 6 * b + 3))), .ref (xA G (100 + (30 + 6 * b + 4))), .ref (xA G (100 + (30 + 6 * b + 5))), .int (xi σ (1 + b) 7), .int (xi σ (1 + b) 8), .int (xi σ (1 + b) 9), .int (xi σ (1 + b) 10), va_rf (xr σ b)]
def fT (G : XG) (σ : XS) : List Value := [.ref (xA G (100 + 54)), .int (xi σ 5 1), .int (xi σ 5 2), .int (xi σ 5 3), .int (xi σ 5 4)]
def fR (G : XG) (σ : XS) : List Value := [.ref (xA G 6), .int (xi σ 6 1), .int (xi σ 6 2), .ref (xA G (100 + 55)), .int (xi σ 6 4), .int (xi σ 6 5), .int (xi σ 6 6)]
def fS (G : XG) (σ : XS) (k : Nat) : List Value := [.int (xi σ (10 + k) 0), .int (xi σ (10 + k) 1), .ref (xA G (100 + (60 + k)))]
def fO (G : XG) (σ : XS) (j : Nat) : List Value := [.int (xi σ (20 + j) 0), .int (xi σ (20 + j) 1), .int (xi σ (20 + j) 2), .int (xi σ (20 + j) 3), .ref (xA G (60 + (4 + j)))]
def fL (σ : XS) (a : Nat) : List Value := [.int (xw σ a 0), .int (xw σ a 1), .ref (xq σ a 0), .ref (xq σ a 1)]
def xHd (G : XG) (σ : XS) : va_W := [(xA G 0, .inr (6, fX G σ)),
  (xA G (1 + 0), .inr (0, fB G σ 0)),
  (xA G (1 + 1), .inr (0, fB G σ 1)),
  (xA G (1 + 2), .inr (0, fB G σ 2)),
  (xA G (1 + 3), .inr (0, fB G σ 3)),
  (xA G 6, .inr (5, fT G σ)),
  (xA G 7, .inr (2, fR G σ)),
  (xA G 5, .inl (xK G 1, 14, .inr (.inr (.inr (.inr (xl σ)))))),
  (xA G 8, .inl (xK G 2, 4, .inr (.inr (.inr (.inr (fun i => some (xA G (60 + i)))))))),
  (xA G 9, .inl (xK G 3, 5, .inr (.inr (.inr (.inr (fun i => some (xA G (70 + i)))))))),
  (xA G (60 + 0), .inr (3, fS G σ 0)),
  (xA G (60 + 1), .inr (3, fS G σ 1)),
  (xA G (60 + 2), .inr (3, fS G σ 2)),
  (xA G (60 + 3), .inr (3, fS G σ 3)),
  (xA G (60 + 4), .inr (3, fS G σ 4)),
  (xA G (60 + 5), .inr (3, fS G σ 5)),
  (xA G (60 + 6), .inr (3, fS G σ 6)),
  (xA G (60 + 7), .inr (3, fS G σ 7)),
  (xA G (60 + 8), .inr (3, fS G σ 8)),
  (xA G (70 + 0), .inr (4, fO G σ 0)),
  (xA G (70 + 1), .inr (4, fO G σ 1)),
  (xA G (70 + 2), .inr (4, fO G σ 2)),
  (xA G (70 + 3), .inr (4, fO G σ 3)),
  (xA G (70 + 4), .inr (4, fO G σ 4)),
  (xA G (100 + 30), .inl (xK G 0, 14, .inl (xi σ 30))),
  (xA G (100 + 31), .inl (xK G 0, 14, .inl (xi σ 31))),
  (xA G (100 + 32), .inl (xK G 0, 14, .inl (xi σ 32))),
  (xA G (100 + 33), .inl (xK G 0, 14, .inl (xi σ 33))),
  (xA G (100 + 34), .inl (xK G 0, 14, .inl (xi σ 34))),
  (xA G (100 + 35), .inl (xK G 0, 14, .inl (xi σ 35))),
  (xA G (100 + 36), .inl (xK G 0, 14, .inl (xi σ 36))),
  (xA G (100 + 37), .inl (xK G 0, 14, .inl (xi σ 37))),
  (xA G (100 + 38), .inl (xK G 0, 14, .inl (xi σ 38))),
  (xA G (100 + 39), .inl (xK G 0, 14, .inl (xi σ 39))),
  (xA G (100 + 40), .inl (xK G 0, 14, .inl (xi σ 40))),
  (xA G (100 + 41), .inl (xK G 0, 14, .inl (xi σ 41))),
  (xA G (100 + 42), .inl (xK G 0, 14, .inl (xi σ 42))),
  (xA G (100 + 43), .inl (xK G 0, 14, .inl (xi σ 43))),
  (xA G (100 + 44), .inl (xK G 0, 14, .inl (xi σ 44))),
  (xA G (100 + 45), .inl (xK G 0, 14, .inl (xi σ 45))),
  (xA G (100 + 46), .inl (xK G 0, 14, .inl (xi σ 46))),
  (xA G (100 + 47), .inl (xK G 0, 14, .inl (xi σ 47))),
  (xA G (100 + 48), .inl (xK G 0, 14, .inl (xi σ 48))),
  (xA G (100 + 49), .inl (xK G 0, 14, .inl (xi σ 49))),
  (xA G (100 + 50), .inl (xK G 0, 14, .inl (xi σ 50))),
  (xA G (100 + 51), .inl (xK G 0, 14, .inl (xi σ 51))),
  (xA G (100 + 52), .inl (xK G 0, 14, .inl (xi σ 52))),
  (xA G (100 + 53), .inl (xK G 0, 14, .inl (xi σ 53))),
  (xA G (100 + 54), .inl (xK G 0, 96, .inl (xi σ 54))),
  (xA G (100 + 55), .inl (xK G 0, 96, .inl (xi σ 55))),
  (xA G (100 + 56), .inl (xK G 0, 60, .inl (xi σ 56))),
  (xA G (100 + 60), .inl (xK G 0, 24, .inl (xi σ 60))),
  (xA G (100 + 61), .inl (xK G 0, 24, .inl (xi σ 61))),
  (xA G (100 + 62), .inl (xK G 0, 24, .inl (xi σ 62))),
  (xA G (100 + 63), .inl (xK G 0, 24, .inl (xi σ 63))),
  (xA G (100 + 64), .inl (xK G 0, 24, .inl (xi σ 64))),
  (xA G (100 + 65), .inl (xK G 0, 24, .inl (xi σ 65))),
  (xA G (100 + 66), .inl (xK G 0, 24, .inl (xi σ 66))),
  (xA G (100 + 67), .inl (xK G 0, 24, .inl (xi σ 67))),
  (xA G (100 + 68), .inl (xK G 0, 24, .inl (xi σ 68)))]
def xf (G : XG) (σ : XS) : Nat → va_E := fun a => if xq σ a 3 = 0 then .inr (1, fL σ a) else .inl (xK G 0, xq σ a 2, .inl (xw σ a))
def xW (G : XG) (σ : XS) : va_W := xHd G σ ++ va_pl (xL σ) (xf G σ)
def xT (G : XG) : List (ClassId × FieldType) := [(xK G 0, .int), (xK G 1, .object RX2), (xK G 2, .object RX4), (xK G 3, .object RX5)]
def xLen (c : Nat) : Nat := match c with
  | 30 => 14
  | 31 => 14
  | 32 => 14
  | 33 => 14
  | 34 => 14
  | 35 => 14
  | 36 => 14
  | 37 => 14
  | 38 => 14
  | 39 => 14
  | 40 => 14
  | 41 => 14
  | 42 => 14
  | 43 => 14
  | 44 => 14
  | 45 => 14
  | 46 => 14
  | 47 => 14
  | 48 => 14
  | 49 => 14
  | 50 => 14
  | 51 => 14
  | 52 => 14
  | 53 => 14
  | 54 => 96
  | 55 => 96
  | 56 => 60
  | 60 => 24
  | 61 => 24
  | 62 => 24
  | 63 => 24
  | 64 => 24
  | 65 => 24
  | 66 => 24
  | 67 => 24
  | 68 => 24
  | _ => 0
def xPos (c : Nat) : Nat := match c with
  | 30 => 24
  | 31 => 25
  | 32 => 26
  | 33 => 27
  | 34 => 28
  | 35 => 29
  | 36 => 30
  | 37 => 31
  | 38 => 32
  | 39 => 33
  | 40 => 34
  | 41 => 35
  | 42 => 36
  | 43 => 37
  | 44 => 38
  | 45 => 39
  | 46 => 40
  | 47 => 41
  | 48 => 42
  | 49 => 43
  | 50 => 44
  | 51 => 45
  | 52 => 46
  | 53 => 47
  | 54 => 48
  | 55 => 49
  | 56 => 50
  | 60 => 51
  | 61 => 52
  | 62 => 53
  | 63 => 54
  | 64 => 55
  | 65 => 56
  | 66 => 57
  | 67 => 58
  | 68 => 59
  | _ => 0
def xIs (c : Nat) : Bool := match c with
  | 30 => true
  | 31 => true
  | 32 => true
  | 33 => true
  | 34 => true
  | 35 => true
  | 36 => true
  | 37 => true
  | 38 => true
  | 39 => true
  | 40 => true
  | 41 => true
  | 42 => true
  | 43 => true
  | 44 => true
  | 45 => true
  | 46 => true
  | 47 => true
  | 48 => true
  | 49 => true
  | 50 => true
  | 51 => true
  | 52 => true
  | 53 => true
  | 54 => true
  | 55 => true
  | 56 => true
  | 60 => true
  | 61 => true
  | 62 => true
  | 63 => true
  | 64 => true
  | 65 => true
  | 66 => true
  | 67 => true
  | 68 => true
  | _ => false
theorem xIs_b {b j : Nat} (hb : b < 4) (hj : j < 6) : xIs (30 + 6 * b + j) = true := by
  match b, hb, j, hj with
  | 0, _, 0, _ => rfl
  | 0, _, 1, _ => rfl
  | 0, _, 2, _ => rfl
  | 0, _, 3, _ => rfl
  | 0, _, 4, _ => rfl
  | 0, _, 5, _ => rfl
  | 1, _, 0, _ => rfl
  | 1, _, 1, _ => rfl
  | 1, _, 2, _ => rfl
  | 1, _, 3, _ => rfl
  | 1, _, 4, _ => rfl
  | 1, _, 5, _ => rfl
  | 2, _, 0, _ => rfl
  | 2, _, 1, _ => rfl
  | 2, _, 2, _ => rfl
  | 2, _, 3, _ => rfl
  | 2, _, 4, _ => rfl
  | 2, _, 5, _ => rfl
  | 3, _, 0, _ => rfl
  | 3, _, 1, _ => rfl
  | 3, _, 2, _ => rfl
  | 3, _, 3, _ => rfl
  | 3, _, 4, _ => rfl
  | 3, _, 5, _ => rfl
  | b + 4, hb, j, hj => omega
  | 0, _, j + 6, hj => omega
  | 1, _, j + 6, hj => omega
  | 2, _, j + 6, hj => omega
  | 3, _, j + 6, hj => omega
theorem xIs_s {k : Nat} (hk : k < 9) : xIs (60 + k) = true := by
  match k, hk with
  | 0, _ => rfl
  | 1, _ => rfl
  | 2, _ => rfl
  | 3, _ => rfl
  | 4, _ => rfl
  | 5, _ => rfl
  | 6, _ => rfl
  | 7, _ => rfl
  | 8, _ => rfl
  | k + 9, hk => omega
theorem xLen_b {b j : Nat} (hb : b < 4) (hj : j < 6) : xLen (30 + 6 * b + j) = 14 := by
  match b, hb, j, hj with
  | 0, _, 0, _ => rfl
  | 0, _, 1, _ => rfl
  | 0, _, 2, _ => rfl
  | 0, _, 3, _ => rfl
  | 0, _, 4, _ => rfl
  | 0, _, 5, _ => rfl
  | 1, _, 0, _ => rfl
  | 1, _, 1, _ => rfl
  | 1, _, 2, _ => rfl
  | 1, _, 3, _ => rfl
  | 1, _, 4, _ => rfl
  | 1, _, 5, _ => rfl
  | 2, _, 0, _ => rfl
  | 2, _, 1, _ => rfl
  | 2, _, 2, _ => rfl
  | 2, _, 3, _ => rfl
  | 2, _, 4, _ => rfl
  | 2, _, 5, _ => rfl
  | 3, _, 0, _ => rfl
  | 3, _, 1, _ => rfl
  | 3, _, 2, _ => rfl
  | 3, _, 3, _ => rfl
  | 3, _, 4, _ => rfl
  | 3, _, 5, _ => rfl
  | b + 4, hb, j, hj => omega
  | 0, _, j + 6, hj => omega
  | 1, _, j + 6, hj => omega
  | 2, _, j + 6, hj => omega
  | 3, _, j + 6, hj => omega
theorem xLen_s {k : Nat} (hk : k < 9) : xLen (60 + k) = 24 := by
  match k, hk with
  | 0, _ => rfl
  | 1, _ => rfl
  | 2, _ => rfl
  | 3, _ => rfl
  | 4, _ => rfl
  | 5, _ => rfl
  | 6, _ => rfl
  | 7, _ => rfl
  | 8, _ => rfl
  | k + 9, hk => omega
theorem xe_arr (G : XG) (σ : XS) {c : Nat} (h : xIs c = true) : (xW G σ)[xPos c]? = some (xA G (100 + c), .inl (xK G 0, xLen c, .inl (xi σ c))) := by
  unfold xIs at h
  split at h <;> first | rfl | cases h
set_option maxHeartbeats 4000000 in
theorem xs_arr (G : XG) (σ : XS) {c : Nat} (h : xIs c = true) (f : Nat → Int32) : (xW G σ).set (xPos c) (xA G (100 + c), .inl (xK G 0, xLen c, .inl f)) = xW G (xua σ c f) := by
  unfold xIs at h
  split at h <;> first | rfl | cases h
theorem xe_X (G : XG) (σ : XS) : (xW G σ)[0]? = some (xA G 0, .inr (6, fX G σ)) := rfl
theorem xe_T (G : XG) (σ : XS) : (xW G σ)[5]? = some (xA G 6, .inr (5, fT G σ)) := rfl
theorem xe_R (G : XG) (σ : XS) : (xW G σ)[6]? = some (xA G 7, .inr (2, fR G σ)) := rfl
theorem xe_laws (G : XG) (σ : XS) : (xW G σ)[7]? = some (xA G 5, .inl (xK G 1, 14, .inr (.inr (.inr (.inr (xl σ)))))) := rfl
theorem xe_sheets (G : XG) (σ : XS) : (xW G σ)[8]? = some (xA G 8, .inl (xK G 2, 4, .inr (.inr (.inr (.inr (fun i => some (xA G (60 + i)))))))) := rfl
theorem xe_slots (G : XG) (σ : XS) : (xW G σ)[9]? = some (xA G 9, .inl (xK G 3, 5, .inr (.inr (.inr (.inr (fun i => some (xA G (70 + i)))))))) := rfl
theorem xs_laws (G : XG) (σ : XS) (j : Nat) (v : Option Nat) : (xW G σ).set 7 (xA G 5, .inl (xK G 1, 14, .inr (.inr (.inr (.inr (va_up (xl σ) j v)))))) = xW G (xul σ j v) := rfl
theorem xe_B (G : XG) (σ : XS) {b : Nat} (h : b < 4) : (xW G σ)[1 + b]? = some (xA G (1 + b), .inr (0, fB G σ b)) := by
  match b, h with
  | 0, _ => rfl
  | 1, _ => rfl
  | 2, _ => rfl
  | 3, _ => rfl
  | z + 4, h => omega
theorem xe_S (G : XG) (σ : XS) {k : Nat} (h : k < 9) : (xW G σ)[10 + k]? = some (xA G (60 + k), .inr (3, fS G σ k)) := by
  match k, h with
  | 0, _ => rfl
  | 1, _ => rfl
  | 2, _ => rfl
  | 3, _ => rfl
  | 4, _ => rfl
  | 5, _ => rfl
  | 6, _ => rfl
  | 7, _ => rfl
  | 8, _ => rfl
  | z + 9, h => omega
theorem xe_O (G : XG) (σ : XS) {j : Nat} (h : j < 5) : (xW G σ)[19 + j]? = some (xA G (70 + j), .inr (4, fO G σ j)) := by
  match j, h with
  | 0, _ => rfl
  | 1, _ => rfl
  | 2, _ => rfl
  | 3, _ => rfl
  | 4, _ => rfl
  | z + 5, h => omega
theorem xs_B_0 (G : XG) (σ : XS) {b : Nat} (h : b < 4) (v : Int32) : (xW G σ).set (1 + b) (xA G (1 + b), .inr (0, (fB G σ b).set 0 (.int v))) = xW G (xu σ (1 + b) 0 v) := by
  match b, h with
  | 0, _ => rfl
  | 1, _ => rfl
  | 2, _ => rfl
  | 3, _ => rfl
  | z + 4, h => omega
theorem xs_B_7 (G : XG) (σ : XS) {b : Nat} (h : b < 4) (v : Int32) : (xW G σ).set (1 + b) (xA G (1 + b), .inr (0, (fB G σ b).set 7 (.int v))) = xW G (xu σ (1 + b) 7 v) := by
  match b, h with
  | 0, _ => rfl
  | 1, _ => rfl
  | 2, _ => rfl
  | 3, _ => rfl
  | z + 4, h => omega
theorem xs_B_8 (G : XG) (σ : XS) {b : Nat} (h : b < 4) (v : Int32) : (xW G σ).set (1 + b) (xA G (1 + b), .inr (0, (fB G σ b).set 8 (.int v))) = xW G (xu σ (1 + b) 8 v) := by
  match b, h with
  | 0, _ => rfl
  | 1, _ => rfl
  | 2, _ => rfl
  | 3, _ => rfl
  | z + 4, h => omega
theorem xs_B_9 (G : XG) (σ : XS) {b : Nat} (h : b < 4) (v : Int32) : (xW G σ).set (1 + b) (xA G (1 + b), .inr (0, (fB G σ b).set 9 (.int v))) = xW G (xu σ (1 + b) 9 v) := by
  match b, h with
  | 0, _ => rfl
  | 1, _ => rfl
  | 2, _ => rfl
  | 3, _ => rfl
  | z + 4, h => omega
theorem xs_B_10 (G : XG) (σ : XS) {b : Nat} (h : b < 4) (v : Int32) : (xW G σ).set (1 + b) (xA G (1 + b), .inr (0, (fB G σ b).set 10 (.int v))) = xW G (xu σ (1 + b) 10 v) := by
  match b, h with
  | 0, _ => rfl
  | 1, _ => rfl
  | 2, _ => rfl
  | 3, _ => rfl
  | z + 4, h => omega
theorem xs_S_0 (G : XG) (σ : XS) {k : Nat} (h : k < 9) (v : Int32) : (xW G σ).set (10 + k) (xA G (60 + k), .inr (3, (fS G σ k).set 0 (.int v))) = xW G (xu σ (10 + k) 0 v) := by
  match k, h with
  | 0, _ => rfl
  | 1, _ => rfl
  | 2, _ => rfl
  | 3, _ => rfl
  | 4, _ => rfl
  | 5, _ => rfl
  | 6, _ => rfl
  | 7, _ => rfl
  | 8, _ => rfl
  | z + 9, h => omega
theorem xs_S_1 (G : XG) (σ : XS) {k : Nat} (h : k < 9) (v : Int32) : (xW G σ).set (10 + k) (xA G (60 + k), .inr (3, (fS G σ k).set 1 (.int v))) = xW G (xu σ (10 + k) 1 v) := by
  match k, h with
  | 0, _ => rfl
  | 1, _ => rfl
  | 2, _ => rfl
  | 3, _ => rfl
  | 4, _ => rfl
  | 5, _ => rfl
  | 6, _ => rfl
  | 7, _ => rfl
  | 8, _ => rfl
  | z + 9, h => omega
theorem xs_O_0 (G : XG) (σ : XS) {j : Nat} (h : j < 5) (v : Int32) : (xW G σ).set (19 + j) (xA G (70 + j), .inr (4, (fO G σ j).set 0 (.int v))) = xW G (xu σ (20 + j) 0 v) := by
  match j, h with
  | 0, _ => rfl
  | 1, _ => rfl
  | 2, _ => rfl
  | 3, _ => rfl
  | 4, _ => rfl
  | z + 5, h => omega
theorem xs_O_1 (G : XG) (σ : XS) {j : Nat} (h : j < 5) (v : Int32) : (xW G σ).set (19 + j) (xA G (70 + j), .inr (4, (fO G σ j).set 1 (.int v))) = xW G (xu σ (20 + j) 1 v) := by
  match j, h with
  | 0, _ => rfl
  | 1, _ => rfl
  | 2, _ => rfl
  | 3, _ => rfl
  | 4, _ => rfl
  | z + 5, h => omega
theorem xs_O_2 (G : XG) (σ : XS) {j : Nat} (h : j < 5) (v : Int32) : (xW G σ).set (19 + j) (xA G (70 + j), .inr (4, (fO G σ j).set 2 (.int v))) = xW G (xu σ (20 + j) 2 v) := by
  match j, h with
  | 0, _ => rfl
  | 1, _ => rfl
  | 2, _ => rfl
  | 3, _ => rfl
  | 4, _ => rfl
  | z + 5, h => omega
theorem xs_O_3 (G : XG) (σ : XS) {j : Nat} (h : j < 5) (v : Int32) : (xW G σ).set (19 + j) (xA G (70 + j), .inr (4, (fO G σ j).set 3 (.int v))) = xW G (xu σ (20 + j) 3 v) := by
  match j, h with
  | 0, _ => rfl
  | 1, _ => rfl
  | 2, _ => rfl
  | 3, _ => rfl
  | 4, _ => rfl
  | z + 5, h => omega
theorem xs_Br (G : XG) (σ : XS) {b : Nat} (h : b < 4) (v : Option Nat) : (xW G σ).set (1 + b) (xA G (1 + b), .inr (0, (fB G σ b).set 11 (va_rf v))) = xW G (xur σ b v) := by
  match b, h with
  | 0, _ => rfl
  | 1, _ => rfl
  | 2, _ => rfl
  | 3, _ => rfl
  | z + 4, h => omega
theorem xs_X_4 (G : XG) (σ : XS) (v : Int32) : (xW G σ).set 0 (xA G 0, .inr (6, (fX G σ).set 4 (.int v))) = xW G (xu σ 0 4 v) := rfl
theorem xs_X_6 (G : XG) (σ : XS) (v : Int32) : (xW G σ).set 0 (xA G 0, .inr (6, (fX G σ).set 6 (.int v))) = xW G (xu σ 0 6 v) := rfl
theorem xs_X_7 (G : XG) (σ : XS) (v : Int32) : (xW G σ).set 0 (xA G 0, .inr (6, (fX G σ).set 7 (.int v))) = xW G (xu σ 0 7 v) := rfl
theorem xs_X_13 (G : XG) (σ : XS) (v : Int32) : (xW G σ).set 0 (xA G 0, .inr (6, (fX G σ).set 13 (.int v))) = xW G (xu σ 0 13 v) := rfl
theorem xs_T_1 (G : XG) (σ : XS) (v : Int32) : (xW G σ).set 5 (xA G 6, .inr (5, (fT G σ).set 1 (.int v))) = xW G (xu σ 5 1 v) := rfl
theorem xs_T_2 (G : XG) (σ : XS) (v : Int32) : (xW G σ).set 5 (xA G 6, .inr (5, (fT G σ).set 2 (.int v))) = xW G (xu σ 5 2 v) := rfl
theorem xs_T_3 (G : XG) (σ : XS) (v : Int32) : (xW G σ).set 5 (xA G 6, .inr (5, (fT G σ).set 3 (.int v))) = xW G (xu σ 5 3 v) := rfl
theorem xs_T_4 (G : XG) (σ : XS) (v : Int32) : (xW G σ).set 5 (xA G 6, .inr (5, (fT G σ).set 4 (.int v))) = xW G (xu σ 5 4 v) := rfl
theorem xs_R_1 (G : XG) (σ : XS) (v : Int32) : (xW G σ).set 6 (xA G 7, .inr (2, (fR G σ).set 1 (.int v))) = xW G (xu σ 6 1 v) := rfl
theorem xs_R_2 (G : XG) (σ : XS) (v : Int32) : (xW G σ).set 6 (xA G 7, .inr (2, (fR G σ).set 2 (.int v))) = xW G (xu σ 6 2 v) := rfl
theorem xs_R_4 (G : XG) (σ : XS) (v : Int32) : (xW G σ).set 6 (xA G 7, .inr (2, (fR G σ).set 4 (.int v))) = xW G (xu σ 6 4 v) := rfl
theorem xs_R_5 (G : XG) (σ : XS) (v : Int32) : (xW G σ).set 6 (xA G 7, .inr (2, (fR G σ).set 5 (.int v))) = xW G (xu σ 6 5 v) := rfl
theorem xs_R_6 (G : XG) (σ : XS) (v : Int32) : (xW G σ).set 6 (xA G 7, .inr (2, (fR G σ).set 6 (.int v))) = xW G (xu σ 6 6 v) := rfl
theorem xe_L (G : XG) (σ : XS) {a : Nat} (h : a ∈ xL σ) (hk : xq σ a 3 = 0) : ∃ k : Nat, (xW G σ)[k]? = some (a, .inr (1, fL σ a)) := by
  obtain ⟨k, hk2⟩ := va_pl_get (X := xHd G σ) (f := xf G σ) h
  refine ⟨k, hk2.trans ?_⟩
  unfold xf
  rw [if_pos hk]
theorem xe_pa (G : XG) (σ : XS) {a : Nat} (h : a ∈ xL σ) (hk : ¬ xq σ a 3 = 0) : ∃ k : Nat, (xW G σ)[k]? = some (a, .inl (xK G 0, xq σ a 2, .inl (xw σ a))) := by
  obtain ⟨k, hk2⟩ := va_pl_get (X := xHd G σ) (f := xf G σ) h
  refine ⟨k, hk2.trans ?_⟩
  unfold xf
  rw [if_neg hk]
theorem xs_pa (G : XG) (σ : XS) {A : Nat → Prop} {a k : Nat} (hD : va_D A (xW G σ)) (h : a ∈ xL σ) (hk : ¬ xq σ a 3 = 0) (he : (xW G σ)[k]? = some (a, .inl (xK G 0, xq σ a 2, .inl (xw σ a)))) (j : Nat) (v : Int32) : (xW G σ).set k (a, .inl (xK G 0, xq σ a 2, .inl (upd (xw σ a) j v))) = xW G (xuw σ a j v) := by
  have he2 : (xHd G σ ++ va_pl (xL σ) (xf G σ))[k]? = some (a, xf G σ a) := by
    rw [show xf G σ a = .inl (xK G 0, xq σ a 2, .inl (xw σ a)) from by unfold xf; rw [if_neg hk]]; exact he
  unfold xW
  rw [va_pl_set hD h he2]
  show xHd G σ ++ va_pl (xL σ) _ = xHd G σ ++ va_pl (xL σ) _
  congr 1
  apply va_pl_congr
  intro b
  by_cases hb : b = a
  · subst hb
    rw [va_up_self]
    unfold xf
    rw [if_neg (show ¬ xq (xuw σ b j v) b 3 = 0 from hk)]
    show _ = Sum.inl (xK G 0, xq σ b 2, Sum.inl (up2 (xw σ) b j v b))
    unfold up2
    rw [if_pos rfl]
  · rw [va_up_ne _ _ hb]
    unfold xf
    have e : xw (xuw σ a j v) b = xw σ b := by show up2 (xw σ) a j v b = _; unfold up2; rw [if_neg hb]
    show (if xq σ b 3 = 0 then Sum.inr (1, fL σ b) else Sum.inl (xK G 0, xq σ b 2, Sum.inl (xw σ b))) = (if xq σ b 3 = 0 then Sum.inr (1, fL (xuw σ a j v) b) else Sum.inl (xK G 0, xq σ b 2, Sum.inl (xw (xuw σ a j v) b)))
    have e2 : fL (xuw σ a j v) b = fL σ b := by unfold fL; rw [e]; rfl
    rw [e, e2]
