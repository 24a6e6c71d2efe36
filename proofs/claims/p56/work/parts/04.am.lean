/-! THE ABSTRACT MACHINE: values are integers, longs, float and double bits, numbers of cells; a heap is a function from cell numbers and places to integers. am_V says: from an abstract state of a method's frame every concrete frame that it describes comes to the method's end. -/
abbrev AV : Type := Int ⊕ (Int ⊕ (UInt32 ⊕ (UInt64 ⊕ (Nat ⊕ Unit))))
abbrev aI (x : Int) : AV := Sum.inl x
abbrev aL (x : Int) : AV := Sum.inr (Sum.inl x)
abbrev aF (x : UInt32) : AV := Sum.inr (Sum.inr (Sum.inl x))
abbrev aD (x : UInt64) : AV := Sum.inr (Sum.inr (Sum.inr (Sum.inl x)))
abbrev aR (a : Nat) : AV := Sum.inr (Sum.inr (Sum.inr (Sum.inr (Sum.inl a))))
abbrev aU : AV := Sum.inr (Sum.inr (Sum.inr (Sum.inr (Sum.inr ()))))
def am_i (x : Int) : Prop := -2147483648 ≤ x ∧ x < 2147483648
def am_l (x : Int) : Prop := -9223372036854775808 ≤ x ∧ x < 9223372036854775808
def am_ok : AV → Prop
  | .inl x => am_i x
  | .inr (.inl x) => am_l x
  | _ => True
/-- the address of a cell number: 1000 is the script -/
def am_ad (B b a : Nat) : Nat := if a = 1000 then b else B + a
def am_v (B b : Nat) : AV → Value
  | .inl x => .int (Int32.ofInt x)
  | .inr (.inl x) => .long (Int64.ofInt x)
  | .inr (.inr (.inl x)) => .float x
  | .inr (.inr (.inr (.inl x))) => .double x
  | .inr (.inr (.inr (.inr (.inl a)))) => .ref (am_ad B b a)
  | .inr (.inr (.inr (.inr (.inr _)))) => .null
/-- a method: own class, name, code, locals, return type, arguments, cells, slots, frames, handlers, whether it is the law -/
abbrev MInfo : Type := String × MethodName × ByteArray × Nat × Option FieldType × Nat × Nat × Nat × Nat × List (Nat × Nat × Nat × Nat) × Bool
abbrev am_own (m : MInfo) : String := m.1
abbrev am_y (m : MInfo) : MethodName := m.2.1
abbrev am_cc (m : MInfo) : ByteArray := m.2.2.1
abbrev am_ml (m : MInfo) : Nat := m.2.2.2.1
abbrev am_rt (m : MInfo) : Option FieldType := m.2.2.2.2.1
abbrev am_n (m : MInfo) : Nat := m.2.2.2.2.2.1
abbrev am_kc (m : MInfo) : Nat := m.2.2.2.2.2.2.1
abbrev am_ks (m : MInfo) : Nat := m.2.2.2.2.2.2.2.1
abbrev am_fr (m : MInfo) : Nat := m.2.2.2.2.2.2.2.2.1
abbrev am_hh (m : MInfo) : List (Nat × Nat × Nat × Nat) := m.2.2.2.2.2.2.2.2.2.1
abbrev am_law (m : MInfo) : Bool := m.2.2.2.2.2.2.2.2.2.2
/-- kinds of cells, references, whether nothing else was made behind them -/
abbrev Rho : Type := List (Nat × Nat) × (Nat → Int → Option Nat) × Bool
abbrev Hh : Type := Nat → Int → Int
abbrev PQ : Type := List AV → Rho → Hh → Prop
abbrev PX : Type := String → Rho → Hh → Prop
abbrev am_cl : List vw_C := [(RX1, TX1, 3), (RX2, TX2, 1), (RX3, TX3, 0), (RX5, TX5, 3), (RX6, TX6, 5), (RX7, TX7, 5), (RX8, TX8, 2), (RX9, TX9, 5), (RX10, TX10, 10)]
def am_ref (ci k : Nat) : Bool := match ci with
  | 0 => true
  | 1 => true
  | 2 => false
  | 3 => Nat.beq k 0
  | 4 => Nat.ble k 3
  | 5 => true
  | 6 => Nat.beq k 0
  | 7 => Nat.ble k 2
  | 8 => Nat.ble k 8
  | _ => Nat.ble k 7
def am_fv (B ci k : Nat) (r : Option Nat) (h : Int) : Value := if am_ref ci k = true then va_rf (r.map (B + ·)) else .int (Int32.ofInt h)
def am_cell (B : Nat) (cA : Nat → ClassId) (kd : Nat × Nat) (r : Int → Option Nat) (h : Int → Int) : va_E :=
  if kd.1 = 0 then .inl (cA 0, kd.2, .inl (fun i => Int32.ofInt (h i)))
  else if kd.1 = 1 then .inl (cA 1, kd.2, .inl (fun i => Int32.ofInt (h i)))
  else if kd.1 = 2 then .inl (cA 2, kd.2, .inr (.inl (fun i => Int64.ofInt (h i))))
  else if kd.1 = 3 then .inl (cA 3, kd.2, .inr (.inr (.inr (.inl (fun i => UInt64.ofNat (h i).toNat)))))
  else if kd.1 = 4 then .inl (cA 4, kd.2, .inr (.inr (.inr (.inr (fun i => (r i).map (B + ·))))))
  else if kd.1 = 5 then .inl (cA 5, kd.2, .inr (.inr (.inr (.inr (fun i => (r i).map (B + ·))))))
  else .inr (kd.1 - 10, (List.range kd.2).map (fun (k : Nat) => am_fv B (kd.1 - 10) k (r k) (h k)))
def am_w (B : Nat) (cA : Nat → ClassId) (ρ : Rho) (h : Hh) : va_W := ρ.1.mapIdx (fun i kd => (B + i, am_cell B cA kd (ρ.2.1 i) (h i)))
def am_tys (cA : Nat → ClassId) : List (ClassId × FieldType) := [(cA 0, .int), (cA 1, .char), (cA 2, .int), (cA 3, .int), (cA 4, .object RX6), (cA 5, .array .int)]
/-- what a cell's integers are -/
def am_rg (kd : Nat × Nat) (h : Int → Int) : Prop := (kd.1 = 2 → ∀ i, am_l (h i)) ∧ (kd.1 ≠ 2 → kd.1 ≠ 3 → ∀ i, am_i (h i)) ∧ (kd.1 = 1 → ∀ i, 0 ≤ h i ∧ h i < 65536) ∧ (kd.1 = 3 → ∀ i, 0 ≤ h i ∧ h i < 18446744073709551616)
def am_HR (D : va_G) (cA : Nat → ClassId) (B : Nat) (g0 g1 : Int → Int) (ρ : Rho) (h : Hh) (H : Heap) : Prop :=
  va_P D am_cl (am_w B cA ρ h) H ∧ (ρ.2.2 = true → H.size = B + ρ.1.length) ∧ ρ.1.length ≤ 1000 ∧ (∀ a i x, ρ.2.1 a i = some x → x < 1000) ∧ (∀ (a : Nat) (kd : Nat × Nat), ρ.1[a]? = some kd → am_rg kd (h a)) ∧ h 1000 = g0 ∧ h 1001 = g1
def am_LR (B b : Nat) (ls : Array Slot) (nL : Nat) (E : List AV) : Prop :=
  ls.size = nL ∧ E.length = nL ∧ lv_wf ls ∧ ∀ (i : Nat) (v : AV), E[i]? = some v → v = aU ∨ (ls[i]? = some (.val (am_v B b v)) ∧ am_ok v)
def am_St (st : List AV) : Prop := ∀ v ∈ st, am_ok v
def am_w1 : Cond → Bool
  | .castable _ _ => true
  | .methodLinkNest _ _ _ _ => true
  | .declares _ => true
  | _ => false
def am_W0 : List Cond := lw_tbl.filter goodWord
def am_W1 : List Cond := lw_tbl.filter am_w1
/-- the pairs of classes of exceptions that are unlike -/
def am_X6 : List String := ["java/lang/IllegalArgumentException", "java/lang/IllegalStateException", "java/lang/IndexOutOfBoundsException", "java/lang/UnsupportedOperationException", "java/util/NoSuchElementException"]
def am_AO (U : State) : Prop := (Cond.arrayOver (.object RX6)).before #[] U = true ∧ (Cond.arrayOver (.array .int)).before #[] U = true
def am_strs (U : State) : Prop := (∀ (own : String) (k : Nat) (tx : String), Cond.stringRef own k tx ∈ lw_tbl → ∃ a, vk_R own k tx a U) ∧ am_AO U
def am_A (B : Nat) : Nat → Prop := fun q => B ≤ q
def am_C (m : MInfo) (l : Launch) (p : Program) (s : State) (R : Room) (i : MethodId) (args : Array Value) (meth : Method) (c : Code) (D : va_G) (cA : Nat → ClassId) (B b : Nat) (g0 g1 : Int → Int) : Prop :=
  l.stackTraces = false ∧ p.tables.exec = Jvm.exec ∧ c.code = am_cc m ∧ meth.sig.returnType = am_rt m ∧ c.maxLocals = am_ml m ∧ s.vm.findClass (am_own m) = some i.cls ∧ (∀ w ∈ am_W0, w.before args s = true) ∧ (∀ w ∈ am_W1, va_Nw w s) ∧ am_strs s ∧ meth.locks = false ∧ va_K D am_cl (am_tys cA) s ∧ vx_Zq Bundle.tN "UNASSIGNED_STACK" Bundle.steD (am_A B) s s.heap ∧ vx_Zq Bundle.tN "SUPPRESSED_SENTINEL" Bundle.listD (am_A B) s s.heap ∧ B ≤ s.heap.size ∧ ((am_law m = true ∧ am_hh m = []) ∨ c.exceptionTable.toList = tableOf (am_hh m)) ∧ (am_law m = true ∨ meth.name = (am_y m).name) ∧ am_fr m ≤ R.frames ∧ 100 * am_fr m ≤ R.locals ∧ (∀ E1 ∈ am_X6, ∀ E2 ∈ am_X6, E1 ≠ E2 → va_Nc E1 E2 s) ∧ (va_X b (g1 0).toNat (fun j => Int32.ofInt (g0 j)) s s.heap ∧ b < B ∧ (∀ j, am_i (g0 j)) ∧ 0 ≤ g1 0 ∧ g1 0 ≤ 260)
def am_QC (D : va_G) (cA : Nat → ClassId) (B b : Nat) (g0 g1 : Int → Int) (Q : PQ) : Array Value → State → Outcome → State → Prop := fun _ st o t =>
  ∃ (v : List AV) (ρ : Rho) (h : Hh), o = .returned (v.head?.map (am_v B b)) ∧ v.length ≤ 1 ∧ Q v ρ h ∧ am_St v ∧ am_HR D cA B g0 g1 ρ h t.heap ∧ va_F (am_A B) st t
def am_XC (D : va_G) (cA : Nat → ClassId) (B : Nat) (g0 g1 : Int → Int) (X : PX) : String → State → State → Prop := fun E st t =>
  ∃ (ρ : Rho) (h : Hh), X E ρ h ∧ am_HR D cA B g0 g1 ρ h t.heap ∧ va_F (am_A B) st t
/-- the end that is owed: of a method by its contract; the law's own by Z -/
def am_Z (m : MInfo) (l : Launch) (p : Program) (e : Env) (R : Room) (s : State) (i : MethodId) (args : Array Value) (below : List Frame) (meth : Method) (c : Code) (D : va_G) (cA : Nat → ClassId) (B b : Nat) (g0 g1 : Int → Int) (Q : PQ) (X : PX) (Z : State → Prop) : Prop :=
  (am_law m = false ∧ Z = vx_MQ below (am_QC D cA B b g0 g1 Q) (am_XC D cA B g0 g1 X) args s R.cells R.slots (am_A B)) ∨
  (am_law m = true ∧ (∀ E ρ h, ¬ X E ρ h) ∧ ∀ (v : Int) (ρ : Rho) (h : Hh) (pc : Nat) (H : Heap) (locs : List Loc) (cells slots : Nat) (ls : Array Slot), Q [aI v] ρ h → am_i v → decode (am_cc m) pc = .ok (.ireturn, 1) → va_S (am_A B) s.heap H locs → cells ≤ R.cells → slots ≤ R.slots → W p l e R s i args below meth c H locs cells slots Z (F0 i pc ls [.int (Int32.ofInt v)]))
def am_V (m : MInfo) (kc ks pc : Nat) (E st : List AV) (ρ : Rho) (h : Hh) (Q : PQ) (X : PX) : Prop :=
  ∀ (l : Launch) (p : Program) (e : Env) (R : Room) (s : State) (i : MethodId) (args : Array Value) (below : List Frame) (meth : Method) (c : Code) (D : va_G) (cA : Nat → ClassId) (B b : Nat) (g0 g1 : Int → Int) (Z : State → Prop) (H : Heap) (locs : List Loc) (cells slots : Nat) (ls : Array Slot),
    am_C m l p s R i args meth c D cA B b g0 g1 → am_Z m l p e R s i args below meth c D cA B b g0 g1 Q X Z → am_HR D cA B g0 g1 ρ h H → am_LR B b ls (am_ml m) E → am_St st → va_S (am_A B) s.heap H locs → cells + kc ≤ R.cells → slots + ks ≤ R.slots →
    W p l e R s i args below meth c H locs cells slots Z (F0 i pc ls (st.map (am_v B b)))
-- numbers
theorem am_bmI {z : Int} (h : am_i z) : z.bmod (2 ^ 32) = z := by
  obtain ⟨h1, h2⟩ := h
  rw [Int.bmod_eq_of_le (by omega) (by omega)]
theorem am_bmL {z : Int} (h : am_l z) : z.bmod (2 ^ 64) = z := by
  obtain ⟨h1, h2⟩ := h
  rw [Int.bmod_eq_of_le (by omega) (by omega)]
theorem am_toI {x : Int} (h : am_i x) : (Int32.ofInt x).toInt = x := by
  rw [Int32.toInt_ofInt]
  exact am_bmI h
theorem am_toL {x : Int} (h : am_l x) : (Int64.ofInt x).toInt = x := by
  rw [Int64.toInt_ofInt]
  exact am_bmL h
theorem am_eqI {x y : Int} (hx : am_i x) (hy : am_i y) : Int32.ofInt x = Int32.ofInt y ↔ x = y := by
  rw [← Int32.toInt_inj, am_toI hx, am_toI hy]
theorem am_ltI {x y : Int} (hx : am_i x) (hy : am_i y) : Int32.ofInt x < Int32.ofInt y ↔ x < y := by
  rw [Int32.lt_iff_toInt_lt, am_toI hx, am_toI hy]
theorem am_leI {x y : Int} (hx : am_i x) (hy : am_i y) : Int32.ofInt x ≤ Int32.ofInt y ↔ x ≤ y := by
  rw [Int32.le_iff_toInt_le, am_toI hx, am_toI hy]
theorem am_0I : Int32.ofInt 0 = 0 := rfl
theorem am_i0 : am_i 0 := ⟨by decide, by decide⟩
theorem am_asI {z : Int32} {x : Int} (h : z.toInt = x) : z = Int32.ofInt x := by
  rw [← h, Int32.ofInt_toInt]
theorem am_asL {z : Int64} {x : Int} (h : z.toInt = x) : z = Int64.ofInt x := by
  rw [← h, Int64.ofInt_toInt]
theorem am_rI (z : Int32) : am_i z.toInt := ⟨Int32.le_toInt z, Int32.toInt_lt z⟩
theorem am_rL (z : Int64) : am_l z.toInt := ⟨Int64.le_toInt z, Int64.toInt_lt z⟩
theorem am_cl0 {x : Int} (h0 : 0 ≤ x) (h : am_i x) : (Int32.ofInt x).toNatClampNeg = x.toNat := by
  have h1 := am_toI h
  unfold Int32.toNatClampNeg
  rw [h1]
theorem am_in {x : Int} {n : Nat} (h0 : 0 ≤ x) (h1 : x < n) (h : am_i x) : vp_in (Int32.ofInt x) n := by
  rw [vp_in_iff, am_toI h]
  exact ⟨h0, h1⟩
theorem am_add {x y : Int} : Int32.ofInt x + Int32.ofInt y = Int32.ofInt (x + y) := (Int32.ofInt_add ..).symm
theorem am_sub {x y : Int} : Int32.ofInt x - Int32.ofInt y = Int32.ofInt (x - y) := (Int32.ofInt_sub ..).symm
theorem am_mul {x y : Int} : Int32.ofInt x * Int32.ofInt y = Int32.ofInt (x * y) := (Int32.ofInt_mul ..).symm
theorem am_StC {v : AV} {st : List AV} (h : am_ok v) (hs : am_St st) : am_St (v :: st) := fun w hw => (List.mem_cons.mp hw).elim (fun e => e ▸ h) (hs w)
theorem am_StT {v : AV} {st : List AV} (hs : am_St (v :: st)) : am_St st := fun w hw => hs w (List.mem_cons_of_mem _ hw)
theorem am_StH {v : AV} {st : List AV} (hs : am_St (v :: st)) : am_ok v := hs v List.mem_cons_self
/-- the slots of a value, of a stack -/
def am_c1 : AV → Nat
  | .inr (.inl _) => 2
  | .inr (.inr (.inr (.inl _))) => 2
  | _ => 1
def am_ct : List AV → Nat
  | [] => 0
  | v :: st => am_c1 v + am_ct st
