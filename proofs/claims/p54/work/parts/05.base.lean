/-! LAYER 0: the memory of the walk, its relation to the heap, the judgement ZX -/
/-- ints, references, longs by address and slot; kind and length of an address; the heap's size; slots made -/
abbrev Mm : Type := (Nat → Nat → Int32) × (Nat → Nat → Option Nat) × (Nat → Nat → Int64) × (Nat → Nat) × (Nat → Nat) × Nat × Nat
def mI (μ : Mm) : Nat → Nat → Int32 := μ.1
def mR (μ : Mm) : Nat → Nat → Option Nat := μ.2.1
def mJ (μ : Mm) : Nat → Nat → Int64 := μ.2.2.1
def mK (μ : Mm) : Nat → Nat := μ.2.2.2.1
def mL (μ : Mm) : Nat → Nat := μ.2.2.2.2.1
def mN (μ : Mm) : Nat := μ.2.2.2.2.2.1
def mS (μ : Mm) : Nat := μ.2.2.2.2.2.2
def up1 {α : Type} (f : Nat → α) (a : Nat) (v : α) : Nat → α := fun b => if b = a then v else f b
def up2 {α : Type} (f : Nat → Nat → α) (a k : Nat) (v : α) : Nat → Nat → α := fun b => if b = a then up1 (f a) k v else f b
def sI (μ : Mm) (a k : Nat) (v : Int32) : Mm := (up2 μ.1 a k v, μ.2)
def sR (μ : Mm) (a k : Nat) (v : Option Nat) : Mm := (μ.1, up2 μ.2.1 a k v, μ.2.2)
def sJ (μ : Mm) (a k : Nat) (v : Int64) : Mm := (μ.1, μ.2.1, up2 μ.2.2.1 a k v, μ.2.2.2)
/-- a new cell of a kind, of a length, with so many slots -/
def nw (μ : Mm) (κ len sl : Nat) : Mm := (up1 (mI μ) (mN μ) (fun _ => 0), up1 (mR μ) (mN μ) (fun _ => none), up1 (mJ μ) (mN μ) (fun _ => 0), up1 (mK μ) (mN μ) κ, up1 (mL μ) (mN μ) len, mN μ + 1, mS μ + sl)
/-- the heap's size told anew -/
def sN (μ : Mm) (N : Nat) : Mm := (mI μ, mR μ, mJ μ, mK μ, mL μ, N, mS μ)
/-- room for one more cell of so many slots, at no known place -/
def bump (μ : Mm) (sl : Nat) : Mm := (mI μ, mR μ, mJ μ, mK μ, mL μ, mN μ + 1, mS μ + sl)
def zb (x : Int32) : Int32 := x &&& 1
def zc (x : Int32) : Int32 := x.toUInt32.toUInt16.toUInt32.toInt32
/-- the kinds of fields of the classes: 0 int, 1 boolean, 2 char, 3 a reference -/
def zft : List (List Nat) := [[0, 3, 0], [3, 3, 3, 3, 3, 3, 3, 3, 3, 3, 3, 3, 0, 1, 1, 1, 0, 0], [3, 0, 0, 0, 0, 0, 0], [0, 0, 0, 0, 3], [3, 0, 0, 3, 3, 2, 0, 0, 0, 0, 0, 0, 0, 0, 0, 1, 0], [3, 3, 3, 3, 0, 1, 0], [3, 3, 3, 3, 3, 0, 0], [0, 0, 0, 0, 0, 0], [3, 3, 3, 3, 0], [3, 3, 0, 1, 0], [0, 0, 0, 0, 0], [3]]
def zfc (ci k : Nat) : Nat := (zft.getD ci []).getD k 0
def fval (t : Nat) (μ : Mm) (a k : Nat) : Value := match t with
  | 0 => .int (mI μ a k)
  | 1 => .int (zb (mI μ a k))
  | 2 => .int (zc (mI μ a k))
  | _ => va_rf (mR μ a k)
/-- what stays the same for the whole run: the law's start, the classes' numbers and slots, the array classes, and four addresses: ArrayList's empty array, the text of the reasons as two classes have it, what getClass gives for a row of objects (the memory tells them at the address 0, which is no known cell) -/
abbrev Gt : Type := State × va_G × (Nat → ClassId) × (Nat → Nat)
def aval (t : Nat) (μ : Mm) (a j : Nat) : Value := match t with
  | 1 => .int (mI μ a j)
  | 2 => .int (zb (mI μ a j))
  | 3 => .long (mJ μ a j)
  | 4 => .double (mJ μ a j).toUInt64
  | _ => va_rf (mR μ a j)
def aty (t : Nat) : FieldType := match t with
  | 1 => .int
  | 2 => .boolean
  | 3 => .long
  | 4 => .double
  | 5 => .array .int
  | _ => .object "java/lang/Object"
/-- the cell of an address, by its kind: below 100 an array (kind mod 10 tells of what), else an object of the class with the number kind - 100 -/
def zOk (G : Gt) (μ : Mm) (a : Nat) (H : Heap) : Prop :=
  if mK μ a < 100 then H[a]? = some (arrV (G.2.2.1 (mK μ a % 10)) (mL μ a) (aval (mK μ a % 10) μ a))
  else ∃ r : vw_C, vwCl[mK μ a - 100]? = some r ∧ t_OB a (G.2.1.1 (mK μ a - 100)) r.2.2 (G.2.1.2 (mK μ a - 100)) H (fun k => fval (zfc (mK μ a - 100) k) μ a k)
/-- the one row of objects that is there from the start: empty -/
def zE (G : Gt) (μ : Mm) (a : Nat) (H : Heap) : Prop := mK μ a = 26 ∧ mL μ a = 0 ∧ ∃ cell : Cell, H[a]? = some cell ∧ cell.cls = G.2.2.1 6 ∧ cell.slots.size.toInt32 = 0 ∧ cell.vm.isStatics = false ∧ cell.vm ≠ .unknown
def Sim (G : Gt) (μ : Mm) (H : Heap) : Prop :=
  ((0 < G.1.heap.size ∧ (∀ k, k < 4 → mR μ 0 k = some (G.2.2.2 k)) ∧ mK μ 0 < 100) ∧ ∀ q : Nat, q < G.1.heap.size → H[q]? = G.1.heap[q]?) ∧ H.size = mN μ ∧ G.1.heap.size ≤ mN μ ∧
  ∀ a : Nat, mK μ a ≠ 0 → (zOk G μ a H ∧ G.1.heap.size ≤ a) ∨ zE G μ a H
def ztys (G : Gt) : List (ClassId × FieldType) := [(G.2.2.1 1, .int), (G.2.2.1 2, .boolean), (G.2.2.1 1, .int), (G.2.2.1 1, .int), (G.2.2.1 5, .object "java/lang/Object"), (G.2.2.1 6, .object "java/lang/Object")]
/-- the letters of the reasons -/
def zsb : List Int32 := [105, 116, 102, 113, 120, 109, 98, 100]
/-- what the start gives -/
def Gok (l : Launch) (G : Gt) : Prop :=
  l.stackTraces = false ∧ (∃ a0 : Array Value, ∀ w ∈ lw_tbl, w.before a0 G.1 = true) ∧ va_K G.2.1 vwCl (ztys G) G.1 ∧
  (vx_Zq Bundle.tN "UNASSIGNED_STACK" Bundle.steD (fun q => G.1.heap.size ≤ q) G.1 G.1.heap ∧ vx_Zq Bundle.tN "SUPPRESSED_SENTINEL" Bundle.listD (fun q => G.1.heap.size ≤ q) G.1 G.1.heap) ∧
  (va_Z "java/util/ArrayList" "DEFAULTCAPACITY_EMPTY_ELEMENTDATA" "[Ljava/lang/Object;" (.ref (G.2.2.2 0)) (fun q => G.1.heap.size ≤ q) G.1 G.1.heap ∧ va_Z "java/lang/String" "COMPACT_STRINGS" "Z" (.int 1) (fun q => G.1.heap.size ≤ q) G.1 G.1.heap ∧ va_Zq "jdk/internal/util/Preconditions" "SIOOBE_FORMATTER" "Ljava/util/function/BiFunction;" (fun q => G.1.heap.size ≤ q) G.1 G.1.heap) ∧
  ((∀ k : Nat, k = 1 ∨ k = 2 → ∃ adV : Nat → Nat, vk_S 1 [8] [zsb] (fun _ => G.2.2.2 k) adV (fun q => G.1.heap.size ≤ q) G.1 G.1.heap) ∧ vk_R "Reorderium" 286 "itfqxmbd" (G.2.2.2 1) G.1 ∧ vk_R "Reorderium$Counts" 9 "itfqxmbd" (G.2.2.2 2) G.1) ∧
  va_Mi "[Ljava/lang/Object;" (G.2.2.2 3) G.1
/-- a method: its bytes, its class, its name, locals, what it returns, frames and words of locals below it -/
abbrev MD : Type := ByteArray × String × MethodName × Nat × Option FieldType × Nat × Nat
abbrev MD.cc (Y : MD) : ByteArray := Y.1
abbrev MD.own (Y : MD) : String := Y.2.1
abbrev MD.y (Y : MD) : MethodName := Y.2.2.1
abbrev MD.maxL (Y : MD) : Nat := Y.2.2.2.1
abbrev MD.ret (Y : MD) : Option FieldType := Y.2.2.2.2.1
abbrev MD.fr (Y : MD) : Nat := Y.2.2.2.2.2.1
abbrev MD.lo (Y : MD) : Nat := Y.2.2.2.2.2.2
/-- where a walk of the method stands -/
def CX (G : Gt) (Y : MD) (p : Program) (R : Room) (s : State) (m : MethodId) (meth : Method) (c : Code) : Prop :=
  p.tables.exec = Jvm.exec ∧ c.code = Y.cc ∧ c.maxLocals = Y.maxL ∧ s.vm.findClass Y.own = some m.cls ∧ meth.sig.returnType = Y.ret ∧ meth.locks = false ∧ G.1.WarmedH s.vm ∧ R.frames = Y.fr ∧ R.locals = Y.lo ∧ (∀ x ∈ c.exceptionTable.toList, False) ∧ meth.name = Y.y.name ∧ G.1.heap.size ≤ s.heap.size ∧ ∀ q : Nat, q < G.1.heap.size → s.heap[q]? = G.1.heap[q]?
abbrev Rs : Type := Option Value ⊕ String
def QcE (G : Gt) (r : Rs) (μ : Mm) : Array Value → State → Outcome → State → Prop := fun _ st o t => ∃ v, r = .inl v ∧ o = .returned v ∧ Sim G μ t.heap ∧ st.heap.size ≤ t.heap.size
def XcE (G : Gt) (r : Rs) (μ : Mm) : String → State → State → Prop := fun E st t => r = .inr E ∧ (∃ N, Sim G (sN μ N) t.heap) ∧ st.heap.size ≤ t.heap.size
/-- from this frame over this memory the method ends with just this result and this memory (behind a throw: but for the heap's size) -/
def ZX (l : Launch) (G : Gt) (Y : MD) (pc : Nat) (L : List (Nat × Value)) (st : List Value) (μ : Mm) (r : Rs) (μ' : Mm) : Prop :=
  (mN μ ≤ mN μ' ∧ mS μ ≤ mS μ') ∧ ∀ (p : Program) (e : Env) (R : Room) (s : State) (m : MethodId) (args : Array Value) (below : List Frame) (meth : Method) (c : Code) (H : Heap) (locs : List Loc) (cells slots : Nat) (ls : Array Slot),
    CX G Y p R s m meth c → Sim G μ H → s.heap.size ≤ H.size → (∀ q ∈ locs, G.1.heap.size ≤ q.base) → cells + (mN μ' - mN μ) ≤ R.cells → slots + (mS μ' - mS μ) ≤ R.slots → lv_has ls Y.maxL L →
    W p l e R s m args below meth c H locs cells slots (vx_MQ below (QcE G r μ') (XcE G r μ') args s R.cells R.slots (fun q => G.1.heap.size ≤ q)) (F0 m pc ls st)
theorem zb_nar (x : Int32) : narrow .boolean (.int x) = .int (zb x) := rfl
theorem zb_zb (x : Int32) : zb (zb x) = zb x := by unfold zb; rw [Int32.and_assoc, Int32.and_self]
theorem zb_0 : zb 0 = 0 := by decide
theorem zb_1 : zb 1 = 1 := by decide
theorem zc_nar (x : Int32) : narrow .char (.int x) = .int (zc x) := rfl
theorem zc_eq (x : Int32) : zc x = (x.toUInt32 % 65536).toInt32 := by
  have h := pk_nc x
  rw [zc_nar] at h
  have h2 : zc ((x.toUInt32 % 65536).toInt32) = (x.toUInt32 % 65536).toInt32 := by simpa using h
  have h3 : x.toUInt32.toUInt16.toUInt32 = x.toUInt32 % 65536 := by
    apply UInt32.toNat_inj.mp
    simp [UInt32.toNat_mod]
  unfold zc
  rw [h3]
theorem zc_zc (x : Int32) : zc (zc x) = zc x := by
  have h := pk_nc x
  rw [← zc_eq, zc_nar] at h
  simpa using h
theorem zc_fit (x : Int32) : fits .char (.int (zc x)) = true := by rw [zc_eq]; exact pk_fc x
theorem zb_fit (x : Int32) : fits .boolean (.int (zb x)) = true := by
  unfold fits zb
  have h : (x &&& 1) = 0 ∨ (x &&& 1) = 1 := by
    obtain ⟨j, hj, e⟩ := pk_andE x (m := 1) 1 (by decide)
    have : j = 0 ∨ j = 1 := by omega
    rcases this with rfl | rfl
    · exact Or.inl e
    · exact Or.inr e
  rcases h with h | h <;> rw [h] <;> decide
