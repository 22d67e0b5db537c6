/-! the words of the emitted functions -/
def ck {α : Type} (c : Prop) [Decidable c] (x : Option α) : Option α := if c then x else none
def bd {α β : Type} (o : Option α) (k : α → Option β) : Option β := o.bind k
def cl {α β : Type} (o : Option (α × Mm)) (k : α → Mm → Option β) : Option β := o.bind fun z => k z.1 z.2
def zl {α β : Type} (e : α) (k : α → β) : β := k e
abbrev isA (t κ : Nat) : Prop := κ < 100 ∧ κ % 10 = t
abbrev isA56 (κ : Nat) : Prop := κ < 100 ∧ (κ % 10 = 5 ∨ κ % 10 = 6)
abbrev isA1256 (κ : Nat) : Prop := κ < 100 ∧ (κ % 10 = 1 ∨ κ % 10 = 2 ∨ κ % 10 = 5 ∨ κ % 10 = 6)
abbrev isO (κ : Nat) : Prop := 100 ≤ κ
abbrev inb (i : Int32) (n : Nat) : Prop := 0 ≤ i ∧ i.toNatClampNeg < n
abbrev smn (n : Int32) : Prop := 0 ≤ n ∧ n.toNatClampNeg ≤ 100000
abbrev nanF (x : UInt32) : Prop := x &&& 0x7fffffff ≤ 0x7f800000
theorem ck_e {α : Type} {c : Prop} [Decidable c] {x : Option α} {r : α} (h : ck c x = some r) : c ∧ x = some r := by
  unfold ck at h
  split at h
  · rename_i hc
    exact ⟨hc, h⟩
  · cases h
theorem bd_e {α β : Type} {o : Option α} {k : α → Option β} {r : β} (h : bd o k = some r) : ∃ x, o = some x ∧ k x = some r := by
  cases o with
  | none => cases h
  | some x => exact ⟨x, rfl, h⟩
theorem cl_e {α β : Type} {o : Option (α × Mm)} {k : α → Mm → Option β} {r : β} (h : cl o k = some r) : ∃ x μ, o = some (x, μ) ∧ k x μ = some r := by
  cases o with
  | none => cases h
  | some z => exact ⟨z.1, z.2, rfl, h⟩
theorem zl_e {α β : Type} {e : α} {k : α → Option β} {r : β} (h : zl e k = some r) : k e = some r := h
theorem zlm_e {α β : Type} {e : α} {k : α → Option β} {r : β} (h : zl e k = some r) : ∃ m, m = e ∧ k m = some r := ⟨e, rfl, h⟩
theorem zx_mem {l : Launch} {G : Gt} {Y : MD} {pc : Nat} {L : List (Nat × Value)} {st : List Value} {μ1 μ2 : Mm} {r : Rs} {μ' : Mm} (e : μ2 = μ1) (h : ZX l G Y pc L st μ2 r μ') : ZX l G Y pc L st μ1 r μ' := e ▸ h
theorem zx_stk {l : Launch} {G : Gt} {Y : MD} {pc : Nat} {L : List (Nat × Value)} {st : List Value} {μ : Mm} {r : Rs} {μ' : Mm} {a b : Nat} (e : b = a) (h : ZX l G Y pc L (.ref b :: st) μ r μ') : ZX l G Y pc L (.ref a :: st) μ r μ' := e ▸ h
theorem nw_Kp {μ μ2 : Mm} {b κ len sl : Nat} (e : μ2 = nw μ κ len sl) (eb : b = mN μ) : mK μ2 b = κ := by
  rw [e, eb]
  exact nw_K _ _ _ _
/-- what holds of a kind holds of the same kind over a later memory -/
theorem kp_o {f g : Nat → Nat} {a n : Nat} (e : f = g) (h : g a = n) : f a = n := e ▸ h
theorem kp_a {f g : Nat → Nat} {a t : Nat} (e : f = g) (h : isA t (g a)) : isA t (f a) := e ▸ h
theorem kp_a56 {f g : Nat → Nat} {a : Nat} (e : f = g) (h : isA56 (g a)) : isA56 (f a) := e ▸ h
theorem kp_a1256 {f g : Nat → Nat} {a : Nat} (e : f = g) (h : isA1256 (g a)) : isA1256 (f a) := e ▸ h
theorem it_t {α : Type} {c : Prop} [Decidable c] {x y : Option α} {r : α} (hc : c) (h : (if c then x else y) = some r) : x = some r := by rw [if_pos hc] at h; exact h
theorem it_f {α : Type} {c : Prop} [Decidable c] {x y : Option α} {r : α} (hc : ¬ c) (h : (if c then x else y) = some r) : y = some r := by rw [if_neg hc] at h; exact h
theorem inb_e {i : Int32} {n : Nat} (h : inb i n) : vp_in i n := fun q => by
  rcases q with q | q
  · exact absurd h.1 (Int32.not_le.mpr q)
  · exact absurd h.2 (Nat.not_lt.mpr q)
theorem smn_e {n : Int32} (h : smn n) : ¬ n < 0 := Int32.not_lt.mpr h.1
theorem nanF_e {x : UInt32} (h : nanF x) : vf_n32 x := h
theorem isO_e {κ : Nat} (h : isO κ) : κ = 100 + (κ - 100) := by unfold isO at h; omega
def rsI (r : Int32 ⊕ String) : Rs := match r with
  | .inl x => .inl (some (.int x))
  | .inr e => .inr e
def rsF (r : UInt32 ⊕ String) : Rs := match r with
  | .inl x => .inl (some (.float x))
  | .inr e => .inr e
def zstr (i : Int32) : Int32 := zsb.getD i.toNatClampNeg 0
/-- what arraycopy may copy between rows of objects -/
def cpel (μ : Mm) (a0 sp n : Nat) : Bool := (List.range n).all fun i => match mR μ a0 (sp + i) with
  | none => true
  | some y => decide (100 ≤ mK μ y)
abbrev cpok (μ : Mm) (a0 : Nat) (sp : Int32) (a1 : Nat) (dp n : Int32) : Prop := (0 ≤ sp ∧ 0 ≤ dp ∧ 0 ≤ n) ∧ sp.toNatClampNeg + n.toNatClampNeg ≤ mL μ a0 ∧ dp.toNatClampNeg + n.toNatClampNeg ≤ mL μ a1 ∧ cpel μ a0 sp.toNatClampNeg n.toNatClampNeg = true ∧ 0 < mL μ a1
theorem cpel_e {μ : Mm} {a0 sp n : Nat} (h : cpel μ a0 sp n = true) : ∀ i, i < n → ∀ y, mR μ a0 (sp + i) = some y → 100 ≤ mK μ y := fun i hi y hy => by
  have h2 := List.all_eq_true.mp h i (List.mem_range.mpr hi)
  rw [hy] at h2
  simpa using h2
def cpy (μ : Mm) (a0 : Nat) (sp : Int32) (a1 : Nat) (dp n : Int32) : Mm := (μ.1, up1 μ.2.1 a1 (va_cpy (mR μ a0) (mR μ a1) sp.toNatClampNeg dp.toNatClampNeg n.toNatClampNeg), μ.2.2)
/-- n rows of k ints, and a row of them -/
def nwM (μ : Mm) (κo κi n k : Nat) : Mm :=
  (fun b => if mN μ ≤ b ∧ b < mN μ + 1 + n then fun _ => 0 else mI μ b,
   fun b => if b = mN μ then (fun i => if i < n then some (mN μ + 1 + i) else none) else if mN μ ≤ b ∧ b < mN μ + 1 + n then fun _ => none else mR μ b,
   fun b => if mN μ ≤ b ∧ b < mN μ + 1 + n then fun _ => 0 else mJ μ b,
   fun b => if b = mN μ then κo else if mN μ ≤ b ∧ b < mN μ + 1 + n then κi else mK μ b,
   fun b => if b = mN μ then n else if mN μ ≤ b ∧ b < mN μ + 1 + n then k else mL μ b,
   mN μ + 1 + n, mS μ + n + n * k)
