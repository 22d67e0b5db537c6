/-! LAYER 2, REFINEMENT: reading the emitted functions; tables of cells -/
section REF
theorem ckT {α : Type} {x : Option α} : ck True x = x := if_pos trivial
theorem ck_t {α : Type} {c : Prop} [Decidable c] {x : Option α} (h : c) : ck c x = x := if_pos h
theorem bdS {α β : Type} (x : α) (k : α → Option β) : bd (some x) k = k x := rfl
theorem clS {α β : Type} (x : α) (μ : Mm) (k : α → Mm → Option β) : cl (some (x, μ)) k = k x μ := rfl
theorem zlS {α β : Type} (e : α) (k : α → β) : zl e k = k e := rfl
theorem bd_t {α β : Type} {o : Option α} {x : α} {k : α → Option β} (h : o = some x) : bd o k = k x := by rw [h]; rfl
theorem cl_t {α β : Type} {o : Option (α × Mm)} {x : α} {μ : Mm} {k : α → Mm → Option β} (h : o = some (x, μ)) : cl o k = k x μ := by rw [h]; rfl
/-! memory after a store -/
theorem mK_sI (μ : Mm) (a k : Nat) (v : Int32) : mK (sI μ a k v) = mK μ := rfl
theorem mL_sI (μ : Mm) (a k : Nat) (v : Int32) : mL (sI μ a k v) = mL μ := rfl
theorem mR_sI' (μ : Mm) (a k : Nat) (v : Int32) : mR (sI μ a k v) = mR μ := rfl
theorem mJ_sI' (μ : Mm) (a k : Nat) (v : Int32) : mJ (sI μ a k v) = mJ μ := rfl
theorem mN_sI (μ : Mm) (a k : Nat) (v : Int32) : mN (sI μ a k v) = mN μ := rfl
theorem mS_sI (μ : Mm) (a k : Nat) (v : Int32) : mS (sI μ a k v) = mS μ := rfl
theorem mI_i (μ : Mm) (a k : Nat) (v : Int32) (b j : Nat) : mI (sI μ a k v) b j = if b = a ∧ j = k then v else mI μ b j := by
  show up2 (mI μ) a k v b j = _
  rw [up2_if]
  by_cases h : b = a
  · subst h
    rw [if_pos rfl, up1_if]
    by_cases h2 : j = k
    · rw [if_pos h2, if_pos ⟨rfl, h2⟩]
    · rw [if_neg h2, if_neg (fun z => h2 z.2)]
  · rw [if_neg h, if_neg (fun z => h z.1)]
theorem mI_ne (μ : Mm) {a k : Nat} (v : Int32) {b j : Nat} (h : b ≠ a ∨ j ≠ k) : mI (sI μ a k v) b j = mI μ b j := by
  rw [mI_i, if_neg (fun z => h.elim (fun w => w z.1) (fun w => w z.2))]
theorem mI_at (μ : Mm) (a k : Nat) (v : Int32) : mI (sI μ a k v) a k = v := by rw [mI_i, if_pos ⟨rfl, rfl⟩]
theorem mI_row (μ : Mm) {a k : Nat} (v : Int32) {b : Nat} (h : b ≠ a) : mI (sI μ a k v) b = mI μ b := up2_ne _ _ _ h
theorem mK_sR (μ : Mm) (a k : Nat) (v : Option Nat) : mK (sR μ a k v) = mK μ := rfl
theorem mL_sR (μ : Mm) (a k : Nat) (v : Option Nat) : mL (sR μ a k v) = mL μ := rfl
theorem mI_sR' (μ : Mm) (a k : Nat) (v : Option Nat) : mI (sR μ a k v) = mI μ := rfl
theorem mJ_sR' (μ : Mm) (a k : Nat) (v : Option Nat) : mJ (sR μ a k v) = mJ μ := rfl
theorem mN_sR (μ : Mm) (a k : Nat) (v : Option Nat) : mN (sR μ a k v) = mN μ := rfl
theorem mS_sR (μ : Mm) (a k : Nat) (v : Option Nat) : mS (sR μ a k v) = mS μ := rfl
theorem mR_r (μ : Mm) (a k : Nat) (v : Option Nat) (b j : Nat) : mR (sR μ a k v) b j = if b = a ∧ j = k then v else mR μ b j := by
  show up2 (mR μ) a k v b j = _
  rw [up2_if]
  by_cases h : b = a
  · subst h
    rw [if_pos rfl, up1_if]
    by_cases h2 : j = k
    · rw [if_pos h2, if_pos ⟨rfl, h2⟩]
    · rw [if_neg h2, if_neg (fun z => h2 z.2)]
  · rw [if_neg h, if_neg (fun z => h z.1)]
theorem mR_ne (μ : Mm) {a k : Nat} (v : Option Nat) {b j : Nat} (h : b ≠ a ∨ j ≠ k) : mR (sR μ a k v) b j = mR μ b j := by
  rw [mR_r, if_neg (fun z => h.elim (fun w => w z.1) (fun w => w z.2))]
theorem mR_at (μ : Mm) (a k : Nat) (v : Option Nat) : mR (sR μ a k v) a k = v := by rw [mR_r, if_pos ⟨rfl, rfl⟩]
theorem mR_row (μ : Mm) {a k : Nat} (v : Option Nat) {b : Nat} (h : b ≠ a) : mR (sR μ a k v) b = mR μ b := up2_ne _ _ _ h
/-! memory after a new cell -/
theorem nwN (μ : Mm) (κ l s : Nat) : mN (nw μ κ l s) = mN μ + 1 := rfl
theorem nwS (μ : Mm) (κ l s : Nat) : mS (nw μ κ l s) = mS μ + s := rfl
theorem nwI (μ : Mm) (κ l s : Nat) {a : Nat} (h : a ≠ mN μ) : mI (nw μ κ l s) a = mI μ a := up1_ne _ _ h
theorem nwR (μ : Mm) (κ l s : Nat) {a : Nat} (h : a ≠ mN μ) : mR (nw μ κ l s) a = mR μ a := up1_ne _ _ h
theorem nwJ (μ : Mm) (κ l s : Nat) {a : Nat} (h : a ≠ mN μ) : mJ (nw μ κ l s) a = mJ μ a := up1_ne _ _ h
theorem nwK (μ : Mm) (κ l s : Nat) {a : Nat} (h : a ≠ mN μ) : mK (nw μ κ l s) a = mK μ a := up1_ne _ _ h
theorem nwL (μ : Mm) (κ l s : Nat) {a : Nat} (h : a ≠ mN μ) : mL (nw μ κ l s) a = mL μ a := up1_ne _ _ h
/-! tables: where a scalar, a row of numbers, a row of values lies -/
abbrev Tb : Type := (Nat → Nat × Nat) × (Nat → Nat) × (Nat → Nat × Nat)
def scI (i : Nat) : Bool := decide (i ≤ 24 ∧ i ≠ 11 ∧ i ≠ 13)
def nLen (r : Nat) : Nat := [8, 8, 24, 24, 16, 16, 16, 8].getD r 0
def vLen (r : Nat) : Nat := [2, 24, 64, 8, 4].getD r 0
def cT : Tb := (fun i => [(1, 12), (1, 13), (1, 14), (1, 15), (1, 16), (1, 17), (20, 6), (9, 5), (9, 6), (25, 2), (21, 2), (0, 99), (20, 5), (0, 98), (26, 2), (2, 2), (3, 0), (3, 1), (3, 2), (4, 1), (4, 2), (4, 3), (4, 4), (4, 5), (4, 6)].getD i (0, 97), fun r => [10, 11, 13, 14, 22, 28, 17, 5].getD r 0, fun r => [(3, 3), (12, 0), (27, 0), (23, 0), (16, 0)].getD r (0, 0))
def mT : Tb := (fun i => [(30, 36), (30, 37), (30, 38), (30, 39), (30, 40), (30, 41), (30, 42), (30, 21), (30, 9), (30, 23), (30, 25), (0, 99), (30, 27), (0, 98), (30, 46), (30, 5), (30, 6), (30, 7), (30, 8), (30, 48), (30, 49), (30, 50), (30, 51), (30, 52), (30, 53)].getD i (0, 97), fun r => [40, 41, 43, 44, 72, 74, 38, 81].getD r 0, fun r => [(30, 10), (42, 0), (39, 0), (73, 0), (75, 0)].getD r (0, 0))
def RT (T : Tb) (b : Nat) (A : Sx) (μ : Mm) : Prop :=
  (∀ i, scI i = true → mI μ (b + (T.1 i).1) (T.1 i).2 = nI (aS A i)) ∧ (∀ r k, r < 8 → k < nLen r → mI μ (b + T.2.1 r) k = nI (aN A r k)) ∧ (∀ r k, r < 5 → k < vLen r → mI μ (b + (T.2.2 r).1) ((T.2.2 r).2 + k) = aV A r k)
/-- the cells of a table are apart -/
def TbOk (T : Tb) : Prop :=
  (∀ i, i < 25 → ∀ j, j < 25 → (scI i && scI j && decide (T.1 i = T.1 j)) = true → i = j) ∧ (∀ i, i < 25 → ∀ r, r < 8 → scI i = true → (T.1 i).1 ≠ T.2.1 r) ∧ (∀ i, i < 25 → ∀ r, r < 5 → scI i = true → ∀ k, k < vLen r → T.1 i ≠ ((T.2.2 r).1, (T.2.2 r).2 + k)) ∧
  (∀ r, r < 8 → ∀ q, q < 8 → T.2.1 r = T.2.1 q → r = q) ∧ (∀ r, r < 8 → ∀ q, q < 5 → T.2.1 r ≠ (T.2.2 q).1) ∧ (∀ r, r < 5 → ∀ q, q < 5 → (T.2.2 r).1 = (T.2.2 q).1 → r = q)
theorem cT_ok : TbOk cT := ⟨by decide +kernel, by decide +kernel, by decide +kernel, by decide +kernel, by decide +kernel, by decide +kernel⟩
theorem mT_ok : TbOk mT := ⟨by decide +kernel, by decide +kernel, by decide +kernel, by decide +kernel, by decide +kernel, by decide +kernel⟩
theorem scI_lt {i : Nat} (h : scI i = true) : i < 25 := by
  have h2 : i ≤ 24 ∧ i ≠ 11 ∧ i ≠ 13 := of_decide_eq_true h
  omega
variable {T : Tb} {b : Nat} {A A' : Sx} {μ μ' : Mm}
theorem RT.putS (h : RT T b A μ) (hT : TbOk T) {i : Nat} (hi : scI i = true) (n : Nat) : RT T b (zS A i n) (sI μ (b + (T.1 i).1) (T.1 i).2 (nI n)) := by
  obtain ⟨t1, t2, t3, t4, t5, t6⟩ := hT
  have hl := scI_lt hi
  refine ⟨fun j hj => ?_, fun r k hr hk => ?_, fun r k hr hk => ?_⟩
  · by_cases e : j = i
    · rw [e, mI_at, zS_at]
    · rw [mI_ne _ _ (by
        by_cases e1 : b + (T.1 j).1 = b + (T.1 i).1
        · right
          intro e2
          exact e (t1 j (scI_lt hj) i hl (by rw [hj, hi, decide_eq_true (Prod.ext (by omega) e2)]; rfl))
        · exact Or.inl e1), zS_ne _ _ e]
      exact h.1 j hj
  · rw [mI_ne _ _ (Or.inl (by have := t2 i hl r hr hi; omega))]
    exact h.2.1 r k hr hk
  · rw [mI_ne _ _ (by
      by_cases e1 : b + (T.2.2 r).1 = b + (T.1 i).1
      · right
        intro e2
        exact t3 i hl r hr hi k hk (Prod.ext (by show (T.1 i).1 = (T.2.2 r).1; omega) e2.symm)
      · exact Or.inl e1)]
    exact h.2.2 r k hr hk
theorem RT.putN (h : RT T b A μ) (hT : TbOk T) {q j : Nat} (hq : q < 8) (hj : j < nLen q) (n : Nat) : RT T b (zN A q j n) (sI μ (b + T.2.1 q) j (nI n)) := by
  obtain ⟨t1, t2, t3, t4, t5, t6⟩ := hT
  refine ⟨fun i hi => ?_, fun r k hr hk => ?_, fun r k hr hk => ?_⟩
  · rw [mI_ne _ _ (Or.inl (by have := t2 i (scI_lt hi) q hq hi; omega))]
    exact h.1 i hi
  · show _ = nI (up2 (aN A) q j n r k)
    rw [up2_if, mI_i]
    by_cases e : r = q
    · subst e
      rw [if_pos rfl, up1_if]
      split
      · rename_i e2
        rw [if_pos e2.2]
      · rename_i e2
        rw [if_neg (fun z => e2 ⟨rfl, z⟩)]
        exact h.2.1 r k hr hk
    · rw [if_neg e, if_neg (fun z => e (t4 r hr q hq (by omega)))]
      exact h.2.1 r k hr hk
  · rw [mI_ne _ _ (Or.inl (by have := t5 q hq r hr; omega))]
    exact h.2.2 r k hr hk
theorem RT.putV (h : RT T b A μ) (hT : TbOk T) {q j : Nat} (hq : q < 5) (hj : j < vLen q) (v : Int32) : RT T b (zV A q j v) (sI μ (b + (T.2.2 q).1) ((T.2.2 q).2 + j) v) := by
  obtain ⟨t1, t2, t3, t4, t5, t6⟩ := hT
  refine ⟨fun i hi => ?_, fun r k hr hk => ?_, fun r k hr hk => ?_⟩
  · rw [mI_ne _ _ (by
      by_cases e1 : b + (T.1 i).1 = b + (T.2.2 q).1
      · right
        intro e2
        exact t3 i (scI_lt hi) q hq hi j hj (Prod.ext (by show (T.1 i).1 = (T.2.2 q).1; omega) e2)
      · exact Or.inl e1)]
    exact h.1 i hi
  · rw [mI_ne _ _ (Or.inl (by have := t5 r hr q hq; omega))]
    exact h.2.1 r k hr hk
  · show _ = up2 (aV A) q j v r k
    rw [up2_if, mI_i]
    by_cases e : r = q
    · subst e
      rw [if_pos rfl, up1_if]
      split
      · rename_i e2
        rw [if_pos (by omega)]
      · rename_i e2
        rw [if_neg (fun z => e2 ⟨rfl, by omega⟩)]
        exact h.2.2 r k hr hk
    · rw [if_neg e, if_neg (fun z => e (t6 r hr q hq (by omega)))]
      exact h.2.2 r k hr hk
/-- a cell that the table doesn't have -/
def offT (T : Tb) (o k : Nat) : Bool := (List.range 25).all (fun i => !scI i || !decide (T.1 i = (o, k))) && (List.range 8).all (fun r => !decide (T.2.1 r = o)) && (List.range 5).all (fun r => !(decide ((T.2.2 r).1 = o) && decide ((T.2.2 r).2 ≤ k) && decide (k < (T.2.2 r).2 + vLen r)))
theorem RT.keep (h : RT T b A μ) (h2 : ∀ o k, offT T o k = false → mI μ' (b + o) k = mI μ (b + o) k) : RT T b A μ' := by
  refine ⟨fun i hi => ?_, fun r k hr hk => ?_, fun r k hr hk => ?_⟩
  · rw [h2 (T.1 i).1 (T.1 i).2 ?_]
    · exact h.1 i hi
    · cases hz : offT T (T.1 i).1 (T.1 i).2 with
      | false => rfl
      | true =>
        unfold offT at hz
        simp only [Bool.and_eq_true, List.all_eq_true, List.mem_range, Bool.or_eq_true, Bool.not_eq_true', decide_eq_false_iff_not] at hz
        rcases hz.1.1 i (scI_lt hi) with z | z
        · rw [hi] at z; cases z
        · exact absurd rfl z
  · rw [h2 (T.2.1 r) k ?_]
    · exact h.2.1 r k hr hk
    · cases hz : offT T (T.2.1 r) k with
      | false => rfl
      | true =>
        unfold offT at hz
        simp only [Bool.and_eq_true, List.all_eq_true, List.mem_range, Bool.not_eq_true', decide_eq_false_iff_not] at hz
        exact absurd rfl (hz.1.2 r hr)
  · rw [h2 (T.2.2 r).1 ((T.2.2 r).2 + k) ?_]
    · exact h.2.2 r k hr hk
    · cases hz : offT T (T.2.2 r).1 ((T.2.2 r).2 + k) with
      | false => rfl
      | true =>
        unfold offT at hz
        simp only [Bool.and_eq_true, List.all_eq_true, List.mem_range, Bool.not_eq_true', decide_eq_false_iff_not, Bool.and_eq_false_iff] at hz
        rcases hz.2 r hr with (z | z) | z
        · exact absurd rfl z
        · exact absurd (Nat.le_add_right _ _) z
        · exact absurd (Nat.add_lt_add_left hk _) z
theorem RT.off (h : RT T b A μ) {o k : Nat} (v : Int32) (ho : offT T o k = true) : RT T b A (sI μ (b + o) k v) :=
  h.keep (fun o2 k2 h2 => mI_ne _ _ (by
    by_cases e : b + o2 = b + o
    · right
      intro e2
      have e3 : o2 = o := by omega
      rw [e3, e2, ho] at h2
      cases h2
    · exact Or.inl e))
/-- the same numbers -/
theorem RT.cg (h : RT T b A μ) (hS : ∀ i, scI i = true → aS A' i = aS A i) (hN : ∀ r k, r < 8 → k < nLen r → aN A' r k = aN A r k) (hV : ∀ r k, r < 5 → k < vLen r → aV A' r k = aV A r k) : RT T b A' μ :=
  ⟨fun i hi => by rw [hS i hi]; exact h.1 i hi, fun r k hr hk => by rw [hN r k hr hk]; exact h.2.1 r k hr hk, fun r k hr hk => by rw [hV r k hr hk]; exact h.2.2 r k hr hk⟩
theorem offT_lt {T : Tb} (hT : T = cT ∨ T = mT) {o k : Nat} (h : offT T o k = false) : o < 86 := by
  unfold offT at h
  rcases Nat.lt_or_ge o 86 with q | q
  · exact q
  · exfalso
    have key : ((List.range 25).all (fun i => !scI i || !decide (T.1 i = (o, k))) && (List.range 8).all (fun r => !decide (T.2.1 r = o)) && (List.range 5).all (fun r => !(decide ((T.2.2 r).1 = o) && decide ((T.2.2 r).2 ≤ k) && decide (k < (T.2.2 r).2 + vLen r)))) = true := by
      simp only [Bool.and_eq_true, List.all_eq_true, List.mem_range, Bool.or_eq_true, Bool.not_eq_true', decide_eq_false_iff_not, Bool.and_eq_false_iff]
      have b1 : ∀ i, i < 25 → (T.1 i).1 < 86 := by rcases hT with rfl | rfl <;> decide +kernel
      have b2 : ∀ i, i < 8 → T.2.1 i < 86 := by rcases hT with rfl | rfl <;> decide +kernel
      have b3 : ∀ i, i < 5 → (T.2.2 i).1 < 86 := by rcases hT with rfl | rfl <;> decide +kernel
      refine ⟨⟨fun i hi => Or.inr fun z => ?_, fun r hr z => ?_⟩, fun r hr => Or.inl (Or.inl fun z => ?_)⟩
      · have := b1 i hi
        rw [z] at this
        omega
      · have := b2 r hr
        omega
      · have := b3 r hr
        omega
    rw [key] at h
    cases h
end REF
