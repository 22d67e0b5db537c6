/-! rows of ZX: what the memory is after a store, a new cell -/
theorem up1_eq {α : Type} (f : Nat → α) (a : Nat) (v : α) : up1 f a v a = v := if_pos rfl
theorem up1_ne {α : Type} (f : Nat → α) {a b : Nat} (v : α) (h : b ≠ a) : up1 f a v b = f b := if_neg h
theorem up2_eq {α : Type} (f : Nat → Nat → α) (a k : Nat) (v : α) : up2 f a k v a = up1 (f a) k v := if_pos rfl
theorem up2_ne {α : Type} (f : Nat → Nat → α) {a b : Nat} (k : Nat) (v : α) (h : b ≠ a) : up2 f a k v b = f b := if_neg h
theorem zOk_keep {G : Gt} {μ μ' : Mm} {a : Nat} {H H' : Heap} (hk : mK μ' a = mK μ a) (hl : mL μ' a = mL μ a) (hi : mI μ' a = mI μ a) (hr : mR μ' a = mR μ a) (hj : mJ μ' a = mJ μ a) (hh : H'[a]? = H[a]?) (h : zOk G μ a H) : zOk G μ' a H' := by
  have e1 : ∀ t : Nat, aval t μ' a = aval t μ a := fun t => funext fun j => by unfold aval; rw [hi, hr, hj]
  have e2 : ∀ (t j : Nat), fval t μ' a j = fval t μ a j := fun t j => by unfold fval; rw [hi, hr]
  unfold zOk at h ⊢
  rw [hk]
  split at h
  · rename_i hlt
    rw [if_pos hlt, hh, hl, e1]
    exact h
  · rename_i hlt
    rw [if_neg hlt]
    obtain ⟨r, h1, h2⟩ := h
    exact ⟨r, h1, (h2.to fun j _ => (e2 _ j).symm).kept hh⟩
theorem zOk_obj {G : Gt} {μ : Mm} {a ci : Nat} {H : Heap} (hk : mK μ a = 100 + ci) : zOk G μ a H ↔ ∃ r : vw_C, vwCl[ci]? = some r ∧ t_OB a (G.2.1.1 ci) r.2.2 (G.2.1.2 ci) H (fun k => fval (zfc ci k) μ a k) := by
  unfold zOk
  rw [hk, if_neg (by omega), Nat.add_sub_cancel_left]
theorem zOk_arr {G : Gt} {μ : Mm} {a κ : Nat} {H : Heap} (hk : mK μ a = κ) (h : κ < 100) : zOk G μ a H ↔ H[a]? = some (arrV (G.2.2.1 (κ % 10)) (mL μ a) (aval (κ % 10) μ a)) := by
  unfold zOk
  rw [hk, if_pos h]
theorem Sim.lt {G : Gt} {μ : Mm} {H : Heap} (h : Sim G μ H) {a : Nat} (hk : mK μ a ≠ 0) : a < mN μ := by
  obtain ⟨-, h2, -, h4⟩ := h
  rw [← h2]
  rcases h4 a hk with ⟨h5, -⟩ | ⟨-, -, cell, h6, -⟩
  · unfold zOk at h5
    split at h5
    · exact (Array.getElem?_eq_some_iff.mp h5).1
    · obtain ⟨r, -, cell, h6, -⟩ := h5
      exact (Array.getElem?_eq_some_iff.mp h6).1
  · exact (Array.getElem?_eq_some_iff.mp h6).1
theorem zE_keep {G : Gt} {μ μ' : Mm} {a : Nat} {H H' : Heap} (hk : mK μ' a = mK μ a) (hl : mL μ' a = mL μ a) (hh : H'[a]? = H[a]?) (h : zE G μ a H) : zE G μ' a H' := by
  unfold zE at h ⊢
  rw [hk, hl, hh]
  exact h
/-- but for the empty row all lies behind the base -/
theorem Sim.zo {G : Gt} {μ : Mm} {H : Heap} (h : Sim G μ H) {a : Nat} (hk : mK μ a ≠ 0) (h26 : mK μ a ≠ 26 ∨ 0 < mL μ a) : zOk G μ a H ∧ G.1.heap.size ≤ a := by
  rcases h.2.2.2 a hk with q | ⟨q1, q2, -⟩
  · exact q
  · rcases h26 with q | q
    · exact absurd q1 q
    · omega
/-- a store into a known cell at or behind the base -/
theorem Sim.put {G : Gt} {μ μ' : Mm} {H H' : Heap} {a : Nat} (h : Sim G μ H) (hb : G.1.heap.size ≤ a) (eK : mK μ' = mK μ) (eL : mL μ' = mL μ) (eN : mN μ' = mN μ) (hne : ∀ b, b ≠ a → mI μ' b = mI μ b ∧ mR μ' b = mR μ b ∧ mJ μ' b = mJ μ b) (e2 : H'.size = H.size) (e3 : ∀ q, q ≠ a → H'[q]? = H[q]?) (ha : mK μ a ≠ 0 → zOk G μ' a H') : Sim G μ' H' := by
  obtain ⟨⟨⟨h0, h00, h01⟩, h1⟩, h2, h3, h4⟩ := h
  refine ⟨⟨⟨h0, fun k hk => by rw [(hne 0 (by omega)).2.1]; exact h00 k hk, by rw [eK]; exact h01⟩, fun q hq => (e3 q (by omega)).trans (h1 q hq)⟩, by rw [e2, eN]; exact h2, by rw [eN]; exact h3, fun b hb2 => ?_⟩
  rw [eK] at hb2
  by_cases e : b = a
  · subst e
    exact Or.inl ⟨ha hb2, hb⟩
  · obtain ⟨i1, i2, i3⟩ := hne b e
    rcases h4 b hb2 with ⟨q1, q2⟩ | q
    · exact Or.inl ⟨zOk_keep (by rw [eK]) (by rw [eL]) i1 i2 i3 (e3 b e) q1, q2⟩
    · exact Or.inr (zE_keep (by rw [eK]) (by rw [eL]) (e3 b e) q)
/-- a new cell -/
theorem Sim.new {G : Gt} {μ : Mm} {H H' : Heap} {κ len sl : Nat} (h : Sim G μ H) (e2 : H'.size = H.size + 1) (e3 : ∀ q, q < H.size → H'[q]? = H[q]?) (ha : κ ≠ 0 → zOk G (nw μ κ len sl) (mN μ) H') : Sim G (nw μ κ len sl) H' := by
  have hlt := fun (a : Nat) (q : mK μ a ≠ 0) => h.lt q
  obtain ⟨⟨⟨h0, h00, h01⟩, h1⟩, h2, h3, h4⟩ := h
  refine ⟨⟨⟨h0, fun k hk => (congrFun (up1_ne _ _ (by omega)) k).trans (h00 k hk), by rw [show mK (nw μ κ len sl) 0 = mK μ 0 from up1_ne _ _ (by omega)]; exact h01⟩, fun q hq => (e3 q (by omega)).trans (h1 q hq)⟩, by rw [e2, h2]; rfl, Nat.le_succ_of_le h3, fun b hb => ?_⟩
  by_cases e : b = mN μ
  · subst e
    have hk : mK (nw μ κ len sl) (mN μ) = κ := up1_eq _ _ _
    rw [hk] at hb
    exact Or.inl ⟨ha hb, h3⟩
  · have hk : mK (nw μ κ len sl) b = mK μ b := up1_ne _ _ e
    have hl : mL (nw μ κ len sl) b = mL μ b := up1_ne _ _ e
    rw [hk] at hb
    have hb2 := hlt b hb
    rcases h4 b hb with ⟨q1, q2⟩ | q
    · exact Or.inl ⟨zOk_keep hk hl (up1_ne _ _ e) (up1_ne _ _ e) (up1_ne _ _ e) (e3 b (by omega)) q1, q2⟩
    · exact Or.inr (zE_keep hk hl (e3 b (by omega)) q)
/-! tables -/
def tcode : FieldType → Nat
  | .int => 0
  | .boolean => 1
  | .char => 2
  | .object _ => 3
  | .array _ => 3
  | _ => 9
/-- the classes of the memory, as the tables have them -/
theorem zC_X (ci : Nat) (C : String) (T : u_T) (N : Nat) (ty : Nat → FieldType) (ps : List Nat) (h1 : (List.range N).map (fun k => u_lay C T k) = ps.filterMap (fun i => lw_tbl[i]?)) : ∀ w ∈ u_ws C T N, w ∈ lw_tbl := by
  intro w hw
  unfold u_ws at hw
  rw [show (List.range N).map (u_lay C T) = ps.filterMap (fun i => lw_tbl[i]?) from h1] at hw
  obtain ⟨i, -, hi⟩ := List.mem_filterMap.mp hw
  exact List.mem_of_getElem? hi
