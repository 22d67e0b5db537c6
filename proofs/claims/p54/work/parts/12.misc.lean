/-! casts, references into rows, constants, other returns -/
def KTs (own : String) (ix ci : Nat) : Prop := ∃ r : vw_C, vwCl[ci]? = some r ∧ Cond.classLink own ix r.1 ∈ lw_tbl
theorem KTs.of {own : String} {ix ci : Nat} (r : vw_C) (h1 : vwCl[ci]? = some r) (i : Nat) (h2 : lw_tbl[i]? = some (Cond.classLink own ix r.1)) : KTs own ix ci := ⟨r, h1, List.mem_of_getElem? h2⟩
section ZXK
variable {l : Launch} {G : Gt} {Y : MD} {pc : Nat} {L : List (Nat × Value)} {st : List Value} {μ μ' : Mm} {r : Rs}
theorem Sim.recv {s : State} {H : Heap} {a ci : Nat} {q : vw_C} (h : Sim G μ H) (hG : Gok l G) (hW : G.1.WarmedH s.vm) (hk : mK μ a = 100 + ci) (hq : vwCl[ci]? = some q) : ∃ cell : Cell, H[a]? = some cell ∧ cell.vm = .none ∧ s.vm.findClass q.1 = some cell.cls := by
  obtain ⟨r9, g1, cell, q1, q2, q3, q4⟩ := (zOk_obj hk).mp (h.zo (a := a) (by omega) (by omega)).1
  cases Option.some.inj (g1.symm.trans hq)
  exact ⟨cell, q1, q3, by rw [q2]; exact ((hG.K hW).1 ci _ hq).2.1⟩
theorem zx_castO {ix ci a : Nat} (hG : Gok l G) (f : KTs Y.own ix ci) (hk : mK μ a = 100 + ci) (d : decode Y.cc pc = .ok (.checkcast ix, 3)) (kk : ZX l G Y (pc + 3) L (.ref a :: st) μ r μ') : ZX l G Y pc L (.ref a :: st) μ r μ' := by
  refine ⟨kk.1, fun p e R s m args below meth c H locs cells slots ls C h1 h2 h3 h4 h5 hl => ?_⟩
  have k2 := kk.2 p e R s m args below meth c H locs cells slots ls C h1 h2 h3 h4 h5 hl
  obtain ⟨hx, hb, hml, hown, hret, hlk, hW, C9⟩ := id C
  obtain ⟨q, f1, f2⟩ := f
  obtain ⟨cell, g1, g2, g3⟩ := h1.recv hG hW hk f1
  exact va_castS hx hb hown (zw hG hW f2 rfl args) ((hG.K hW).1 ci _ f1).2 ⟨cell, g1, by rw [g2]; rfl, g3⟩ d k2
theorem zx_ldc {ix : Nat} {v : Int32} (hG : Gok l G) (hw : Cond.constant Y.own ix v ∈ lw_tbl) (d : decode Y.cc pc = .ok (.ldc ix, 2)) (kk : ZX l G Y (pc + 2) L (.int v :: st) μ r μ') : ZX l G Y pc L st μ r μ' := by
  refine ⟨kk.1, fun p e R s m args below meth c H locs cells slots ls C h1 h2 h3 h4 h5 hl => ?_⟩
  have k2 := kk.2 p e R s m args below meth c H locs cells slots ls C h1 h2 h3 h4 h5 hl
  obtain ⟨hx, hb, hml, hown, hret, hlk, hW, C9⟩ := id C
  exact lv_ldc hx hb hown (zw hG hW hw rfl args) d k2
theorem zx_ldcw {ix : Nat} {v : Int32} (hG : Gok l G) (hw : Cond.constant Y.own ix v ∈ lw_tbl) (d : decode Y.cc pc = .ok (.ldc_w ix, 3)) (kk : ZX l G Y (pc + 3) L (.int v :: st) μ r μ') : ZX l G Y pc L st μ r μ' := by
  refine ⟨kk.1, fun p e R s m args below meth c H locs cells slots ls C h1 h2 h3 h4 h5 hl => ?_⟩
  have k2 := kk.2 p e R s m args below meth c H locs cells slots ls C h1 h2 h3 h4 h5 hl
  obtain ⟨hx, hb, hml, hown, hret, hlk, hW, C9⟩ := id C
  exact lv_ldcw hx hb hown (zw hG hW hw rfl args) d k2
theorem zx_ldc2 {ix : Nat} {v : Int64} (hG : Gok l G) (hw : Cond.constantLong Y.own ix v ∈ lw_tbl) (d : decode Y.cc pc = .ok (.ldc2_w ix, 3)) (kk : ZX l G Y (pc + 3) L (.long v :: st) μ r μ') : ZX l G Y pc L st μ r μ' := by
  refine ⟨kk.1, fun p e R s m args below meth c H locs cells slots ls C h1 h2 h3 h4 h5 hl => ?_⟩
  have k2 := kk.2 p e R s m args below meth c H locs cells slots ls C h1 h2 h3 h4 h5 hl
  obtain ⟨hx, hb, hml, hown, hret, hlk, hW, C9⟩ := id C
  exact lv_ldc2 hx hb hown (zw hG hW hw rfl args) d k2
/-- Object.<init> -/
theorem zx_objInit {ix a : Nat} (hG : Gok l G) (w1 : Cond.methodLink Y.own ix Lib.objectInit ∈ lw_tbl) (w2 : Cond.instanceMethod Lib.objectInit ∈ lw_tbl) (w3 : Cond.code Lib.objectInit ⟨#[0xb1]⟩ 1 none ∈ lw_tbl) (hR : 1 ≤ Y.fr) (hLo : 20 ≤ Y.lo) (hcat : (st.map fun v => v.category).sum ≤ 8) (d : decode Y.cc pc = .ok (.invokespecial ix, 3)) (kk : ZX l G Y (pc + 3) L st μ r μ') : ZX l G Y pc L (.ref a :: st) μ r μ' := by
  refine ⟨kk.1, fun p e R s m args below meth c H locs cells slots ls C h1 h2 h3 h4 h5 hl => ?_⟩
  have k2 := kk.2 p e R s m args below meth c H locs cells slots ls C h1 h2 h3 h4 h5 hl
  obtain ⟨hx, hb, hml, hown, hret, hlk, hW, hfr, hlo, C9⟩ := id C
  exact W.objInit hx hb hown (zw hG hW w1 rfl args) (zw hG hW w2 rfl args) (zw hG hW w3 rfl args) rfl (by rw [hml]; exact hl.1) rfl d (by omega) (by show 2 * 0 + _ + 12 ≤ _; omega) k2
theorem zx_lret {v : Int64} (d : decode Y.cc pc = .ok (.lreturn, 1)) (hr : Y.ret = some .long) : ZX l G Y pc L [.long v] μ (.inl (some (.long v))) μ := ⟨⟨Nat.le_refl _, Nat.le_refl _⟩, fun p e R s m args below meth c H locs cells slots ls C h1 h2 h3 h4 h5 hl => (W.widen (k := R.cells) (n := R.slots) (by omega) (by omega) (vx_ret (W.lret C.1 C.2.1 (C.2.2.2.2.1.trans hr) (fun t ht hW => ⟨_, rfl, rfl, by rw [ht]; exact h1, by rw [ht]; exact h2⟩) h3 d C.2.2.2.2.2.1)))⟩
theorem zx_fret {v : UInt32} (d : decode Y.cc pc = .ok (.freturn, 1)) (hr : Y.ret = some .float) : ZX l G Y pc L [.float v] μ (.inl (some (.float v))) μ := ⟨⟨Nat.le_refl _, Nat.le_refl _⟩, fun p e R s m args below meth c H locs cells slots ls C h1 h2 h3 h4 h5 hl => (W.widen (k := R.cells) (n := R.slots) (by omega) (by omega) (vx_ret (W.fret C.1 C.2.1 (C.2.2.2.2.1.trans hr) (fun t ht hW => ⟨_, rfl, rfl, by rw [ht]; exact h1, by rw [ht]; exact h2⟩) h3 d C.2.2.2.2.2.1)))⟩
theorem zx_zretZ {v : Int32} (d : decode Y.cc pc = .ok (.ireturn, 1)) (hr : Y.ret = some .boolean) (hv : zb v = v) : ZX l G Y pc L [.int v] μ (.inl (some (.int v))) μ := zx_zret d hr (congrArg Value.int hv)
theorem zx_zretC {v : Int32} (d : decode Y.cc pc = .ok (.ireturn, 1)) (hr : Y.ret = some .char) (hv : zc v = v) : ZX l G Y pc L [.int v] μ (.inl (some (.int v))) μ := zx_zret d hr (congrArg Value.int hv)
theorem aval_setR {κ a i : Nat} {v : Option Nat} (hκ : κ = 5 ∨ κ = 6) (cA : ClassId) (n : Nat) : (arrV cA n (aval κ μ a)).setSlot i (va_rf v) = arrV cA n (aval κ (sR μ a i v) a) := by
  rcases hκ with rfl | rfl
  · exact aval_set (μ := μ) (a := a) (κ := 5) (i := i) (v := va_rf v) (μ1 := sR μ a i v) (fun j hj => by show va_rf _ = va_rf _; rw [mR_sR, up2_eq, up1_ne _ _ hj]) (by show va_rf _ = va_rf _; rw [sR_at]) cA n
  · exact aval_set (μ := μ) (a := a) (κ := 6) (i := i) (v := va_rf v) (μ1 := sR μ a i v) (fun j hj => by show va_rf _ = va_rf _; rw [mR_sR, up2_eq, up1_ne _ _ hj]) (by show va_rf _ = va_rf _; rw [sR_at]) cA n
theorem zx_aast0 {p : Program} {e : Env} {R : Room} {s : State} {m : MethodId} {args : Array Value} {below : List Frame} {meth : Method} {c : Code} {H : Heap} {locs : List Loc} {cells slots : Nat} {ls : Array Slot} {a κ i : Nat} {v : Option Nat} (kk : ZX l G Y (pc + 1) L st (sR μ a i v) r μ') (C : CX G Y p R s m meth c) (h1 : Sim G μ H) (h2 : s.heap.size ≤ H.size) (h3 : ∀ q ∈ locs, G.1.heap.size ≤ q.base) (h4 : cells + (mN μ' - mN μ) ≤ R.cells) (h5 : slots + (mS μ' - mS μ) ≤ R.slots) (hl : lv_has ls Y.maxL L) (hba : G.1.heap.size ≤ a) (hk : mK μ a = κ) (h1k : κ < 100) (hm : κ % 10 = 5 ∨ κ % 10 = 6)
    (H1 : Heap) (e1 : H1[a]? = some ((arrV (G.2.2.1 (κ % 10)) (mL μ a) (aval (κ % 10) μ a)).setSlot i (va_rf v))) (e2 : H1.size = H.size) (e3 : ∀ q, q ≠ a → H1[q]? = H[q]?) : W p l e R s m args below meth c H1 (locs ++ [⟨a, i⟩]) cells slots (vx_MQ below (QcE G r μ') (XcE G r μ') args s R.cells R.slots (fun q => G.1.heap.size ≤ q)) (F0 m (pc + 1) ls st) := by
  refine kk.2 p e R s m args below meth c H1 _ cells slots ls C (h1.put hba rfl rfl rfl (sR_ne μ a _ v) e2 e3 fun _ => ?_) (by omega) ?_ h4 h5 hl
  · rw [zOk_arr (μ := sR μ a i v) (κ := κ) hk h1k, e1, aval_setR hm]
    rfl
  · intro q9 h9
    rcases List.mem_append.mp h9 with h9 | h9
    · exact h3 q9 h9
    · rw [List.mem_singleton.mp h9]
      exact hba
/-- an object into a row of objects -/
theorem zx_aastO {a b κ ci : Nat} {i : Int32} (hG : Gok l G) (hk : mK μ a = κ) (h1k : κ < 100) (hm : κ % 10 = 6) (hin : vp_in i (mL μ a)) (hb9 : mK μ b = 100 + ci) (hca : ∀ q : vw_C, vwCl[ci]? = some q → Cond.castable q.1 "java/lang/Object" ∈ lw_tbl) (d : decode Y.cc pc = .ok (.aastore, 1)) (kk : ZX l G Y (pc + 1) L st (sR μ a i.toNatClampNeg (some b)) r μ') : ZX l G Y pc L (.ref b :: .int i :: .ref a :: st) μ r μ' := by
  refine ⟨kk.1, fun p e R s m args below meth c H locs cells slots ls C h1 h2 h3 h4 h5 hl => ?_⟩
  have hc := h1.arr hk (by omega) h1k (Or.inr (Nat.lt_of_le_of_lt (Nat.zero_le _) (vp_lt hin)))
  have hba := h1.arrB hk (by omega) (Nat.lt_of_le_of_lt (Nat.zero_le _) (vp_lt hin))
  obtain ⟨hx, hb, hml, hown, hret, hlk, hW, C9⟩ := id C
  obtain ⟨q, g1, -⟩ := (zOk_obj hb9).mp (h1.zo (a := b) (by omega) (by omega)).1
  obtain ⟨cellV, v1, v2, v3⟩ := h1.recv hG hW hb9 g1
  obtain ⟨kA, comp, k1, k2, k3, -⟩ := ((hG.K hW).2 5 _ rfl).2
  obtain ⟨kE, hkE, -⟩ := Vm.findClass_spec k3
  have hca2 : va_Nw (.castable q.1 "java/lang/Object") s := by
    obtain ⟨-, ⟨a0, h0⟩, -⟩ := hG
    exact va_Nw.warmC hW (va_Nw.of rfl (h0 _ (hca q g1)))
  obtain ⟨c0, t1, f1, f2, f3⟩ := Cond.castable_spec (va_Nw.use (A := args) rfl hca2)
  cases v3.symm.trans f1
  cases k3.symm.trans f2
  obtain ⟨kC, hkC, -⟩ := Vm.findClass_spec v3
  refine W.aast hx hb hc (fun q h => by cases h) (fun h => by cases h) (by rw [hm]; exact k1) k2 rfl hkE ⟨fun z => hin (Or.inl z), by rw [arrV_size]; exact vp_lt hin⟩ v1 (fun q h => by rw [v2] at h; cases h) hkC f3 rfl rfl d fun H1 e1 e2 e3 => ?_
  exact zx_aast0 kk C h1 h2 h3 h4 h5 hl hba hk h1k (Or.inr hm) H1 e1 e2 e3
theorem zx_aastN {a κ : Nat} {i : Int32} (hG : Gok l G) (hk : mK μ a = κ) (h1k : κ < 100) (hm : κ % 10 = 6) (hin : vp_in i (mL μ a)) (d : decode Y.cc pc = .ok (.aastore, 1)) (kk : ZX l G Y (pc + 1) L st (sR μ a i.toNatClampNeg none) r μ') : ZX l G Y pc L (.null :: .int i :: .ref a :: st) μ r μ' := by
  refine ⟨kk.1, fun p e R s m args below meth c H locs cells slots ls C h1 h2 h3 h4 h5 hl => ?_⟩
  have hc := h1.arr hk (by omega) h1k (Or.inr (Nat.lt_of_le_of_lt (Nat.zero_le _) (vp_lt hin)))
  have hba := h1.arrB hk (by omega) (Nat.lt_of_le_of_lt (Nat.zero_le _) (vp_lt hin))
  obtain ⟨hx, hb, hml, hown, hret, hlk, hW, C9⟩ := id C
  refine va_WaastN (C := "java/lang/Object") hx hb hc (by rw [hm]; exact ((hG.K hW).2 5 _ rfl).1 _ _) (fun h => by cases h) (by rw [arrV_size]; exact hin) rfl rfl d fun H1 e1 e2 e3 => ?_
  exact zx_aast0 kk C h1 h2 h3 h4 h5 hl hba hk h1k (Or.inr hm) H1 e1 e2 e3
end ZXK
