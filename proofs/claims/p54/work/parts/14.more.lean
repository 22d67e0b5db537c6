/-! fixed words -/
theorem w_oi2 : Cond.instanceMethod Lib.objectInit ∈ lw_tbl := List.mem_of_getElem? (i := 75) (by decide +kernel)
theorem w_oi3 : Cond.code Lib.objectInit ⟨#[0xb1]⟩ 1 none ∈ lw_tbl := List.mem_of_getElem? (i := 76) (by decide +kernel)
theorem w_ac_int : Cond.arrayClass .int ∈ lw_tbl := List.mem_of_getElem? (i := 193) (by decide +kernel)
theorem w_ac_boolean : Cond.arrayClass .boolean ∈ lw_tbl := List.mem_of_getElem? (i := 266) (by decide +kernel)
theorem w_ao_O : Cond.arrayOver (.object "java/lang/Object") ∈ lw_tbl := List.mem_of_getElem? (i := 684) (by decide +kernel)
theorem zCast_0 : Cond.castable RJx4a65c "java/lang/Object" ∈ lw_tbl := List.mem_of_getElem? (i := 1445) (by decide +kernel)
theorem zCast_1 : Cond.castable RX0 "java/lang/Object" ∈ lw_tbl := List.mem_of_getElem? (i := 1444) (by decide +kernel)
theorem zCast_2 : Cond.castable RX1 "java/lang/Object" ∈ lw_tbl := List.mem_of_getElem? (i := 1447) (by decide +kernel)
theorem zCast_3 : Cond.castable RX2 "java/lang/Object" ∈ lw_tbl := List.mem_of_getElem? (i := 1456) (by decide +kernel)
theorem zCast_4 : Cond.castable RX3 "java/lang/Object" ∈ lw_tbl := List.mem_of_getElem? (i := 1457) (by decide +kernel)
theorem zCast_5 : Cond.castable RX4 "java/lang/Object" ∈ lw_tbl := List.mem_of_getElem? (i := 1451) (by decide +kernel)
theorem zCast_6 : Cond.castable RX5 "java/lang/Object" ∈ lw_tbl := List.mem_of_getElem? (i := 1449) (by decide +kernel)
theorem zCast_7 : Cond.castable RX6 "java/lang/Object" ∈ lw_tbl := List.mem_of_getElem? (i := 1455) (by decide +kernel)
theorem zCast_8 : Cond.castable RX7 "java/lang/Object" ∈ lw_tbl := List.mem_of_getElem? (i := 1450) (by decide +kernel)
theorem zCast_9 : Cond.castable RX8 "java/lang/Object" ∈ lw_tbl := List.mem_of_getElem? (i := 1448) (by decide +kernel)
theorem zCast_10 : Cond.castable RX9 "java/lang/Object" ∈ lw_tbl := List.mem_of_getElem? (i := 1446) (by decide +kernel)
theorem zCast_11 : Cond.castable RX10 "java/lang/Object" ∈ lw_tbl := List.mem_of_getElem? (i := 1443) (by decide +kernel)
theorem zCast (ci : Nat) : ∀ q : vw_C, vwCl[ci]? = some q → Cond.castable q.1 "java/lang/Object" ∈ lw_tbl := fun q h => by
  match ci, h with
  | 0, h => cases h; exact zCast_0
  | 1, h => cases h; exact zCast_1
  | 2, h => cases h; exact zCast_2
  | 3, h => cases h; exact zCast_3
  | 4, h => cases h; exact zCast_4
  | 5, h => cases h; exact zCast_5
  | 6, h => cases h; exact zCast_6
  | 7, h => cases h; exact zCast_7
  | 8, h => cases h; exact zCast_8
  | 9, h => cases h; exact zCast_9
  | 10, h => cases h; exact zCast_10
  | 11, h => cases h; exact zCast_11
  | n + 12, h => exact absurd h (by simp [vwCl])
theorem w_cpN : Cond.native arraycopyName ∈ lw_tbl := List.mem_of_getElem? (i := 691) (by decide +kernel)
theorem w_cpS : Cond.static arraycopyName ∈ lw_tbl := List.mem_of_getElem? (i := 690) (by decide +kernel)
theorem w_cpI : Cond.initialized "java/lang/System" ∈ lw_tbl := List.mem_of_getElem? (i := 65) (by decide +kernel)
/-! more rows: copies of rows of objects, rows of rows, throws -/
section ZXQ
variable {l : Launch} {G : Gt} {Y : MD} {pc : Nat} {L : List (Nat × Value)} {st : List Value} {μ μ' : Mm} {r : Rs}
theorem zx_cast1 {s : State} {H : Heap} {y : Nat} (hG : Gok l G) (hW : G.1.WarmedH s.vm) (h : Sim G μ H) (hy : 100 ≤ mK μ y) : ∃ (cell : Cell) (comp : ClassId), H[y]? = some cell ∧ cell.vm = .none ∧ (∃ C9 : String, s.vm.findClass C9 = some cell.cls) ∧ s.vm.findClass "java/lang/Object" = some comp ∧ s.vm.assignable cell.cls comp = true := by
  have hk : mK μ y = 100 + (mK μ y - 100) := by omega
  obtain ⟨q, g1, -⟩ := (zOk_obj hk).mp (h.zo (a := y) (by omega) (by omega)).1
  obtain ⟨cellV, v1, v2, v3⟩ := h.recv hG hW hk g1
  have hca2 : va_Nw (.castable q.1 "java/lang/Object") s := by
    obtain ⟨-, ⟨a0, h0⟩, -⟩ := hG
    exact va_Nw.warmC hW (va_Nw.of rfl (h0 _ (zCast _ q g1)))
  obtain ⟨c0, t1, f1, f2, f3⟩ := Cond.castable_spec (va_Nw.use (A := #[]) rfl hca2)
  cases v3.symm.trans f1
  exact ⟨cellV, t1, v1, v2, ⟨_, v3⟩, f2, f3⟩
theorem cpy_ne (a0 : Nat) (sp : Int32) (a1 : Nat) (dp n : Int32) : ∀ b, b ≠ a1 → mI (cpy μ a0 sp a1 dp n) b = mI μ b ∧ mR (cpy μ a0 sp a1 dp n) b = mR μ b ∧ mJ (cpy μ a0 sp a1 dp n) b = mJ μ b := fun b h => ⟨rfl, up1_ne _ _ h, rfl⟩
theorem zx_copy {a0 a1 ix : Nat} {sp dp n : Int32} (hG : Gok l G) (hw : Cond.methodLink Y.own ix arraycopyName ∈ lw_tbl) (h0k : mK μ a0 < 100) (h0m : mK μ a0 % 10 = 6) (h1k : mK μ a1 < 100) (h1m : mK μ a1 % 10 = 6) (hc : cpok μ a0 sp a1 dp n) (hR : 1 ≤ Y.fr) (hLo : 60 ≤ Y.lo) (hcat : (st.map fun v => v.category).sum ≤ 8) (d : decode Y.cc pc = .ok (.invokestatic ix, 3)) (kk : ZX l G Y (pc + 3) L st (cpy μ a0 sp a1 dp n) r μ') : ZX l G Y pc L (.int n :: .int dp :: .ref a1 :: .int sp :: .ref a0 :: st) μ r μ' := by
  refine ⟨kk.1, fun p e R s m args below meth c H locs cells slots ls C h1 h2 h3 h4 h5 hl => ?_⟩
  obtain ⟨⟨c1, c2, c3⟩, c4, c5, c6, c7⟩ := hc
  obtain ⟨cs, hc0, hcl0, -, hsl0, hst0, hun0⟩ := h1.arrS (a := a0) rfl (by omega) h0k
  have hc1 := h1.arr (a := a1) rfl (by omega) h1k (Or.inr c7)
  rw [h0m] at hcl0 hsl0
  have hle0 : sp.toNatClampNeg + n.toNatClampNeg ≤ cs.slots.size := by
    rcases hsl0 with q | q
    · rw [q, arrV_size]
      omega
    · omega
  have hrd0 : ∀ i : Nat, i < n.toNatClampNeg → cs.slots.getD (sp.toNatClampNeg + i) .null = va_rf (mR μ a0 (sp.toNatClampNeg + i)) := fun i hi => by
    rcases hsl0 with q | q
    · rw [q, Array.getD_eq_getD_getElem?, arrV_read _ _ (by omega)]
      rfl
    · omega
  rw [h1m] at hc1
  have hba := h1.arrB (a := a1) rfl (by omega) c7
  obtain ⟨hx, hb, hml, hown, hret, hlk, hW, hfr, hlo, C9⟩ := id C
  have nn : ∀ z : Int32, ¬ z < 0 → z.toInt = (z.toNatClampNeg : Int) := by
    intro z hz
    have hz0 : (0 : Int) ≤ z.toInt := by
      have := Int32.not_lt.mp hz
      simpa using Int32.le_iff_toInt_le.mp this
    show z.toInt = ((z.toInt.toNat : Nat) : Int)
    omega
  have d1 : ¬ sp < 0 := Int32.not_lt.mpr c1
  have d2 : ¬ dp < 0 := Int32.not_lt.mpr c2
  have d3 : ¬ n < 0 := Int32.not_lt.mpr c3
  intro T hT X
  obtain ⟨-, k0, hk0, cm0, hkk0⟩ := ((hG.K hW).2 5 _ rfl).1 (mL μ a0) (fun j => va_rf (mR μ a0 j))
  obtain ⟨kA, comp, r1, r2, r3, -⟩ := ((hG.K hW).2 5 _ rfl).2
  obtain ⟨kE, hkE, -⟩ := Vm.findClass_spec r3
  obtain ⟨vm', X', step⟩ := X.arraycopy hx hown (zw hG hW hw rfl args) (zw hG hW w_cpN rfl args) (zw hG hW w_cpS rfl args) (zw hG hW w_cpI rfl args) (src := a0) (dst := a1) (cs := cs) (cd := arrV (G.2.2.1 6) (mL μ a1) (fun j => va_rf (mR μ a1 j))) (srcPos := sp) (destPos := dp) (n := n) (by rw [hT]; exact hc0) (by rw [hT]; exact hc1)
    (fun q h => by rw [h] at hst0; cases hst0) (fun _ h => by cases h) hun0 (fun h => by cases h) (by rw [hcl0]; exact hk0) r1 hkk0 r2 rfl d1 d2 d3
    (by rw [nn sp d1, nn n d3]; omega)
    (by rw [nn dp d2, nn n d3]; show ¬ _ > ((arrV (G.2.2.1 6) (mL μ a1) (fun j => va_rf (mR μ a1 j))).slots.size : Int); rw [arrV_size]; omega)
    (fun vm₁ hal i hi => by
      have e := hrd0 i hi
      rw [e]
      cases hy : mR μ a0 (sp.toNatClampNeg + i) with
      | none => exact ⟨rfl, trivial⟩
      | some y =>
        obtain ⟨cellV, comp9, g1, g2, ⟨C8, g8⟩, g3, g4⟩ := zx_cast1 hG hW h1 (cpel_e c6 i hi y hy)
        obtain ⟨kC, hkC, -⟩ := Vm.findClass_spec g8
        cases r3.symm.trans g3
        obtain ⟨kC', hkC', -⟩ := hal.2.2 _ _ hkC
        obtain ⟨kE', hkE', -⟩ := hal.2.2 _ _ hkE
        refine ⟨rfl, cellV, (show T.heap[y]? = some cellV by rw [hT]; exact g1), (fun q h => by rw [h] at g2; cases g2), ⟨kC', hkC'⟩, ?_, ?_⟩
        · exact ⟨kE', hkE'⟩
        · show vm₁.assignable _ _ = true
          rw [hal.assignable]
          exact g4)
    (g := F0 m pc ls (.int n :: .int dp :: .ref a1 :: .int sp :: .ref a0 :: st)) rfl (by rw [hml]; exact hl.1) (rest := st) rfl (by rw [hb]; exact d) (by omega) (by
      have h9 : nativeFrameWords "java/lang/System" "arraycopy" 5 + 11 ≤ 52 := by decide
      show 2 * 0 + _ + _ ≤ _
      omega)
  have e1 : copied (arrV (G.2.2.1 6) (mL μ a0) (fun j => va_rf (mR μ a0 j))) (arrV (G.2.2.1 6) (mL μ a1) (fun j => va_rf (mR μ a1 j))) sp dp n = arrV (G.2.2.1 6) (mL μ a1) (fun j => va_rf (va_cpy (mR μ a0) (mR μ a1) sp.toNatClampNeg dp.toNatClampNeg n.toNatClampNeg j)) := va_copied (fun z => va_rf z) _ _ _ _ c4
  have e0 : copied cs (arrV (G.2.2.1 6) (mL μ a1) (fun j => va_rf (mR μ a1 j))) sp dp n = copied (arrV (G.2.2.1 6) (mL μ a0) (fun j => va_rf (mR μ a0 j))) (arrV (G.2.2.1 6) (mL μ a1) (fun j => va_rf (mR μ a1 j))) sp dp n := by
    have es : cs.stretch sp.toNatClampNeg n.toNatClampNeg = (arrV (G.2.2.1 6) (mL μ a0) (fun j => va_rf (mR μ a0 j))).stretch sp.toNatClampNeg n.toNatClampNeg := by
      unfold Cell.stretch
      refine List.map_congr_left fun i hi => ?_
      rw [hrd0 i (List.mem_range.mp hi), Array.getD_eq_getD_getElem?, arrV_read _ _ (by have := List.mem_range.mp hi; omega)]
      rfl
    unfold copied
    rw [es]
  rw [e0, e1] at X' step
  have hl1 : a1 < H.size := (Array.getElem?_eq_some_iff.mp hc1).1
  generalize hz : arrV (G.2.2.1 6) (mL μ a1) (fun j => va_rf (va_cpy (mR μ a0) (mR μ a1) sp.toNatClampNeg dp.toNatClampNeg n.toNatClampNeg j)) = z at X' step
  have hheap : ((T.setVm vm').setCell a1 z).heap = H.setIfInBounds a1 z := by rw [← hT]; rfl
  have oq : ∀ q : Nat, q ≠ a1 → (H.setIfInBounds a1 z)[q]? = H[q]? := fun q hq => by simp [Array.getElem?_setIfInBounds, Ne.symm hq]
  have os : (H.setIfInBounds a1 z).size = H.size := by simp
  obtain ⟨t, q1, q2⟩ := kk.2 p e R s m args below meth c _ _ cells slots ls C (h1.put hba rfl rfl rfl (cpy_ne a0 sp a1 dp n) os oq fun _ => by
    rw [zOk_arr (μ := cpy μ a0 sp a1 dp n) (κ := mK μ a1) rfl h1k, h1m]
    rw [show (H.setIfInBounds a1 z)[a1]? = some z by simp [Array.getElem?_setIfInBounds, hl1], ← hz]
    congr 2
    funext j
    show _ = va_rf (up1 μ.2.1 a1 _ a1 j)
    rw [up1_eq]) (by omega) (fun q hq => by
      rcases List.mem_append.mp hq with h | h
      · exact h3 q h
      · obtain ⟨z9, -, hz9⟩ := List.mem_map.mp h
        rw [← hz9]
        exact hba) h4 h5 hl _ hheap X'
  exact ⟨t, step t q1, q2⟩
end ZXQ
