/-! fixed words -/
theorem w_oi2 : Cond.instanceMethod Lib.objectInit ∈ lw_tbl := List.mem_of_getElem? (i := 115) (by decide +kernel)
theorem w_oi3 : Cond.code Lib.objectInit ⟨#[0xb1]⟩ 1 none ∈ lw_tbl := List.mem_of_getElem? (i := 116) (by decide +kernel)
theorem w_ac_int : Cond.arrayClass .int ∈ lw_tbl := List.mem_of_getElem? (i := 234) (by decide +kernel)
theorem w_ac_boolean : Cond.arrayClass .boolean ∈ lw_tbl := List.mem_of_getElem? (i := 307) (by decide +kernel)
theorem w_ao_I : Cond.arrayOver (.array .int) ∈ lw_tbl := List.mem_of_getElem? (i := 1541) (by decide +kernel)
theorem w_ao_O : Cond.arrayOver (.object "java/lang/Object") ∈ lw_tbl := List.mem_of_getElem? (i := 757) (by decide +kernel)
theorem zCast_0 : Cond.castable RJx4a65c "java/lang/Object" ∈ lw_tbl := List.mem_of_getElem? (i := 2123) (by decide +kernel)
theorem zCast_1 : Cond.castable RX0 "java/lang/Object" ∈ lw_tbl := List.mem_of_getElem? (i := 2122) (by decide +kernel)
theorem zCast_2 : Cond.castable RX1 "java/lang/Object" ∈ lw_tbl := List.mem_of_getElem? (i := 2125) (by decide +kernel)
theorem zCast_3 : Cond.castable RX2 "java/lang/Object" ∈ lw_tbl := List.mem_of_getElem? (i := 2134) (by decide +kernel)
theorem zCast_4 : Cond.castable RX3 "java/lang/Object" ∈ lw_tbl := List.mem_of_getElem? (i := 2135) (by decide +kernel)
theorem zCast_5 : Cond.castable RX4 "java/lang/Object" ∈ lw_tbl := List.mem_of_getElem? (i := 2129) (by decide +kernel)
theorem zCast_6 : Cond.castable RX5 "java/lang/Object" ∈ lw_tbl := List.mem_of_getElem? (i := 2127) (by decide +kernel)
theorem zCast_7 : Cond.castable RX6 "java/lang/Object" ∈ lw_tbl := List.mem_of_getElem? (i := 2133) (by decide +kernel)
theorem zCast_8 : Cond.castable RX7 "java/lang/Object" ∈ lw_tbl := List.mem_of_getElem? (i := 2128) (by decide +kernel)
theorem zCast_9 : Cond.castable RX8 "java/lang/Object" ∈ lw_tbl := List.mem_of_getElem? (i := 2126) (by decide +kernel)
theorem zCast_10 : Cond.castable RX9 "java/lang/Object" ∈ lw_tbl := List.mem_of_getElem? (i := 2124) (by decide +kernel)
theorem zCast_11 : Cond.castable RX10 "java/lang/Object" ∈ lw_tbl := List.mem_of_getElem? (i := 2121) (by decide +kernel)
theorem zCast_12 : Cond.castable RX11 "java/lang/Object" ∈ lw_tbl := List.mem_of_getElem? (i := 2130) (by decide +kernel)
theorem zCast (ci : Nat) : ∀ q : vw_C, vwCl[ci]? = some q → Cond.castable q.1 "java/lang/Object" ∈ lw_tbl := fun q h => by
  match ci, h with
  | 0, h => cases h; exact zCast_0
  | 1, h => cases h; exact zCast_1
  | 2, h => cases h; exact zCast_2
  | 3, h => cases h; exact zCast_3
  | 4, h => cases h; exact zCast_4
  | 5, h => cases h; exact zCast_5
  | 6, h => cases h; exact zCast_6
  | 7, h => cases h; exact zCast_7
  | 8, h => cases h; exact zCast_8
  | 9, h => cases h; exact zCast_9
  | 10, h => cases h; exact zCast_10
  | 11, h => cases h; exact zCast_11
  | 12, h => cases h; exact zCast_12
  | n + 13, h => exact absurd h (by simp [vwCl])
theorem w_cpN : Cond.native arraycopyName ∈ lw_tbl := List.mem_of_getElem? (i := 764) (by decide +kernel)
theorem w_cpS : Cond.static arraycopyName ∈ lw_tbl := List.mem_of_getElem? (i := 763) (by decide +kernel)
theorem w_cpI : Cond.initialized "java/lang/System" ∈ lw_tbl := List.mem_of_getElem? (i := 100) (by decide +kernel)
/-! more rows: copies of rows of objects, rows of rows, throws -/
theorem nwM_I (μ : Mm) (κo κi n k b : Nat) : mI (nwM μ κo κi n k) b = if mN μ ≤ b ∧ b < mN μ + 1 + n then fun _ => 0 else mI μ b := rfl
theorem nwM_R (μ : Mm) (κo κi n k b : Nat) : mR (nwM μ κo κi n k) b = if b = mN μ then (fun i => if i < n then some (mN μ + 1 + i) else none) else if mN μ ≤ b ∧ b < mN μ + 1 + n then fun _ => none else mR μ b := rfl
theorem nwM_J (μ : Mm) (κo κi n k b : Nat) : mJ (nwM μ κo κi n k) b = if mN μ ≤ b ∧ b < mN μ + 1 + n then fun _ => 0 else mJ μ b := rfl
theorem nwM_K (μ : Mm) (κo κi n k b : Nat) : mK (nwM μ κo κi n k) b = if b = mN μ then κo else if mN μ ≤ b ∧ b < mN μ + 1 + n then κi else mK μ b := rfl
theorem nwM_L (μ : Mm) (κo κi n k b : Nat) : mL (nwM μ κo κi n k) b = if b = mN μ then n else if mN μ ≤ b ∧ b < mN μ + 1 + n then k else mL μ b := rfl
/-- the outer row, filled -/
theorem zM_outer (c : ClassId) (N h0 : Nat) : ∀ i : Nat, Jvm.Free.Multi.outerC c N h0 i = arrV c N (fun j => va_rf (if j < i then some (h0 + 1 + j) else none))
  | 0 => by
    show _ = arrV c N (fun _ => .null)
    rw [← arrV_new]
    rfl
  | i + 1 => by
    show (Jvm.Free.Multi.outerC c N h0 i).setSlot i _ = _
    rw [zM_outer c N h0 i, arrV_store]
    congr 1
    funext j
    by_cases h1 : j = i
    · subst h1
      simp [updV, va_rf]
    · by_cases h2 : j < i
      · have h3 : j < i + 1 := by omega
        simp [updV, va_rf, h1, h2, h3]
      · have h3 : ¬ j < i + 1 := by omega
        simp [updV, va_rf, h1, h2, h3]
section ZXQ
variable {l : Launch} {G : Gt} {Y : MD} {pc : Nat} {L : List (Nat × Value)} {st : List Value} {μ μ' : Mm} {r : Rs}
theorem zx_cast1 {s : State} {H : Heap} {y : Nat} (hG : Gok l G) (hW : G.1.WarmedH s.vm) (h : Sim G μ H) (hy : 100 ≤ mK μ y) : ∃ (cell : Cell) (comp : ClassId), H[y]? = some cell ∧ cell.vm = .none ∧ (∃ C9 : String, s.vm.findClass C9 = some cell.cls) ∧ s.vm.findClass "java/lang/Object" = some comp ∧ s.vm.assignable cell.cls comp = true := by
  have hk : mK μ y = 100 + (mK μ y - 100) := by omega
  obtain ⟨q, g1, -⟩ := (zOk_obj hk).mp (h.zo (a := y) (by omega) (by omega)).1
  obtain ⟨cellV, v1, v2, v3⟩ := h.recv hG hW hk g1
  have hca2 : va_Nw (.castable q.1 "java/lang/Object") s := by
    obtain ⟨-, ⟨a0, h0⟩, -⟩ := hG
    exact va_Nw.warmC hW (va_Nw.of rfl (h0 _ (zCast _ q g1)))
  obtain ⟨c0, t1, f1, f2, f3⟩ := Cond.castable_spec (va_Nw.use (A := #[]) rfl hca2)
  cases v3.symm.trans f1
  exact ⟨cellV, t1, v1, v2, ⟨_, v3⟩, f2, f3⟩
theorem cpy_ne (a0 : Nat) (sp : Int32) (a1 : Nat) (dp n : Int32) : ∀ b, b ≠ a1 → mI (cpy μ a0 sp a1 dp n) b = mI μ b ∧ mR (cpy μ a0 sp a1 dp n) b = mR μ b ∧ mJ (cpy μ a0 sp a1 dp n) b = mJ μ b := fun b h => ⟨rfl, up1_ne _ _ h, rfl⟩
theorem zx_copy {a0 a1 ix : Nat} {sp dp n : Int32} (hG : Gok l G) (hw : Cond.methodLink Y.own ix arraycopyName ∈ lw_tbl) (h0k : mK μ a0 < 100) (h0m : mK μ a0 % 10 = 6) (h1k : mK μ a1 < 100) (h1m : mK μ a1 % 10 = 6) (hc : cpok μ a0 sp a1 dp n) (hR : 1 ≤ Y.fr) (hLo : 60 ≤ Y.lo) (hcat : (st.map fun v => v.category).sum ≤ 8) (d : decode Y.cc pc = .ok (.invokestatic ix, 3)) (kk : ZX l G Y (pc + 3) L st (cpy μ a0 sp a1 dp n) r μ') : ZX l G Y pc L (.int n :: .int dp :: .ref a1 :: .int sp :: .ref a0 :: st) μ r μ' := by
  refine ⟨kk.1, fun p e R s m args below meth c H locs cells slots ls C h1 h2 h3 h4 h5 hl => ?_⟩
  obtain ⟨⟨c1, c2, c3⟩, c4, c5, c6, c7⟩ := hc
  obtain ⟨cs, hc0, hcl0, -, hsl0, hst0, hun0⟩ := h1.arrS (a := a0) rfl (by omega) h0k
  have hc1 := h1.arr (a := a1) rfl (by omega) h1k (Or.inr c7)
  rw [h0m] at hcl0 hsl0
  have hle0 : sp.toNatClampNeg + n.toNatClampNeg ≤ cs.slots.size := by
    rcases hsl0 with q | q
    · rw [q, arrV_size]
      omega
    · omega
  have hrd0 : ∀ i : Nat, i < n.toNatClampNeg → cs.slots.getD (sp.toNatClampNeg + i) .null = va_rf (mR μ a0 (sp.toNatClampNeg + i)) := fun i hi => by
    rcases hsl0 with q | q
    · rw [q, Array.getD_eq_getD_getElem?, arrV_read _ _ (by omega)]
      rfl
    · omega
  rw [h1m] at hc1
  have hba := h1.arrB (a := a1) rfl (by omega) c7
  obtain ⟨hx, hb, hml, hown, hret, hlk, hW, hfr, hlo, C9⟩ := id C
  have nn : ∀ z : Int32, ¬ z < 0 → z.toInt = (z.toNatClampNeg : Int) := by
    intro z hz
    have hz0 : (0 : Int) ≤ z.toInt := by
      have := Int32.not_lt.mp hz
      simpa using Int32.le_iff_toInt_le.mp this
    show z.toInt = ((z.toInt.toNat : Nat) : Int)
    omega
  have d1 : ¬ sp < 0 := Int32.not_lt.mpr c1
  have d2 : ¬ dp < 0 := Int32.not_lt.mpr c2
  have d3 : ¬ n < 0 := Int32.not_lt.mpr c3
  intro T hT X
  obtain ⟨-, k0, hk0, cm0, hkk0⟩ := ((hG.K hW).2 5 _ rfl).1 (mL μ a0) (fun j => va_rf (mR μ a0 j))
  obtain ⟨kA, comp, r1, r2, r3, -⟩ := ((hG.K hW).2 5 _ rfl).2
  obtain ⟨kE, hkE, -⟩ := Vm.findClass_spec r3
  obtain ⟨vm', X', step⟩ := X.arraycopy hx hown (zw hG hW hw rfl args) (zw hG hW w_cpN rfl args) (zw hG hW w_cpS rfl args) (zw hG hW w_cpI rfl args) (src := a0) (dst := a1) (cs := cs) (cd := arrV (G.2.2.1 6) (mL μ a1) (fun j => va_rf (mR μ a1 j))) (srcPos := sp) (destPos := dp) (n := n) (by rw [hT]; exact hc0) (by rw [hT]; exact hc1)
    (fun q h => by rw [h] at hst0; cases hst0) (fun _ h => by cases h) hun0 (fun h => by cases h) (by rw [hcl0]; exact hk0) r1 hkk0 r2 rfl d1 d2 d3
    (by rw [nn sp d1, nn n d3]; omega)
    (by rw [nn dp d2, nn n d3]; show ¬ _ > ((arrV (G.2.2.1 6) (mL μ a1) (fun j => va_rf (mR μ a1 j))).slots.size : Int); rw [arrV_size]; omega)
    (fun vm₁ hal i hi => by
      have e := hrd0 i hi
      rw [e]
      cases hy : mR μ a0 (sp.toNatClampNeg + i) with
      | none => exact ⟨rfl, trivial⟩
      | some y =>
        obtain ⟨cellV, comp9, g1, g2, ⟨C8, g8⟩, g3, g4⟩ := zx_cast1 hG hW h1 (cpel_e c6 i hi y hy)
        obtain ⟨kC, hkC, -⟩ := Vm.findClass_spec g8
        cases r3.symm.trans g3
        obtain ⟨kC', hkC', -⟩ := hal.2.2 _ _ hkC
        obtain ⟨kE', hkE', -⟩ := hal.2.2 _ _ hkE
        refine ⟨rfl, cellV, (show T.heap[y]? = some cellV by rw [hT]; exact g1), (fun q h => by rw [h] at g2; cases g2), ⟨kC', hkC'⟩, ?_, ?_⟩
        · exact ⟨kE', hkE'⟩
        · show vm₁.assignable _ _ = true
          rw [hal.assignable]
          exact g4)
    (g := F0 m pc ls (.int n :: .int dp :: .ref a1 :: .int sp :: .ref a0 :: st)) rfl (by rw [hml]; exact hl.1) (rest := st) rfl (by rw [hb]; exact d) (by omega) (by
      have h9 : nativeFrameWords "java/lang/System" "arraycopy" 5 + 11 ≤ 52 := by decide
      show 2 * 0 + _ + _ ≤ _
      omega)
  have e1 : copied (arrV (G.2.2.1 6) (mL μ a0) (fun j => va_rf (mR μ a0 j))) (arrV (G.2.2.1 6) (mL μ a1) (fun j => va_rf (mR μ a1 j))) sp dp n = arrV (G.2.2.1 6) (mL μ a1) (fun j => va_rf (va_cpy (mR μ a0) (mR μ a1) sp.toNatClampNeg dp.toNatClampNeg n.toNatClampNeg j)) := va_copied (fun z => va_rf z) _ _ _ _ c4
  have e0 : copied cs (arrV (G.2.2.1 6) (mL μ a1) (fun j => va_rf (mR μ a1 j))) sp dp n = copied (arrV (G.2.2.1 6) (mL μ a0) (fun j => va_rf (mR μ a0 j))) (arrV (G.2.2.1 6) (mL μ a1) (fun j => va_rf (mR μ a1 j))) sp dp n := by
    have es : cs.stretch sp.toNatClampNeg n.toNatClampNeg = (arrV (G.2.2.1 6) (mL μ a0) (fun j => va_rf (mR μ a0 j))).stretch sp.toNatClampNeg n.toNatClampNeg := by
      unfold Cell.stretch
      refine List.map_congr_left fun i hi => ?_
      rw [hrd0 i (List.mem_range.mp hi), Array.getD_eq_getD_getElem?, arrV_read _ _ (by have := List.mem_range.mp hi; omega)]
      rfl
    unfold copied
    rw [es]
  rw [e0, e1] at X' step
  have hl1 : a1 < H.size := (Array.getElem?_eq_some_iff.mp hc1).1
  generalize hz : arrV (G.2.2.1 6) (mL μ a1) (fun j => va_rf (va_cpy (mR μ a0) (mR μ a1) sp.toNatClampNeg dp.toNatClampNeg n.toNatClampNeg j)) = z at X' step
  have hheap : ((T.setVm vm').setCell a1 z).heap = H.setIfInBounds a1 z := by rw [← hT]; rfl
  have oq : ∀ q : Nat, q ≠ a1 → (H.setIfInBounds a1 z)[q]? = H[q]? := fun q hq => by simp [Array.getElem?_setIfInBounds, Ne.symm hq]
  have os : (H.setIfInBounds a1 z).size = H.size := by simp
  obtain ⟨t, q1, q2⟩ := kk.2 p e R s m args below meth c _ _ cells slots ls C (h1.put hba rfl rfl rfl (cpy_ne a0 sp a1 dp n) os oq fun _ => by
    rw [zOk_arr (μ := cpy μ a0 sp a1 dp n) (κ := mK μ a1) rfl h1k, h1m]
    rw [show (H.setIfInBounds a1 z)[a1]? = some z by simp [Array.getElem?_setIfInBounds, hl1], ← hz]
    congr 2
    funext j
    show _ = va_rf (up1 μ.2.1 a1 _ a1 j)
    rw [up1_eq]) (by omega) (fun q hq => by
      rcases List.mem_append.mp hq with h | h
      · exact h3 q h
      · obtain ⟨z9, -, hz9⟩ := List.mem_map.mp h
        rw [← hz9]
        exact hba) h4 h5 hl _ hheap X'
  exact ⟨t, step t q1, q2⟩
theorem zx_newM {n k : Int32} {ix : Nat} (κo κi : Nat) (hG : Gok l G) (hw : Cond.classLink Y.own ix "[[I" ∈ lw_tbl) (ha : Cond.arrayOver (.array .int) ∈ lw_tbl) (har : Cond.arrayClass .int ∈ lw_tbl) (hκo : κo < 100 ∧ κo % 10 = 5) (hκi : κi < 100 ∧ κi % 10 = 1) (hn : ¬ n < 0) (hsn : n.toNatClampNeg ≤ 100000) (hk : ¬ k < 0) (hsk : k.toNatClampNeg ≤ 100000) (d : decode Y.cc pc = .ok (.multianewarray ix 2, 4)) (kk : ZX l G Y (pc + 4) L (.ref (mN μ) :: st) (nwM μ κo κi n.toNatClampNeg k.toNatClampNeg) r μ') : ZX l G Y pc L (.int k :: .int n :: st) μ r μ' := by
  obtain ⟨⟨y1, y2⟩, y3⟩ := id kk
  have y1' : mN μ + 1 + n.toNatClampNeg ≤ mN μ' := y1
  have y2' : mS μ + n.toNatClampNeg + n.toNatClampNeg * k.toNatClampNeg ≤ mS μ' := y2
  refine ⟨⟨by omega, by omega⟩, fun p e R s m args below meth c H locs cells slots ls C h1 h2 h3 h4 h5 hl => ?_⟩
  obtain ⟨hx, hb, hml, hown, hret, hlk, hW, hfr, hlo, C9⟩ := id C
  have en : ("[" ++ (FieldType.array .int).toString) = "[[I" := by decide +kernel
  have hz : H.size = mN μ := h1.2.1
  have hlt := fun (a : Nat) (q : mK μ a ≠ 0) => h1.lt q
  intro T hT Xs
  obtain ⟨vm₁, cA, comp, -, fA, fC, hO, -, X', step⟩ := Xs.multianewarray2F hx hown (ty := .int) (by rw [en]; exact zw hG hW hw rfl args) (hG.AA hW ha args) (zw hG hW har rfl args) (g := F0 m pc ls (.int k :: .int n :: st)) rfl (by rw [hb]; exact d) rfl hn hk (by omega) (by show k.toNatClampNeg * 4 ≤ _; omega) (by omega) rfl rfl (by omega) (by omega)
  have e5 : s.vm.findClass ("[" ++ (FieldType.array .int).toString) = some (G.2.2.1 5) := ((hG.K hW).2 4 _ rfl).2
  have e1 : s.vm.findClass ("[" ++ FieldType.int.toString) = some (G.2.2.1 1) := ((hG.K hW).2 0 _ rfl).2
  have en1 : (FieldType.array .int).toString = "[" ++ FieldType.int.toString := by decide +kernel
  rw [← en1] at e1
  cases Option.some.inj (e5.symm.trans fA)
  cases Option.some.inj (e1.symm.trans fC)
  generalize hF : Jvm.Free.Multi.fill (T.setVm vm₁) (G.2.2.1 5) (G.2.2.1 1) n.toNatClampNeg k.toNatClampNeg (defaultValue .int) n.toNatClampNeg = F at X' step
  have hTh : (T.setVm vm₁).heap = H := hT
  obtain ⟨f1, f2, -, -⟩ := Jvm.Free.Multi.fill_facts (T.setVm vm₁) (G.2.2.1 5) (G.2.2.1 1) n.toNatClampNeg k.toNatClampNeg (defaultValue .int) n.toNatClampNeg
  rw [hF, hTh] at f1 f2
  have hold : ∀ x : Nat, x < H.size → F.heap[x]? = H[x]? := fun x hx => by
    have := Jvm.Free.Multi.fill_old (T.setVm vm₁) (G.2.2.1 5) (G.2.2.1 1) n.toNatClampNeg k.toNatClampNeg (defaultValue .int) (a := x) (by rw [hTh]; exact hx) n.toNatClampNeg
    rw [hF, hTh] at this
    exact this
  have hrow : ∀ j : Nat, j < n.toNatClampNeg → F.heap[H.size + 1 + j]? = some (arrV (G.2.2.1 1) k.toNatClampNeg (fun _ => .int 0)) := fun j hj => by
    have := Jvm.Free.Multi.fill_inner (T.setVm vm₁) (G.2.2.1 5) (G.2.2.1 1) n.toNatClampNeg k.toNatClampNeg (defaultValue .int) n.toNatClampNeg j hj
    rw [hF, hTh] at this
    rw [this, ← arrV_new]
    rfl
  rw [zM_outer] at f2
  have hsim : Sim G (nwM μ κo κi n.toNatClampNeg k.toNatClampNeg) F.heap := by
    obtain ⟨⟨⟨g0, g00, g01⟩, g1⟩, g2, g3, g4⟩ := h1
    refine ⟨⟨⟨g0, fun j hj => ?_, ?_⟩, fun q hq => (hold q (by omega)).trans (g1 q hq)⟩, by rw [f1, hz]; rfl, by show _ ≤ mN μ + 1 + n.toNatClampNeg; omega, fun b hb2 => ?_⟩
    · rw [nwM_R, if_neg (by omega), if_neg (by omega)]
      exact g00 j hj
    · rw [nwM_K, if_neg (by omega), if_neg (by omega)]
      exact g01
    · by_cases q1 : b = mN μ
      · subst q1
        have ek : mK (nwM μ κo κi n.toNatClampNeg k.toNatClampNeg) (mN μ) = κo := by rw [nwM_K, if_pos rfl]
        refine Or.inl ⟨?_, g3⟩
        rw [zOk_arr ek hκo.1, hκo.2, nwM_L, if_pos rfl, ← hz, f2, hz]
        congr 2
        funext j
        show _ = va_rf (mR _ _ _)
        rw [nwM_R, if_pos rfl]
      · by_cases q2 : mN μ ≤ b ∧ b < mN μ + 1 + n.toNatClampNeg
        · have ek : mK (nwM μ κo κi n.toNatClampNeg k.toNatClampNeg) b = κi := by rw [nwM_K, if_neg q1, if_pos q2]
          refine Or.inl ⟨?_, by omega⟩
          have eb : b = H.size + 1 + (b - (mN μ + 1)) := by omega
          rw [zOk_arr ek hκi.1, hκi.2, nwM_L, if_neg q1, if_pos q2, eb, hrow _ (by omega), ← eb]
          congr 2
          funext j
          show _ = Value.int (mI _ _ _)
          rw [nwM_I, if_pos q2]
        · have ek : mK (nwM μ κo κi n.toNatClampNeg k.toNatClampNeg) b = mK μ b := by rw [nwM_K, if_neg q1, if_neg q2]
          have el : mL (nwM μ κo κi n.toNatClampNeg k.toNatClampNeg) b = mL μ b := by rw [nwM_L, if_neg q1, if_neg q2]
          rw [ek] at hb2
          have hbl := hlt b hb2
          rcases g4 b hb2 with ⟨w1, w2⟩ | w
          · exact Or.inl ⟨zOk_keep ek el (by rw [nwM_I, if_neg q2]) (by rw [nwM_R, if_neg q1, if_neg q2]) (by rw [nwM_J, if_neg q2]) (hold b (by omega)) w1, w2⟩
          · exact Or.inr (zE_keep ek el (hold b (by omega)) w)
  obtain ⟨t, a1, b1⟩ := y3 p e R s m args below meth c F.heap locs (cells + 1 + n.toNatClampNeg) (slots + n.toNatClampNeg + n.toNatClampNeg * k.toNatClampNeg) ls C hsim (by rw [f1]; omega) h3 (by show _ + (_ - (mN μ + 1 + n.toNatClampNeg)) ≤ _; omega) (by show _ + (_ - (mS μ + n.toNatClampNeg + n.toNatClampNeg * k.toNatClampNeg)) ≤ _; omega) hl F rfl X'
  refine ⟨t, step t ?_, b1⟩
  have e : T.heap.size = mN μ := by rw [hT]; exact hz
  rw [e]
  exact a1
end ZXQ
