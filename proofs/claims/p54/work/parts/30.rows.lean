/-! rows of LJ on the heap, calls -/
abbrev FREE (G : Gt) : Nat → Prop := fun q => G.1.heap.size ≤ q
section LJB
variable {l : Launch} {G : Gt} {Y : MD} {p : Program} {e : Env} {R : Room} {s : State} {m : MethodId} {args : Array Value} {below : List Frame} {meth : Method} {c : Code} {Q : State → Prop} {pc : Nat} {L : List (Nat × Value)} {st : List Value} {μ μ1 : Mm} {c1 s1 c2 s2 : Nat}
theorem lj_iald (C : CW G Y p R s m meth c) {a κ : Nat} {i : Int32} (hG : Gok l G) (hk : mK μ a = κ) (h1k : κ < 100) (hm : κ % 10 = 1) (hin : vp_in i (mL μ a)) (d : decode Y.cc pc = .ok (.iaload, 1)) (kk : LJ l G Y p e R s m args below meth c Q (pc + 1) L (.int (mI μ a i.toNatClampNeg) :: st) μ c1 s1) : LJ l G Y p e R s m args below meth c Q pc L (.int i :: .ref a :: st) μ c1 s1 := fun H locs cells slots ls h1 h2 h3 h4 h5 hl => by
  have k2 := kk H locs cells slots ls h1 h2 h3 h4 h5 hl
  have hc := h1.arr hk (by omega) h1k (by omega)
  rw [hm] at hc
  obtain ⟨hx, hb, hml, hown, hret, hlk, hW, -⟩ := C
  exact W.iald (v := .int (mI μ a i.toNatClampNeg)) hx hb hc (((hG.K hW).2 0 _ rfl).1 _ _) (fun q => by cases q) (by rw [arrV_size]; exact hin) (by rw [arrV_read _ _ (vp_lt hin)]; rfl) rfl rfl d k2
theorem lj_iast (C : CW G Y p R s m meth c) {a κ : Nat} {i v : Int32} (hG : Gok l G) (hk : mK μ a = κ) (h1k : κ < 100) (hm : κ % 10 = 1) (hin : vp_in i (mL μ a)) (d : decode Y.cc pc = .ok (.iastore, 1)) (kk : LJ l G Y p e R s m args below meth c Q (pc + 1) L st (sI μ a i.toNatClampNeg v) c1 s1) : LJ l G Y p e R s m args below meth c Q pc L (.int v :: .int i :: .ref a :: st) μ c1 s1 := fun H locs cells slots ls h1 h2 h3 h4 h5 hl => by
  have hc := h1.arr hk (by omega) h1k (by omega)
  have hba := h1.arrB hk (by omega) (Nat.lt_of_le_of_lt (Nat.zero_le _) (vp_lt hin))
  rw [hm] at hc
  obtain ⟨hx, hb, hml, hown, hret, hlk, hW, C9⟩ := id C
  refine W.iast hx hb hc (((hG.K hW).2 0 _ rfl).1 _ _) (fun q => by cases q) (by rw [arrV_size]; exact hin) rfl rfl d fun H1 e1 e2 e3 => ?_
  refine kk H1 _ cells slots ls (h1.put hba rfl rfl rfl (sI_ne μ a _ v) e2 e3 fun _ => ?_) (by omega) ?_ h4 h5 hl
  · rw [zOk_arr (μ := sI μ a i.toNatClampNeg v) (κ := κ) hk h1k, e1, hm]
    have e9 := aval_set (μ := μ) (a := a) (κ := 1) (i := i.toNatClampNeg) (v := .int v) (μ1 := sI μ a i.toNatClampNeg v) (fun j hj => by show Value.int _ = Value.int _; rw [mI_sI, up2_eq, up1_ne _ _ hj]) (by show Value.int _ = Value.int _; rw [sI_at]) (G.2.2.1 1) (mL μ a)
    rw [e9]
    rfl
  · intro q9 h9
    rcases List.mem_append.mp h9 with h9 | h9
    · exact h3 q9 h9
    · rw [List.mem_singleton.mp h9]
      exact hba
theorem lj_newa (C : CW G Y p R s m meth c) {n : Int32} (κ : Nat) {at9 : ArrayType} (hG : Gok l G) (hw : Cond.arrayClass (newarray.typeOf at9) ∈ lw_tbl) (hκ : κ < 100) (hm : (κ % 10 = 1 ∧ at9 = .int) ∨ (κ % 10 = 2 ∧ at9 = .boolean)) (hn : ¬ n < 0) (hsm : n.toNatClampNeg ≤ 100000) (d : decode Y.cc pc = .ok (.newarray at9, 2)) (hc : c2 + 1 ≤ c1) (hs : s2 + n.toNatClampNeg ≤ s1) (kk : LJ l G Y p e R s m args below meth c Q (pc + 2) L (.ref (mN μ) :: st) (nw μ κ n.toNatClampNeg n.toNatClampNeg) c2 s2) : LJ l G Y p e R s m args below meth c Q pc L (.int n :: st) μ c1 s1 := fun H locs cells slots ls h1 h2 h3 h4 h5 hl => by
  obtain ⟨hx, hb, hml, hown, hret, hlk, hW, C9⟩ := id C
  have hz := h1.2.1
  refine va_newaK hx hb (zw hG hW hw rfl args) rfl d rfl hn rfl ?_ (by omega) (by omega) hz fun H1 cA e1 e2 e3 hAr hNm => ?_
  · rcases hm with ⟨-, rfl⟩ | ⟨-, rfl⟩
    · show n.toNatClampNeg * 4 ≤ 536870912
      omega
    · show n.toNatClampNeg * 1 ≤ 536870912
      omega
  have hs1 : Sim G (nw μ κ n.toNatClampNeg n.toNatClampNeg) H1 := h1.new (by rw [e2, hz]) (fun x hx => e3 x (by omega)) fun _ => by
    rw [zOk_arr (nw_K _ _ _ _) hκ, nw_L, e1]
    rcases hm with ⟨hm, rfl⟩ | ⟨hm, rfl⟩
    · rw [hm, aval_nw (Or.inl rfl)]
      have hc : cA = G.2.2.1 1 := by
        have h9 := va_nm_int ((hG.K hW).2 0 _ rfl).2
        have h8 : s.vm.findClass "[I" = some cA := va_nm_int hNm
        exact Option.some.inj (h8.symm.trans h9)
      rw [hc]
      rfl
    · rw [hm, aval_nw (Or.inr rfl)]
      have hc : cA = G.2.2.1 2 := by
        have h9 := va_nm_boolean ((hG.K hW).2 1 _ rfl).2
        have h8 : s.vm.findClass "[Z" = some cA := va_nm_boolean hNm
        exact Option.some.inj (h8.symm.trans h9)
      rw [hc]
      rfl
  exact kk H1 _ (cells + 1) (slots + n.toNatClampNeg) ls hs1 (by omega) h3 (by omega) (by omega) hl
theorem lj_new (C : CW G Y p R s m meth c) {ix ci N : Nat} (hG : Gok l G) (f : NWs Y.own ix ci N) (d : decode Y.cc pc = .ok (.new ix, 3)) (hc : c2 + 1 ≤ c1) (hs : s2 + N ≤ s1) (kk : LJ l G Y p e R s m args below meth c Q (pc + 3) L (.ref (mN μ) :: st) (nw μ (100 + ci) 0 N) c2 s2) : LJ l G Y p e R s m args below meth c Q pc L st μ c1 s1 := fun H locs cells slots ls h1 h2 h3 h4 h5 hl => by
  obtain ⟨hx, hb, hml, hown, hret, hlk, hW, C9⟩ := id C
  obtain ⟨q, f1, f2, f3, f4, f5⟩ := f
  obtain ⟨ty, z1, z2, z3, z4, z5⟩ := zC_of f1
  have hts : ∀ w ∈ u_ws q.1 q.2.1 q.2.2, w.before args s = true := fun w hw => by
    have hg : goodWord w = true := by
      obtain ⟨j, -, rfl⟩ := List.mem_map.mp hw
      unfold u_lay
      split <;> rfl
    exact zw hG hW (z2 w hw) hg args
  have hKn := (hG.K hW).1 ci _ f1
  have hz := h1.2.1
  refine W.newcK hx hb hown (zw hG hW f3 rfl args) (zw hG hW f4 rfl args) (zw hG hW f5 rfl args) rfl d (by omega) (by omega) hKn.2.1 hz fun H1 kC hkC e1 e2 e3 => ?_
  have hs1 : Sim G (nw μ (100 + ci) 0 N) H1 := h1.new (by rw [e2, hz]) (fun x hx => e3 x (by omega)) fun _ => by
    rw [zOk_obj (nw_K _ _ _ _)]
    refine ⟨q, f1, (u_born ty hts (fun w h => h) hKn hkC e1 z3).to fun k hk => ?_⟩
    exact tc_dv (z4 k hk) (zft_lt _ _) _ _ _ (by rw [nw_I]) (by rw [nw_R])
  exact kk H1 _ (cells + 1) (slots + N) ls hs1 (by omega) h3 (by omega) (by omega) hl
section CALLS
variable {Yc : MD} {ix n : Nat} {As : List Value} {Lc : List (Nat × Value)} {v : Option Value}
theorem lj_callV {ci b : Nat} (C : CW G Y p R s m meth c) (hG : Gok l G) (mf : MF Yc n) (cs : CVs Y.own ix Yc ci) (hk : mK μ b = 100 + ci) (hR : Yc.fr + 1 ≤ Y.fr ∧ 8 + (Yc.maxL + 11) + Yc.lo ≤ Y.lo) (hA : As.length = n) (hLc : lv_args 0 (.ref b :: As) = Lc) (hn : (lg_sl (.ref b :: As)).length ≤ Yc.maxL) (hz : ZX l G Yc 0 Lc [] μ (.inl v) μ1) (hcat : (st.map fun v => v.category).sum ≤ 8) (d : decode Y.cc pc = .ok (.invokevirtual ix, 3)) (hc : mN μ1 + c2 ≤ mN μ + c1) (hs : mS μ1 + s2 ≤ mS μ + s1) (kk : LJ l G Y p e R s m args below meth c Q (pc + 3) L (v.toList ++ st) μ1 c2 s2) :
    LJ l G Y p e R s m args below meth c Q pc L (As.reverse ++ .ref b :: st) μ c1 s1 := fun H locs cells slots ls h1 h2 h3 h4 h5 hl => by
  obtain ⟨⟨z1, z2⟩, z3⟩ := id hz
  obtain ⟨hx, hb, hml, hown, hret, hlk, hW, hfr, hlo⟩ := id C
  obtain ⟨d1, d2, d3, rr, d4, d5⟩ := cs
  obtain ⟨r9, g1, cell, q1, q2, q3, q4⟩ := (zOk_obj hk).mp (h1.zo (a := b) (by omega) (by omega)).1
  cases Option.some.inj (g1.symm.trans d4)
  have hcl : s.vm.findClass Yc.y.cls = some cell.cls := by rw [q2, ← d5]; exact ((hG.K hW).1 ci _ d4).2.1
  refine zx_fin (va_runV (Ts := []) (own := Y.own) (As := As) (rest := st) (C := Yc.y.cls) (b := b) ⟨hx, hb, hml, hown, fun w hw => nomatch hw⟩ (zx_metN mf.2.2.1 mf.2.2.2.2.2 hLc hn hz) ⟨zx_callB hG hW mf d1 (by rw [hfr, hlo]; exact hR), zw hG hW d2 rfl args, zw hG hW d3 rfl args⟩ ⟨PcE.blind, ⟨cell, q1, by rw [q3]; rfl, hcl⟩, (PcE.pre hW h1).2⟩ rfl hA hl.1 rfl (lv_room hcat) d ⟨by omega, by omega⟩) h2 h3 fun H1 locs1 k1 k2 k3 => ?_
  exact kk H1 locs1 _ _ ls k1 k2 k3 (by omega) (by omega) hl
theorem lj_callI {b : Nat} (C : CW G Y p R s m meth c) (hG : Gok l G) (mf : MF Yc n) (cs : CIs Y.own ix Yc) (hR : Yc.fr + 1 ≤ Y.fr ∧ 8 + (Yc.maxL + 11) + Yc.lo ≤ Y.lo) (hA : As.length = n) (hLc : lv_args 0 (.ref b :: As) = Lc) (hn : (lg_sl (.ref b :: As)).length ≤ Yc.maxL) (hz : ZX l G Yc 0 Lc [] μ (.inl none) μ1) (hcat : (st.map fun v => v.category).sum ≤ 8) (d : decode Y.cc pc = .ok (.invokespecial ix, 3)) (hc : mN μ1 + c2 ≤ mN μ + c1) (hs : mS μ1 + s2 ≤ mS μ + s1) (kk : LJ l G Y p e R s m args below meth c Q (pc + 3) L st μ1 c2 s2) :
    LJ l G Y p e R s m args below meth c Q pc L (As.reverse ++ .ref b :: st) μ c1 s1 := fun H locs cells slots ls h1 h2 h3 h4 h5 hl => by
  obtain ⟨⟨z1, z2⟩, z3⟩ := id hz
  obtain ⟨hx, hb, hml, hown, hret, hlk, hW, hfr, hlo⟩ := id C
  obtain ⟨d1, d2, d3, d4⟩ := cs
  have cb : CallB R s args Y.own ix Yc.y Yc.cc Yc.maxL Yc.ret Yc.ws (Yc.rm (mN μ1 - mN μ) (mS μ1 - mS μ)) (mN μ1 - mN μ) (mS μ1 - mS μ) n := zx_callB hG hW mf d1 (by rw [hfr, hlo]; exact hR)
  rw [d4] at cb
  refine zx_fin (va_runI (Ts := []) (own := Y.own) (As := As) (rest := st) (b := b) ⟨hx, hb, hml, hown, fun w hw => nomatch hw⟩ (zx_metN mf.2.2.1 mf.2.2.2.2.2 hLc hn hz) ⟨cb, d3, zw hG hW d2 rfl args⟩ (PcE.pre hW h1) rfl hA hl.1 rfl (lv_room hcat) d ⟨by omega, by omega⟩) h2 h3 fun H1 locs1 k1 k2 k3 => ?_
  exact kk H1 locs1 _ _ ls k1 k2 k3 (by omega) (by omega) hl
theorem lj_callS (C : CW G Y p R s m meth c) (hG : Gok l G) (mf : MF Yc n) (cs : CSs Y.own ix Yc) (hR : Yc.fr + 1 ≤ Y.fr ∧ 8 + (Yc.maxL + 11) + Yc.lo ≤ Y.lo) (hA : As.length = n) (hLc : lv_args 0 As = Lc) (hn : (lg_sl As).length ≤ Yc.maxL) (hz : ZX l G Yc 0 Lc [] μ (.inl v) μ1) (hcat : (st.map fun v => v.category).sum ≤ 8) (d : decode Y.cc pc = .ok (.invokestatic ix, 3)) (hc : mN μ1 + c2 ≤ mN μ + c1) (hs : mS μ1 + s2 ≤ mS μ + s1) (kk : LJ l G Y p e R s m args below meth c Q (pc + 3) L (v.toList ++ st) μ1 c2 s2) :
    LJ l G Y p e R s m args below meth c Q pc L (As.reverse ++ st) μ c1 s1 := fun H locs cells slots ls h1 h2 h3 h4 h5 hl => by
  obtain ⟨⟨z1, z2⟩, z3⟩ := id hz
  obtain ⟨hx, hb, hml, hown, hret, hlk, hW, hfr, hlo⟩ := id C
  obtain ⟨d1, d2⟩ := cs
  refine zx_fin (va_runS (Ts := []) (own := Y.own) (As := As) (rest := st) ⟨hx, hb, hml, hown, fun w hw => nomatch hw⟩ (zx_metN mf.2.2.1 mf.2.2.2.2.2 hLc hn hz) ⟨zx_callB hG hW mf d1 (by rw [hfr, hlo]; exact hR), zw hG hW d2 rfl args⟩ (PcE.pre hW h1) rfl hA hl.1 rfl (lv_room hcat) d ⟨by omega, by omega⟩) h2 h3 fun H1 locs1 k1 k2 k3 => ?_
  exact kk H1 locs1 _ _ ls k1 k2 k3 (by omega) (by omega) hl
theorem lj_callVO (C : CW G Y p R s m meth c) {b : Nat} (hG : Gok l G) (mf : MF Yc n) (cs : CVo Y.own ix Yc) (hO : va_O "java/lang/String" b (fun q => G.1.heap.size ≤ q) G.1 G.1.heap) (hR : Yc.fr + 1 ≤ Y.fr ∧ 8 + (Yc.maxL + 11) + Yc.lo ≤ Y.lo) (hA : As.length = n) (hLc : lv_args 0 (.ref b :: As) = Lc) (hn : (lg_sl (.ref b :: As)).length ≤ Yc.maxL) (hz : ZX l G Yc 0 Lc [] μ (.inl v) μ1) (hcat : (st.map fun v => v.category).sum ≤ 8) (d : decode Y.cc pc = .ok (.invokevirtual ix, 3)) (hc : mN μ1 + c2 ≤ mN μ + c1) (hs : mS μ1 + s2 ≤ mS μ + s1) (kk : LJ l G Y p e R s m args below meth c Q (pc + 3) L (v.toList ++ st) μ1 c2 s2) :
    LJ l G Y p e R s m args below meth c Q pc L (As.reverse ++ .ref b :: st) μ c1 s1 := fun H locs cells slots ls h1 h2 h3 h4 h5 hl => by
  obtain ⟨⟨z1, z2⟩, z3⟩ := id hz
  obtain ⟨hx, hb, hml, hown, hret, hlk, hW, hfr, hlo⟩ := id C
  obtain ⟨d1, d2, d3, d5⟩ := cs
  obtain ⟨cell, q1, q2, q3, -⟩ := (hO.moved hW.alike).kept (H1 := H) (fun a ha _ => h1.1.2 a ha)
  have hcl : s.vm.findClass Yc.y.cls = some cell.cls := by rw [d5]; exact q3
  refine zx_fin (va_runV (Ts := []) (own := Y.own) (As := As) (rest := st) (C := Yc.y.cls) (b := b) ⟨hx, hb, hml, hown, fun w hw => nomatch hw⟩ (zx_metN mf.2.2.1 mf.2.2.2.2.2 hLc hn hz) ⟨zx_callB hG hW mf d1 (by rw [hfr, hlo]; exact hR), zw hG hW d2 rfl args, zw hG hW d3 rfl args⟩ ⟨PcE.blind, ⟨cell, q1, q2, hcl⟩, (PcE.pre hW h1).2⟩ rfl hA hl.1 rfl (lv_room hcat) d ⟨by omega, by omega⟩) h2 h3 fun H1 locs1 k1 k2 k3 => ?_
  exact kk H1 locs1 _ _ ls k1 k2 k3 (by omega) (by omega) hl
/-- an exception E out of pc is taken by a handler at hp -/
def CT (G : Gt) (own : String) (tab : List ExceptionTableEntry) (pc : Nat) (E : String) (hp : Nat) : Prop := ∃ (pre : List ExceptionTableEntry) (x : ExceptionTableEntry) (suf : List ExceptionTableEntry) (nm : String), tab = pre ++ x :: suf ∧ (∀ z ∈ pre, covers z pc = false ∨ (z.catchType ≠ 0 ∧ ∃ nm : String, Cond.classLink own z.catchType nm ∈ lw_tbl ∧ va_Nc E nm G.1)) ∧ covers x pc = true ∧ x.catchType ≠ 0 ∧ Cond.classLink own x.catchType nm ∈ lw_tbl ∧ Cond.castable E nm ∈ lw_tbl ∧ x.handlerPc = hp
/-- a call that returns, or throws into a handler of this method -/
theorem lj_callVx {ci b : Nat} {r : Rs} {tab : List ExceptionTableEntry} (C : CW G Y p R s m meth c) (ht : c.exceptionTable.toList = tab) (hG : Gok l G) (mf : MF Yc n) (cs : CVs Y.own ix Yc ci) (hk : mK μ b = 100 + ci) (hR : Yc.fr + 1 ≤ Y.fr ∧ 8 + (Yc.maxL + 11) + Yc.lo ≤ Y.lo) (hA : As.length = n) (hLc : lv_args 0 (.ref b :: As) = Lc) (hn : (lg_sl (.ref b :: As)).length ≤ Yc.maxL) (hz : ZX l G Yc 0 Lc [] μ r μ1) (hcat : (st.map fun v => v.category).sum ≤ 8) (d : decode Y.cc pc = .ok (.invokevirtual ix, 3)) (hc : mN μ1 + c2 ≤ mN μ + c1) (hs : mS μ1 + s2 ≤ mS μ + s1)
    (kk : ∀ v, r = .inl v → LJ l G Y p e R s m args below meth c Q (pc + 3) L (v.toList ++ st) μ1 c2 s2)
    (kx : ∀ E, r = .inr E → ∃ hp, CT G Y.own tab pc E hp ∧ ∀ N q, mN μ ≤ N → LJ l G Y p e R s m args below meth c Q hp L [.ref q] (sN μ1 N) c2 s2) :
    LJ l G Y p e R s m args below meth c Q pc L (As.reverse ++ .ref b :: st) μ c1 s1 := fun H locs cells slots ls h1 h2 h3 h4 h5 hl => by
  obtain ⟨⟨z1, z2⟩, z3⟩ := id hz
  obtain ⟨hx, hb, hml, hown, hret, hlk, hW, hfr, hlo⟩ := id C
  obtain ⟨d1, d2, d3, rr, d4, d5⟩ := cs
  obtain ⟨r9, g1, cell, q1, q2, q3, q4⟩ := (zOk_obj hk).mp (h1.zo (a := b) (by omega) (by omega)).1
  cases Option.some.inj (g1.symm.trans d4)
  have hcl : s.vm.findClass Yc.y.cls = some cell.cls := by rw [q2, ← d5]; exact ((hG.K hW).1 ci _ d4).2.1
  have hr := vx_runV (p := p) (e := e) (R := R) (below := below) (meth := meth) (H := H) (locs := locs) (cells := cells) (slots := slots) (g := F0 m pc ls (As.reverse ++ .ref b :: st)) (Ts := []) (own := Y.own) (As := As) (rest := st) (C := Yc.y.cls) (b := b) ⟨hx, hb, hml, hown, fun w hw => nomatch hw⟩ (zx_met mf.2.2.1 mf.2.2.2.2.2 hLc hn hz) ⟨zx_callB hG hW mf d1 (by rw [hfr, hlo]; exact hR), zw hG hW d2 rfl args, zw hG hW d3 rfl args⟩ ⟨PcE.blind, ⟨cell, q1, by rw [q3]; rfl, hcl⟩, (PcE.pre hW h1).2⟩ rfl hA hl.1 rfl (lv_room hcat) d ⟨by omega, by omega⟩
  intro T hT X
  rcases hr T hT X with ⟨v', st₀, t, T', L9, h0, X', hL, e1, e2, ⟨v'', hv, ho, hsim, hsz⟩, hst⟩ | ⟨q9, st₀, t, T', L9, E, ce, h0, X', hL, e1, e2, ⟨hv, ⟨N, hsim⟩, hsz⟩, hce, hcv, hcl9, hst⟩
  · cases ho
    obtain ⟨t2, a1, b1⟩ := kk _ hv T'.heap (locs ++ L9) _ _ ls (by rw [e1]; exact hsim) (by rw [e1]; rw [h0] at hsz; omega) (fun q hq => by
      rcases List.mem_append.mp hq with h | h
      · exact h3 q h
      · exact hL q h) (by omega) (by omega) hl T' rfl X'
    exact ⟨t2, hst t2 a1, b1⟩
  · obtain ⟨hp, ⟨pre, x, suf, nm, w1, w2, w3, w4, w5, w6, w7⟩, kx2⟩ := kx E hv
    have hN : mN μ ≤ N := by
      have := hsim.2.1
      have := h1.2.1
      have e9 : mN (sN μ1 N) = N := rfl
      rw [h0] at hsz
      omega
    have kw := kx2 N q9 hN T'.heap (locs ++ L9) (cells + (mN μ1 - mN μ)) (slots + (mS μ1 - mS μ)) ls (by rw [e1]; exact hsim) (by rw [e1]; rw [h0] at hsz; omega) (fun q hq => by
      rcases List.mem_append.mp hq with h | h
      · exact h3 q h
      · exact hL q h) (by omega) (by omega) hl
    rw [← w7] at kw
    have kc := vx_catch (own := Y.own) (name := nm) (E := E) (ce := ce) (q := q9) (pc := pc) (rest := st) hown pre x suf (ht.trans w1) (fun z hz9 => by
      rcases w2 z hz9 with h | ⟨y1, nm2, y2, y3⟩
      · exact Or.inl h
      · exact Or.inr ⟨y1, nm2, zw hG hW y2 rfl args, va_Nc.moved hW.alike y3⟩) w3 w4 (zw hG hW w5 rfl args) (zwC hG hW w6 args) (by rw [e1]; exact hce) hcv hcl9 kw
    obtain ⟨t2, a1, b1⟩ := kc T' rfl X'
    exact ⟨t2, hst.trans a1, b1⟩
end CALLS
end LJB
