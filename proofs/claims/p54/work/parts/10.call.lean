/-! calls, new cells, casts, throws -/
def PcE (G : Gt) (vs : List Value) (μ : Mm) : Array Value → State → Prop := fun a U => a = vs.toArray ∧ Sim G μ U.heap ∧ G.1.WarmedH U.vm ∧ G.1.heap.size ≤ U.heap.size
theorem PcE.blind {G : Gt} {vs : List Value} {μ : Mm} : FrameBlind (PcE G vs μ) := fun _ _ _ _ q => q
abbrev MD.rm (Y : MD) (mc ms : Nat) : Room := { frames := Y.fr, cells := mc, slots := ms, locals := Y.lo }
abbrev MD.ws (Y : MD) : List Jvm.Cond := [Cond.code Y.y Y.cc Y.maxL Y.ret]
/-- a body's walk, of a method whose class may be one that the machine knows (Math), the method not -/
theorem zx_ofW {l : Launch} {y : MethodName} {ws ws' : List Jvm.Cond} {rm : Room} {Pc : Array Value → State → Prop} {Qc : Array Value → State → Outcome → State → Prop} {XC : String → State → State → Prop} {mc ms : Nat} {free : Addr → Prop} {cc : ByteArray} {maxL : Nat} {ret : Option FieldType}
    (hy : plainFor y = true) (hw : ws = Cond.code y cc maxL ret :: ws')
    (body : ∀ p e s m args below meth c s₁, BodyLoose p l y (headSpec ws rm) cc maxL ret e s m args below meth c s₁ → c.maxLocals = maxL → (∀ x ∈ c.exceptionTable.toList, False) → Pc args s →
      W p l e (headSpec ws rm).room s m args below meth c s.heap [] 0 0 (vx_MQ below Qc XC args s mc ms free) (entryFrame m args maxL)) : vx_Met l y ws rm Pc Qc XC mc ms free := by
  refine MetFree.of_bodySF (code := cc) (maxLocals := maxL) (ret := ret) hy ?_ ?_
  · intro args s m h hn
    obtain ⟨meth, c, h1, h2, h3, h4, h5, h6, -, -⟩ := Cond.code_spec hn (atoms_spec (ws := ws) h _ (by rw [hw]; exact List.mem_cons_self))
    exact ⟨meth, c, h1, h2, h3, h4, h5, h6⟩
  · intro p e s m args below meth c s₁ B hml hP _
    have hh0 : s₁.heap = s.heap := by rw [B.state]; rfl
    have ht : ∀ x ∈ c.exceptionTable.toList, False := by
      obtain ⟨meth9, c9, h1, h2, -, -, -, -, h7, -⟩ := Cond.code_spec B.named (atoms_spec (ws := ws) B.pre _ (by rw [hw]; exact List.mem_cons_self))
      cases Option.some.inj (h1.symm.trans B.method)
      cases Option.some.inj (h2.symm.trans (Stand.of_body B).code)
      intro x hx
      rw [Array.isEmpty_iff.mp h7] at hx
      cases hx
    obtain ⟨t, a1, o, b1, b2, b3⟩ := body p e s m args below meth c s₁ B hml ht hP s₁ hh0 (Stand.of_body B)
    exact ⟨t, o, a1, b1, b2, b3⟩
/-- the walk of a body gives the contract -/
theorem zx_met {l : Launch} {G : Gt} {Y : MD} {vs : List Value} {L : List (Nat × Value)} {μ μ' : Mm} {r : Rs} (hy : plainFor Y.y = true) (hown : Y.y.cls = Y.own) (hL : lv_args 0 vs = L) (hn : (lg_sl vs).length ≤ Y.maxL) (h : ZX l G Y 0 L [] μ r μ') :
    vx_Met l Y.y Y.ws (Y.rm (mN μ' - mN μ) (mS μ' - mS μ)) (PcE G vs μ) (QcE G r μ') (XcE G r μ') (mN μ' - mN μ) (mS μ' - mS μ) (fun q => G.1.heap.size ≤ q) := by
  refine zx_ofW (cc := Y.cc) (maxL := Y.maxL) (ret := Y.ret) hy rfl ?_
  intro p e s m args below meth c s₁ B hml ht hv
  obtain ⟨rfl, hsim, hw, hsz⟩ := hv
  rw [lg_entry_eq]
  have hl := lv_entry vs (n := Y.maxL) hn
  rw [hL] at hl
  refine h.2 p e _ s m _ below meth c s.heap [] 0 0 _ ⟨B.exec, B.bytes, hml, ?_, B.returns, B.notSynchronized, hw, rfl, rfl, ht, ?_, hsz, hsim.1.2⟩ hsim (Nat.le_refl _) (fun q hq => nomatch hq) (Nat.le_of_eq (Nat.zero_add _)) (Nat.le_of_eq (Nat.zero_add _)) hl
  · rw [← hown]
    exact findClass_of_methodNamed B.named
  · exact (name_of_methodNamed B.named B.method).1
theorem zx_metN {l : Launch} {G : Gt} {Y : MD} {vs : List Value} {L : List (Nat × Value)} {μ μ' : Mm} {v : Option Value} (hy : plainFor Y.y = true) (hown : Y.y.cls = Y.own) (hL : lv_args 0 vs = L) (hn : (lg_sl vs).length ≤ Y.maxL) (h : ZX l G Y 0 L [] μ (.inl v) μ') :
    Met l Y.y Y.ws (Y.rm (mN μ' - mN μ) (mS μ' - mS μ)) (PcE G vs μ) (QcE G (.inl v) μ') (mN μ' - mN μ) (mS μ' - mS μ) (fun q => G.1.heap.size ≤ q) := by
  refine MetFree.mono (zx_met hy hown hL hn h) (fun _ _ q => q) (fun _ _ _ _ _ q => q) (fun a st o t _ hq => ?_)
  rcases hq with hq | ⟨q, rfl, E, ce, L9, ⟨hx, -⟩, -⟩
  · exact hq
  · cases hx
/-- what the tables say of a method -/
def MF (Y : MD) (n : Nat) : Prop := Cond.code Y.y Y.cc Y.maxL Y.ret ∈ lw_tbl ∧ Cond.initialized Y.y.cls ∈ lw_tbl ∧ plainFor Y.y = true ∧ (Y.y.cls ≠ "java/lang/invoke/MethodHandle" ∧ Y.y.cls ≠ "java/lang/invoke/VarHandle") ∧ (parseMethodDescriptor Y.y.desc).map (fun d => d.parameters.length) = some n ∧ Y.y.cls = Y.own
theorem MF.of {Y : MD} {n : Nat} (i j : Nat) (h1 : lw_tbl[i]? = some (Cond.code Y.y Y.cc Y.maxL Y.ret)) (h2 : lw_tbl[j]? = some (Cond.initialized Y.y.cls)) (h3 : plainFor Y.y = true) (h4 : Y.y.cls ≠ "java/lang/invoke/MethodHandle" ∧ Y.y.cls ≠ "java/lang/invoke/VarHandle") (h5 : (parseMethodDescriptor Y.y.desc).map (fun d => d.parameters.length) = some n) (h6 : Y.y.cls = Y.own) : MF Y n := ⟨List.mem_of_getElem? h1, List.mem_of_getElem? h2, h3, h4, h5, h6⟩
def CVs (own : String) (ix : Nat) (Y : MD) (ci : Nat) : Prop := Cond.methodLink own ix Y.y ∈ lw_tbl ∧ Cond.instanceMethod Y.y ∈ lw_tbl ∧ Cond.selects Y.y.cls Y.y Y.y ∈ lw_tbl ∧ ∃ r : vw_C, vwCl[ci]? = some r ∧ r.1 = Y.y.cls
theorem CVs.of {own : String} {ix ci : Nat} {Y : MD} (i j k : Nat) (h1 : lw_tbl[i]? = some (Cond.methodLink own ix Y.y)) (h2 : lw_tbl[j]? = some (Cond.instanceMethod Y.y)) (h3 : lw_tbl[k]? = some (Cond.selects Y.y.cls Y.y Y.y)) (r : vw_C) (h4 : vwCl[ci]? = some r) (h5 : r.1 = Y.y.cls) : CVs own ix Y ci := ⟨List.mem_of_getElem? h1, List.mem_of_getElem? h2, List.mem_of_getElem? h3, r, h4, h5⟩
def CSs (own : String) (ix : Nat) (Y : MD) : Prop := Cond.methodLink own ix Y.y ∈ lw_tbl ∧ Cond.static Y.y ∈ lw_tbl
theorem CSs.of {own : String} {ix : Nat} {Y : MD} (i j : Nat) (h1 : lw_tbl[i]? = some (Cond.methodLink own ix Y.y)) (h2 : lw_tbl[j]? = some (Cond.static Y.y)) : CSs own ix Y := ⟨List.mem_of_getElem? h1, List.mem_of_getElem? h2⟩
def CNs (own : String) (ix : Nat) (Y : MD) (h : String) : Prop := Cond.methodLinkNest own ix Y.y h ∈ lw_tbl ∧ Cond.static Y.y ∈ lw_tbl
theorem CNs.of {own h : String} {ix : Nat} {Y : MD} (i j : Nat) (h1 : lw_tbl[i]? = some (Cond.methodLinkNest own ix Y.y h)) (h2 : lw_tbl[j]? = some (Cond.static Y.y)) : CNs own ix Y h := ⟨List.mem_of_getElem? h1, List.mem_of_getElem? h2⟩
def CIs (own : String) (ix : Nat) (Y : MD) : Prop := Cond.methodLink own ix Y.y ∈ lw_tbl ∧ Cond.instanceMethod Y.y ∈ lw_tbl ∧ Y.y.name = "<init>" ∧ Y.ret = none
theorem CIs.of {own : String} {ix : Nat} {Y : MD} (i j : Nat) (h1 : lw_tbl[i]? = some (Cond.methodLink own ix Y.y)) (h2 : lw_tbl[j]? = some (Cond.instanceMethod Y.y)) (h3 : Y.y.name = "<init>") (h4 : Y.ret = none) : CIs own ix Y := ⟨List.mem_of_getElem? h1, List.mem_of_getElem? h2, h3, h4⟩
def CJs (own : String) (ix : Nat) (Y : MD) (h : String) : Prop := Cond.methodLinkNest own ix Y.y h ∈ lw_tbl ∧ Cond.instanceMethod Y.y ∈ lw_tbl ∧ Y.y.name = "<init>" ∧ Y.ret = none
theorem CJs.of {own h : String} {ix : Nat} {Y : MD} (i j : Nat) (h1 : lw_tbl[i]? = some (Cond.methodLinkNest own ix Y.y h)) (h2 : lw_tbl[j]? = some (Cond.instanceMethod Y.y)) (h3 : Y.y.name = "<init>") (h4 : Y.ret = none) : CJs own ix Y h := ⟨List.mem_of_getElem? h1, List.mem_of_getElem? h2, h3, h4⟩
theorem zwN {l : Launch} {G : Gt} {s : State} (hG : Gok l G) (hW : G.1.WarmedH s.vm) {own h : String} {ix : Nat} {y : MethodName} (hw : Cond.methodLinkNest own ix y h ∈ lw_tbl) : va_Nw (.methodLinkNest own ix y h) s := by
  obtain ⟨-, ⟨a0, h0⟩, -⟩ := hG
  exact va_Nw.warmM hW (va_Nw.of rfl (h0 _ hw))
theorem PcE.pre {G : Gt} {vs : List Value} {μ : Mm} {s : State} {H : Heap} (hW : G.1.WarmedH s.vm) (h : Sim G μ H) : PreS s H (PcE G vs μ) vs := ⟨PcE.blind, fun U hU hW2 => ⟨rfl, by rw [hU]; exact h, State.WarmedH.trans hW hW2, by rw [hU, h.2.1]; exact h.2.2.1⟩⟩
section ZXC
variable {l : Launch} {G : Gt} {Y : MD} {pc : Nat} {L : List (Nat × Value)} {st : List Value} {μ μ' μ1 : Mm} {r : Rs} {Yc : MD} {ix n : Nat} {As : List Value} {Lc : List (Nat × Value)} {v : Option Value}
/-- behind a call -/
theorem zx_fin {p : Program} {e : Env} {R : Room} {s : State} {m : MethodId} {args : Array Value} {below : List Frame} {meth : Method} {c : Code} {H : Heap} {locs : List Loc} {cells slots mc ms : Nat} {ls : Array Slot} {st0 : List Value} {a : Array Value} {Q : State → Prop}
    (hr : va_Run p l e R s m args below meth c H locs cells slots mc ms (F0 m pc ls st0) st (QcE G (.inl v) μ1 a) (fun q => G.1.heap.size ≤ q)) (h2 : s.heap.size ≤ H.size) (h3 : ∀ q ∈ locs, G.1.heap.size ≤ q.base)
    (kk : ∀ (H1 : Heap) (locs1 : List Loc), Sim G μ1 H1 → s.heap.size ≤ H1.size → (∀ q ∈ locs1, G.1.heap.size ≤ q.base) → W p l e R s m args below meth c H1 locs1 (cells + mc) (slots + ms) Q (F0 m (pc + 3) ls (v.toList ++ st))) : W p l e R s m args below meth c H locs cells slots Q (F0 m pc ls st0) := by
  intro T hT X
  obtain ⟨v', st₀, t, T', L9, h0, X', hL, e1, e2, ⟨v'', hv, ho, hsim, hsz⟩, hst⟩ := hr T hT X
  cases hv
  cases ho
  obtain ⟨t2, a1, b1⟩ := kk T'.heap (locs ++ L9) (by rw [e1]; exact hsim) (by rw [e1]; rw [h0] at hsz; omega) (fun q hq => by
    rcases List.mem_append.mp hq with h | h
    · exact h3 q h
    · exact hL q h) T' rfl X'
  exact ⟨t2, hst t2 a1, b1⟩
theorem MF.len {Y : MD} {n : Nat} (mf : MF Y n) : ∀ sig, parseMethodDescriptor Y.y.desc = some sig → n = sig.parameters.length := fun sig h => by
  obtain ⟨-, -, -, -, h2, -⟩ := mf
  rw [h] at h2
  exact (Option.some.inj h2).symm
theorem MF.ws {Y : MD} {n : Nat} {s : State} (mf : MF Y n) (hG : Gok l G) (hW : G.1.WarmedH s.vm) : ∀ w ∈ Y.ws, ∀ (a' : Array Value) (U : State), s.WarmedH U.vm → w.before a' U = true := fun w hw a' U hU => by
  rw [List.mem_singleton.mp hw]
  exact zw hG (State.WarmedH.trans hW hU) mf.1 rfl a'
theorem zx_callB {R : Room} {s : State} {args : Array Value} {mc ms : Nat} (hG : Gok l G) (hW : G.1.WarmedH s.vm) (mf : MF Yc n) (hl : Cond.methodLink Y.own ix Yc.y ∈ lw_tbl) (hR : Yc.fr + 1 ≤ R.frames ∧ 8 + (Yc.maxL + 11) + Yc.lo ≤ R.locals) : CallB R s args Y.own ix Yc.y Yc.cc Yc.maxL Yc.ret Yc.ws (Yc.rm mc ms) mc ms n :=
  ⟨rfl, rfl, hR.1, hR.2, mf.ws hG hW, List.mem_singleton.mpr rfl, zw hG hW mf.1 rfl args, zw hG hW mf.2.1 rfl args, mf.2.2.2.1, mf.len, zw hG hW hl rfl args⟩
theorem zx_callNB {R : Room} {s : State} {args : Array Value} {mc ms : Nat} {h : String} (hG : Gok l G) (hW : G.1.WarmedH s.vm) (mf : MF Yc n) (hl : Cond.methodLinkNest Y.own ix Yc.y h ∈ lw_tbl) (hR : Yc.fr + 1 ≤ R.frames ∧ 8 + (Yc.maxL + 11) + Yc.lo ≤ R.locals) : va_CN R s args Y.own ix Yc.y h Yc.cc Yc.maxL Yc.ret Yc.ws (Yc.rm mc ms) mc ms n :=
  ⟨⟨rfl, rfl, hR.1, hR.2, mf.ws hG hW, List.mem_singleton.mpr rfl⟩, zw hG hW mf.1 rfl args, zw hG hW mf.2.1 rfl args, mf.2.2.2.1, mf.len, va_Nw.use rfl (zwN hG hW hl)⟩
theorem zx_callV {ci b : Nat} (hG : Gok l G) (mf : MF Yc n) (cs : CVs Y.own ix Yc ci) (hk : mK μ b = 100 + ci) (hR : Yc.fr + 1 ≤ Y.fr ∧ 8 + (Yc.maxL + 11) + Yc.lo ≤ Y.lo) (hA : As.length = n) (hLc : lv_args 0 (.ref b :: As) = Lc) (hn : (lg_sl (.ref b :: As)).length ≤ Yc.maxL) (hz : ZX l G Yc 0 Lc [] μ (.inl v) μ1) (hcat : (st.map fun v => v.category).sum ≤ 8) (d : decode Y.cc pc = .ok (.invokevirtual ix, 3)) (kk : ZX l G Y (pc + 3) L (v.toList ++ st) μ1 r μ') :
    ZX l G Y pc L (As.reverse ++ .ref b :: st) μ r μ' := by
  obtain ⟨⟨z1, z2⟩, z3⟩ := id hz
  obtain ⟨⟨y1, y2⟩, y3⟩ := id kk
  refine ⟨⟨Nat.le_trans z1 y1, Nat.le_trans z2 y2⟩, fun p e R s m args below meth c H locs cells slots ls C h1 h2 h3 h4 h5 hl => ?_⟩
  obtain ⟨hx, hb, hml, hown, hret, hlk, hW, hfr, hlo, -⟩ := id C
  obtain ⟨c1, c2, c3, rr, c4, c5⟩ := cs
  obtain ⟨r9, g1, cell, q1, q2, q3, q4⟩ := (zOk_obj hk).mp (h1.zo (a := b) (by omega) (by omega)).1
  cases Option.some.inj (g1.symm.trans c4)
  have hcl : s.vm.findClass Yc.y.cls = some cell.cls := by rw [q2, ← c5]; exact ((hG.K hW).1 ci _ c4).2.1
  refine zx_fin (va_runV (Ts := []) (own := Y.own) (As := As) (rest := st) (C := Yc.y.cls) (b := b) ⟨hx, hb, hml, hown, fun w hw => nomatch hw⟩ (zx_metN mf.2.2.1 mf.2.2.2.2.2 hLc hn hz) ⟨zx_callB hG hW mf c1 (by rw [hfr, hlo]; exact hR), zw hG hW c2 rfl args, zw hG hW c3 rfl args⟩ ⟨PcE.blind, ⟨cell, q1, by rw [q3]; rfl, hcl⟩, (PcE.pre hW h1).2⟩ rfl hA hl.1 rfl (lv_room hcat) d ⟨by omega, by omega⟩) h2 h3 fun H1 locs1 k1 k2 k3 => ?_
  exact y3 p e R s m args below meth c H1 locs1 _ _ ls C k1 k2 k3 (by omega) (by omega) hl
theorem zx_callS (hG : Gok l G) (mf : MF Yc n) (cs : CSs Y.own ix Yc) (hR : Yc.fr + 1 ≤ Y.fr ∧ 8 + (Yc.maxL + 11) + Yc.lo ≤ Y.lo) (hA : As.length = n) (hLc : lv_args 0 As = Lc) (hn : (lg_sl As).length ≤ Yc.maxL) (hz : ZX l G Yc 0 Lc [] μ (.inl v) μ1) (hcat : (st.map fun v => v.category).sum ≤ 8) (d : decode Y.cc pc = .ok (.invokestatic ix, 3)) (kk : ZX l G Y (pc + 3) L (v.toList ++ st) μ1 r μ') :
    ZX l G Y pc L (As.reverse ++ st) μ r μ' := by
  obtain ⟨⟨z1, z2⟩, z3⟩ := id hz
  obtain ⟨⟨y1, y2⟩, y3⟩ := id kk
  refine ⟨⟨Nat.le_trans z1 y1, Nat.le_trans z2 y2⟩, fun p e R s m args below meth c H locs cells slots ls C h1 h2 h3 h4 h5 hl => ?_⟩
  obtain ⟨hx, hb, hml, hown, hret, hlk, hW, hfr, hlo, -⟩ := id C
  obtain ⟨c1, c2⟩ := cs
  refine zx_fin (va_runS (Ts := []) (own := Y.own) (As := As) (rest := st) ⟨hx, hb, hml, hown, fun w hw => nomatch hw⟩ (zx_metN mf.2.2.1 mf.2.2.2.2.2 hLc hn hz) ⟨zx_callB hG hW mf c1 (by rw [hfr, hlo]; exact hR), zw hG hW c2 rfl args⟩ (PcE.pre hW h1) rfl hA hl.1 rfl (lv_room hcat) d ⟨by omega, by omega⟩) h2 h3 fun H1 locs1 k1 k2 k3 => ?_
  exact y3 p e R s m args below meth c H1 locs1 _ _ ls C k1 k2 k3 (by omega) (by omega) hl
theorem zx_callSN {h : String} (hG : Gok l G) (mf : MF Yc n) (cs : CNs Y.own ix Yc h) (hR : Yc.fr + 1 ≤ Y.fr ∧ 8 + (Yc.maxL + 11) + Yc.lo ≤ Y.lo) (hA : As.length = n) (hLc : lv_args 0 As = Lc) (hn : (lg_sl As).length ≤ Yc.maxL) (hz : ZX l G Yc 0 Lc [] μ (.inl v) μ1) (hcat : (st.map fun v => v.category).sum ≤ 8) (d : decode Y.cc pc = .ok (.invokestatic ix, 3)) (kk : ZX l G Y (pc + 3) L (v.toList ++ st) μ1 r μ') :
    ZX l G Y pc L (As.reverse ++ st) μ r μ' := by
  obtain ⟨⟨z1, z2⟩, z3⟩ := id hz
  obtain ⟨⟨y1, y2⟩, y3⟩ := id kk
  refine ⟨⟨Nat.le_trans z1 y1, Nat.le_trans z2 y2⟩, fun p e R s m args below meth c H locs cells slots ls C h1 h2 h3 h4 h5 hl => ?_⟩
  obtain ⟨hx, hb, hml, hown, hret, hlk, hW, hfr, hlo, -⟩ := id C
  obtain ⟨c1, c2⟩ := cs
  refine zx_fin (va_runSN (Ts := []) (own := Y.own) (As := As) (rest := st) ⟨hx, hb, hml, hown, fun w hw => nomatch hw⟩ (zx_metN mf.2.2.1 mf.2.2.2.2.2 hLc hn hz) ⟨zx_callNB hG hW mf c1 (by rw [hfr, hlo]; exact hR), zw hG hW c2 rfl args, trivial⟩ (PcE.pre hW h1) rfl hA hl.1 rfl (lv_room hcat) d ⟨by omega, by omega⟩) h2 h3 fun H1 locs1 k1 k2 k3 => ?_
  exact y3 p e R s m args below meth c H1 locs1 _ _ ls C k1 k2 k3 (by omega) (by omega) hl
theorem zx_callI {b : Nat} (hG : Gok l G) (mf : MF Yc n) (cs : CIs Y.own ix Yc) (hR : Yc.fr + 1 ≤ Y.fr ∧ 8 + (Yc.maxL + 11) + Yc.lo ≤ Y.lo) (hA : As.length = n) (hLc : lv_args 0 (.ref b :: As) = Lc) (hn : (lg_sl (.ref b :: As)).length ≤ Yc.maxL) (hz : ZX l G Yc 0 Lc [] μ (.inl none) μ1) (hcat : (st.map fun v => v.category).sum ≤ 8) (d : decode Y.cc pc = .ok (.invokespecial ix, 3)) (kk : ZX l G Y (pc + 3) L st μ1 r μ') :
    ZX l G Y pc L (As.reverse ++ .ref b :: st) μ r μ' := by
  obtain ⟨⟨z1, z2⟩, z3⟩ := id hz
  obtain ⟨⟨y1, y2⟩, y3⟩ := id kk
  refine ⟨⟨Nat.le_trans z1 y1, Nat.le_trans z2 y2⟩, fun p e R s m args below meth c H locs cells slots ls C h1 h2 h3 h4 h5 hl => ?_⟩
  obtain ⟨hx, hb, hml, hown, hret, hlk, hW, hfr, hlo, -⟩ := id C
  obtain ⟨c1, c2, c3, c4⟩ := cs
  have cb : CallB R s args Y.own ix Yc.y Yc.cc Yc.maxL Yc.ret Yc.ws (Yc.rm (mN μ1 - mN μ) (mS μ1 - mS μ)) (mN μ1 - mN μ) (mS μ1 - mS μ) n := zx_callB hG hW mf c1 (by rw [hfr, hlo]; exact hR)
  rw [c4] at cb
  refine zx_fin (va_runI (Ts := []) (own := Y.own) (As := As) (rest := st) (b := b) ⟨hx, hb, hml, hown, fun w hw => nomatch hw⟩ (zx_metN mf.2.2.1 mf.2.2.2.2.2 hLc hn hz) ⟨cb, c3, zw hG hW c2 rfl args⟩ (PcE.pre hW h1) rfl hA hl.1 rfl (lv_room hcat) d ⟨by omega, by omega⟩) h2 h3 fun H1 locs1 k1 k2 k3 => ?_
  exact y3 p e R s m args below meth c H1 locs1 _ _ ls C k1 k2 k3 (by omega) (by omega) hl
theorem zx_callIN {b : Nat} {h : String} (hG : Gok l G) (mf : MF Yc n) (cs : CJs Y.own ix Yc h) (hR : Yc.fr + 1 ≤ Y.fr ∧ 8 + (Yc.maxL + 11) + Yc.lo ≤ Y.lo) (hA : As.length = n) (hLc : lv_args 0 (.ref b :: As) = Lc) (hn : (lg_sl (.ref b :: As)).length ≤ Yc.maxL) (hz : ZX l G Yc 0 Lc [] μ (.inl none) μ1) (hcat : (st.map fun v => v.category).sum ≤ 8) (d : decode Y.cc pc = .ok (.invokespecial ix, 3)) (kk : ZX l G Y (pc + 3) L st μ1 r μ') :
    ZX l G Y pc L (As.reverse ++ .ref b :: st) μ r μ' := by
  obtain ⟨⟨z1, z2⟩, z3⟩ := id hz
  obtain ⟨⟨y1, y2⟩, y3⟩ := id kk
  refine ⟨⟨Nat.le_trans z1 y1, Nat.le_trans z2 y2⟩, fun p e R s m args below meth c H locs cells slots ls C h1 h2 h3 h4 h5 hl => ?_⟩
  obtain ⟨hx, hb, hml, hown, hret, hlk, hW, hfr, hlo, -⟩ := id C
  obtain ⟨c1, c2, c3, c4⟩ := cs
  have cb : va_CN R s args Y.own ix Yc.y h Yc.cc Yc.maxL Yc.ret Yc.ws (Yc.rm (mN μ1 - mN μ) (mS μ1 - mS μ)) (mN μ1 - mN μ) (mS μ1 - mS μ) n := zx_callNB hG hW mf c1 (by rw [hfr, hlo]; exact hR)
  rw [c4] at cb
  refine zx_fin (va_runIN (Ts := []) (own := Y.own) (As := As) (rest := st) (b := b) ⟨hx, hb, hml, hown, fun w hw => nomatch hw⟩ (zx_metN mf.2.2.1 mf.2.2.2.2.2 hLc hn hz) ⟨cb, c3, zw hG hW c2 rfl args⟩ (PcE.pre hW h1) rfl hA hl.1 rfl (lv_room hcat) d ⟨by omega, by omega⟩) h2 h3 fun H1 locs1 k1 k2 k3 => ?_
  exact y3 p e R s m args below meth c H1 locs1 _ _ ls C k1 k2 k3 (by omega) (by omega) hl
end ZXC
