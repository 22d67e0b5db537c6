/-! the law's own methods with tables of handlers -/
def QW (G : Gt) (WP : Value → Mm → Prop) : Array Value → State → Outcome → State → Prop := fun _ st o t => ∃ (v : Value) (μ2 : Mm), o = .returned (some v) ∧ WP v μ2 ∧ Sim G μ2 t.heap ∧ st.heap.size ≤ t.heap.size
def NoX : String → State → State → Prop := fun _ _ _ => False
abbrev WQ (G : Gt) (WP : Value → Mm → Prop) (below : List Frame) (args : Array Value) (s : State) (R : Room) : State → Prop := vx_MQ below (QW G WP) NoX args s R.cells R.slots (FREE G)
/-- what the tables say of such a method -/
def MW (Y : MD) (hh : List (Nat × Nat × Nat × Nat)) (n : Nat) : Prop := Cond.codeWith Y.y Y.cc Y.maxL Y.ret hh ∈ lw_tbl ∧ Cond.initialized Y.y.cls ∈ lw_tbl ∧ plainName Y.y.cls = true ∧ (Y.y.cls ≠ "java/lang/invoke/MethodHandle" ∧ Y.y.cls ≠ "java/lang/invoke/VarHandle") ∧ (parseMethodDescriptor Y.y.desc).map (fun d => d.parameters.length) = some n ∧ Y.y.cls = Y.own
theorem MW.of {Y : MD} {hh : List (Nat × Nat × Nat × Nat)} {n : Nat} (i j : Nat) (h1 : lw_tbl[i]? = some (Cond.codeWith Y.y Y.cc Y.maxL Y.ret hh)) (h2 : lw_tbl[j]? = some (Cond.initialized Y.y.cls)) (h3 : plainName Y.y.cls = true) (h4 : Y.y.cls ≠ "java/lang/invoke/MethodHandle" ∧ Y.y.cls ≠ "java/lang/invoke/VarHandle") (h5 : (parseMethodDescriptor Y.y.desc).map (fun d => d.parameters.length) = some n) (h6 : Y.y.cls = Y.own) : MW Y hh n := ⟨List.mem_of_getElem? h1, List.mem_of_getElem? h2, h3, h4, h5, h6⟩
abbrev MD.wsH (Y : MD) (hh : List (Nat × Nat × Nat × Nat)) : List Jvm.Cond := [Cond.codeWith Y.y Y.cc Y.maxL Y.ret hh]
theorem MW.len {Y : MD} {hh : List (Nat × Nat × Nat × Nat)} {n : Nat} (mf : MW Y hh n) : ∀ sig, parseMethodDescriptor Y.y.desc = some sig → n = sig.parameters.length := fun sig h => by
  obtain ⟨-, -, -, -, h2, -⟩ := mf
  rw [h] at h2
  exact (Option.some.inj h2).symm
/-- the walk of such a body gives its contract -/
theorem wx_met {l : Launch} {G : Gt} {Y : MD} {hh : List (Nat × Nat × Nat × Nat)} {n mc ms : Nat} {vs : List Value} {L : List (Nat × Value)} {μ : Mm} {WP : Value → Mm → Prop} (mw : MW Y hh n) (hL : lv_args 0 vs = L) (hn : (lg_sl vs).length ≤ Y.maxL)
    (h : ∀ (p : Program) (e : Env) (R : Room) (s : State) (m : MethodId) (args : Array Value) (below : List Frame) (meth : Method) (c : Code), CW G Y p R s m meth c → c.exceptionTable.toList = tableOf hh → LJ l G Y p e R s m args below meth c (WQ G WP below args s R) 0 L [] μ mc ms) :
    Met l Y.y (Y.wsH hh) (Y.rm mc ms) (PcE G vs μ) (QW G WP) mc ms (FREE G) := by
  have h1 : vx_Met l Y.y (Y.wsH hh) (Y.rm mc ms) (PcE G vs μ) (QW G WP) NoX mc ms (FREE G) := by
    refine vx_ofWH (cc := Y.cc) (maxL := Y.maxL) (ret := Y.ret) (hh := hh) mw.2.2.1 rfl ?_
    intro p e s m args below meth c s₁ B hml hv
    obtain ⟨rfl, hsim, hw, hsz⟩ := hv
    rw [lg_entry_eq]
    have hl := lv_entry vs (n := Y.maxL) hn
    rw [hL] at hl
    refine h p e _ s m _ below meth c ⟨B.exec, B.bytes, hml, ?_, B.returns, B.notSynchronized, hw, rfl, rfl⟩ (vx_table (x := Y.y) B (atoms_spec (ws := Y.wsH hh) B.pre _ (List.mem_singleton.mpr rfl))) s.heap [] 0 0 _ hsim (Nat.le_refl _) (fun q hq => nomatch hq) (Nat.le_of_eq (Nat.zero_add _)) (Nat.le_of_eq (Nat.zero_add _)) hl
    rw [← mw.2.2.2.2.2]
    exact findClass_of_methodNamed B.named
  refine MetFree.mono h1 (fun _ _ q => q) (fun _ _ _ _ _ q => q) (fun a st o t _ hq => ?_)
  rcases hq with hq | ⟨q, rfl, E, ce, L9, hx, -⟩
  · exact hq
  · exact absurd hx id
/-- .. of one without handlers -/
theorem wx_metC {l : Launch} {G : Gt} {Y : MD} {n mc ms : Nat} {vs : List Value} {L : List (Nat × Value)} {μ : Mm} {WP : Value → Mm → Prop} (mf : MF Y n) (hL : lv_args 0 vs = L) (hn : (lg_sl vs).length ≤ Y.maxL)
    (h : ∀ (p : Program) (e : Env) (R : Room) (s : State) (m : MethodId) (args : Array Value) (below : List Frame) (meth : Method) (c : Code), CW G Y p R s m meth c → LJ l G Y p e R s m args below meth c (WQ G WP below args s R) 0 L [] μ mc ms) :
    Met l Y.y Y.ws (Y.rm mc ms) (PcE G vs μ) (QW G WP) mc ms (FREE G) := by
  have h1 : vx_Met l Y.y Y.ws (Y.rm mc ms) (PcE G vs μ) (QW G WP) NoX mc ms (FREE G) := by
    refine zx_ofW (cc := Y.cc) (maxL := Y.maxL) (ret := Y.ret) mf.2.2.1 rfl ?_
    intro p e s m args below meth c s₁ B hml ht hv
    obtain ⟨rfl, hsim, hw, hsz⟩ := hv
    rw [lg_entry_eq]
    have hl := lv_entry vs (n := Y.maxL) hn
    rw [hL] at hl
    refine h p e _ s m _ below meth c ⟨B.exec, B.bytes, hml, ?_, B.returns, B.notSynchronized, hw, rfl, rfl⟩ s.heap [] 0 0 _ hsim (Nat.le_refl _) (fun q hq => nomatch hq) (Nat.le_of_eq (Nat.zero_add _)) (Nat.le_of_eq (Nat.zero_add _)) hl
    rw [← mf.2.2.2.2.2]
    exact findClass_of_methodNamed B.named
  refine MetFree.mono h1 (fun _ _ q => q) (fun _ _ _ _ _ q => q) (fun a st o t _ hq => ?_)
  rcases hq with hq | ⟨q, rfl, E, ce, L9, hx, -⟩
  · exact hq
  · exact absurd hx id
section LJW
variable {l : Launch} {G : Gt} {Y : MD} {p : Program} {e : Env} {R : Room} {s : State} {m : MethodId} {args : Array Value} {below : List Frame} {meth : Method} {c : Code} {Q : State → Prop} {pc : Nat} {L : List (Nat × Value)} {st : List Value} {μ μ1 : Mm} {c1 s1 c2 s2 : Nat} {WP : Value → Mm → Prop}
theorem lj_wret (C : CW G Y p R s m meth c) {v : Int32} (d : decode Y.cc pc = .ok (.ireturn, 1)) (hr : Y.ret = some .int) (hp : WP (.int v) μ) : LJ l G Y p e R s m args below meth c (WQ G WP below args s R) pc L [.int v] μ c1 s1 := fun H locs cells slots ls h1 h2 h3 h4 h5 hl => (W.widen (k := R.cells) (n := R.slots) (by omega) (by omega) (vx_ret (W.iret C.1 C.2.1 (C.2.2.2.2.1.trans hr) (fun t ht hW => ⟨_, μ, rfl, hp, by rw [ht]; exact h1, by rw [ht]; exact h2⟩) h3 d C.2.2.2.2.2.1)))
theorem lj_wlret (C : CW G Y p R s m meth c) {v : Int64} (d : decode Y.cc pc = .ok (.lreturn, 1)) (hr : Y.ret = some .long) (hp : WP (.long v) μ) : LJ l G Y p e R s m args below meth c (WQ G WP below args s R) pc L [.long v] μ c1 s1 := fun H locs cells slots ls h1 h2 h3 h4 h5 hl => (W.widen (k := R.cells) (n := R.slots) (by omega) (by omega) (vx_ret (W.lret C.1 C.2.1 (C.2.2.2.2.1.trans hr) (fun t ht hW => ⟨_, μ, rfl, hp, by rw [ht]; exact h1, by rw [ht]; exact h2⟩) h3 d C.2.2.2.2.2.1)))
theorem lj_wfret (C : CW G Y p R s m meth c) {v : UInt32} (d : decode Y.cc pc = .ok (.freturn, 1)) (hr : Y.ret = some .float) (hp : WP (.float v) μ) : LJ l G Y p e R s m args below meth c (WQ G WP below args s R) pc L [.float v] μ c1 s1 := fun H locs cells slots ls h1 h2 h3 h4 h5 hl => (W.widen (k := R.cells) (n := R.slots) (by omega) (by omega) (vx_ret (W.fret C.1 C.2.1 (C.2.2.2.2.1.trans hr) (fun t ht hW => ⟨_, μ, rfl, hp, by rw [ht]; exact h1, by rw [ht]; exact h2⟩) h3 d C.2.2.2.2.2.1)))
/-- the law calls one of them -/
theorem lj_callW {Yc : MD} {ix n mc ms : Nat} {hh : List (Nat × Nat × Nat × Nat)} {As : List Value} (C : CW G Y p R s m meth c) (hG : Gok l G) (mw : MW Yc hh n) (cs : CSs Y.own ix Yc) (hR : Yc.fr + 1 ≤ Y.fr ∧ 8 + (Yc.maxL + 11) + Yc.lo ≤ Y.lo) (hA : As.length = n) (hM : Met l Yc.y (Yc.wsH hh) (Yc.rm mc ms) (PcE G As μ) (QW G WP) mc ms (FREE G)) (hcat : (st.map fun v => v.category).sum ≤ 8) (d : decode Y.cc pc = .ok (.invokestatic ix, 3)) (hc : mc + c2 ≤ c1) (hs : ms + s2 ≤ s1)
    (kk : ∀ v μ2, WP v μ2 → LJ l G Y p e R s m args below meth c Q (pc + 3) L (v :: st) μ2 c2 s2) : LJ l G Y p e R s m args below meth c Q pc L (As.reverse ++ st) μ c1 s1 := fun H locs cells slots ls h1 h2 h3 h4 h5 hl => by
  obtain ⟨hx, hb, hml, hown, hret, hlk, hW, hfr, hlo⟩ := id C
  obtain ⟨d1, d2⟩ := cs
  have hws : ∀ w ∈ Yc.wsH hh, ∀ (a' : Array Value) (U : State), s.WarmedH U.vm → w.before a' U = true := fun w hw a' U hU => by
    rw [List.mem_singleton.mp hw]
    exact zw hG (State.WarmedH.trans hW hU) mw.1 rfl a'
  have hr := vx_runSW (p := p) (e := e) (R := R) (below := below) (meth := meth) (H := H) (locs := locs) (cells := cells) (slots := slots) (g := F0 m pc ls (As.reverse ++ st)) (Ts := []) (own := Y.own) (As := As) (rest := st) ⟨hx, hb, hml, hown, fun w hw => nomatch hw⟩ hM
    ⟨⟨rfl, rfl, by rw [hfr]; exact hR.1, by rw [hlo]; exact hR.2, hws, List.mem_singleton.mpr rfl⟩, zw hG hW mw.1 rfl args, zw hG hW mw.2.1 rfl args, mw.2.2.2.1, mw.len, zw hG hW d1 rfl args, zw hG hW d2 rfl args⟩ (PcE.pre hW h1) rfl hA hl.1 rfl (lv_room hcat) d ⟨by omega, by omega⟩
  intro T hT X
  obtain ⟨v', st₀, t, T', L9, h0, X', hL, e1, e2, ⟨v, μ2, ho, hwp, hsim, hsz⟩, hst⟩ := hr T hT X
  cases ho
  obtain ⟨t2, a1, b1⟩ := kk v μ2 hwp T'.heap (locs ++ L9) _ _ ls (by rw [e1]; exact hsim) (by rw [e1]; rw [h0] at hsz; omega) (fun q hq => by
    rcases List.mem_append.mp hq with h | h
    · exact h3 q h
    · exact hL q h) (by omega) (by omega) hl T' rfl X'
  exact ⟨t2, hst t2 a1, b1⟩
theorem lj_callC {Yc : MD} {ix n mc ms : Nat} {As : List Value} (C : CW G Y p R s m meth c) (hG : Gok l G) (mf : MF Yc n) (cs : CSs Y.own ix Yc) (hR : Yc.fr + 1 ≤ Y.fr ∧ 8 + (Yc.maxL + 11) + Yc.lo ≤ Y.lo) (hA : As.length = n) (hM : Met l Yc.y Yc.ws (Yc.rm mc ms) (PcE G As μ) (QW G WP) mc ms (FREE G)) (hcat : (st.map fun v => v.category).sum ≤ 8) (d : decode Y.cc pc = .ok (.invokestatic ix, 3)) (hc : mc + c2 ≤ c1) (hs : ms + s2 ≤ s1)
    (kk : ∀ v μ2, WP v μ2 → LJ l G Y p e R s m args below meth c Q (pc + 3) L (v :: st) μ2 c2 s2) : LJ l G Y p e R s m args below meth c Q pc L (As.reverse ++ st) μ c1 s1 := fun H locs cells slots ls h1 h2 h3 h4 h5 hl => by
  obtain ⟨hx, hb, hml, hown, hret, hlk, hW, hfr, hlo⟩ := id C
  obtain ⟨d1, d2⟩ := cs
  have hr := va_runS (p := p) (e := e) (R := R) (below := below) (meth := meth) (H := H) (locs := locs) (cells := cells) (slots := slots) (g := F0 m pc ls (As.reverse ++ st)) (Ts := []) (own := Y.own) (As := As) (rest := st) ⟨hx, hb, hml, hown, fun w hw => nomatch hw⟩ hM ⟨zx_callB hG hW mf d1 (by rw [hfr, hlo]; exact hR), zw hG hW d2 rfl args⟩ (PcE.pre hW h1) rfl hA hl.1 rfl (lv_room hcat) d ⟨by omega, by omega⟩
  intro T hT X
  obtain ⟨v', st₀, t, T', L9, h0, X', hL, e1, e2, ⟨v, μ2, ho, hwp, hsim, hsz⟩, hst⟩ := hr T hT X
  cases ho
  obtain ⟨t2, a1, b1⟩ := kk v μ2 hwp T'.heap (locs ++ L9) _ _ ls (by rw [e1]; exact hsim) (by rw [e1]; rw [h0] at hsz; omega) (fun q hq => by
    rcases List.mem_append.mp hq with h | h
    · exact h3 q h
    · exact hL q h) (by omega) (by omega) hl T' rfl X'
  exact ⟨t2, hst t2 a1, b1⟩
end LJW
