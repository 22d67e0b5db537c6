/-! rows: statics, String constants, the two String methods, getClass, class constants, throws -/
section ZXJ
variable {l : Launch} {G : Gt} {Y : MD} {pc : Nat} {L : List (Nat × Value)} {st : List Value} {μ μ' : Mm} {r : Rs}
theorem CX.vS {p : Program} {R : Room} {s : State} {m : MethodId} {meth : Method} {c : Code} {H : Heap} {locs : List Loc} (C : CX G Y p R s m meth c) (h1 : Sim G μ H) (h2 : s.heap.size ≤ H.size) (h3 : ∀ q ∈ locs, G.1.heap.size ≤ q.base) : va_S (fun q => G.1.heap.size ≤ q) s.heap H locs := by
  obtain ⟨hx, hb, hml, hown, hret, hlk, hW, hfr, hlo, ht, hin, hs1, hs2⟩ := C
  refine ⟨h2, fun q hq hn => ?_, h3⟩
  have hn2 : ¬ G.1.heap.size ≤ q := hn
  rw [h1.1.2 q (by omega), hs2 q (by omega)]
theorem CX.kept {p : Program} {R : Room} {s : State} {m : MethodId} {meth : Method} {c : Code} (C : CX G Y p R s m meth c) : ∀ a : Nat, a < G.1.heap.size → ¬ (fun q => G.1.heap.size ≤ q) a → s.heap[a]? = G.1.heap[a]? := by
  obtain ⟨hx, hb, hml, hown, hret, hlk, hW, hfr, hlo, ht, hin, hs1, hs2⟩ := C
  exact fun q hq _ => hs2 q hq
theorem zx_gets {C n d : String} {v : Value} {ix : Nat} (hG : Gok l G) (hZ : va_Z C n d v (fun q => G.1.heap.size ≤ q) G.1 G.1.heap) (hw : Cond.fieldLink Y.own ix C n d ∈ lw_tbl) (dd : decode Y.cc pc = .ok (.getstatic ix, 3)) (kk : ZX l G Y (pc + 3) L (v :: st) μ r μ') : ZX l G Y pc L st μ r μ' := by
  refine ⟨kk.1, fun p e R s m args below meth c H locs cells slots ls C h1 h2 h3 h4 h5 hl => ?_⟩
  have k2 := kk.2 p e R s m args below meth c H locs cells slots ls C h1 h2 h3 h4 h5 hl
  have hS := C.vS h1 h2 h3
  have hk := C.kept
  obtain ⟨hx, hb, hml, hown, hret, hlk, hW, C9⟩ := id C
  exact va_gets hx hb ((hZ.moved hW.alike).kept hk) hS hown (zw hG hW hw rfl args) (fun _ h => h) dd k2
theorem zx_getsD {b : Nat} (hG : Gok l G) (h : mR μ 0 0 = some b) (hY : Y.own = "java/util/ArrayList") (d : decode Y.cc pc = .ok (.getstatic 39, 3)) (kk : ZX l G Y (pc + 3) L (.ref b :: st) μ r μ') : ZX l G Y pc L st μ r μ' := by
  refine ⟨kk.1, fun p e9 R s m args below meth c H locs cells slots ls C h1 h2 h3 h4 h5 hl => ?_⟩
  have e : b = G.2.2.2 0 := Option.some.inj (h.symm.trans (h1.1.1.2.1 0 (by decide)))
  have hw : Cond.fieldLink Y.own 39 "java/util/ArrayList" "DEFAULTCAPACITY_EMPTY_ELEMENTDATA" "[Ljava/lang/Object;" ∈ lw_tbl := by
    rw [hY]
    exact List.mem_of_getElem? (i := 95) (by decide +kernel)
  have k2 := zx_gets hG hG.2.2.2.2.1.1 hw d (by rw [← e]; exact kk)
  exact k2.2 p e9 R s m args below meth c H locs cells slots ls C h1 h2 h3 h4 h5 hl

theorem zx_getOF {o n d : String} {v : Value} {q ix : Nat} (hG : Gok l G) (hE : va_OF o n d v q (fun q => G.1.heap.size ≤ q) G.1 G.1.heap) (hw : Cond.fieldLink Y.own ix o n d ∈ lw_tbl) (dd : decode Y.cc pc = .ok (.getfield ix, 3)) (kk : ZX l G Y (pc + 3) L (v :: st) μ r μ') : ZX l G Y pc L (.ref q :: st) μ r μ' := by
  refine ⟨kk.1, fun p e R s m args below meth c H locs cells slots ls C h1 h2 h3 h4 h5 hl => ?_⟩
  have k2 := kk.2 p e R s m args below meth c H locs cells slots ls C h1 h2 h3 h4 h5 hl
  have hS := C.vS h1 h2 h3
  have hk := C.kept
  obtain ⟨hx, hb, hml, hown, hret, hlk, hW, C9⟩ := id C
  exact vk_getf hx hb ((hE.moved hW.alike).kept hk) hS hown (zw hG hW hw rfl args) (fun _ h => h) dd k2
theorem zx_tlen {ty : FieldType} {t N : Nat} {f : Nat → Value} {v : Int32} (hT : va_T ty t N f (fun q => G.1.heap.size ≤ q) G.1 G.1.heap) (hv : Int32.ofNat N = v) (dd : decode Y.cc pc = .ok (.arraylength, 1)) (kk : ZX l G Y (pc + 1) L (.int v :: st) μ r μ') : ZX l G Y pc L (.ref t :: st) μ r μ' := by
  refine ⟨kk.1, fun p e R s m args below meth c H locs cells slots ls C h1 h2 h3 h4 h5 hl => ?_⟩
  have k2 := kk.2 p e R s m args below meth c H locs cells slots ls C h1 h2 h3 h4 h5 hl
  have hS := C.vS h1 h2 h3
  have hk := C.kept
  obtain ⟨hx, hb, hml, hown, hret, hlk, hW, C9⟩ := id C
  exact va_tlen hx hb ((hT.moved hW.alike).kept hk) hS hv dd k2
theorem zx_tb {t N : Nat} {f : Nat → Value} {i : Int32} {v : Value} (hT : va_T .byte t N f (fun q => G.1.heap.size ≤ q) G.1 G.1.heap) (hin : vp_in i N) (hv : f i.toNatClampNeg = v) (dd : decode Y.cc pc = .ok (.baload, 1)) (kk : ZX l G Y (pc + 1) L (v :: st) μ r μ') : ZX l G Y pc L (.int i :: .ref t :: st) μ r μ' := by
  refine ⟨kk.1, fun p e R s m args below meth c H locs cells slots ls C h1 h2 h3 h4 h5 hl => ?_⟩
  have k2 := kk.2 p e R s m args below meth c H locs cells slots ls C h1 h2 h3 h4 h5 hl
  have hS := C.vS h1 h2 h3
  have hk := C.kept
  obtain ⟨hx, hb, hml, hown, hret, hlk, hW, C9⟩ := id C
  exact va_tb hx hb ((hT.moved hW.alike).kept hk) hS hin hv dd k2
theorem zx_ldcS {own : String} {k q : Nat} {tx : String} (hR : vk_R own k tx q G.1) (hY : Y.own = own) (d : decode Y.cc pc = .ok (.ldc k, 2)) (kk : ZX l G Y (pc + 2) L (.ref q :: st) μ r μ') : ZX l G Y pc L st μ r μ' := by
  refine ⟨kk.1, fun p e R s m args below meth c H locs cells slots ls C h1 h2 h3 h4 h5 hl => ?_⟩
  have k2 := kk.2 p e R s m args below meth c H locs cells slots ls C h1 h2 h3 h4 h5 hl
  obtain ⟨hx, hb, hml, hown, hret, hlk, hW, C9⟩ := id C
  exact va_ldcS hx hb hown (by rw [hY]; exact hR.warm hW) d k2
theorem zx_ldcW0 {p : Program} {e : Env} {R : Room} {s : State} {m : MethodId} {args : Array Value} {below : List Frame} {meth : Method} {c : Code} {T : State} {locs : List Loc} {cells slots : Nat}
    (X : Stand p l e R s m args below meth c T locs cells slots) (hexec : p.tables.exec = Jvm.exec) {own text : String} {index : Nat} {a : Addr} (hown : s.vm.findClass own = some m.cls)
    (hconst : (Cond.stringRef own index text).before args s = true) (hev : (Term.string own index).eval args s none [] s = some (.ref a)) {g : JFrame} (hg : g.method = m) (hdg : decode c.code g.pc = .ok (.ldc_w index, 3)) :
    ∀ target, Steps p.tables e below (T.setTop { g with pc := g.pc + 3, stack := .ref a :: g.stack }) target → Steps p.tables e below (T.setTop g) target := by
  obtain ⟨k, cf, i, a', hk, hcf, hcp, -, hr, hev'⟩ := Cond.stringRef_spec hown hconst
  cases hev.symm.trans hev'
  obtain ⟨k', hk', he⟩ := X.warmed.alike.2.2 _ _ hk
  have hr' : k'.resolved[index]? = some (some (.string a)) := by
    rcases X.warmed.entry hk hk' index with h | ⟨h, -⟩
    · rw [h]; exact hr
    · rw [hr] at h; cases h
  intro target hrest
  subst hg
  jvm_step X.here [hexec, hdg, ldc_w.wp_string (e := e) (s := T) (f := g) X.here.top hk' (by rw [he]; exact hcf) hcp hr']
  exact hrest
theorem zx_ldcwS {own : String} {k q : Nat} {tx : String} (hR : vk_R own k tx q G.1) (hY : Y.own = own) (d : decode Y.cc pc = .ok (.ldc_w k, 3)) (kk : ZX l G Y (pc + 3) L (.ref q :: st) μ r μ') : ZX l G Y pc L st μ r μ' := by
  refine ⟨kk.1, fun p e R s m args below meth c H locs cells slots ls C h1 h2 h3 h4 h5 hl => ?_⟩
  have k2 := kk.2 p e R s m args below meth c H locs cells slots ls C h1 h2 h3 h4 h5 hl
  obtain ⟨hx, hb, hml, hown, hret, hlk, hW, C9⟩ := id C
  have hR2 := hR.warm hW
  rw [← hY] at hR2
  intro T hT X
  obtain ⟨t, a1, b1⟩ := k2 T hT X
  exact ⟨t, zx_ldcW0 X hx hown (text := tx) (a := q) hR2.1 hR2.2 (g := F0 m pc ls st) rfl (by rw [hb]; exact d) t a1, b1⟩
theorem zx_at {b k : Nat} {pc2 : Nat} {L2 : List (Nat × Value)} {st2 : List Value} (h : mR μ 0 k = some b) (hk4 : k < 4) (kk : b = G.2.2.2 k → ZX l G Y pc2 L2 st2 μ r μ') (hmono : mN μ ≤ mN μ' ∧ mS μ ≤ mS μ') : ZX l G Y pc2 L2 st2 μ r μ' :=
  ⟨hmono, fun p e R s m args below meth c H locs cells slots ls C h1 h2 h3 h4 h5 hl => (kk (Option.some.inj (h.symm.trans (h1.1.1.2.1 k hk4)))).2 p e R s m args below meth c H locs cells slots ls C h1 h2 h3 h4 h5 hl⟩
theorem zx_ldcS1 {b : Nat} (hG : Gok l G) (h : mR μ 0 1 = some b) (d : decode Y.cc pc = .ok (.ldc_w 286, 3)) (kk : ZX l G Y (pc + 3) L (.ref b :: st) μ r μ') (hY : Y.own = "Reorderium" := by rfl) : ZX l G Y pc L st μ r μ' :=
  zx_at h (by decide) (fun e => zx_ldcwS hG.2.2.2.2.2.1.2.1 hY d (by rw [← e]; exact kk)) kk.1
theorem zx_ldcS2 {b : Nat} (hG : Gok l G) (h : mR μ 0 2 = some b) (d : decode Y.cc pc = .ok (.ldc 9, 2)) (kk : ZX l G Y (pc + 2) L (.ref b :: st) μ r μ') (hY : Y.own = "Reorderium$Counts" := by rfl) : ZX l G Y pc L st μ r μ' :=
  zx_at h (by decide) (fun e => zx_ldcS hG.2.2.2.2.2.1.2.2 hY d (by rw [← e]; exact kk)) kk.1
theorem zx_ldcM {b : Nat} (hG : Gok l G) (h : mR μ 0 3 = some b) (d : decode Y.cc pc = .ok (.ldc 110, 2)) (kk : ZX l G Y (pc + 2) L (.ref b :: st) μ r μ') (hY : Y.own = "java/util/Arrays" := by rfl) : ZX l G Y pc L st μ r μ' := by
  refine zx_at h (by decide) (fun e => ?_) kk.1
  refine ⟨kk.1, fun p e1 R s m args below meth c H locs cells slots ls C h1 h2 h3 h4 h5 hl => ?_⟩
  have k2 := kk.2 p e1 R s m args below meth c H locs cells slots ls C h1 h2 h3 h4 h5 hl
  obtain ⟨hx, hb, hml, hown, hret, hlk, hW, C9⟩ := id C
  have hw : Cond.classLink Y.own 110 "[Ljava/lang/Object;" ∈ lw_tbl := by
    rw [hY]
    exact List.mem_of_getElem? (i := 683) (by decide +kernel)
  rw [e] at k2
  exact va_ldcM hx hb hown (zw hG hW hw rfl args) (hG.2.2.2.2.2.2.moved hW.alike) d k2

theorem w_gc1 : Cond.methodLink "java/util/Arrays" 86 (⟨"java/lang/Object", "getClass", "()Ljava/lang/Class;"⟩ : MethodName) ∈ lw_tbl := List.mem_of_getElem? (i := 660) (by decide +kernel)
theorem w_gc2 : Cond.instanceMethod (⟨"java/lang/Object", "getClass", "()Ljava/lang/Class;"⟩ : MethodName) ∈ lw_tbl := List.mem_of_getElem? (i := 661) (by decide +kernel)
theorem w_gc3 : Cond.native (⟨"java/lang/Object", "getClass", "()Ljava/lang/Class;"⟩ : MethodName) ∈ lw_tbl := List.mem_of_getElem? (i := 679) (by decide +kernel)
theorem w_gc4 : Cond.selects "[Ljava/lang/Object;" (⟨"java/lang/Object", "getClass", "()Ljava/lang/Class;"⟩ : MethodName) (⟨"java/lang/Object", "getClass", "()Ljava/lang/Class;"⟩ : MethodName) ∈ lw_tbl := List.mem_of_getElem? (i := 1462) (by decide +kernel)
theorem w_gc5 : Cond.declares (⟨"java/lang/Object", "getClass", "()Ljava/lang/Class;"⟩ : MethodName) ∈ lw_tbl := List.mem_of_getElem? (i := 1463) (by decide +kernel)
theorem zwD {s : State} (hG : Gok l G) (hW : G.1.WarmedH s.vm) {x : MethodName} (hw : Cond.declares x ∈ lw_tbl) (args : Array Value) : (Cond.declares x).before args s = true := by
  obtain ⟨-, ⟨a0, h⟩, -⟩ := hG
  exact va_Nw.use rfl (va_Nw.warmD hW (va_Nw.of rfl (h _ hw)))
theorem zwC {s : State} (hG : Gok l G) (hW : G.1.WarmedH s.vm) {x y : String} (hw : Cond.castable x y ∈ lw_tbl) (args : Array Value) : (Cond.castable x y).before args s = true := by
  obtain ⟨-, ⟨a0, h⟩, -⟩ := hG
  exact va_Nw.use rfl (va_Nw.warmC hW (va_Nw.of rfl (h _ hw)))
theorem zx_getClass {a b : Nat} (hG : Gok l G) (hk : isA 6 (mK μ a)) (h : mR μ 0 3 = some b) (hR : 1 ≤ Y.fr) (hLo : 22 ≤ Y.lo) (hcat : (st.map fun v => v.category).sum ≤ 8) (d : decode Y.cc pc = .ok (.invokevirtual 86, 3)) (kk : ZX l G Y (pc + 3) L (.ref b :: st) μ r μ') (hY : Y.own = "java/util/Arrays" := by rfl) : ZX l G Y pc L (.ref a :: st) μ r μ' := by
  refine zx_at h (by decide) (fun e => ?_) kk.1
  refine ⟨kk.1, fun p e1 R s m args below meth c H locs cells slots ls C h1 h2 h3 h4 h5 hl => ?_⟩
  have k2 := kk.2 p e1 R s m args below meth c H locs cells slots ls C h1 h2 h3 h4 h5 hl
  obtain ⟨hx, hb, hml, hown, hret, hlk, hW, hfr, hlo, C9⟩ := id C
  obtain ⟨cell, hc, hcl, -, -, hst, -⟩ := h1.arrS (a := a) rfl (by omega) hk.1
  rw [hk.2] at hcl
  have e5 : s.vm.findClass "[Ljava/lang/Object;" = some (G.2.2.1 6) := by
    obtain ⟨kA, comp, r1, r2, r3, r4⟩ := ((hG.K hW).2 5 _ rfl).2
    have en : ("[" ++ (FieldType.object "java/lang/Object").toString) = "[Ljava/lang/Object;" := by decide +kernel
    rw [← en]
    exact r4
  rw [e] at k2
  refine va_getC hx hb (by rw [hml]; exact hl.1.symm) hown (by rw [hY]; exact zw hG hW w_gc1 rfl args) (zwD hG hW w_gc5 args) (zw hG hW w_gc4 rfl args) (zw hG hW w_gc2 rfl args) (zw hG hW w_gc3 rfl args) (hG.2.2.2.2.2.2.moved hW.alike) ⟨_, hc, hst, by rw [hcl]; exact e5⟩ (by omega) (by omega) d k2

end ZXJ
theorem dJ0_checkIndex_df160_0 : decode cJ0_checkIndex_df160 0 = .ok (.iload_n 0, 1) := by decide +kernel
theorem dJ0_checkIndex_df160_1 : decode cJ0_checkIndex_df160 1 = .ok (.iload_n 1, 1) := by decide +kernel
theorem dJ0_checkIndex_df160_2 : decode cJ0_checkIndex_df160 2 = .ok (.getstatic 1053, 3) := by decide +kernel
theorem dJ0_checkIndex_df160_5 : decode cJ0_checkIndex_df160 5 = .ok (.invokestatic 1059, 3) := by decide +kernel
theorem dJ0_checkIndex_df160_8 : decode cJ0_checkIndex_df160 8 = .ok (.pop, 1) := by decide +kernel
theorem dJ0_checkIndex_df160_9 : decode cJ0_checkIndex_df160 9 = .ok (.return_, 1) := by decide +kernel
theorem dJ1_charAt_3b067_0 : decode cJ1_charAt_3b067 0 = .ok (.iload_n 1, 1) := by decide +kernel
theorem dJ1_charAt_3b067_1 : decode cJ1_charAt_3b067 1 = .ok (.aload_n 0, 1) := by decide +kernel
theorem dJ1_charAt_3b067_2 : decode cJ1_charAt_3b067 2 = .ok (.arraylength, 1) := by decide +kernel
theorem dJ1_charAt_3b067_3 : decode cJ1_charAt_3b067 3 = .ok (.invokestatic 9, 3) := by decide +kernel
theorem dJ1_charAt_3b067_6 : decode cJ1_charAt_3b067 6 = .ok (.aload_n 0, 1) := by decide +kernel
theorem dJ1_charAt_3b067_7 : decode cJ1_charAt_3b067 7 = .ok (.iload_n 1, 1) := by decide +kernel
theorem dJ1_charAt_3b067_8 : decode cJ1_charAt_3b067 8 = .ok (.baload, 1) := by decide +kernel
theorem dJ1_charAt_3b067_9 : decode cJ1_charAt_3b067 9 = .ok (.sipush 255, 3) := by decide +kernel
theorem dJ1_charAt_3b067_12 : decode cJ1_charAt_3b067 12 = .ok (.iand, 1) := by decide +kernel
theorem dJ1_charAt_3b067_13 : decode cJ1_charAt_3b067 13 = .ok (.i2c, 1) := by decide +kernel
theorem dJ1_charAt_3b067_14 : decode cJ1_charAt_3b067 14 = .ok (.ireturn, 1) := by decide +kernel
theorem dJ0_isLatin1_aae02_0 : decode cJ0_isLatin1_aae02 0 = .ok (.getstatic 38, 3) := by decide +kernel
theorem dJ0_isLatin1_aae02_3 : decode cJ0_isLatin1_aae02 3 = .ok (.ifCond .eq 14, 3) := by decide +kernel
theorem dJ0_isLatin1_aae02_6 : decode cJ0_isLatin1_aae02 6 = .ok (.aload_n 0, 1) := by decide +kernel
theorem dJ0_isLatin1_aae02_7 : decode cJ0_isLatin1_aae02 7 = .ok (.getfield 15, 3) := by decide +kernel
theorem dJ0_isLatin1_aae02_10 : decode cJ0_isLatin1_aae02 10 = .ok (.ifCond .ne 7, 3) := by decide +kernel
theorem dJ0_isLatin1_aae02_13 : decode cJ0_isLatin1_aae02 13 = .ok (.iconst 1, 1) := by decide +kernel
theorem dJ0_isLatin1_aae02_14 : decode cJ0_isLatin1_aae02 14 = .ok (.goto 4, 3) := by decide +kernel
theorem dJ0_isLatin1_aae02_17 : decode cJ0_isLatin1_aae02 17 = .ok (.iconst 0, 1) := by decide +kernel
theorem dJ0_isLatin1_aae02_18 : decode cJ0_isLatin1_aae02 18 = .ok (.ireturn, 1) := by decide +kernel
theorem dJ0_charAt_5068e_0 : decode cJ0_charAt_5068e 0 = .ok (.aload_n 0, 1) := by decide +kernel
theorem dJ0_charAt_5068e_1 : decode cJ0_charAt_5068e 1 = .ok (.invokevirtual 492, 3) := by decide +kernel
theorem dJ0_charAt_5068e_4 : decode cJ0_charAt_5068e 4 = .ok (.ifCond .eq 12, 3) := by decide +kernel
theorem dJ0_charAt_5068e_7 : decode cJ0_charAt_5068e 7 = .ok (.aload_n 0, 1) := by decide +kernel
theorem dJ0_charAt_5068e_8 : decode cJ0_charAt_5068e 8 = .ok (.getfield 9, 3) := by decide +kernel
theorem dJ0_charAt_5068e_11 : decode cJ0_charAt_5068e 11 = .ok (.iload_n 1, 1) := by decide +kernel
theorem dJ0_charAt_5068e_12 : decode cJ0_charAt_5068e 12 = .ok (.invokestatic 495, 3) := by decide +kernel
theorem dJ0_charAt_5068e_15 : decode cJ0_charAt_5068e 15 = .ok (.ireturn, 1) := by decide +kernel
theorem dJ0_charAt_5068e_16 : decode cJ0_charAt_5068e 16 = .ok (.aload_n 0, 1) := by decide +kernel
theorem dJ0_charAt_5068e_17 : decode cJ0_charAt_5068e 17 = .ok (.getfield 9, 3) := by decide +kernel
theorem dJ0_charAt_5068e_20 : decode cJ0_charAt_5068e 20 = .ok (.iload_n 1, 1) := by decide +kernel
theorem dJ0_charAt_5068e_21 : decode cJ0_charAt_5068e 21 = .ok (.invokestatic 498, 3) := by decide +kernel
theorem dJ0_charAt_5068e_24 : decode cJ0_charAt_5068e 24 = .ok (.ireturn, 1) := by decide +kernel
theorem dJ0_coder_7d493_0 : decode cJ0_coder_7d493 0 = .ok (.getstatic 38, 3) := by decide +kernel
theorem dJ0_coder_7d493_3 : decode cJ0_coder_7d493 3 = .ok (.ifCond .eq 10, 3) := by decide +kernel
theorem dJ0_coder_7d493_6 : decode cJ0_coder_7d493 6 = .ok (.aload_n 0, 1) := by decide +kernel
theorem dJ0_coder_7d493_7 : decode cJ0_coder_7d493 7 = .ok (.getfield 15, 3) := by decide +kernel
theorem dJ0_coder_7d493_10 : decode cJ0_coder_7d493 10 = .ok (.goto 4, 3) := by decide +kernel
theorem dJ0_coder_7d493_13 : decode cJ0_coder_7d493 13 = .ok (.iconst 1, 1) := by decide +kernel
theorem dJ0_coder_7d493_14 : decode cJ0_coder_7d493 14 = .ok (.ireturn, 1) := by decide +kernel
theorem dJ0_length_8abf5_0 : decode cJ0_length_8abf5 0 = .ok (.aload_n 0, 1) := by decide +kernel
theorem dJ0_length_8abf5_1 : decode cJ0_length_8abf5 1 = .ok (.getfield 9, 3) := by decide +kernel
theorem dJ0_length_8abf5_4 : decode cJ0_length_8abf5 4 = .ok (.arraylength, 1) := by decide +kernel
theorem dJ0_length_8abf5_5 : decode cJ0_length_8abf5 5 = .ok (.aload_n 0, 1) := by decide +kernel
theorem dJ0_length_8abf5_6 : decode cJ0_length_8abf5 6 = .ok (.invokevirtual 335, 3) := by decide +kernel
theorem dJ0_length_8abf5_9 : decode cJ0_length_8abf5 9 = .ok (.ishr, 1) := by decide +kernel
theorem dJ0_length_8abf5_10 : decode cJ0_length_8abf5 10 = .ok (.ireturn, 1) := by decide +kernel
theorem dJ3_checkIndex_8e157_0 : decode cJ3_checkIndex_8e157 0 = .ok (.iload_n 0, 1) := by decide +kernel
theorem dJ3_checkIndex_8e157_1 : decode cJ3_checkIndex_8e157 1 = .ok (.ifCond .lt 8, 3) := by decide +kernel
theorem dJ3_checkIndex_8e157_4 : decode cJ3_checkIndex_8e157 4 = .ok (.iload_n 0, 1) := by decide +kernel
theorem dJ3_checkIndex_8e157_5 : decode cJ3_checkIndex_8e157 5 = .ok (.iload_n 1, 1) := by decide +kernel
theorem dJ3_checkIndex_8e157_6 : decode cJ3_checkIndex_8e157 6 = .ok (.if_icmp .lt 10, 3) := by decide +kernel
theorem dJ3_checkIndex_8e157_9 : decode cJ3_checkIndex_8e157 9 = .ok (.aload_n 2, 1) := by decide +kernel
theorem dJ3_checkIndex_8e157_10 : decode cJ3_checkIndex_8e157 10 = .ok (.iload_n 0, 1) := by decide +kernel
theorem dJ3_checkIndex_8e157_11 : decode cJ3_checkIndex_8e157 11 = .ok (.iload_n 1, 1) := by decide +kernel
theorem dJ3_checkIndex_8e157_12 : decode cJ3_checkIndex_8e157 12 = .ok (.invokestatic 95, 3) := by decide +kernel
theorem dJ3_checkIndex_8e157_15 : decode cJ3_checkIndex_8e157 15 = .ok (.athrow, 1) := by decide +kernel
theorem dJ3_checkIndex_8e157_16 : decode cJ3_checkIndex_8e157 16 = .ok (.iload_n 0, 1) := by decide +kernel
theorem dJ3_checkIndex_8e157_17 : decode cJ3_checkIndex_8e157 17 = .ok (.ireturn, 1) := by decide +kernel
def mJ3_checkIndex_8e157 : MD := (cJ3_checkIndex_8e157, RJ3, yJ3_checkIndex_8e157, 3, (some .int), 0, 0)
theorem mf_J3_checkIndex_8e157 : MF mJ3_checkIndex_8e157 3 := MF.of 455 52 (by decide +kernel) (by decide +kernel) (by decide +kernel) (by decide +kernel) (by decide +kernel) rfl
def f_J3_checkIndex_8e157 (x0 : Int32) (x1 : Int32) (a2 : Nat) : Option Int32 :=
  if x0 < 0 then
    none
  else
    if x0 < x1 then
      some x0
    else
      none
set_option maxRecDepth 100000 in
theorem s_J3_checkIndex_8e157 {l : Launch} {G : Gt} (hG : Gok l G) (x0 : Int32) (x1 : Int32) (a2 : Nat) (μ : Mm) (r : Int32) (h : f_J3_checkIndex_8e157 x0 x1 a2 = some r) : ZX l G mJ3_checkIndex_8e157 0 [(0, .int x0), (1, .int x1), (2, .ref a2)] [] μ (.inl (some (.int r))) μ := by
  unfold f_J3_checkIndex_8e157 at h
  refine zx_iload_n dJ3_checkIndex_8e157_0 rfl (q := 0) rfl ?_
  by_cases c1 : x0 < 0
  · have h := it_t c1 h
    refine zx_if_lt_t (tgt := 9) dJ3_checkIndex_8e157_1 (by decide) c1 ?_
    cases h
  · have h := it_f c1 h
    refine zx_if_lt_f (tgt := 9) dJ3_checkIndex_8e157_1 (by decide) c1 ?_
    refine zx_iload_n dJ3_checkIndex_8e157_4 rfl (q := 0) rfl ?_
    refine zx_iload_n dJ3_checkIndex_8e157_5 rfl (q := 1) rfl ?_
    by_cases c2 : x0 < x1
    · have h := it_t c2 h
      refine zx_icmp_lt_t (tgt := 16) dJ3_checkIndex_8e157_6 (by decide) c2 ?_
      refine zx_iload_n dJ3_checkIndex_8e157_16 rfl (q := 0) rfl ?_
      cases h
      exact zx_iret dJ3_checkIndex_8e157_17 rfl
    · have h := it_f c2 h
      refine zx_icmp_lt_f (tgt := 16) dJ3_checkIndex_8e157_6 (by decide) c2 ?_
      cases h
def f_J3_checkIndex_8e157_n2 (x0 : Int32) (x1 : Int32) : Option Int32 :=
  if x0 < 0 then
    none
  else
    if x0 < x1 then
      some x0
    else
      none
set_option maxRecDepth 100000 in
theorem s_J3_checkIndex_8e157_n2 {l : Launch} {G : Gt} (hG : Gok l G) (x0 : Int32) (x1 : Int32) (μ : Mm) (r : Int32) (h : f_J3_checkIndex_8e157_n2 x0 x1 = some r) : ZX l G mJ3_checkIndex_8e157 0 [(0, .int x0), (1, .int x1), (2, .null)] [] μ (.inl (some (.int r))) μ := by
  unfold f_J3_checkIndex_8e157_n2 at h
  refine zx_iload_n dJ3_checkIndex_8e157_0 rfl (q := 0) rfl ?_
  by_cases c1 : x0 < 0
  · have h := it_t c1 h
    refine zx_if_lt_t (tgt := 9) dJ3_checkIndex_8e157_1 (by decide) c1 ?_
    cases h
  · have h := it_f c1 h
    refine zx_if_lt_f (tgt := 9) dJ3_checkIndex_8e157_1 (by decide) c1 ?_
    refine zx_iload_n dJ3_checkIndex_8e157_4 rfl (q := 0) rfl ?_
    refine zx_iload_n dJ3_checkIndex_8e157_5 rfl (q := 1) rfl ?_
    by_cases c2 : x0 < x1
    · have h := it_t c2 h
      refine zx_icmp_lt_t (tgt := 16) dJ3_checkIndex_8e157_6 (by decide) c2 ?_
      refine zx_iload_n dJ3_checkIndex_8e157_16 rfl (q := 0) rfl ?_
      cases h
      exact zx_iret dJ3_checkIndex_8e157_17 rfl
    · have h := it_f c2 h
      refine zx_icmp_lt_f (tgt := 16) dJ3_checkIndex_8e157_6 (by decide) c2 ?_
      cases h

def mJ0_checkIndex_df160 : MD := (cJ0_checkIndex_df160, RJ0, yJ0_checkIndex_df160, 2, none, 1, 22)
theorem mf_J0_checkIndex_df160 : MF mJ0_checkIndex_df160 2 := MF.of 944 46 (by decide +kernel) (by decide +kernel) (by decide +kernel) (by decide +kernel) (by decide +kernel) rfl
def mJ1_charAt_3b067 : MD := (cJ1_charAt_3b067, RJ1, yJ1_charAt_3b067, 2, (some .char), 2, 43)
theorem mf_J1_charAt_3b067 : MF mJ1_charAt_3b067 2 := MF.of 941 57 (by decide +kernel) (by decide +kernel) (by decide +kernel) (by decide +kernel) (by decide +kernel) rfl
def mJ0_isLatin1_aae02 : MD := (cJ0_isLatin1_aae02, RJ0, yJ0_isLatin1_aae02, 1, (some .boolean), 0, 0)
theorem mf_J0_isLatin1_aae02 : MF mJ0_isLatin1_aae02 0 := MF.of 938 46 (by decide +kernel) (by decide +kernel) (by decide +kernel) (by decide +kernel) (by decide +kernel) rfl
def mJ0_charAt_5068e : MD := (cJ0_charAt_5068e, RJ0, yJ0_charAt_5068e, 2, (some .char), 3, 64)
theorem mf_J0_charAt_5068e : MF mJ0_charAt_5068e 1 := MF.of 934 46 (by decide +kernel) (by decide +kernel) (by decide +kernel) (by decide +kernel) (by decide +kernel) rfl
def mJ0_coder_7d493 : MD := (cJ0_coder_7d493, RJ0, yJ0_coder_7d493, 1, (some .byte), 0, 0)
theorem mf_J0_coder_7d493 : MF mJ0_coder_7d493 0 := MF.of 155 46 (by decide +kernel) (by decide +kernel) (by decide +kernel) (by decide +kernel) (by decide +kernel) rfl
def mJ0_length_8abf5 : MD := (cJ0_length_8abf5, RJ0, yJ0_length_8abf5, 1, (some .int), 1, 20)
theorem mf_J0_length_8abf5 : MF mJ0_length_8abf5 0 := MF.of 151 46 (by decide +kernel) (by decide +kernel) (by decide +kernel) (by decide +kernel) (by decide +kernel) rfl
theorem w_s1 : Cond.fieldLink "java/lang/String" 38 "java/lang/String" "COMPACT_STRINGS" "Z" ∈ lw_tbl := List.mem_of_getElem? (i := 156) (by decide +kernel)
theorem w_s2 : Cond.fieldLink "java/lang/String" 1053 "jdk/internal/util/Preconditions" "SIOOBE_FORMATTER" "Ljava/util/function/BiFunction;" ∈ lw_tbl := List.mem_of_getElem? (i := 945) (by decide +kernel)
theorem w_s3 : Cond.fieldLink "java/lang/String" 9 "java/lang/String" "value" "[B" ∈ lw_tbl := List.mem_of_getElem? (i := 1468) (by decide +kernel)
theorem w_s4 : Cond.fieldLink "java/lang/String" 15 "java/lang/String" "coder" "B" ∈ lw_tbl := List.mem_of_getElem? (i := 1469) (by decide +kernel)
theorem cs_s1059 : CSs "java/lang/String" 1059 mJ3_checkIndex_8e157 := CSs.of 947 454 (by decide +kernel) (by decide +kernel)
theorem cs_s9 : CSs "java/lang/StringLatin1" 9 mJ0_checkIndex_df160 := CSs.of 942 943 (by decide +kernel) (by decide +kernel)
theorem cs_s495 : CSs "java/lang/String" 495 mJ1_charAt_3b067 := CSs.of 939 940 (by decide +kernel) (by decide +kernel)
/-- a call of a method of String on a String -/
def CVo (own : String) (ix : Nat) (Y : MD) : Prop := Cond.methodLink own ix Y.y ∈ lw_tbl ∧ Cond.instanceMethod Y.y ∈ lw_tbl ∧ Cond.selects Y.y.cls Y.y Y.y ∈ lw_tbl ∧ Y.y.cls = "java/lang/String"
theorem CVo.of {own : String} {ix : Nat} {Y : MD} (i j k : Nat) (h1 : lw_tbl[i]? = some (Cond.methodLink own ix Y.y)) (h2 : lw_tbl[j]? = some (Cond.instanceMethod Y.y)) (h3 : lw_tbl[k]? = some (Cond.selects Y.y.cls Y.y Y.y)) (h5 : Y.y.cls = "java/lang/String") : CVo own ix Y := ⟨List.mem_of_getElem? h1, List.mem_of_getElem? h2, List.mem_of_getElem? h3, h5⟩
theorem co_288 : CVo "Reorderium" 288 mJ0_length_8abf5 := CVo.of 930 149 150 (by decide +kernel) (by decide +kernel) (by decide +kernel) rfl
theorem co_293 : CVo "Reorderium" 293 mJ0_charAt_5068e := CVo.of 931 932 933 (by decide +kernel) (by decide +kernel) (by decide +kernel) rfl
theorem co_11 : CVo "Reorderium$Counts" 11 mJ0_length_8abf5 := CVo.of 148 149 150 (by decide +kernel) (by decide +kernel) (by decide +kernel) rfl
theorem co_335 : CVo "java/lang/String" 335 mJ0_coder_7d493 := CVo.of 152 153 154 (by decide +kernel) (by decide +kernel) (by decide +kernel) rfl
theorem co_492 : CVo "java/lang/String" 492 mJ0_isLatin1_aae02 := CVo.of 935 936 937 (by decide +kernel) (by decide +kernel) (by decide +kernel) rfl
section ZXO
variable {l : Launch} {G : Gt} {Y : MD} {pc : Nat} {L : List (Nat × Value)} {st : List Value} {μ μ' μ1 : Mm} {r : Rs} {Yc : MD} {ix n : Nat} {As : List Value} {Lc : List (Nat × Value)} {v : Option Value}
theorem zx_callVO {b : Nat} (hG : Gok l G) (mf : MF Yc n) (cs : CVo Y.own ix Yc) (hO : va_O "java/lang/String" b (fun q => G.1.heap.size ≤ q) G.1 G.1.heap) (hR : Yc.fr + 1 ≤ Y.fr ∧ 8 + (Yc.maxL + 11) + Yc.lo ≤ Y.lo) (hA : As.length = n) (hLc : lv_args 0 (.ref b :: As) = Lc) (hn : (lg_sl (.ref b :: As)).length ≤ Yc.maxL) (hz : ZX l G Yc 0 Lc [] μ (.inl v) μ1) (hcat : (st.map fun v => v.category).sum ≤ 8) (d : decode Y.cc pc = .ok (.invokevirtual ix, 3)) (kk : ZX l G Y (pc + 3) L (v.toList ++ st) μ1 r μ') :
    ZX l G Y pc L (As.reverse ++ .ref b :: st) μ r μ' := by
  obtain ⟨⟨z1, z2⟩, z3⟩ := id hz
  obtain ⟨⟨y1, y2⟩, y3⟩ := id kk
  refine ⟨⟨Nat.le_trans z1 y1, Nat.le_trans z2 y2⟩, fun p e R s m args below meth c H locs cells slots ls C h1 h2 h3 h4 h5 hl => ?_⟩
  have hS := C.vS h1 h2 h3
  have hk := C.kept
  obtain ⟨hx, hb, hml, hown, hret, hlk, hW, hfr, hlo, -⟩ := id C
  obtain ⟨c1, c2, c3, c5⟩ := cs
  obtain ⟨cell, q1, q2, q3, -⟩ := ((hO.moved hW.alike).kept hk).kept hS.2.1
  have hcl : s.vm.findClass Yc.y.cls = some cell.cls := by rw [c5]; exact q3
  refine zx_fin (va_runV (Ts := []) (own := Y.own) (As := As) (rest := st) (C := Yc.y.cls) (b := b) ⟨hx, hb, hml, hown, fun w hw => nomatch hw⟩ (zx_metN mf.2.2.1 mf.2.2.2.2.2 hLc hn hz) ⟨zx_callB hG hW mf c1 (by rw [hfr, hlo]; exact hR), zw hG hW c2 rfl args, zw hG hW c3 rfl args⟩ ⟨PcE.blind, ⟨cell, q1, q2, hcl⟩, (PcE.pre hW h1).2⟩ rfl hA hl.1 rfl (lv_room hcat) d ⟨by omega, by omega⟩) h2 h3 fun H1 locs1 k1 k2 k3 => ?_
  exact y3 p e R s m args below meth c H1 locs1 _ _ ls C k1 k2 k3 (by omega) (by omega) hl
end ZXO
/-- what is known of a text of the reasons -/
def zTx (G : Gt) (q q2 : Nat) : Prop := va_O "java/lang/String" q (fun q => G.1.heap.size ≤ q) G.1 G.1.heap ∧ va_OF "java/lang/String" "coder" "B" (.int 0) q (fun q => G.1.heap.size ≤ q) G.1 G.1.heap ∧ va_OF "java/lang/String" "value" "[B" (.ref q2) q (fun q => G.1.heap.size ≤ q) G.1 G.1.heap ∧ va_T .byte q2 8 (fun j => .int (zsb.getD j 0)) (fun q => G.1.heap.size ≤ q) G.1 G.1.heap
theorem Gok.tx {l : Launch} {G : Gt} (hG : Gok l G) (k : Nat) (hk : k = 1 ∨ k = 2) : ∃ q2, zTx G (G.2.2.2 k) q2 := by
  obtain ⟨adV, h, -⟩ := hG.2.2.2.2.2.1.1 k hk
  exact ⟨adV 0, h 0 (by decide)⟩
section ZXP
variable {l : Launch} {G : Gt} {Y : MD} {pc : Nat} {L : List (Nat × Value)} {st : List Value} {μ μ' : Mm} {r : Rs}
theorem s_coder {q q2 : Nat} (hG : Gok l G) (ht : zTx G q q2) : ZX l G mJ0_coder_7d493 0 [(0, .ref q)] [] μ (.inl (some (.int 0))) μ := by
  refine zx_gets hG hG.2.2.2.2.1.2.1 w_s1 dJ0_coder_7d493_0 ?_
  refine zx_if_eq_f (tgt := 13) dJ0_coder_7d493_3 (by decide) (by decide) ?_
  refine zx_aload_n dJ0_coder_7d493_6 rfl (q := 0) rfl ?_
  refine zx_getOF hG ht.2.1 w_s4 dJ0_coder_7d493_7 ?_
  refine zx_goto (tgt := 14) dJ0_coder_7d493_10 (by decide) ?_
  exact zx_zret dJ0_coder_7d493_14 rfl (by decide)
theorem s_isLatin1 {q q2 : Nat} (hG : Gok l G) (ht : zTx G q q2) : ZX l G mJ0_isLatin1_aae02 0 [(0, .ref q)] [] μ (.inl (some (.int 1))) μ := by
  refine zx_gets hG hG.2.2.2.2.1.2.1 w_s1 dJ0_isLatin1_aae02_0 ?_
  refine zx_if_eq_f (tgt := 17) dJ0_isLatin1_aae02_3 (by decide) (by decide) ?_
  refine zx_aload_n dJ0_isLatin1_aae02_6 rfl (q := 0) rfl ?_
  refine zx_getOF hG ht.2.1 w_s4 dJ0_isLatin1_aae02_7 ?_
  refine zx_if_ne_f (tgt := 17) dJ0_isLatin1_aae02_10 (by decide) (by decide) ?_
  refine zx_iconst (v := 1) dJ0_isLatin1_aae02_13 (by decide) ?_
  refine zx_goto (tgt := 18) dJ0_isLatin1_aae02_14 (by decide) ?_
  exact zx_zret dJ0_isLatin1_aae02_18 rfl (by decide)
theorem s_length {q q2 : Nat} (hG : Gok l G) (ht : zTx G q q2) : ZX l G mJ0_length_8abf5 0 [(0, .ref q)] [] μ (.inl (some (.int 8))) μ := by
  refine zx_aload_n dJ0_length_8abf5_0 rfl (q := 0) rfl ?_
  refine zx_getOF hG ht.2.2.1 w_s3 dJ0_length_8abf5_1 ?_
  refine zx_tlen (v := 8) ht.2.2.2 (by decide) dJ0_length_8abf5_4 ?_
  refine zx_aload_n dJ0_length_8abf5_5 rfl (q := 0) rfl ?_
  refine zx_callVO (As := []) hG mf_J0_coder_7d493 co_335 ht.1 ⟨by decide, by decide⟩ rfl rfl (Nat.le_of_ble_eq_true rfl) (s_coder hG ht) (Nat.le_of_ble_eq_true rfl) dJ0_length_8abf5_6 ?_
  refine zx_ishr dJ0_length_8abf5_9 ?_
  exact zx_iret dJ0_length_8abf5_10 rfl
theorem s_checkIndex {x0 x1 : Int32} (hG : Gok l G) (h0 : ¬ x0 < 0) (h1 : x0 < x1) : ZX l G mJ0_checkIndex_df160 0 [(0, .int x0), (1, .int x1)] [] μ (.inl none) μ := by
  refine zx_iload_n dJ0_checkIndex_df160_0 rfl (q := 0) rfl ?_
  refine zx_iload_n dJ0_checkIndex_df160_1 rfl (q := 1) rfl ?_
  rcases hG.2.2.2.2.1.2.2 with hz | ⟨t, hz⟩
  · refine zx_gets hG hz w_s2 dJ0_checkIndex_df160_2 ?_
    refine zx_callS (As := [.int x0, .int x1, .null]) hG mf_J3_checkIndex_8e157 cs_s1059 ⟨by decide, by decide⟩ rfl rfl (Nat.le_of_ble_eq_true rfl) (s_J3_checkIndex_8e157_n2 hG x0 x1 μ x0 (by unfold f_J3_checkIndex_8e157_n2; rw [if_neg h0, if_pos h1])) (Nat.le_of_ble_eq_true rfl) dJ0_checkIndex_df160_5 ?_
    refine zx_pop dJ0_checkIndex_df160_8 rfl ?_
    exact zx_vret dJ0_checkIndex_df160_9 rfl
  · refine zx_gets hG hz w_s2 dJ0_checkIndex_df160_2 ?_
    refine zx_callS (As := [.int x0, .int x1, .ref t]) hG mf_J3_checkIndex_8e157 cs_s1059 ⟨by decide, by decide⟩ rfl rfl (Nat.le_of_ble_eq_true rfl) (s_J3_checkIndex_8e157 hG x0 x1 t μ x0 (by unfold f_J3_checkIndex_8e157; rw [if_neg h0, if_pos h1])) (Nat.le_of_ble_eq_true rfl) dJ0_checkIndex_df160_5 ?_
    refine zx_pop dJ0_checkIndex_df160_8 rfl ?_
    exact zx_vret dJ0_checkIndex_df160_9 rfl
theorem zstr_zc (i : Int32) : zc (zstr i &&& 255) = zstr i := by
  rcases Nat.lt_or_ge i.toNatClampNeg 8 with h | h
  · unfold zstr zsb
    generalize i.toNatClampNeg = j at h ⊢
    have : j = 0 ∨ j = 1 ∨ j = 2 ∨ j = 3 ∨ j = 4 ∨ j = 5 ∨ j = 6 ∨ j = 7 := by omega
    rcases this with rfl | rfl | rfl | rfl | rfl | rfl | rfl | rfl <;> decide
  · have e : zstr i = 0 := by
      unfold zstr
      rw [List.getD_eq_getElem?_getD, List.getElem?_eq_none (show 8 ≤ _ from h)]
      rfl
    rw [e]
    decide
theorem s_charAt1 {q q2 : Nat} {i : Int32} (hG : Gok l G) (ht : zTx G q q2) (hi : vp_in i 8) : ZX l G mJ1_charAt_3b067 0 [(0, .ref q2), (1, .int i)] [] μ (.inl (some (.int (zstr i)))) μ := by
  have hi0 : ¬ i < 0 := fun z => hi (Or.inl z)
  have hi1 : i < 8 := by
    have h1 : ¬ (8 ≤ i.toNatClampNeg) := fun z => hi (Or.inr z)
    have h2 : i.toInt < 8 := by
      unfold Int32.toNatClampNeg at h1
      omega
    exact Int32.lt_iff_toInt_lt.mpr (by simpa using h2)
  refine zx_iload_n dJ1_charAt_3b067_0 rfl (q := 1) rfl ?_
  refine zx_aload_n dJ1_charAt_3b067_1 rfl (q := 0) rfl ?_
  refine zx_tlen (v := 8) ht.2.2.2 (by decide) dJ1_charAt_3b067_2 ?_
  refine zx_callS (As := [.int i, .int 8]) hG mf_J0_checkIndex_df160 cs_s9 ⟨by decide, by decide⟩ rfl rfl (Nat.le_of_ble_eq_true rfl) (s_checkIndex hG hi0 hi1) (Nat.le_of_ble_eq_true rfl) dJ1_charAt_3b067_3 ?_
  refine zx_aload_n dJ1_charAt_3b067_6 rfl (q := 0) rfl ?_
  refine zx_iload_n dJ1_charAt_3b067_7 rfl (q := 1) rfl ?_
  refine zx_tb (v := .int (zstr i)) ht.2.2.2 hi rfl dJ1_charAt_3b067_8 ?_
  refine zx_sipush (v := 255) dJ1_charAt_3b067_9 (by decide) ?_
  refine zx_iand dJ1_charAt_3b067_12 ?_
  refine zx_i2c dJ1_charAt_3b067_13 ?_
  rw [zstr_zc]
  exact zx_zretC dJ1_charAt_3b067_14 rfl (by have h := zstr_zc i; rw [← h, zc_zc])
theorem s_charAt {q q2 : Nat} {i : Int32} (hG : Gok l G) (ht : zTx G q q2) (hi : vp_in i 8) : ZX l G mJ0_charAt_5068e 0 [(0, .ref q), (1, .int i)] [] μ (.inl (some (.int (zstr i)))) μ := by
  refine zx_aload_n dJ0_charAt_5068e_0 rfl (q := 0) rfl ?_
  refine zx_callVO (As := []) hG mf_J0_isLatin1_aae02 co_492 ht.1 ⟨by decide, by decide⟩ rfl rfl (Nat.le_of_ble_eq_true rfl) (s_isLatin1 hG ht) (Nat.le_of_ble_eq_true rfl) dJ0_charAt_5068e_1 ?_
  refine zx_if_eq_f (tgt := 16) dJ0_charAt_5068e_4 (by decide) (by decide) ?_
  refine zx_aload_n dJ0_charAt_5068e_7 rfl (q := 0) rfl ?_
  refine zx_getOF hG ht.2.2.1 w_s3 dJ0_charAt_5068e_8 ?_
  refine zx_iload_n dJ0_charAt_5068e_11 rfl (q := 1) rfl ?_
  refine zx_callS (As := [.ref q2, .int i]) hG mf_J1_charAt_3b067 cs_s495 ⟨by decide, by decide⟩ rfl rfl (Nat.le_of_ble_eq_true rfl) (s_charAt1 hG ht hi) (Nat.le_of_ble_eq_true rfl) dJ0_charAt_5068e_12 ?_
  exact zx_zretC dJ0_charAt_5068e_15 rfl (by have h := zstr_zc i; rw [← h, zc_zc])
theorem zx_strlenX10 {b : Nat} (hG : Gok l G) (h : mR μ 0 1 = some b) (hR : 4 ≤ Y.fr) (hLo : 120 ≤ Y.lo) (d : decode Y.cc pc = .ok (.invokevirtual 288, 3)) (kk : ZX l G Y (pc + 3) L (.int 8 :: st) μ r μ') (hY : Y.own = "Reorderium" := by rfl) (hcat : (st.map fun v => v.category).sum ≤ 8 := by exact Nat.le_of_ble_eq_true rfl) : ZX l G Y pc L (.ref b :: st) μ r μ' := by
  refine zx_at h (by decide) (fun e => ?_) kk.1
  obtain ⟨q2, ht⟩ := hG.tx 1 (Or.inl rfl)
  rw [← e] at ht
  exact zx_callVO (As := []) hG mf_J0_length_8abf5 (by rw [hY]; exact co_288) ht.1 ⟨Nat.le_trans (by decide) hR, Nat.le_trans (by decide) hLo⟩ rfl rfl (Nat.le_of_ble_eq_true rfl) (s_length hG ht) hcat d kk
theorem zx_strlenX1 {b : Nat} (hG : Gok l G) (h : mR μ 0 2 = some b) (hR : 4 ≤ Y.fr) (hLo : 120 ≤ Y.lo) (d : decode Y.cc pc = .ok (.invokevirtual 11, 3)) (kk : ZX l G Y (pc + 3) L (.int 8 :: st) μ r μ') (hY : Y.own = "Reorderium$Counts" := by rfl) (hcat : (st.map fun v => v.category).sum ≤ 8 := by exact Nat.le_of_ble_eq_true rfl) : ZX l G Y pc L (.ref b :: st) μ r μ' := by
  refine zx_at h (by decide) (fun e => ?_) kk.1
  obtain ⟨q2, ht⟩ := hG.tx 2 (Or.inr rfl)
  rw [← e] at ht
  exact zx_callVO (As := []) hG mf_J0_length_8abf5 (by rw [hY]; exact co_11) ht.1 ⟨Nat.le_trans (by decide) hR, Nat.le_trans (by decide) hLo⟩ rfl rfl (Nat.le_of_ble_eq_true rfl) (s_length hG ht) hcat d kk
theorem zx_charAtX10 {b : Nat} {i : Int32} (hG : Gok l G) (h : mR μ 0 1 = some b) (hi : vp_in i 8) (hR : 4 ≤ Y.fr) (hLo : 120 ≤ Y.lo) (d : decode Y.cc pc = .ok (.invokevirtual 293, 3)) (kk : ZX l G Y (pc + 3) L (.int (zstr i) :: st) μ r μ') (hY : Y.own = "Reorderium" := by rfl) (hcat : (st.map fun v => v.category).sum ≤ 8 := by exact Nat.le_of_ble_eq_true rfl) : ZX l G Y pc L (.int i :: .ref b :: st) μ r μ' := by
  refine zx_at h (by decide) (fun e => ?_) kk.1
  obtain ⟨q2, ht⟩ := hG.tx 1 (Or.inl rfl)
  rw [← e] at ht
  exact zx_callVO (As := [.int i]) hG mf_J0_charAt_5068e (by rw [hY]; exact co_293) ht.1 ⟨Nat.le_trans (by decide) hR, Nat.le_trans (by decide) hLo⟩ rfl rfl (Nat.le_of_ble_eq_true rfl) (s_charAt hG ht hi) hcat d kk
/-- the classes between an exception of ours and Throwable -/
def zNM : List String := ["java/lang/RuntimeException", "java/lang/Exception"]
def zok3 (w : Jvm.Cond) : Bool := goodWord w || (match w with | .declares _ => true | .castable _ _ => true | _ => false)
def XTs (own : String) (ik ic : Nat) (cls : String) : Prop := Cond.classLink own ik cls ∈ lw_tbl ∧ Cond.initialized cls ∈ lw_tbl ∧ (∀ w ∈ vx_at0 own ic cls zNM, w ∈ lw_tbl ∧ zok3 w = true) ∧ (∀ w ∈ Cond.classLink own ik cls :: Cond.initialized cls :: vx_at0 own ic cls zNM, vx_ot w = true) ∧ Bundle.fit cls = true
theorem zw3 {s : State} (hG : Gok l G) (hW : G.1.WarmedH s.vm) {w : Jvm.Cond} (hw : w ∈ lw_tbl) (hg : zok3 w = true) (args : Array Value) : w.before args s = true := by
  unfold zok3 at hg
  rcases Bool.or_eq_true_iff.mp hg with hg | hg
  · exact zw hG hW hw hg args
  · cases w <;> simp at hg
    · exact zwD hG hW hw args
    · exact zwC hG hW hw args
theorem zx_throw {cls : String} {ik ic : Nat} (hG : Gok l G) (hx9 : XTs Y.own ik ic cls) (hR : 6 ≤ Y.fr) (hLo : 90 ≤ Y.lo) (hcat : (st.map fun v => v.category).sum ≤ 8) (d0 : decode Y.cc pc = .ok (.new ik, 3)) (d3 : decode Y.cc (pc + 3) = .ok (.dup, 1)) (d4 : decode Y.cc (pc + 4) = .ok (.invokespecial ic, 3)) (d7 : decode Y.cc (pc + 7) = .ok (.athrow, 1)) : ZX l G Y pc L st μ (.inr cls) (bump μ 6) := by
  refine ⟨⟨Nat.le_succ _, Nat.le_add_right _ _⟩, fun p e R s m args below meth c H locs cells slots ls C h1 h2 h3 h4 h5 hl => ?_⟩
  have hS := C.vS h1 h2 h3
  have hk := C.kept
  obtain ⟨hx, hb, hml, hown, hret, hlk, hW, hfr, hlo, htab, -⟩ := id C
  obtain ⟨x1, x2, x3, x4, x5⟩ := hx9
  have e1 : mN (bump μ 6) = mN μ + 1 := rfl
  have e2 : mS (bump μ 6) = mS μ + 6 := rfl
  rw [e1] at h4
  rw [e2] at h5
  refine vx_throw0 (names := zNM) (cls := cls) (own := Y.own) (ik := ik) (ic := ic) hx hb hG.1 hown x5 (by decide +kernel) (zw hG hW x1 rfl args) (zw hG hW x2 rfl args) (fun w hw => zw3 hG hW (x3 w hw).1 (x3 w hw).2 args) x4 ((hG.2.2.2.1.1.moved hW.alike).kept hk) ((hG.2.2.2.1.2.moved hW.alike).kept hk) hS (by rw [hml]; exact hl.1) d0 d3 d4 d7 (fun x hx => (htab x hx).elim) (by rw [hfr]; show 5 < _; omega) (by rw [hlo]; show _ + (13 * 3 + 42) ≤ _; omega) (by omega) (by omega) hlk (fun t _ ht1 ht2 => ⟨rfl, ⟨t.heap.size, ?_⟩, by omega⟩) h3 (by omega) (by omega)
  have hlt := fun (a : Nat) (q : mK μ a ≠ 0) => h1.lt q
  obtain ⟨⟨⟨g0, g00, g01⟩, g1⟩, g2, g3, g4⟩ := h1
  refine ⟨⟨⟨g0, g00, g01⟩, fun q hq => (ht2 q (by omega)).trans (g1 q hq)⟩, rfl, by show _ ≤ t.heap.size; omega, fun b hb2 => ?_⟩
  have hb3 : mK μ b ≠ 0 := hb2
  have hbl := hlt b hb3
  rcases g4 b hb3 with ⟨w1, w2⟩ | w
  · exact Or.inl ⟨zOk_keep (μ := μ) rfl rfl rfl rfl rfl (ht2 b (by omega)) w1, w2⟩
  · exact Or.inr (zE_keep (μ := μ) rfl rfl (ht2 b (by omega)) w)
end ZXP
theorem xt_X10_23_25 : XTs RX10 23 25 "java/lang/IllegalArgumentException" := ⟨List.mem_of_getElem? (i := 511) (by decide +kernel), List.mem_of_getElem? (i := 56) (by decide +kernel), by decide +kernel, by decide +kernel, by decide +kernel⟩
theorem xt_X10_40_42 : XTs RX10 40 42 "java/lang/IllegalStateException" := ⟨List.mem_of_getElem? (i := 575) (by decide +kernel), List.mem_of_getElem? (i := 61) (by decide +kernel), by decide +kernel, by decide +kernel, by decide +kernel⟩
theorem xt_X10_134_136 : XTs RX10 134 136 "java/lang/IndexOutOfBoundsException" := ⟨List.mem_of_getElem? (i := 1235) (by decide +kernel), List.mem_of_getElem? (i := 68) (by decide +kernel), by decide +kernel, by decide +kernel, by decide +kernel⟩
theorem xt_X10_165_167 : XTs RX10 165 167 "java/util/NoSuchElementException" := ⟨List.mem_of_getElem? (i := 1304) (by decide +kernel), List.mem_of_getElem? (i := 59) (by decide +kernel), by decide +kernel, by decide +kernel, by decide +kernel⟩
