/-! rows of the law's calls over one state of the class -/
/-- what a call gives that answers v, or throws E -/
def gv (k : Nat) (v : Int32) (E : String) : Int32 := exv (if k = 0 then .inl v else .inr E)
section GAS
variable {b z : Nat} {A : Sx} {μ μ1 : Mm} {k : Nat} {v : Int32} {E : String}
theorem gA_v : exv (gA k v E μ).1 = gv k v E := by
  unfold gA gv
  split <;> rfl
theorem gA_e {E' : String} (h : (gA k v E μ).1 = .inr E') : E' = E := by
  unfold gA at h
  split at h
  · cases h
  · cases h
    rfl
theorem gA_j (h : JC b z A μ) : JC b z A (gA k v E μ).2 := by
  unfold gA
  split
  · exact h
  · exact h.bump
theorem gA_n : mN (gA k v E μ).2 ≤ mN μ + 1 := by
  unfold gA
  split
  · exact Nat.le_succ _
  · exact Nat.le_refl _
theorem gA_s : mS (gA k v E μ).2 ≤ mS μ + 6 := by
  unfold gA
  split
  · exact Nat.le_add_right _ _
  · exact Nat.le_refl _
theorem gvv_0 : gv 0 v E = v := rfl
theorem gA_h {o : Option ((Int32 ⊕ String) × Mm)} (h : o = some (gA k v E μ)) : o = some ((gA k v E μ).1, (gA k v E μ).2) := h
theorem gv_IAE : gv 1 v exIAE = -2000000002 := exv_IAE
theorem gv_IOB : gv 1 v exIOB = -2000000001 := exv_IOB
theorem cg_kept {G : Nat → Nat → Nat} {ar : Nat → Nat} {s : Nat} (h : FR b z A μ) (hh : HR b z A (fun _ => 0) G ar s μ) (h3 : aS A 3 ≤ 1) : f_X10_kept b μ = some (gA (if aS A 3 = 0 then 1 else 0) (nI (aS A 4)) exNSE μ) := by
  obtain ⟨a, c⟩ := c_kept h hh h3
  by_cases q : aS A 3 = 0
  · rw [if_pos q]
    exact c q
  · rw [if_neg q]
    exact a q
theorem cg_fetching (h : FR b z A μ) (h12 : aS A 12 ≤ 1) : f_X10_fetching b μ = some (gA (if aS A 12 = 0 then 0 else 1) (nI (aS A 11)) exNSE μ) := by
  obtain ⟨a, c⟩ := c_fetching h h12
  by_cases q : aS A 12 = 0
  · rw [if_pos q]
    exact a q
  · rw [if_neg q]
    exact c q
theorem bI_01 (p : Bool) : bI p = 0 ∨ bI p = 1 := by cases p <;> decide
theorem nI_01 {n : Nat} (h : n ≤ 1) : nI n = 0 ∨ nI n = 1 := by
  have : n = 0 ∨ n = 1 := by omega
  rcases this with rfl | rfl <;> decide
theorem gA_w {w : Int32} (h : (gA k v E μ).1 = .inl w) : k = 0 ∧ w = v := by
  unfold gA at h
  split at h
  · rename_i h0
    cases h
    exact ⟨h0, rfl⟩
  · cases h
theorem oc_e {E' : String} {k : Nat} (h : oc k v = .inr E') : E' ∈ [exIAE, exISE] := by
  unfold oc at h
  split at h
  · cases h
  · split at h <;> cases h <;> simp
theorem k01_0 {p : Bool} (h : k01 p = 0) : p = true := by
  unfold k01 at h
  split at h
  · assumption
  · cases h
end GAS
section LJJ
variable {l : Launch} {G : Gt} {Y : MD} {p : Program} {e : Env} {R : Room} {s : State} {m : MethodId} {args : Array Value} {below : List Frame} {meth : Method} {c : Code} {Q : State → Prop} {pc : Nat} {L : List (Nat × Value)} {st : List Value} {b z : Nat} {A A' : Sx} {μ μ1 : Mm} {c1 s1 c2 s2 : Nat}
theorem lj_wf (k : WF μ → LJ l G Y p e R s m args below meth c Q pc L st μ c1 s1) : LJ l G Y p e R s m args below meth c Q pc L st μ c1 s1 := fun H locs cells slots ls h1 h2 h3 h4 h5 hl => k (fun a ha => Classical.byContradiction fun q => absurd (h1.lt q) (by omega)) H locs cells slots ls h1 h2 h3 h4 h5 hl
theorem lj_callJ {Yc : MD} {hh : List (Nat × Nat × Nat × Nat)} {ix n dc ds : Nat} {As : List Value} {v0 : Value} (C : CW G Y p R s m meth c) (hG : Gok l G) (mw : MW Yc hh n) (cs : CSs Y.own ix Yc) (hR : Yc.fr + 1 ≤ Y.fr ∧ 8 + (Yc.maxL + 11) + Yc.lo ≤ Y.lo) (hA : As.length = n) (hM : Met l Yc.y (Yc.wsH hh) (Yc.rm (mN μ1 - mN μ) (mS μ1 - mS μ)) (PcE G As μ) (QW G (WPx v0 μ1)) (mN μ1 - mN μ) (mS μ1 - mS μ) (FREE G)) (hj : JC b z A' μ1) (m1 : mN μ1 ≤ mN μ + dc) (m2 : mS μ1 ≤ mS μ + ds) (hcat : (st.map fun v => v.category).sum ≤ 8) (d : decode Y.cc pc = .ok (.invokestatic ix, 3)) (hc : dc + c2 ≤ c1) (hs : ds + s2 ≤ s1) (kk : ∀ μ2, JC b z A' μ2 → LJ l G Y p e R s m args below meth c Q (pc + 3) L (v0 :: st) μ2 c2 s2) : LJ l G Y p e R s m args below meth c Q pc L (As.reverse ++ st) μ c1 s1 :=
  lj_callW (c2 := c2) (s2 := s2) C hG mw cs hR hA hM hcat d (by omega) (by omega) fun v μ2 hw => by
    obtain ⟨rfl, e | ⟨N, e⟩⟩ := hw
    · subst e
      exact kk _ hj
    · subst e
      exact kk _ hj.sN
theorem cs_of : CSs RL 191 mL_of := CSs.of 1320 1321 (by decide +kernel) (by decide +kernel)
theorem cs_at_ : CSs RL 249 mL_at_ := CSs.of 1223 1224 (by decide +kernel) (by decide +kernel)
theorem cs_set : CSs RL 231 mL_set := CSs.of 696 697 (by decide +kernel) (by decide +kernel)
theorem cs_add : CSs RL 228 mL_add := CSs.of 496 497 (by decide +kernel) (by decide +kernel)
theorem cs_life : CSs RL 260 mL_life := CSs.of 1296 1297 (by decide +kernel) (by decide +kernel)
theorem cs_share : CSs RL 263 mL_share := CSs.of 1377 1378 (by decide +kernel) (by decide +kernel)
theorem lo_r (C : CW G Y p R s m meth c) (hG : Gok2 l G) (hY : Y.own = RL) (hR : mL_of.fr + 1 ≤ Y.fr ∧ 8 + (mL_of.maxL + 11) + mL_of.lo ≤ Y.lo) {x : Int32} (h : JC b z A μ) (hcat : (st.map fun v => v.category).sum ≤ 8) (d : decode Y.cc pc = .ok (.invokestatic 191, 3)) (hc : 1 + c2 ≤ c1) (hs : 6 + s2 ≤ s1) (kk : ∀ μ2, JC b z A μ2 → LJ l G Y p e R s m args below meth c Q (pc + 3) L (.int (gv (k01 (rok x)) (aV A 1 (aN A 1 x.toNatClampNeg)) exIAE) :: st) μ2 c2 s2) : LJ l G Y p e R s m args below meth c Q pc L (.int x :: .int 114 :: .ref b :: st) μ c1 s1 := by
  obtain ⟨fr, ⟨G1, ar, s0, hr⟩, ai⟩ := id h
  exact lj_callJ (As := [.ref b, .int 114, .int x]) (dc := 1) (ds := 6) C hG.1 mw_of (by rw [hY]; exact cs_of) hR rfl (wc_of_r hG h.kb (gA_h (c_register fr ai.r24)) (fun E9 q => by rw [gA_e q]; simp)) (gA_j h) gA_n gA_s hcat d hc hs fun μ2 j => by rw [gA_v]; exact kk μ2 j
theorem lo_q (C : CW G Y p R s m meth c) (hG : Gok2 l G) (hY : Y.own = RL) (hR : mL_of.fr + 1 ≤ Y.fr ∧ 8 + (mL_of.maxL + 11) + mL_of.lo ≤ Y.lo) {x : Int32} (h : JC b z A μ) (hcat : (st.map fun v => v.category).sum ≤ 8) (d : decode Y.cc pc = .ok (.invokestatic 191, 3)) (hc : 1 + c2 ≤ c1) (hs : 6 + s2 ≤ s1) (kk : ∀ μ2, JC b z A μ2 → LJ l G Y p e R s m args below meth c Q (pc + 3) L (.int (gv (k01 (rok x)) ((plA A (aS A 14)).1 x.toNatClampNeg) exIAE) :: st) μ2 c2 s2) : LJ l G Y p e R s m args below meth c Q pc L (.int x :: .int 113 :: .ref b :: st) μ c1 s1 := by
  obtain ⟨fr, ⟨G1, ar, s0, hr⟩, ai⟩ := id h
  exact lj_callJ (As := [.ref b, .int 113, .int x]) (dc := 1) (ds := 6) C hG.1 mw_of (by rw [hY]; exact cs_of) hR rfl (wc_of_q hG h.kb (gA_h (c_registerByPlain fr)) (fun E9 q => by rw [gA_e q]; simp)) (gA_j h) gA_n gA_s hcat d hc hs fun μ2 j => by rw [gA_v]; exact kk μ2 j
theorem lo_w (C : CW G Y p R s m meth c) (hG : Gok2 l G) (hY : Y.own = RL) (hR : mL_of.fr + 1 ≤ Y.fr ∧ 8 + (mL_of.maxL + 11) + mL_of.lo ≤ Y.lo) {x : Int32} (h : JC b z A μ) (hcat : (st.map fun v => v.category).sum ≤ 8) (d : decode Y.cc pc = .ok (.invokestatic 191, 3)) (hc : 1 + c2 ≤ c1) (hs : 6 + s2 ≤ s1) (kk : ∀ μ2, JC b z A μ2 → LJ l G Y p e R s m args below meth c Q (pc + 3) L (.int (gv (k01 (adok x)) (aV A 2 x.toNatClampNeg) exIAE) :: st) μ2 c2 s2) : LJ l G Y p e R s m args below meth c Q pc L (.int x :: .int 119 :: .ref b :: st) μ c1 s1 := by
  obtain ⟨fr, ⟨G1, ar, s0, hr⟩, ai⟩ := id h
  exact lj_callJ (As := [.ref b, .int 119, .int x]) (dc := 1) (ds := 6) C hG.1 mw_of (by rw [hY]; exact cs_of) hR rfl (wc_of_w hG h.kb (gA_h (c_word fr)) (fun E9 q => by rw [gA_e q]; simp)) (gA_j h) gA_n gA_s hcat d hc hs fun μ2 j => by rw [gA_v]; exact kk μ2 j
theorem lo_v (C : CW G Y p R s m meth c) (hG : Gok2 l G) (hY : Y.own = RL) (hR : mL_of.fr + 1 ≤ Y.fr ∧ 8 + (mL_of.maxL + 11) + mL_of.lo ≤ Y.lo) {x : Int32} (h : JC b z A μ) (hcat : (st.map fun v => v.category).sum ≤ 8) (d : decode Y.cc pc = .ok (.invokestatic 191, 3)) (hc : 1 + c2 ≤ c1) (hs : 6 + s2 ≤ s1) (kk : ∀ μ2, JC b z A μ2 → LJ l G Y p e R s m args below meth c Q (pc + 3) L (.int (gv (k01 (adok x)) ((plA A (aS A 14)).2.1 x.toNatClampNeg) exIAE) :: st) μ2 c2 s2) : LJ l G Y p e R s m args below meth c Q pc L (.int x :: .int 118 :: .ref b :: st) μ c1 s1 := by
  obtain ⟨fr, ⟨G1, ar, s0, hr⟩, ai⟩ := id h
  exact lj_callJ (As := [.ref b, .int 118, .int x]) (dc := 1) (ds := 6) C hG.1 mw_of (by rw [hY]; exact cs_of) hR rfl (wc_of_v hG h.kb (gA_h (c_wordByPlain fr)) (fun E9 q => by rw [gA_e q]; simp)) (gA_j h) gA_n gA_s hcat d hc hs fun μ2 j => by rw [gA_v]; exact kk μ2 j
theorem lo_i (C : CW G Y p R s m meth c) (hG : Gok2 l G) (hY : Y.own = RL) (hR : mL_of.fr + 1 ≤ Y.fr ∧ 8 + (mL_of.maxL + 11) + mL_of.lo ≤ Y.lo) {x : Int32} (h : JC b z A μ) (hcat : (st.map fun v => v.category).sum ≤ 8) (d : decode Y.cc pc = .ok (.invokestatic 191, 3)) (hc : 1 + c2 ≤ c1) (hs : 6 + s2 ≤ s1) (kk : ∀ μ2, JC b z A μ2 → LJ l G Y p e R s m args below meth c Q (pc + 3) L (.int (gv (k01 (rok x)) (nI (aN A 0 x.toNatClampNeg)) exIAE) :: st) μ2 c2 s2) : LJ l G Y p e R s m args below meth c Q pc L (.int x :: .int 105 :: .ref b :: st) μ c1 s1 := by
  obtain ⟨fr, ⟨G1, ar, s0, hr⟩, ai⟩ := id h
  exact lj_callJ (As := [.ref b, .int 105, .int x]) (dc := 1) (ds := 6) C hG.1 mw_of (by rw [hY]; exact cs_of) hR rfl (wc_of_i hG h.kb (gA_h (c_inner fr)) (fun E9 q => by rw [gA_e q]; simp)) (gA_j h) gA_n gA_s hcat d hc hs fun μ2 j => by rw [gA_v]; exact kk μ2 j
theorem lo_j (C : CW G Y p R s m meth c) (hG : Gok2 l G) (hY : Y.own = RL) (hR : mL_of.fr + 1 ≤ Y.fr ∧ 8 + (mL_of.maxL + 11) + mL_of.lo ≤ Y.lo) {x : Int32} (h : JC b z A μ) (hcat : (st.map fun v => v.category).sum ≤ 8) (d : decode Y.cc pc = .ok (.invokestatic 191, 3)) (hc : 1 + c2 ≤ c1) (hs : 6 + s2 ≤ s1) (kk : ∀ μ2, JC b z A μ2 → LJ l G Y p e R s m args below meth c Q (pc + 3) L (.int (gv (k01 (rok x)) (nI (aN A 0 x.toNatClampNeg)) exIAE) :: st) μ2 c2 s2) : LJ l G Y p e R s m args below meth c Q pc L (.int x :: .int 106 :: .ref b :: st) μ c1 s1 := by
  obtain ⟨fr, ⟨G1, ar, s0, hr⟩, ai⟩ := id h
  exact lj_callJ (As := [.ref b, .int 106, .int x]) (dc := 1) (ds := 6) C hG.1 mw_of (by rw [hY]; exact cs_of) hR rfl (wc_of_j hG h.kb (gA_h (c_innerAnew fr hr ai.ib)) (fun E9 q => by rw [gA_e q]; simp)) (gA_j h) gA_n gA_s hcat d hc hs fun μ2 j => by rw [gA_v]; exact kk μ2 j
theorem lo_c (C : CW G Y p R s m meth c) (hG : Gok2 l G) (hY : Y.own = RL) (hR : mL_of.fr + 1 ≤ Y.fr ∧ 8 + (mL_of.maxL + 11) + mL_of.lo ≤ Y.lo) {x : Int32} (h : JC b z A μ) (hcat : (st.map fun v => v.category).sum ≤ 8) (d : decode Y.cc pc = .ok (.invokestatic 191, 3)) (hc : 1 + c2 ≤ c1) (hs : 6 + s2 ≤ s1) (kk : ∀ μ2, JC b z A μ2 → LJ l G Y p e R s m args below meth c Q (pc + 3) L (.int (gv (k01 (ix x 16)) (nI (aN A 4 x.toNatClampNeg)) exIAE) :: st) μ2 c2 s2) : LJ l G Y p e R s m args below meth c Q pc L (.int x :: .int 99 :: .ref b :: st) μ c1 s1 := by
  obtain ⟨fr, ⟨G1, ar, s0, hr⟩, ai⟩ := id h
  exact lj_callJ (As := [.ref b, .int 99, .int x]) (dc := 1) (ds := 6) C hG.1 mw_of (by rw [hY]; exact cs_of) hR rfl (wc_of_c hG h.kb (gA_h (c_counter fr)) (fun E9 q => by rw [gA_e q]; simp)) (gA_j h) gA_n gA_s hcat d hc hs fun μ2 j => by rw [gA_v]; exact kk μ2 j
theorem lo_m (C : CW G Y p R s m meth c) (hG : Gok2 l G) (hY : Y.own = RL) (hR : mL_of.fr + 1 ≤ Y.fr ∧ 8 + (mL_of.maxL + 11) + mL_of.lo ≤ Y.lo) {x : Int32} (h : JC b z A μ) (hcat : (st.map fun v => v.category).sum ≤ 8) (d : decode Y.cc pc = .ok (.invokestatic 191, 3)) (hc : 1 + c2 ≤ c1) (hs : 6 + s2 ≤ s1) (kk : ∀ μ2, JC b z A μ2 → LJ l G Y p e R s m args below meth c Q (pc + 3) L (.int (gv (k01 (ix x 16)) (nI (aN A 5 x.toNatClampNeg)) exIAE) :: st) μ2 c2 s2) : LJ l G Y p e R s m args below meth c Q pc L (.int x :: .int 109 :: .ref b :: st) μ c1 s1 := by
  obtain ⟨fr, ⟨G1, ar, s0, hr⟩, ai⟩ := id h
  exact lj_callJ (As := [.ref b, .int 109, .int x]) (dc := 1) (ds := 6) C hG.1 mw_of (by rw [hY]; exact cs_of) hR rfl (wc_of_m hG h.kb (gA_h (c_isMarked fr ai.a5)) (fun E9 q => by rw [gA_e q]; simp) (fun w q => by obtain ⟨q1, q2⟩ := gA_w q; rw [q2]; exact nI_01 (by obtain ⟨i, i1, i2, i3⟩ := ix_e (k01_0 q1) (by omega); rw [i3]; exact ai.a5 i i1))) (gA_j h) gA_n gA_s hcat d hc hs fun μ2 j => by rw [gA_v]; exact kk μ2 j
theorem lo_l (C : CW G Y p R s m meth c) (hG : Gok2 l G) (hY : Y.own = RL) (hR : mL_of.fr + 1 ≤ Y.fr ∧ 8 + (mL_of.maxL + 11) + mL_of.lo ≤ Y.lo) {x : Int32} (h : JC b z A μ) (hcat : (st.map fun v => v.category).sum ≤ 8) (d : decode Y.cc pc = .ok (.invokestatic 191, 3)) (hc : 1 + c2 ≤ c1) (hs : 6 + s2 ≤ s1) (kk : ∀ μ2, JC b z A μ2 → LJ l G Y p e R s m args below meth c Q (pc + 3) L (.int (gv (k01 (ix x 4)) (aV A 4 x.toNatClampNeg) exIAE) :: st) μ2 c2 s2) : LJ l G Y p e R s m args below meth c Q pc L (.int x :: .int 108 :: .ref b :: st) μ c1 s1 := by
  obtain ⟨fr, ⟨G1, ar, s0, hr⟩, ai⟩ := id h
  exact lj_callJ (As := [.ref b, .int 108, .int x]) (dc := 1) (ds := 6) C hG.1 mw_of (by rw [hY]; exact cs_of) hR rfl (wc_of_l hG h.kb (gA_h (c_lineAt fr)) (fun E9 q => by rw [gA_e q]; simp)) (gA_j h) gA_n gA_s hcat d hc hs fun μ2 j => by rw [gA_v]; exact kk μ2 j
theorem lo_o (C : CW G Y p R s m meth c) (hG : Gok2 l G) (hY : Y.own = RL) (hR : mL_of.fr + 1 ≤ Y.fr ∧ 8 + (mL_of.maxL + 11) + mL_of.lo ≤ Y.lo) {x : Int32} (h : JC b z A μ) (hcat : (st.map fun v => v.category).sum ≤ 8) (d : decode Y.cc pc = .ok (.invokestatic 191, 3)) (hc : 1 + c2 ≤ c1) (hs : 6 + s2 ≤ s1) (kk : ∀ μ2, JC b z A μ2 → LJ l G Y p e R s m args below meth c Q (pc + 3) L (.int (gv (k01 (decide (rI (zc x) ≠ -1))) (nI (aN A 7 (rI (zc x)).toNatClampNeg)) exIAE) :: st) μ2 c2 s2) : LJ l G Y p e R s m args below meth c Q pc L (.int x :: .int 111 :: .ref b :: st) μ c1 s1 := by
  obtain ⟨fr, ⟨G1, ar, s0, hr⟩, ai⟩ := id h
  exact lj_callJ (As := [.ref b, .int 111, .int x]) (dc := 1) (ds := 6) C hG.1 mw_of (by rw [hY]; exact cs_of) hR rfl (wc_of_o hG h.kb (gA_h (c_lost fr)) (fun E9 q => by rw [gA_e q]; simp)) (gA_j h) gA_n gA_s hcat d hc hs fun μ2 j => by rw [gA_v]; exact kk μ2 j
theorem lo_k (C : CW G Y p R s m meth c) (hG : Gok2 l G) (hY : Y.own = RL) (hR : mL_of.fr + 1 ≤ Y.fr ∧ 8 + (mL_of.maxL + 11) + mL_of.lo ≤ Y.lo) {x : Int32} (h : JC b z A μ) (hcat : (st.map fun v => v.category).sum ≤ 8) (d : decode Y.cc pc = .ok (.invokestatic 191, 3)) (hc : 1 + c2 ≤ c1) (hs : 6 + s2 ≤ s1) (kk : ∀ μ2, JC b z A μ2 → LJ l G Y p e R s m args below meth c Q (pc + 3) L (.int (gv (if aS A 3 = 0 then 1 else 0) (nI (aS A 4)) exNSE) :: st) μ2 c2 s2) : LJ l G Y p e R s m args below meth c Q pc L (.int x :: .int 107 :: .ref b :: st) μ c1 s1 := by
  obtain ⟨fr, ⟨G1, ar, s0, hr⟩, ai⟩ := id h
  exact lj_callJ (As := [.ref b, .int 107, .int x]) (dc := 1) (ds := 6) C hG.1 mw_of (by rw [hY]; exact cs_of) hR rfl (wc_of_k hG h.kb (gA_h (cg_kept fr hr ai.s3)) (fun E9 q => by rw [gA_e q]; simp)) (gA_j h) gA_n gA_s hcat d hc hs fun μ2 j => by rw [gA_v]; exact kk μ2 j
theorem lo_f (C : CW G Y p R s m meth c) (hG : Gok2 l G) (hY : Y.own = RL) (hR : mL_of.fr + 1 ≤ Y.fr ∧ 8 + (mL_of.maxL + 11) + mL_of.lo ≤ Y.lo) {x : Int32} (h : JC b z A μ) (hcat : (st.map fun v => v.category).sum ≤ 8) (d : decode Y.cc pc = .ok (.invokestatic 191, 3)) (hc : 1 + c2 ≤ c1) (hs : 6 + s2 ≤ s1) (kk : ∀ μ2, JC b z A μ2 → LJ l G Y p e R s m args below meth c Q (pc + 3) L (.int (gv (if aS A 12 = 0 then 0 else 1) (nI (aS A 11)) exNSE) :: st) μ2 c2 s2) : LJ l G Y p e R s m args below meth c Q pc L (.int x :: .int 102 :: .ref b :: st) μ c1 s1 := by
  obtain ⟨fr, ⟨G1, ar, s0, hr⟩, ai⟩ := id h
  exact lj_callJ (As := [.ref b, .int 102, .int x]) (dc := 1) (ds := 6) C hG.1 mw_of (by rw [hY]; exact cs_of) hR rfl (wc_of_f hG h.kb (gA_h (cg_fetching fr ai.s12)) (fun E9 q => by rw [gA_e q]; simp)) (gA_j h) gA_n gA_s hcat d hc hs fun μ2 j => by rw [gA_v]; exact kk μ2 j
theorem la_k (C : CW G Y p R s m meth c) (hG : Gok2 l G) (hY : Y.own = RL) (hR : mL_at_.fr + 1 ≤ Y.fr ∧ 8 + (mL_at_.maxL + 11) + mL_at_.lo ≤ Y.lo) {x : Int32} (h : JC b z A μ) (hcat : (st.map fun v => v.category).sum ≤ 8) (d : decode Y.cc pc = .ok (.invokestatic 249, 3)) (hc : 1 + c2 ≤ c1) (hs : 6 + s2 ≤ s1) (kk : ∀ μ2, JC b z A μ2 → LJ l G Y p e R s m args below meth c Q (pc + 3) L (.int (gv (k01 (ix x (aS A 14))) (nI (aN A 14 x.toNatClampNeg)) exIOB) :: st) μ2 c2 s2) : LJ l G Y p e R s m args below meth c Q pc L (.int x :: .int 107 :: .ref b :: st) μ c1 s1 := by
  obtain ⟨fr, ⟨G1, ar, s0, hr⟩, ai⟩ := id h
  exact lj_callJ (As := [.ref b, .int 107, .int x]) (dc := 1) (ds := 6) C hG.1 mw_at_ (by rw [hY]; exact cs_at_) hR rfl (wc_at_k hG h.kb (gA_h ((c_endG fr hr (by have := ai.n14; omega)).1)) (fun E9 q => by rw [gA_e q]; simp)) (gA_j h) gA_n gA_s hcat d hc hs fun μ2 j => by rw [gA_v]; exact kk μ2 j
theorem la_p (C : CW G Y p R s m meth c) (hG : Gok2 l G) (hY : Y.own = RL) (hR : mL_at_.fr + 1 ≤ Y.fr ∧ 8 + (mL_at_.maxL + 11) + mL_at_.lo ≤ Y.lo) {x : Int32} (h : JC b z A μ) (hcat : (st.map fun v => v.category).sum ≤ 8) (d : decode Y.cc pc = .ok (.invokestatic 249, 3)) (hc : 1 + c2 ≤ c1) (hs : 6 + s2 ≤ s1) (kk : ∀ μ2, JC b z A μ2 → LJ l G Y p e R s m args below meth c Q (pc + 3) L (.int (gv (k01 (ix x (aS A 14))) (nI (aN A 15 x.toNatClampNeg)) exIOB) :: st) μ2 c2 s2) : LJ l G Y p e R s m args below meth c Q pc L (.int x :: .int 112 :: .ref b :: st) μ c1 s1 := by
  obtain ⟨fr, ⟨G1, ar, s0, hr⟩, ai⟩ := id h
  exact lj_callJ (As := [.ref b, .int 112, .int x]) (dc := 1) (ds := 6) C hG.1 mw_at_ (by rw [hY]; exact cs_at_) hR rfl (wc_at_p hG h.kb (gA_h ((c_endG fr hr (by have := ai.n14; omega)).2.1)) (fun E9 q => by rw [gA_e q]; simp)) (gA_j h) gA_n gA_s hcat d hc hs fun μ2 j => by rw [gA_v]; exact kk μ2 j
theorem la_l (C : CW G Y p R s m meth c) (hG : Gok2 l G) (hY : Y.own = RL) (hR : mL_at_.fr + 1 ≤ Y.fr ∧ 8 + (mL_at_.maxL + 11) + mL_at_.lo ≤ Y.lo) {x : Int32} (h : JC b z A μ) (hcat : (st.map fun v => v.category).sum ≤ 8) (d : decode Y.cc pc = .ok (.invokestatic 249, 3)) (hc : 1 + c2 ≤ c1) (hs : 6 + s2 ≤ s1) (kk : ∀ μ2, JC b z A μ2 → LJ l G Y p e R s m args below meth c Q (pc + 3) L (.int (gv (k01 (ix x (aS A 14))) (nI (aN A 14 x.toNatClampNeg)) exIOB) :: st) μ2 c2 s2) : LJ l G Y p e R s m args below meth c Q pc L (.int x :: .int 108 :: .ref b :: st) μ c1 s1 := by
  obtain ⟨fr, ⟨G1, ar, s0, hr⟩, ai⟩ := id h
  exact lj_callJ (As := [.ref b, .int 108, .int x]) (dc := 1) (ds := 6) C hG.1 mw_at_ (by rw [hY]; exact cs_at_) hR rfl (wc_at_l hG h.kb (gA_h ((c_endG fr hr (by have := ai.n14; omega)).2.2.1)) (fun E9 q => by rw [gA_e q]; simp)) (gA_j h) gA_n gA_s hcat d hc hs fun μ2 j => by rw [gA_v]; exact kk μ2 j
theorem la_q (C : CW G Y p R s m meth c) (hG : Gok2 l G) (hY : Y.own = RL) (hR : mL_at_.fr + 1 ≤ Y.fr ∧ 8 + (mL_at_.maxL + 11) + mL_at_.lo ≤ Y.lo) {x : Int32} (h : JC b z A μ) (hcat : (st.map fun v => v.category).sum ≤ 8) (d : decode Y.cc pc = .ok (.invokestatic 249, 3)) (hc : 1 + c2 ≤ c1) (hs : 6 + s2 ≤ s1) (kk : ∀ μ2, JC b z A μ2 → LJ l G Y p e R s m args below meth c Q (pc + 3) L (.int (gv (k01 (ix x (aS A 14))) (nI (aN A 15 x.toNatClampNeg)) exIOB) :: st) μ2 c2 s2) : LJ l G Y p e R s m args below meth c Q pc L (.int x :: .int 113 :: .ref b :: st) μ c1 s1 := by
  obtain ⟨fr, ⟨G1, ar, s0, hr⟩, ai⟩ := id h
  exact lj_callJ (As := [.ref b, .int 113, .int x]) (dc := 1) (ds := 6) C hG.1 mw_at_ (by rw [hY]; exact cs_at_) hR rfl (wc_at_q hG h.kb (gA_h ((c_endG fr hr (by have := ai.n14; omega)).2.2.2)) (fun E9 q => by rw [gA_e q]; simp)) (gA_j h) gA_n gA_s hcat d hc hs fun μ2 j => by rw [gA_v]; exact kk μ2 j
theorem la_b (C : CW G Y p R s m meth c) (hG : Gok2 l G) (hY : Y.own = RL) (hR : mL_at_.fr + 1 ≤ Y.fr ∧ 8 + (mL_at_.maxL + 11) + mL_at_.lo ≤ Y.lo) {x : Int32} (h : JC b z A μ) (hcat : (st.map fun v => v.category).sum ≤ 8) (d : decode Y.cc pc = .ok (.invokestatic 249, 3)) (hc : 1 + c2 ≤ c1) (hs : 6 + s2 ≤ s1) (kk : ∀ μ2, JC b z A μ2 → LJ l G Y p e R s m args below meth c Q (pc + 3) L (.int (gv (k01 (ix x (aS A 9))) (nI ((aB A x.toNatClampNeg).1 0)) exIOB) :: st) μ2 c2 s2) : LJ l G Y p e R s m args below meth c Q pc L (.int x :: .int 98 :: .ref b :: st) μ c1 s1 := by
  obtain ⟨fr, ⟨G1, ar, s0, hr⟩, ai⟩ := id h
  exact lj_callJ (As := [.ref b, .int 98, .int x]) (dc := 1) (ds := 6) C hG.1 mw_at_ (by rw [hY]; exact cs_at_) hR rfl (wc_at_b hG h.kb (gA_h (c_bufferAt fr hr ai.n9 ai.eo)) (fun E9 q => by rw [gA_e q]; simp)) (gA_j h) gA_n gA_s hcat d hc hs fun μ2 j => by rw [gA_v]; exact kk μ2 j
theorem la_s (C : CW G Y p R s m meth c) (hG : Gok2 l G) (hY : Y.own = RL) (hR : mL_at_.fr + 1 ≤ Y.fr ∧ 8 + (mL_at_.maxL + 11) + mL_at_.lo ≤ Y.lo) {x : Int32} (h : JC b z A μ) (hcat : (st.map fun v => v.category).sum ≤ 8) (d : decode Y.cc pc = .ok (.invokestatic 249, 3)) (hc : 1 + c2 ≤ c1) (hs : 6 + s2 ≤ s1) (kk : ∀ μ2, JC b z A μ2 → LJ l G Y p e R s m args below meth c Q (pc + 3) L (.int (gv (k01 (ix x (aS A 9))) (nI ((aB A x.toNatClampNeg).1 10)) exIOB) :: st) μ2 c2 s2) : LJ l G Y p e R s m args below meth c Q pc L (.int x :: .int 115 :: .ref b :: st) μ c1 s1 := by
  obtain ⟨fr, ⟨G1, ar, s0, hr⟩, ai⟩ := id h
  exact lj_callJ (As := [.ref b, .int 115, .int x]) (dc := 1) (ds := 6) C hG.1 mw_at_ (by rw [hY]; exact cs_at_) hR rfl (wc_at_s hG h.kb (gA_h (c_stageAt fr hr ai.n9 ai.es)) (fun E9 q => by rw [gA_e q]; simp)) (gA_j h) gA_n gA_s hcat d hc hs fun μ2 j => by rw [gA_v]; exact kk μ2 j
theorem la_f (C : CW G Y p R s m meth c) (hG : Gok2 l G) (hY : Y.own = RL) (hR : mL_at_.fr + 1 ≤ Y.fr ∧ 8 + (mL_at_.maxL + 11) + mL_at_.lo ≤ Y.lo) {x : Int32} (h : JC b z A μ) (hcat : (st.map fun v => v.category).sum ≤ 8) (d : decode Y.cc pc = .ok (.invokestatic 249, 3)) (hc : 1 + c2 ≤ c1) (hs : 6 + s2 ≤ s1) (kk : ∀ μ2, JC b z A μ2 → LJ l G Y p e R s m args below meth c Q (pc + 3) L (.int (gv (k01 (ix x (aS A 7))) (nI (aN A 3 x.toNatClampNeg)) exIOB) :: st) μ2 c2 s2) : LJ l G Y p e R s m args below meth c Q pc L (.int x :: .int 102 :: .ref b :: st) μ c1 s1 := by
  obtain ⟨fr, ⟨G1, ar, s0, hr⟩, ai⟩ := id h
  exact lj_callJ (As := [.ref b, .int 102, .int x]) (dc := 1) (ds := 6) C hG.1 mw_at_ (by rw [hY]; exact cs_at_) hR rfl (wc_at_f hG h.kb (gA_h (c_freeAt fr ai.s7)) (fun E9 q => by rw [gA_e q]; simp)) (gA_j h) gA_n gA_s hcat d hc hs fun μ2 j => by rw [gA_v]; exact kk μ2 j
theorem la_t (C : CW G Y p R s m meth c) (hG : Gok2 l G) (hY : Y.own = RL) (hR : mL_at_.fr + 1 ≤ Y.fr ∧ 8 + (mL_at_.maxL + 11) + mL_at_.lo ≤ Y.lo) {x : Int32} (h : JC b z A μ) (hcat : (st.map fun v => v.category).sum ≤ 8) (d : decode Y.cc pc = .ok (.invokestatic 249, 3)) (hc : 1 + c2 ≤ c1) (hs : 6 + s2 ≤ s1) (kk : ∀ μ2, JC b z A μ2 → LJ l G Y p e R s m args below meth c Q (pc + 3) L (.int (gv (k01 (ix x (aS A 8))) (stV A x.toNatClampNeg) exIOB) :: st) μ2 c2 s2) : LJ l G Y p e R s m args below meth c Q pc L (.int x :: .int 116 :: .ref b :: st) μ c1 s1 := by
  obtain ⟨fr, ⟨G1, ar, s0, hr⟩, ai⟩ := id h
  exact lj_callJ (As := [.ref b, .int 116, .int x]) (dc := 1) (ds := 6) C hG.1 mw_at_ (by rw [hY]; exact cs_at_) hR rfl (wc_at_t hG h.kb (gA_h (c_stateOf fr ai.ib)) (fun E9 q => by rw [gA_e q]; simp)) (gA_j h) gA_n gA_s hcat d hc hs fun μ2 j => by rw [gA_v]; exact kk μ2 j
theorem la_y (C : CW G Y p R s m meth c) (hG : Gok2 l G) (hY : Y.own = RL) (hR : mL_at_.fr + 1 ≤ Y.fr ∧ 8 + (mL_at_.maxL + 11) + mL_at_.lo ≤ Y.lo) {x : Int32} (h : JC b z A μ) (hcat : (st.map fun v => v.category).sum ≤ 8) (d : decode Y.cc pc = .ok (.invokestatic 249, 3)) (hc : 1 + c2 ≤ c1) (hs : 6 + s2 ≤ s1) (kk : ∀ μ2, JC b z A μ2 → LJ l G Y p e R s m args below meth c Q (pc + 3) L (.int (gv (k01 (ix x (aS A 8))) (bI (decide (aN A 2 x.toNatClampNeg = 1))) exIOB) :: st) μ2 c2 s2) : LJ l G Y p e R s m args below meth c Q pc L (.int x :: .int 121 :: .ref b :: st) μ c1 s1 := by
  obtain ⟨fr, ⟨G1, ar, s0, hr⟩, ai⟩ := id h
  exact lj_callJ (As := [.ref b, .int 121, .int x]) (dc := 1) (ds := 6) C hG.1 mw_at_ (by rw [hY]; exact cs_at_) hR rfl (wc_at_y hG h.kb (gA_h (c_isReady fr ai.n8 ai.a2)) (fun E9 q => by rw [gA_e q]; simp) (fun w q => by obtain ⟨q1, q2⟩ := gA_w q; rw [q2]; exact bI_01 _)) (gA_j h) gA_n gA_s hcat d hc hs fun μ2 j => by rw [gA_v]; exact kk μ2 j
theorem la_r (C : CW G Y p R s m meth c) (hG : Gok2 l G) (hY : Y.own = RL) (hR : mL_at_.fr + 1 ≤ Y.fr ∧ 8 + (mL_at_.maxL + 11) + mL_at_.lo ≤ Y.lo) {x : Int32} (h : JC b z A μ) (hcat : (st.map fun v => v.category).sum ≤ 8) (d : decode Y.cc pc = .ok (.invokestatic 249, 3)) (hc : 1 + c2 ≤ c1) (hs : 6 + s2 ≤ s1) (kk : ∀ μ2, JC b z A μ2 → LJ l G Y p e R s m args below meth c Q (pc + 3) L (.int (gv (k01 (ix x (aT A).length)) (nI ((aT A).getD ((aT A).length - 1 - x.toNatClampNeg) 0)) exIOB) :: st) μ2 c2 s2) : LJ l G Y p e R s m args below meth c Q pc L (.int x :: .int 114 :: .ref b :: st) μ c1 s1 := by
  obtain ⟨fr, ⟨G1, ar, s0, hr⟩, ai⟩ := id h
  exact lj_callJ (As := [.ref b, .int 114, .int x]) (dc := 1) (ds := 6) C hG.1 mw_at_ (by rw [hY]; exact cs_at_) hR rfl (wc_at_r hG h.kb (gA_h (c_returnAt fr hr ai.t4)) (fun E9 q => by rw [gA_e q]; simp)) (gA_j h) gA_n gA_s hcat d hc hs fun μ2 j => by rw [gA_v]; exact kk μ2 j
def lv3 (A : Sx) (x y : Int32) : Int32 := exv (if kLife A x y = 0 then .inl (lifeV A x.toNatClampNeg y.toNatClampNeg) else .inr (if kLife A x y = 1 then exIOB else if kLife A x y = 2 then exIAE else exNSE))
theorem lj_life (C : CW G Y p R s m meth c) (hG : Gok2 l G) (hY : Y.own = RL) (hR : mL_life.fr + 1 ≤ Y.fr ∧ 8 + (mL_life.maxL + 11) + mL_life.lo ≤ Y.lo) {x y : Int32} (h : JC b z A μ) (hcat : (st.map fun v => v.category).sum ≤ 8) (d : decode Y.cc pc = .ok (.invokestatic 260, 3)) (hc : 1 + c2 ≤ c1) (hs : 6 + s2 ≤ s1) (kk : ∀ μ2, JC b z A μ2 → LJ l G Y p e R s m args below meth c Q (pc + 3) L (.int (lv3 A x y) :: st) μ2 c2 s2) : LJ l G Y p e R s m args below meth c Q pc L (.int y :: .int x :: .ref b :: st) μ c1 s1 := by
  obtain ⟨fr, ⟨G1, ar, s0, hr⟩, ai⟩ := id h
  have cf := c_life (x := x) (y := y) fr hr (by have := ai.n14; omega)
  by_cases hk : kLife A x y = 0
  · have ef : f_X10_life b x y μ = some (.inl (lifeV A x.toNatClampNeg y.toNatClampNeg), μ) := by rw [cf]; unfold ocL; rw [if_pos hk]
    refine lj_callJ (As := [.ref b, .int x, .int y]) (dc := 1) (ds := 6) C hG.1 mw_life (by rw [hY]; exact cs_life) hR rfl (wc_life hG h.kb ef (fun E9 q => by cases q)) h (by omega) (by omega) hcat d hc hs fun μ2 j => ?_
    have := kk μ2 j
    unfold lv3 at this
    rw [if_pos hk] at this
    exact this
  · have ef : f_X10_life b x y μ = some (.inr (if kLife A x y = 1 then exIOB else if kLife A x y = 2 then exIAE else exNSE), bump μ 6) := by rw [cf]; unfold ocL; rw [if_neg hk]
    refine lj_callJ (As := [.ref b, .int x, .int y]) (dc := 1) (ds := 6) C hG.1 mw_life (by rw [hY]; exact cs_life) hR rfl (wc_life hG h.kb ef (fun E9 q => by
      cases q
      split
      · simp
      · split <;> simp)) h.bump (Nat.le_refl _) (Nat.le_refl _) hcat d hc hs fun μ2 j => ?_
    have := kk μ2 j
    unfold lv3 at this
    rw [if_neg hk] at this
    exact this
theorem kSet_le (A : Sx) (p : Bool) : kSet A p ≤ 2 := by
  unfold kSet
  split
  · decide
  · split <;> decide
theorem kSet_0 {p : Bool} (h : kSet A p = 0) : p = true ∧ aS A 0 = 0 := by
  unfold kSet at h
  split at h
  · cases h
  · rename_i hp
    split at h
    · rename_i h0
      exact ⟨Bool.not_eq_false _ ▸ (by simpa using hp), h0⟩
    · cases h
theorem AI.set {k : Nat} {A' B : Sx} (ai : AI A) (k0 : k = 0 → aS A 0 = 0) (eA : A' = if k = 0 then B else A) (zB : k = 0 → Z0 A → Z0 B) : AI A' := by
  by_cases hk : k = 0
  · rw [if_pos hk] at eA
    subst eA
    exact AI.z0 (zB hk (ai.2.1 (k0 hk)))
  · rw [if_neg hk] at eA
    subst eA
    exact ai
theorem ls_r (C : CW G Y p R s m meth c) (hG : Gok2 l G) (hY : Y.own = RL) (hR : mL_set.fr + 1 ≤ Y.fr ∧ 8 + (mL_set.maxL + 11) + mL_set.lo ≤ Y.lo) {x y : Int32} (h : JC b z A μ) (hcat : (st.map fun v => v.category).sum ≤ 8) (d : decode Y.cc pc = .ok (.invokestatic 231, 3)) (hc : 1 + c2 ≤ c1) (hs : 6 + s2 ≤ s1) (kk : ∀ A' μ2, A' = (if kSet A (rok x) = 0 then zV (zV A 1 x.toNatClampNeg y) 6 x.toNatClampNeg y else A) → JC b z A' μ2 → LJ l G Y p e R s m args below meth c Q (pc + 3) L (.int (exv (oc (kSet A (rok x)) (aV A 1 x.toNatClampNeg))) :: st) μ2 c2 s2) : LJ l G Y p e R s m args below meth c Q pc L (.int y :: .int x :: .int 114 :: .ref b :: st) μ c1 s1 := by
  refine lj_wf fun w => ?_
  obtain ⟨fr, ⟨G1, ar, s0, hr⟩, ai⟩ := id h
  obtain ⟨A1, μ9, eA, ef, fr', hr', ck⟩ := c_setReg (x := x) (v := y) fr hr ai.2.2 (fun q => ⟨(ai.z14 q).2.2, (ai.2.1 q).2.2.2.2.2.2.2.2.2.2.2.1⟩)
  have ai' : AI A1 := by
    exact ai.set (fun q => (kSet_0 q).2) eA (fun q zA => z0_reg zA)
  exact lj_callJ (As := [.ref b, .int 114, .int x, .int y]) (dc := 1) (ds := 6) C hG.1 mw_set (by rw [hY]; exact cs_set) hR rfl (wc_set_r hG h.kb ef (fun E9 q => oc_e q)) (⟨fr', ⟨_, _, _, hr'⟩, ai'⟩ : JC b z A1 _) ck.2.2.1 ck.2.2.2.1 hcat d hc hs fun μ2 j => kk A1 μ2 eA j
theorem ls_w (C : CW G Y p R s m meth c) (hG : Gok2 l G) (hY : Y.own = RL) (hR : mL_set.fr + 1 ≤ Y.fr ∧ 8 + (mL_set.maxL + 11) + mL_set.lo ≤ Y.lo) {x y : Int32} (h : JC b z A μ) (hcat : (st.map fun v => v.category).sum ≤ 8) (d : decode Y.cc pc = .ok (.invokestatic 231, 3)) (hc : 1 + c2 ≤ c1) (hs : 6 + s2 ≤ s1) (kk : ∀ A' μ2, A' = (if kSet A (adok x) = 0 then zV (zV A 2 x.toNatClampNeg y) 7 x.toNatClampNeg y else A) → JC b z A' μ2 → LJ l G Y p e R s m args below meth c Q (pc + 3) L (.int (exv (oc (kSet A (adok x)) (aV A 2 x.toNatClampNeg))) :: st) μ2 c2 s2) : LJ l G Y p e R s m args below meth c Q pc L (.int y :: .int x :: .int 119 :: .ref b :: st) μ c1 s1 := by
  refine lj_wf fun w => ?_
  obtain ⟨fr, ⟨G1, ar, s0, hr⟩, ai⟩ := id h
  obtain ⟨A1, μ9, eA, ef, fr', hr', ck⟩ := c_setWord (x := x) (v := y) fr hr ai.2.2 (fun q => ⟨(ai.z14 q).2.2, (ai.2.1 q).2.2.2.2.2.2.2.2.2.2.2.2⟩)
  have ai' : AI A1 := by
    exact ai.set (fun q => (kSet_0 q).2) eA (fun q zA => z0_word zA)
  exact lj_callJ (As := [.ref b, .int 119, .int x, .int y]) (dc := 1) (ds := 6) C hG.1 mw_set (by rw [hY]; exact cs_set) hR rfl (wc_set_w hG h.kb ef (fun E9 q => oc_e q)) (⟨fr', ⟨_, _, _, hr'⟩, ai'⟩ : JC b z A1 _) ck.2.2.1 ck.2.2.2.1 hcat d hc hs fun μ2 j => kk A1 μ2 eA j
theorem ls_d (C : CW G Y p R s m meth c) (hG : Gok2 l G) (hY : Y.own = RL) (hR : mL_set.fr + 1 ≤ Y.fr ∧ 8 + (mL_set.maxL + 11) + mL_set.lo ≤ Y.lo) {x y : Int32} (h : JC b z A μ) (hcat : (st.map fun v => v.category).sum ≤ 8) (d : decode Y.cc pc = .ok (.invokestatic 231, 3)) (hc : 1 + c2 ≤ c1) (hs : 6 + s2 ≤ s1) (kk : ∀ A' μ2, A' = (if kSet A (!decide (x < 1) && decide (x ≤ 4)) = 0 then zS A 16 x.toNatClampNeg else A) → JC b z A' μ2 → LJ l G Y p e R s m args below meth c Q (pc + 3) L (.int (exv (oc (kSet A (!decide (x < 1) && decide (x ≤ 4))) (nI (aS A 16)))) :: st) μ2 c2 s2) : LJ l G Y p e R s m args below meth c Q pc L (.int y :: .int x :: .int 100 :: .ref b :: st) μ c1 s1 := by
  refine lj_wf fun w => ?_
  obtain ⟨fr, ⟨G1, ar, s0, hr⟩, ai⟩ := id h
  obtain ⟨k, A1, μ9, ek, eA, en, ef, fr', hr', ck⟩ := c_setW (x := x) fr hr ai.2.2
  subst ek
  have ai' : AI A1 := by
    exact ai.set (fun q => (kSet_0 q).2) eA (fun q zA => by
      obtain ⟨n, g1, g2, g3, g4⟩ := en q
      exact (by rw [g4]; exact z0_S zA (Or.inl ⟨rfl, g1, g2⟩)))
  exact lj_callJ (As := [.ref b, .int 100, .int x, .int y]) (dc := 1) (ds := 6) C hG.1 mw_set (by rw [hY]; exact cs_set) hR rfl (wc_set_d hG h.kb ef (fun E9 q => oc_e q)) (⟨fr', ⟨_, _, _, hr'⟩, ai'⟩ : JC b z A1 _) ck.2.2.1 ck.2.2.2.1 hcat d hc hs fun μ2 j => kk A1 μ2 eA j
theorem ls_b (C : CW G Y p R s m meth c) (hG : Gok2 l G) (hY : Y.own = RL) (hR : mL_set.fr + 1 ≤ Y.fr ∧ 8 + (mL_set.maxL + 11) + mL_set.lo ≤ Y.lo) {x y : Int32} (h : JC b z A μ) (hcat : (st.map fun v => v.category).sum ≤ 8) (d : decode Y.cc pc = .ok (.invokestatic 231, 3)) (hc : 1 + c2 ≤ c1) (hs : 6 + s2 ≤ s1) (kk : ∀ A' μ2, A' = (if kSet A (!decide (x < 4) && decide (x ≤ 16)) = 0 then zS A 17 x.toNatClampNeg else A) → JC b z A' μ2 → LJ l G Y p e R s m args below meth c Q (pc + 3) L (.int (exv (oc (kSet A (!decide (x < 4) && decide (x ≤ 16))) (nI (aS A 17)))) :: st) μ2 c2 s2) : LJ l G Y p e R s m args below meth c Q pc L (.int y :: .int x :: .int 98 :: .ref b :: st) μ c1 s1 := by
  refine lj_wf fun w => ?_
  obtain ⟨fr, ⟨G1, ar, s0, hr⟩, ai⟩ := id h
  obtain ⟨k, A1, μ9, ek, eA, en, ef, fr', hr', ck⟩ := c_setB (x := x) fr hr ai.2.2
  subst ek
  have ai' : AI A1 := by
    exact ai.set (fun q => (kSet_0 q).2) eA (fun q zA => by
      obtain ⟨n, g1, g2, g3, g4⟩ := en q
      exact (by rw [g4]; exact z0_S zA (Or.inr (Or.inl ⟨rfl, g1, g2⟩))))
  exact lj_callJ (As := [.ref b, .int 98, .int x, .int y]) (dc := 1) (ds := 6) C hG.1 mw_set (by rw [hY]; exact cs_set) hR rfl (wc_set_b hG h.kb ef (fun E9 q => oc_e q)) (⟨fr', ⟨_, _, _, hr'⟩, ai'⟩ : JC b z A1 _) ck.2.2.1 ck.2.2.2.1 hcat d hc hs fun μ2 j => kk A1 μ2 eA j
theorem ls_q (C : CW G Y p R s m meth c) (hG : Gok2 l G) (hY : Y.own = RL) (hR : mL_set.fr + 1 ≤ Y.fr ∧ 8 + (mL_set.maxL + 11) + mL_set.lo ≤ Y.lo) {x y : Int32} (h : JC b z A μ) (hcat : (st.map fun v => v.category).sum ≤ 8) (d : decode Y.cc pc = .ok (.invokestatic 231, 3)) (hc : 1 + c2 ≤ c1) (hs : 6 + s2 ≤ s1) (kk : ∀ A' μ2, A' = (if kSet A (!decide (x < 2) && decide (x ≤ 8)) = 0 then zS A 18 x.toNatClampNeg else A) → JC b z A' μ2 → LJ l G Y p e R s m args below meth c Q (pc + 3) L (.int (exv (oc (kSet A (!decide (x < 2) && decide (x ≤ 8))) (nI (aS A 18)))) :: st) μ2 c2 s2) : LJ l G Y p e R s m args below meth c Q pc L (.int y :: .int x :: .int 113 :: .ref b :: st) μ c1 s1 := by
  refine lj_wf fun w => ?_
  obtain ⟨fr, ⟨G1, ar, s0, hr⟩, ai⟩ := id h
  obtain ⟨k, A1, μ9, ek, eA, en, ef, fr', hr', ck⟩ := c_setQ (x := x) fr hr ai.2.2
  subst ek
  have ai' : AI A1 := by
    exact ai.set (fun q => (kSet_0 q).2) eA (fun q zA => by
      obtain ⟨n, g1, g2, g3, g4⟩ := en q
      exact (by rw [g4]; exact z0_S zA (Or.inr (Or.inr (Or.inl ⟨rfl, g1, g2⟩)))))
  exact lj_callJ (As := [.ref b, .int 113, .int x, .int y]) (dc := 1) (ds := 6) C hG.1 mw_set (by rw [hY]; exact cs_set) hR rfl (wc_set_q hG h.kb ef (fun E9 q => oc_e q)) (⟨fr', ⟨_, _, _, hr'⟩, ai'⟩ : JC b z A1 _) ck.2.2.1 ck.2.2.2.1 hcat d hc hs fun μ2 j => kk A1 μ2 eA j
theorem ls_i (C : CW G Y p R s m meth c) (hG : Gok2 l G) (hY : Y.own = RL) (hR : mL_set.fr + 1 ≤ Y.fr ∧ 8 + (mL_set.maxL + 11) + mL_set.lo ≤ Y.lo) {x y : Int32} (h : JC b z A μ) (hcat : (st.map fun v => v.category).sum ≤ 8) (d : decode Y.cc pc = .ok (.invokestatic 231, 3)) (hc : 1 + c2 ≤ c1) (hs : 6 + s2 ≤ s1) (kk : ∀ A' μ2, A' = (if kSet A (!decide (x < 10) && decide (x ≤ 24)) = 0 then inA A x.toNatClampNeg else A) → JC b z A' μ2 → LJ l G Y p e R s m args below meth c Q (pc + 3) L (.int (exv (oc (kSet A (!decide (x < 10) && decide (x ≤ 24))) (nI (aS A 8)))) :: st) μ2 c2 s2) : LJ l G Y p e R s m args below meth c Q pc L (.int y :: .int x :: .int 105 :: .ref b :: st) μ c1 s1 := by
  refine lj_wf fun w => ?_
  obtain ⟨fr, ⟨G1, ar, s0, hr⟩, ai⟩ := id h
  obtain ⟨k, A1, μ9, ek, eA, en, ef, fr', hr', ck⟩ := c_setInner (x := x) fr hr ai.2.2
  subst ek
  have ai' : AI A1 := by
    exact ai.set (fun q => (kSet_0 q).2) eA (fun q zA => by
      obtain ⟨n, g1, g2, g3, g4⟩ := en q
      exact (by rw [g4]; exact z0_inA zA ⟨g1, g2⟩))
  exact lj_callJ (As := [.ref b, .int 105, .int x, .int y]) (dc := 1) (ds := 6) C hG.1 mw_set (by rw [hY]; exact cs_set) hR rfl (wc_set_i hG h.kb ef (fun E9 q => oc_e q)) (⟨fr', ⟨_, _, _, hr'⟩, ai'⟩ : JC b z A1 _) ck.2.2.1 ck.2.2.2.1 hcat d hc hs fun μ2 j => kk A1 μ2 eA j
theorem ls_h (C : CW G Y p R s m meth c) (hG : Gok2 l G) (hY : Y.own = RL) (hR : mL_set.fr + 1 ≤ Y.fr ∧ 8 + (mL_set.maxL + 11) + mL_set.lo ≤ Y.lo) {x y : Int32} (h : JC b z A μ) (hcat : (st.map fun v => v.category).sum ≤ 8) (d : decode Y.cc pc = .ok (.invokestatic 231, 3)) (hc : 1 + c2 ≤ c1) (hs : 6 + s2 ≤ s1) (kk : ∀ A' μ2, A' = (if kSet A (okH x && okH y) = 0 then zV (zV A 0 0 x) 0 1 y else A) → JC b z A' μ2 → LJ l G Y p e R s m args below meth c Q (pc + 3) L (.int (exv (oc (kSet A (okH x && okH y)) (64 * aV A 0 0 + aV A 0 1))) :: st) μ2 c2 s2) : LJ l G Y p e R s m args below meth c Q pc L (.int y :: .int x :: .int 104 :: .ref b :: st) μ c1 s1 := by
  refine lj_wf fun w => ?_
  obtain ⟨fr, ⟨G1, ar, s0, hr⟩, ai⟩ := id h
  obtain ⟨A1, μ9, eA, ef, fr', hr', ck⟩ := c_setHand (x := x) (y := y) fr hr ai.2.2 (fun q => (ai.z14 q).2.2)
  have ai' : AI A1 := by
    exact ai.set (fun q => (kSet_0 q).2) eA (fun q zA => by
      have hp := (kSet_0 q).1
      simp only [Bool.and_eq_true] at hp
      refine z0_hand zA ?_ ?_
      · have := hp.1; unfold okH at this; simpa using this
      · have := hp.2; unfold okH at this; simpa using this)
  exact lj_callJ (As := [.ref b, .int 104, .int x, .int y]) (dc := 1) (ds := 6) C hG.1 mw_set (by rw [hY]; exact cs_set) hR rfl (wc_set_h hG h.kb ef (fun E9 q => oc_e q)) (⟨fr', ⟨_, _, _, hr'⟩, ai'⟩ : JC b z A1 _) ck.2.2.1 ck.2.2.2.1 hcat d hc hs fun μ2 j => kk A1 μ2 eA j
theorem ls_t (C : CW G Y p R s m meth c) (hG : Gok2 l G) (hY : Y.own = RL) (hR : mL_set.fr + 1 ≤ Y.fr ∧ 8 + (mL_set.maxL + 11) + mL_set.lo ≤ Y.lo) {x y : Int32} (h : JC b z A μ) (hcat : (st.map fun v => v.category).sum ≤ 8) (d : decode Y.cc pc = .ok (.invokestatic 231, 3)) (hc : 1 + c2 ≤ c1) (hs : 6 + s2 ≤ s1) (kk : ∀ A' μ2, A' = (if kTm x y = 0 then zN A 6 x.toNatClampNeg y.toNatClampNeg else A) → JC b z A' μ2 → LJ l G Y p e R s m args below meth c Q (pc + 3) L (.int (exv (oc (kTm x y) (nI (aN A 6 x.toNatClampNeg)))) :: st) μ2 c2 s2) : LJ l G Y p e R s m args below meth c Q pc L (.int y :: .int x :: .int 116 :: .ref b :: st) μ c1 s1 := by
  refine lj_wf fun w => ?_
  obtain ⟨fr, ⟨G1, ar, s0, hr⟩, ai⟩ := id h
  obtain ⟨A1, μ9, eA, ef, fr', hr', ck⟩ := c_setTime (x := x) (y := y) fr hr
  have ai' : AI A1 := by
    by_cases hk : kTm x y = 0
    · rw [if_pos hk] at eA
      subst eA
      obtain ⟨l9, n9, t1, t2, t3, t4, t5, t6, t7⟩ := kTm_0 hk
      exact ⟨iy_time ai.1 (by omega), fun q => z0_time (ai.2.1 q) (by omega), ai.2.2⟩
    · rw [if_neg hk] at eA
      subst eA
      exact ai
  exact lj_callJ (As := [.ref b, .int 116, .int x, .int y]) (dc := 1) (ds := 6) C hG.1 mw_set (by rw [hY]; exact cs_set) hR rfl (wc_set_t hG h.kb ef (fun E9 q => oc_e q)) (⟨fr', ⟨_, _, _, hr'⟩, ai'⟩ : JC b z A1 _) ck.2.2.1 ck.2.2.2.1 hcat d hc hs fun μ2 j => kk A1 μ2 eA j
/-- what the cycles to come may cost, and the ends to come -/
def PC (A : Sx) : Nat := (if aS A 1 = 0 then 40 * (500 - aS A 0) else 0) + 4 * (2004 - aS A 14)
def PS (A : Sx) : Nat := (if aS A 1 = 0 then 13100 * (500 - aS A 0) else 0) + 24 * (2004 - aS A 14)
theorem kRun_le (x : Int32) : kRun A x ≤ 2 := by
  unfold kRun
  split
  · decide
  · split <;> decide
/-- what is known behind a run -/
def RN (A A' : Sx) (x : Int32) : Prop := A' = (if kRun A x = 0 then runA A x.toNatClampNeg else A) ∧ aS A' 15 = aS A 15 ∧ aS A' 8 = aS A 8 ∧ aS A 14 ≤ aS A' 14 ∧ aS A 0 ≤ aS A' 0 ∧ aS A' 0 ≤ aS A 0 + x.toNatClampNeg ∧ (kRun A x = 0 → 1 ≤ aS A' 0)
theorem ls_c (C : CW G Y p R s m meth c) (hG : Gok2 l G) (hY : Y.own = RL) (hR : mL_set.fr + 1 ≤ Y.fr ∧ 8 + (mL_set.maxL + 11) + mL_set.lo ≤ Y.lo) {x y : Int32} (h : JC b z A μ) (hcat : (st.map fun v => v.category).sum ≤ 8) (d : decode Y.cc pc = .ok (.invokestatic 231, 3)) (kk : ∀ A' μ2, RN A A' x → JC b z A' μ2 → LJ l G Y p e R s m args below meth c Q (pc + 3) L (.int (exv (oc (kRun A x) (nI (aS A' 14) - nI (aS A 14)))) :: st) μ2 (c2 + PC A' + 4 * (aS A' 14 - aS A 14)) (s2 + PS A' + 24 * (aS A' 14 - aS A 14))) : LJ l G Y p e R s m args below meth c Q pc L (.int y :: .int x :: .int 99 :: .ref b :: st) μ (c2 + 4 + PC A) (s2 + 220 + PS A) := by
  refine lj_wf fun w => ?_
  obtain ⟨fr, ⟨G1, ar, s0, hr⟩, ai⟩ := id h
  obtain ⟨A1, G2, ar2, s2', μ9, eA, ef, fr', hr', ck, iy'⟩ := c_run (x := x) fr hr w ai.1 ai.2.2
  have fin : AI A1 ∧ RN A A1 x ∧ (if kRun A x = 0 then 30 * x.toNatClampNeg else 1) + PC A1 + 4 * (aS A1 14 - aS A 14) ≤ 4 + PC A ∧ (if kRun A x = 0 then 13000 * x.toNatClampNeg else 6) + PS A1 + 24 * (aS A1 14 - aS A 14) ≤ 220 + PS A := by
    by_cases hk : kRun A x = 0
    · have eA2 := eA
      rw [if_pos hk] at eA2
      rw [if_pos hk, if_pos hk]
      obtain ⟨a1, n, n1, n2, -, n3, n4⟩ := kRun_0 hk ai.2.2
      obtain ⟨r1, r2, r3⟩ := runA_c n ai.1.1.1 n4
      obtain ⟨j1, j2, j3⟩ := k2_run (n := aS A 15) (m := aS A 8) (e := aS A 14) n ai.1.1 n4 ⟨rfl, rfl, Nat.le_refl _⟩
      have r4 : aS A 0 + 1 ≤ aS (runA A n) 0 := by
        obtain ⟨m, rfl⟩ : ∃ m, n = m + 1 := ⟨n - 1, by omega⟩
        have hr : runA A (m + 1) = if aS A 1 = 0 then runA (cycA A) m else A := rfl
        rw [hr, if_pos a1]
        obtain ⟨g1, g2⟩ := cycA_ia ai.1.1.1 a1 (by omega)
        have := (runA_c m g1 (by omega)).1
        omega
      rw [n3] at eA2 ⊢
      rw [← eA2] at r1 r2 r3 r4 j1 j2 j3
      have ai1 : AI A1 := ⟨iy', fun q => by omega, by omega⟩
      have e14 := ai1.n14
      refine ⟨ai1, ⟨eA, j1, j2, j3, r1, by rw [n3]; exact r2, fun _ => by omega⟩, ?_, ?_⟩
      · unfold PC
        rw [if_pos a1]
        split
        · rename_i q
          have := r3 q
          omega
        · omega
      · unfold PS
        rw [if_pos a1]
        split
        · rename_i q
          have := r3 q
          omega
        · omega
    · have eA2 := eA
      rw [if_neg hk] at eA2
      rw [if_neg hk, if_neg hk]
      subst eA2
      refine ⟨ai, ⟨eA, rfl, rfl, Nat.le_refl _, Nat.le_refl _, Nat.le_add_right _ _, fun q => absurd q hk⟩, by omega, by omega⟩
  obtain ⟨ai', rn, pc, ps⟩ := fin
  exact lj_callJ (As := [.ref b, .int 99, .int x, .int y]) C hG.1 mw_set (by rw [hY]; exact cs_set) hR rfl (wc_set_c hG h.kb ef (fun E9 q => oc_e q)) (⟨fr', ⟨_, _, _, hr'⟩, ai'⟩ : JC b z A1 _) ck.2.2.1 ck.2.2.2.1 hcat d (by omega) (by omega) fun μ2 j => kk A1 μ2 rn j
theorem kAdd_0 {p : Bool} (h : kAdd A p = 0) : p = true ∧ aS A 0 = 0 ∧ aS A 15 < 64 := by
  unfold kAdd at h
  split at h
  · cases h
  · rename_i hp
    split at h
    · rename_i h0
      exact ⟨by simpa using hp, h0⟩
    · cases h
theorem lj_add (C : CW G Y p R s m meth c) (hG : Gok2 l G) (hY : Y.own = RL) (hR : mL_add.fr + 1 ≤ Y.fr ∧ 8 + (mL_add.maxL + 11) + mL_add.lo ≤ Y.lo) {a : Nat} {x0 x1 x2 x3 x4 : Int32} (iv : IV5 μ a x0 x1 x2 x3 x4) (h : JC b z A μ) (hcat : (st.map fun v => v.category).sum ≤ 8) (d : decode Y.cc pc = .ok (.invokestatic 228, 3)) (hc : 2 + c2 ≤ c1) (hs : 200 + s2 ≤ s1) (kk : ∀ A' μ2, A' = (if kAdd A (okC x0 x1 x2 x3 x4) = 0 then addP A x0.toNatClampNeg x1.toNatClampNeg x2.toNatClampNeg x3.toNatClampNeg x4 else A) → JC b z A' μ2 → LJ l G Y p e R s m args below meth c Q (pc + 3) L (.int (exv (oc (kAdd A (okC x0 x1 x2 x3 x4)) (nI (aS A 15)))) :: st) μ2 c2 s2) : LJ l G Y p e R s m args below meth c Q pc L (.ref a :: .ref b :: st) μ c1 s1 := by
  refine lj_wf fun w => ?_
  obtain ⟨fr, ⟨G1, ar, s0, hr⟩, ai⟩ := id h
  obtain ⟨A1, G2, ar2, μ9, eA, ef, fr', hr', ck⟩ := c_addI (x1 := x0) (x2 := x1) (x3 := x2) (x4 := x3) (x5 := x4) fr hr w ai.2.2 ai.n15 ai.z14
  have ai' : AI A1 := ai.set (fun q => (kAdd_0 q).2.1) eA (fun q zA => by
    obtain ⟨q1, q2, q3⟩ := kAdd_0 q
    obtain ⟨⟨-, e1⟩, ⟨-, e2⟩, ⟨-, e3⟩, ⟨-, e4⟩, e5⟩ := okC_e q1
    exact z0_add zA q3 e1 e2 e3 e4 e5)
  exact lj_callJ (As := [.ref b, .ref a]) (dc := 2) (ds := 200) C hG.1 mw_add (by rw [hY]; exact cs_add) hR rfl (wc_add hG h.kb iv ef (fun E9 q => oc_e q)) (⟨fr', ⟨_, _, _, hr'⟩, ai'⟩ : JC b z A1 _) ck.2.2.1 ck.2.2.2.1 hcat d hc hs fun μ2 j => kk A1 μ2 eA j
theorem lj_share (C : CW G Y p R s m meth c) (hG : Gok2 l G) (hY : Y.own = RL) (hR : mL_share.fr + 1 ≤ Y.fr ∧ 8 + (mL_share.maxL + 11) + mL_share.lo ≤ Y.lo)  (h : JC b z A μ) (hcat : (st.map fun v => v.category).sum ≤ 8) (d : decode Y.cc pc = .ok (.invokestatic 263, 3)) (hc : 1 + c2 ≤ c1) (hs : 6 + s2 ≤ s1) (kk : ∀ μ2, JC b z A μ2 → LJ l G Y p e R s m args below meth c Q (pc + 3) L (.float (if aS A 0 = 0 then 3212836864 else shV A) :: st) μ2 c2 s2) : LJ l G Y p e R s m args below meth c Q pc L (.ref b :: st) μ c1 s1 := by
  obtain ⟨fr, ⟨G1, ar, s0, hr⟩, ai⟩ := id h
  obtain ⟨sh1, sh2⟩ := c_share fr ai.2.2 (by have := ai.n14; omega)
  by_cases q : aS A 0 = 0
  · refine lj_callW (As := [.ref b]) C hG.1 mw_share (by rw [hY]; exact cs_share) hR rfl (wc_share hG h.kb (sh2 q) (fun E9 q => by cases q; simp)) hcat d (c2 := c2) (s2 := s2) (by rw [show mN (bump μ 6) = mN μ + 1 from rfl]; omega) (by rw [show mS (bump μ 6) = mS μ + 6 from rfl]; omega) fun v μ2 hw => ?_
    obtain ⟨rfl, hq⟩ := hw
    have j : JC b z A μ2 := by
      rcases hq with e | ⟨N, e⟩ <;> subst e <;> exact h
    have := kk μ2 j
    rw [if_pos q] at this
    exact this
  · refine lj_callW (As := [.ref b]) C hG.1 mw_share (by rw [hY]; exact cs_share) hR rfl (wc_share hG h.kb (sh1 q) (fun E9 q => by cases q)) hcat d (c2 := c2) (s2 := s2) (by omega) (by omega) fun v μ2 hw => ?_
    obtain ⟨rfl, hq⟩ := hw
    have j : JC b z A μ2 := by
      rcases hq with e | ⟨N, e⟩ <;> subst e <;> exact h
    have := kk μ2 j
    rw [if_neg q] at this
    exact this
end LJJ
