/-! plain questions as rows; at, some, drawn, sum -/
section LGS
variable {l : Launch} {G : Gt} {Y : MD} {p : Program} {e : Env} {R : Room} {s : State} {m : MethodId} {args : Array Value} {below : List Frame} {meth : Method} {c : Code} {Q : State → Prop} {pc : Nat} {L : List (Nat × Value)} {st : List Value} {b z : Nat} {A A' : Sx} {μ μ1 : Mm} {c1 s1 c2 s2 : Nat}
theorem cvP_140 : CVs RL 140 mX10_cycle 11 := CVs.of 409 410 411 (by decide +kernel) (by decide +kernel) (by decide +kernel) _ rfl rfl
theorem lg_cycle (C : CW G Y p R s m meth c) (hG : Gok2 l G) (hY : Y.own = RL) (hR : mX10_cycle.fr + 1 ≤ Y.fr ∧ 8 + (mX10_cycle.maxL + 11) + mX10_cycle.lo ≤ Y.lo) (h : JC b z A μ) (hcat : (st.map fun v => v.category).sum ≤ 8) (d : decode Y.cc pc = .ok (.invokevirtual 140, 3)) (kk : LJ l G Y p e R s m args below meth c Q (pc + 3) L (.int (nI (aS A 0)) :: st) μ c1 s1) : LJ l G Y p e R s m args below meth c Q pc L (.ref b :: st) μ c1 s1 :=
  lj_callV (As := []) (c2 := c1) (s2 := s1) C hG.1 mf_X10_cycle (by rw [hY]; exact cvP_140) h.kb hR rfl rfl (Nat.le_of_ble_eq_true rfl) (s_X10_cycle hG.1 _ _ _ (c_getS h.1).1) hcat d (Nat.le_refl _) (Nat.le_refl _) kk
theorem cvP_201 : CVs RL 201 mX10_free 11 := CVs.of 425 426 427 (by decide +kernel) (by decide +kernel) (by decide +kernel) _ rfl rfl
theorem lg_free (C : CW G Y p R s m meth c) (hG : Gok2 l G) (hY : Y.own = RL) (hR : mX10_free.fr + 1 ≤ Y.fr ∧ 8 + (mX10_free.maxL + 11) + mX10_free.lo ≤ Y.lo) (h : JC b z A μ) (hcat : (st.map fun v => v.category).sum ≤ 8) (d : decode Y.cc pc = .ok (.invokevirtual 201, 3)) (kk : LJ l G Y p e R s m args below meth c Q (pc + 3) L (.int (nI (aS A 7)) :: st) μ c1 s1) : LJ l G Y p e R s m args below meth c Q pc L (.ref b :: st) μ c1 s1 :=
  lj_callV (As := []) (c2 := c1) (s2 := s1) C hG.1 mf_X10_free (by rw [hY]; exact cvP_201) h.kb hR rfl rfl (Nat.le_of_ble_eq_true rfl) (s_X10_free hG.1 _ _ _ (c_getS h.1).2.1) hcat d (Nat.le_refl _) (Nat.le_refl _) kk
theorem cvP_150 : CVs RL 150 mX10_inBuffer 11 := CVs.of 429 430 431 (by decide +kernel) (by decide +kernel) (by decide +kernel) _ rfl rfl
theorem lg_inBuffer (C : CW G Y p R s m meth c) (hG : Gok2 l G) (hY : Y.own = RL) (hR : mX10_inBuffer.fr + 1 ≤ Y.fr ∧ 8 + (mX10_inBuffer.maxL + 11) + mX10_inBuffer.lo ≤ Y.lo) (h : JC b z A μ) (hcat : (st.map fun v => v.category).sum ≤ 8) (d : decode Y.cc pc = .ok (.invokevirtual 150, 3)) (kk : LJ l G Y p e R s m args below meth c Q (pc + 3) L (.int (nI (aS A 9)) :: st) μ c1 s1) : LJ l G Y p e R s m args below meth c Q pc L (.ref b :: st) μ c1 s1 :=
  lj_callV (As := []) (c2 := c1) (s2 := s1) C hG.1 mf_X10_inBuffer (by rw [hY]; exact cvP_150) h.kb hR rfl rfl (Nat.le_of_ble_eq_true rfl) (s_X10_inBuffer hG.1 _ _ _ (c_getS h.1).2.2.1) hcat d (Nat.le_refl _) (Nat.le_refl _) kk
theorem cvP_160 : CVs RL 160 mX10_fetched 11 := CVs.of 1402 1403 1404 (by decide +kernel) (by decide +kernel) (by decide +kernel) _ rfl rfl
theorem lg_fetched (C : CW G Y p R s m meth c) (hG : Gok2 l G) (hY : Y.own = RL) (hR : mX10_fetched.fr + 1 ≤ Y.fr ∧ 8 + (mX10_fetched.maxL + 11) + mX10_fetched.lo ≤ Y.lo) (h : JC b z A μ) (hcat : (st.map fun v => v.category).sum ≤ 8) (d : decode Y.cc pc = .ok (.invokevirtual 160, 3)) (kk : LJ l G Y p e R s m args below meth c Q (pc + 3) L (.int (nI (aS A 10)) :: st) μ c1 s1) : LJ l G Y p e R s m args below meth c Q pc L (.ref b :: st) μ c1 s1 :=
  lj_callV (As := []) (c2 := c1) (s2 := s1) C hG.1 mf_X10_fetched (by rw [hY]; exact cvP_160) h.kb hR rfl rfl (Nat.le_of_ble_eq_true rfl) (s_X10_fetched hG.1 _ _ _ (c_getS h.1).2.2.2.1) hcat d (Nat.le_refl _) (Nat.le_refl _) kk
theorem cvP_208 : CVs RL 208 mX10_asked 11 := CVs.of 1433 1434 1435 (by decide +kernel) (by decide +kernel) (by decide +kernel) _ rfl rfl
theorem lg_asked (C : CW G Y p R s m meth c) (hG : Gok2 l G) (hY : Y.own = RL) (hR : mX10_asked.fr + 1 ≤ Y.fr ∧ 8 + (mX10_asked.maxL + 11) + mX10_asked.lo ≤ Y.lo) (h : JC b z A μ) (hcat : (st.map fun v => v.category).sum ≤ 8) (d : decode Y.cc pc = .ok (.invokevirtual 208, 3)) (kk : LJ l G Y p e R s m args below meth c Q (pc + 3) L (.int (nI (aQ A).length) :: st) μ c1 s1) : LJ l G Y p e R s m args below meth c Q pc L (.ref b :: st) μ c1 s1 :=
  lj_callV (As := []) (c2 := c1) (s2 := s1) C hG.1 mf_X10_asked (by rw [hY]; exact cvP_208) h.kb hR rfl rfl (Nat.le_of_ble_eq_true rfl) (s_X10_asked hG.1 _ _ _ (c_getS h.1).2.2.2.2.1) hcat d (Nat.le_refl _) (Nat.le_refl _) kk
theorem cvP_170 : CVs RL 170 mX10_wrong 11 := CVs.of 1408 1409 1410 (by decide +kernel) (by decide +kernel) (by decide +kernel) _ rfl rfl
theorem lg_wrong (C : CW G Y p R s m meth c) (hG : Gok2 l G) (hY : Y.own = RL) (hR : mX10_wrong.fr + 1 ≤ Y.fr ∧ 8 + (mX10_wrong.maxL + 11) + mX10_wrong.lo ≤ Y.lo) (h : JC b z A μ) (hcat : (st.map fun v => v.category).sum ≤ 8) (d : decode Y.cc pc = .ok (.invokevirtual 170, 3)) (kk : LJ l G Y p e R s m args below meth c Q (pc + 3) L (.int (nI (aS A 19)) :: st) μ c1 s1) : LJ l G Y p e R s m args below meth c Q pc L (.ref b :: st) μ c1 s1 :=
  lj_callV (As := []) (c2 := c1) (s2 := s1) C hG.1 mf_X10_wrong (by rw [hY]; exact cvP_170) h.kb hR rfl rfl (Nat.le_of_ble_eq_true rfl) (s_X10_wrong hG.1 _ _ _ (c_getS h.1).2.2.2.2.2.1) hcat d (Nat.le_refl _) (Nat.le_refl _) kk
theorem cvP_175 : CVs RL 175 mX10_early 11 := CVs.of 1413 1414 1415 (by decide +kernel) (by decide +kernel) (by decide +kernel) _ rfl rfl
theorem lg_early (C : CW G Y p R s m meth c) (hG : Gok2 l G) (hY : Y.own = RL) (hR : mX10_early.fr + 1 ≤ Y.fr ∧ 8 + (mX10_early.maxL + 11) + mX10_early.lo ≤ Y.lo) (h : JC b z A μ) (hcat : (st.map fun v => v.category).sum ≤ 8) (d : decode Y.cc pc = .ok (.invokevirtual 175, 3)) (kk : LJ l G Y p e R s m args below meth c Q (pc + 3) L (.int (nI (aS A 20)) :: st) μ c1 s1) : LJ l G Y p e R s m args below meth c Q pc L (.ref b :: st) μ c1 s1 :=
  lj_callV (As := []) (c2 := c1) (s2 := s1) C hG.1 mf_X10_early (by rw [hY]; exact cvP_175) h.kb hR rfl rfl (Nat.le_of_ble_eq_true rfl) (s_X10_early hG.1 _ _ _ (c_getS h.1).2.2.2.2.2.2.1) hcat d (Nat.le_refl _) (Nat.le_refl _) kk
theorem cvP_180 : CVs RL 180 mX10_taken 11 := CVs.of 1418 1419 1420 (by decide +kernel) (by decide +kernel) (by decide +kernel) _ rfl rfl
theorem lg_taken (C : CW G Y p R s m meth c) (hG : Gok2 l G) (hY : Y.own = RL) (hR : mX10_taken.fr + 1 ≤ Y.fr ∧ 8 + (mX10_taken.maxL + 11) + mX10_taken.lo ≤ Y.lo) (h : JC b z A μ) (hcat : (st.map fun v => v.category).sum ≤ 8) (d : decode Y.cc pc = .ok (.invokevirtual 180, 3)) (kk : LJ l G Y p e R s m args below meth c Q (pc + 3) L (.int (nI (aS A 22)) :: st) μ c1 s1) : LJ l G Y p e R s m args below meth c Q pc L (.ref b :: st) μ c1 s1 :=
  lj_callV (As := []) (c2 := c1) (s2 := s1) C hG.1 mf_X10_taken (by rw [hY]; exact cvP_180) h.kb hR rfl rfl (Nat.le_of_ble_eq_true rfl) (s_X10_taken hG.1 _ _ _ (c_getS h.1).2.2.2.2.2.2.2.1) hcat d (Nat.le_refl _) (Nat.le_refl _) kk
theorem cvP_145 : CVs RL 145 mX10_ends 11 := CVs.of 417 418 419 (by decide +kernel) (by decide +kernel) (by decide +kernel) _ rfl rfl
theorem lg_ends (C : CW G Y p R s m meth c) (hG : Gok2 l G) (hY : Y.own = RL) (hR : mX10_ends.fr + 1 ≤ Y.fr ∧ 8 + (mX10_ends.maxL + 11) + mX10_ends.lo ≤ Y.lo) (h : JC b z A μ) (hcat : (st.map fun v => v.category).sum ≤ 8) (d : decode Y.cc pc = .ok (.invokevirtual 145, 3)) (kk : LJ l G Y p e R s m args below meth c Q (pc + 3) L (.int (nI (aS A 14)) :: st) μ c1 s1) : LJ l G Y p e R s m args below meth c Q pc L (.ref b :: st) μ c1 s1 :=
  lj_callV (As := []) (c2 := c1) (s2 := s1) C hG.1 mf_X10_ends (by rw [hY]; exact cvP_145) h.kb hR rfl rfl (Nat.le_of_ble_eq_true rfl) (s_X10_ends hG.1 _ _ _ (c_getS h.1).2.2.2.2.2.2.2.2.1) hcat d (Nat.le_refl _) (Nat.le_refl _) kk
theorem cvP_185 : CVs RL 185 mX10_hits 11 := CVs.of 1423 1424 1425 (by decide +kernel) (by decide +kernel) (by decide +kernel) _ rfl rfl
theorem lg_hits (C : CW G Y p R s m meth c) (hG : Gok2 l G) (hY : Y.own = RL) (hR : mX10_hits.fr + 1 ≤ Y.fr ∧ 8 + (mX10_hits.maxL + 11) + mX10_hits.lo ≤ Y.lo) (h : JC b z A μ) (hcat : (st.map fun v => v.category).sum ≤ 8) (d : decode Y.cc pc = .ok (.invokevirtual 185, 3)) (kk : LJ l G Y p e R s m args below meth c Q (pc + 3) L (.long (Int32.toInt64 (nI (aS A 23)) + 1000 * Int32.toInt64 (nI (aS A 24))) :: st) μ c1 s1) : LJ l G Y p e R s m args below meth c Q pc L (.ref b :: st) μ c1 s1 :=
  lj_callV (As := []) (c2 := c1) (s2 := s1) C hG.1 mf_X10_hits (by rw [hY]; exact cvP_185) h.kb hR rfl rfl (Nat.le_of_ble_eq_true rfl) (s_X10_hits hG.1 _ _ _ (c_getS h.1).2.2.2.2.2.2.2.2.2) hcat d (Nat.le_refl _) (Nat.le_refl _) kk
theorem cvP_246 : CVs RL 246 mX10_hasStopped 11 := CVs.of 413 414 415 (by decide +kernel) (by decide +kernel) (by decide +kernel) _ rfl rfl
theorem lg_hasStopped (C : CW G Y p R s m meth c) (hG : Gok2 l G) (hY : Y.own = RL) (hR : mX10_hasStopped.fr + 1 ≤ Y.fr ∧ 8 + (mX10_hasStopped.maxL + 11) + mX10_hasStopped.lo ≤ Y.lo) (h : JC b z A μ) (hcat : (st.map fun v => v.category).sum ≤ 8) (d : decode Y.cc pc = .ok (.invokevirtual 246, 3)) (kk : LJ l G Y p e R s m args below meth c Q (pc + 3) L (.int (nI (aS A 1)) :: st) μ c1 s1) : LJ l G Y p e R s m args below meth c Q pc L (.ref b :: st) μ c1 s1 :=
  lj_callV (As := []) (c2 := c1) (s2 := s1) C hG.1 mf_X10_hasStopped (by rw [hY]; exact cvP_246) h.kb hR rfl rfl (Nat.le_of_ble_eq_true rfl) (s_X10_hasStopped hG.1 _ _ _ (c_hasStopped h.1 h.2.2.s1)) hcat d (Nat.le_refl _) (Nat.le_refl _) kk
theorem cvP_155 : CVs RL 155 mX10_inQueue 11 := CVs.of 1396 1397 1398 (by decide +kernel) (by decide +kernel) (by decide +kernel) _ rfl rfl
theorem lg_inQueue (C : CW G Y p R s m meth c) (hG : Gok2 l G) (hY : Y.own = RL) (hR : mX10_inQueue.fr + 1 ≤ Y.fr ∧ 8 + (mX10_inQueue.maxL + 11) + mX10_inQueue.lo ≤ Y.lo) (h : JC b z A μ) (hcat : (st.map fun v => v.category).sum ≤ 8) (d : decode Y.cc pc = .ok (.invokevirtual 155, 3)) (kk : LJ l G Y p e R s m args below meth c Q (pc + 3) L (.int (nI (cntQ A (aS A 9))) :: st) μ c1 s1) : LJ l G Y p e R s m args below meth c Q pc L (.ref b :: st) μ c1 s1 :=
  lj_callV (As := []) (c2 := c1) (s2 := s1) C hG.1 mf_X10_inQueue (by rw [hY]; exact cvP_155) h.kb hR rfl rfl (Nat.le_of_ble_eq_true rfl) (s_X10_inQueue hG.1 _ _ _ (by obtain ⟨G1, ar, s0, hr⟩ := h.2.1; exact c_inQueue h.1 hr h.2.2.ib)) hcat d (Nat.le_refl _) (Nat.le_refl _) kk
theorem cvP_165 : CVs RL 165 mX10_returns 11 := CVs.of 433 434 435 (by decide +kernel) (by decide +kernel) (by decide +kernel) _ rfl rfl
theorem lg_returns (C : CW G Y p R s m meth c) (hG : Gok2 l G) (hY : Y.own = RL) (hR : mX10_returns.fr + 1 ≤ Y.fr ∧ 8 + (mX10_returns.maxL + 11) + mX10_returns.lo ≤ Y.lo) (h : JC b z A μ) (hcat : (st.map fun v => v.category).sum ≤ 8) (d : decode Y.cc pc = .ok (.invokevirtual 165, 3)) (kk : LJ l G Y p e R s m args below meth c Q (pc + 3) L (.int (nI (aT A).length) :: st) μ c1 s1) : LJ l G Y p e R s m args below meth c Q pc L (.ref b :: st) μ c1 s1 :=
  lj_callV (As := []) (c2 := c1) (s2 := s1) C hG.1 mf_X10_returns (by rw [hY]; exact cvP_165) h.kb hR rfl rfl (Nat.le_of_ble_eq_true rfl) (s_X10_returns hG.1 _ _ _ (by obtain ⟨G1, ar, s0, hr⟩ := h.2.1; exact c_returns h.1 hr)) hcat d (Nat.le_refl _) (Nat.le_refl _) kk
theorem cvP_251 : CVs RL 251 mX10_isSame 11 := CVs.of 437 438 439 (by decide +kernel) (by decide +kernel) (by decide +kernel) _ rfl rfl
theorem lg_isSame (C : CW G Y p R s m meth c) (hG : Gok2 l G) (hY : Y.own = RL) (hR : mX10_isSame.fr + 1 ≤ Y.fr ∧ 8 + (mX10_isSame.maxL + 11) + mX10_isSame.lo ≤ Y.lo) (h : JC b z A μ) (hcat : (st.map fun v => v.category).sum ≤ 8) (d : decode Y.cc pc = .ok (.invokevirtual 251, 3)) (kk : LJ l G Y p e R s m args below meth c Q (pc + 3) L (.int (1) :: st) μ c1 s1) : LJ l G Y p e R s m args below meth c Q pc L (.ref b :: st) μ c1 s1 :=
  lj_callV (As := []) (c2 := c1) (s2 := s1) C hG.1 mf_X10_isSame (by rw [hY]; exact cvP_251) h.kb hR rfl rfl (Nat.le_of_ble_eq_true rfl) (s_X10_isSame hG.1 _ _ _ (by obtain ⟨G1, ar, s0, hr⟩ := h.2.1; exact c_isSame h.1 hr h.2.2.ib (by have := h.2.2.n14; omega))) hcat d (Nat.le_refl _) (Nat.le_refl _) kk
theorem cvP_254 : CVs RL 254 mX10_isWhole 11 := CVs.of 469 470 471 (by decide +kernel) (by decide +kernel) (by decide +kernel) _ rfl rfl
theorem lg_isWhole (C : CW G Y p R s m meth c) (hG : Gok2 l G) (hY : Y.own = RL) (hR : mX10_isWhole.fr + 1 ≤ Y.fr ∧ 8 + (mX10_isWhole.maxL + 11) + mX10_isWhole.lo ≤ Y.lo) (h : JC b z A μ) (hcat : (st.map fun v => v.category).sum ≤ 8) (d : decode Y.cc pc = .ok (.invokevirtual 254, 3)) (kk : LJ l G Y p e R s m args below meth c Q (pc + 3) L (.int (1) :: st) μ c1 s1) : LJ l G Y p e R s m args below meth c Q pc L (.ref b :: st) μ c1 s1 :=
  lj_callV (As := []) (c2 := c1) (s2 := s1) C hG.1 mf_X10_isWhole (by rw [hY]; exact cvP_254) h.kb hR rfl rfl (Nat.le_of_ble_eq_true rfl) (s_X10_isWhole hG.1 _ _ _ (by obtain ⟨G1, ar, s0, hr⟩ := h.2.1; exact c_isWhole h.1 hr h.2.2.ib)) hcat d (Nat.le_refl _) (Nat.le_refl _) kk
end LGS
section LAT
variable {l : Launch} {G : Gt} {Y : MD} {p : Program} {e : Env} {R : Room} {s : State} {m : MethodId} {args : Array Value} {below : List Frame} {meth : Method} {c : Code} {Q : State → Prop} {pc : Nat} {L : List (Nat × Value)} {st : List Value} {b z : Nat} {A A' : Sx} {μ μ1 : Mm} {c1 s1 c2 s2 : Nat}
theorem dL_at_0 : decode cL_at 0 = .ok (.iload_n 1, 1) := by decide +kernel
theorem dL_at_1 : decode cL_at 1 = .ok (.aload_n 0, 1) := by decide +kernel
theorem dL_at_2 : decode cL_at 2 = .ok (.arraylength, 1) := by decide +kernel
theorem dL_at_3 : decode cL_at 3 = .ok (.if_icmp .ge 9, 3) := by decide +kernel
theorem dL_at_6 : decode cL_at 6 = .ok (.aload_n 0, 1) := by decide +kernel
theorem dL_at_7 : decode cL_at 7 = .ok (.iload_n 1, 1) := by decide +kernel
theorem dL_at_8 : decode cL_at 8 = .ok (.iaload, 1) := by decide +kernel
theorem dL_at_9 : decode cL_at 9 = .ok (.goto 4, 3) := by decide +kernel
theorem dL_at_12 : decode cL_at 12 = .ok (.iconst 0, 1) := by decide +kernel
theorem dL_at_13 : decode cL_at 13 = .ok (.ireturn, 1) := by decide +kernel
def mL_at : MD := (cL_at, RL, yL_at, 2, some .int, 0, 0)
theorem mf_L_at : MF mL_at 2 := MF.of 492 38 (by decide +kernel) (by decide +kernel) (by decide +kernel) (by decide +kernel) (by decide +kernel) rfl
theorem cs_at : CSs RL 212 mL_at := CSs.of 490 491 (by decide +kernel) (by decide +kernel)
theorem wc_at0 (hG : Gok2 l G) {q0 n k : Nat} {xs : Nat → Int32} (hX : va_X q0 n xs G.1 G.1.heap) (hq : q0 < G.1.heap.size) (hn : n ≤ 260) (hk : k < 1000) : Met l mL_at.y mL_at.ws (mL_at.rm 0 0) (PcE G [.ref q0, .int (nI k)] μ) (QW G (fun v μ2 => v = .int (if k < n then xs k else 0) ∧ μ2 = μ)) 0 0 (FREE G) := by
  refine wx_metC mf_L_at rfl (Nat.le_of_ble_eq_true rfl) fun p e R s m args below meth c C => ?_
  refine lj_iload_n C dL_at_0 rfl (q := 1) rfl ?_
  refine lj_aload_n C dL_at_1 rfl (q := 0) rfl ?_
  refine lj_slen C hX hq dL_at_2 ?_
  by_cases hkn : k < n
  · rw [if_pos hkn]
    refine lj_icmp_ge_f (tgt := 12) C dL_at_3 (by decide) (nI_ge hkn (by omega)) ?_
    refine lj_aload_n C dL_at_6 rfl (q := 0) rfl ?_
    refine lj_iload_n C dL_at_7 rfl (q := 1) rfl ?_
    refine lj_sld C hX hq (nI_in hkn (by omega)) dL_at_8 ?_
    rw [clN (by omega)]
    refine lj_goto (tgt := 13) C dL_at_9 (by decide) ?_
    exact lj_wret C dL_at_13 rfl ⟨rfl, rfl⟩
  · rw [if_neg hkn]
    refine lj_icmp_ge_t (tgt := 12) C dL_at_3 (by decide) (nI_le (Nat.not_lt.mp hkn) (by omega)) ?_
    refine lj_iconst (v := 0) C dL_at_12 (by decide) ?_
    exact lj_wret C dL_at_13 rfl ⟨rfl, rfl⟩
theorem lj_at (C : CW G Y p R s m meth c) (hG : Gok2 l G) (hY : Y.own = RL) (hR : mL_at.fr + 1 ≤ Y.fr ∧ 8 + (mL_at.maxL + 11) + mL_at.lo ≤ Y.lo) {q0 n k : Nat} {xs : Nat → Int32} (hX : va_X q0 n xs G.1 G.1.heap) (hq : q0 < G.1.heap.size) (hn : n ≤ 260) (hk : k < 1000) (hcat : (st.map fun v => v.category).sum ≤ 8) (d : decode Y.cc pc = .ok (.invokestatic 212, 3)) (kk : LJ l G Y p e R s m args below meth c Q (pc + 3) L (.int (if k < n then xs k else 0) :: st) μ c1 s1) : LJ l G Y p e R s m args below meth c Q pc L (.int (nI k) :: .ref q0 :: st) μ c1 s1 :=
  lj_callC (As := [.ref q0, .int (nI k)]) (c2 := c1) (s2 := s1) C hG.1 mf_L_at (by rw [hY]; exact cs_at) hR rfl (wc_at0 hG hX hq hn hk) hcat d (by omega) (by omega) fun v μ2 hw => by
    obtain ⟨rfl, rfl⟩ := hw
    exact kk
theorem cs_some : CSs RL 216 mL_some := CSs.of 493 494 (by decide +kernel) (by decide +kernel)
theorem lj_some (C : CW G Y p R s m meth c) (hG : Gok2 l G) (hY : Y.own = RL) (hR : mL_some.fr + 1 ≤ Y.fr ∧ 8 + (mL_some.maxL + 11) + mL_some.lo ≤ Y.lo) {x y : Int32} {n : Nat} (hy : y = nI n) (h0 : 0 < n) (hn : n < 2 ^ 30) (hcat : (st.map fun v => v.category).sum ≤ 8) (d : decode Y.cc pc = .ok (.invokestatic 216, 3)) (kk : ∀ v, v < n → LJ l G Y p e R s m args below meth c Q (pc + 3) L (.int (nI v) :: st) μ c1 s1) : LJ l G Y p e R s m args below meth c Q pc L (.int y :: .int x :: st) μ c1 s1 := by
  obtain ⟨v, hv, ev⟩ := some_e x hy h0 hn
  exact lj_callS (As := [.int x, .int y]) (c2 := c1) (s2 := s1) C hG.1 mf_L_some (by rw [hY]; exact cs_some) hR rfl rfl (Nat.le_of_ble_eq_true rfl) (s_L_some hG.1 _ _ _ _ ev) hcat d (Nat.le_refl _) (Nat.le_refl _) (kk v hv)
theorem cs_drawn : CSs RL 224 mL_drawn := CSs.of 1385 1386 (by decide +kernel) (by decide +kernel)
theorem lj_drawn (C : CW G Y p R s m meth c) (hG : Gok2 l G) (hY : Y.own = RL) (hR : mL_drawn.fr + 1 ≤ Y.fr ∧ 8 + (mL_drawn.maxL + 11) + mL_drawn.lo ≤ Y.lo) {w : Nat} {x : Int32} (hw : w < 2 ^ 31) (h : JC b z A μ) (hcat : (st.map fun v => v.category).sum ≤ 8) (d : decode Y.cc pc = .ok (.invokestatic 224, 3)) (hc : 2 + c2 ≤ c1) (hs : 29 + s2 ≤ s1) (kk : ∀ a μ2 x0 x1 x2 x3 x4, JC b z A μ2 → IV5 μ2 a x0 x1 x2 x3 x4 → okC x0 x1 x2 x3 x4 = true → LJ l G Y p e R s m args below meth c Q (pc + 3) L (.ref a :: st) μ2 c2 s2) : LJ l G Y p e R s m args below meth c Q pc L (.int x :: .int (nI w) :: st) μ c1 s1 := by
  refine lj_wf fun wf => ?_
  obtain ⟨a, μ2, x0, x1, x2, x3, x4, ef, nf, n2, n3, iv, ok⟩ := td_drawn (μ0 := μ) (x := x) hw
  exact lj_callS (As := [.int (nI w), .int x]) (c2 := c2) (s2 := s2) C hG.1 mf_L_drawn (by rw [hY]; exact cs_drawn) hR rfl rfl (Nat.le_of_ble_eq_true rfl) (s_L_drawn hG.1 _ _ _ _ _ ef) hcat d (by omega) (by omega) (kk a μ2 x0 x1 x2 x3 x4 (h.nf wf nf) iv ok)
end LAT
section LSUM
variable {l : Launch} {G : Gt} {Y : MD} {p : Program} {e : Env} {R : Room} {s : State} {m : MethodId} {args : Array Value} {below : List Frame} {meth : Method} {c : Code} {Q : State → Prop} {pc : Nat} {L : List (Nat × Value)} {st : List Value} {b z : Nat} {A A' : Sx} {μ μ1 : Mm} {c1 s1 c2 s2 : Nat}
theorem dL_sum_0 : decode cL_sum 0 = .ok (.aload_n 0, 1) := by decide +kernel
theorem dL_sum_1 : decode cL_sum 1 = .ok (.invokevirtual 140, 3) := by decide +kernel
theorem dL_sum_4 : decode cL_sum 4 = .ok (.i2l, 1) := by decide +kernel
theorem dL_sum_5 : decode cL_sum 5 = .ok (.ldc2_w 143, 3) := by decide +kernel
theorem dL_sum_8 : decode cL_sum 8 = .ok (.aload_n 0, 1) := by decide +kernel
theorem dL_sum_9 : decode cL_sum 9 = .ok (.invokevirtual 145, 3) := by decide +kernel
theorem dL_sum_12 : decode cL_sum 12 = .ok (.i2l, 1) := by decide +kernel
theorem dL_sum_13 : decode cL_sum 13 = .ok (.lmul, 1) := by decide +kernel
theorem dL_sum_14 : decode cL_sum 14 = .ok (.ladd, 1) := by decide +kernel
theorem dL_sum_15 : decode cL_sum 15 = .ok (.ldc2_w 148, 3) := by decide +kernel
theorem dL_sum_18 : decode cL_sum 18 = .ok (.aload_n 0, 1) := by decide +kernel
theorem dL_sum_19 : decode cL_sum 19 = .ok (.invokevirtual 150, 3) := by decide +kernel
theorem dL_sum_22 : decode cL_sum 22 = .ok (.i2l, 1) := by decide +kernel
theorem dL_sum_23 : decode cL_sum 23 = .ok (.lmul, 1) := by decide +kernel
theorem dL_sum_24 : decode cL_sum 24 = .ok (.ladd, 1) := by decide +kernel
theorem dL_sum_25 : decode cL_sum 25 = .ok (.ldc2_w 153, 3) := by decide +kernel
theorem dL_sum_28 : decode cL_sum 28 = .ok (.aload_n 0, 1) := by decide +kernel
theorem dL_sum_29 : decode cL_sum 29 = .ok (.invokevirtual 155, 3) := by decide +kernel
theorem dL_sum_32 : decode cL_sum 32 = .ok (.i2l, 1) := by decide +kernel
theorem dL_sum_33 : decode cL_sum 33 = .ok (.lmul, 1) := by decide +kernel
theorem dL_sum_34 : decode cL_sum 34 = .ok (.ladd, 1) := by decide +kernel
theorem dL_sum_35 : decode cL_sum 35 = .ok (.ldc2_w 158, 3) := by decide +kernel
theorem dL_sum_38 : decode cL_sum 38 = .ok (.aload_n 0, 1) := by decide +kernel
theorem dL_sum_39 : decode cL_sum 39 = .ok (.invokevirtual 160, 3) := by decide +kernel
theorem dL_sum_42 : decode cL_sum 42 = .ok (.i2l, 1) := by decide +kernel
theorem dL_sum_43 : decode cL_sum 43 = .ok (.lmul, 1) := by decide +kernel
theorem dL_sum_44 : decode cL_sum 44 = .ok (.ladd, 1) := by decide +kernel
theorem dL_sum_45 : decode cL_sum 45 = .ok (.ldc2_w 163, 3) := by decide +kernel
theorem dL_sum_48 : decode cL_sum 48 = .ok (.aload_n 0, 1) := by decide +kernel
theorem dL_sum_49 : decode cL_sum 49 = .ok (.invokevirtual 165, 3) := by decide +kernel
theorem dL_sum_52 : decode cL_sum 52 = .ok (.i2l, 1) := by decide +kernel
theorem dL_sum_53 : decode cL_sum 53 = .ok (.lmul, 1) := by decide +kernel
theorem dL_sum_54 : decode cL_sum 54 = .ok (.ladd, 1) := by decide +kernel
theorem dL_sum_55 : decode cL_sum 55 = .ok (.ldc2_w 168, 3) := by decide +kernel
theorem dL_sum_58 : decode cL_sum 58 = .ok (.aload_n 0, 1) := by decide +kernel
theorem dL_sum_59 : decode cL_sum 59 = .ok (.invokevirtual 170, 3) := by decide +kernel
theorem dL_sum_62 : decode cL_sum 62 = .ok (.i2l, 1) := by decide +kernel
theorem dL_sum_63 : decode cL_sum 63 = .ok (.lmul, 1) := by decide +kernel
theorem dL_sum_64 : decode cL_sum 64 = .ok (.ladd, 1) := by decide +kernel
theorem dL_sum_65 : decode cL_sum 65 = .ok (.ldc2_w 173, 3) := by decide +kernel
theorem dL_sum_68 : decode cL_sum 68 = .ok (.aload_n 0, 1) := by decide +kernel
theorem dL_sum_69 : decode cL_sum 69 = .ok (.invokevirtual 175, 3) := by decide +kernel
theorem dL_sum_72 : decode cL_sum 72 = .ok (.i2l, 1) := by decide +kernel
theorem dL_sum_73 : decode cL_sum 73 = .ok (.lmul, 1) := by decide +kernel
theorem dL_sum_74 : decode cL_sum 74 = .ok (.ladd, 1) := by decide +kernel
theorem dL_sum_75 : decode cL_sum 75 = .ok (.ldc2_w 178, 3) := by decide +kernel
theorem dL_sum_78 : decode cL_sum 78 = .ok (.aload_n 0, 1) := by decide +kernel
theorem dL_sum_79 : decode cL_sum 79 = .ok (.invokevirtual 180, 3) := by decide +kernel
theorem dL_sum_82 : decode cL_sum 82 = .ok (.i2l, 1) := by decide +kernel
theorem dL_sum_83 : decode cL_sum 83 = .ok (.lmul, 1) := by decide +kernel
theorem dL_sum_84 : decode cL_sum 84 = .ok (.ladd, 1) := by decide +kernel
theorem dL_sum_85 : decode cL_sum 85 = .ok (.ldc2_w 183, 3) := by decide +kernel
theorem dL_sum_88 : decode cL_sum 88 = .ok (.aload_n 0, 1) := by decide +kernel
theorem dL_sum_89 : decode cL_sum 89 = .ok (.invokevirtual 185, 3) := by decide +kernel
theorem dL_sum_92 : decode cL_sum 92 = .ok (.lmul, 1) := by decide +kernel
theorem dL_sum_93 : decode cL_sum 93 = .ok (.ladd, 1) := by decide +kernel
theorem dL_sum_94 : decode cL_sum 94 = .ok (.ldc2_w 189, 3) := by decide +kernel
theorem dL_sum_97 : decode cL_sum 97 = .ok (.aload_n 0, 1) := by decide +kernel
theorem dL_sum_98 : decode cL_sum 98 = .ok (.bipush 102, 2) := by decide +kernel
theorem dL_sum_100 : decode cL_sum 100 = .ok (.iconst 0, 1) := by decide +kernel
theorem dL_sum_101 : decode cL_sum 101 = .ok (.invokestatic 191, 3) := by decide +kernel
theorem dL_sum_104 : decode cL_sum 104 = .ok (.i2l, 1) := by decide +kernel
theorem dL_sum_105 : decode cL_sum 105 = .ok (.lmul, 1) := by decide +kernel
theorem dL_sum_106 : decode cL_sum 106 = .ok (.ladd, 1) := by decide +kernel
theorem dL_sum_107 : decode cL_sum 107 = .ok (.ldc2_w 197, 3) := by decide +kernel
theorem dL_sum_110 : decode cL_sum 110 = .ok (.aload_n 0, 1) := by decide +kernel
theorem dL_sum_111 : decode cL_sum 111 = .ok (.bipush 107, 2) := by decide +kernel
theorem dL_sum_113 : decode cL_sum 113 = .ok (.iconst 0, 1) := by decide +kernel
theorem dL_sum_114 : decode cL_sum 114 = .ok (.invokestatic 191, 3) := by decide +kernel
theorem dL_sum_117 : decode cL_sum 117 = .ok (.i2l, 1) := by decide +kernel
theorem dL_sum_118 : decode cL_sum 118 = .ok (.lmul, 1) := by decide +kernel
theorem dL_sum_119 : decode cL_sum 119 = .ok (.ladd, 1) := by decide +kernel
theorem dL_sum_120 : decode cL_sum 120 = .ok (.ldc2_w 199, 3) := by decide +kernel
theorem dL_sum_123 : decode cL_sum 123 = .ok (.aload_n 0, 1) := by decide +kernel
theorem dL_sum_124 : decode cL_sum 124 = .ok (.invokevirtual 201, 3) := by decide +kernel
theorem dL_sum_127 : decode cL_sum 127 = .ok (.i2l, 1) := by decide +kernel
theorem dL_sum_128 : decode cL_sum 128 = .ok (.lmul, 1) := by decide +kernel
theorem dL_sum_129 : decode cL_sum 129 = .ok (.ladd, 1) := by decide +kernel
theorem dL_sum_130 : decode cL_sum 130 = .ok (.lstore_n 1, 1) := by decide +kernel
theorem dL_sum_131 : decode cL_sum 131 = .ok (.iconst 0, 1) := by decide +kernel
theorem dL_sum_132 : decode cL_sum 132 = .ok (.istore_n 3, 1) := by decide +kernel
theorem dL_sum_133 : decode cL_sum 133 = .ok (.iload_n 3, 1) := by decide +kernel
theorem dL_sum_134 : decode cL_sum 134 = .ok (.bipush 16, 2) := by decide +kernel
theorem dL_sum_136 : decode cL_sum 136 = .ok (.if_icmp .ge 91, 3) := by decide +kernel
theorem dL_sum_139 : decode cL_sum 139 = .ok (.ldc2_w 143, 3) := by decide +kernel
theorem dL_sum_142 : decode cL_sum 142 = .ok (.lload_n 1, 1) := by decide +kernel
theorem dL_sum_143 : decode cL_sum 143 = .ok (.lmul, 1) := by decide +kernel
theorem dL_sum_144 : decode cL_sum 144 = .ok (.aload_n 0, 1) := by decide +kernel
theorem dL_sum_145 : decode cL_sum 145 = .ok (.bipush 114, 2) := by decide +kernel
theorem dL_sum_147 : decode cL_sum 147 = .ok (.iload_n 3, 1) := by decide +kernel
theorem dL_sum_148 : decode cL_sum 148 = .ok (.invokestatic 191, 3) := by decide +kernel
theorem dL_sum_151 : decode cL_sum 151 = .ok (.i2l, 1) := by decide +kernel
theorem dL_sum_152 : decode cL_sum 152 = .ok (.ladd, 1) := by decide +kernel
theorem dL_sum_153 : decode cL_sum 153 = .ok (.ldc2_w 204, 3) := by decide +kernel
theorem dL_sum_156 : decode cL_sum 156 = .ok (.aload_n 0, 1) := by decide +kernel
theorem dL_sum_157 : decode cL_sum 157 = .ok (.bipush 105, 2) := by decide +kernel
theorem dL_sum_159 : decode cL_sum 159 = .ok (.iload_n 3, 1) := by decide +kernel
theorem dL_sum_160 : decode cL_sum 160 = .ok (.invokestatic 191, 3) := by decide +kernel
theorem dL_sum_163 : decode cL_sum 163 = .ok (.i2l, 1) := by decide +kernel
theorem dL_sum_164 : decode cL_sum 164 = .ok (.lmul, 1) := by decide +kernel
theorem dL_sum_165 : decode cL_sum 165 = .ok (.ladd, 1) := by decide +kernel
theorem dL_sum_166 : decode cL_sum 166 = .ok (.ldc2_w 206, 3) := by decide +kernel
theorem dL_sum_169 : decode cL_sum 169 = .ok (.aload_n 0, 1) := by decide +kernel
theorem dL_sum_170 : decode cL_sum 170 = .ok (.bipush 99, 2) := by decide +kernel
theorem dL_sum_172 : decode cL_sum 172 = .ok (.iload_n 3, 1) := by decide +kernel
theorem dL_sum_173 : decode cL_sum 173 = .ok (.invokestatic 191, 3) := by decide +kernel
theorem dL_sum_176 : decode cL_sum 176 = .ok (.i2l, 1) := by decide +kernel
theorem dL_sum_177 : decode cL_sum 177 = .ok (.lmul, 1) := by decide +kernel
theorem dL_sum_178 : decode cL_sum 178 = .ok (.ladd, 1) := by decide +kernel
theorem dL_sum_179 : decode cL_sum 179 = .ok (.ldc2_w 153, 3) := by decide +kernel
theorem dL_sum_182 : decode cL_sum 182 = .ok (.aload_n 0, 1) := by decide +kernel
theorem dL_sum_183 : decode cL_sum 183 = .ok (.bipush 109, 2) := by decide +kernel
theorem dL_sum_185 : decode cL_sum 185 = .ok (.iload_n 3, 1) := by decide +kernel
theorem dL_sum_186 : decode cL_sum 186 = .ok (.invokestatic 191, 3) := by decide +kernel
theorem dL_sum_189 : decode cL_sum 189 = .ok (.i2l, 1) := by decide +kernel
theorem dL_sum_190 : decode cL_sum 190 = .ok (.lmul, 1) := by decide +kernel
theorem dL_sum_191 : decode cL_sum 191 = .ok (.ladd, 1) := by decide +kernel
theorem dL_sum_192 : decode cL_sum 192 = .ok (.ldc2_w 158, 3) := by decide +kernel
theorem dL_sum_195 : decode cL_sum 195 = .ok (.aload_n 0, 1) := by decide +kernel
theorem dL_sum_196 : decode cL_sum 196 = .ok (.bipush 108, 2) := by decide +kernel
theorem dL_sum_198 : decode cL_sum 198 = .ok (.iload_n 3, 1) := by decide +kernel
theorem dL_sum_199 : decode cL_sum 199 = .ok (.invokestatic 191, 3) := by decide +kernel
theorem dL_sum_202 : decode cL_sum 202 = .ok (.i2l, 1) := by decide +kernel
theorem dL_sum_203 : decode cL_sum 203 = .ok (.lmul, 1) := by decide +kernel
theorem dL_sum_204 : decode cL_sum 204 = .ok (.ladd, 1) := by decide +kernel
theorem dL_sum_205 : decode cL_sum 205 = .ok (.ldc2_w 163, 3) := by decide +kernel
theorem dL_sum_208 : decode cL_sum 208 = .ok (.aload_n 0, 1) := by decide +kernel
theorem dL_sum_209 : decode cL_sum 209 = .ok (.bipush 119, 2) := by decide +kernel
theorem dL_sum_211 : decode cL_sum 211 = .ok (.iconst 4, 1) := by decide +kernel
theorem dL_sum_212 : decode cL_sum 212 = .ok (.iload_n 3, 1) := by decide +kernel
theorem dL_sum_213 : decode cL_sum 213 = .ok (.imul, 1) := by decide +kernel
theorem dL_sum_214 : decode cL_sum 214 = .ok (.invokestatic 191, 3) := by decide +kernel
theorem dL_sum_217 : decode cL_sum 217 = .ok (.i2l, 1) := by decide +kernel
theorem dL_sum_218 : decode cL_sum 218 = .ok (.lmul, 1) := by decide +kernel
theorem dL_sum_219 : decode cL_sum 219 = .ok (.ladd, 1) := by decide +kernel
theorem dL_sum_220 : decode cL_sum 220 = .ok (.lstore_n 1, 1) := by decide +kernel
theorem dL_sum_221 : decode cL_sum 221 = .ok (.iinc 3 1, 3) := by decide +kernel
theorem dL_sum_224 : decode cL_sum 224 = .ok (.goto (-91), 3) := by decide +kernel
theorem dL_sum_227 : decode cL_sum 227 = .ok (.ldc2_w 143, 3) := by decide +kernel
theorem dL_sum_230 : decode cL_sum 230 = .ok (.lload_n 1, 1) := by decide +kernel
theorem dL_sum_231 : decode cL_sum 231 = .ok (.lmul, 1) := by decide +kernel
theorem dL_sum_232 : decode cL_sum 232 = .ok (.aload_n 0, 1) := by decide +kernel
theorem dL_sum_233 : decode cL_sum 233 = .ok (.invokevirtual 208, 3) := by decide +kernel
theorem dL_sum_236 : decode cL_sum 236 = .ok (.i2l, 1) := by decide +kernel
theorem dL_sum_237 : decode cL_sum 237 = .ok (.ladd, 1) := by decide +kernel
theorem dL_sum_238 : decode cL_sum 238 = .ok (.lreturn, 1) := by decide +kernel
def mL_sum : MD := (cL_sum, RL, yL_sum, 4, some .long, 8, 186)
theorem mf_L_sum : MF mL_sum 1 := MF.of 1392 38 (by decide +kernel) (by decide +kernel) (by decide +kernel) (by decide +kernel) (by decide +kernel) rfl
theorem cs_sum : CSs RL 220 mL_sum := CSs.of 1390 1391 (by decide +kernel) (by decide +kernel)
/-- what sum adds up of a state -/
def sum0 (A : Sx) : Int64 := ((((((((((((Int32.toInt64 (nI (aS A 0))) + (31 * (Int32.toInt64 (nI (aS A 14))))) + (961 * (Int32.toInt64 (nI (aS A 9))))) + (7 * (Int32.toInt64 (nI (cntQ A (aS A 9)))))) + (11 * (Int32.toInt64 (nI (aS A 10))))) + (13 * (Int32.toInt64 (nI (aT A).length)))) + (17 * (Int32.toInt64 (nI (aS A 19))))) + (19 * (Int32.toInt64 (nI (aS A 20))))) + (23 * (Int32.toInt64 (nI (aS A 22))))) + (29 * (Int32.toInt64 (nI (aS A 23)) + 1000 * Int32.toInt64 (nI (aS A 24))))) + (37 * (Int32.toInt64 (gv (if aS A 12 = 0 then 0 else 1) (nI (aS A 11)) exNSE)))) + (41 * (Int32.toInt64 (gv (if aS A 3 = 0 then 1 else 0) (nI (aS A 4)) exNSE)))) + (43 * (Int32.toInt64 (nI (aS A 7))))
def sumS (A : Sx) (k : Nat) (acc : Int64) : Int64 := ((((((31 * acc) + (Int32.toInt64 (gv (k01 (rok (nI k))) (aV A 1 (aN A 1 (Int32.toNatClampNeg (nI k)))) exIAE))) + (3 * (Int32.toInt64 (gv (k01 (rok (nI k))) (nI (aN A 0 (Int32.toNatClampNeg (nI k)))) exIAE)))) + (5 * (Int32.toInt64 (gv (k01 (ix (nI k) 16)) (nI (aN A 4 (Int32.toNatClampNeg (nI k)))) exIAE)))) + (7 * (Int32.toInt64 (gv (k01 (ix (nI k) 16)) (nI (aN A 5 (Int32.toNatClampNeg (nI k)))) exIAE)))) + (11 * (Int32.toInt64 (gv (k01 (ix (nI k) 4)) (aV A 4 (Int32.toNatClampNeg (nI k))) exIAE)))) + (13 * (Int32.toInt64 (gv (k01 (adok (4 * (nI k)))) (aV A 2 (Int32.toNatClampNeg (4 * (nI k)))) exIAE)))
def sumL (A : Sx) : Nat → Int64
  | 0 => sum0 A
  | k + 1 => sumS A k (sumL A k)
def sumV (A : Sx) : Int64 := 31 * sumL A 16 + Int32.toInt64 (nI (aQ A).length)
theorem sum_turn (C : CW G mL_sum p R s m meth c) (hG : Gok2 l G) {k : Nat} {acc : Int64} (hk : k < 16) (h : JC b z A μ) (kk : ∀ μ2, JC b z A μ2 → LJ l G mL_sum p e R s m args below meth c Q 133 [(3, .int (nI (k + 1))), (1, .long (sumS A k acc)), (0, .ref b)] [] μ2 c1 s1) : LJ l G mL_sum p e R s m args below meth c Q 133 [(3, .int (nI k)), (1, .long (acc)), (0, .ref b)] [] μ (c1 + 6) (s1 + 36) := by
  refine lj_iload_n C dL_sum_133 rfl (q := 0) rfl ?_
  refine lj_bipush (v := 16) C dL_sum_134 (by decide) ?_
  refine lj_icmp_ge_f (tgt := 227) C dL_sum_136 (by decide) (nI_ge hk (by decide)) ?_
  refine lj_ldc2 C hG.1 lc_L_143 dL_sum_139 ?_
  refine lj_lload_n C dL_sum_142 rfl (q := 1) rfl ?_
  refine lj_lmul C dL_sum_143 ?_
  refine lj_aload_n C dL_sum_144 rfl (q := 2) rfl ?_
  refine lj_bipush (v := 114) C dL_sum_145 (by decide) ?_
  refine lj_iload_n C dL_sum_147 rfl (q := 0) rfl ?_
  refine lo_r (c2 := c1 + 5) (s2 := s1 + 30) C hG rfl ⟨by decide, by decide⟩ h (Nat.le_of_ble_eq_true rfl) dL_sum_148 (by omega) (by omega) fun mh1 h1 => ?_
  refine lj_i2l C dL_sum_151 ?_
  refine lj_ladd C dL_sum_152 ?_
  refine lj_ldc2 C hG.1 lc_L_204 dL_sum_153 ?_
  refine lj_aload_n C dL_sum_156 rfl (q := 2) rfl ?_
  refine lj_bipush (v := 105) C dL_sum_157 (by decide) ?_
  refine lj_iload_n C dL_sum_159 rfl (q := 0) rfl ?_
  refine lo_i (c2 := c1 + 4) (s2 := s1 + 24) C hG rfl ⟨by decide, by decide⟩ h1 (Nat.le_of_ble_eq_true rfl) dL_sum_160 (by omega) (by omega) fun mh2 h2 => ?_
  refine lj_i2l C dL_sum_163 ?_
  refine lj_lmul C dL_sum_164 ?_
  refine lj_ladd C dL_sum_165 ?_
  refine lj_ldc2 C hG.1 lc_L_206 dL_sum_166 ?_
  refine lj_aload_n C dL_sum_169 rfl (q := 2) rfl ?_
  refine lj_bipush (v := 99) C dL_sum_170 (by decide) ?_
  refine lj_iload_n C dL_sum_172 rfl (q := 0) rfl ?_
  refine lo_c (c2 := c1 + 3) (s2 := s1 + 18) C hG rfl ⟨by decide, by decide⟩ h2 (Nat.le_of_ble_eq_true rfl) dL_sum_173 (by omega) (by omega) fun mh3 h3 => ?_
  refine lj_i2l C dL_sum_176 ?_
  refine lj_lmul C dL_sum_177 ?_
  refine lj_ladd C dL_sum_178 ?_
  refine lj_ldc2 C hG.1 lc_L_153 dL_sum_179 ?_
  refine lj_aload_n C dL_sum_182 rfl (q := 2) rfl ?_
  refine lj_bipush (v := 109) C dL_sum_183 (by decide) ?_
  refine lj_iload_n C dL_sum_185 rfl (q := 0) rfl ?_
  refine lo_m (c2 := c1 + 2) (s2 := s1 + 12) C hG rfl ⟨by decide, by decide⟩ h3 (Nat.le_of_ble_eq_true rfl) dL_sum_186 (by omega) (by omega) fun mh4 h4 => ?_
  refine lj_i2l C dL_sum_189 ?_
  refine lj_lmul C dL_sum_190 ?_
  refine lj_ladd C dL_sum_191 ?_
  refine lj_ldc2 C hG.1 lc_L_158 dL_sum_192 ?_
  refine lj_aload_n C dL_sum_195 rfl (q := 2) rfl ?_
  refine lj_bipush (v := 108) C dL_sum_196 (by decide) ?_
  refine lj_iload_n C dL_sum_198 rfl (q := 0) rfl ?_
  refine lo_l (c2 := c1 + 1) (s2 := s1 + 6) C hG rfl ⟨by decide, by decide⟩ h4 (Nat.le_of_ble_eq_true rfl) dL_sum_199 (by omega) (by omega) fun mh5 h5 => ?_
  refine lj_i2l C dL_sum_202 ?_
  refine lj_lmul C dL_sum_203 ?_
  refine lj_ladd C dL_sum_204 ?_
  refine lj_ldc2 C hG.1 lc_L_163 dL_sum_205 ?_
  refine lj_aload_n C dL_sum_208 rfl (q := 2) rfl ?_
  refine lj_bipush (v := 119) C dL_sum_209 (by decide) ?_
  refine lj_iconst (v := 4) C dL_sum_211 (by decide) ?_
  refine lj_iload_n C dL_sum_212 rfl (q := 0) rfl ?_
  refine lj_imul C dL_sum_213 ?_
  refine lo_w (c2 := c1 + 0) (s2 := s1 + 0) C hG rfl ⟨by decide, by decide⟩ h5 (Nat.le_of_ble_eq_true rfl) dL_sum_214 (by omega) (by omega) fun mh6 h6 => ?_
  refine lj_i2l C dL_sum_217 ?_
  refine lj_lmul C dL_sum_218 ?_
  refine lj_ladd C dL_sum_219 ?_
  refine lj_lstore_n C dL_sum_220 rfl (by decide) rfl ?_
  refine lj_iinc (v := nI (k + 1)) C dL_sum_221 (q := 1) rfl (nI_addL (b := 1) (by decide)) (by decide) rfl ?_
  refine lj_goto (tgt := 133) C dL_sum_224 (by decide) ?_
  exact lj_w (Nat.le_refl _) (Nat.le_refl _) (kk _ h6)
theorem sum_loop (C : CW G mL_sum p R s m meth c) (hG : Gok2 l G) (kf : ∀ μ2, JC b z A μ2 → LJ l G mL_sum p e R s m args below meth c Q 227 [(3, .int (nI 16)), (1, .long (sumL A 16)), (0, .ref b)] [] μ2 c1 s1) : ∀ (r k : Nat) (μ : Mm), k + r = 16 → JC b z A μ → LJ l G mL_sum p e R s m args below meth c Q 133 [(3, .int (nI k)), (1, .long (sumL A k)), (0, .ref b)] [] μ (c1 + 6 * r) (s1 + 36 * r)
  | 0, k, μ, hk, h => by
    obtain rfl : k = 16 := by omega
    refine lj_iload_n C dL_sum_133 rfl (q := 0) rfl ?_
    refine lj_bipush (v := 16) C dL_sum_134 (by decide) ?_
    refine lj_icmp_ge_t (tgt := 227) C dL_sum_136 (by decide) (by decide) ?_
    exact kf μ h
  | r + 1, k, μ, hk, h => by
    have e1 : c1 + 6 * (r + 1) = (c1 + 6 * r) + 6 := by omega
    have e2 : s1 + 36 * (r + 1) = (s1 + 36 * r) + 36 := by omega
    rw [e1, e2]
    exact sum_turn C hG (by omega) h fun μ2 h2 => sum_loop C hG kf r (k + 1) μ2 (by omega) h2
theorem wc_sum (hG : Gok2 l G) (h : JC b z A μ) : Met l mL_sum.y mL_sum.ws (mL_sum.rm 98 588) (PcE G [.ref b] μ) (QW G (fun v μ2 => v = .long (sumV A) ∧ JC b z A μ2)) 98 588 (FREE G) := by
  refine wx_metC mf_L_sum rfl (Nat.le_of_ble_eq_true rfl) fun p e R s m args below meth c C => ?_
  refine lj_aload_n C dL_sum_0 rfl (q := 0) rfl ?_
  refine lg_cycle C hG rfl ⟨by decide, by decide⟩ h (Nat.le_of_ble_eq_true rfl) dL_sum_1 ?_
  refine lj_i2l C dL_sum_4 ?_
  refine lj_ldc2 C hG.1 lc_L_143 dL_sum_5 ?_
  refine lj_aload_n C dL_sum_8 rfl (q := 0) rfl ?_
  refine lg_ends C hG rfl ⟨by decide, by decide⟩ h (Nat.le_of_ble_eq_true rfl) dL_sum_9 ?_
  refine lj_i2l C dL_sum_12 ?_
  refine lj_lmul C dL_sum_13 ?_
  refine lj_ladd C dL_sum_14 ?_
  refine lj_ldc2 C hG.1 lc_L_148 dL_sum_15 ?_
  refine lj_aload_n C dL_sum_18 rfl (q := 0) rfl ?_
  refine lg_inBuffer C hG rfl ⟨by decide, by decide⟩ h (Nat.le_of_ble_eq_true rfl) dL_sum_19 ?_
  refine lj_i2l C dL_sum_22 ?_
  refine lj_lmul C dL_sum_23 ?_
  refine lj_ladd C dL_sum_24 ?_
  refine lj_ldc2 C hG.1 lc_L_153 dL_sum_25 ?_
  refine lj_aload_n C dL_sum_28 rfl (q := 0) rfl ?_
  refine lg_inQueue C hG rfl ⟨by decide, by decide⟩ h (Nat.le_of_ble_eq_true rfl) dL_sum_29 ?_
  refine lj_i2l C dL_sum_32 ?_
  refine lj_lmul C dL_sum_33 ?_
  refine lj_ladd C dL_sum_34 ?_
  refine lj_ldc2 C hG.1 lc_L_158 dL_sum_35 ?_
  refine lj_aload_n C dL_sum_38 rfl (q := 0) rfl ?_
  refine lg_fetched C hG rfl ⟨by decide, by decide⟩ h (Nat.le_of_ble_eq_true rfl) dL_sum_39 ?_
  refine lj_i2l C dL_sum_42 ?_
  refine lj_lmul C dL_sum_43 ?_
  refine lj_ladd C dL_sum_44 ?_
  refine lj_ldc2 C hG.1 lc_L_163 dL_sum_45 ?_
  refine lj_aload_n C dL_sum_48 rfl (q := 0) rfl ?_
  refine lg_returns C hG rfl ⟨by decide, by decide⟩ h (Nat.le_of_ble_eq_true rfl) dL_sum_49 ?_
  refine lj_i2l C dL_sum_52 ?_
  refine lj_lmul C dL_sum_53 ?_
  refine lj_ladd C dL_sum_54 ?_
  refine lj_ldc2 C hG.1 lc_L_168 dL_sum_55 ?_
  refine lj_aload_n C dL_sum_58 rfl (q := 0) rfl ?_
  refine lg_wrong C hG rfl ⟨by decide, by decide⟩ h (Nat.le_of_ble_eq_true rfl) dL_sum_59 ?_
  refine lj_i2l C dL_sum_62 ?_
  refine lj_lmul C dL_sum_63 ?_
  refine lj_ladd C dL_sum_64 ?_
  refine lj_ldc2 C hG.1 lc_L_173 dL_sum_65 ?_
  refine lj_aload_n C dL_sum_68 rfl (q := 0) rfl ?_
  refine lg_early C hG rfl ⟨by decide, by decide⟩ h (Nat.le_of_ble_eq_true rfl) dL_sum_69 ?_
  refine lj_i2l C dL_sum_72 ?_
  refine lj_lmul C dL_sum_73 ?_
  refine lj_ladd C dL_sum_74 ?_
  refine lj_ldc2 C hG.1 lc_L_178 dL_sum_75 ?_
  refine lj_aload_n C dL_sum_78 rfl (q := 0) rfl ?_
  refine lg_taken C hG rfl ⟨by decide, by decide⟩ h (Nat.le_of_ble_eq_true rfl) dL_sum_79 ?_
  refine lj_i2l C dL_sum_82 ?_
  refine lj_lmul C dL_sum_83 ?_
  refine lj_ladd C dL_sum_84 ?_
  refine lj_ldc2 C hG.1 lc_L_183 dL_sum_85 ?_
  refine lj_aload_n C dL_sum_88 rfl (q := 0) rfl ?_
  refine lg_hits C hG rfl ⟨by decide, by decide⟩ h (Nat.le_of_ble_eq_true rfl) dL_sum_89 ?_
  refine lj_lmul C dL_sum_92 ?_
  refine lj_ladd C dL_sum_93 ?_
  refine lj_ldc2 C hG.1 lc_L_189 dL_sum_94 ?_
  refine lj_aload_n C dL_sum_97 rfl (q := 0) rfl ?_
  refine lj_bipush (v := 102) C dL_sum_98 (by decide) ?_
  refine lj_iconst (v := 0) C dL_sum_100 (by decide) ?_
  refine lo_f (c2 := 97) (s2 := 582) C hG rfl ⟨by decide, by decide⟩ h (Nat.le_of_ble_eq_true rfl) dL_sum_101 (by omega) (by omega) fun mh1 h1 => ?_
  refine lj_i2l C dL_sum_104 ?_
  refine lj_lmul C dL_sum_105 ?_
  refine lj_ladd C dL_sum_106 ?_
  refine lj_ldc2 C hG.1 lc_L_197 dL_sum_107 ?_
  refine lj_aload_n C dL_sum_110 rfl (q := 0) rfl ?_
  refine lj_bipush (v := 107) C dL_sum_111 (by decide) ?_
  refine lj_iconst (v := 0) C dL_sum_113 (by decide) ?_
  refine lo_k (c2 := 96) (s2 := 576) C hG rfl ⟨by decide, by decide⟩ h1 (Nat.le_of_ble_eq_true rfl) dL_sum_114 (by omega) (by omega) fun mh2 h2 => ?_
  refine lj_i2l C dL_sum_117 ?_
  refine lj_lmul C dL_sum_118 ?_
  refine lj_ladd C dL_sum_119 ?_
  refine lj_ldc2 C hG.1 lc_L_199 dL_sum_120 ?_
  refine lj_aload_n C dL_sum_123 rfl (q := 0) rfl ?_
  refine lg_free C hG rfl ⟨by decide, by decide⟩ h2 (Nat.le_of_ble_eq_true rfl) dL_sum_124 ?_
  refine lj_i2l C dL_sum_127 ?_
  refine lj_lmul C dL_sum_128 ?_
  refine lj_ladd C dL_sum_129 ?_
  refine lj_lstore_n C dL_sum_130 rfl (by decide) rfl ?_
  refine lj_iconst (v := 0) C dL_sum_131 (by decide) ?_
  refine lj_istore_n C dL_sum_132 rfl (by decide) rfl ?_
  refine sum_loop (c1 := 0) (s1 := 0) C hG (fun μ2 h2 => ?_) 16 0 _ rfl h2
  refine lj_ldc2 C hG.1 lc_L_143 dL_sum_227 ?_
  refine lj_lload_n C dL_sum_230 rfl (q := 1) rfl ?_
  refine lj_lmul C dL_sum_231 ?_
  refine lj_aload_n C dL_sum_232 rfl (q := 2) rfl ?_
  refine lg_asked C hG rfl ⟨by decide, by decide⟩ h2 (Nat.le_of_ble_eq_true rfl) dL_sum_233 ?_
  refine lj_i2l C dL_sum_236 ?_
  refine lj_ladd C dL_sum_237 ?_
  exact lj_wlret C dL_sum_238 rfl ⟨rfl, h2⟩
theorem lj_sum (C : CW G Y p R s m meth c) (hG : Gok2 l G) (hY : Y.own = RL) (hR : mL_sum.fr + 1 ≤ Y.fr ∧ 8 + (mL_sum.maxL + 11) + mL_sum.lo ≤ Y.lo) (h : JC b z A μ) (hcat : (st.map fun v => v.category).sum ≤ 8) (d : decode Y.cc pc = .ok (.invokestatic 220, 3)) (hc : 98 + c2 ≤ c1) (hs : 588 + s2 ≤ s1) (kk : ∀ μ2, JC b z A μ2 → LJ l G Y p e R s m args below meth c Q (pc + 3) L (.long (sumV A) :: st) μ2 c2 s2) : LJ l G Y p e R s m args below meth c Q pc L (.ref b :: st) μ c1 s1 :=
  lj_callC (As := [.ref b]) (c2 := c2) (s2 := s2) C hG.1 mf_L_sum (by rw [hY]; exact cs_sum) hR rfl (wc_sum hG h) hcat d hc hs fun v μ2 hw => by
    obtain ⟨rfl, j⟩ := hw
    exact kk μ2 j
end LSUM
