/-! the start of the law -/
/-- the memory at the start -/
def mu0 (ad : Nat → Nat) (N : Nat) : Mm := (fun _ _ => 0, fun a k => if a = 0 then some (ad k) else none, fun _ _ => 0, fun a => if a = ad 0 then 26 else 0, fun _ => 0, N, 0)
theorem mu0_sim {l : Launch} {G : Gt} (hG : Gok l G) (h0 : 0 < G.1.heap.size) (hc : ∃ cell : Cell, G.1.heap[G.2.2.2 0]? = some cell ∧ cell.cls = G.2.2.1 6 ∧ cell.slots.size.toInt32 = 0 ∧ cell.vm.isStatics = false ∧ cell.vm ≠ .unknown) : Sim G (mu0 G.2.2.2 G.1.heap.size) G.1.heap := by
  refine ⟨⟨⟨h0, fun k hk => rfl, ?_⟩, fun q hq => rfl⟩, rfl, Nat.le_refl _, fun a ha => Or.inr ?_⟩
  · show (if 0 = G.2.2.2 0 then 26 else 0) < 100
    split <;> decide
  · have e : a = G.2.2.2 0 := by
      by_cases q : a = G.2.2.2 0
      · exact q
      · exact absurd (if_neg q) ha
    subst e
    exact ⟨if_pos rfl, rfl, hc⟩
theorem mu0_st {ad : Nat → Nat} {N : Nat} : ST (ad 0) (mu0 ad N) := by
  refine ⟨rfl, ⟨_, rfl⟩, ⟨_, rfl⟩, ⟨_, rfl⟩, ?_, if_pos rfl, rfl⟩
  by_cases q : 0 = ad 0
  · exact Or.inr q.symm
  · exact Or.inl (if_neg q)
theorem mu0_am {ad : Nat → Nat} {N : Nat} (hz : ad 0 < N) : AM N (ad 0) xO 0 (mu0 ad N) (mu0 ad N) := ⟨⟨rfl, rfl⟩, fun a _ => ⟨rfl, rfl, rfl, rfl, rfl⟩, fun i hi => absurd hi (Nat.not_lt_zero _), fun i _ => ⟨fun _ => rfl, fun _ => rfl⟩, fun a ha => if_neg (by have : N ≤ a := ha; omega)⟩
theorem ciL_211 : CIs RL 211 mX10_init := CIs.of 71 72 (by decide +kernel) (by decide +kernel) rfl rfl
theorem nwL_8 : NWs RL 8 11 1 := NWs.of _ rfl rfl 69 70 39 (by decide +kernel) (by decide +kernel) (by decide +kernel)
theorem dL_law_0 : decode cL_law 0 = .ok (.new 8, 3) := by decide +kernel
theorem dL_law_3 : decode cL_law 3 = .ok (.dup, 1) := by decide +kernel
theorem dL_law_4 : decode cL_law 4 = .ok (.invokespecial 211, 3) := by decide +kernel
theorem dL_law_7 : decode cL_law 7 = .ok (.astore_n 1, 1) := by decide +kernel
theorem dL_law_8 : decode cL_law 8 = .ok (.iconst 0, 1) := by decide +kernel
theorem dL_law_9 : decode cL_law 9 = .ok (.istore_n 2, 1) := by decide +kernel
theorem dL_law_10 : decode cL_law 10 = .ok (.aload_n 0, 1) := by decide +kernel
theorem dL_law_11 : decode cL_law 11 = .ok (.iconst 0, 1) := by decide +kernel
theorem dL_law_12 : decode cL_law 12 = .ok (.invokestatic 212, 3) := by decide +kernel
theorem dL_law_15 : decode cL_law 15 = .ok (.bipush 59, 2) := by decide +kernel
theorem dL_law_17 : decode cL_law 17 = .ok (.invokestatic 216, 3) := by decide +kernel
theorem dL_law_20 : decode cL_law 20 = .ok (.istore_n 3, 1) := by decide +kernel
theorem dL_law_21 : decode cL_law 21 = .ok (.iconst 0, 1) := by decide +kernel
theorem dL_law_22 : decode cL_law 22 = .ok (.istore 4, 2) := by decide +kernel
theorem dL_law_24 : decode cL_law 24 = .ok (.bipush 16, 2) := by decide +kernel
theorem dL_law_26 : decode cL_law 26 = .ok (.istore 5, 2) := by decide +kernel
theorem dL_law_28 : decode cL_law 28 = .ok (.iconst 0, 1) := by decide +kernel
theorem dL_law_29 : decode cL_law 29 = .ok (.istore 6, 2) := by decide +kernel
theorem dL_law_1772 : decode cL_law 1772 = .ok (.ireturn, 1) := by decide +kernel
theorem la_A0 : LA 0 false 16 A0 := ⟨rfl, rfl, fun _ => rfl, fun _ => ⟨fun r _ => (show (0 : Int32) ≤ 0 by decide), fun a _ => (show (0 : Int32) ≤ 0 by decide)⟩⟩
set_option maxRecDepth 100000 in
theorem law_start {l : Launch} {G : Gt} {p : Program} {e : Env} {R : Room} {s : State} {m : MethodId} {args : Array Value} {below : List Frame} {meth : Method} {c : Code} {Q : State → Prop} (C : CW G mL_law p R s m meth c) (hG : Gok3 l G) {q0 n : Nat} {xs : Nat → Int32} (hX : va_X q0 n xs G.1 G.1.heap) (hq : q0 < G.1.heap.size) (hn : n ≤ 260) (hz : G.2.2.2 0 < G.1.heap.size)
    (kf : ∀ (L : List (Nat × Value)) (μ : Mm) (c1 s1 : Nat), LJ l G mL_law p e R s m args below meth c Q 1772 L [.int 1] μ c1 s1) : LJ l G mL_law p e R s m args below meth c Q 0 [(0, .ref q0)] [] (mu0 G.2.2.2 G.1.heap.size) 600086 7301442 := by
  obtain ⟨b, hb⟩ : ∃ b, b = G.1.heap.size := ⟨_, rfl⟩
  have hq2 := hq
  rw [← hb] at hz hq2 ⊢
  obtain ⟨μ0, hm⟩ : ∃ μ0, μ0 = mu0 G.2.2.2 b := ⟨_, rfl⟩
  have am0 : AM b (G.2.2.2 0) xO 0 μ0 μ0 := by rw [hm]; exact mu0_am hz
  have st0 : ST (G.2.2.2 0) μ0 := by rw [hm]; exact mu0_st
  have h0 : 0 < b := by omega
  rw [← hm]
  have nb : mN μ0 = b := am0.1.1
  refine lj_new C hG.1.1 nwL_8 dL_law_0 (c2 := 600085) (s2 := 7301441) (by decide) (by decide) ?_
  rw [nb]
  refine lj_dup C dL_law_3 rfl ?_
  have am1 : AM b (G.2.2.2 0) yc1 (0 + 1) μ0 (nw μ0 111 0 1) := am0.newC
  obtain ⟨s2, hs2⟩ := st0.2.2.1
  obtain ⟨μ1, e1, a1⟩ := i_X10_init_0 h0 st0.1 hs2 _ am1
  have a1' : AM b (G.2.2.2 0) yc30 367 μ0 μ1 := a1
  have l30 : yc30.1.length = 30 := by decide +kernel
  have n1 : mN μ1 = b + 30 := by rw [a1'.1.1, l30]
  have t1 : mS μ1 = mS μ0 + 367 := a1'.1.2
  have n0 : mN (nw μ0 (100 + 11) 0 1) = b + 1 := by rw [← nb]; rfl
  have t0 : mS (nw μ0 (100 + 11) 0 1) = mS μ0 + 1 := rfl
  refine lj_callI (As := []) (c2 := 600000) (s2 := 7300000) C hG.1.1 mf_X10_init ciL_211 ⟨by decide, by decide⟩ rfl rfl (Nat.le_of_ble_eq_true rfl) (s_X10_init hG.1.1 _ _ _ _ e1) (Nat.le_of_ble_eq_true rfl) dL_law_4 (by omega) (by omega) ?_
  obtain ⟨f1, f2, f3⟩ := fin_all a1' st0 hz h0
  have jc : JC b (G.2.2.2 0) A0 μ1 := ⟨f1, ⟨_, _, _, f2⟩, AI.z0 z0_A0⟩
  have pc : PC A0 = 28016 := by
    unfold PC
    rw [if_pos z0_A0.2.1.2.1, z0_A0.2.1.1]
    rfl
  have ps : PS A0 = 6598096 := by
    unfold PS
    rw [if_pos z0_A0.2.1.2.1, z0_A0.2.1.1]
    rfl
  have lp : ∀ steps : Nat, steps < 59 → LJ l G mL_law p e R s m args below meth c Q 31 (L0 b q0 0 16 false steps 0) [] μ1 600000 7300000 := fun steps hs => by
    have := law_loop (c1 := 300) (s1 := 9000) C hG hX hq hn hs (fun pg be inn A μ h la => lj_w (by omega) (by omega) (law_fin (c1 := 0) (s1 := 0) C hG la h kf)) steps 0 0 16 false A0 μ1 (Nat.zero_add _) jc la_A0
    rw [pc, ps] at this
    exact lj_w (by omega) (by omega) this
  unfold L0 at lp
  refine lj_astore_n C dL_law_7 rfl (by decide) rfl ?_
  refine lj_iconst (v := 0) C dL_law_8 (by decide) ?_
  refine lj_istore_n C dL_law_9 rfl (by decide) rfl ?_
  refine lj_aload_n C dL_law_10 rfl (q := 2) rfl ?_
  refine lj_iconst (v := 0) C dL_law_11 (by decide) ?_
  refine lj_at (k := 0) C hG.1 rfl ⟨by decide, by decide⟩ hX hq hn (by decide) (Nat.le_of_ble_eq_true rfl) dL_law_12 ?_
  refine lj_bipush (v := 59) C dL_law_15 (by decide) ?_
  refine lj_some C hG.1 rfl ⟨by decide, by decide⟩ (n := 59) (by decide) (by decide) (by decide) (Nat.le_of_ble_eq_true rfl) dL_law_17 fun steps hs => ?_
  refine lj_istore_n C dL_law_20 rfl (by decide) rfl ?_
  refine lj_iconst (v := 0) C dL_law_21 (by decide) ?_
  refine lj_istore C dL_law_22 (by decide) rfl ?_
  refine lj_bipush (v := 16) C dL_law_24 (by decide) ?_
  refine lj_istore C dL_law_26 (by decide) rfl ?_
  refine lj_iconst (v := 0) C dL_law_28 (by decide) ?_
  refine lj_istore C dL_law_29 (by decide) rfl ?_
  refine lj_sub C [0, 1, 2, 3, 4, 5, 6] rfl ?_
  exact lp steps hs
