/-! the start of the law, its end -/
theorem dL_law_0 : decode cL_law 0 = .ok (.new 8, 3) := by decide +kernel
theorem dL_law_3 : decode cL_law 3 = .ok (.dup, 1) := by decide +kernel
theorem dL_law_4 : decode cL_law 4 = .ok (.invokespecial 127, 3) := by decide +kernel
theorem dL_law_7 : decode cL_law 7 = .ok (.astore_n 1, 1) := by decide +kernel
theorem dL_law_8 : decode cL_law 8 = .ok (.new 128, 3) := by decide +kernel
theorem dL_law_11 : decode cL_law 11 = .ok (.dup, 1) := by decide +kernel
theorem dL_law_12 : decode cL_law 12 = .ok (.invokespecial 130, 3) := by decide +kernel
theorem dL_law_15 : decode cL_law 15 = .ok (.astore_n 2, 1) := by decide +kernel
theorem dL_law_16 : decode cL_law 16 = .ok (.iconst 1, 1) := by decide +kernel
theorem dL_law_17 : decode cL_law 17 = .ok (.newarray .long, 2) := by decide +kernel
theorem dL_law_19 : decode cL_law 19 = .ok (.astore_n 3, 1) := by decide +kernel
theorem dL_law_20 : decode cL_law 20 = .ok (.iconst 1, 1) := by decide +kernel
theorem dL_law_21 : decode cL_law 21 = .ok (.newarray .double, 2) := by decide +kernel
theorem dL_law_23 : decode cL_law 23 = .ok (.astore 4, 2) := by decide +kernel
theorem dL_law_25 : decode cL_law 25 = .ok (.iconst 0, 1) := by decide +kernel
theorem dL_law_26 : decode cL_law 26 = .ok (.istore 5, 2) := by decide +kernel
theorem dL_law_2506 : decode cL_law 2506 = .ok (.iconst 1, 1) := by decide +kernel
theorem dL_law_2507 : decode cL_law 2507 = .ok (.ireturn, 1) := by decide +kernel
/-- the memory at the start -/
def mu0 (ad : Nat → Nat) (N : Nat) : Mm := (fun _ _ => 0, fun a k => if a = 0 then some (ad k) else none, fun _ _ => 0, fun a => if a = ad 0 then 26 else 0, fun _ => 0, N, 0)
theorem mu0_sim {l : Launch} {G : Gt} (hG : Gok l G) (h0 : 0 < G.1.heap.size) (hc : ∃ cell : Cell, G.1.heap[G.2.2.2 0]? = some cell ∧ cell.cls = G.2.2.1 6 ∧ cell.slots.size.toInt32 = 0 ∧ cell.vm.isStatics = false ∧ cell.vm ≠ .unknown) : Sim G (mu0 G.2.2.2 G.1.heap.size) G.1.heap := by
  refine ⟨⟨⟨h0, fun k hk => rfl, ?_⟩, fun q hq => rfl⟩, rfl, Nat.le_refl _, fun a ha => Or.inr ?_⟩
  · show (if 0 = G.2.2.2 0 then 26 else 0) < 100
    split <;> decide
  · have e : a = G.2.2.2 0 := by
      by_cases q : a = G.2.2.2 0
      · exact q
      · exact absurd (if_neg q) ha
    subst e
    exact ⟨if_pos rfl, rfl, hc⟩
theorem mu0_st {ad : Nat → Nat} {N : Nat} : ST (ad 0) (mu0 ad N) := by
  refine ⟨rfl, ⟨_, rfl⟩, ⟨_, rfl⟩, ⟨_, rfl⟩, ?_, if_pos rfl, rfl⟩
  by_cases q : 0 = ad 0
  · exact Or.inr q.symm
  · exact Or.inl (if_neg q)
theorem mu0_am {ad : Nat → Nat} {N : Nat} (hz : ad 0 < N) : AM N (ad 0) xO 0 (mu0 ad N) (mu0 ad N) := ⟨⟨rfl, rfl⟩, fun a _ => ⟨rfl, rfl, rfl, rfl, rfl⟩, fun i hi => absurd hi (Nat.not_lt_zero _), fun i _ => ⟨fun _ => rfl, fun _ => rfl⟩, fun a ha => if_neg (by have : N ≤ a := ha; omega)⟩
theorem P2.nf {b z : Nat} {A A' : Sx} {μ : Mm} {κ len sl : Nat} (f : FR b z A' μ) (hh : ∃ G ar s, HR b z A' (fun _ => 0) G ar s μ) (hr : ∃ ρ, RM b A ρ μ) (w : WF μ) (n9 : aS A 9 ≤ 16) (n10 : aS A 10 ≤ 8) (hN : b + 84 ≤ mN μ) : FR b z A' (nw μ κ len sl) ∧ (∃ G ar s, HR b z A' (fun _ => 0) G ar s (nw μ κ len sl)) ∧ (∃ ρ, RM b A ρ (nw μ κ len sl)) ∧ WF (nw μ κ len sl) := by
  have nf : NF μ (nw μ κ len sl) := ⟨fun w' a h => by have ha2 : mN μ + 1 ≤ a := h; exact (up1_ne _ _ (by omega)).trans (w' a (by omega)), Nat.le_succ _, fun a ha => ⟨up1_ne _ _ (by omega), up1_ne _ _ (by omega), up1_ne _ _ (by omega), up1_ne _ _ (by omega), up1_ne _ _ (by omega)⟩⟩
  obtain ⟨G, ar, s, h⟩ := hh
  obtain ⟨ρ, r⟩ := hr
  refine ⟨f.nf w nf, ⟨G, ar, s, h.nf f.1 w nf⟩, ⟨ρ, r.fr n9 n10 fun a ha => ?_⟩, fun a ha => ?_⟩
  · have hlt : a < mN μ := by
      rcases ha with q | q
      · omega
      · rcases Nat.lt_or_ge a (mN μ) with q2 | q2
        · exact q2
        · rw [w a q2] at q
          cases q
    exact ⟨up1_ne _ _ (by omega), up1_ne _ _ (by omega), up1_ne _ _ (by omega), up1_ne _ _ (by omega)⟩
  · have ha2 : mN μ + 1 ≤ a := ha
    exact (up1_ne _ _ (by omega)).trans (w a (by omega))
theorem one_c : (1 : Int32).toNatClampNeg = 1 := by decide
set_option maxRecDepth 100000 in
theorem law_start {l : Launch} {G : Gt} {p : Program} {e : Env} {R : Room} {s : State} {m : MethodId} {args : Array Value} {below : List Frame} {meth : Method} {c : Code} {Q : State → Prop} (C : CW G mL_law p R s m meth c) (hG : Gok2 l G) {q0 n : Nat} {xs : Nat → Int32} (hX : va_X q0 n xs G.1 G.1.heap) (hq : q0 < G.1.heap.size) (hn : n ≤ 3072) (hz : G.2.2.2 0 < G.1.heap.size)
    (kf : ∀ (i : Nat) (μ : Mm) (c1 s1 : Nat), LJ l G mL_law p e R s m args below meth c Q 2506 (L0 G.1.heap.size q0 i) [] μ c1 s1) : LJ l G mL_law p e R s m args below meth c Q 0 [(0, .ref q0)] [] (mu0 G.2.2.2 G.1.heap.size) 601024 7293034 := by
  obtain ⟨b, hb⟩ : ∃ b, b = G.1.heap.size := ⟨_, rfl⟩
  rw [← hb] at kf hz ⊢
  rw [← hb] at hq
  obtain ⟨μ0, hm⟩ : ∃ μ0, μ0 = mu0 G.2.2.2 b := ⟨_, rfl⟩
  have am0 : AM b (G.2.2.2 0) xO 0 μ0 μ0 := by rw [hm]; exact mu0_am hz
  have st0 : ST (G.2.2.2 0) μ0 := by rw [hm]; exact mu0_st
  have h0 : 0 < b := by omega
  rw [← hm]
  have nb : mN μ0 = b := am0.1.1
  refine lj_new C hG.1 nwL_Reorderium dL_law_0 (c2 := 601023) (s2 := 7293033) (by decide) (by decide) ?_
  rw [nb]
  refine lj_dup C dL_law_3 rfl ?_
  have am1 : AM b (G.2.2.2 0) yc1 (0 + 1) μ0 (nw μ0 111 0 1) := am0.newC
  obtain ⟨s2, hs2⟩ := st0.2.2.1
  obtain ⟨μ1, e1, a1⟩ := i_X10_init_0 h0 st0.1 hs2 _ am1
  have a1' : AM b (G.2.2.2 0) yc30 367 μ0 μ1 := a1
  have l30 : yc30.1.length = 30 := by decide +kernel
  have n1 : mN μ1 = b + 30 := by rw [a1'.1.1, l30]
  have t1 : mS μ1 = mS μ0 + 367 := a1'.1.2
  have n0 : mN (nw μ0 (100 + 11) 0 1) = b + 1 := by rw [← nb]; rfl
  have t0 : mS (nw μ0 (100 + 11) 0 1) = mS μ0 + 1 := rfl
  refine lj_callI (As := []) (c2 := 600000) (s2 := 7292000) C hG.1 mf_X10_init ciL_Reorderium ⟨by decide, by decide⟩ rfl rfl (Nat.le_of_ble_eq_true rfl) (s_X10_init hG.1 _ _ _ _ e1) (Nat.le_of_ble_eq_true rfl) dL_law_4 (by omega) (by omega) ?_
  refine lj_astore_n C dL_law_7 rfl (by decide) rfl ?_
  refine lj_new C hG.1 nwL_ReorderiumModel dL_law_8 (c2 := 599999) (s2 := 7291000) (by decide) (by decide) ?_
  rw [n1]
  refine lj_dup C dL_law_11 rfl ?_
  have am2 : AM b (G.2.2.2 0) ym1 (367 + 61) μ0 (nw μ1 112 0 61) := a1'.newC
  obtain ⟨μ2, e2, a2⟩ := i_X11_init_30 _ am2
  have l84 : ym7.1.length = 84 := by decide +kernel
  have n2 : mN μ2 = b + 84 := by rw [a2.1.1, l84]
  have t2 : mS μ2 ≤ mS μ0 + 20000 := by
    rw [a2.1.2]
    exact Nat.add_le_add_left (by decide) _
  have n1' : mN (nw μ1 (100 + 12) 0 61) = b + 31 := by
    show mN μ1 + 1 = _
    omega
  have t1' : mS (nw μ1 (100 + 12) 0 61) = mS μ0 + 428 := by
    show mS μ1 + 61 = _
    omega
  refine lj_callI (As := []) (c2 := 599000) (s2 := 7200000) C hG.1 mf_X11_init ciL_ReorderiumModel ⟨by decide, by decide⟩ rfl rfl (Nat.le_of_ble_eq_true rfl) (s_X11_init hG.1 _ _ _ _ e2) (Nat.le_of_ble_eq_true rfl) dL_law_12 (by omega) (by omega) ?_
  refine lj_astore_n C dL_law_15 rfl (by decide) rfl ?_
  obtain ⟨f1, f2, f3, f4⟩ := fin_all a2 st0 hz h0
  have ai := AI.z0 z0_A0
  obtain ⟨g1, g2, g3, g4⟩ := P2.nf (κ := 63) (len := 1) (sl := 1) f1 ⟨_, _, _, f2⟩ ⟨_, f3⟩ f4 ai.n9 ai.n10 (by omega)
  obtain ⟨μ3, hm3⟩ : ∃ μ3, μ3 = nw μ2 63 1 1 := ⟨_, rfl⟩
  have n3 : mN μ3 = b + 85 := by
    rw [hm3]
    show mN μ2 + 1 = _
    omega
  have k3 : mK μ3 (b + 84) = 63 ∧ mL μ3 (b + 84) = 1 := by
    rw [hm3, ← n2]
    exact ⟨nw_K _ _ _ _, nw_L _ _ _ _⟩
  rw [← hm3] at g1 g2 g3 g4
  obtain ⟨i1, i2, i3, i4⟩ := P2.nf (κ := 64) (len := 1) (sl := 1) g1 g2 g3 g4 ai.n9 ai.n10 (by omega)
  refine lj_iconst (v := 1) C dL_law_16 (by decide) ?_
  refine lj_newa C 63 hG.1 acL_long (by decide) (Or.inl ⟨rfl, rfl⟩) (by decide) (by decide) dL_law_17 (c2 := 598000) (s2 := 7100000) (by decide) (by rw [one_c]; decide) ?_
  rw [one_c, n2, ← hm3]
  refine lj_astore_n C dL_law_19 rfl (by decide) rfl ?_
  refine lj_iconst (v := 1) C dL_law_20 (by decide) ?_
  refine lj_newa C 64 hG.1 acL_double (by decide) (Or.inr ⟨rfl, rfl⟩) (by decide) (by decide) dL_law_21 (c2 := 597000) (s2 := 7000000) (by decide) (by rw [one_c]; decide) ?_
  rw [one_c, n3]
  refine lj_astore C dL_law_23 (by decide) rfl ?_
  refine lj_iconst (v := 0) C dL_law_25 (by decide) ?_
  refine lj_istore C dL_law_26 (by decide) rfl ?_
  have pc : PhC A0 = 20000 := by
    unfold PhC
    rw [if_pos z0_A0.2.1.2.1, z0_A0.2.1.1]
  have ps : PhS A0 = 6550000 := by
    unfold PhS
    rw [if_pos z0_A0.2.1.2.1, z0_A0.2.1.1]
  have jv : JV b (G.2.2.2 0) A0 (nw μ3 64 1 1) := by
    refine ⟨⟨i1, i2, i3, ⟨?_, ?_, ?_, ?_⟩, hz⟩, ai⟩
    · exact (up1_ne _ _ (by omega)).trans k3.1
    · exact (up1_ne _ _ (by omega)).trans k3.2
    · rw [← n3]; exact nw_K _ _ _ _
    · rw [← n3]; exact nw_L _ _ _ _
  exact lj_w (by omega) (by omega) (law_loop C hG hX (by rw [← hb]; exact hq) hn kf 512 0 A0 _ (by omega) (by omega) jv)
