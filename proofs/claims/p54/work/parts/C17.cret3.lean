/-! THE CLASS: traps, interrupts -/
section CTR
variable {b z e sl : Nat} {m m' : Nat → Nat} {A A' B C D : Sx} {P : Pm} {G : Nat → Nat → Nat} {ar : Nat → Nat} {s : Nat} {μ μ' μ2 : Mm} {S : Nat → Nat → Bool}
/-- an empty stack -/
theorem c_noStk : NF μ (nw μ 41 0 0) ∧ SKs (nw μ 41 0 0) (mN μ) [] := ⟨NF.new, nwKa _ _ _ _, nwLa _ _ _ _, fun _ hi => absurd hi (Nat.not_lt_zero _)⟩
theorem c_b60 (h : FR b z C μ) (hh : HR b z C m G ar s μ) (w : WF μ) (h1 : aS C 1 ≤ 1) : ∃ s' μ', f_X0_takeTrap_b60 (b + 1) μ = some ((), μ') ∧ (aS C 1 = 0 → FR b z (goOn C (aS C 5) []) μ' ∧ HR b z (goOn C (aS C 5) []) m G ar s' μ') ∧ (aS C 1 = 1 → FR b z (zS (zT C []) 12 1) μ' ∧ HR b z (zS (zT C []) 12 1) m G ar s' μ') ∧ CK 1 0 μ μ' ∧ H2 μ μ' := by
  have k0 := h.1
  unfold SC at k0
  obtain ⟨n1, sk⟩ := c_noStk (μ := μ)
  obtain ⟨N, hN⟩ : ∃ N, N = mN μ := ⟨_, rfl⟩
  obtain ⟨μ1, m1⟩ : ∃ μ1, μ1 = nw μ 41 0 0 := ⟨_, rfl⟩
  rw [← m1] at n1 sk
  rw [← hN] at sk
  have F1 := h.nf w n1
  have H1 := hh.nf h.1 w n1
  have c1 := n1.ck (e := 1) (sl := 0) (by rw [m1]; exact Nat.le_refl _) (by rw [m1]; exact Nat.le_refl _)
  have x1 : H2 μ μ1 := fun a ha => n1.hp w a (h2_h ha)
  obtain ⟨μ2, e2, F2, H2', c2, x2⟩ := c_goOn (p := aS C 5) F1 H1 sk
  have i17 : mI μ (b + 1) 17 = nI (aS C 5) := h.2.1.1 5 rfl
  have k2 := F2.1
  unfold SC at k2
  have i13 : mI μ2 (b + 1) 13 = nI (aS C 1) := by
    have := F2.2.1.1 1 rfl
    have e : aS (goOn C (aS C 5) []) 1 = aS C 1 := by
      show aS (zS (zS C 11 (aS C 5)) 12 0) 1 = _
      rw [zS_ne _ _ (by decide), zS_ne _ _ (by decide)]
    rw [e] at this
    exact this
  obtain ⟨μ3, m3⟩ : ∃ μ3, μ3 = sI μ2 (b + 20) 5 (nI (aS C 1)) := ⟨_, rfl⟩
  have zz1 : zb (nI (aS C 1)) = nI (aS C 1) := by
    have : aS C 1 = 0 ∨ aS C 1 = 1 := by omega
    rcases this with q | q <;> rw [q] <;> rfl
  have run : f_X0_takeTrap_b60 (b + 1) μ = some ((), μ3) := by
    have sm : ∀ x : Option (Unit × Mm), ck (smn 0) x = x := fun x => if_pos (by decide)
    have nw0 : nw μ 41 (Int32.toNatClampNeg 0) (Int32.toNatClampNeg 0) = μ1 := m1.symm
    have k1 := F1.1
    unfold SC at k1
    simp only [f_X0_takeTrap_b60, k0, ckT, bdS, sm, zlS, nw0, ← hN, k1, i17, cl_t e2, k2, i13, zz1, ← m3]
  have g3 : CH b (fun o k => o == 20 && k == 5) μ2 μ3 := by rw [m3]; exact CH.put rfl
  have sF : ∀ o k, (fun o k => o == 20 && k == 5) o k = true → okS o k := fun o k zz => by
    simp only [Bool.and_eq_true, beq_iff_eq] at zz
    unfold okS
    omega
  have sF2 : ∀ o k, (fun o k => o == 20 && k == 5) o k = true → o < 30 ∧ o ≠ 24 := fun o k zz => ⟨(sF o k zz).1, (sF o k zz).2.1⟩
  have c3 := g3.ck F2.1 sF2
  have x3 := g3.h2 F2.1 sF2
  have H3 := H2'.ch F2.1 g3 sF2
  have T3 : RT cT b (zS (goOn C (aS C 5) []) 12 (aS C 1)) μ3 := by
    rw [m3]
    exact F2.2.1.putS cT_ok (i := 12) rfl (aS C 1)
  have gi : ∀ i, i ≠ 11 → i ≠ 12 → aS (goOn C (aS C 5) []) i = aS C i := fun i a c => by
    show aS (zS (zS C 11 (aS C 5)) 12 0) i = _
    rw [zS_ne _ _ c, zS_ne _ _ a]
  refine ⟨N, μ3, run, fun h0 => ?_, fun h11 => ?_, (c1.trans c2).trans c3, (x1.trans x2).trans x3⟩
  · have T : RT cT b (goOn C (aS C 5) []) μ3 := T3.cg (fun i _ => by
      by_cases e : i = 12
      · rw [e, zS_at, h0]
        show aS (zS (zS C 11 (aS C 5)) 12 0) 12 = 0
        exact zS_at _ _ _
      · rw [zS_ne _ _ e]) (fun _ _ _ _ => rfl) (fun _ _ _ _ => rfl)
    exact ⟨F2.ch T g3 sF rfl rfl (fun q => ⟨q, rfl⟩), H3⟩
  · have g' : ∀ i, i ≠ 12 → aS (zS (zT C []) 12 1) i = aS C i := fun i a => zS_ne _ _ a
    have T : RT cT b (zS (zT C []) 12 1) μ3 := T3.cg (fun i hi => by
      by_cases e : i = 12
      · rw [e, zS_at, zS_at, h11]
      · have i11 : i ≠ 11 := fun q => by rw [q] at hi; cases hi
        rw [zS_ne _ _ e, zS_ne _ _ e, gi i i11 e]
        rfl) (fun _ _ _ _ => rfl) (fun _ _ _ _ => rfl)
    have pe : plA (zS (zT C []) 12 1) (aS (zS (zT C []) 12 1) 14) = plA (goOn C (aS C 5) []) (aS (goOn C (aS C 5) []) 14) := by
      rw [g' 14 (by decide), gi 14 (by decide) (by decide)]
      exact plA_congr (A := goOn C (aS C 5) []) (B := zS (zT C []) 12 1) ⟨fun _ _ _ => rfl, rfl⟩ rfl rfl rfl (by rw [g' 15 (by decide), gi 15 (by decide) (by decide)]) (fun _ _ => rfl)
    refine ⟨F2.ch T g3 sF pe rfl (fun q => by rw [zS_at] at q; cases q), H3.cg ⟨fun _ _ _ => rfl, rfl⟩ ?_ ?_ ?_ ?_ (fun _ _ => rfl) (fun _ _ => rfl) rfl (fun _ _ => rfl) rfl (fun _ _ _ => rfl)⟩
    · rw [g' 15 (by decide), gi 15 (by decide) (by decide)]
    · rw [g' 9 (by decide), gi 9 (by decide) (by decide)]
    · rw [g' 10 (by decide), gi 10 (by decide) (by decide)]
    · rw [g' 14 (by decide), gi 14 (by decide) (by decide)]
theorem stop_perm (X : Sx) : zS (zT (zS X 1 1) []) 12 1 = zS (zT (zS X 12 1) []) 1 1 := by
  refine Prod.ext (funext fun i => ?_) rfl
  show up1 (up1 X.1 1 1) 12 1 i = up1 (up1 X.1 12 1) 1 1 i
  simp only [up1_if]
  by_cases h : i = 12
  · subst h; rfl
  · simp only [if_neg h]
/-- the entries are gone: their order is no matter -/
theorem HR.no9 (h : HR b z A m G ar s μ) (h9 : aS A 9 = 0) : HR b z A m' G ar s μ := h.cg SamP.refl0 rfl rfl rfl rfl (fun _ _ => rfl) (fun _ _ => rfl) rfl (fun _ _ => rfl) rfl (fun k hk => by omega)
theorem c_takeTrap {a : Nat} {x : Ent} (h : FR b z B μ) (hh : HR b z B m G ar s μ) (w : WF μ) (hz : IBz B) (n10 : aS B 10 ≤ 8) (a1 : aS B 1 = 0) (ka : mK μ a = 104) (ra : mR μ a 0 = some (G 0 (x.1 0))) (ho : x.1 0 < aS B 15) : ∃ s' μ', f_X0_takeTrap (b + 1) a μ = some ((), μ') ∧ FR b z (trapIt B x) μ' ∧ HR b z (trapIt B x) (fun _ => 0) G ar s' μ' ∧ CK 1 0 μ μ' := by
  have k0 := h.1
  unfold SC at k0
  obtain ⟨μ1, e1, F1, H1, c1, x1⟩ := c_throwF (at_ := 0) h hh w hz n10 (Nat.zero_le _)
  have e1' : f_X0_throwAwayFrom (b + 1) 0 μ = some ((), μ1) := e1
  obtain ⟨f1, f2, f3, f4, f5, f6, f7, f8⟩ := throwF_f B (n := 0) (Nat.zero_le _)
  have k1 := F1.1
  unfold SC at k1
  have b3 := hz.2.1.2.2.2.2.2.2.1.2.2
  have hzb := zb1 b3
  obtain ⟨T, hT⟩ : ∃ T, T = throwF B 0 := ⟨_, rfl⟩
  rw [← hT] at F1 H1 f1 f2 f3 f4 f5 f6 f7 f8
  have i15 : mI μ1 (b + 1) 15 = nI (aS B 3) := by
    have := F1.2.1.1 3 rfl
    rw [f1 3 (by decide) (by decide) (by decide) (by decide)] at this
    exact this
  have i33 : mI μ1 (b + 3) 3 = aV B 0 0 := by
    have : mI μ1 (b + 3) 3 = aV T 0 0 := F1.2.1.2.2 0 0 (by decide) (by decide)
    rw [this, f5]
  have w1 := c1.1 w
  have stop : f_X0_takeTrap (b + 1) a μ = f_X0_takeTrap_b23 (b + 1) μ1 → (aS B 3 ≠ 0 ∨ aV B 0 0 = -1) → ∃ s' μ', f_X0_takeTrap (b + 1) a μ = some ((), μ') ∧ FR b z (trapIt B x) μ' ∧ HR b z (trapIt B x) (fun _ => 0) G ar s' μ' ∧ CK 1 0 μ μ' := fun ee hc => by
    obtain ⟨F2, H2', c2, x2⟩ := c_put (i := 1) (n := 1) F1 H1 rfl (by decide) rfl
    obtain ⟨s', μ3, e3, -, y3, c3, x3⟩ := c_b60 F2 H2' (c2.1 w1) (by rw [zS_at]; omega)
    obtain ⟨F3, H3⟩ := y3 (zS_at _ _ _)
    have E : trapIt B x = zS (zT (zS T 1 1) []) 12 1 := by
      unfold trapIt
      dsimp only
      rw [if_pos hc, stop_perm, hT]
    rw [E]
    refine ⟨s', μ3, ?_, F3, H3.no9 ?_, ((c1.trans c2).trans c3).mono (by omega) (by omega)⟩
    · have e3' : f_X0_takeTrap_b60 (b + 1) (sI μ1 (b + 1) 13 1) = some ((), μ3) := e3
      rw [ee]
      simp only [f_X0_takeTrap_b23, k1, ckT, zlS, e3']
    · rw [zS_ne _ _ (by decide)]
      show aS (zS T 1 1) 9 = 0
      rw [zS_ne _ _ (by decide)]
      exact f2
  by_cases a3 : aS B 3 = 0
  · have w15 : ¬ ¬ zb (nI (aS B 3)) = 0 := by rw [hzb]; exact fun q => q a3
    by_cases av : aV B 0 0 = -1
    · have nn : ¬ ¬ (-1 : Int32) = -1 := fun q => q rfl
      exact stop (by simp only [f_X0_takeTrap, k0, ckT, cl_t e1', k1, i15, w15, if_false, bdS, i33, av, not_true]) (Or.inr av)
    · obtain ⟨b1, b2⟩ := adok_h av (hz.1.2.2.2.2.2.2 0 (by decide))
      obtain ⟨g, hg⟩ : ∃ g, g = (aV B 0 0).toNatClampNeg := ⟨_, rfl⟩
      rw [← hg] at b1
      obtain ⟨ka1, -, -, ra1⟩ := x1 a (by rw [ka]; rfl)
      have ins := H1.2.2.1 (x.1 0) (by rw [f1 15 (by decide) (by decide) (by decide) (by decide)]; exact ho)
      have p0 : mI μ1 (G 0 (x.1 0)) 0 + 1 = nI (x.1 0 + 1) := by rw [ins.2.1]; exact nI_1 _
      obtain ⟨F2, H2', c2, x2⟩ := c_put (i := 4) (n := x.1 0 + 1) F1 H1 rfl (by decide) rfl
      obtain ⟨F3, H3, c3, x3⟩ := c_put (i := 3) (n := 1) F2 H2' rfl (by decide) rfl
      obtain ⟨F4, H4, c4, x4⟩ := c_put (i := 5) (n := g) F3 H3 rfl (by decide) rfl
      obtain ⟨μ4, m4⟩ : ∃ μ4, μ4 = sI (sI (sI μ1 (b + 1) 16 (nI (x.1 0 + 1))) (b + 1) 15 1) (b + 1) 17 (nI g) := ⟨_, rfl⟩
      rw [show sI (sI (sI μ1 (b + 1) 16 (nI (x.1 0 + 1))) (b + 1) 15 (nI 1)) (b + 1) 17 (nI g) = μ4 from m4.symm] at F4 H4 c4 x4
      obtain ⟨C, hC⟩ : ∃ C, C = zS (zS (zS T 4 (x.1 0 + 1)) 3 1) 5 g := ⟨_, rfl⟩
      rw [← hC] at F4 H4
      have C1 : aS C 1 = 0 := by rw [hC, zS_ne _ _ (by decide), zS_ne _ _ (by decide), zS_ne _ _ (by decide), f1 1 (by decide) (by decide) (by decide) (by decide)]; exact a1
      have C5 : aS C 5 = g := by rw [hC]; exact zS_at _ _ _
      have C9 : aS C 9 = 0 := by rw [hC, zS_ne _ _ (by decide), zS_ne _ _ (by decide), zS_ne _ _ (by decide)]; exact f2
      obtain ⟨s', μ5, e5, y5, -, c5, x5⟩ := c_b60 F4 H4 (c4.1 (c3.1 (c2.1 w1))) (by omega)
      obtain ⟨F5, H5⟩ := y5 C1
      rw [C5] at F5 H5
      have E : trapIt B x = goOn C g [] := by
        unfold trapIt
        dsimp only
        rw [if_neg (by rintro (q | q); exact q a3; exact av q), hC, hT, hg]
      rw [E]
      refine ⟨s', μ5, ?_, F5, H5.no9 ?_, ((((c1.trans c2).trans c3).trans c4).trans c5).mono (by omega) (by omega)⟩
      · have kin := ins.1
        have i33' : ∀ {v : Int32}, mI (sI (sI μ1 (b + 1) 16 v) (b + 1) 15 1) (b + 3) 3 = nI g := fun {v} => by
          rw [mI_row _ _ (by omega), mI_row _ _ (by omega), i33]
          exact b1
        simp only [f_X0_takeTrap, k0, ckT, cl_t e1', k1, i15, w15, if_false, bdS, i33, av, not_false_eq_true, if_true, ka1, ka, ra1, ra, kin, p0, zlS, mR_sI', mK_sI, i33', ← m4, e5]
      · show aS (zS (zS C 11 g) 12 0) 9 = 0
        rw [zS_ne _ _ (by decide), zS_ne _ _ (by decide)]
        exact C9
  · have w15 : ¬ zb (nI (aS B 3)) = 0 := by rw [hzb]; exact a3
    exact stop (by simp only [f_X0_takeTrap, k0, ckT, cl_t e1', k1, i15, w15, not_false_eq_true, if_true]) (Or.inl a3)
/-- a life of which nothing is known -/
theorem c_newLife : ∃ μ', f_X10_newLife μ = some (mN μ, μ') ∧ NF μ μ' ∧ mN μ' = mN μ + 1 ∧ mS μ' = mS μ + 5 ∧ mK μ' (mN μ) = 51 ∧ mL μ' (mN μ) = 5 ∧ ∀ k, k < 5 → mI μ' (mN μ) k = -1 := by
  obtain ⟨n, hn⟩ : ∃ n, 5000 = n + 1 + 1 + 1 + 1 + 1 + 1 := ⟨4994, rfl⟩
  obtain ⟨N, hN⟩ : ∃ N, N = mN μ := ⟨_, rfl⟩
  obtain ⟨μ1, m1⟩ : ∃ μ1, μ1 = nw μ 51 5 5 := ⟨_, rfl⟩
  have K1 : mK μ1 N = 51 := by rw [m1, hN]; exact nwKa _ _ _ _
  have L1 : mL μ1 N = 5 := by rw [m1, hN]; exact nwLa _ _ _ _
  have a0 : (0 : Int32) + 1 = 1 := by decide
  have a1 : (1 : Int32) + 1 = 2 := by decide
  have a2 : (2 : Int32) + 1 = 3 := by decide
  have a3 : (3 : Int32) + 1 = 4 := by decide
  have a4 : (4 : Int32) + 1 = 5 := by decide
  have c0 : ¬ (5 : Int32) ≤ 0 := by decide
  have c1 : ¬ (5 : Int32) ≤ 1 := by decide
  have c2 : ¬ (5 : Int32) ≤ 2 := by decide
  have c3 : ¬ (5 : Int32) ≤ 3 := by decide
  have c4 : ¬ (5 : Int32) ≤ 4 := by decide
  have c5 : (5 : Int32) ≤ 5 := by decide
  have i0 : inb 0 5 := by decide
  have i1 : inb 1 5 := by decide
  have i2 : inb 2 5 := by decide
  have i3 : inb 3 5 := by decide
  have i4 : inb 4 5 := by decide
  have cl0 : Int32.toNatClampNeg 0 = 0 := by decide
  have cl1 : Int32.toNatClampNeg 1 = 1 := by decide
  have cl2 : Int32.toNatClampNeg 2 = 2 := by decide
  have cl3 : Int32.toNatClampNeg 3 = 3 := by decide
  have cl4 : Int32.toNatClampNeg 4 = 4 := by decide
  have cl5 : Int32.toNatClampNeg 5 = 5 := by decide
  have sm : ∀ x : Option (Nat × Mm), ck (smn 5) x = x := fun x => if_pos (by decide)
  have ia : isA 1 51 := by decide
  have cia : ∀ x : Option (Nat × Mm), ck (isA 1 51) x = x := fun x => if_pos ia
  refine ⟨sI (sI (sI (sI (sI μ1 N 0 (-1)) N 1 (-1)) N 2 (-1)) N 3 (-1)) N 4 (-1), ?_, ?_, ?_, ?_, ?_, ?_, ?_⟩
  · unfold f_X10_newLife
    rw [hn]
    simp only [sm, zlS, cl5, ← m1, ← hN, f_X10_newLife_b6, c0, c1, c2, c3, c4, c5, if_false, if_true, mK_sI, mL_sI, K1, L1, cia, ck_t i0, ck_t i1, ck_t i2, ck_t i3, ck_t i4, cl0, cl1, cl2, cl3, cl4, a0, a1, a2, a3, a4]
  · rw [m1, hN]
    exact NF.putI (N := 0) (NF.putI (N := 0) (NF.putI (N := 0) (NF.putI (N := 0) (NF.putI (N := 0) NF.new (Nat.le_refl _)) (Nat.le_refl _)) (Nat.le_refl _)) (Nat.le_refl _)) (Nat.le_refl _)
  · rw [m1]; rfl
  · rw [m1]; rfl
  · rw [← hN]; exact K1
  · rw [← hN]; exact L1
  · intro k hk
    rw [← hN]
    have : k = 0 ∨ k = 1 ∨ k = 2 ∨ k = 3 ∨ k = 4 := by omega
    rw [mI_up, mI_up, mI_up, mI_up, mI_up]
    rcases this with rfl | rfl | rfl | rfl | rfl <;> rfl
end CTR
