/-! THE CLASS: the oldest retires -/
section CLW
variable {b z e sl : Nat} {m m' : Nat → Nat} {A A' B D : Sx} {P : Pm} {G : Nat → Nat → Nat} {ar : Nat → Nat} {s : Nat} {μ μ' μ2 : Mm} {S : Nat → Nat → Bool}
theorem zS_same {i n : Nat} (h : aS A i = n) : zS A i n = A := by
  refine Prod.ext (funext fun j => ?_) rfl
  show up1 A.1 i n j = A.1 j
  rw [up1_if]
  by_cases e : j = i
  · rw [if_pos e, e]
    exact h.symm
  · rw [if_neg e]
theorem c_finR {a : Nat} {x : Ent} (h : FR b z D μ) (hh : HR b z D m G ar s μ) (re : REc D (G 0) 1 true x a μ) (ho : x.1 0 < aS D 15) (hc : eC D x < 22) (l3 : x.1 10 = 101) (ab : x.1 7 < 24) (had : isSt (eC D x) = true → adok (x.2.1 1) = true) (h10 : eC D x = 21 → aS D 10 = 0) : ∃ μ', (bd (f_X6_isStore (G 0 (x.1 0)) μ) fun y22 =>
  if y22 = 0 then
    f_X0_retireOldest_b82 (b + 1) (G 0 (x.1 0)) μ
  else
    ck (mK μ a = 104) <|
    bd (f_X10_isAddress (mI μ a 11)) fun y26 =>
    if y26 = 0 then
      f_X0_retireOldest_b82 (b + 1) (G 0 (x.1 0)) μ
    else
      ck (mK μ (b + 1) = 101) <|
      bd (mR μ (b + 1) 9) fun p30 =>
      bd (mR μ (b + 1) 9) fun p32 =>
      ck (isA 1 (mK μ p32)) <|
      ck (inb (mI μ a 11) (mL μ p32)) <|
      bd (mR μ (b + 1) 4) fun p36 =>
      ck (mK μ p36 = 106) <|
      bd (f_X5_valueOf p36 (mI μ a 7) μ) fun y39 =>
      bd (f_X6_changedWord (G 0 (x.1 0)) (mI μ p32 (Int32.toNatClampNeg (mI μ a 11))) y39 μ) fun y41 =>
      ck (isA 1 (mK μ p30)) <|
      ck (inb (mI μ a 11) (mL μ p30)) <|
      zl (sI μ p30 (Int32.toNatClampNeg (mI μ a 11)) y41) fun μ45 =>
      some ((), μ45)) = some ((), μ') ∧ FR b z (finR D x) μ' ∧ HR b z (finR D x) m G ar s μ' ∧ CK 0 0 μ μ' ∧ H2 μ μ' := by
  have k0 := h.1
  unfold SC at k0
  obtain ⟨k1, r0, -, -, k2, -, hf⟩ := re
  have d11 : mI μ a 11 = x.2.1 1 := (hf.2.2.2.2.2.2.2.2.2.1 (Or.inr (Or.inr (by omega)))).1
  have f7 : mI μ a 7 = nI (x.1 7) := (hf.2.2.2.2.2.1 rfl).2.1
  have ins := hh.2.2.1 _ ho
  have i1 : mI μ (G 0 (x.1 0)) 1 = nI (eC D x) := ins.2.2.1
  have is := c_isSt ins.1 i1 hc
  have b0 : bI false = 0 := rfl
  have b1 : ¬ bI true = 0 := by decide
  cases hst : isSt (eC D x)
  · rw [hst] at is
    by_cases h18 : eC D x = 18
    · have w18 : ¬ ¬ nI (eC D x) = 18 := by rw [h18]; exact fun w => w rfl
      obtain ⟨F, H, c1, x1⟩ := c_put (i := 1) (n := 1) h hh rfl (by decide) rfl
      refine ⟨sI μ (b + 1) 13 (nI 1), ?_, ?_, ?_, c1, x1⟩
      · simp only [is, bdS, b0, if_true, f_X0_retireOldest_b82, ins.1, ckT, i1, w18, if_false, k0, zlS]
        rfl
      · unfold finR
        rw [hst, if_neg Bool.false_ne_true, if_pos h18]
        exact F
      · unfold finR
        rw [hst, if_neg Bool.false_ne_true, if_pos h18]
        exact H
    · have w18 : ¬ nI (eC D x) = 18 := nIne (n := 18) (by omega) (by omega) h18
      by_cases h21 : eC D x = 21
      · have w21 : ¬ ¬ nI (eC D x) = 21 := by rw [h21]; exact fun w => w rfl
        obtain ⟨F1, H1, c1, x1⟩ := c_put (i := 3) (n := 0) h hh rfl (by decide) rfl
        obtain ⟨μ1, m1⟩ : ∃ μ1, μ1 = sI μ (b + 1) 15 0 := ⟨_, rfl⟩
        have m1' : sI μ (b + 1) 15 (nI 0) = μ1 := m1.symm
        rw [m1'] at F1 H1 c1 x1
        obtain ⟨F2, H2, c2, x2⟩ := c_put (i := 5) (n := aS D 4) F1 H1 rfl (by decide) rfl
        have e16 : mI μ1 (b + 1) 16 = nI (aS D 4) := by
          have := F1.2.1.1 4 rfl
          rw [zS_ne _ _ (by decide)] at this
          exact this
        obtain ⟨μ2, m2⟩ : ∃ μ2, μ2 = sI μ1 (b + 1) 17 (nI (aS D 4)) := ⟨_, rfl⟩
        rw [show sI μ1 (b + 1) 17 (nI (aS D 4)) = μ2 from m2.symm] at F2 H2 c2 x2
        have e17 : mI μ2 (b + 1) 17 = nI (aS D 4) := by rw [m2]; exact mI_at _ _ _ _
        obtain ⟨μ3, e3, F3, H3, c3, x3⟩ := c_goOn (p := aS D 4) F2 H2 H2.2.2.2.2.2.2.2.2
        have s3 : mR μ2 (b + 20) 3 = some s := H2.2.2.2.2.2.2.2.1
        have k2' := F2.1
        unfold SC at k2'
        have E : finR D x = goOn (zS (zS D 3 0) 5 (aS D 4)) (aS D 4) (aT D) := by
          unfold finR
          rw [hst, if_neg Bool.false_ne_true, if_neg h18, if_pos h21]
          rw [zS_same (A := zS (zS D 3 0) 5 (aS D 4)) (i := 10) (n := 0) (by rw [zS_ne _ _ (by decide), zS_ne _ _ (by decide)]; exact h10 h21)]
        refine ⟨μ3, ?_, by rw [E]; exact F3, by rw [E]; exact H3, (c1.trans c2).trans c3, (x1.trans x2).trans x3⟩
        simp only [is, bdS, b0, if_true, f_X0_retireOldest_b82, ins.1, ckT, i1, w18, not_false_eq_true, w21, if_false, k0, zlS, ← m1, e16, ← m2, e17, k2', s3, cl_t e3]
      · have w21 : ¬ nI (eC D x) = 21 := nIne (n := 21) (by omega) (by omega) h21
        have E : finR D x = D := by
          unfold finR
          rw [hst, if_neg Bool.false_ne_true, if_neg h18, if_neg h21]
        rw [E]
        exact ⟨μ, by simp only [is, bdS, b0, if_true, f_X0_retireOldest_b82, ins.1, ckT, i1, w18, not_false_eq_true, w21], h, hh, CK.refl0, H2.refl0⟩
  · rw [hst] at is
    have ad := had hst
    have isad := c_isAd (x.2.1 1)
    rw [ad] at isad
    have lt := (adok_e ad).2
    have tc := (adok_e ad).1
    have ix : inb (x.2.1 1) 64 := by rw [tc]; exact inbN (by omega) (by omega)
    have vo := c_valueOf h.1 h.2.1 ab
    have cw := c_chW (w := aV D 2 (x.2.1 1).toNatClampNeg) (y := aV D 1 (x.1 7)) ins.1 i1 hc
    have hw : mI μ (b + 27) (x.2.1 1).toNatClampNeg = aV D 2 (x.2.1 1).toNatClampNeg := by
      have := h.2.1.2.2 2 (x.2.1 1).toNatClampNeg (by decide) lt
      rw [show (cT.2.2 2).2 + (x.2.1 1).toNatClampNeg = (x.2.1 1).toNatClampNeg from Nat.zero_add _] at this
      exact this
    obtain ⟨v, hv⟩ : ∃ v, v = chW (eC D x) (aV D 2 (x.2.1 1).toNatClampNeg) (aV D 1 (x.1 7)) := ⟨_, rfl⟩
    have T := h.2.1.putV cT_ok (q := 2) (j := (x.2.1 1).toNatClampNeg) (by omega) lt v
    rw [show (cT.2.2 2).2 + (x.2.1 1).toNatClampNeg = (x.2.1 1).toNatClampNeg from Nat.zero_add _] at T
    have E : finR D x = zV D 2 (x.2.1 1).toNatClampNeg v := by
      unfold finR
      rw [hst, if_pos rfl, hv]
      rfl
    obtain ⟨F, H, c1, x1⟩ := c_step (A' := zV D 2 (x.2.1 1).toNatClampNeg v) (S := fun o _ => o == 27) h hh T (CH.put rfl) (fun o k zz => by simp only [beq_iff_eq] at zz; unfold okS; omega) ⟨fun _ _ _ => rfl, zV_ne _ _ _ (by decide)⟩ (fun _ _ => rfl) rfl rfl rfl rfl (fun _ _ => rfl) (fun r hr => zV_ne _ _ _ (by omega))
    rw [E]
    refine ⟨_, ?_, F, H, c1, x1⟩
    simp only [is, bdS, b1, if_false, k1, ckT, d11, isad, k0, ckA, ck_t ix, f7, vo, hw, cw, zlS, ← hv]
    rfl
theorem c_retO {a g : Nat} {x : Ent} (h : FR b z D μ) (hh : HR b z D m G ar s μ) (re : REc D (G 0) 1 true x a μ) (ho : x.1 0 < aS D 15) (c : CF D) (l3 : x.1 10 = 101) (ab : x.1 7 < 24) (d7 : hasD (eC D x) = true → aS D 7 < 24 ∧ x.1 8 < 24) (go : x.2.1 0 = nI g) (g64 : g ≤ 64) (had : isSt (eC D x) = true → adok (x.2.1 1) = true) (h4 : ∀ k, k < 16 → aN D 4 k ≤ 3) (hso : x.1 14 ≤ 1) (h10 : eC D x = 21 → aS D 10 = 0) : ∃ μ', f_X0_retireOldest (b + 1) a μ = some ((), μ') ∧ FR b z (finR (learn (settle (zS D 5 (x.2.1 0).toNatClampNeg) x) x) x) μ' ∧ HR b z (finR (learn (settle (zS D 5 (x.2.1 0).toNatClampNeg) x) x) x) m G ar s μ' ∧ CK 0 0 μ μ' ∧ H2 μ μ' := by
  have k0 := h.1
  unfold SC at k0
  have hp := c.p ho
  have hgc : (x.2.1 0).toNatClampNeg = g := by rw [go]; exact clN (by omega)
  rw [hgc]
  have d14 : mI μ a 14 = nI g := by rw [← go]; exact (re.2.2.2.2.2.2.2.2.2.2.2.2.2.2.2.1 (Or.inr (Or.inr (by omega)))).2.2.2.1
  obtain ⟨F1, H1, c1, x1⟩ := c_put (i := 5) (n := g) h hh rfl (by decide) rfl
  obtain ⟨μ1, m1⟩ : ∃ μ1, μ1 = sI μ (b + 1) 17 (nI g) := ⟨_, rfl⟩
  rw [show sI μ (b + 1) 17 (nI g) = μ1 from m1.symm] at F1 H1 c1 x1
  obtain ⟨C, hC⟩ : ∃ C, C = zS D 5 g := ⟨_, rfl⟩
  rw [← hC] at F1 H1 ⊢
  have P1 : SamP D C := by rw [hC]; exact SamP.refl0
  have C7 : ∀ i, i ≠ 5 → aS C i = aS D i := fun i hi => by rw [hC]; exact zS_ne _ _ hi
  have ec : eC C x = eC D x := (P1.c (x := x) rfl).1
  have re1 : REc C (G 0) 1 true x a μ1 := (re.same x1).cg P1 (fun _ => rfl)
  have hec : eC D x = aN D 10 (x.1 0) := rfl
  -- settle
  obtain ⟨μ2, e2, T2, g2⟩ := c_settle F1.1 F1.2.1 re1 (H1.2.2.1 (x.1 0) (by rw [C7 15 (by decide)]; exact ho)) (by rw [P1.1 11 (by omega) (by omega)]; exact hp.2.2.1) (fun hd => by rw [ec] at hd; rw [C7 7 (by decide)]; exact (d7 hd).1) (fun hd => by rw [ec] at hd; exact (d7 hd).2)
  obtain ⟨t1, t2, t3, t4, t5, t6, t7, -⟩ := settle_f C x
  have P2 : SamP C (settle C x) := ⟨fun r a d => t2 r (by omega) (by omega), by rw [t3]⟩
  obtain ⟨F2, H2', c2, x2⟩ := c_step F1 H1 T2 g2 (fun o k zz => by
    have := of_decide_eq_true zz
    unfold okS
    omega) P2 (fun i hi => t1 i (by omega)) t4 t5 t6 t7 (fun r hr => t2 r (by omega) (by omega)) (fun r _ => by rw [t3])
  obtain ⟨E, hE⟩ : ∃ E, E = settle C x := ⟨_, rfl⟩
  rw [← hE] at F2 H2' P2 t1 t2 t3 ⊢
  have re2 : REc E (G 0) 1 true x a μ2 := (re1.same x2).cg P2 (fun _ => rfl)
  have ec2 : eC E x = eC D x := (P2.c (x := x) rfl).1.trans ec
  have S2 : ∀ i, i ≠ 5 → i ≠ 7 → aS E i = aS D i := fun i a d => by rw [t1 i d, C7 i a]
  -- learn
  obtain ⟨μ3, e3, T3, g3⟩ := c_learn F2.1 F2.2.1 re2 (H2'.2.2.1 (x.1 0) (by rw [S2 15 (by decide) (by decide)]; exact ho)) hp.1 (by rw [ec2]; omega) (fun k hk => by
    rw [t2 4 (by decide) (by decide), hC]
    exact h4 k hk) (by omega) hso
  obtain ⟨l1, l2, l3', l4, l5, l6, l7, -⟩ := learn_f E x
  have P3 : SamP E (learn E x) := ⟨fun r a d => l2 r (by omega), l3' 5 (by decide)⟩
  obtain ⟨F3, H3, c3, x3⟩ := c_step F2 H2' T3 g3 (fun o k zz => by
    have := of_decide_eq_true zz
    unfold okS
    omega) P3 (fun i _ => by rw [l1]) l4 l5 l6 l7 (fun r hr => l2 r (by omega)) (fun r hr => l3' r (by omega))
  obtain ⟨H, hH⟩ : ∃ H, H = learn E x := ⟨_, rfl⟩
  rw [← hH] at F3 H3 P3 l1 ⊢
  have re3 : REc H (G 0) 1 true x a μ3 := (re2.same x3).cg P3 (fun _ => rfl)
  have ec3 : eC H x = eC D x := (P3.c (x := x) rfl).1.trans ec2
  obtain ⟨μ4, e4, F4, H4, c4, x4⟩ := c_finR F3 H3 re3 (by rw [l1, S2 15 (by decide) (by decide)]; exact ho) (by rw [ec3]; omega) l3 ab (fun q => by rw [ec3] at q; exact had q) (fun q => by
    rw [ec3] at q
    rw [l1, S2 10 (by decide) (by decide)]
    exact h10 q)
  refine ⟨μ4, ?_, F4, H4, ((c1.trans c2).trans c3).trans c4, ((x1.trans x2).trans x3).trans x4⟩
  have ka := re.1
  have ra := re.2.1
  have s1 := F1.1
  unfold SC at s1
  have s2 := F2.1
  unfold SC at s2
  have ki := (H3.2.2.1 (x.1 0) (by rw [l1, S2 15 (by decide) (by decide)]; exact ho)).1
  simp only [zlS] at e4
  simp only [f_X0_retireOldest, ka, ckT, ra, bdS, k0, d14, zlS, ← m1, s1, cl_t e2, s2, cl_t e3, ki, e4]
end CLW
