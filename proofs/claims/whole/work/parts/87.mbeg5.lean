/-! the model: one entry of a cycle's beginnings -/
section MB5
variable {b : Nat} {A B C A' : Sx} {ρ : Nat → Nat} {μ μ' μ2 : Mm} {S : Nat → Nat → Bool}
theorem m_bgStep {k fu c0 c1 c3 : Nat} {u : Nat → Nat} (h : RM b A ρ μ) (q : IV A) (gv : GV A) (hk : k < aS A 9) (hu : UC A u c0 c1 c3) : ∃ (B : Sx) (u' : Nat → Nat) (d0 d1 d3 : Nat) (μ' : Mm), (∀ n, bgL A u (n + 1) k = bgL B u' n (k + 1)) ∧ f_X11_begins_b9 (fu + 1) (b + 30) (nI c0) (nI c1) (nI c3) (nI k) μ = f_X11_begins_b9 fu (b + 30) (nI d0) (nI d1) (nI d3) (nI (k + 1)) μ' ∧ RM b B ρ μ' ∧ IV B ∧ GV B ∧ UC B u' d0 d1 d3 ∧ aS B 9 = aS A 9 ∧ aS B 0 = aS A 0 ∧ CH b sMo μ μ' := by
  obtain ⟨q1, q2, q3, q4, q5, q6, q7, q8, -⟩ := id q.1
  have n9 : aS A 9 ≤ 16 := by have := q2.1; have := q1.2.1; omega
  have s := h.1
  unfold SM at s
  have h23 : mI μ (b + 30) 23 = nI (aS A 9) := h.2.1.1 9 rfl
  have cc1 : ¬ nI (aS A 9) ≤ nI k := nI_ge (by omega) (by omega)
  obtain ⟨r1, r2, r3⟩ := h.2.2.1.1 k (by omega)
  have s2 := h.1.row ⟨r2, r3⟩
  have re := h.2.2.2.1 k hk
  have ho := q6 k hk
  have dy := q7 k hk
  have ds := dy.s
  have ab := q.1.ab hk
  have hp := q1.p ho.1
  have w11 := re.d.1
  have c22 : eC A (aB A k) < 22 := by
    have : eC A (aB A k) = aN A 10 ((aB A k).1 0) := rfl
    omega
  have hco : f_X11_codeOf (b + 30) (b + ρ k) μ = some (nI (eC A (aB A k))) := m_codeOf h.1 h.2.2.2.2.2.1 q1.2.2.2.2.1 s2.1 s2.2 re.1 ho.1
  have hop : f_X11_hasOperands (b + 30) (b + ρ k) (nI (eC A (aB A k))) μ = some (bI (opR A (aB A k))) := m_hasOp h.2.1 h.1 ⟨r2, r3⟩ re.2.2.2.2.1 re.2.2.2.2.2.1 ab.1 ab.2 (q2.2.2.2.2.1 _ ab.1) (q2.2.2.2.2.1 _ ab.2) c22
  have hb := inbN (p := k) (n := 16) (by omega) (by omega)
  have hc := clN (show k < 100000 by omega)
  have n10 : ¬ (1 : Int32) = 0 := by decide
  have nn : ¬ ¬ (0 : Int32) = 0 := fun z => z rfl
  have hL : ∀ n, bgL A u (n + 1) k = if (aB A k).1 10 = 113 ∧ 0 < u (unit (eC A (aB A k))) ∧ opR A (aB A k) = true then (match bg1 A k with | some B => bgL B (up1 u (unit (eC A (aB A k))) (u (unit (eC A (aB A k))) - 1)) n (k + 1) | none => bgL A u n (k + 1)) else bgL A u n (k + 1) := fun n => if_pos hk
  have skip : (∀ n, bgL A u (n + 1) k = bgL A u n (k + 1)) → f_X11_begins_b9 (fu + 1) (b + 30) (nI c0) (nI c1) (nI c3) (nI k) μ = f_X11_begins_b242 (f_X11_begins_b9 fu) (b + 30) (nI c0) (nI c1) (nI c3) (nI k) μ → ∃ (B : Sx) (u' : Nat → Nat) (d0 d1 d3 : Nat) (μ' : Mm), (∀ n, bgL A u (n + 1) k = bgL B u' n (k + 1)) ∧ f_X11_begins_b9 (fu + 1) (b + 30) (nI c0) (nI c1) (nI c3) (nI k) μ = f_X11_begins_b9 fu (b + 30) (nI d0) (nI d1) (nI d3) (nI (k + 1)) μ' ∧ RM b B ρ μ' ∧ IV B ∧ GV B ∧ UC B u' d0 d1 d3 ∧ aS B 9 = aS A 9 ∧ aS B 0 = aS A 0 ∧ CH b sMo μ μ' := fun e1 e2 => by
    refine ⟨A, u, c0, c1, c3, μ, e1, ?_, h, q, gv, hu, rfl, rfl, CH.refl0⟩
    rw [e2]
    simp only [f_X11_begins_b242, nI_1]
  by_cases hs : ¬ (aB A k).1 10 = 113
  · refine skip (fun n => by rw [hL, if_neg (fun z => hs z.1)]) ?_
    have e11 : ¬ mI μ (b + ρ k) 11 = 113 := by rw [w11]; exact nIne (n := 113) (by omega) (by omega) hs
    simp only [f_X11_begins_b9, s, s2, ckT, bdS, ckA, ckI, tcL, h23, cc1, if_false, ck_t hb, hc, r1, hco, e11, not_false_eq_true, if_true]
  have hs : (aB A k).1 10 = 113 := Classical.not_not.mp hs
  have e11 : ¬ ¬ mI μ (b + ρ k) 11 = 113 := by rw [w11, hs]; exact fun z => z rfl
  cases ho2 : opR A (aB A k)
  · rw [ho2] at hop
    refine skip (fun n => by rw [hL, if_neg (fun z => by rw [ho2] at z; exact Bool.false_ne_true z.2.2)]) ?_
    simp only [f_X11_begins_b9, s, s2, ckT, bdS, ckA, ckI, tcL, h23, cc1, if_false, ck_t hb, hc, r1, hco, e11, hop, bI, Bool.false_eq_true, not_true]
  rw [ho2] at hop
  have block : u (unit (eC A (aB A k))) = 0 → ∀ n, bgL A u (n + 1) k = bgL A u n (k + 1) := fun z n => by rw [hL, if_neg (fun y => by have := y.2.1; omega)]
  -- a beginning
  have doit : ∀ {B : Sx} {d0 d1 d3 : Nat} {μ' : Mm}, 0 < u (unit (eC A (aB A k))) → bg1 A k = some B → RM b B ρ μ' → CH b sMo μ μ' → f_X11_begins_b9 (fu + 1) (b + 30) (nI c0) (nI c1) (nI c3) (nI k) μ = f_X11_begins_b9 fu (b + 30) (nI d0) (nI d1) (nI d3) (nI (k + 1)) μ' → d0 = (if unit (eC A (aB A k)) = 0 then c0 + 1 else c0) → d1 = (if unit (eC A (aB A k)) = 1 then c1 + 1 else c1) → d3 = (if unit (eC A (aB A k)) = 3 then c3 + 1 else c3) → isDv B (aS A 9) = (if unit (eC A (aB A k)) = 2 then true else isDv A (aS A 9)) → ∃ (B : Sx) (u' : Nat → Nat) (d0 d1 d3 : Nat) (μ' : Mm), (∀ n, bgL A u (n + 1) k = bgL B u' n (k + 1)) ∧ f_X11_begins_b9 (fu + 1) (b + 30) (nI c0) (nI c1) (nI c3) (nI k) μ = f_X11_begins_b9 fu (b + 30) (nI d0) (nI d1) (nI d3) (nI (k + 1)) μ' ∧ RM b B ρ μ' ∧ IV B ∧ GV B ∧ UC B u' d0 d1 d3 ∧ aS B 9 = aS A 9 ∧ aS B 0 = aS A 0 ∧ CH b sMo μ μ' := fun {B d0 d1 d3 μ'} hpos e hB g ef x0 x1 x3 x2 => by
    obtain ⟨b9, -, -, -, b0⟩ := bg1_9 e
    refine ⟨B, _, d0, d1, d3, μ', fun n => ?_, ef, hB, bg1_ib q.1 q.2 hk hs ho2 e, gv_bg1 gv e, hu.sub b9 hpos x0 x1 x3 x2, b9, b0, g⟩
    rw [hL, if_pos ⟨hs, hpos, ho2⟩, e]
  have plain : eC A (aB A k) ≠ 9 → bg1 A k = some (zB A k (bgW (cmp A (aB A k)) (dly (eC A (aB A k))) (aS A 0))) := fun z => by
    have ec : eC A (cmp A (aB A k)) = eC A (aB A k) := congrArg (aN A 10) ((cmp_f A (aB A k)).1 0 (by decide) (by decide))
    unfold bg1
    dsimp only
    rw [ec, if_neg (fun y => z y.1)]
  have dvn : ∀ {B : Sx}, bg1 A k = some B → eC A (aB A k) ≠ 5 → isDv B (aS A 9) = isDv A (aS A 9) := fun {B} e z => by
    obtain ⟨-, b2, b3, b4, -⟩ := bg1_9 e
    exact isDv_put b4 b2 b3 z _
  obtain ⟨⟨a0, a0'⟩, a1, a3, a2⟩ := id hu
  have i911 := m_in911 (eC A (aB A k)) c22
  by_cases h4 : eC A (aB A k) = 4
  · have n4 : ¬ ¬ nI (eC A (aB A k)) = 4 := by rw [h4]; exact fun z => z rfl
    have hun : unit (eC A (aB A k)) = 1 := by rw [h4]; rfl
    by_cases z1 : c1 = 0
    · have e1 : ¬ ¬ nI c1 = 0 := by rw [z1]; exact fun z => z rfl
      obtain ⟨μ', e, hB, g⟩ := m_bgPlain (d := 3) h q.1 q.2 gv hk hs (by omega)
      have e' : f_X11_starts (b + 30) (b + ρ k) 3 μ = some ((), μ') := e
      have pl := plain (by omega)
      rw [h4] at pl
      refine doit (d0 := c0) (d1 := c1 + 1) (d3 := c3) (by rw [hun]; omega) pl hB g ?_ (by rw [hun]; rfl) (by rw [hun]; rfl) (by rw [hun]; rfl) (by rw [dvn pl (by omega), hun]; rfl)
      simp only [f_X11_begins_b9, f_X11_begins_b242, s, s2, ckT, bdS, ckA, ckI, tcL, h23, cc1, if_false, ck_t hb, hc, r1, hco, e11, hop, bI, n10, not_false_eq_true, if_true, n4, e1, cl_t e', nI_1]
    · have e1 : ¬ nI c1 = 0 := nIne (n := 0) (by omega) (by omega) z1
      refine skip (block (by rw [hun]; omega)) ?_
      simp only [f_X11_begins_b9, s, s2, ckT, bdS, ckA, ckI, tcL, h23, cc1, if_false, ck_t hb, hc, r1, hco, e11, hop, bI, n10, not_false_eq_true, if_true, n4, e1]
  have n4 : ¬ nI (eC A (aB A k)) = 4 := nIne (n := 4) (by omega) (by omega) h4
  by_cases h5 : eC A (aB A k) = 5
  · have n5 : ¬ ¬ nI (eC A (aB A k)) = 5 := by rw [h5]; exact fun z => z rfl
    have hun : unit (eC A (aB A k)) = 2 := by rw [h5]; rfl
    have dv := m_dvL (k9 := f_X11_begins_b9 fu) (a5 := b + ρ k) (x1 := nI c0) (x2 := nI c1) (x3 := nI c3) (x4 := nI k) h q.1 (aS A 9) 0 5000 (Nat.zero_add _) (by omega)
    have dv' : f_X11_begins_b94 (f_X11_begins_b9 fu) 5000 (b + 30) (nI c0) (nI c1) (nI c3) (nI k) (b + ρ k) 0 0 μ = f_X11_begins_b151 (f_X11_begins_b9 fu) (b + 30) (nI c0) (nI c1) (nI c3) (nI k) (b + ρ k) (bI (isDv A (aS A 9))) μ := dv
    have base : f_X11_begins_b9 (fu + 1) (b + 30) (nI c0) (nI c1) (nI c3) (nI k) μ = f_X11_begins_b151 (f_X11_begins_b9 fu) (b + 30) (nI c0) (nI c1) (nI c3) (nI k) (b + ρ k) (bI (isDv A (aS A 9))) μ := by
      rw [← dv']
      simp only [f_X11_begins_b9, s, s2, ckT, bdS, ckA, ckI, tcL, h23, cc1, if_false, ck_t hb, hc, r1, hco, e11, hop, bI, n10, not_false_eq_true, if_true, n4, n5]
    cases hD : isDv A (aS A 9)
    · rw [hD] at a2 base
      obtain ⟨μ', e, hB, g⟩ := m_bgPlain (d := 6) h q.1 q.2 gv hk hs (by omega)
      have e' : f_X11_starts (b + 30) (b + ρ k) 6 μ = some ((), μ') := e
      have pl := plain (by omega)
      rw [h5] at pl
      obtain ⟨-, b2, b3, b4, -⟩ := bg1_9 pl
      refine doit (d0 := c0) (d1 := c1) (d3 := c3) (by rw [hun, a2]; exact Nat.one_pos) pl hB g ?_ (by rw [hun]; rfl) (by rw [hun]; rfl) (by rw [hun]; rfl) ?_
      · have z0 : bI false = 0 := rfl
        rw [base, z0]
        have k0 := h.1.1
        simp only [f_X11_begins_b151, f_X11_begins_b164, f_X11_begins_b242, nn, if_false, not_true, k0, ckT, cl_t e', nI_1]
      · rw [hun, if_pos rfl]
        refine isDv_has (k := k) ?_ ?_ _ hk
        · rw [(b4.c b3).1]
          exact h5
        · have : aB (zB A k (bgW (cmp A (aB A k)) (dly 5) (aS A 0))) k = bgW (cmp A (aB A k)) (dly 5) (aS A 0) := up1_eq _ _ _
          rw [this]
          exact (bgW_f _ _ _).2.1
    · rw [hD] at a2 base
      refine skip (block (by rw [hun, a2]; rfl)) ?_
      have z1 : bI true = 1 := rfl
      rw [base, z1]
      simp only [f_X11_begins_b151, f_X11_begins_b164, n10, not_false_eq_true, if_true]
  have n5 : ¬ nI (eC A (aB A k)) = 5 := nIne (n := 5) (by omega) (by omega) h5
  cases hm : isMm (eC A (aB A k))
  · rw [hm] at i911
    have hun : unit (eC A (aB A k)) = 0 := by
      unfold unit
      rw [if_neg h4, if_neg h5, hm]
      rfl
    by_cases z0 : c0 < 2
    · have e0 : ¬ 2 ≤ nI c0 := nI_ge (b := 2) (by omega) (by omega)
      have h9 : eC A (aB A k) ≠ 9 := fun z => by rw [z] at hm; cases hm
      have hdl : dly (eC A (aB A k)) = 1 := by unfold dly; rw [if_neg h4, if_neg h5]
      obtain ⟨μ', e, hB, g⟩ := m_bgPlain (d := 1) h q.1 q.2 gv hk hs h9
      have e' : f_X11_starts (b + 30) (b + ρ k) 1 μ = some ((), μ') := e
      have pl := plain h9
      rw [hdl] at pl
      refine doit (d0 := c0 + 1) (d1 := c1) (d3 := c3) (by rw [hun]; omega) pl hB g ?_ (by rw [hun]; rfl) (by rw [hun]; rfl) (by rw [hun]; rfl) (by rw [dvn pl h5, hun]; rfl)
      simp only [f_X11_begins_b9, f_X11_begins_b242, s, s2, ckT, bdS, ckA, ckI, tcL, h23, cc1, if_false, ck_t hb, hc, r1, hco, e11, hop, bI, n10, not_false_eq_true, if_true, n4, n5, i911, Bool.false_eq_true, e0, cl_t e', nI_1]
    · have e0 : 2 ≤ nI c0 := nI_le (a := 2) (by omega) (by omega)
      refine skip (block (by rw [hun]; omega)) ?_
      simp only [f_X11_begins_b9, s, s2, ckT, bdS, ckA, ckI, tcL, h23, cc1, if_false, ck_t hb, hc, r1, hco, e11, hop, bI, n10, not_false_eq_true, if_true, n4, n5, i911, Bool.false_eq_true, e0]
  · rw [hm] at i911
    have hun : unit (eC A (aB A k)) = 3 := by
      unfold unit
      rw [if_neg h4, if_neg h5, hm]
      rfl
    have hdl : dly (eC A (aB A k)) = 1 := by unfold dly; rw [if_neg h4, if_neg h5]
    by_cases z3 : c3 = 0
    · have e3 : ¬ ¬ nI c3 = 0 := by rw [z3]; exact fun z => z rfl
      have hpos : 0 < u (unit (eC A (aB A k))) := by rw [hun]; omega
      by_cases h9 : eC A (aB A k) = 9
      · have e9 : ¬ ¬ nI (eC A (aB A k)) = 9 := by rw [h9]; exact fun z => z rfl
        have t2 : (cmp A (aB A k)).1 12 = if adok (eX A (aB A k) + eI A (aB A k)) = true then 0 else 2 := by
          rw [(cmp_f A (aB A k)).2.1, h9]
          rfl
        have ec : eC A (cmp A (aB A k)) = eC A (aB A k) := congrArg (aN A 10) ((cmp_f A (aB A k)).1 0 (by decide) (by decide))
        cases ha : adok (eX A (aB A k) + eI A (aB A k))
        · rw [ha, if_neg Bool.false_ne_true] at t2
          obtain ⟨μ', e, hB, g⟩ := m_bgTrap h q.1 q.2 gv hk hs h9 ha
          have pl : bg1 A k = some (zB A k (bgW (cmp A (aB A k)) 1 (aS A 0))) := by
            unfold bg1
            dsimp only
            rw [ec, if_neg (fun y => by have := y.2; omega), hdl]
          refine doit (d0 := c0) (d1 := c1) (d3 := c3 + 1) hpos pl hB g ?_ (by rw [hun]; rfl) (by rw [hun]; rfl) (by rw [hun]; rfl) (by rw [dvn pl h5, hun]; rfl)
          simp only [f_X11_begins_b9, f_X11_begins_b205, f_X11_begins_b242, s, s2, ckT, bdS, ckA, ckI, tcL, h23, cc1, if_false, ck_t hb, hc, r1, hco, e11, hop, bI, n10, not_false_eq_true, if_true, n4, n5, i911, e3, e9, cl_t e, nI_1]
        · rw [ha, if_pos rfl] at t2
          obtain ⟨μ', e, hB, g⟩ := m_loads h q.1 q.2 gv hk hs h9 ha
          have pl : bg1 A k = ldB A k (cmp A (aB A k)) := by
            unfold bg1
            dsimp only
            rw [ec, if_pos ⟨h9, t2⟩]
          cases hl : ldB A k (cmp A (aB A k)) with
          | none =>
            rw [hl] at e hB pl
            have e' : f_X11_loads (b + 30) (nI k) μ = some (0, μ') := e
            refine ⟨A, u, c0, c1, c3, μ', fun n => by rw [hL, if_pos ⟨hs, hpos, ho2⟩, pl], ?_, hB, q, gv, hu, rfl, rfl, g⟩
            have a00 : nI c3 + 0 = nI c3 := Int32.add_zero _
            simp only [f_X11_begins_b9, f_X11_begins_b205, f_X11_begins_b242, s, s2, ckT, bdS, ckA, ckI, tcL, h23, cc1, if_false, ck_t hb, hc, r1, hco, e11, hop, bI, n10, not_false_eq_true, if_true, n4, n5, i911, e3, e9, cl_t e', nI_1, a00]
          | some B =>
            rw [hl] at e hB pl
            have e' : f_X11_loads (b + 30) (nI k) μ = some (1, μ') := e
            refine doit (d0 := c0) (d1 := c1) (d3 := c3 + 1) hpos pl hB g ?_ (by rw [hun]; rfl) (by rw [hun]; rfl) (by rw [hun]; rfl) (by rw [dvn pl h5, hun]; rfl)
            simp only [f_X11_begins_b9, f_X11_begins_b205, f_X11_begins_b242, s, s2, ckT, bdS, ckA, ckI, tcL, h23, cc1, if_false, ck_t hb, hc, r1, hco, e11, hop, bI, n10, not_false_eq_true, if_true, n4, n5, i911, e3, e9, cl_t e', nI_1]
      · have e9 : ¬ nI (eC A (aB A k)) = 9 := nIne (n := 9) (by omega) (by omega) h9
        obtain ⟨μ', e, hB, g⟩ := m_bgPlain (d := 1) h q.1 q.2 gv hk hs h9
        have e' : f_X11_starts (b + 30) (b + ρ k) 1 μ = some ((), μ') := e
        have pl := plain h9
        rw [hdl] at pl
        refine doit (d0 := c0) (d1 := c1) (d3 := c3 + 1) hpos pl hB g ?_ (by rw [hun]; rfl) (by rw [hun]; rfl) (by rw [hun]; rfl) (by rw [dvn pl h5, hun]; rfl)
        simp only [f_X11_begins_b9, f_X11_begins_b210, f_X11_begins_b242, s, s2, ckT, bdS, ckA, ckI, tcL, h23, cc1, if_false, ck_t hb, hc, r1, hco, e11, hop, bI, n10, not_false_eq_true, if_true, n4, n5, i911, e3, e9, cl_t e', nI_1]
    · have e3 : ¬ nI c3 = 0 := nIne (n := 0) (by omega) (by omega) z3
      refine skip (block (by rw [hun]; omega)) ?_
      simp only [f_X11_begins_b9, f_X11_begins_b210, s, s2, ckT, bdS, ckA, ckI, tcL, h23, cc1, if_false, ck_t hb, hc, r1, hco, e11, hop, bI, n10, not_false_eq_true, if_true, n4, n5, i911, e3]
end MB5
