/-! the model: a cycle's retiring -/
section MRS
variable {b : Nat} {A B C A' : Sx} {ρ : Nat → Nat} {μ μ' μ2 : Mm} {S : Nat → Nat → Bool}
theorem canLv_t (h1 : aS A 1 = 0) (h2 : 0 < aS A 9) (h3 : (aB A 0).1 10 = 101) : canLv A = (!isSt (eC A (aB A 0)) || decide ((aB A 0).1 12 ≠ 0) || decide (aN A 2 ((aB A 0).1 7) = 1)) := by
  unfold canLv
  rw [decide_eq_true h1, decide_eq_true h2, decide_eq_true h3]
  rfl
theorem m_rtL : ∀ (n : Nat) {A : Sx} {ρ : Nat → Nat} {μ : Mm} {ret fu : Nat}, RM b A ρ μ → WF μ → b + 86 ≤ mN μ → IV A → ret + n = aS A 16 → aS A 14 + n ≤ 2003 → n + 1 < fu → ∃ ρ' μ', f_X11_retires_b61 fu (b + 30) (nI ret) 0 μ = some ((), μ') ∧ RM b (rtL A n ret) ρ' μ' ∧ MK b n μ μ'
  | 0, A, ρ, μ, ret, fu, h, w, hN, q, hr, h14, hf => by
    obtain ⟨fu, rfl⟩ : ∃ n, fu = n + 1 := ⟨fu - 1, by omega⟩
    have hw := q.1.1.1
    have s := h.1
    unfold SM at s
    have h6 : mI μ (b + 30) 6 = nI (aS A 16) := h.2.1.1 16 rfl
    have c1 : nI (aS A 16) ≤ nI ret := nI_le (by omega) (by omega)
    have z0 : ¬ nI ret = 0 := nIne (n := 0) (by omega) (by omega) (by omega)
    refine ⟨ρ, μ, ?_, ?_, CH.mk CH.refl0⟩
    · simp only [f_X11_retires_b61, f_X11_retires_b207, s, ckT, h6, c1, if_true, z0, not_false_eq_true]
    · unfold rtL
      rw [if_neg (by omega)]
      exact h
  | n + 1, A, ρ, μ, ret, fu, h, w, hN, q, hr, h14, hf => by
    obtain ⟨fu, rfl⟩ : ∃ n, fu = n + 1 + 1 := ⟨fu - 2, by omega⟩
    obtain ⟨q1, q2, q3, q4, q5, q6, q7, q8, -⟩ := id q.1
    have hw := q.1.1.1
    have hn9 : aS A 9 ≤ 16 := by have := q2.1; have := q1.2.1; omega
    have hn10 : aS A 10 ≤ 8 := by have := q.2.1; have := q1.1; omega
    have s := h.1
    unfold SM at s
    have h6 : mI μ (b + 30) 6 = nI (aS A 16) := h.2.1.1 16 rfl
    have c1 : ¬ nI (aS A 16) ≤ nI ret := nI_ge (by omega) (by omega)
    have h37 : mI μ (b + 30) 37 = nI (aS A 1) := h.2.1.1 1 rfl
    have h23 : mI μ (b + 30) 23 = nI (aS A 9) := h.2.1.1 9 rfl
    have h39 : mI μ (b + 30) 39 = nI (aS A 3) := h.2.1.1 3 rfl
    have bb := q2.2.2.2.2.2.2.1
    have z37 := zb1 bb.1
    have z39 := zb1 bb.2.2
    have nn : ¬ ¬ (0 : Int32) = 0 := fun z => z rfl
    -- the way out without a retiring
    have out : (aS A 9 = 0 ∨ (aB A 0).1 10 ≠ 101) → canLv A = false → f_X11_retires_b61 (fu + 1 + 1) (b + 30) (nI ret) 0 μ = f_X11_retires_b207 (b + 30) (nI ret) 0 μ → ∃ ρ' μ', f_X11_retires_b61 (fu + 1 + 1) (b + 30) (nI ret) 0 μ = some ((), μ') ∧ RM b (rtL A (n + 1) ret) ρ' μ' ∧ MK b (n + 1) μ μ' := fun ho hc e => by
      obtain ⟨μ', e2, h2, g2⟩ := m_b207 h q.1 q.2 (ret := ret) (by omega) ho
      refine ⟨ρ, μ', by rw [e, e2], ?_, g2.mk.mono (Nat.zero_le _)⟩
      unfold rtL
      rw [hc, if_neg Bool.false_ne_true]
      exact h2
    by_cases a1 : aS A 1 = 0
    · have e37 : ¬ ¬ zb (nI (aS A 1)) = 0 := by rw [z37]; exact fun z => z a1
      by_cases a9 : aS A 9 = 0
      · refine out (Or.inl a9) (by unfold canLv; rw [a9]; simp) ?_
        have c9 : nI (aS A 9) ≤ 0 := by rw [a9]; decide
        simp only [f_X11_retires_b61, s, ckT, h6, c1, if_false, nn, not_true, h37, e37, h23, c9, if_true]
      · have c9 : ¬ nI (aS A 9) ≤ 0 := nI_nle (by omega) (by omega)
        have l2 : 0 < aS A 9 := by omega
        obtain ⟨r1, r2, r3⟩ := h.2.2.1.1 0 (by omega)
        have s2 := h.1.row ⟨r2, r3⟩
        have re := h.2.2.2.1 0 l2
        have dy := q7 0 l2
        have ho := q6 0 l2
        have ab := q.1.ab l2
        have f11 := re.d.1
        have i016 : inb 0 16 := by decide
        by_cases h101 : (aB A 0).1 10 = 101
        · have e11 : ¬ ¬ mI μ (b + ρ 0) 11 = 101 := by rw [f11, h101]; exact fun z => z rfl
          obtain ⟨t1, t2, t3⟩ := row13 h q.1 l2 h101
          have hcan := canLv_t a1 l2 h101
          have hrt : rtL A (n + 1) ret = if canLv A = true then (if (aB A 0).1 12 ≠ 0 then trap1 A ret else rtL (ret1 A) n (ret + 1)) else if ret = 0 then lose A (reas A) else A := rfl
          have hre : reas A = why ((aB A 0).1 10) := if_neg a9
          have tr1 : trap1 A ret = if ret = 0 then lose (trapIt (tellE A (aB A 0) ((aB A 0).1 12)) (aB A 0)) 1 else trapIt (tellE A (aB A 0) ((aB A 0).1 12)) (aB A 0) := rfl
          have tib := fun (hl : canLv A = true) (ht : (aB A 0).1 12 ≠ 0) => trapIt_ib q.1 hl ht
          have rib := fun (hl : canLv A = true) (ht : (aB A 0).1 12 = 0) => ret1_ib q.1 q.2 hl ht
          have mret := fun (hl : canLv A = true) (ht : (aB A 0).1 12 = 0) => m_ret1 h w hN q.1 q.2 hl ht (by omega)
          have hm1 : f_X11_codeOf (b + 30) (b + ρ 0) μ = some (nI (eC A (aB A 0))) := m_codeOf h.1 h.2.2.2.2.2.1 q1.2.2.2.2.1 s2.1 s2.2 re.1 ho.1
          obtain ⟨x, hx⟩ : ∃ x, x = aB A 0 := ⟨_, rfl⟩
          rw [← hx] at h101 re dy ho ab f11 hcan hrt hre tr1 tib rib mret hm1 t1 t2 t3
          have hp := q1.p ho.1
          have hec : eC A x = aN A 10 (x.1 0) := rfl
          have base : f_X11_retires_b61 (fu + 1 + 1) (b + 30) (nI ret) 0 μ = f_X11_retires_b137 (f_X11_retires_b61 (fu + 1)) (b + 30) (nI ret) 0 (b + ρ 0) (nI (eC A x)) (nI (x.1 12)) μ := by
            rw [f_X11_retires_b61]
            by_cases h21 : eC A x = 21
            · have n21 : ¬ ¬ nI (eC A x) = 21 := by rw [h21]; exact fun z => z rfl
              by_cases h3 : aS A 3 = 0
              · have e39 : ¬ ¬ zb (nI (aS A 3)) = 0 := by rw [z39]; exact fun z => z h3
                rw [t2 ⟨h21, h3⟩]
                simp only [s, s2, ckT, bdS, ckA, ckI, tcL, h6, c1, if_false, nn, not_true, h37, e37, h23, c9, ck_t i016, r1, e11, hm1, n21, h39, e39]
                rfl
              · have e39 : ¬ zb (nI (aS A 3)) = 0 := by rw [z39]; exact h3
                simp only [f_X11_retires_b133, s, s2, ckT, bdS, ckA, ckI, tcL, h6, c1, if_false, nn, not_true, h37, e37, h23, c9, ck_t i016, r1, e11, hm1, n21, h39, e39, not_false_eq_true, if_true, t1 (fun z => h3 z.2)]
            · have n21 : ¬ nI (eC A x) = 21 := nIne (n := 21) (by omega) (by omega) h21
              simp only [f_X11_retires_b133, s, s2, ckT, bdS, ckA, ckI, tcL, h6, c1, if_false, nn, not_true, h37, e37, h23, c9, ck_t i016, r1, e11, hm1, n21, not_false_eq_true, if_true, t1 (fun z => h21 z.1)]
          rw [base]
          by_cases ht : x.1 12 = 0
          · have l0 : nI (x.1 12) ≤ 0 := by rw [ht]; decide
            have hcs := m_isSt (eC A x) (by omega)
            have n10 : ¬ (1 : Int32) = 0 := by decide
            -- going on with a retiring
            have gon : canLv A = true → f_X11_retires_b137 (f_X11_retires_b61 (fu + 1)) (b + 30) (nI ret) 0 (b + ρ 0) (nI (eC A x)) (nI (x.1 12)) μ = f_X11_retires_b192 (f_X11_retires_b61 (fu + 1)) (b + 30) (nI ret) 0 (b + ρ 0) μ → ∃ ρ' μ', f_X11_retires_b137 (f_X11_retires_b61 (fu + 1)) (b + 30) (nI ret) 0 (b + ρ 0) (nI (eC A x)) (nI (x.1 12)) μ = some ((), μ') ∧ RM b (rtL A (n + 1) ret) ρ' μ' ∧ MK b (n + 1) μ μ' := fun hl e => by
              obtain ⟨ρ1, μ1, μ2, e1, k1, e2, h2, g2⟩ := mret hl ht
              have rf := ret1_f A
              obtain ⟨ρ3, μ3, e3, h3, g3⟩ := m_rtL n (ret := ret + 1) (fu := fu + 1) h2 (g2.1 w) (by have := g2.2.1; omega) (rib hl ht) (by rw [rf.1 16 (by decide) (by decide) (by decide) (by decide) (by decide) (by decide) (by decide) (by decide) (by decide)]; omega) (by rw [rf.2.1]; omega) (by omega)
              refine ⟨ρ3, μ3, ?_, ?_, (g2.trans g3).mono (by omega)⟩
              · rw [e]
                have k0 := h.1.1
                simp only [f_X11_retires_b192, f_X11_retires_b204, k0, ckT, cl_t e1, k1, cl_t e2, nI_1, e3]
              · rw [hrt, if_pos hl, if_neg (fun z => z ht)]
                exact h3
            cases hst : isSt (eC A x) with
            | false =>
              rw [hst] at hcs hcan
              refine gon (by rw [hcan]; rfl) ?_
              simp only [f_X11_retires_b137, l0, if_true, hcs, bdS, bI, Bool.false_eq_true, if_false]
            | true =>
              rw [hst] at hcs hcan
              have hrd : mI μ (b + 43) (x.1 7) = nI (aN A 2 (x.1 7)) := h.2.1.2.1 2 _ (by omega) ab.2
              have r01 := q2.2.2.2.2.1 _ ab.2
              have zr := zb1 r01
              have f8 : mI μ (b + ρ 0) 8 = nI (x.1 7) := re.2.2.2.2.2.1
              by_cases hrdy : aN A 2 (x.1 7) = 1
              · refine gon (by rw [hcan, decide_eq_true hrdy]; simp) ?_
                have er : ¬ zb (nI (aN A 2 (x.1 7))) = 0 := by rw [zr]; omega
                simp only [f_X11_retires_b137, l0, if_true, hcs, bdS, bI, n10, if_false, s, s2, ckT, ckA, ckI, tcL, f8, ck_t (inbN (p := x.1 7) (n := 24) ab.2 (by omega)), clN (show x.1 7 < 100000 by omega), hrd, er, not_false_eq_true]
              · have er : ¬ ¬ zb (nI (aN A 2 (x.1 7))) = 0 := by rw [zr]; omega
                have hcf : canLv A = false := by rw [hcan, decide_eq_false hrdy, decide_eq_false (fun z => z ht)]; rfl
                have b176 : f_X11_retires_b137 (f_X11_retires_b61 (fu + 1)) (b + 30) (nI ret) 0 (b + ρ 0) (nI (eC A x)) (nI (x.1 12)) μ = f_X11_retires_b176 (b + 30) (nI ret) μ := by
                  simp only [f_X11_retires_b137, l0, if_true, hcs, bdS, bI, n10, if_false, s, s2, ckT, ckA, ckI, tcL, f8, ck_t (inbN (p := x.1 7) (n := 24) ab.2 (by omega)), clN (show x.1 7 < 100000 by omega), hrd, er]
                rw [b176, hrt, hcf, if_neg Bool.false_ne_true]
                by_cases r0 : ret = 0
                · have z0 : ¬ ¬ nI ret = 0 := by rw [r0]; exact fun z => z rfl
                  rw [if_pos r0, hre, h101]
                  obtain ⟨μ', e, g1, g2⟩ := m_loses (c := 100) (i := 7) h hn9 hn10 (by decide) (by omega)
                  exact ⟨ρ, μ', by simp only [f_X11_retires_b176, f_X11_retires_b188, z0, if_false, s, ckT, cl_t e], g1, g2.mk.mono (Nat.zero_le _)⟩
                · have z0 : ¬ nI ret = 0 := nIne (n := 0) (by omega) (by omega) r0
                  have e45 : f_X11_reason 45 = some (-1) := by decide
                  rw [if_neg r0]
                  exact ⟨ρ, μ, by simp only [f_X11_retires_b176, f_X11_retires_b188, f_X11_loses, e45, bdS, z0, not_false_eq_true, if_true, s, ckT, clS], h, (CH.mk CH.refl0).mono (Nat.zero_le _)⟩
          · have l0 : ¬ nI (x.1 12) ≤ 0 := nI_nle (by omega) (by omega)
            have hl : canLv A = true := by rw [hcan, decide_eq_true ht]; simp
            obtain ⟨μ1, e1, h1, g1⟩ := m_traps (kd := x.1 12) (r0 := ρ 0) (x := x) h w hN q.1.z hn10 ⟨r2, r3⟩ re ho.1 (by omega) h101
            obtain ⟨B, hB⟩ : ∃ B, B = trapIt (tellE A x (x.1 12)) x := ⟨_, rfl⟩
            have ivB := tib hl ht
            have b16 : aS B 16 = aS A 16 := by
              rw [hB, kp_trapIt 16 rfl, (tellE_f A x (x.1 12)).1 16 (by decide)]
            rw [← hB] at h1 ivB tr1
            have B9 : aS B 9 ≤ 16 := by have := ivB.1.2.1.1; have := ivB.1.1.2.1; omega
            have B10 : aS B 10 ≤ 8 := by have := ivB.2.1; have := ivB.1.1.1; omega
            have h61 : mI μ1 (b + 30) 6 = nI (aS A 16) := by rw [← b16]; exact h1.2.1.1 16 rfl
            have k1 := h1.1.1
            have n10 : ¬ (1 : Int32) = 0 := by decide
            have base2 : f_X11_retires_b137 (f_X11_retires_b61 (fu + 1)) (b + 30) (nI ret) 0 (b + ρ 0) (nI (eC A x)) (nI (x.1 12)) μ = f_X11_retires_b207 (b + 30) (nI ret) 1 μ1 := by
              simp only [f_X11_retires_b137, f_X11_retires_b204, l0, if_false, s, ckT, cl_t e1, f_X11_retires_b61, k1, h61, c1, n10, not_false_eq_true, if_true]
            rw [base2, hrt, if_pos hl, if_pos ht, tr1]
            by_cases r0 : ret = 0
            · have z0 : ¬ ¬ nI ret = 0 := by rw [r0]; exact fun z => z rfl
              rw [if_pos r0]
              obtain ⟨μ2, e2, h2, g2⟩ := m_loses (c := 116) (i := 1) h1 B9 B10 (by decide) (by omega)
              exact ⟨ρ, μ2, by simp only [f_X11_retires_b207, f_X11_retires_b243, z0, n10, if_false, k1, ckT, cl_t e2], h2, (g1.trans (e2 := 0) g2.mk).mono (by omega)⟩
            · have z0 : ¬ nI ret = 0 := nIne (n := 0) (by omega) (by omega) r0
              rw [if_neg r0]
              exact ⟨ρ, μ1, by simp only [f_X11_retires_b207, z0, not_false_eq_true, if_true], h1, g1.mono (by omega)⟩
        · refine out (Or.inr h101) (by unfold canLv; rw [decide_eq_false h101]; simp) ?_
          have hs := dy.s
          have e11 : ¬ mI μ (b + ρ 0) 11 = 101 := by rw [f11]; exact nIne (n := 101) (by omega) (by omega) h101
          simp only [f_X11_retires_b61, s, s2, ckT, bdS, ckA, ckI, tcL, h6, c1, if_false, nn, not_true, h37, e37, h23, c9, ck_t i016, r1, e11, not_false_eq_true, if_true]
    · have e37 : ¬ zb (nI (aS A 1)) = 0 := by rw [z37]; exact a1
      refine out (Or.inl (q.2.2.2.2.2.2.2.2.2.2.2.2.2 (by omega)).1) (by unfold canLv; rw [decide_eq_false a1]; simp) ?_
      simp only [f_X11_retires_b61, s, ckT, h6, c1, if_false, nn, not_true, h37, e37, not_false_eq_true, if_true]
theorem intr_perm (X : Sx) (p q : Nat) : zS (zS (zS (zS (zS X 2 0) 10 0) 4 p) 3 1) 5 q = zS (zS (zS (zS (zS X 2 0) 3 1) 4 p) 5 q) 10 0 := by
  refine Prod.ext (funext fun i => ?_) rfl
  show up1 (up1 (up1 (up1 (up1 X.1 2 0) 10 0) 4 p) 3 1) 5 q i = up1 (up1 (up1 (up1 (up1 X.1 2 0) 3 1) 4 p) 5 q) 10 0 i
  simp only [up1_if]
  by_cases h10 : i = 10
  · subst h10; rfl
  by_cases h4 : i = 4
  · subst h4; rfl
  by_cases h3 : i = 3
  · subst h3; rfl
  simp only [if_neg h10, if_neg h4, if_neg h3]
theorem tell_zS2 (A : Sx) (p : Nat) : tell (zS A 2 0) 9 p 0 0 0 0 (-1) = zS (tell A 9 p 0 0 0 0 (-1)) 2 0 := by
  refine Prod.ext (funext fun i => ?_) rfl
  show up1 (up1 A.1 2 0) 14 (aS (zS A 2 0) 14 + 1) i = up1 (up1 A.1 14 (aS A 14 + 1)) 2 0 i
  rw [show aS (zS A 2 0) 14 = aS A 14 from zS_ne _ _ (by decide)]
  simp only [up1_if]
  by_cases h : i = 14
  · subst h; rfl
  · simp only [if_neg h]
theorem m_retires (h : RM b A ρ μ) (w : WF μ) (hN : b + 86 ≤ mN μ) (q : IV A) (h14 : aS A 14 ≤ 1999) : ∃ ρ' μ', f_X11_retires (b + 30) μ = some ((), μ') ∧ RM b (retires A) ρ' μ' ∧ MK b 4 μ μ' := by
  obtain ⟨q1, q2, q3, q4, q5, q6, q7, q8, -⟩ := id q.1
  have hw := q.1.1.1
  have hn9 : aS A 9 ≤ 16 := by have := q2.1; have := q1.2.1; omega
  have hn10 : aS A 10 ≤ 8 := by have := q.2.1; have := q1.1; omega
  have k0 := h.1.1
  have bb := q2.2.2.2.2.2.2.1
  have z38 := zb1 bb.2.1
  have z39 := zb1 bb.2.2
  have h38 : mI μ (b + 30) 38 = nI (aS A 2) := h.2.1.1 2 rfl
  have h39 : mI μ (b + 30) 39 = nI (aS A 3) := h.2.1.1 3 rfl
  have h11 : mI μ (b + 30) 11 = aV A 0 1 := h.2.1.2.2 0 1 (by decide) (by decide)
  have h41 : mI μ (b + 30) 41 = nI (aS A 5) := h.2.1.1 5 rfl
  have go : f_X11_retires (b + 30) μ = f_X11_retires_b57 (b + 30) μ → ¬ (aS A 2 ≠ 0 ∧ aS A 3 = 0 ∧ aV A 0 1 ≠ -1) → ∃ ρ' μ', f_X11_retires (b + 30) μ = some ((), μ') ∧ RM b (retires A) ρ' μ' ∧ MK b 4 μ μ' := fun e hn => by
    obtain ⟨ρ', μ', e2, h2, g2⟩ := m_rtL (aS A 16) (ret := 0) (fu := 5000) h w hN q (Nat.zero_add _) (by omega) (by omega)
    refine ⟨ρ', μ', ?_, ?_, g2.mono (by omega)⟩
    · rw [e]
      exact e2
    · unfold retires
      rw [if_neg hn]
      exact h2
  by_cases a2 : aS A 2 = 0
  · have e38 : zb (nI (aS A 2)) = 0 := by rw [z38]; exact a2
    exact go (by simp only [f_X11_retires, k0, ckT, h38, e38, if_true]) (fun z => z.1 a2)
  have e38 : ¬ zb (nI (aS A 2)) = 0 := by rw [z38]; exact a2
  by_cases a3 : aS A 3 = 0
  · have e39 : ¬ ¬ zb (nI (aS A 3)) = 0 := by rw [z39]; exact fun z => z a3
    by_cases ah : aV A 0 1 = -1
    · exact go (by simp only [f_X11_retires, k0, ckT, h38, e38, h39, e39, h11, ah, if_true, if_false]) (fun z => z.2.2 ah)
    · obtain ⟨b1, b2⟩ := adok_h ah (q1.2.2.2.2.2.2 1 (by decide))
      obtain ⟨hh, hhv⟩ : ∃ hh, hh = (aV A 0 1).toNatClampNeg := ⟨_, rfl⟩
      rw [← hhv] at b1
      obtain ⟨h1, g1⟩ := m_put (i := 2) (n := 0) h hn9 hn10 rfl (by decide)
      obtain ⟨μ1, hμ1⟩ : ∃ μ1, μ1 = sI μ (b + 30) 38 0 := ⟨_, rfl⟩
      have h1' : RM b (zS A 2 0) ρ μ1 := by rw [hμ1]; exact h1
      have g1' : CH b sMo μ μ1 := by rw [hμ1]; exact g1
      obtain ⟨μ2, e2, h2, g2⟩ := m_tell9 (p := aS A 5) h1' (by rw [zS_ne _ _ (by decide)]; exact hn9) (by rw [zS_ne _ _ (by decide)]; exact hn10) (by rw [zS_ne _ _ (by decide)]; omega)
      rw [tell_zS2] at h2
      obtain ⟨T, hT⟩ : ∃ T, T = tell A 9 (aS A 5) 0 0 0 0 (-1) := ⟨_, rfl⟩
      rw [← hT] at h2
      have TS : ∀ i, i ≠ 14 → aS T i = aS A i := fun i hi => by
        rw [hT]
        unfold tell
        exact zS_ne _ _ hi
      have TV : ∀ r, r ≠ 8 → aV T r = aV A r := fun r hr => by
        rw [hT]
        unfold tell
        show aV (zV _ 8 _ _) r = _
        rw [zV_ne _ _ _ hr]
        rfl
      have TN : ∀ r, r < 14 → aN T r = aN A r := fun r hr => by
        rw [hT]
        unfold tell
        show aN (zN (zN (zN (zN (zN (zN A 14 _ 9) 15 _ _) 20 _ 0) 21 _ 0) 22 _ 0) 23 _ 0) r = _
        rw [zN_ne _ _ _ (by omega), zN_ne _ _ _ (by omega), zN_ne _ _ _ (by omega), zN_ne _ _ _ (by omega), zN_ne _ _ _ (by omega), zN_ne _ _ _ (by omega)]
      have zT : IBz (zS T 2 0) := q.1.z.cg (fun i hi => by rw [zS_ne _ _ (by omega), TS i (by omega)]) (fun r hr _ => TN r hr) (fun r hr => TV r (by omega)) (by rw [hT]; rfl) (by rw [hT]; rfl) (by
        rw [zS_ne _ _ (by decide), zS_at, zS_ne _ _ (by decide), zS_ne _ _ (by decide), zS_ne _ _ (by decide), TS 1 (by decide), TS 3 (by decide), TS 5 (by decide), TS 4 (by decide)]
        exact ⟨⟨bb.1, by omega, bb.2.2⟩, q2.2.2.2.2.2.2.2⟩)
      obtain ⟨μ3, e3, h3, g3⟩ := m_handles (p := aS A 5) (q := hh) h2 zT (by rw [zS_ne _ _ (by decide), TS 10 (by decide)]; exact hn10)
      have eF : goOn (zS (zS (zS (throwF (zS T 2 0) 0) 4 (aS A 5)) 3 1) 5 hh) hh [] = goOn (throwF (zS (zS (zS (zS T 2 0) 3 1) 4 (aS A 5)) 5 hh) 0) hh [] := by
        unfold throwF
        have e9 : aS (zS (zS (zS (zS T 2 0) 3 1) 4 (aS A 5)) 5 hh) 9 = aS (zS T 2 0) 9 := by rw [zS_ne _ _ (by decide), zS_ne _ _ (by decide), zS_ne _ _ (by decide)]
        rw [e9]
        simp only [throwN_zS _ (show (10 : Nat) ≠ 7 by decide) (show (10 : Nat) ≠ 9 by decide) (show (10 : Nat) ≠ 21 by decide), throwN_zS _ (show (2 : Nat) ≠ 7 by decide) (show (2 : Nat) ≠ 9 by decide) (show (2 : Nat) ≠ 21 by decide), throwN_zS _ (show (3 : Nat) ≠ 7 by decide) (show (3 : Nat) ≠ 9 by decide) (show (3 : Nat) ≠ 21 by decide), throwN_zS _ (show (4 : Nat) ≠ 7 by decide) (show (4 : Nat) ≠ 9 by decide) (show (4 : Nat) ≠ 21 by decide), throwN_zS _ (show (5 : Nat) ≠ 7 by decide) (show (5 : Nat) ≠ 9 by decide) (show (5 : Nat) ≠ 21 by decide)]
        rw [intr_perm]
      rw [eF] at h3
      obtain ⟨Y, hY⟩ : ∃ Y, Y = goOn (throwF (zS (zS (zS (zS T 2 0) 3 1) 4 (aS A 5)) 5 hh) 0) hh [] := ⟨_, rfl⟩
      have hI : retires A = lose Y 0 := by
        unfold retires
        rw [if_pos ⟨a2, a3, ah⟩, hY, hT, hhv]
        rfl
      rw [← hY] at h3
      have y9 : aS Y 9 = 0 ∧ aS Y 10 = 0 := by
        have tf := throwF_f (zS (zS (zS (zS T 2 0) 3 1) 4 (aS A 5)) 5 hh) (n := 0) (Nat.zero_le _)
        refine ⟨?_, ?_⟩
        · rw [hY, goOn_9]
          exact tf.2.1
        · rw [hY]
          show aS (zS (zS _ 11 hh) 12 0) 10 = 0
          rw [zS_ne _ _ (by decide), zS_ne _ _ (by decide)]
          exact tf.2.2.1
      obtain ⟨μ4, e4, h4, g4⟩ := m_loses (c := 105) (i := 0) h3 (by omega) (by omega) (by decide) (by omega)
      rw [hI]
      refine ⟨ρ, μ4, ?_, h4, ((g1'.trans (g2.trans (g3.trans g4))).mk).mono (by omega)⟩
      have k2 := h2.1.1
      have k3 := h3.1.1
      have i41 : mI μ1 (b + 30) 41 = nI (aS A 5) := by rw [hμ1, mI_ne _ _ (Or.inr (by decide))]; exact h41
      have i41' : mI μ2 (b + 30) 41 = nI (aS A 5) := by
        have := h2.2.1.1 5 rfl
        rw [zS_ne _ _ (by decide), TS 5 (by decide)] at this
        exact this
      have i11' : mI μ2 (b + 30) 11 = nI hh := by
        have : mI μ2 (b + 30) 11 = aV (zS T 2 0) 0 1 := h2.2.1.2.2 0 1 (by decide) (by decide)
        rw [this, ← b1]
        show aV T 0 1 = _
        rw [TV 0 (by decide)]
      have e2' : f_X11_tellsEnd_n2 (b + 30) 9 (nI (aS A 5)) μ1 = some ((), μ2) := e2
      simp only [f_X11_retires, k0, ckT, zlS, h38, e38, h39, e39, h11, ah, if_false, ← hμ1, i41, cl_t e2', k2, i41', i11', cl_t e3, k3, cl_t e4]
  · have e39 : ¬ zb (nI (aS A 3)) = 0 := by rw [z39]; exact a3
    exact go (by simp only [f_X11_retires, k0, ckT, h38, e38, h39, e39, not_false_eq_true, if_true, if_false]) (fun z => a3 z.2.1)
end MRS
