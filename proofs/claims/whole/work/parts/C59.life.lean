/-! the model: an end's life, what state an inner register is in; both: the share -/
section MLF
variable {b z : Nat} {A A' : Sx} {ρ : Nat → Nat} {μ μ' : Mm} {x y : Int32}
theorem m_life (h : RM b A ρ μ) (n9 : aS A 9 ≤ 16) (n10 : aS A 10 ≤ 8) (n14 : aS A 14 ≤ 2004) (en : ∀ e, e < aS A 14 → aN A 14 e ≤ 9) : ∃ (w : Int32) (μ' : Mm), f_X11_life (b + 30) x y μ = some (w, μ') ∧ (kLife A x y = 0 → w = lifeV A x.toNatClampNeg y.toNatClampNeg) ∧ RM b A ρ μ' ∧ mI μ' (b + 30) 54 = nI (kLife A x y) ∧ ML b 0 μ μ' := by
  have k0 := h.1
  unfold SM at k0
  have ne := m_noEnd (x := x) h (by omega)
  have b0 : bI false = 0 := rfl
  have b1 : ¬ bI true = 0 := by decide
  cases hx : ix x (aS A 14)
  · rw [hx] at ne
    have ne' : f_X11_noEnd (b + 30) x μ = some (bI true, sI μ (b + 30) 54 (nI 1)) := ne
    have hk : kLife A x y = 1 := by unfold kLife; rw [hx]; rfl
    rw [hk]
    refine ⟨0, sI μ (b + 30) 54 (nI 1), ?_, fun t => (by cases t), m_54 h n9 n10, mI_at _ _ _ _, ML.put⟩
    simp only [f_X11_life, k0, ckT, cl_t ne', b1, if_false]
  · rw [hx] at ne
    obtain ⟨μ1, m1⟩ : ∃ μ1, μ1 = sI μ (b + 30) 54 (nI 0) := ⟨_, rfl⟩
    have ne' : f_X11_noEnd (b + 30) x μ = some (bI false, μ1) := by rw [m1]; exact ne
    have R1 : RM b A ρ μ1 := by rw [m1]; exact m_54 h n9 n10
    have l1 : ML b 0 μ μ1 := by rw [m1]; exact ML.put
    have k1 := R1.1
    unfold SM at k1
    cases hy : ix y 5
    · have ir := m_ixN (x := y) (n := 5) (l := 4) (by decide) (by omega)
      rw [hy] at ir
      have hk : kLife A x y = 2 := by unfold kLife; rw [hx, hy]; rfl
      have nn : ¬ ¬ (0 : Int32) = 0 := fun t => t rfl
      rw [hk]
      refine ⟨0, sI μ1 (b + 30) 54 2, ?_, fun t => (by cases t), m_54 R1 n9 n10, mI_at _ _ _ _, l1.trans ML.put⟩
      simp only [f_X11_life, f_X11_raises, k0, ckT, cl_t ne', b0, if_true, ir, bdS, not_true, nn, if_false, k1, zlS, clS]
    · have ir := m_ixN (x := y) (n := 5) (l := 4) (by decide) (by omega)
      rw [hy] at ir
      obtain ⟨e, he, e1, e2⟩ := ix_e hx (by omega)
      obtain ⟨w, hw, w1, w2⟩ := ix_e hy (by omega)
      have ibx : inb x 2004 := by rw [e1]; exact inbN (by omega) (by omega)
      have iby : inb y 5 := by rw [w1]; exact inbN hw (by omega)
      obtain ⟨q1, q2, q3⟩ := R1.2.2.2.2.2.2.2.2.2.2 e he
      have hk : kLife A x y = if lifeV A e w = -1 then 3 else 0 := by
        unfold kLife
        rw [hx, hy, e2, w2, if_neg (by decide), if_neg (by decide)]
      have run3 : f_X11_life (b + 30) x y μ = f_X11_life_b53 (b + 30) x y 0 μ1 → lifeV A e w = -1 → ∃ (w : Int32) (μ' : Mm), f_X11_life (b + 30) x y μ = some (w, μ') ∧ (kLife A x y = 0 → w = lifeV A x.toNatClampNeg y.toNatClampNeg) ∧ RM b A ρ μ' ∧ mI μ' (b + 30) 54 = nI (kLife A x y) ∧ ML b 0 μ μ' := fun ee l3 => by
        rw [hk, if_pos l3, ee]
        refine ⟨0, sI μ1 (b + 30) 54 3, ?_, fun t => (by cases t), m_54 R1 n9 n10, mI_at _ _ _ _, l1.trans ML.put⟩
        simp only [f_X11_life_b53, f_X11_life_b64, if_true, k1, ckT, zlS]
      by_cases a9 : aN A 14 e = 9
      · have c9 : nI (aN A 14 e) = 9 := by rw [a9]; rfl
        refine run3 ?_ (by unfold lifeV; rw [if_pos a9])
        simp only [f_X11_life, f_X11_life_b52, k0, ckT, cl_t ne', b0, if_true, ir, bdS, b1, not_false_eq_true, k1, ckA, ck_t ibx, e2, q1, c9]
      · have c9 : ¬ nI (aN A 14 e) = 9 := nIne (n := 9) (by have := en e he; omega) (by omega) a9
        obtain ⟨q, p1, p2, p3, p4, v0, v1, v2, v3, v4⟩ := q3 a9
        have hv : mI μ1 q w = lifeV A e w := by
          unfold lifeV
          rw [if_neg a9]
          rcases lt5 hw with rfl | rfl | rfl | rfl | rfl
          · exact v0
          · exact v1
          · exact v2
          · exact v3
          · exact v4
        by_cases l3 : lifeV A e w = -1
        · refine run3 ?_ l3
          simp only [f_X11_life, f_X11_life_b52, k0, ckT, cl_t ne', b0, if_true, ir, bdS, b1, not_false_eq_true, k1, ckA, ck_t ibx, e2, q1, c9, if_false, p1, p2, p3, ck_t iby, w2, hv, l3]
        · rw [hk, if_neg l3, e2, w2]
          have c10 : ¬ (1 : Int32) = 0 := by decide
          have qn : q ≠ b + 30 := by omega
          refine ⟨lifeV A e w, sI μ1 (b + 30) 54 0, ?_, fun _ => rfl, m_54 R1 n9 n10, mI_at _ _ _ _, l1.trans ML.put⟩
          simp only [f_X11_life, f_X11_life_b53, f_X11_life_b64, k0, ckT, cl_t ne', b0, if_true, ir, bdS, b1, not_false_eq_true, k1, ckA, ck_t ibx, e2, q1, c9, if_false, p1, p2, p3, ck_t iby, w2, hv, l3, c10, zlS, mK_sI, mL_sI, mR_sI', mI_row _ _ qn]
theorem m_stFL {i : Nat} (h : RM b A ρ μ) (p : PT A) (n8 : aS A 8 ≤ 24) (hi : i < 1000) : ∀ (n j fu : Nat), j + n = aS A 7 → n < fu → f_X11_stateOf_b18 fu (b + 30) (nI i) (bI (inF (aN A 3) i j)) 0 (nI j) μ = f_X11_stateOf_b54 (b + 30) (nI i) (bI (inF (aN A 3) i (aS A 7))) 0 μ
  | 0, j, fu, hm, hf => by
    obtain ⟨fu, rfl⟩ : ∃ n, fu = n + 1 := ⟨fu - 1, by omega⟩
    have hj : j = aS A 7 := by omega
    subst hj
    have k0 := h.1.1
    have i7 : mI μ (b + 30) 21 = nI (aS A 7) := h.2.1.1 7 rfl
    have c1 := Int32.le_refl (nI (aS A 7))
    simp only [f_X11_stateOf_b18, k0, ckT, i7, c1, if_true]
  | n + 1, j, fu, hm, hf => by
    obtain ⟨fu, rfl⟩ : ∃ n, fu = n + 1 := ⟨fu - 1, by omega⟩
    have ih := m_stFL h p n8 hi n (j + 1) fu (by omega) (by omega)
    have k0 := h.1
    unfold SM at k0
    have h7 := p.nf
    have i7 : mI μ (b + 30) 21 = nI (aS A 7) := h.2.1.1 7 rfl
    have c1 : ¬ nI (aS A 7) ≤ nI j := nI_ge (by omega) (by omega)
    have ib := inbN (p := j) (n := 24) (by omega) (by omega)
    have cj := clN (show j < 100000 by omega)
    have v : mI μ (b + 44) j = nI (aN A 3 j) := h.2.1.2.1 3 j (by decide) (show j < 24 by omega)
    have b0 : bI false = 0 := rfl
    have b1 : ¬ bI true = 0 := by decide
    have nn : ¬ ¬ (0 : Int32) = 0 := fun t => t rfl
    have hs : inF (aN A 3) i (j + 1) = (inF (aN A 3) i j || decide (aN A 3 j = i)) := rfl
    have e1 : bI true = 1 := rfl
    rw [← ih, hs]
    cases inF (aN A 3) i j
    · by_cases e : aN A 3 j = i
      · have c2 : ¬ ¬ nI (aN A 3 j) = nI i := fun t => t (by rw [e])
        rw [decide_eq_true e, Bool.false_or, e1]
        simp only [f_X11_stateOf_b18, f_X11_stateOf_b42, f_X11_stateOf_b47, k0, ckT, i7, c1, if_false, b0, not_true, nn, bdS, ckA, ck_t ib, cj, v, c2, not_true, if_false, nI_1]
      · have c2 : ¬ nI (aN A 3 j) = nI i := nIne (by have := p.free (j := j) (by omega); omega) (by omega) e
        rw [decide_eq_false e, Bool.false_or]
        simp only [f_X11_stateOf_b18, f_X11_stateOf_b47, k0, ckT, i7, c1, if_false, b0, not_true, nn, bdS, ckA, ck_t ib, cj, v, c2, not_false_eq_true, if_true, nI_1]
    · rw [Bool.true_or]
      simp only [f_X11_stateOf_b18, f_X11_stateOf_b42, f_X11_stateOf_b47, k0, ckT, i7, c1, if_false, b1, not_false_eq_true, if_true, nI_1]
      rw [e1]
theorem m_stML {i : Nat} {f : Int32} (h : RM b A ρ μ) (q : IB A) (hi : i < 1000) : ∀ (n j fu : Nat), j + n = 8 → n < fu → f_X11_stateOf_b57 fu (b + 30) (nI i) f (bI (inF (aN A 0) i j)) (nI j) μ = f_X11_stateOf_b91 f (bI (inF (aN A 0) i 8)) μ
  | 0, j, fu, hm, hf => by
    obtain ⟨fu, rfl⟩ : ∃ n, fu = n + 1 := ⟨fu - 1, by omega⟩
    have hj : j = 8 := by omega
    subst hj
    have c1 : (8 : Int32) ≤ nI 8 := by decide
    simp only [f_X11_stateOf_b57, c1, if_true]
  | n + 1, j, fu, hm, hf => by
    obtain ⟨fu, rfl⟩ : ∃ n, fu = n + 1 := ⟨fu - 1, by omega⟩
    have ih := m_stML (f := f) h q hi n (j + 1) fu (by omega) (by omega)
    have k0 := h.1
    unfold SM at k0
    have c1 : ¬ (8 : Int32) ≤ nI j := nI_ge (b := 8) (by omega) (by omega)
    have ib := inbN (p := j) (n := 8) (by omega) (by omega)
    have cj := clN (show j < 100000 by omega)
    have v : mI μ (b + 40) j = nI (aN A 0 j) := h.2.1.2.1 0 j (by decide) (show j < 8 by omega)
    have b0 : bI false = 0 := rfl
    have b1 : ¬ bI true = 0 := by decide
    have nn : ¬ ¬ (0 : Int32) = 0 := fun t => t rfl
    have hs : inF (aN A 0) i (j + 1) = (inF (aN A 0) i j || decide (aN A 0 j = i)) := rfl
    have e1 : bI true = 1 := rfl
    rw [← ih, hs]
    cases inF (aN A 0) i j
    · by_cases e : aN A 0 j = i
      · have c2 : ¬ ¬ nI (aN A 0 j) = nI i := fun t => t (by rw [e])
        rw [decide_eq_true e, Bool.false_or, e1]
        simp only [f_X11_stateOf_b57, f_X11_stateOf_b79, f_X11_stateOf_b84, k0, ckT, c1, if_false, b0, not_true, nn, bdS, ckA, ck_t ib, cj, v, c2, not_true, if_false, nI_1]
      · have hm' : aN A 0 j < 24 := by
          rw [q.2.2.2.2.1.1 j (by omega)]
          have := q.2.2.2.1.map_lt (Nat.le_refl _) (show j < 8 by omega)
          have := q.1.2.2.2.1.2
          omega
        have c2 : ¬ nI (aN A 0 j) = nI i := nIne (by omega) (by omega) e
        rw [decide_eq_false e, Bool.false_or]
        simp only [f_X11_stateOf_b57, f_X11_stateOf_b84, k0, ckT, c1, if_false, b0, not_true, nn, bdS, ckA, ck_t ib, cj, v, c2, not_false_eq_true, if_true, nI_1]
    · rw [Bool.true_or]
      simp only [f_X11_stateOf_b57, f_X11_stateOf_b79, f_X11_stateOf_b84, k0, ckT, c1, if_false, b1, not_false_eq_true, if_true, nI_1]
      rw [e1]
theorem m_stateOf (h : RM b A ρ μ) (q : IB A) (n9 : aS A 9 ≤ 16) (n10 : aS A 10 ≤ 8) : f_X11_stateOf (b + 30) x μ = some (if k01 (ix x (aS A 8)) = 0 then stV A x.toNatClampNeg else 32, sI μ (b + 30) 54 (nI (k01 (ix x (aS A 8))))) := by
  have k0 := h.1.1
  have n8 := q.1.2.2.2.1.2
  have p := q.2.2.2.1
  have ne := m_noInner (x := x) h (by omega)
  have b0 : bI false = 0 := rfl
  have b1 : ¬ bI true = 0 := by decide
  cases hx : ix x (aS A 8)
  · rw [hx] at ne
    have ne' : f_X11_noInner (b + 30) x μ = some (bI true, sI μ (b + 30) 54 (nI (k01 false))) := ne
    simp only [f_X11_stateOf, k0, ckT, cl_t ne', b1, if_false]
    rfl
  · rw [hx] at ne
    obtain ⟨μ1, m1⟩ : ∃ μ1, μ1 = sI μ (b + 30) 54 (nI (k01 true)) := ⟨_, rfl⟩
    have ne' : f_X11_noInner (b + 30) x μ = some (bI false, μ1) := by rw [m1]; exact ne
    have R1 : RM b A ρ μ1 := by rw [m1]; exact m_54 h n9 n10
    obtain ⟨i, hi, e1, e2⟩ := ix_e hx (by omega)
    have h7 := p.nf
    have l1 := m_stFL (i := i) R1 p n8 (by omega) (aS A 7) 0 5000 (Nat.zero_add _) (by omega)
    have l1' : f_X11_stateOf_b18 5000 (b + 30) x 0 0 0 μ1 = f_X11_stateOf_b54 (b + 30) (nI i) (bI (inF (aN A 3) i (aS A 7))) 0 μ1 := by rw [e1]; exact l1
    have l2 := m_stML (i := i) (f := bI (inF (aN A 3) i (aS A 7))) R1 q (by omega) 8 0 5000 (Nat.zero_add _) (by omega)
    have l2' : f_X11_stateOf_b54 (b + 30) (nI i) (bI (inF (aN A 3) i (aS A 7))) 0 μ1 = f_X11_stateOf_b91 (bI (inF (aN A 3) i (aS A 7))) (bI (inF (aN A 0) i 8)) μ1 := l2
    rw [e2]
    simp only [f_X11_stateOf, k0, ckT, cl_t ne', b0, if_true, l1', l2', f_X11_stateOf_b91]
    unfold stV
    rw [← m1]
    cases inF (aN A 3) i (aS A 7) <;> cases inF (aN A 0) i 8 <;> rfl
end MLF
