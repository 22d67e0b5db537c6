/-! the model: the dividing unit -/
section MB3
variable {b : Nat} {A B C A' : Sx} {ρ : Nat → Nat} {μ μ' μ2 : Mm} {S : Nat → Nat → Bool}
theorem isDv_put {k : Nat} (hP : SamP A B) (hB : ∀ j, j ≠ k → aB B j = aB A j) (hk0 : (aB B k).1 0 = (aB A k).1 0) (hk : eC A (aB A k) ≠ 5) : ∀ m, isDv B m = isDv A m
  | 0 => rfl
  | m + 1 => by
    unfold isDv
    rw [isDv_put hP hB hk0 hk m]
    by_cases e : m = k
    · subst e
      rw [(hP.c hk0).1, decide_eq_false hk, Bool.false_and, Bool.false_and]
    · rw [hB m e, (hP.c (x := aB A m) rfl).1]
theorem isDv_has {k : Nat} (h5 : eC A (aB A k) = 5) (hs : (aB A k).1 10 = 120) : ∀ m, k < m → isDv A m = true
  | m + 1, h => by
    unfold isDv
    by_cases e : m = k
    · subst e
      rw [decide_eq_true h5, decide_eq_true hs]
      rfl
    · rw [isDv_has h5 hs m (by omega)]
      simp
theorem m_dvL {k9 : Nat → Int32 → Int32 → Int32 → Int32 → Mm → Option (Unit × Mm)} {a5 : Nat} {x1 x2 x3 x4 : Int32} (h : RM b A ρ μ) (q : IB A) : ∀ (m j fu : Nat), j + m = aS A 9 → m < fu → f_X11_begins_b94 k9 fu (b + 30) x1 x2 x3 x4 a5 (bI (isDv A j)) (nI j) μ = f_X11_begins_b151 k9 (b + 30) x1 x2 x3 x4 a5 (bI (isDv A (aS A 9))) μ
  | 0, j, fu, hm, hf => by
    obtain ⟨fu, rfl⟩ : ∃ n, fu = n + 1 := ⟨fu - 1, by omega⟩
    have hj : j = aS A 9 := by omega
    subst hj
    have s := h.1
    unfold SM at s
    have h23 : mI μ (b + 30) 23 = nI (aS A 9) := h.2.1.1 9 rfl
    have c1 := Int32.le_refl (nI (aS A 9))
    simp only [f_X11_begins_b94, s, ckT, h23, c1, if_true]
  | m + 1, j, fu, hm, hf => by
    obtain ⟨fu, rfl⟩ : ∃ n, fu = n + 1 := ⟨fu - 1, by omega⟩
    have ih := m_dvL (k9 := k9) (a5 := a5) (x1 := x1) (x2 := x2) (x3 := x3) (x4 := x4) h q m (j + 1) fu (by omega) (by omega)
    rw [← ih]
    obtain ⟨q1, q2, q3, q4, q5, q6, q7, q8, -⟩ := id q
    have n9 : aS A 9 ≤ 16 := by have := q2.1; have := q1.2.1; omega
    have s := h.1
    unfold SM at s
    have h23 : mI μ (b + 30) 23 = nI (aS A 9) := h.2.1.1 9 rfl
    have hj : j < aS A 9 := by omega
    have c1 : ¬ nI (aS A 9) ≤ nI j := nI_ge (by omega) (by omega)
    obtain ⟨r1, r2, r3⟩ := h.2.2.1.1 j (by omega)
    have s2 := h.1.row ⟨r2, r3⟩
    have re := h.2.2.2.1 j hj
    have ho := q6 j hj
    have dy := q7 j hj
    have ds := dy.s
    have hp := q1.p ho.1
    have w11 := re.d.1
    have hco : f_X11_codeOf (b + 30) (b + ρ j) μ = some (nI (eC A (aB A j))) := m_codeOf h.1 h.2.2.2.2.2.1 q1.2.2.2.2.1 s2.1 s2.2 re.1 ho.1
    have c22 : eC A (aB A j) < 22 := by
      have : eC A (aB A j) = aN A 10 ((aB A j).1 0) := rfl
      omega
    have hst : isDv A (j + 1) = ((decide (eC A (aB A j) = 5) && decide ((aB A j).1 10 = 120)) || isDv A j) := rfl
    rw [hst]
    have hb := inbN (p := j) (n := 16) (by omega) (by omega)
    have hc := clN (show j < 100000 by omega)
    have n10 : ¬ (1 : Int32) = 0 := by decide
    have nn : ¬ ¬ (0 : Int32) = 0 := fun z => z rfl
    cases hD : isDv A j
    · have o0 : bI false = 0 := rfl
      rw [o0, Bool.or_false]
      by_cases h5 : eC A (aB A j) = 5
      · have n5 : ¬ ¬ nI (eC A (aB A j)) = 5 := by rw [h5]; exact fun z => z rfl
        rw [decide_eq_true h5, Bool.true_and]
        by_cases hs : (aB A j).1 10 = 120
        · have e11 : ¬ ¬ mI μ (b + ρ j) 11 = 120 := by rw [w11, hs]; exact fun z => z rfl
          rw [decide_eq_true hs]
          simp only [f_X11_begins_b94, f_X11_begins_b138, f_X11_begins_b143, s, s2, ckT, bdS, ckA, ckI, tcL, h23, c1, if_false, nn, not_true, ck_t hb, hc, r1, hco, n5, e11, nI_1]
          rfl
        · have e11 : ¬ mI μ (b + ρ j) 11 = 120 := by rw [w11]; exact nIne (n := 120) (by omega) (by omega) hs
          rw [decide_eq_false hs]
          simp only [f_X11_begins_b94, f_X11_begins_b142, f_X11_begins_b143, s, s2, ckT, bdS, ckA, ckI, tcL, h23, c1, if_false, nn, not_true, not_false_eq_true, if_true, ck_t hb, hc, r1, hco, n5, e11, nI_1]
          rfl
      · have n5 : ¬ nI (eC A (aB A j)) = 5 := nIne (n := 5) (by omega) (by omega) h5
        rw [decide_eq_false h5, Bool.false_and]
        simp only [f_X11_begins_b94, f_X11_begins_b142, f_X11_begins_b143, s, s2, ckT, bdS, ckA, ckI, tcL, h23, c1, if_false, nn, not_true, not_false_eq_true, if_true, ck_t hb, hc, r1, hco, n5, nI_1]
        rfl
    · have o1 : bI true = 1 := rfl
      rw [Bool.or_true, o1]
      simp only [f_X11_begins_b94, f_X11_begins_b138, f_X11_begins_b143, s, ckT, h23, c1, if_false, n10, not_false_eq_true, if_true, nI_1]
end MB3
