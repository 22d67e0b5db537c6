/-! the model: renaming, the counts -/
section MRN
variable {b : Nat} {A B C A' : Sx} {ρ : Nat → Nat} {μ μ' μ2 : Mm} {S : Nat → Nat → Bool}
theorem m_inQL (h : RM b A ρ μ) (q : IB A) : ∀ (m j fu : Nat), j + m = aS A 9 → m < fu → f_X11_inQueueNow_b4 fu (b + 30) (nI (cntQ A j)) (nI j) μ = some (nI (cntQ A (aS A 9)))
  | 0, j, fu, hm, hf => by
    obtain ⟨fu, rfl⟩ : ∃ n, fu = n + 1 := ⟨fu - 1, by omega⟩
    have hj : j = aS A 9 := by omega
    subst hj
    have k0 := h.1.1
    have h23 : mI μ (b + 30) 23 = nI (aS A 9) := h.2.1.1 9 rfl
    have c1 := Int32.le_refl (nI (aS A 9))
    simp only [f_X11_inQueueNow_b4, k0, ckT, h23, c1, if_true]
  | m + 1, j, fu, hm, hf => by
    obtain ⟨fu, rfl⟩ : ∃ n, fu = n + 1 := ⟨fu - 1, by omega⟩
    have ih := m_inQL h q m (j + 1) fu (by omega) (by omega)
    obtain ⟨q1, q2, q3, q4, q5, q6, q7, q8, -⟩ := id q
    have n9 : aS A 9 ≤ 16 := by have := q2.1; have := q1.2.1; omega
    have s := h.1
    unfold SM at s
    have h23 : mI μ (b + 30) 23 = nI (aS A 9) := h.2.1.1 9 rfl
    have hj : j < aS A 9 := by omega
    have c1 : ¬ nI (aS A 9) ≤ nI j := nI_ge (by omega) (by omega)
    obtain ⟨r1, r2, r3⟩ := h.2.2.1.1 j (by omega)
    have s2 := h.1.row ⟨r2, r3⟩
    have w11 := (h.2.2.2.1 j hj).d.1
    have ds := (q7 j hj).s
    have hb := inbN (p := j) (n := 16) (by omega) (by omega)
    have hc := clN (show j < 100000 by omega)
    have hcn : cntQ A (j + 1) = (if (aB A j).1 10 = 113 then 1 else 0) + cntQ A j := rfl
    rw [← ih, hcn]
    by_cases hs : (aB A j).1 10 = 113
    · have e11 : ¬ ¬ mI μ (b + ρ j) 11 = 113 := by rw [w11, hs]; exact fun z => z rfl
      rw [if_pos hs, Nat.add_comm 1]
      simp only [f_X11_inQueueNow_b4, f_X11_inQueueNow_b32, s, s2, ckT, bdS, ckA, ckI, tcL, h23, c1, if_false, ck_t hb, hc, r1, e11, nI_1]
    · have e11 : ¬ mI μ (b + ρ j) 11 = 113 := by rw [w11]; exact nIne (n := 113) (by omega) (by omega) hs
      have a0 : nI (cntQ A j) + 0 = nI (cntQ A j) := Int32.add_zero _
      rw [if_neg hs, Nat.zero_add]
      simp only [f_X11_inQueueNow_b4, f_X11_inQueueNow_b32, s, s2, ckT, bdS, ckA, ckI, tcL, h23, c1, if_false, ck_t hb, hc, r1, e11, not_false_eq_true, if_true, a0, nI_1]
theorem m_inQ (h : RM b A ρ μ) (q : IB A) : f_X11_inQueueNow (b + 30) μ = some (nI (cntQ A (aS A 9))) := by
  have n9 : aS A 9 ≤ 16 := by have := q.2.1.1; have := q.1.2.1; omega
  exact m_inQL h q (aS A 9) 0 5000 (Nat.zero_add _) (by omega)
end MRN
