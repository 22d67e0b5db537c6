/-! the model: who stands alone in the buffer -/
section MR2
variable {b : Nat} {A : Sx} {ρ : Nat → Nat} {μ : Mm}
def anyAl (A : Sx) : Nat → Bool
  | 0 => false
  | j + 1 => isAl (eC A (aB A j)) || anyAl A j
theorem m_alL {c : Nat} (h : RM b A ρ μ) (q : IB A) : ∀ (m j fu : Nat), j + m = aS A 9 → m < fu → f_X11_canRename_b4 fu (b + 30) (nI c) (bI (anyAl A j)) (nI j) μ = f_X11_canRename_b44 (b + 30) (nI c) (bI (anyAl A (aS A 9))) μ
  | 0, j, fu, hm, hf => by
    obtain ⟨fu, rfl⟩ : ∃ n, fu = n + 1 := ⟨fu - 1, by omega⟩
    have hj : j = aS A 9 := by omega
    subst hj
    have k0 := h.1.1
    have h23 : mI μ (b + 30) 23 = nI (aS A 9) := h.2.1.1 9 rfl
    have c1 := Int32.le_refl (nI (aS A 9))
    simp only [f_X11_canRename_b4, k0, ckT, h23, c1, if_true]
  | m + 1, j, fu, hm, hf => by
    obtain ⟨fu, rfl⟩ : ∃ n, fu = n + 1 := ⟨fu - 1, by omega⟩
    have ih := m_alL (c := c) h q m (j + 1) fu (by omega) (by omega)
    rw [← ih]
    obtain ⟨q1, q2, q3, q4, q5, q6, q7, q8, -⟩ := id q
    have n9 : aS A 9 ≤ 16 := by have := q2.1; have := q1.2.1; omega
    have s := h.1
    unfold SM at s
    have h23 : mI μ (b + 30) 23 = nI (aS A 9) := h.2.1.1 9 rfl
    have hj : j < aS A 9 := by omega
    have c1 : ¬ nI (aS A 9) ≤ nI j := nI_ge (by omega) (by omega)
    obtain ⟨r1, r2, r3⟩ := h.2.2.1.1 j (by omega)
    have s2 := h.1.row ⟨r2, r3⟩
    have re := h.2.2.2.1 j hj
    have ho := q6 j hj
    have hp := q1.p ho.1
    have hco : f_X11_codeOf (b + 30) (b + ρ j) μ = some (nI (eC A (aB A j))) := m_codeOf h.1 h.2.2.2.2.2.1 q1.2.2.2.2.1 s2.1 s2.2 re.1 ho.1
    have hal := m_isAl (eC A (aB A j)) (by have : eC A (aB A j) = aN A 10 ((aB A j).1 0) := rfl; omega)
    have hb := inbN (p := j) (n := 16) (by omega) (by omega)
    have hc := clN (show j < 100000 by omega)
    have n10 : ¬ (1 : Int32) = 0 := by decide
    have nn : ¬ ¬ (0 : Int32) = 0 := fun z => z rfl
    have e1 : anyAl A (j + 1) = (isAl (eC A (aB A j)) || anyAl A j) := rfl
    rw [e1]
    have o0 : bI false = 0 := rfl
    have o1 : bI true = 1 := rfl
    cases hD : anyAl A j
    · rw [Bool.or_false, o0]
      cases hA : isAl (eC A (aB A j)) <;> rw [hA] at hal
      · rw [o0]
        simp only [f_X11_canRename_b4, f_X11_canRename_b37, s, ckT, bdS, ckA, h23, c1, if_false, nn, not_true, ck_t hb, hc, r1, hco, hal, o0, if_true, nI_1]
      · rw [o1]
        simp only [f_X11_canRename_b4, f_X11_canRename_b32, f_X11_canRename_b37, s, ckT, bdS, ckA, h23, c1, if_false, nn, not_true, ck_t hb, hc, r1, hco, hal, o1, n10, nI_1]
    · rw [Bool.or_true, o1]
      simp only [f_X11_canRename_b4, f_X11_canRename_b32, f_X11_canRename_b37, s, ckT, h23, c1, if_false, n10, not_false_eq_true, if_true, nI_1]
end MR2
