/-! the model: whether the next one can be renamed, all of it -/
section MR4
variable {b : Nat} {A : Sx} {ρ : Nat → Nat} {μ : Mm}
theorem bA_l (x y : Bool) : (!x && !y && true) = (!y && !x && true) := by cases x <;> cases y <;> rfl
theorem m_can69 {c : Nat} (h : RM b A ρ μ) (q : IB A) (qb : QB A) (hc : c < 22) (x : Bool) : f_X11_canRename_b69 (b + 30) (nI c) (bI x) μ = some (bI (!(isQd c && decide (aS A 18 ≤ cntQ A (aS A 9))) && !x && (!isAl c || decide (aS A 9 = 0)))) := by
  have k0 := h.1.1
  have q18 := q.1.2.2.1
  have hq := m_isQ c hc
  have e92 := fun s0 => m_can92 (c := c) (s0 := s0) h q hc x
  have hiq := m_inQ h q
  have h8 : mI μ (b + 30) 8 = nI (aS A 18) := h.2.1.1 18 rfl
  have n10 : ¬ (1 : Int32) = 0 := by decide
  have et := e92 true
  have ef := e92 false
  have o0 : bI false = 0 := rfl
  have o1 : bI true = 1 := rfl
  rw [o1] at et
  rw [o0] at ef
  unfold QB at qb
  cases hd : isQd c <;> rw [hd] at hq
  · simp only [f_X11_canRename_b69, f_X11_canRename_b91, hq, bdS, o0, if_true]
    rw [ef]
    rfl
  · by_cases e : aS A 18 ≤ cntQ A (aS A 9)
    · have e2 : ¬ ¬ nI (cntQ A (aS A 9)) = nI (aS A 18) := fun z => z (by rw [show cntQ A (aS A 9) = aS A 18 by omega])
      simp only [f_X11_canRename_b69, f_X11_canRename_b87, hq, bdS, o1, n10, if_false, k0, ckT, hiq, h8, e2]
      rw [et, decide_eq_true e]
      rfl
    · have e2 : ¬ nI (cntQ A (aS A 9)) = nI (aS A 18) := nIne (by omega) (by omega) (by omega)
      simp only [f_X11_canRename_b69, f_X11_canRename_b91, hq, bdS, o1, n10, if_false, k0, ckT, hiq, h8, e2, not_false_eq_true, if_true]
      rw [ef, decide_eq_false e]
      rfl
theorem m_canRn {c : Nat} (h : RM b A ρ μ) (q : IB A) (qb : QB A) (hc : c < 22) : f_X11_canRename (b + 30) (nI c) μ = some (bI (canRn A c)) := by
  have e1 := m_alL (c := c) h q (aS A 9) 0 5000 (Nat.zero_add _) (by have := q.2.1.1; have := q.1.2.1; omega)
  have e0 : f_X11_canRename (b + 30) (nI c) μ = f_X11_canRename_b44 (b + 30) (nI c) (bI (anyAl A (aS A 9))) μ := e1
  rw [e0]
  have k0 := h.1.1
  have h9 := q.2.1.1
  have q17 := q.1.2.1
  have h23 : mI μ (b + 30) 23 = nI (aS A 9) := h.2.1.1 9 rfl
  have h7 : mI μ (b + 30) 7 = nI (aS A 17) := h.2.1.1 17 rfl
  have h21 : mI μ (b + 30) 21 = nI (aS A 7) := h.2.1.1 7 rfl
  have nf := q.2.2.2.1.nf
  have q8 := q.1.2.2.2.1
  obtain ⟨x, hx⟩ : ∃ x, x = anyAl A (aS A 9) := ⟨_, rfl⟩
  rw [← hx]
  have e69 := m_can69 (c := c) h q qb hc x
  have e92 := m_can92 (c := c) (s0 := true) h q hc x
  have o0 : bI false = 0 := rfl
  have o1 : bI true = 1 := rfl
  rw [o1] at e92
  have hd := m_hasD c hc
  have n10 : ¬ (1 : Int32) = 0 := by decide
  have fin : (decide (aS A 9 = 0) || (!isAl c && !isAl (eC A (aB A 0)))) = (!x && (!isAl c || decide (aS A 9 = 0))) := by
    by_cases z : aS A 9 = 0
    · have : x = false := by rw [hx, z]; rfl
      rw [decide_eq_true z, this]
      cases isAl c <;> rfl
    · rw [decide_eq_false z, hx, anyAl_e q z]
      cases isAl c <;> cases isAl (eC A (aB A 0)) <;> rfl
  unfold canRn
  rw [fin]
  by_cases e : aS A 9 = aS A 17
  · have e2 : nI (aS A 9) = nI (aS A 17) := by rw [e]
    simp only [f_X11_canRename_b44, f_X11_canRename_b87, k0, ckT, h23, h7, e2, if_true]
    rw [e92, decide_eq_false (show ¬ aS A 9 < aS A 17 by omega)]
    rfl
  · have e2 : ¬ nI (aS A 9) = nI (aS A 17) := nIne (by omega) (by omega) e
    rw [decide_eq_true (show aS A 9 < aS A 17 by omega)]
    cases hD : hasD c <;> rw [hD] at hd
    · simp only [f_X11_canRename_b44, k0, ckT, h23, h7, e2, if_false, hd, bdS, o0, if_true]
      rw [e69, Bool.and_assoc]
      rfl
    · by_cases f : aS A 7 = 0
      · have e3 : nI (aS A 7) = 0 := by rw [f]; rfl
        simp only [f_X11_canRename_b44, f_X11_canRename_b87, k0, ckT, h23, h7, e2, if_false, hd, bdS, o1, n10, h21, e3, if_true]
        rw [e92, decide_eq_true f]
        rfl
      · have e3 : ¬ nI (aS A 7) = 0 := nIne (n := 0) (by omega) (by omega) f
        simp only [f_X11_canRename_b44, k0, ckT, h23, h7, e2, if_false, hd, bdS, o1, n10, h21, e3]
        rw [e69, decide_eq_false f, Bool.and_assoc]
        rfl
end MR4
