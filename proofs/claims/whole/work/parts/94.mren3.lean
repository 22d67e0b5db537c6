/-! the model: whether the next one can be renamed -/
section MR3
variable {b : Nat} {A : Sx} {ρ : Nat → Nat} {μ : Mm}
theorem anyAl_e (q : IB A) (hn : aS A 9 ≠ 0) : anyAl A (aS A 9) = isAl (eC A (aB A 0)) := by
  have al := q.2.2.2.2.2.2.2.2.2.2.2.2.2.1
  by_cases h1 : aS A 9 = 1
  · rw [h1]
    show (isAl (eC A (aB A 0)) || false) = _
    rw [Bool.or_false]
  · have no : ∀ k, k < aS A 9 → isAl (eC A (aB A k)) = false := fun k hk => by
      cases hz : isAl (eC A (aB A k)) with
      | false => rfl
      | true => exact absurd (al k hk hz) h1
    have key : ∀ m, m ≤ aS A 9 → anyAl A m = false := fun m => by
      induction m with
      | zero => intro _; rfl
      | succ m ih =>
        intro hm
        show (isAl (eC A (aB A m)) || anyAl A m) = false
        rw [no m (by omega), ih (by omega)]
        rfl
    rw [key _ (Nat.le_refl _), no 0 (by omega)]
theorem m_can92 {c : Nat} {s0 : Bool} (h : RM b A ρ μ) (q : IB A) (hc : c < 22) (x : Bool) : f_X11_canRename_b92 (b + 30) (nI c) (bI x) (bI s0) μ = some (bI (!s0 && !x && (!isAl c || decide (aS A 9 = 0)))) := by
  have n9 : aS A 9 ≤ 16 := by have := q.2.1.1; have := q.1.2.1; omega
  have k0 := h.1.1
  have h23 : mI μ (b + 30) 23 = nI (aS A 9) := h.2.1.1 9 rfl
  have hal := m_isAl c hc
  have n10 : ¬ (1 : Int32) = 0 := by decide
  have nn : ¬ ¬ (0 : Int32) = 0 := fun z => z rfl
  have o0 : bI false = 0 := rfl
  have o1 : bI true = 1 := rfl
  cases s0
  · cases x
    · cases hA : isAl c <;> rw [hA] at hal
      · simp only [f_X11_canRename_b92, f_X11_canRename_b115, o0, nn, not_true, if_false, hal, bdS, if_true]
        rfl
      · by_cases z : aS A 9 = 0
        · have e : ¬ ¬ nI (aS A 9) = 0 := by rw [z]; exact fun y => y rfl
          rw [decide_eq_true z]
          simp only [f_X11_canRename_b92, f_X11_canRename_b115, o0, o1, nn, not_true, if_false, hal, bdS, n10, k0, ckT, h23, e]
          rfl
        · have e : ¬ nI (aS A 9) = 0 := nIne (n := 0) (by omega) (by omega) z
          rw [decide_eq_false z]
          simp only [f_X11_canRename_b92, f_X11_canRename_b115, o0, o1, nn, not_true, if_false, hal, bdS, n10, k0, ckT, h23, e, not_false_eq_true, if_true]
          rfl
    · simp only [f_X11_canRename_b92, o0, o1, nn, not_true, if_false, n10, not_false_eq_true, if_true]
      rfl
  · simp only [f_X11_canRename_b92, o1, n10, not_false_eq_true, if_true]
    rfl
end MR3
