/-! the model: whether the next one can be renamed -/
section MR3
variable {b : Nat} {A : Sx} {ρ : Nat → Nat} {μ : Mm}
theorem anyAl_e (q : IB A) (hn : aS A 9 ≠ 0) : anyAl A (aS A 9) = isAl (eC A (aB A 0)) := by
  have al := q.2.2.2.2.2.2.2.2.2.2.2.2.2.1
  by_cases h1 : aS A 9 = 1
  · rw [h1]
    show (isAl (eC A (aB A 0)) || false) = _
    rw [Bool.or_false]
  · have no : ∀ k, k < aS A 9 → isAl (eC A (aB A k)) = false := fun k hk => by
      cases hz : isAl (eC A (aB A k)) with
      | false => rfl
      | true => exact absurd (al k hk hz) h1
    have key : ∀ m, m ≤ aS A 9 → anyAl A m = false := fun m => by
      induction m with
      | zero => intro _; rfl
      | succ m ih =>
        intro hm
        show (isAl (eC A (aB A m)) || anyAl A m) = false
        rw [no m (by omega), ih (by omega)]
        rfl
    rw [key _ (Nat.le_refl _), no 0 (by omega)]
end MR3
