/-! the model: whether the next one can be renamed, all of it -/
section MR4
variable {b : Nat} {A : Sx} {ρ : Nat → Nat} {μ : Mm}
theorem bA_l (x y : Bool) : (!x && !y && true) = (!y && !x && true) := by cases x <;> cases y <;> rfl
end MR4
