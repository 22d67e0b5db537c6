/-! the model: one instruction is fetched -/
section MF2
variable {b : Nat} {A B : Sx} {ρ : Nat → Nat} {μ μ' : Mm} {S : Nat → Nat → Bool}
/-- what fetching changes -/
def sFt (r o k : Nat) : Bool := decide ((o = 30 ∧ k ≠ 35 ∧ k ≠ 54) ∨ o = r ∨ o = 71)
theorem sFt_f {r o k : Nat} (h : ¬ ((o = 30 ∧ k ≠ 35 ∧ k ≠ 54) ∨ o = r ∨ o = 71)) : sFt r o k = false := decide_eq_false h
theorem guess_st {p : Nat} (h5 : aN A 10 p ≠ 15) (h6 : aN A 10 p ≠ 16) : (guessA A p).2 = aT A := by
  unfold guessA
  dsimp only
  split
  · rfl
  · split
    · rfl
    · split <;> rfl
theorem guess_15 {p : Nat} (h5 : aN A 10 p = 15) : (guessA A p).2 = pushT (aT A) (p + 1) := by
  unfold guessA
  dsimp only
  rw [h5]
  rfl
end MF2
