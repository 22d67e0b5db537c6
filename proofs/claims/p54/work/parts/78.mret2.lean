/-! the model: retiring in a cycle -/
section MRT
variable {b : Nat} {A B C A' : Sx} {ρ : Nat → Nat} {μ μ' μ2 : Mm} {S : Nat → Nat → Bool}
theorem shiftB_S (A : Sx) {i : Nat} (h : i ≠ 9) : aS (shiftB A) i = aS A i := zS_ne _ _ h
theorem shiftB_cf (q : CF A) : CF (shiftB A) := by
  unfold CF at q ⊢
  rw [shiftB_S A (by decide), shiftB_S A (by decide), shiftB_S A (by decide), shiftB_S A (by decide), shiftB_S A (by decide)]
  exact q
end MRT
