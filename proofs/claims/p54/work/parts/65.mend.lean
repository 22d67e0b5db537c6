/-! the model: endings -/
section MEND
variable {b : Nat} {A A' : Sx} {ρ : Nat → Nat} {μ μ' : Mm} {S : Nat → Nat → Bool}
def tabB (o k : Nat) : Bool := tabM o k || decide (46 ≤ o ∧ o ≤ 61)
theorem tabB_f (hS : ∀ o k, S o k = true → tabB o k = true) {o k : Nat} (h : ¬ ((o = 30 ∧ k ≠ 26 ∧ k ≠ 35) ∨ (38 ≤ o ∧ o ≤ 44) ∨ (72 ≤ o ∧ o ≤ 75) ∨ o = 81 ∨ (46 ≤ o ∧ o ≤ 61))) : S o k = false := by
  cases hz : S o k with
  | false => rfl
  | true =>
    have := hS o k hz
    unfold tabB tabM at this
    simp only [Bool.or_eq_true, decide_eq_true_eq] at this
    omega
theorem BM.upd {k : Nat} (h : BM b A ρ μ) (hr : Rho b ρ μ) (n9 : aS A 9 ≤ 16) (hk0 : k < 16) (g : CH b S μ μ') (hS : ∀ o j, S o j = true → o = ρ k ∨ o < 46 ∨ 61 < o) (hP : SamP A A') (h9 : aS A' 9 ≤ aS A 9) (hB : ∀ j, j < aS A' 9 → j ≠ k → aB A' j = aB A j) (hk : k < aS A' 9 → REm A' (aB A' k) (mI μ' (b + ρ k))) : BM b A' ρ μ' := fun j hj => by
  by_cases e : j = k
  · subst e
    exact hk hj
  · rw [hB j hj e]
    obtain ⟨-, r2, r3⟩ := hr.1 j (by omega)
    have hne : ρ j ≠ ρ k := by
      rcases Nat.lt_trichotomy j k with q | q | q
      · exact hr.2.1 j k q hk0
      · exact absurd q e
      · exact Ne.symm (hr.2.1 k j q (by omega))
    rw [g.row (o := ρ j) (fun i => by
      cases hz : S (ρ j) i with
      | false => rfl
      | true =>
        have := hS _ _ hz
        omega)]
    exact (h j (by omega)).cg hP
/-- goesOn -/
def sGo (o k : Nat) : Bool := o == 30 && (k == 25 || k == 26 || k == 27)
/-- stackAs: the stack as a row has it -/
def sSt (o _ : Nat) : Bool := o == 71
end MEND
