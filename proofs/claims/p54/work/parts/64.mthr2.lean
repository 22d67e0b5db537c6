section MTH2
variable {b : Nat} {A A' : Sx} {ρ : Nat → Nat} {μ μ' : Mm} {S : Nat → Nat → Bool}
theorem REm.cg {x : Ent} {f : Nat → Int32} (h : REm A x f) (hP : SamP A A') : REm A' x f := by
  unfold REm at h ⊢
  rw [(hP.c (x := x) rfl).1]
  exact h
theorem RLm.cg {x : Ent} {f : Nat → Int32} (h : RLm A x f) (hP : SamP A A') : RLm A' x f := by
  unfold RLm at h ⊢
  rw [(hP.c (x := x) rfl).1]
  exact h
/-- cells that the model's table has, and no other part reads -/
def tabM (o k : Nat) : Bool := decide ((o = 30 ∧ k ≠ 26 ∧ k ≠ 35) ∨ (38 ≤ o ∧ o ≤ 44) ∨ (72 ≤ o ∧ o ≤ 75) ∨ o = 81)
theorem tabM_f (hS : ∀ o k, S o k = true → tabM o k = true) {o k : Nat} (h : ¬ ((o = 30 ∧ k ≠ 26 ∧ k ≠ 35) ∨ (38 ≤ o ∧ o ≤ 44) ∨ (72 ≤ o ∧ o ≤ 75) ∨ o = 81)) : S o k = false := by
  cases hz : S o k with
  | false => rfl
  | true => exact absurd (of_decide_eq_true (hS o k hz)) h
theorem m1_lt {n : Nat} (h : n < 100000) : nI n + (-1) < nI n := by
  refine Int32.lt_iff_toInt_lt.mpr ?_
  rcases n with _ | n
  · decide
  · rw [pk_m1, nI_toInt (by omega), nI_toInt (by omega)]
    omega
end MTH2
