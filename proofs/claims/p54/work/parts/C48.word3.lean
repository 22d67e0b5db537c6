/-! the model: a word, a register is set -/
section MWD
variable {b : Nat} {A A' : Sx} {ρ : Nat → Nat} {μ μ' μ2 : Mm} {S : Nat → Nat → Bool}
/-! a register -/
def rok (x : Int32) : Bool := !decide (x < 0) && decide (x ≤ 7)
theorem rok_e {x : Int32} (h : rok x = true) : x = nI x.toNatClampNeg ∧ x.toNatClampNeg < 8 := by
  unfold rok at h
  simp only [Bool.and_eq_true, Bool.not_eq_true', decide_eq_false_iff_not, decide_eq_true_eq] at h
  obtain ⟨n, -, n2, e⟩ := i32r (lo := 0) (hi := 7) (by omega) (by omega) h.1 h.2
  have en : x.toNatClampNeg = n := by rw [e]; exact clN (by omega)
  rw [en]
  exact ⟨e, by omega⟩
theorem c_isReg (x : Int32) : f_X10_isRegister x = some (bI (rok x)) := by
  have e : (x ≤ 7) = ¬ (8 ≤ x) := by
    rw [Int32.le_iff_toInt_le, Int32.le_iff_toInt_le]
    have h1 : (7 : Int32).toInt = 7 := by decide
    have h2 : (8 : Int32).toInt = 8 := by decide
    rw [h1, h2]
    exact propext ⟨fun h => by omega, fun h => by omega⟩
  unfold f_X10_isRegister rok
  by_cases h1 : x < 0
  · rw [if_pos h1, decide_eq_true h1]
    rfl
  · rw [if_neg h1, decide_eq_false h1]
    by_cases h2 : 8 ≤ x
    · rw [if_pos h2, decide_eq_false (by rw [e]; exact fun t => t h2)]
      rfl
    · rw [if_neg h2, decide_eq_true (by rw [e]; exact h2)]
      rfl
end MWD
