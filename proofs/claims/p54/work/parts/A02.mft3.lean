/-! the model: fetching -/
section MF3
variable {b : Nat} {A B : Sx} {ρ : Nat → Nat} {μ μ' : Mm} {S : Nat → Nat → Bool}
theorem ft1_P (A : Sx) : SamP A (ft1 A) := ⟨fun r _ _ => by rw [(ft1_f A).2.2.2.2.2.1], by rw [(ft1_f A).2.2.2.2.2.2.1]⟩
theorem isEf_n {c : Nat} (hc : c < 22) : (nI c = 18 ∨ nI c = 21) ↔ isEf c = true := by
  unfold isEf
  simp only [Bool.or_eq_true, decide_eq_true_eq]
  constructor
  · rintro (h | h)
    · exact Or.inl (nIj (n := 18) (by omega) (by omega) h)
    · exact Or.inr (nIj (n := 21) (by omega) (by omega) h)
  · rintro (h | h)
    · exact Or.inl (by rw [h]; rfl)
    · exact Or.inr (by rw [h]; rfl)
theorem m_ftN {n : Nat} (h : aS A 12 ≠ 0 ∨ 2 * aS A 16 ≤ aS A 10 ∨ aS A 15 ≤ aS A 11) : ftL A n = A := by
  cases n with
  | zero => rfl
  | succ n => exact if_pos h
end MF3
