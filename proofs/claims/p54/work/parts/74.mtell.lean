/-! the model: frames, the oldest one leaves the buffer, ends are told -/
section MTE
variable {b : Nat} {A B A' : Sx} {ρ : Nat → Nat} {μ μ' μ2 : Mm} {S : Nat → Nat → Bool}
/-- no kinds behind the end -/
def WF (μ : Mm) : Prop := ∀ a, mN μ ≤ a → mK μ a = 0
/-! the oldest one leaves -/
def rot (ρ : Nat → Nat) (n : Nat) : Nat → Nat := fun k => if k < n then ρ (k + 1) else if k = n then ρ 0 else ρ k
end MTE
