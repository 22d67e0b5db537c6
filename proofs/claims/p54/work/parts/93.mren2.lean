/-! the model: who stands alone in the buffer -/
section MR2
variable {b : Nat} {A : Sx} {ρ : Nat → Nat} {μ : Mm}
def anyAl (A : Sx) : Nat → Bool
  | 0 => false
  | j + 1 => isAl (eC A (aB A j)) || anyAl A j
end MR2
