/-! the model: ends are told, cycles are lost -/
section MT2
variable {b : Nat} {A B A' : Sx} {ρ : Nat → Nat} {μ μ' μ2 : Mm} {S : Nat → Nat → Bool}
theorem nwKa (μ : Mm) (κ l s : Nat) : mK (nw μ κ l s) (mN μ) = κ := up1_eq _ _ _
theorem nwLa (μ : Mm) (κ l s : Nat) : mL (nw μ κ l s) (mN μ) = l := up1_eq _ _ _
/-- an end without an entry -/
def sTe (o k : Nat) : Bool := decide ((o = 30 ∧ k = 46) ∨ o = 78 ∨ o = 79)
end MT2
