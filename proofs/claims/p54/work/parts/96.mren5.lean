/-! the model: renaming, the loops over rows -/
section MR5
variable {b : Nat} {A B : Sx} {ρ : Nat → Nat} {μ μ' : Mm} {S : Nat → Nat → Bool}
theorem CH.row2 {r : Nat} (g : CH b (sRow r) μ μ') {o : Nat} (h : o ≠ r) : mI μ' (b + o) = mI μ (b + o) := g.row (fun k => by
  cases hz : sRow r o k with
  | false => rfl
  | true => exact absurd (sRow_e hz) h)
theorem CH.putR {r k : Nat} {v : Int32} : CH b (sRow r) μ (sI μ (b + r) k v) := CH.put (sRow_at r k)
/-- the line's rows -/
def sLn (o _ : Nat) : Bool := decide (63 ≤ o ∧ o ≤ 70)
end MR5
