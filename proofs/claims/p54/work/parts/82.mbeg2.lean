/-! the model: an entry begins -/
section MB2
variable {b : Nat} {A B C A' : Sx} {ρ : Nat → Nat} {μ μ' μ2 : Mm} {S : Nat → Nat → Bool}
theorem bgW_s {x z : Ent} {d c : Nat} (hz : ∀ i, i ≠ 12 → i ≠ 14 → z.1 i = x.1 i) : ∀ i, i = 0 ∨ i = 1 ∨ i = 2 ∨ i = 5 ∨ i = 6 ∨ i = 7 ∨ i = 8 ∨ i = 9 ∨ i = 13 → (bgW z d c).1 i = x.1 i := fun i hi => by
  rw [(bgW_f z d c).1 i (by omega) (by omega) (by omega)]
  exact hz i (by omega) (by omega)
/-- stores that are older than a load: whether all have ended, the last with its address -/
def encO (o : Option Nat) : Int32 := match o with | none => -1 | some j => nI j
end MB2
