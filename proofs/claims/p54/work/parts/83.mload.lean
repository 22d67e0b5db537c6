/-! the model: loads begin -/
section MLO
variable {b : Nat} {A B C A' : Sx} {ρ : Nat → Nat} {μ μ' μ2 : Mm} {S : Nat → Nat → Bool}
theorem zB_zB (A : Sx) (k : Nat) (y z : Ent) : zB (zB A k y) k z = zB A k z := by
  refine Prod.ext rfl (Prod.ext rfl (Prod.ext rfl (Prod.ext (funext fun j => ?_) rfl)))
  show up1 (up1 A.2.2.2.1 k y) k z j = up1 A.2.2.2.1 k z j
  simp only [up1_if]
  split <;> rfl
/-- what a load's row must show once it has begun -/
theorem ld_red {y : Ent} {F : Nat → Int32} (h11 : F 11 = nI (y.1 10)) (h3 : F 3 = nI (y.1 3)) (h12 : y.1 10 = 120 → F 12 = nI (y.1 11)) (hs : y.1 10 = 120 ∨ y.1 10 = 109) (h13 : F 13 = 0) (ht : y.1 12 = 0) (h6 : F 6 = y.2.1 0) (h14 : F 14 = y.2.1 1) (h15 : y.2.1 3 ≠ -1 → F 15 = y.2.1 2) (h16 : F 16 = y.2.1 3) : REd 9 y F := by
  refine ⟨h11, fun _ _ => h3, h12, fun z => by omega, ?_, fun _ => h6, fun _ _ _ => h14, fun _ _ c => h15 c, fun _ _ z => by omega, fun _ => h16⟩
  rw [h13, ht]
  show (0 : Int32) = if y.1 10 = 113 then 0 else nI 0
  split <;> rfl
end MLO
