/-! the model: endings of controls and stores -/
section MEN3
variable {b : Nat} {A B A' : Sx} {ρ : Nat → Nat} {μ μ' : Mm} {S : Nat → Nat → Bool}
theorem goOn_eq (B : Sx) (m p : Nat) (t : List Nat) : throwN (zS (zS (zS (zT B t) 11 p) 12 0) 10 0) m = goOn (throwN (zS B 10 0) m) p t := by
  have e : zS (zS (zS (zT B t) 11 p) 12 0) 10 0 = zS (zS (zT (zS B 10 0) t) 11 p) 12 0 := by
    rw [zS_comm _ _ _ (show (12 : Nat) ≠ 10 by decide), zS_comm _ _ _ (show (11 : Nat) ≠ 10 by decide)]
    rfl
  rw [e, throwN_zS _ (by decide) (by decide) (by decide), throwN_zS _ (by decide) (by decide) (by decide), throwN_zT]
  rfl
end MEN3
