/-! the model: a cycle's retiring -/
section MRS
variable {b : Nat} {A B C A' : Sx} {ρ : Nat → Nat} {μ μ' μ2 : Mm} {S : Nat → Nat → Bool}
theorem canLv_t (h1 : aS A 1 = 0) (h2 : 0 < aS A 9) (h3 : (aB A 0).1 10 = 101) : canLv A = (!isSt (eC A (aB A 0)) || decide ((aB A 0).1 12 ≠ 0) || decide (aN A 2 ((aB A 0).1 7) = 1)) := by
  unfold canLv
  rw [decide_eq_true h1, decide_eq_true h2, decide_eq_true h3]
  rfl
theorem intr_perm (X : Sx) (p q : Nat) : zS (zS (zS (zS (zS X 2 0) 10 0) 4 p) 3 1) 5 q = zS (zS (zS (zS (zS X 2 0) 3 1) 4 p) 5 q) 10 0 := by
  refine Prod.ext (funext fun i => ?_) rfl
  show up1 (up1 (up1 (up1 (up1 X.1 2 0) 10 0) 4 p) 3 1) 5 q i = up1 (up1 (up1 (up1 (up1 X.1 2 0) 3 1) 4 p) 5 q) 10 0 i
  simp only [up1_if]
  by_cases h10 : i = 10
  · subst h10; rfl
  by_cases h4 : i = 4
  · subst h4; rfl
  by_cases h3 : i = 3
  · subst h3; rfl
  simp only [if_neg h10, if_neg h4, if_neg h3]
theorem tell_zS2 (A : Sx) (p : Nat) : tell (zS A 2 0) 9 p 0 0 0 0 (-1) = zS (tell A 9 p 0 0 0 0 (-1)) 2 0 := by
  refine Prod.ext (funext fun i => ?_) rfl
  show up1 (up1 A.1 2 0) 14 (aS (zS A 2 0) 14 + 1) i = up1 (up1 A.1 14 (aS A 14 + 1)) 2 0 i
  rw [show aS (zS A 2 0) 14 = aS A 14 from zS_ne _ _ (by decide)]
  simp only [up1_if]
  by_cases h : i = 14
  · subst h; rfl
  · simp only [if_neg h]
end MRS
