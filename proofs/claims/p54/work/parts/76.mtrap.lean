/-! the model: traps, interrupts -/
section MTR
variable {b : Nat} {A B A' : Sx} {ρ : Nat → Nat} {μ μ' μ2 : Mm} {S : Nat → Nat → Bool}
theorem zS_perm (X : Sx) (p q : Nat) (t : List Nat) : zS (zS (zS (zS (zS (zS (zT X t) 4 p) 3 1) 11 q) 12 0) 10 0) 5 q = goOn (zS (zS (zS (zS X 10 0) 4 p) 3 1) 5 q) q t := by
  refine Prod.ext (funext fun i => ?_) rfl
  show up1 (up1 (up1 (up1 (up1 (up1 X.1 4 p) 3 1) 11 q) 12 0) 10 0) 5 q i = up1 (up1 (up1 (up1 (up1 (up1 X.1 10 0) 4 p) 3 1) 5 q) 11 q) 12 0 i
  simp only [up1_if]
  by_cases h4 : i = 4
  · subst h4; rfl
  by_cases h3 : i = 3
  · subst h3; rfl
  by_cases h11 : i = 11
  · subst h11; rfl
  by_cases h12 : i = 12
  · subst h12; rfl
  by_cases h10 : i = 10
  · subst h10; rfl
  by_cases h5 : i = 5
  · subst h5; rfl
  simp only [if_neg h4, if_neg h3, if_neg h11, if_neg h12, if_neg h10, if_neg h5]
theorem zb1 {n : Nat} (h : n ≤ 1) : (zb (nI n) = 0) = (n = 0) := by
  have : n = 0 ∨ n = 1 := by omega
  rcases this with rfl | rfl <;> decide
theorem IBz.tellE {x : Ent} {kd : Nat} (z : IBz A) : IBz (tellE A x kd) := by
  have tf := tellE_f A x kd
  exact z.cg (fun i hi => tf.1 i (by omega)) (fun r hr _ => tf.2.2.1 r hr) (fun r hr => tf.2.2.2.2.2.1 r (by omega)) tf.2.2.2.2.2.2.1 tf.2.2.2.2.2.2.2.2.2 (by
    rw [tf.1 1 (by decide), tf.1 2 (by decide), tf.1 3 (by decide), tf.1 5 (by decide), tf.1 4 (by decide)]
    exact z.2.1.2.2.2.2.2.2)
end MTR
