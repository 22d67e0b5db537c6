/-! the model: the dividing unit -/
section MB3
variable {b : Nat} {A B C A' : Sx} {ρ : Nat → Nat} {μ μ' μ2 : Mm} {S : Nat → Nat → Bool}
theorem isDv_put {k : Nat} (hP : SamP A B) (hB : ∀ j, j ≠ k → aB B j = aB A j) (hk0 : (aB B k).1 0 = (aB A k).1 0) (hk : eC A (aB A k) ≠ 5) : ∀ m, isDv B m = isDv A m
  | 0 => rfl
  | m + 1 => by
    unfold isDv
    rw [isDv_put hP hB hk0 hk m]
    by_cases e : m = k
    · subst e
      rw [(hP.c hk0).1, decide_eq_false hk, Bool.false_and, Bool.false_and]
    · rw [hB m e, (hP.c (x := aB A m) rfl).1]
theorem isDv_has {k : Nat} (h5 : eC A (aB A k) = 5) (hs : (aB A k).1 10 = 120) : ∀ m, k < m → isDv A m = true
  | m + 1, h => by
    unfold isDv
    by_cases e : m = k
    · subst e
      rw [decide_eq_true h5, decide_eq_true hs]
      rfl
    · rw [isDv_has h5 hs m (by omega)]
      simp
end MB3
