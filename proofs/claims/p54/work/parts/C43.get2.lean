/-! both: more that is asked for -/
section GE2
variable {b z : Nat} {m : Nat → Nat} {A A' : Sx} {ρ : Nat → Nat} {G : Nat → Nat → Nat} {ar : Nat → Nat} {s : Nat} {μ μ' : Mm}
theorem zb_id {n : Nat} (h : n ≤ 1) : zb (nI n) = nI n := by
  have : n = 0 ∨ n = 1 := by omega
  rcases this with y | y <;> rw [y] <;> rfl
theorem c_fetching (h : FR b z A μ) (h12 : aS A 12 ≤ 1) : (aS A 12 = 0 → f_X10_fetching b μ = some (.inl (nI (aS A 11)), μ)) ∧ (aS A 12 ≠ 0 → f_X10_fetching b μ = some (.inr "java/util/NoSuchElementException", bump μ 6)) := by
  have k0 := h.1
  unfold SC at k0
  have i5 : mI μ (b + 20) 5 = nI (aS A 12) := h.2.1.1 12 rfl
  have z5 := zb1 h12
  refine ⟨fun y => ?_, fun y => ?_⟩
  · have w : zb (nI (aS A 12)) = 0 := by rw [z5]; exact y
    have i4 : mI μ (b + 20) 4 = nI (aS A 11) := h.2.2.2.2.2 y
    simp only [f_X10_fetching, k0, ckT, bdS, i5, w, if_true, i4]
  · have w : ¬ zb (nI (aS A 12)) = 0 := by rw [z5]; exact y
    simp only [f_X10_fetching, k0, ckT, bdS, i5, w, if_false]
theorem c_returns (h : FR b z A μ) (hh : HR b z A m G ar s μ) : f_X10_returns b μ = some (nI (aT A).length) := by
  have k0 := h.1
  unfold SC at k0
  have s3 := hh.2.2.2.2.2.2.2.1
  obtain ⟨ks, ls, -⟩ := hh.2.2.2.2.2.2.2.2
  have k1256 : ∀ y : Option Int32, ck (isA1256 41) y = y := fun y => if_pos (by decide)
  simp only [f_X10_returns, k0, ckT, bdS, s3, ks, k1256, ls]
end GE2
