/-! both: more that is asked for -/
section GE2
variable {b z : Nat} {m : Nat → Nat} {A A' : Sx} {ρ : Nat → Nat} {G : Nat → Nat → Nat} {ar : Nat → Nat} {s : Nat} {μ μ' : Mm}
theorem zb_id {n : Nat} (h : n ≤ 1) : zb (nI n) = nI n := by
  have : n = 0 ∨ n = 1 := by omega
  rcases this with y | y <;> rw [y] <;> rfl
theorem m_hasStopped (h : RM b A ρ μ) (h1 : aS A 1 ≤ 1) : f_X11_hasStopped (b + 30) μ = some (nI (aS A 1), sI μ (b + 30) 54 0) := by
  have k0 := h.1.1
  have i1 : mI (sI μ (b + 30) 54 0) (b + 30) 37 = nI (aS A 1) := by rw [mI_ne _ _ (Or.inr (by decide))]; exact h.2.1.1 1 rfl
  simp only [f_X11_hasStopped, k0, ckT, zlS, i1, zb_id h1]
theorem m_kept (h : RM b A ρ μ) (h3 : aS A 3 ≤ 1) : f_X11_kept (b + 30) μ = some (if aS A 3 = 0 then 0 else nI (aS A 4), sI μ (b + 30) 54 (nI (if aS A 3 = 0 then 1 else 0))) := by
  have k0 := h.1.1
  have i3 : mI μ (b + 30) 39 = nI (aS A 3) := h.2.1.1 3 rfl
  have i4 : ∀ {v : Int32}, mI (sI μ (b + 30) 54 v) (b + 30) 40 = nI (aS A 4) := fun {v} => by rw [mI_ne _ _ (Or.inr (by decide))]; exact h.2.1.1 4 rfl
  have z3 := zb1 h3
  have c10 : ¬ (1 : Int32) ≤ 0 := by decide
  have c00 : (0 : Int32) ≤ 0 := by decide
  by_cases e : aS A 3 = 0
  · have w : zb (nI (aS A 3)) = 0 := by rw [z3]; exact e
    rw [if_pos e, if_pos e]
    simp only [f_X11_kept, f_X11_kept_b13, k0, ckT, i3, w, if_true, zlS, mK_sI, mI_at, c10, if_false]
    rfl
  · have w : ¬ zb (nI (aS A 3)) = 0 := by rw [z3]; exact e
    rw [if_neg e, if_neg e]
    simp only [f_X11_kept, f_X11_kept_b13, k0, ckT, i3, w, if_false, zlS, mK_sI, mI_at, c00, if_true, i4]
    rfl
theorem c_fetching (h : FR b z A μ) (h12 : aS A 12 ≤ 1) : (aS A 12 = 0 → f_X10_fetching b μ = some (.inl (nI (aS A 11)), μ)) ∧ (aS A 12 ≠ 0 → f_X10_fetching b μ = some (.inr "java/util/NoSuchElementException", bump μ 6)) := by
  have k0 := h.1
  unfold SC at k0
  have i5 : mI μ (b + 20) 5 = nI (aS A 12) := h.2.1.1 12 rfl
  have z5 := zb1 h12
  refine ⟨fun y => ?_, fun y => ?_⟩
  · have w : zb (nI (aS A 12)) = 0 := by rw [z5]; exact y
    have i4 : mI μ (b + 20) 4 = nI (aS A 11) := h.2.2.2.2.2 y
    simp only [f_X10_fetching, k0, ckT, bdS, i5, w, if_true, i4]
  · have w : ¬ zb (nI (aS A 12)) = 0 := by rw [z5]; exact y
    simp only [f_X10_fetching, k0, ckT, bdS, i5, w, if_false]
theorem c_returns (h : FR b z A μ) (hh : HR b z A m G ar s μ) : f_X10_returns b μ = some (nI (aT A).length) := by
  have k0 := h.1
  unfold SC at k0
  have s3 := hh.2.2.2.2.2.2.2.1
  obtain ⟨ks, ls, -⟩ := hh.2.2.2.2.2.2.2.2
  have k1256 : ∀ y : Option Int32, ck (isA1256 41) y = y := fun y => if_pos (by decide)
  simp only [f_X10_returns, k0, ckT, bdS, s3, ks, k1256, ls]
end GE2
