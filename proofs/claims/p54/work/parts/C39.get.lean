/-! both: numbers that are asked for -/
section GET
variable {b z : Nat} {m : Nat → Nat} {A A' : Sx} {ρ : Nat → Nat} {G : Nat → Nat → Nat} {ar : Nat → Nat} {s : Nat} {μ μ' : Mm}
theorem c_getS (h : FR b z A μ) : f_X10_cycle b μ = some (nI (aS A 0)) ∧ f_X10_free b μ = some (nI (aS A 7)) ∧ f_X10_inBuffer b μ = some (nI (aS A 9)) ∧ f_X10_fetched b μ = some (nI (aS A 10)) ∧ f_X10_asked b μ = some (nI (aQ A).length) ∧ f_X10_wrong b μ = some (nI (aS A 19)) ∧ f_X10_early b μ = some (nI (aS A 20)) ∧ f_X10_taken b μ = some (nI (aS A 22)) ∧ f_X10_ends b μ = some (nI (aS A 14)) ∧ f_X10_hits b μ = some (Int32.toInt64 (nI (aS A 23)) + 1000 * Int32.toInt64 (nI (aS A 24))) := by
  have k0 := h.1
  unfold SC at k0
  have i0 : mI μ (b + 1) 12 = nI (aS A 0) := h.2.1.1 0 rfl
  have i7 : mI μ (b + 9) 5 = nI (aS A 7) := h.2.1.1 7 rfl
  have i19 : mI μ (b + 4) 1 = nI (aS A 19) := h.2.1.1 19 rfl
  have i20 : mI μ (b + 4) 2 = nI (aS A 20) := h.2.1.1 20 rfl
  have i21 : mI μ (b + 4) 3 = nI (aS A 21) := h.2.1.1 21 rfl
  have i22 : mI μ (b + 4) 4 = nI (aS A 22) := h.2.1.1 22 rfl
  have i23 : mI μ (b + 4) 5 = nI (aS A 23) := h.2.1.1 23 rfl
  have i24 : mI μ (b + 4) 6 = nI (aS A 24) := h.2.1.1 24 rfl
  have sB := c_sizeB h
  have sL := c_size h.k100.2.1 h.sz.2.2.1
  have sE := c_size h.k100.2.2.2 h.sz.2.2.2
  have q := h.2.2.2.2.1.1
  refine ⟨?_, ?_, ?_, ?_, ?_, ?_, ?_, ?_, ?_, ?_⟩
  · simp only [f_X10_cycle, k0, ckT, bdS, i0]
  · simp only [f_X10_free, k0, ckT, bdS, i7]
  · simp only [f_X10_inBuffer, k0, ckT, bdS, sB]
  · simp only [f_X10_fetched, k0, ckT, bdS, sL]
  · simp only [f_X10_asked, k0, ckT, bdS, q]
  · simp only [f_X10_wrong, k0, ckT, bdS, i19]
  · simp only [f_X10_early, k0, ckT, bdS, i20]
  · simp only [f_X10_taken, k0, ckT, bdS, i22]
  · simp only [f_X10_ends, k0, ckT, bdS, sE]
  · simp only [f_X10_hits, k0, ckT, bdS, i23, i24]
theorem c_hasStopped (h : FR b z A μ) (h1 : aS A 1 ≤ 1) : f_X10_hasStopped b μ = some (nI (aS A 1)) := by
  have k0 := h.1
  unfold SC at k0
  have i1 : mI μ (b + 1) 13 = nI (aS A 1) := h.2.1.1 1 rfl
  have e : zb (nI (aS A 1)) = nI (aS A 1) := by
    have : aS A 1 = 0 ∨ aS A 1 = 1 := by omega
    rcases this with y | y <;> rw [y] <;> rfl
  simp only [f_X10_hasStopped, k0, ckT, bdS, i1, e]
theorem c_inQueue (h : FR b z A μ) (hh : HR b z A (fun _ => 0) G ar s μ) (q : IB A) : f_X10_inQueue b μ = some (nI (cntQ A (aS A 9))) := by
  have k0 := h.1
  unfold SC at k0
  have n9 : aS A 9 ≤ 16 := by have := q.2.1.1; have := q.1.2.1; omega
  have cq : f_X0_countQueue (b + 1) μ = some (nI (cntQ A (aS A 9))) := c_cntL h hh q (aS A 9) 0 5000 (Nat.zero_add _) (by omega)
  simp only [f_X10_inQueue, k0, ckT, bdS, cq]
theorem c_kept (h : FR b z A μ) (hh : HR b z A (fun _ => 0) G ar s μ) (h3 : aS A 3 ≤ 1) : (aS A 3 ≠ 0 → f_X10_kept b μ = some (.inl (nI (aS A 4)), μ)) ∧ (aS A 3 = 0 → f_X10_kept b μ = some (.inr "java/util/NoSuchElementException", bump μ 6)) := by
  have k0 := h.1
  unfold SC at k0
  have i3 : mI μ (b + 1) 15 = nI (aS A 3) := h.2.1.1 3 rfl
  have i4 : mI μ (b + 1) 16 = nI (aS A 4) := h.2.1.1 4 rfl
  have z3 := zb1 h3
  refine ⟨fun y => ?_, fun y => ?_⟩
  · have w : ¬ zb (nI (aS A 3)) = 0 := by rw [z3]; exact y
    simp only [f_X10_kept, k0, ckT, bdS, i3, w, not_false_eq_true, if_true, i4]
  · have w : ¬ ¬ zb (nI (aS A 3)) = 0 := by rw [z3]; exact fun t => t y
    simp only [f_X10_kept, k0, ckT, bdS, i3, w, if_false]
end GET
