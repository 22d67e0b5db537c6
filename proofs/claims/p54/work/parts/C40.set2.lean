/-! both: the buffer's, the queue's room; an interrupt -/
section CAQ
variable {b z e sl : Nat} {m m' : Nat → Nat} {A A' B C D : Sx} {P : Pm} {G : Nat → Nat → Nat} {ar : Nat → Nat} {s : Nat} {ρ : Nat → Nat} {μ μ' μ2 : Mm} {S : Nat → Nat → Bool}
theorem c_setQ {x : Int32} (h : FR b z A μ) (hh : HR b z A (fun _ => 0) G ar s μ) (h0 : aS A 0 ≤ 500) : ∃ (k : Nat) (A' : Sx) (μ' : Mm), k = kSet A (!decide (x < 2) && decide (x ≤ 8)) ∧ A' = (if k = 0 then zS A 18 x.toNatClampNeg else A) ∧ (k = 0 → ∃ n, 2 ≤ n ∧ n ≤ 8 ∧ x = nI n ∧ x.toNatClampNeg = n) ∧ f_X10_setQueue b x μ = some (oc k (nI (aS A 18)), μ') ∧ FR b z A' μ' ∧ HR b z A' (fun _ => 0) G ar s μ' ∧ CK 1 6 μ μ' := by
  have k0 := h.1
  unfold SC at k0
  have i12 : mI μ (b + 1) 12 = nI (aS A 0) := h.2.1.1 0 rfl
  have i30 : mI μ (b + 3) 2 = nI (aS A 18) := h.2.1.1 18 rfl
  by_cases x1 : x < 2
  · refine ⟨1, A, bump μ 6, ?_, rfl, fun y => (by cases y), ?_, h.bump, hh.bump, bump_ck⟩
    · rw [decide_eq_true x1]; rfl
    · simp only [f_X10_setQueue, f_X10_setQueue_b11, x1, if_true] <;> rfl
  · by_cases x4 : x ≤ 8
    · rw [decide_eq_false x1, decide_eq_true x4]
      by_cases a0 : aS A 0 = 0
      · have c0 : nI (aS A 0) ≤ 0 := by rw [a0]; decide
        obtain ⟨n, n1, n4, e⟩ := i32r (lo := 2) (hi := 8) (by omega) (by omega) x1 x4
        have en : x.toNatClampNeg = n := by rw [e]; exact clN (by omega)
        obtain ⟨F, H, c, -⟩ := c_put (i := 18) (n := n) h hh rfl (by decide) rfl
        rw [show sI μ (b + 3) 2 (nI n) = sI μ (b + 3) 2 x from by rw [e]] at F H c
        refine ⟨0, zS A 18 n, sI μ (b + 3) 2 x, ?_, by rw [if_pos rfl, en], fun _ => ⟨n, n1, n4, e, en⟩, ?_, F, H, c.mono (by omega) (by omega)⟩
        · unfold kSet; rw [if_neg (by decide), if_pos a0]
        · simp only [f_X10_setQueue, x1, x4, if_true, if_false, k0, ckT, bdS, i12, c0, i30, zlS] <;> rfl
      · have c0 : ¬ nI (aS A 0) ≤ 0 := nI_nle (by omega) (by omega)
        refine ⟨2, A, bump μ 6, ?_, rfl, fun y => (by cases y), ?_, h.bump, hh.bump, bump_ck⟩
        · unfold kSet; rw [if_neg (by decide), if_neg a0]
        · simp only [f_X10_setQueue, x1, x4, if_true, if_false, k0, ckT, bdS, i12, c0] <;> rfl
    · refine ⟨1, A, bump μ 6, ?_, rfl, fun y => (by cases y), ?_, h.bump, hh.bump, bump_ck⟩
      · rw [decide_eq_false x4, Bool.and_false]; rfl
      · simp only [f_X10_setQueue, f_X10_setQueue_b11, x1, x4, if_false] <;> rfl
end CAQ
