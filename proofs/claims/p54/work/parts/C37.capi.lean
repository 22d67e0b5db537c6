/-! THE CLASS: what is called from without: what is set -/
section CAP
variable {b z e sl : Nat} {m m' : Nat → Nat} {A A' B C D : Sx} {P : Pm} {G : Nat → Nat → Nat} {ar : Nat → Nat} {s : Nat} {μ μ' μ2 : Mm} {S : Nat → Nat → Bool}
/-- an answer, or which exception -/
def oc (k : Nat) (r : Int32) : Int32 ⊕ String := if k = 0 then .inl r else if k = 1 then .inr "java/lang/IllegalArgumentException" else .inr "java/lang/IllegalStateException"
theorem i32r {x : Int32} {lo hi : Nat} (l1 : lo < 1000) (l2 : hi < 1000) (h1 : ¬ x < nI lo) (h2 : x ≤ nI hi) : ∃ n, lo ≤ n ∧ n ≤ hi ∧ x = nI n := by
  have h0 : (0 : Int32) ≤ x := Int32.le_trans (show (0 : Int32) ≤ nI lo from nI_pos' (by omega)) (Int32.not_lt.mp h1)
  obtain ⟨j, hj, e⟩ := nI_of (Int32.not_lt.mpr h0)
  refine ⟨j, ?_, ?_, e⟩
  · rcases Nat.lt_or_ge j lo with q | q
    · exact absurd (by rw [e]; exact (nI_ltI hj (by omega)).mpr q) h1
    · exact q
  · rcases Nat.lt_or_ge hi j with q | q
    · have : nI hi < nI j := (nI_ltI (by omega) hj).mpr q
      rw [e] at h2
      exact absurd this (Int32.not_lt.mpr h2)
    · exact q
theorem FR.bump {n : Nat} (h : FR b z A μ) : FR b z A (bump μ n) := h
theorem HR.bump {n : Nat} (h : HR b z A m G ar s μ) : HR b z A m G ar s (bump μ n) := h
theorem bump_ck {n : Nat} : CK 1 n μ (bump μ n) := ⟨fun w a ha => w a (by have h : mN μ + 1 ≤ a := ha; omega), Nat.le_succ _, Nat.le_refl _, Nat.le_refl _, fun _ _ => ⟨rfl, rfl⟩, fun _ _ _ => ⟨rfl, rfl, rfl⟩⟩
/-- what setting gives: which exception, and the new state -/
def kSet (A : Sx) (ok : Bool) : Nat := if ok = false then 1 else if aS A 0 = 0 then 0 else 2
theorem c_setW {x : Int32} (h : FR b z A μ) (hh : HR b z A (fun _ => 0) G ar s μ) (h0 : aS A 0 ≤ 500) : ∃ (k : Nat) (A' : Sx) (μ' : Mm), k = kSet A (!decide (x < 1) && decide (x ≤ 4)) ∧ A' = (if k = 0 then zS A 16 x.toNatClampNeg else A) ∧ (k = 0 → ∃ n, 1 ≤ n ∧ n ≤ 4 ∧ x = nI n ∧ x.toNatClampNeg = n) ∧ f_X10_setWidth b x μ = some (oc k (nI (aS A 16)), μ') ∧ FR b z A' μ' ∧ HR b z A' (fun _ => 0) G ar s μ' ∧ CK 1 6 μ μ' := by
  have k0 := h.1
  unfold SC at k0
  have i12 : mI μ (b + 1) 12 = nI (aS A 0) := h.2.1.1 0 rfl
  have i30 : mI μ (b + 3) 0 = nI (aS A 16) := h.2.1.1 16 rfl
  by_cases x1 : x < 1
  · refine ⟨1, A, bump μ 6, ?_, rfl, fun y => (by cases y), ?_, h.bump, hh.bump, bump_ck⟩
    · rw [decide_eq_true x1]; rfl
    · simp only [f_X10_setWidth, f_X10_setWidth_b10, x1, if_true] <;> rfl
  · by_cases x4 : x ≤ 4
    · rw [decide_eq_false x1, decide_eq_true x4]
      by_cases a0 : aS A 0 = 0
      · have c0 : nI (aS A 0) ≤ 0 := by rw [a0]; decide
        obtain ⟨n, n1, n4, e⟩ := i32r (lo := 1) (hi := 4) (by omega) (by omega) x1 x4
        have en : x.toNatClampNeg = n := by rw [e]; exact clN (by omega)
        obtain ⟨F, H, c, -⟩ := c_put (i := 16) (n := n) h hh rfl (by decide) rfl
        rw [show sI μ (b + 3) 0 (nI n) = sI μ (b + 3) 0 x from by rw [e]] at F H c
        refine ⟨0, zS A 16 n, sI μ (b + 3) 0 x, ?_, by rw [if_pos rfl, en], fun _ => ⟨n, n1, n4, e, en⟩, ?_, F, H, c.mono (by omega) (by omega)⟩
        · unfold kSet; rw [if_neg (by decide), if_pos a0]
        · simp only [f_X10_setWidth, x1, x4, if_true, if_false, k0, ckT, bdS, i12, c0, i30, zlS] <;> rfl
      · have c0 : ¬ nI (aS A 0) ≤ 0 := nI_nle (by omega) (by omega)
        refine ⟨2, A, bump μ 6, ?_, rfl, fun y => (by cases y), ?_, h.bump, hh.bump, bump_ck⟩
        · unfold kSet; rw [if_neg (by decide), if_neg a0]
        · simp only [f_X10_setWidth, x1, x4, if_true, if_false, k0, ckT, bdS, i12, c0] <;> rfl
    · refine ⟨1, A, bump μ 6, ?_, rfl, fun y => (by cases y), ?_, h.bump, hh.bump, bump_ck⟩
      · rw [decide_eq_false x4, Bool.and_false]; rfl
      · simp only [f_X10_setWidth, f_X10_setWidth_b10, x1, x4, if_false] <;> rfl
theorem c_setB {x : Int32} (h : FR b z A μ) (hh : HR b z A (fun _ => 0) G ar s μ) (h0 : aS A 0 ≤ 500) : ∃ (k : Nat) (A' : Sx) (μ' : Mm), k = kSet A (!decide (x < 4) && decide (x ≤ 16)) ∧ A' = (if k = 0 then zS A 17 x.toNatClampNeg else A) ∧ (k = 0 → ∃ n, 4 ≤ n ∧ n ≤ 16 ∧ x = nI n ∧ x.toNatClampNeg = n) ∧ f_X10_setBuffer b x μ = some (oc k (nI (aS A 17)), μ') ∧ FR b z A' μ' ∧ HR b z A' (fun _ => 0) G ar s μ' ∧ CK 1 6 μ μ' := by
  have k0 := h.1
  unfold SC at k0
  have i12 : mI μ (b + 1) 12 = nI (aS A 0) := h.2.1.1 0 rfl
  have i30 : mI μ (b + 3) 1 = nI (aS A 17) := h.2.1.1 17 rfl
  by_cases x1 : x < 4
  · refine ⟨1, A, bump μ 6, ?_, rfl, fun y => (by cases y), ?_, h.bump, hh.bump, bump_ck⟩
    · rw [decide_eq_true x1]; rfl
    · simp only [f_X10_setBuffer, f_X10_setBuffer_b11, x1, if_true] <;> rfl
  · by_cases x4 : x ≤ 16
    · rw [decide_eq_false x1, decide_eq_true x4]
      by_cases a0 : aS A 0 = 0
      · have c0 : nI (aS A 0) ≤ 0 := by rw [a0]; decide
        obtain ⟨n, n1, n4, e⟩ := i32r (lo := 4) (hi := 16) (by omega) (by omega) x1 x4
        have en : x.toNatClampNeg = n := by rw [e]; exact clN (by omega)
        obtain ⟨F, H, c, -⟩ := c_put (i := 17) (n := n) h hh rfl (by decide) rfl
        rw [show sI μ (b + 3) 1 (nI n) = sI μ (b + 3) 1 x from by rw [e]] at F H c
        refine ⟨0, zS A 17 n, sI μ (b + 3) 1 x, ?_, by rw [if_pos rfl, en], fun _ => ⟨n, n1, n4, e, en⟩, ?_, F, H, c.mono (by omega) (by omega)⟩
        · unfold kSet; rw [if_neg (by decide), if_pos a0]
        · simp only [f_X10_setBuffer, x1, x4, if_true, if_false, k0, ckT, bdS, i12, c0, i30, zlS] <;> rfl
      · have c0 : ¬ nI (aS A 0) ≤ 0 := nI_nle (by omega) (by omega)
        refine ⟨2, A, bump μ 6, ?_, rfl, fun y => (by cases y), ?_, h.bump, hh.bump, bump_ck⟩
        · unfold kSet; rw [if_neg (by decide), if_neg a0]
        · simp only [f_X10_setBuffer, x1, x4, if_true, if_false, k0, ckT, bdS, i12, c0] <;> rfl
    · refine ⟨1, A, bump μ 6, ?_, rfl, fun y => (by cases y), ?_, h.bump, hh.bump, bump_ck⟩
      · rw [decide_eq_false x4, Bool.and_false]; rfl
      · simp only [f_X10_setBuffer, f_X10_setBuffer_b11, x1, x4, if_false] <;> rfl
theorem c_interrupt (h : FR b z A μ) (hh : HR b z A (fun _ => 0) G ar s μ) (h2 : aS A 2 ≤ 1) : ∃ μ', f_X10_interrupt b μ = some (nI (aS A 2), μ') ∧ FR b z (zS A 2 1) μ' ∧ HR b z (zS A 2 1) (fun _ => 0) G ar s μ' ∧ CK 0 0 μ μ' := by
  have k0 := h.1
  unfold SC at k0
  have i14 : mI μ (b + 1) 14 = nI (aS A 2) := h.2.1.1 2 rfl
  obtain ⟨F, H, c, -⟩ := c_put (i := 2) (n := 1) h hh rfl (by decide) rfl
  have e : zb (nI (aS A 2)) = nI (aS A 2) := by
    have : aS A 2 = 0 ∨ aS A 2 = 1 := by omega
    rcases this with y | y <;> rw [y] <;> rfl
  refine ⟨sI μ (b + 1) 14 (nI 1), ?_, F, H, c⟩
  simp only [f_X10_interrupt, k0, ckT, bdS, i14, e, zlS]
  rfl
end CAP
