/-! the queue is never over its most -/
section QUE
variable {A B : Sx}
/-- the queue's count keeps to its most -/
def QB (A : Sx) : Prop := cntQ A (aS A 9) ≤ aS A 18
theorem cntQ_mono (A : Sx) : ∀ {m n : Nat}, m ≤ n → cntQ A m ≤ cntQ A n := fun {m n} h => by
  induction n with
  | zero =>
    have : m = 0 := by omega
    rw [this]
    exact Nat.le_refl _
  | succ n ih =>
    rcases Nat.lt_or_ge n m with q | q
    · have : m = n + 1 := by omega
      rw [this]
      exact Nat.le_refl _
    · have := ih q
      show cntQ A m ≤ (if (aB A n).1 10 = 113 then 1 else 0) + cntQ A n
      omega
theorem cntQ_le : ∀ (m : Nat), (∀ j, j < m → (aB B j).1 10 = 113 → (aB A j).1 10 = 113) → cntQ B m ≤ cntQ A m
  | 0, _ => Nat.le_refl _
  | m + 1, h => by
    have ih := cntQ_le m (fun j hj => h j (by omega))
    show (if (aB B m).1 10 = 113 then 1 else 0) + cntQ B m ≤ (if (aB A m).1 10 = 113 then 1 else 0) + cntQ A m
    by_cases e : (aB B m).1 10 = 113
    · rw [if_pos e, if_pos (h m (by omega) e)]
      omega
    · rw [if_neg e]
      omega
theorem cntQ_shift (hB : ∀ j, aB B j = aB A (j + 1)) : ∀ (m : Nat), cntQ B m ≤ cntQ A (m + 1)
  | 0 => Nat.zero_le _
  | m + 1 => by
    have ih := cntQ_shift hB m
    show (if (aB B m).1 10 = 113 then 1 else 0) + cntQ B m ≤ (if (aB A (m + 1)).1 10 = 113 then 1 else 0) + cntQ A (m + 1)
    rw [hB m]
    omega
theorem QB.to (h : QB A) (h9 : aS B 9 ≤ aS A 9) (h18 : aS B 18 = aS A 18) (hB : ∀ j, j < aS B 9 → (aB B j).1 10 = 113 → (aB A j).1 10 = 113) : QB B := by
  unfold QB at h ⊢
  have h1 := cntQ_le (A := A) (B := B) (aS B 9) hB
  have h2 := cntQ_mono A h9
  rw [h18]
  omega
theorem qb_bus1 {k : Nat} (h : QB A) : QB (bus1 A k) := h.to (Nat.le_refl _) rfl (fun j _ hs => by
  have e : aB (bus1 A k) j = if j = k then eN (eN (aB A k) 10 101) 4 (aS A 0) else aB A j := rfl
  rw [e] at hs
  by_cases ej : j = k
  · rw [if_pos ej] at hs
    cases hs
  · rw [if_neg ej] at hs
    exact hs)
theorem qb_ret1 (h : QB A) (h9 : 0 < aS A 9) : QB (ret1 A) := by
  have f := ret1_f A
  have e9 := f.2.2.1
  have e18 := f.1 18 (by decide) (by decide) (by decide) (by decide) (by decide) (by decide) (by decide) (by decide) (by decide)
  have eB := f.2.2.2.2.2.2.2.2.2.2.2.2.2.2.2.2.2.2.2.1
  unfold QB at h ⊢
  have h1 := cntQ_shift (A := A) (B := ret1 A) (fun j => by rw [eB]) (aS (ret1 A) 9)
  rw [e9] at h1 ⊢
  rw [e18]
  rw [show aS A 9 - 1 + 1 = aS A 9 by omega] at h1
  omega
theorem qb_0 (h : aS A 9 = 0) : QB A := by
  unfold QB
  rw [h]
  exact Nat.zero_le _
theorem qb_ft1 (h : QB A) : QB (ft1 A) := by
  have f := ft1_f A
  exact h.to (by rw [f.1 9 (by decide) (by decide) (by decide) (by decide)]; exact Nat.le_refl _) (f.1 18 (by decide) (by decide) (by decide) (by decide)) (fun k _ hs => by rw [f.2.2.2.2.2.2.2.1] at hs; exact hs)
end QUE
