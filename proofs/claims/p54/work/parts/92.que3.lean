/-! the queue is never over its most: beginnings, renaming -/
section QU3
variable {A B C : Sx}
theorem st_put {k : Nat} {y : Ent} (hy : y.1 10 ≠ 113) : (aB (zB C k y) k).1 10 ≠ 113 := by
  have e : aB (zB C k y) k = y := up1_eq _ _ _
  rw [e]
  exact hy
theorem bg1_st {k : Nat} (h : bg1 A k = some B) : (aB B k).1 10 ≠ 113 := by
  unfold bg1 at h
  dsimp only at h
  split at h
  · unfold ldB at h
    split at h
    · cases h
    · split at h
      · dsimp only at h
        split at h
        · cases h
        · cases h
          exact st_put (by rw [(bgW_f _ _ _).2.1]; decide)
      · split at h
        · cases h
          exact st_put (by rw [(bgW_f _ _ _).2.1]; decide)
        · split at h
          · cases h
            exact st_put (fun z => by cases z)
          · split at h
            · cases h
            · cases h
              exact st_put (fun z => by cases z)
  · cases h
    exact st_put (by rw [(bgW_f _ _ _).2.1]; decide)
theorem qb_bg1 {k : Nat} (h : QB A) (e : bg1 A k = some B) : QB B := by
  obtain ⟨b9, bB, -⟩ := bg1_9 e
  have hk := bg1_st e
  refine h.to (by rw [b9]; exact Nat.le_refl _) (kp_bg1 e 18 rfl) (fun j _ hs => ?_)
  by_cases ej : j = k
  · rw [ej] at hs
    exact absurd hs hk
  · rw [bB j ej] at hs
    exact hs
theorem qb_rn1 (h : QB A) (hc : canRn A (eC A (aL A 0)) = true) : QB (rn1 A) := by
  have f := rn1_f A
  have e9 := f.2.1
  have eB := f.2.2.2.2.2.1
  have e18 := f.1 18 (by decide) (by decide) (by decide)
  unfold QB at h ⊢
  rw [e9, e18]
  have h1 : cntQ (rn1 A) (aS A 9) ≤ cntQ A (aS A 9) := cntQ_le _ (fun j hj hs => by
    rw [eB, up1_ne _ _ (by omega)] at hs
    exact hs)
  show (if (aB (rn1 A) (aS A 9)).1 10 = 113 then 1 else 0) + cntQ (rn1 A) (aS A 9) ≤ _
  cases hq : isQd (eC A (aL A 0)) with
  | true =>
    unfold canRn at hc
    rw [hq] at hc
    simp only [Bool.and_eq_true, Bool.not_eq_true', Bool.true_and, decide_eq_false_iff_not] at hc
    have := hc.1.2
    split <;> omega
  | false =>
    have e : (aB (rn1 A) (aS A 9)).1 10 ≠ 113 := by
      rw [eB, up1_eq]
      unfold rnE
      dsimp only
      have ec : eC A (giveA (shiftL A) (aL A 0)).2 = eC A (aL A 0) := by
        unfold giveA
        dsimp only
        split <;> rfl
      rw [ec, hq, if_neg Bool.false_ne_true]
      exact fun z => by cases z
    rw [if_neg e]
    omega
end QU3
