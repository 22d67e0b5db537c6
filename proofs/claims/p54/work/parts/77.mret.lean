/-! the model: the oldest one retires -/
section MRE
variable {b : Nat} {A B C A' : Sx} {ρ : Nat → Nat} {μ μ' μ2 : Mm} {S : Nat → Nat → Bool}
theorem settle_no {x : Ent} (h : hasD (eC C x) = false) : settle C x = C := by
  unfold settle
  rw [h]
  rfl
theorem learn_no {x : Ent} (h : isQn (eC C x) = false) (h2 : eC C x ≠ 17) : learn C x = C := by
  unfold learn
  rw [h, if_neg Bool.false_ne_true, if_neg h2]
theorem finR_no {x : Ent} (h : isSt (eC C x) = false) (h2 : eC C x ≠ 18) (h3 : eC C x ≠ 21) : finR C x = C := by
  unfold finR
  rw [h, if_neg Bool.false_ne_true, if_neg h2, if_neg h3]
theorem tell_shift (A : Sx) (x : Ent) : shiftB (tellE A x 0) = tellE (shiftB A) x 0 := by
  refine Prod.ext (funext fun i => ?_) rfl
  show up1 (up1 A.1 14 (aS A 14 + 1)) 9 (aS (tellE A x 0) 9 - 1) i = up1 (up1 A.1 9 (aS A 9 - 1)) 14 (aS (shiftB A) 14 + 1) i
  rw [(tellE_f A x 0).1 9 (by decide), show aS (shiftB A) 14 = aS A 14 from zS_ne _ _ (by decide)]
  simp only [up1_if]
  by_cases h : i = 9
  · subst h; rfl
  · simp only [if_neg h]
theorem m_max3 : ∀ v, v < 4 → f_J9_max_7cf53 0 (nI v - 1) = some (nI (v - 1)) := by decide +kernel
theorem m_min3 : ∀ v, v < 4 → f_J9_min_7cf53 3 (nI v + 1) = some (nI (min 3 (v + 1))) := by decide +kernel
end MRE
