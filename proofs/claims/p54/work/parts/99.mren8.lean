/-! the model: renaming, step by step -/
section MR8
variable {b : Nat} {A B : Sx} {ρ : Nat → Nat} {μ μ' : Mm} {S : Nat → Nat → Bool}
theorem canRn_e {c : Nat} (h : canRn A c = true) : aS A 9 < aS A 17 ∧ (hasD c = true → aS A 7 ≠ 0) := by
  unfold canRn at h
  simp only [Bool.and_eq_true, decide_eq_true_eq, Bool.not_eq_true', Bool.and_eq_false_iff, decide_eq_false_iff_not] at h
  refine ⟨h.1.1.1, fun hd => ?_⟩
  rcases h.1.1.2 with z | z
  · rw [hd] at z; cases z
  · exact z
theorem rnF_at (F : Nat → Int32) (cyc va vb g t : Int32) : rnF F cyc va vb g t 2 = cyc ∧ rnF F cyc va vb g t 7 = va ∧ rnF F cyc va vb g t 8 = vb ∧ rnF F cyc va vb g t 16 = -1 ∧ rnF F cyc va vb g t 6 = g ∧ rnF F cyc va vb g t 13 = t ∧ ∀ k, k = 0 ∨ k = 1 ∨ k = 5 ∨ k = 17 ∨ 18 ≤ k → rnF F cyc va vb g t k = F k := by
  unfold rnF
  refine ⟨rfl, rfl, rfl, rfl, rfl, rfl, fun k hk => ?_⟩
  simp only [up1_if]
  rw [if_neg (by omega), if_neg (by omega), if_neg (by omega), if_neg (by omega), if_neg (by omega), if_neg (by omega), if_neg (by omega)]
theorem rn1_v (h : eC A (aL A 0) ≠ 15) : aV (rn1 A) = aV A := by
  have ec : eC A (giveA (shiftL A) (aL A 0)).2 = eC A (aL A 0) := by
    unfold eC
    rw [(giveA_f (shiftL A) (aL A 0)).2.2.2.2.2.2.2.1 0 (by decide) (by decide) (by decide) (by decide)]
  unfold rn1
  dsimp only
  rw [ec, if_neg h]
  exact (giveA_f (shiftL A) (aL A 0)).2.2.1
end MR8
