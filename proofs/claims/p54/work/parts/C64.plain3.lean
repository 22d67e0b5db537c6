/-! the model: its plain machine from the beginning -/
section MPE
variable {b N : Nat} {A A' : Sx} {P : Pm} {ρ : Nat → Nat} {μ μ' μ2 : Mm} {S : Nat → Nat → Bool}
theorem plA_1 : ∀ e, (plA A e).2.2 1 ≤ 1
  | 0 => Nat.zero_le _
  | e + 1 => by
    have ih := plA_1 e
    show (plN A (plA A e) (aN A 14 e)).2.2 1 ≤ 1
    unfold plN
    split
    · exact Nat.le_refl 1
    · split
      · exact ih
      · split
        · split
          · exact Nat.le_refl 1
          · exact ih
        · unfold plD
          dsimp only
          split
          · exact Nat.zero_le 1
          · exact ih
/-- the plain machine's cells and its row change -/
def PF (b N : Nat) (μ μ' : Mm) : Prop := mK μ' = mK μ ∧ mL μ' = mL μ ∧ mR μ' = mR μ ∧ mJ μ' = mJ μ ∧ mN μ' = mN μ ∧ mS μ' = mS μ ∧ ∀ a k, a ≠ N → (∀ o, a = b + o → sPm o k = false) → mI μ' a k = mI μ a k
theorem PF.refl0 : PF b N μ μ := ⟨rfl, rfl, rfl, rfl, rfl, rfl, fun _ _ _ _ => rfl⟩
theorem PF.trans (h : PF b N μ μ') (g : PF b N μ' μ2) : PF b N μ μ2 := by
  obtain ⟨h1, h2, h3, h4, h5, h6, h7⟩ := h
  obtain ⟨g1, g2, g3, g4, g5, g6, g7⟩ := g
  exact ⟨g1.trans h1, g2.trans h2, g3.trans h3, g4.trans h4, g5.trans h5, g6.trans h6, fun a k x y => (g7 a k x y).trans (h7 a k x y)⟩
theorem CH.pf (g : CH b sPm μ μ') : PF b N μ μ' := ⟨g.1, g.2.1, g.2.2.1, g.2.2.2.1, g.2.2.2.2.1, g.2.2.2.2.2.1, fun a k _ y => g.2.2.2.2.2.2 a k y⟩
theorem PF.its {k : Nat} {v : Int32} : PF b N μ (sI μ N k v) := ⟨rfl, rfl, rfl, rfl, rfl, rfl, fun _ _ x _ => by rw [mI_row _ _ x]⟩
theorem QPm.its {k : Nat} {v : Int32} (h : QPm b P μ) (hN : b + 86 ≤ N) : QPm b P (sI μ N k v) := by
  unfold QPm at h ⊢
  rw [mI_row _ _ (show b + 82 ≠ N by omega), mI_row _ _ (show b + 83 ≠ N by omega), mI_row _ _ (show b + 30 ≠ N by omega)]
  exact h
end MPE
