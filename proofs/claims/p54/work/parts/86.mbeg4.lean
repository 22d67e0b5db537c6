/-! the model: a cycle's beginnings -/
section MB4
variable {b : Nat} {A B C A' : Sx} {ρ : Nat → Nat} {μ μ' μ2 : Mm} {S : Nat → Nat → Bool}
theorem put_9 {k : Nat} {y : Ent} (h9 : aS C 9 = aS A 9) (h0 : aS C 0 = aS A 0) (hB : aB C = aB A) (hN : aN C = aN A) (hV : aV C = aV A) (hy : y.1 0 = (aB A k).1 0) : aS (zB C k y) 9 = aS A 9 ∧ (∀ j, j ≠ k → aB (zB C k y) j = aB A j) ∧ (aB (zB C k y) k).1 0 = (aB A k).1 0 ∧ SamP A (zB C k y) ∧ aS (zB C k y) 0 = aS A 0 := by
  refine ⟨h9, fun j hj => ?_, ?_, ⟨fun r _ _ => by show aN C r = _; rw [hN], by show aV C 5 = _; rw [hV]⟩, h0⟩
  · show up1 (aB C) k y j = _
    rw [up1_ne _ _ hj, hB]
  · show (up1 (aB C) k y k).1 0 = _
    rw [up1_eq]
    exact hy
theorem bg1_9 {k : Nat} (h : bg1 A k = some B) : aS B 9 = aS A 9 ∧ (∀ j, j ≠ k → aB B j = aB A j) ∧ (aB B k).1 0 = (aB A k).1 0 ∧ SamP A B ∧ aS B 0 = aS A 0 := by
  have x0 := (cmp_f A (aB A k)).1 0 (by decide) (by decide)
  unfold bg1 at h
  dsimp only at h
  split at h
  · unfold ldB at h
    split at h
    · cases h
    · split at h
      · dsimp only at h
        split at h
        · cases h
        · cases h
          exact put_9 (C := zS A 22 _) (zS_ne _ _ (by decide)) (zS_ne _ _ (by decide)) rfl rfl rfl x0
      · split at h
        · cases h
          exact put_9 (C := zS A 23 _) (zS_ne _ _ (by decide)) (zS_ne _ _ (by decide)) rfl rfl rfl x0
        · split at h
          · cases h
            exact put_9 (C := A) rfl rfl rfl rfl rfl x0
          · split at h
            · cases h
            · cases h
              exact put_9 (C := zS (zQ A _) 24 _) (zS_ne _ _ (by decide)) (zS_ne _ _ (by decide)) rfl rfl rfl x0
  · cases h
    exact put_9 (C := A) rfl rfl rfl rfl rfl x0
/-- what the loop keeps in its counts -/
def UC (A : Sx) (u : Nat → Nat) (c0 c1 c3 : Nat) : Prop := (c0 ≤ 2 ∧ u 0 + c0 = 2) ∧ u 1 + c1 = 1 ∧ u 3 + c3 = 1 ∧ u 2 = (if isDv A (aS A 9) = true then 0 else 1)
theorem UC.none {u : Nat → Nat} {c0 c1 c3 k : Nat} (h : UC A u c0 c1 c3) (h9 : aS B 9 = aS A 9) (hD : isDv B (aS A 9) = isDv A (aS A 9)) : UC B u c0 c1 c3 := by
  unfold UC at h ⊢
  rw [h9, hD]
  exact h
theorem UC.sub {u : Nat → Nat} {c0 c1 c3 d0 d1 d3 i : Nat} (h : UC A u c0 c1 c3) (h9 : aS B 9 = aS A 9) (hi : 0 < u i) (h0 : d0 = if i = 0 then c0 + 1 else c0) (h1 : d1 = if i = 1 then c1 + 1 else c1) (h3 : d3 = if i = 3 then c3 + 1 else c3) (h2 : isDv B (aS A 9) = if i = 2 then true else isDv A (aS A 9)) : UC B (up1 u i (u i - 1)) d0 d1 d3 := by
  obtain ⟨⟨a1, a2⟩, a3, a4, a5⟩ := h
  unfold UC
  rw [h9, h2, h0, h1, h3]
  simp only [up1_if]
  refine ⟨?_, ?_, ?_, ?_⟩
  · by_cases e : i = 0
    · subst e
      simp only [if_true]
      omega
    · rw [if_neg e, if_neg (fun z => e z.symm)]
      exact ⟨a1, a2⟩
  · by_cases e : i = 1
    · subst e
      simp only [if_true]
      omega
    · rw [if_neg e, if_neg (fun z => e z.symm)]
      exact a3
  · by_cases e : i = 3
    · subst e
      simp only [if_true]
      omega
    · rw [if_neg e, if_neg (fun z => e z.symm)]
      exact a4
  · by_cases e : i = 2
    · subst e
      simp only [if_true]
      split at a5 <;> omega
    · rw [if_neg e, if_neg (fun z => e z.symm)]
      exact a5
end MB4
