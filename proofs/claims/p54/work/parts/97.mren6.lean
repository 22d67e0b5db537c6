/-! the model: renaming, a row is filled -/
section MR6
variable {b : Nat} {A B : Sx} {ρ : Nat → Nat} {μ μ' : Mm} {S : Nat → Nat → Bool}
theorem RT.row3 {f : Nat → Nat} (h : RT mT b B μ) (g : CH b (sRow 44) μ μ') (hv : ∀ k, k < 24 → mI μ' (b + 44) k = nI (f k)) : RT mT b (zNr B 3 f) μ' := by
  refine ⟨fun i hi => ?_, fun r k hr hk => ?_, fun r k hr hk => ?_⟩
  · have b1 : ∀ i, i < 25 → scI i = true → (mT.1 i).1 ≠ 44 := by decide +kernel
    rw [g.row2 (b1 i (scI_lt hi) hi)]
    exact h.1 i hi
  · by_cases e : r = 3
    · subst e
      show mI μ' (b + 44) k = nI (up1 (aN B) 3 f 3 k)
      rw [up1_eq]
      exact hv k hk
    · have b2 : ∀ i, i < 8 → i ≠ 3 → mT.2.1 i ≠ 44 := by decide +kernel
      rw [g.row2 (b2 r hr e)]
      show _ = nI (up1 (aN B) 3 f r k)
      rw [up1_ne _ _ e]
      exact h.2.1 r k hr hk
  · have b3 : ∀ i, i < 5 → (mT.2.2 i).1 ≠ 44 := by decide +kernel
    rw [g.row2 (b3 r hr)]
    exact h.2.2 r k hr hk
theorem RT.rowR {r : Nat} (h : RT mT b B μ) (g : CH b (sRow r) μ μ') (hr : 46 ≤ r ∧ r < 71) : RT mT b B μ' := h.ch g (fun o k z => by
  have := sRow_e z
  omega)
theorem RLm.to28 {x : Ent} {f f' : Nat → Int32} (h : RLm A x f) (hf : ∀ k, k < 28 → f' k = f k) (ht : x.2.2.length ≤ 4) : RLm A x f' := by
  obtain ⟨h0, h1, h5, h17, h23, h18⟩ := h
  refine ⟨(hf 0 (by omega)).trans h0, (hf 1 (by omega)).trans h1, (hf 5 (by omega)).trans h5, (hf 17 (by omega)).trans h17, ⟨(hf 23 (by omega)).trans h23.1, fun i hi => (hf _ (by omega)).trans (h23.2 i hi)⟩, fun a c => ⟨(hf 18 (by omega)).trans (h18 a c).1, fun i hi => (hf _ (by omega)).trans ((h18 a c).2 i hi)⟩⟩
/-- the first numbers of a renamed row -/
def rnF (F : Nat → Int32) (cyc va vb g t : Int32) : Nat → Int32 := up1 (up1 (up1 (up1 (up1 (up1 (up1 F 2 cyc) 7 va) 8 vb) 16 (-1)) 14 (-1)) 6 g) 13 t
/-- what renaming changes behind the line's shift -/
def sRm (r o k : Nat) : Bool := decide ((o = 30 ∧ k ≠ 26 ∧ k ≠ 35 ∧ k ≠ 54) ∨ (38 ≤ o ∧ o ≤ 44) ∨ o = r)
end MR6
