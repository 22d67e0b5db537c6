/-! the model: the endings of a cycle -/
section MEN6
variable {b : Nat} {A B A' : Sx} {ρ : Nat → Nat} {μ μ' : Mm} {S : Nat → Nat → Bool}
theorem endCt_f {k : Nat} (hk : k < aS A 9) : aB (endCt A k) = aB A ∧ SamP A (endCt A k) := by
  unfold endCt
  dsimp only
  split
  · have h9 : aS (zS A 19 (aS A 19 + 1)) 9 = aS A 9 := zS_ne _ _ (by decide)
    obtain ⟨t1, t2, t3, t4, t5, t6, -⟩ := throwF_f (zS A 19 (aS A 19 + 1)) (n := k + 1) (by rw [h9]; omega)
    exact ⟨by show aB (throwF _ _) = _; rw [t6]; rfl, ⟨fun r h1 h2 => by show aN (throwF _ _) r = _; rw [t4 r (by omega) (by omega)]; rfl, by show aV (throwF _ _) 5 = _; rw [t5]; rfl⟩⟩
  · exact ⟨rfl, SamP.refl0⟩
theorem endSt_no {k : Nat} (h : isSt (eC A (aB A k)) = false) : endSt A k = A := by
  unfold endSt
  dsimp only
  rw [h]
  simp
theorem endCt_no {k : Nat} (h : isCt (eC A (aB A k)) = false) : endCt A k = A := by
  unfold endCt
  dsimp only
  rw [h]
  simp
theorem isQd_c {c : Nat} (h : isQd c = true) (hd : hasD c = false) : isSt c = true ∧ isCt c = false ∨ isCt c = true ∧ isSt c = false := by
  unfold isQd at h
  unfold hasD at hd
  simp only [Bool.or_eq_true, Bool.and_eq_true, decide_eq_true_eq] at h
  simp only [Bool.or_eq_false_iff, Bool.and_eq_false_iff, decide_eq_false_iff_not] at hd
  have : c = 10 ∨ c = 11 ∨ c = 12 ∨ c = 13 ∨ c = 16 ∨ c = 17 := by omega
  rcases this with rfl | rfl | rfl | rfl | rfl | rfl <;> decide
theorem DY.s {x : Ent} (h : DY A x) : x.1 10 < 1000 := by
  have := h.1
  omega
/-- a value comes over the bus -/
def sBus (r o _ : Nat) : Bool := o == r || (o == 42 || o == 43)
theorem sBus_e {r o k : Nat} (h : sBus r o k = true) : o = r ∨ o = 42 ∨ o = 43 := by
  unfold sBus at h
  simpa using h
end MEN6
