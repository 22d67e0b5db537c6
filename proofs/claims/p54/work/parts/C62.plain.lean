/-! the model: its plain machine -/
section MPL
variable {b : Nat} {A A' : Sx} {P : Pm} {ρ : Nat → Nat} {μ μ' μ2 : Mm} {S : Nat → Nat → Bool}
/-- the model's plain machine in memory; what it kept counts while it handles -/
def QPm (b : Nat) (P : Pm) (μ : Mm) : Prop := (∀ r, r < 8 → mI μ (b + 82) r = P.1 r) ∧ (∀ a, a < 64 → mI μ (b + 83) a = P.2.1 a) ∧ mI μ (b + 30) 57 = nI (P.2.2 0) ∧ mI μ (b + 30) 59 = nI (P.2.2 1) ∧ (P.2.2 1 ≠ 0 → mI μ (b + 30) 58 = nI (P.2.2 2))
def sPm (o k : Nat) : Bool := decide (o = 82 ∨ o = 83 ∨ (o = 30 ∧ 57 ≤ k ∧ k ≤ 60))
theorem QPm.reg {d : Nat} {v : Int32} (h : QPm b P μ) : QPm b (up1 P.1 d v, P.2.1, P.2.2) (sI μ (b + 82) d v) := by
  obtain ⟨h1, h2, h3, h4, h5⟩ := h
  refine ⟨fun r hr => ?_, fun a ha => ?_, ?_, ?_, fun t => ?_⟩
  · rw [mI_up, up1_if]
    show _ = up1 P.1 d v r
    rw [up1_if, h1 r hr]
  · rw [mI_row _ _ (by omega)]; exact h2 a ha
  · rw [mI_row _ _ (by omega)]; exact h3
  · rw [mI_row _ _ (by omega)]; exact h4
  · rw [mI_row _ _ (by omega)]; exact h5 t
theorem QPm.wrd {d : Nat} {v : Int32} (h : QPm b P μ) : QPm b (P.1, up1 P.2.1 d v, P.2.2) (sI μ (b + 83) d v) := by
  obtain ⟨h1, h2, h3, h4, h5⟩ := h
  refine ⟨fun r hr => ?_, fun a ha => ?_, ?_, ?_, fun t => ?_⟩
  · rw [mI_row _ _ (by omega)]; exact h1 r hr
  · rw [mI_up, up1_if]
    show _ = up1 P.2.1 d v a
    rw [up1_if, h2 a ha]
  · rw [mI_row _ _ (by omega)]; exact h3
  · rw [mI_row _ _ (by omega)]; exact h4
  · rw [mI_row _ _ (by omega)]; exact h5 t
theorem QPm.go {g : Nat} {v : Int32} (h : QPm b P μ) (e : v = nI g) : QPm b (P.1, P.2.1, up1 P.2.2 0 g) (sI μ (b + 30) 57 v) := by
  obtain ⟨h1, h2, h3, h4, h5⟩ := h
  refine ⟨fun r hr => ?_, fun a ha => ?_, ?_, ?_, fun t => ?_⟩
  · rw [mI_row _ _ (by omega)]; exact h1 r hr
  · rw [mI_row _ _ (by omega)]; exact h2 a ha
  · rw [mI_at, e]; rfl
  · rw [mI_ne _ _ (Or.inr (by decide))]; exact h4
  · rw [mI_ne _ _ (Or.inr (by decide))]; exact h5 t
theorem QPm.st {v : Int32} (h : QPm b P μ) : QPm b P (sI μ (b + 30) 60 v) := by
  obtain ⟨h1, h2, h3, h4, h5⟩ := h
  refine ⟨fun r hr => ?_, fun a ha => ?_, ?_, ?_, fun t => ?_⟩
  · rw [mI_row _ _ (by omega)]; exact h1 r hr
  · rw [mI_row _ _ (by omega)]; exact h2 a ha
  · rw [mI_ne _ _ (Or.inr (by decide))]; exact h3
  · rw [mI_ne _ _ (Or.inr (by decide))]; exact h4
  · rw [mI_ne _ _ (Or.inr (by decide))]; exact h5 t
/-- a trap, an interrupt: kept, handling, the place -/
theorem QPm.trap {kp : Nat} {v w : Int32} {g : Nat} (h : QPm b P μ) (e : v = nI kp) (e2 : w = nI g) : QPm b (P.1, P.2.1, up1 (up1 (up1 P.2.2 2 kp) 1 1) 0 g) (sI (sI (sI μ (b + 30) 58 v) (b + 30) 59 1) (b + 30) 57 w) := by
  obtain ⟨h1, h2, h3, h4, h5⟩ := h
  refine ⟨fun r hr => ?_, fun a ha => ?_, ?_, ?_, fun t => ?_⟩
  · rw [mI_row _ _ (by omega), mI_row _ _ (by omega), mI_row _ _ (by omega)]; exact h1 r hr
  · rw [mI_row _ _ (by omega), mI_row _ _ (by omega), mI_row _ _ (by omega)]; exact h2 a ha
  · rw [mI_at, e2]; rfl
  · rw [mI_ne _ _ (Or.inr (by decide)), mI_at]; rfl
  · rw [mI_ne _ _ (Or.inr (by decide)), mI_ne _ _ (Or.inr (by decide)), mI_at, e]; rfl
/-- the model stays where only its plain machine changes -/
theorem offP {o k : Nat} (h : sPm o k = true) : offT mT o k = true := by
  have h2 : o = 82 ∨ o = 83 ∨ (o = 30 ∧ 57 ≤ k ∧ k ≤ 60) := of_decide_eq_true h
  rcases h2 with e | e | ⟨e, e2, e3⟩
  · exact offM (by omega) k
  · exact offM (by omega) k
  · subst e
    have : k = 57 ∨ k = 58 ∨ k = 59 ∨ k = 60 := by omega
    rcases this with rfl | rfl | rfl | rfl <;> decide +kernel
theorem CH.pm {o k : Nat} {v : Int32} (h : o = 82 ∨ o = 83 ∨ (o = 30 ∧ 57 ≤ k ∧ k ≤ 60)) : CH b sPm μ (sI μ (b + o) k v) := CH.put (decide_eq_true h)
/-- what the program's row says -/
theorem PM.at {p : Nat} (h : PM b A μ) (cf : CF A) (hp : p < aS A 15) : (aN A 10 p ≤ 21 ∧ aN A 11 p < 8 ∧ aN A 12 p < 8 ∧ aN A 13 p < 8) ∧ mI μ (b + 31) p = nI (aN A 10 p) ∧ mI μ (b + 32) p = nI (aN A 11 p) ∧ mI μ (b + 33) p = nI (aN A 12 p) ∧ mI μ (b + 34) p = nI (aN A 13 p) ∧ mI μ (b + 35) p = aV A 5 p := by
  obtain ⟨c1, c2, c3, c4, -⟩ := cf.2.2.2.2.2.1 p hp
  exact ⟨⟨c1, c2, c3, c4⟩, h p hp⟩
end MPL
