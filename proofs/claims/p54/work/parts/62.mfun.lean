/-! the model's small functions -/
theorem ckA {α : Type} (x : Option α) : (ck (isA 1 11) x = x) ∧ (ck (isA 2 12) x = x) ∧ (ck (isA 5 15) x = x) ∧ (ck (isA 1 21) x = x) ∧ (ck (isA 2 22) x = x) ∧ (ck (isA 6 26) x = x) ∧ (ck (isA 1 41) x = x) ∧ (ck (isA 1 51) x = x) ∧ (ck (isA 1 71) x = x) ∧ (ck (isA 1 81) x = x) ∧ (ck (isA56 15) x = x) ∧ (ck (isA56 26) x = x) ∧ (ck (isA1256 26) x = x) ∧ (ck (isA1256 11) x = x) ∧ (ck (isA1256 21) x = x) ∧ (ck (isA1256 41) x = x) ∧ (ck (isA1256 81) x = x) ∧ (ck (isO 103) x = x) ∧ (ck (isO 104) x = x) ∧ (ck (isO 107) x = x) := ⟨if_pos (by decide), if_pos (by decide), if_pos (by decide), if_pos (by decide), if_pos (by decide), if_pos (by decide), if_pos (by decide), if_pos (by decide), if_pos (by decide), if_pos (by decide), if_pos (by decide), if_pos (by decide), if_pos (by decide), if_pos (by decide), if_pos (by decide), if_pos (by decide), if_pos (by decide), if_pos (by decide), if_pos (by decide), if_pos (by decide)⟩
theorem tcL : Int32.toNatClampNeg 0 = 0 ∧ Int32.toNatClampNeg 1 = 1 ∧ Int32.toNatClampNeg 2 = 2 ∧ Int32.toNatClampNeg 3 = 3 ∧ Int32.toNatClampNeg 4 = 4 ∧ Int32.toNatClampNeg 5 = 5 ∧ Int32.toNatClampNeg 6 = 6 ∧ Int32.toNatClampNeg 7 = 7 ∧ Int32.toNatClampNeg 8 = 8 ∧ Int32.toNatClampNeg 9 = 9 ∧ Int32.toNatClampNeg 10 = 10 ∧ Int32.toNatClampNeg 11 = 11 ∧ Int32.toNatClampNeg 12 = 12 ∧ Int32.toNatClampNeg 13 = 13 ∧ Int32.toNatClampNeg 14 = 14 ∧ Int32.toNatClampNeg 15 = 15 ∧ Int32.toNatClampNeg 16 = 16 ∧ Int32.toNatClampNeg 17 = 17 := by decide
theorem ckI {α : Type} (x : Option α) : (ck (inb 0 28) x = x) ∧ (ck (inb 1 28) x = x) ∧ (ck (inb 2 28) x = x) ∧ (ck (inb 3 28) x = x) ∧ (ck (inb 4 28) x = x) ∧ (ck (inb 5 28) x = x) ∧ (ck (inb 6 28) x = x) ∧ (ck (inb 7 28) x = x) ∧ (ck (inb 8 28) x = x) ∧ (ck (inb 9 28) x = x) ∧ (ck (inb 10 28) x = x) ∧ (ck (inb 11 28) x = x) ∧ (ck (inb 12 28) x = x) ∧ (ck (inb 13 28) x = x) ∧ (ck (inb 14 28) x = x) ∧ (ck (inb 15 28) x = x) ∧ (ck (inb 16 28) x = x) ∧ (ck (inb 17 28) x = x) ∧ (ck (inb 0 5) x = x) ∧ (ck (inb 1 5) x = x) ∧ (ck (inb 2 5) x = x) ∧ (ck (inb 3 5) x = x) ∧ (ck (inb 4 5) x = x) ∧ (ck (inb 0 24) x = x) ∧ (ck (inb 0 4) x = x) ∧ (ck (inb 1 4) x = x) ∧ (ck (inb 2 4) x = x) ∧ (ck (inb 3 4) x = x) ∧ (ck (inb 0 2) x = x) ∧ (ck (inb 1 2) x = x) := ⟨if_pos (by decide), if_pos (by decide), if_pos (by decide), if_pos (by decide), if_pos (by decide), if_pos (by decide), if_pos (by decide), if_pos (by decide), if_pos (by decide), if_pos (by decide), if_pos (by decide), if_pos (by decide), if_pos (by decide), if_pos (by decide), if_pos (by decide), if_pos (by decide), if_pos (by decide), if_pos (by decide), if_pos (by decide), if_pos (by decide), if_pos (by decide), if_pos (by decide), if_pos (by decide), if_pos (by decide), if_pos (by decide), if_pos (by decide), if_pos (by decide), if_pos (by decide), if_pos (by decide), if_pos (by decide)⟩
theorem inbN {p n : Nat} (h : p < n) (hn : p < 100000) : inb (nI p) n := ⟨nI_pos' (by omega), by rw [nI_clamp (by omega)]; exact h⟩
theorem clN {p : Nat} (h : p < 100000) : (nI p).toNatClampNeg = p := nI_clamp (by omega)
/-- a boolean as an int -/
def bI (p : Bool) : Int32 := if p then 1 else 0
theorem bI_0 (p : Bool) : (bI p = 0) = (p = false) := by cases p <;> decide
theorem bI_zb (p : Bool) : zb (bI p) = bI p := by cases p <;> decide
theorem le63 (x : Int32) : decide (x ≤ 63) = decide (x < 64) := by
  have h1 : (63 : Int32).toInt = 63 := by decide
  have h2 : (64 : Int32).toInt = 64 := by decide
  refine decide_eq_decide.mpr ?_
  rw [Int32.le_iff_toInt_le, Int32.lt_iff_toInt_lt, h1, h2]
  omega
section MFUN
variable {b : Nat} {A : Sx} {ρ : Nat → Nat} {μ : Mm}
end MFUN
