/-! the model's small functions -/
theorem ckA {α : Type} (x : Option α) : (ck (isA 1 11) x = x) ∧ (ck (isA 2 12) x = x) ∧ (ck (isA 5 15) x = x) ∧ (ck (isA 1 21) x = x) ∧ (ck (isA 2 22) x = x) ∧ (ck (isA 6 26) x = x) ∧ (ck (isA 1 41) x = x) ∧ (ck (isA 1 51) x = x) ∧ (ck (isA 1 71) x = x) ∧ (ck (isA 1 81) x = x) ∧ (ck (isA56 15) x = x) ∧ (ck (isA56 26) x = x) ∧ (ck (isA1256 26) x = x) ∧ (ck (isA1256 11) x = x) ∧ (ck (isA1256 21) x = x) ∧ (ck (isA1256 41) x = x) ∧ (ck (isA1256 81) x = x) ∧ (ck (isO 103) x = x) ∧ (ck (isO 104) x = x) ∧ (ck (isO 107) x = x) := ⟨if_pos (by decide), if_pos (by decide), if_pos (by decide), if_pos (by decide), if_pos (by decide), if_pos (by decide), if_pos (by decide), if_pos (by decide), if_pos (by decide), if_pos (by decide), if_pos (by decide), if_pos (by decide), if_pos (by decide), if_pos (by decide), if_pos (by decide), if_pos (by decide), if_pos (by decide), if_pos (by decide), if_pos (by decide), if_pos (by decide)⟩
theorem tcL : Int32.toNatClampNeg 0 = 0 ∧ Int32.toNatClampNeg 1 = 1 ∧ Int32.toNatClampNeg 2 = 2 ∧ Int32.toNatClampNeg 3 = 3 ∧ Int32.toNatClampNeg 4 = 4 ∧ Int32.toNatClampNeg 5 = 5 ∧ Int32.toNatClampNeg 6 = 6 ∧ Int32.toNatClampNeg 7 = 7 ∧ Int32.toNatClampNeg 8 = 8 ∧ Int32.toNatClampNeg 9 = 9 ∧ Int32.toNatClampNeg 10 = 10 ∧ Int32.toNatClampNeg 11 = 11 ∧ Int32.toNatClampNeg 12 = 12 ∧ Int32.toNatClampNeg 13 = 13 ∧ Int32.toNatClampNeg 14 = 14 ∧ Int32.toNatClampNeg 15 = 15 ∧ Int32.toNatClampNeg 16 = 16 ∧ Int32.toNatClampNeg 17 = 17 := by decide
theorem ckI {α : Type} (x : Option α) : (ck (inb 0 28) x = x) ∧ (ck (inb 1 28) x = x) ∧ (ck (inb 2 28) x = x) ∧ (ck (inb 3 28) x = x) ∧ (ck (inb 4 28) x = x) ∧ (ck (inb 5 28) x = x) ∧ (ck (inb 6 28) x = x) ∧ (ck (inb 7 28) x = x) ∧ (ck (inb 8 28) x = x) ∧ (ck (inb 9 28) x = x) ∧ (ck (inb 10 28) x = x) ∧ (ck (inb 11 28) x = x) ∧ (ck (inb 12 28) x = x) ∧ (ck (inb 13 28) x = x) ∧ (ck (inb 14 28) x = x) ∧ (ck (inb 15 28) x = x) ∧ (ck (inb 16 28) x = x) ∧ (ck (inb 17 28) x = x) ∧ (ck (inb 0 5) x = x) ∧ (ck (inb 1 5) x = x) ∧ (ck (inb 2 5) x = x) ∧ (ck (inb 3 5) x = x) ∧ (ck (inb 4 5) x = x) ∧ (ck (inb 0 24) x = x) ∧ (ck (inb 0 4) x = x) ∧ (ck (inb 1 4) x = x) ∧ (ck (inb 2 4) x = x) ∧ (ck (inb 3 4) x = x) ∧ (ck (inb 0 2) x = x) ∧ (ck (inb 1 2) x = x) := ⟨if_pos (by decide), if_pos (by decide), if_pos (by decide), if_pos (by decide), if_pos (by decide), if_pos (by decide), if_pos (by decide), if_pos (by decide), if_pos (by decide), if_pos (by decide), if_pos (by decide), if_pos (by decide), if_pos (by decide), if_pos (by decide), if_pos (by decide), if_pos (by decide), if_pos (by decide), if_pos (by decide), if_pos (by decide), if_pos (by decide), if_pos (by decide), if_pos (by decide), if_pos (by decide), if_pos (by decide), if_pos (by decide), if_pos (by decide), if_pos (by decide), if_pos (by decide), if_pos (by decide), if_pos (by decide)⟩
theorem inbN {p n : Nat} (h : p < n) (hn : p < 100000) : inb (nI p) n := ⟨nI_pos' (by omega), by rw [nI_clamp (by omega)]; exact h⟩
theorem clN {p : Nat} (h : p < 100000) : (nI p).toNatClampNeg = p := nI_clamp (by omega)
/-- a boolean as an int -/
def bI (p : Bool) : Int32 := if p then 1 else 0
theorem bI_0 (p : Bool) : (bI p = 0) = (p = false) := by cases p <;> decide
theorem bI_zb (p : Bool) : zb (bI p) = bI p := by cases p <;> decide
theorem m_hasD : ∀ c, c < 22 → f_X11_hasD (nI c) = some (bI (hasD c)) := by decide +kernel
theorem m_isQ : ∀ c, c < 22 → f_X11_isQueued (nI c) = some (bI (isQd c)) := by decide +kernel
theorem m_isSt : ∀ c, c < 22 → f_X11_isStore (nI c) = some (bI (isSt c)) := by decide +kernel
theorem m_isAl : ∀ c, c < 22 → f_X11_isAlone (nI c) = some (bI (isAl c)) := by decide +kernel
theorem m_in (x l h : Int32) : f_X11_in x l h = some (bI (decide (l ≤ x) && decide (x ≤ h))) := by
  unfold f_X11_in
  by_cases h1 : x < l
  · rw [if_pos h1, decide_eq_false (Int32.not_le.mpr h1)]
    rfl
  · rw [if_neg h1, decide_eq_true (Int32.not_lt.mp h1)]
    by_cases h2 : h < x
    · rw [if_pos h2, decide_eq_false (Int32.not_le.mpr h2)]
      rfl
    · rw [if_neg h2, decide_eq_true (Int32.not_lt.mp h2)]
      rfl
theorem le63 (x : Int32) : decide (x ≤ 63) = decide (x < 64) := by
  have h1 : (63 : Int32).toInt = 63 := by decide
  have h2 : (64 : Int32).toInt = 64 := by decide
  refine decide_eq_decide.mpr ?_
  rw [Int32.le_iff_toInt_le, Int32.lt_iff_toInt_lt, h1, h2]
  omega
theorem m_isAd (x : Int32) : f_X11_isAddress x = some (bI (adok x)) := by
  unfold f_X11_isAddress
  rw [m_in, bdS, ck_t (bI_zb _), le63]
  rfl
section MFUN
variable {b : Nat} {A : Sx} {ρ : Nat → Nat} {μ : Mm}
theorem m_codeOf (S : SM b μ) (P : PM b A μ) (hnp : aS A 15 ≤ 64) {r p : Nat} (hk : mK μ r = 11) (hl : mL μ r = 28) (h0 : mI μ r 0 = nI p) (hp : p < aS A 15) : f_X11_codeOf (b + 30) r μ = some (nI (aN A 10 p)) := by
  have s := S
  unfold SM at s
  have i1 := inbN (n := 64) (show p < 64 by omega) (by omega)
  have i2 := clN (show p < 100000 by omega)
  simp only [f_X11_codeOf, s, hk, hl, h0, ck_t i1, i2, (P p hp).1, ckA, tcL, ckI, ckT, bdS]
end MFUN
