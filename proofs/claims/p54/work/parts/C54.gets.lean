/-! both: what is asked for with a number -/
section GTS
variable {b z : Nat} {m : Nat → Nat} {A A' : Sx} {ρ : Nat → Nat} {G : Nat → Nat → Nat} {ar : Nat → Nat} {s : Nat} {μ μ' : Mm} {x : Int32}
/-- an answer, or an exception, of something that changes nothing -/
def gA (k : Nat) (v : Int32) (E : String) (μ : Mm) : (Int32 ⊕ String) × Mm := if k = 0 then (.inl v, μ) else (.inr E, bump μ 6)
def ix (x : Int32) (n : Nat) : Bool := !decide (x < 0) && decide (x < nI n)
/-- 0 where it is so, else the first exception -/
def k01 (p : Bool) : Nat := if p then 0 else 1
theorem ix_e {n : Nat} (h : ix x n = true) (hn : n < 100000) : ∃ i, i < n ∧ x = nI i ∧ x.toNatClampNeg = i := by
  unfold ix at h
  simp only [Bool.and_eq_true, Bool.not_eq_true', decide_eq_false_iff_not, decide_eq_true_eq] at h
  obtain ⟨h1, h2⟩ := h
  obtain ⟨j, hj, e⟩ := nI_of h1
  have c : x.toNatClampNeg = j := by rw [e]; exact nI_clamp hj
  refine ⟨j, ?_, e, c⟩
  rw [e] at h2
  exact (nI_ltI hj (by omega)).mp h2
theorem le_pred {n : Nat} (hn : n < 100000) : (x ≤ nI n - 1) = (x < nI n) := by
  rw [Int32.le_iff_toInt_le, Int32.lt_iff_toInt_lt]
  rcases n with _ | n
  · have e1 : (nI 0 - 1).toInt = -1 := by decide
    have e2 : (nI 0).toInt = 0 := by decide
    rw [e1, e2]
    exact propext ⟨fun h => by omega, fun h => by omega⟩
  · rw [nI_pred, nI_toInt (by omega), nI_toInt (by omega)]
    exact propext ⟨fun h => by omega, fun h => by omega⟩
theorem rok_ix : rok x = ix x 8 := by
  unfold rok ix
  have e : (7 : Int32) = nI 8 - 1 := by decide
  rw [e]
  simp only [le_pred (show 8 < 100000 by omega)]
theorem c_isEnd (h : FR b z A μ) : f_X10_isEnd b x μ = some (bI (ix x (aS A 14))) := by
  have k0 := h.1
  unfold SC at k0
  have sz := c_size h.k100.2.2.2 h.sz.2.2.2
  unfold f_X10_isEnd ix
  by_cases h1 : x < 0
  · rw [if_pos h1, decide_eq_true h1]
    rfl
  · rw [if_neg h1, decide_eq_false h1]
    simp only [k0, ckT, bdS, sz]
    by_cases h2 : nI (aS A 14) ≤ x
    · rw [if_pos h2, decide_eq_false (Int32.not_lt.mpr h2)]
      rfl
    · rw [if_neg h2, decide_eq_true (Int32.not_le.mp h2)]
      rfl
theorem c_isInner (h : FR b z A μ) : f_X10_isInner b x μ = some (bI (ix x (aS A 8))) := by
  have k0 := h.1
  unfold SC at k0
  have i6 : mI μ (b + 9) 6 = nI (aS A 8) := h.2.1.1 8 rfl
  unfold f_X10_isInner ix
  by_cases h1 : x < 0
  · rw [if_pos h1, decide_eq_true h1]
    rfl
  · rw [if_neg h1, decide_eq_false h1]
    simp only [k0, ckT, bdS, i6]
    by_cases h2 : nI (aS A 8) ≤ x
    · rw [if_pos h2, decide_eq_false (Int32.not_lt.mpr h2)]
      rfl
    · rw [if_neg h2, decide_eq_true (Int32.not_le.mp h2)]
      rfl
/-! ends -/
theorem c_getE {e : Nat} (h : FR b z A μ) (hh : HR b z A m G ar s μ) (he : e < aS A 14) (n14 : aS A 14 < 5000) : f_Jx4a65c_get_915e3 (b + 26) (nI e) μ = some (G 3 e) := by
  have l := hh.1 3 (by decide)
  exact c_get h.k100.2.2.2 h.sz.2.2.2 n14 l.1 l.2.1 (show aS A 14 ≤ _ from l.2.2.1) he (l.2.2.2.2.2 e he)
theorem c_endG (h : FR b z A μ) (hh : HR b z A m G ar s μ) (n14 : aS A 14 < 5000) : f_X10_kindAt b x μ = some (gA (k01 (ix x (aS A 14))) (nI (aN A 14 x.toNatClampNeg)) "java/lang/IndexOutOfBoundsException" μ) ∧ f_X10_placeAt b x μ = some (gA (k01 (ix x (aS A 14))) (nI (aN A 15 x.toNatClampNeg)) "java/lang/IndexOutOfBoundsException" μ) ∧ f_X10_kindByPlain b x μ = some (gA (k01 (ix x (aS A 14))) (nI (aN A 14 x.toNatClampNeg)) "java/lang/IndexOutOfBoundsException" μ) ∧ f_X10_placeByPlain b x μ = some (gA (k01 (ix x (aS A 14))) (nI (aN A 15 x.toNatClampNeg)) "java/lang/IndexOutOfBoundsException" μ) := by
  have k0 := h.1
  unfold SC at k0
  have ie := c_isEnd (x := x) h
  have b0 : bI false = 0 := rfl
  have b1 : ¬ bI true = 0 := by decide
  have nn : ¬ ¬ (0 : Int32) = 0 := fun t => t rfl
  cases hx : ix x (aS A 14)
  · rw [hx] at ie
    refine ⟨?_, ?_, ?_, ?_⟩
    · simp only [f_X10_kindAt, k0, ckT, ie, bdS, b0, nn, if_false]; rfl
    · simp only [f_X10_placeAt, k0, ckT, ie, bdS, b0, nn, if_false]; rfl
    · simp only [f_X10_kindByPlain, k0, ckT, ie, bdS, b0, nn, if_false]; rfl
    · simp only [f_X10_placeByPlain, k0, ckT, ie, bdS, b0, nn, if_false]; rfl
  · rw [hx] at ie
    obtain ⟨e, he, e1, e2⟩ := ix_e hx (by omega)
    have ge := c_getE h hh he n14
    rw [← e1] at ge
    obtain ⟨q1, q2, q3, q4, q5, -⟩ := hh.2.2.2.2.2.2.1 e he
    rw [e2]
    refine ⟨?_, ?_, ?_, ?_⟩
    · simp only [f_X10_kindAt, k0, ckT, ie, bdS, b1, not_false_eq_true, if_true, ge, q1, q2]; rfl
    · simp only [f_X10_placeAt, k0, ckT, ie, bdS, b1, not_false_eq_true, if_true, ge, q1, q3]; rfl
    · simp only [f_X10_kindByPlain, k0, ckT, ie, bdS, b1, not_false_eq_true, if_true, ge, q1, q4]; rfl
    · simp only [f_X10_placeByPlain, k0, ckT, ie, bdS, b1, not_false_eq_true, if_true, ge, q1, q5]; rfl
end GTS
