/-! both: what is asked for with a number -/
section GTS
variable {b z : Nat} {m : Nat → Nat} {A A' : Sx} {ρ : Nat → Nat} {G : Nat → Nat → Nat} {ar : Nat → Nat} {s : Nat} {μ μ' : Mm} {x : Int32}
/-- an answer, or an exception, of something that changes nothing -/
def gA (k : Nat) (v : Int32) (E : String) (μ : Mm) : (Int32 ⊕ String) × Mm := if k = 0 then (.inl v, μ) else (.inr E, bump μ 6)
def ix (x : Int32) (n : Nat) : Bool := !decide (x < 0) && decide (x < nI n)
/-- 0 where it is so, else the first exception -/
def k01 (p : Bool) : Nat := if p then 0 else 1
theorem ix_e {n : Nat} (h : ix x n = true) (hn : n < 100000) : ∃ i, i < n ∧ x = nI i ∧ x.toNatClampNeg = i := by
  unfold ix at h
  simp only [Bool.and_eq_true, Bool.not_eq_true', decide_eq_false_iff_not, decide_eq_true_eq] at h
  obtain ⟨h1, h2⟩ := h
  obtain ⟨j, hj, e⟩ := nI_of h1
  have c : x.toNatClampNeg = j := by rw [e]; exact nI_clamp hj
  refine ⟨j, ?_, e, c⟩
  rw [e] at h2
  exact (nI_ltI hj (by omega)).mp h2
theorem le_pred {n : Nat} (hn : n < 100000) : (x ≤ nI n - 1) = (x < nI n) := by
  rw [Int32.le_iff_toInt_le, Int32.lt_iff_toInt_lt]
  rcases n with _ | n
  · have e1 : (nI 0 - 1).toInt = -1 := by decide
    have e2 : (nI 0).toInt = 0 := by decide
    rw [e1, e2]
    exact propext ⟨fun h => by omega, fun h => by omega⟩
  · rw [nI_pred, nI_toInt (by omega), nI_toInt (by omega)]
    exact propext ⟨fun h => by omega, fun h => by omega⟩
theorem m_ix {n : Nat} (hn : n < 100000) : f_X11_in x 0 (nI n - 1) = some (bI (ix x n)) := by
  rw [m_inR]
  unfold ix
  simp only [le_pred hn]
theorem rok_ix : rok x = ix x 8 := by
  unfold rok ix
  have e : (7 : Int32) = nI 8 - 1 := by decide
  rw [e]
  simp only [le_pred (show 8 < 100000 by omega)]
theorem c_isEnd (h : FR b z A μ) : f_X10_isEnd b x μ = some (bI (ix x (aS A 14))) := by
  have k0 := h.1
  unfold SC at k0
  have sz := c_size h.k100.2.2.2 h.sz.2.2.2
  unfold f_X10_isEnd ix
  by_cases h1 : x < 0
  · rw [if_pos h1, decide_eq_true h1]
    rfl
  · rw [if_neg h1, decide_eq_false h1]
    simp only [k0, ckT, bdS, sz]
    by_cases h2 : nI (aS A 14) ≤ x
    · rw [if_pos h2, decide_eq_false (Int32.not_lt.mpr h2)]
      rfl
    · rw [if_neg h2, decide_eq_true (Int32.not_le.mp h2)]
      rfl
theorem c_isInner (h : FR b z A μ) : f_X10_isInner b x μ = some (bI (ix x (aS A 8))) := by
  have k0 := h.1
  unfold SC at k0
  have i6 : mI μ (b + 9) 6 = nI (aS A 8) := h.2.1.1 8 rfl
  unfold f_X10_isInner ix
  by_cases h1 : x < 0
  · rw [if_pos h1, decide_eq_true h1]
    rfl
  · rw [if_neg h1, decide_eq_false h1]
    simp only [k0, ckT, bdS, i6]
    by_cases h2 : nI (aS A 8) ≤ x
    · rw [if_pos h2, decide_eq_false (Int32.not_lt.mpr h2)]
      rfl
    · rw [if_neg h2, decide_eq_true (Int32.not_le.mp h2)]
      rfl
theorem m_noEnd (h : RM b A ρ μ) (n14 : aS A 14 < 5000) : f_X11_noEnd (b + 30) x μ = some (bI (!ix x (aS A 14)), sI μ (b + 30) 54 (nI (k01 (ix x (aS A 14))))) := by
  have k0 := h.1.1
  have i46 : mI μ (b + 30) 46 = nI (aS A 14) := h.2.1.1 14 rfl
  have ir := m_ix (x := x) (n := aS A 14) (by omega)
  have b0 : bI false = 0 := rfl
  have b1 : ¬ bI true = 0 := by decide
  have c10 : ¬ (1 : Int32) ≤ 0 := by decide
  have c00 : (0 : Int32) ≤ 0 := by decide
  cases hx : ix x (aS A 14)
  · rw [hx] at ir
    simp only [f_X11_noEnd, f_X11_noEnd_b20, k0, ckT, i46, ir, bdS, b0, if_true, zlS, mK_sI, mI_at, c10, if_false]
    rfl
  · rw [hx] at ir
    simp only [f_X11_noEnd, f_X11_noEnd_b20, k0, ckT, i46, ir, bdS, b1, if_true, zlS, mK_sI, mI_at, c00, if_false]
    rfl
theorem m_noInner (h : RM b A ρ μ) (n8 : aS A 8 < 5000) : f_X11_noInner (b + 30) x μ = some (bI (!ix x (aS A 8)), sI μ (b + 30) 54 (nI (k01 (ix x (aS A 8))))) := by
  have k0 := h.1.1
  have i9 : mI μ (b + 30) 9 = nI (aS A 8) := h.2.1.1 8 rfl
  have ir := m_ix (x := x) (n := aS A 8) (by omega)
  have b0 : bI false = 0 := rfl
  have b1 : ¬ bI true = 0 := by decide
  have c10 : ¬ (1 : Int32) ≤ 0 := by decide
  have c00 : (0 : Int32) ≤ 0 := by decide
  cases hx : ix x (aS A 8)
  · rw [hx] at ir
    simp only [f_X11_noInner, f_X11_noInner_b20, k0, ckT, i9, ir, bdS, b0, if_true, zlS, mK_sI, mI_at, c10, if_false]
    rfl
  · rw [hx] at ir
    simp only [f_X11_noInner, f_X11_noInner_b20, k0, ckT, i9, ir, bdS, b1, if_true, zlS, mK_sI, mI_at, c00, if_false]
    rfl
/-! ends -/
theorem c_getE {e : Nat} (h : FR b z A μ) (hh : HR b z A m G ar s μ) (he : e < aS A 14) (n14 : aS A 14 < 5000) : f_Jx4a65c_get_915e3 (b + 26) (nI e) μ = some (G 3 e) := by
  have l := hh.1 3 (by decide)
  exact c_get h.k100.2.2.2 h.sz.2.2.2 n14 l.1 l.2.1 (show aS A 14 ≤ _ from l.2.2.1) he (l.2.2.2.2.2 e he)
theorem c_endG (h : FR b z A μ) (hh : HR b z A m G ar s μ) (n14 : aS A 14 < 5000) : f_X10_kindAt b x μ = some (gA (k01 (ix x (aS A 14))) (nI (aN A 14 x.toNatClampNeg)) "java/lang/IndexOutOfBoundsException" μ) ∧ f_X10_placeAt b x μ = some (gA (k01 (ix x (aS A 14))) (nI (aN A 15 x.toNatClampNeg)) "java/lang/IndexOutOfBoundsException" μ) ∧ f_X10_kindByPlain b x μ = some (gA (k01 (ix x (aS A 14))) (nI (aN A 14 x.toNatClampNeg)) "java/lang/IndexOutOfBoundsException" μ) ∧ f_X10_placeByPlain b x μ = some (gA (k01 (ix x (aS A 14))) (nI (aN A 15 x.toNatClampNeg)) "java/lang/IndexOutOfBoundsException" μ) := by
  have k0 := h.1
  unfold SC at k0
  have ie := c_isEnd (x := x) h
  have b0 : bI false = 0 := rfl
  have b1 : ¬ bI true = 0 := by decide
  have nn : ¬ ¬ (0 : Int32) = 0 := fun t => t rfl
  cases hx : ix x (aS A 14)
  · rw [hx] at ie
    refine ⟨?_, ?_, ?_, ?_⟩
    · simp only [f_X10_kindAt, k0, ckT, ie, bdS, b0, nn, if_false]; rfl
    · simp only [f_X10_placeAt, k0, ckT, ie, bdS, b0, nn, if_false]; rfl
    · simp only [f_X10_kindByPlain, k0, ckT, ie, bdS, b0, nn, if_false]; rfl
    · simp only [f_X10_placeByPlain, k0, ckT, ie, bdS, b0, nn, if_false]; rfl
  · rw [hx] at ie
    obtain ⟨e, he, e1, e2⟩ := ix_e hx (by omega)
    have ge := c_getE h hh he n14
    rw [← e1] at ge
    obtain ⟨q1, q2, q3, q4, q5, -⟩ := hh.2.2.2.2.2.2.1 e he
    rw [e2]
    refine ⟨?_, ?_, ?_, ?_⟩
    · simp only [f_X10_kindAt, k0, ckT, ie, bdS, b1, not_false_eq_true, if_true, ge, q1, q2]; rfl
    · simp only [f_X10_placeAt, k0, ckT, ie, bdS, b1, not_false_eq_true, if_true, ge, q1, q3]; rfl
    · simp only [f_X10_kindByPlain, k0, ckT, ie, bdS, b1, not_false_eq_true, if_true, ge, q1, q4]; rfl
    · simp only [f_X10_placeByPlain, k0, ckT, ie, bdS, b1, not_false_eq_true, if_true, ge, q1, q5]; rfl
theorem m_endG (h : RM b A ρ μ) (n14 : aS A 14 ≤ 2004) : f_X11_kindAt (b + 30) x μ = some (if k01 (ix x (aS A 14)) = 0 then nI (aN A 14 x.toNatClampNeg) else 0, sI μ (b + 30) 54 (nI (k01 (ix x (aS A 14))))) ∧ f_X11_placeAt (b + 30) x μ = some (if k01 (ix x (aS A 14)) = 0 then nI (aN A 15 x.toNatClampNeg) else 0, sI μ (b + 30) 54 (nI (k01 (ix x (aS A 14))))) := by
  have k0 := h.1
  unfold SM at k0
  have ne := m_noEnd (x := x) h (by omega)
  have b0 : bI false = 0 := rfl
  have b1 : ¬ bI true = 0 := by decide
  cases hx : ix x (aS A 14)
  · rw [hx] at ne
    have ne' : f_X11_noEnd (b + 30) x μ = some (bI true, sI μ (b + 30) 54 (nI (k01 false))) := ne
    refine ⟨?_, ?_⟩
    · simp only [f_X11_kindAt, k0, ckT, cl_t ne', b1, if_false]; rfl
    · simp only [f_X11_placeAt, k0, ckT, cl_t ne', b1, if_false]; rfl
  · rw [hx] at ne
    have ne' : f_X11_noEnd (b + 30) x μ = some (bI false, sI μ (b + 30) 54 (nI (k01 true))) := ne
    obtain ⟨e, he, e1, e2⟩ := ix_e hx (by omega)
    have ib : inb x 2004 := by rw [e1]; exact inbN (by omega) (by omega)
    obtain ⟨q1, q2, -⟩ := h.2.2.2.2.2.2.2.2.2.2 e he
    have r1 : ∀ {v : Int32}, mI (sI μ (b + 30) 54 v) (b + 78) e = nI (aN A 14 e) := fun {v} => by rw [mI_row _ _ (by omega)]; exact q1
    have r2 : ∀ {v : Int32}, mI (sI μ (b + 30) 54 v) (b + 79) e = nI (aN A 15 e) := fun {v} => by rw [mI_row _ _ (by omega)]; exact q2
    rw [e2]
    refine ⟨?_, ?_⟩
    · simp only [f_X11_kindAt, cl_t ne', b0, if_true, k0, ckT, mR_sI', mK_sI, mL_sI, bdS, ckA, ck_t ib, e2, r1]; rfl
    · simp only [f_X11_placeAt, cl_t ne', b0, if_true, k0, ckT, mR_sI', mK_sI, mL_sI, bdS, ckA, ck_t ib, e2, r2]; rfl
end GTS
