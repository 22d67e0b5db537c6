/-! both: a line's time -/
section CAT
variable {b z e sl : Nat} {m m' : Nat → Nat} {A A' B C D : Sx} {P : Pm} {G : Nat → Nat → Nat} {ar : Nat → Nat} {s : Nat} {ρ : Nat → Nat} {μ μ' μ2 : Mm} {S : Nat → Nat → Bool}
theorem le15 (x : Int32) : (x ≤ 15) = ¬ (16 ≤ x) := by
  rw [Int32.le_iff_toInt_le, Int32.le_iff_toInt_le]
  have h1 : (15 : Int32).toInt = 15 := by decide
  have h2 : (16 : Int32).toInt = 16 := by decide
  rw [h1, h2]
  exact propext ⟨fun h => by omega, fun h => by omega⟩
def kTm (x y : Int32) : Nat := if (!decide (x < 0) && decide (x ≤ 15)) && (!decide (y < 1) && decide (y ≤ 30)) then 0 else 1
theorem kTm_0 {x y : Int32} (h : kTm x y = 0) : ∃ l n, l < 16 ∧ 1 ≤ n ∧ n ≤ 30 ∧ x = nI l ∧ y = nI n ∧ x.toNatClampNeg = l ∧ y.toNatClampNeg = n := by
  unfold kTm at h
  split at h
  · rename_i hb
    simp only [Bool.and_eq_true, Bool.not_eq_true', decide_eq_false_iff_not, decide_eq_true_eq] at hb
    obtain ⟨⟨x0, x15⟩, y1, y30⟩ := hb
    obtain ⟨l, -, l2, e⟩ := i32r (lo := 0) (hi := 15) (by omega) (by omega) x0 x15
    obtain ⟨n, n1, n2, e2⟩ := i32r (lo := 1) (hi := 30) (by omega) (by omega) y1 y30
    exact ⟨l, n, by omega, n1, n2, e, e2, by rw [e]; exact clN (by omega), by rw [e2]; exact clN (by omega)⟩
  · cases h
theorem c_setTime {x y : Int32} (h : FR b z A μ) (hh : HR b z A (fun _ => 0) G ar s μ) : ∃ (A' : Sx) (μ' : Mm), A' = (if kTm x y = 0 then zN A 6 x.toNatClampNeg y.toNatClampNeg else A) ∧ f_X10_setTime b x y μ = some (oc (kTm x y) (nI (aN A 6 x.toNatClampNeg)), μ') ∧ FR b z A' μ' ∧ HR b z A' (fun _ => 0) G ar s μ' ∧ CK 1 6 μ μ' := by
  have k0 := h.1
  unfold SC at k0
  have no : kTm x y = 1 → f_X10_setTime b x y μ = f_X10_setTime_b21 μ → ∃ (A' : Sx) (μ' : Mm), A' = (if kTm x y = 0 then zN A 6 x.toNatClampNeg y.toNatClampNeg else A) ∧ f_X10_setTime b x y μ = some (oc (kTm x y) (nI (aN A 6 x.toNatClampNeg)), μ') ∧ FR b z A' μ' ∧ HR b z A' (fun _ => 0) G ar s μ' ∧ CK 1 6 μ μ' := fun hk ee => by
    rw [hk]
    exact ⟨A, bump μ 6, rfl, ee, h.bump, hh.bump, bump_ck⟩
  by_cases x0 : x < 0
  · refine no (by unfold kTm; rw [decide_eq_true x0]; rfl) ?_
    simp only [f_X10_setTime, x0, if_true]
  by_cases x16 : 16 ≤ x
  · have x15 : ¬ x ≤ 15 := by rw [le15]; exact fun t => t x16
    refine no (by unfold kTm; rw [decide_eq_false x15, Bool.and_false]; rfl) ?_
    simp only [f_X10_setTime, x0, if_false, x16, if_true]
  have x15 : x ≤ 15 := by rw [le15]; exact x16
  by_cases y1 : y < 1
  · refine no (by unfold kTm; rw [decide_eq_true y1]; simp) ?_
    simp only [f_X10_setTime, x0, if_false, x16, y1, if_true]
  by_cases y30 : y ≤ 30
  · have hk : kTm x y = 0 := by
      unfold kTm
      rw [decide_eq_false x0, decide_eq_true x15, decide_eq_false y1, decide_eq_true y30]
      rfl
    obtain ⟨l, n, l16, n1, n30, e1, e2, e3, e4⟩ := kTm_0 hk
    obtain ⟨F, H, c, -⟩ := c_putN (q := 6) (j := l) (n := n) h hh (by omega) l16
    have F' : FR b z (zN A 6 l n) (sI μ (b + 17) l (nI n)) := F
    have H' : HR b z (zN A 6 l n) (fun _ => 0) G ar s (sI μ (b + 17) l (nI n)) := H
    have c' : CK 0 0 μ (sI μ (b + 17) l (nI n)) := c
    rw [show sI μ (b + 17) l (nI n) = sI μ (b + 17) l y from by rw [e2]] at F' H' c'
    have il : inb x 16 := by rw [e1]; exact inbN l16 (by omega)
    have i17 : mI μ (b + 17) l = nI (aN A 6 l) := h.2.1.2.1 6 l (by omega) l16
    rw [hk]
    refine ⟨zN A 6 l n, sI μ (b + 17) l y, by rw [if_pos rfl, e3, e4], ?_, F', H', c'.mono (by omega) (by omega)⟩
    rw [e3]
    simp only [f_X10_setTime, x0, if_false, x16, y1, y30, if_true, k0, ckT, bdS, ckA, ck_t il, e3, i17, zlS]
    rfl
  · refine no (by unfold kTm; rw [decide_eq_false y30]; simp) ?_
    simp only [f_X10_setTime, x0, if_false, x16, y1, y30]
end CAT
