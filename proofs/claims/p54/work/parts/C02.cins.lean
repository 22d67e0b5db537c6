/-! THE CLASS: instructions -/
section CIN
variable {μ : Mm}
theorem cE {c : Nat} (hc : c < 22) : ((nI c = 0) = (c = 0)) ∧ ((nI c = 1) = (c = 1)) ∧ ((nI c = 2) = (c = 2)) ∧ ((nI c = 3) = (c = 3)) ∧ ((nI c = 4) = (c = 4)) ∧ ((nI c = 5) = (c = 5)) ∧ ((nI c = 6) = (c = 6)) ∧ ((nI c = 7) = (c = 7)) ∧ ((nI c = 8) = (c = 8)) ∧ ((nI c = 9) = (c = 9)) ∧ ((nI c = 10) = (c = 10)) ∧ ((nI c = 11) = (c = 11)) ∧ ((nI c = 12) = (c = 12)) ∧ ((nI c = 13) = (c = 13)) ∧ ((nI c = 14) = (c = 14)) ∧ ((nI c = 15) = (c = 15)) ∧ ((nI c = 16) = (c = 16)) ∧ ((nI c = 17) = (c = 17)) ∧ ((nI c = 18) = (c = 18)) ∧ ((nI c = 19) = (c = 19)) ∧ ((nI c = 20) = (c = 20)) ∧ ((nI c = 21) = (c = 21)) := by
  have k : ∀ n, n < 22 → ((nI c = nI n) = (c = n)) := fun n hn => propext ⟨fun h => nIj (by omega) (by omega) h, fun h => by rw [h]⟩
  exact ⟨k 0 (by omega), k 1 (by omega), k 2 (by omega), k 3 (by omega), k 4 (by omega), k 5 (by omega), k 6 (by omega), k 7 (by omega), k 8 (by omega), k 9 (by omega), k 10 (by omega), k 11 (by omega), k 12 (by omega), k 13 (by omega), k 14 (by omega), k 15 (by omega), k 16 (by omega), k 17 (by omega), k 18 (by omega), k 19 (by omega), k 20 (by omega), k 21 (by omega)⟩
theorem c_hasD {a c : Nat} (k : mK μ a = 107) (h : mI μ a 1 = nI c) (hc : c < 22) : f_X6_hasResult a μ = some (bI (hasD c)) := by
  simp only [f_X6_hasResult, f_X6_hasResult_b17, f_X6_hasResult_b26, k, ckT, h]
  clear h k
  revert c
  decide +kernel
theorem c_isQd {a c : Nat} (k : mK μ a = 107) (h : mI μ a 1 = nI c) (hc : c < 22) : f_X6_isForQueue a μ = some (bI (isQd c)) := by
  simp only [f_X6_isForQueue, f_X6_isForQueue_b17, f_X6_isForQueue_b24, f_X6_isLeap, f_X6_isLeap_b18, k, ckT, h]
  clear h k
  revert c
  decide +kernel
theorem c_isSt {a c : Nat} (k : mK μ a = 107) (h : mI μ a 1 = nI c) (hc : c < 22) : f_X6_isStore a μ = some (bI (isSt c)) := by
  simp only [f_X6_isStore, f_X6_isStore_b18, k, ckT, h]
  clear h k
  revert c
  decide +kernel
theorem c_isQn {a c : Nat} (k : mK μ a = 107) (h : mI μ a 1 = nI c) (hc : c < 22) : f_X6_isQuestion a μ = some (bI (isQn c)) := by
  simp only [f_X6_isQuestion, f_X6_isQuestion_b18, k, ckT, h]
  clear h k
  revert c
  decide +kernel
theorem c_isLp {a c : Nat} (k : mK μ a = 107) (h : mI μ a 1 = nI c) (hc : c < 22) : f_X6_isLeap a μ = some (bI (isLp c)) := by
  simp only [f_X6_isLeap, f_X6_isLeap_b18, k, ckT, h]
  clear h k
  revert c
  decide +kernel
theorem c_isAl {a c : Nat} (k : mK μ a = 107) (h : mI μ a 1 = nI c) (hc : c < 22) : f_X6_standsAlone a μ = some (bI (isAl c)) := by
  simp only [f_X6_standsAlone, f_X6_standsAlone_b18, k, ckT, h]
  clear h k
  revert c
  decide +kernel
theorem c_isEf {a c : Nat} (k : mK μ a = 107) (h : mI μ a 1 = nI c) (hc : c < 22) : f_X6_endsFetching a μ = some (bI (isEf c)) := by
  simp only [f_X6_endsFetching, f_X6_endsFetching_b18, k, ckT, h]
  clear h k
  revert c
  decide +kernel
theorem c_nA {a c : Nat} (k : mK μ a = 107) (h : mI μ a 1 = nI c) (hc : c < 22) : f_X6_needsA a μ = some (bI (nA c)) := by
  simp only [f_X6_needsA, k, ckT, h]
  clear h k
  revert c
  decide +kernel
theorem c_nB {a c : Nat} (k : mK μ a = 107) (h : mI μ a 1 = nI c) (hc : c < 22) : f_X6_needsB a μ = some (bI (nB c)) := by
  simp only [f_X6_needsB, f_X6_needsB_b17, f_X6_needsB_b24, f_X6_isQuestion, f_X6_isQuestion_b18, k, ckT, h]
  clear h k
  revert c
  decide +kernel
theorem c_unit {a c : Nat} (k : mK μ a = 107) (h : mI μ a 1 = nI c) (hc : c < 22) : f_X6_unit a μ = some (nI (unit c)) := by
  simp only [f_X6_unit, k, ckT, h]
  clear h k
  revert c
  decide +kernel
theorem c_delay {a c : Nat} (k : mK μ a = 107) (h : mI μ a 1 = nI c) (hc : c < 22) : f_X6_delay a μ = some (nI (dly c)) := by
  simp only [f_X6_delay, k, ckT, h]
  clear h k
  revert c
  decide +kernel
theorem c_isAd (x : Int32) : f_X10_isAddress x = some (bI (adok x)) := by
  unfold f_X10_isAddress adok
  by_cases h1 : x < 0
  · rw [if_pos h1, decide_eq_false (Int32.not_le.mpr h1)]
    rfl
  · rw [if_neg h1, decide_eq_true (Int32.not_lt.mp h1)]
    by_cases h2 : 64 ≤ x
    · rw [if_pos h2, decide_eq_false (Int32.not_lt.mpr h2)]
      rfl
    · rw [if_neg h2, decide_eq_true (Int32.not_le.mp h2)]
      rfl
theorem c_isPl (x : Int32) : f_X10_isPlace x = some (bI (adok x)) := c_isAd x
theorem c22r {c : Nat} (hc : c < 22) : c = 0 ∨ c = 1 ∨ c = 2 ∨ c = 3 ∨ c = 4 ∨ c = 5 ∨ c = 6 ∨ c = 7 ∨ c = 8 ∨ c = 9 ∨ c = 10 ∨ c = 11 ∨ c = 12 ∨ c = 13 ∨ c = 14 ∨ c = 15 ∨ c = 16 ∨ c = 17 ∨ c = 18 ∨ c = 19 ∨ c = 20 ∨ c = 21 := by omega
theorem ifb {α : Type} (p : Bool) (x y : α) : (if bI p = 0 then x else y) = if p = true then y else x := by cases p <;> rfl
theorem c_trapBy {a c : Nat} {x y n : Int32} (k : mK μ a = 107) (h : mI μ a 1 = nI c) (h5 : mI μ a 5 = n) (hc : c < 22) : f_X6_trapBy a x y μ = some (nI (tpV c x y n)) := by
  have hi : Int32.toInt (nI c) = (c : Int) := nI_toInt (by omega)
  simp only [f_X6_trapBy, k, ckT, h, h5, c_isAd, c_isPl, bdS, hi, cE hc, ifb]
  clear hi h k
  rcases c22r hc with rfl | rfl | rfl | rfl | rfl | rfl | rfl | rfl | rfl | rfl | rfl | rfl | rfl | rfl | rfl | rfl | rfl | rfl | rfl | rfl | rfl | rfl <;> first | rfl | (show (if ¬ y = 0 then some 0 else some 1) = some (nI (if y = 0 then 1 else 0)); by_cases hy : y = 0 <;> simp [hy] <;> rfl) | (show (if adok (x + n) = true then some 0 else some 2) = some (nI (if adok (x + n) = true then 0 else 2)); split <;> rfl) | (show (if adok x = true then some 0 else some 3) = some (nI (if adok x = true then 0 else 3)); split <;> rfl)
theorem c_resultBy {a c p : Nat} {x y n : Int32} (k : mK μ a = 107) (h0 : mI μ a 0 = nI p) (h : mI μ a 1 = nI c) (h5 : mI μ a 5 = n) (hc : c < 22) : f_X6_resultBy a x y μ = some (rsV c p x y n) := by
  have hi : Int32.toInt (nI c) = (c : Int) := nI_toInt (by omega)
  simp only [f_X6_resultBy, k, ckT, h0, h, h5, hi, cE hc, nI_1]
  clear hi h k
  rcases c22r hc with rfl | rfl | rfl | rfl | rfl | rfl | rfl | rfl | rfl | rfl | rfl | rfl | rfl | rfl | rfl | rfl | rfl | rfl | rfl | rfl | rfl | rfl <;> first | rfl | (show (if ¬ y = 0 then ck (¬ y = 0) (some (x / y)) else some 0) = some (if y = 0 then 0 else x / y); by_cases hy : y = 0 <;> simp [hy, ck]) | (show (if y ≤ x then some 0 else some 1) = some (if x < y then 1 else 0); by_cases hy : x < y <;> simp [hy, Int32.not_le.mpr, Int32.not_lt.mp])
theorem c_isSo {a c : Nat} {x y : Int32} (k : mK μ a = 107) (h : mI μ a 1 = nI c) (hc : c < 22) : f_X6_isSo a x y μ = some (bI (soV c x y)) := by
  simp only [f_X6_isSo, k, ckT, h, cE hc]
  unfold soV
  by_cases e : c = 12
  · rw [if_neg (fun z => z e), if_pos e]
    by_cases q : x = y
    · rw [if_neg (fun z => z q), decide_eq_true q]; rfl
    · rw [if_pos q, decide_eq_false q]; rfl
  · rw [if_pos e, if_neg e]
    by_cases q : y ≤ x
    · rw [if_pos q, decide_eq_false (Int32.not_lt.mpr q)]; rfl
    · rw [if_neg q, decide_eq_true (Int32.not_le.mp q)]; rfl
theorem c_goesBy {a c p : Nat} {x y n : Int32} (k : mK μ a = 107) (h0 : mI μ a 0 = nI p) (h : mI μ a 1 = nI c) (h5 : mI μ a 5 = n) (hc : c < 22) : f_X6_goesBy a x y μ = some (goV c p x y n) := by
  simp only [f_X6_goesBy, f_X6_goesBy_b57, c_isQn k h hc, c_isLp k h hc, c_isSo k h hc, k, ckT, h0, h, h5, bdS, ifb, cE hc, nI_1]
  unfold goV
  cases isQn c
  · cases isLp c
    · by_cases e : c = 14
      · simp [e]
      · by_cases e2 : c = 15
        · simp [e2]
        · simp [e, e2]
    · simp
  · cases soV c x y <;> simp
theorem c_chW {a c : Nat} {w y : Int32} (k : mK μ a = 107) (h : mI μ a 1 = nI c) (hc : c < 22) : f_X6_changedWord a w y μ = some (chW c w y) := by
  simp only [f_X6_changedWord, k, ckT, h, cE hc]
  unfold chW
  by_cases e : c = 10
  · rw [if_neg (fun z => z e), if_pos e]
  · rw [if_pos e, if_neg e]
theorem c_fmod4 : ∀ p, p < 16 → f_J9_floorMod_7cf53 (nI p) 4 = some (nI (p % 4)) := by decide +kernel
theorem c_fmod8 : ∀ p, p < 64 → f_J9_floorMod_7cf53 (nI p) 8 = some (nI (p % 8)) := by decide +kernel
theorem c_fmod16 : ∀ p, p < 64 → f_J9_floorMod_7cf53 (nI p) 16 = some (nI (p % 16)) := by decide +kernel
end CIN
