/-! the model: one instruction is renamed -/
section MR7
variable {b : Nat} {A B : Sx} {ρ : Nat → Nat} {μ μ' : Mm} {S : Nat → Nat → Bool}
/-- what renaming changes -/
def sRn (r o k : Nat) : Bool := sRm r o k || decide (63 ≤ o ∧ o ≤ 70)
theorem sRm_t {r o k : Nat} (h : (o = 30 ∧ k ≠ 26 ∧ k ≠ 35 ∧ k ≠ 54) ∨ (38 ≤ o ∧ o ≤ 44) ∨ o = r) : sRm r o k = true := decide_eq_true h
theorem sRn_m {r o k : Nat} (h : sRm r o k = true) : sRn r o k = true := by unfold sRn; rw [h]; rfl
theorem sRn_e {r o k : Nat} (h : sRn r o k = true) : (o = 30 ∧ k ≠ 26 ∧ k ≠ 35 ∧ k ≠ 54) ∨ (38 ≤ o ∧ o ≤ 44) ∨ o = r ∨ (63 ≤ o ∧ o ≤ 70) := by
  unfold sRn sRm at h
  simp only [Bool.or_eq_true, decide_eq_true_eq] at h
  omega
theorem sRn_f {r o k : Nat} (h : ¬ ((o = 30 ∧ k ≠ 26 ∧ k ≠ 35 ∧ k ≠ 54) ∨ (38 ≤ o ∧ o ≤ 44) ∨ o = r ∨ (63 ≤ o ∧ o ≤ 70))) : sRn r o k = false := by
  cases hz : sRn r o k with
  | false => rfl
  | true => exact absurd (sRn_e hz) h
theorem sRm_f {r o k : Nat} (h : ¬ ((o = 30 ∧ k ≠ 26 ∧ k ≠ 35 ∧ k ≠ 54) ∨ (38 ≤ o ∧ o ≤ 44) ∨ o = r)) : sRm r o k = false := decide_eq_false h
theorem rnE_2 (A : Sx) : (rnE A).1 2 = aS A 0 := by
  unfold rnE
  dsimp only
  split <;> rfl
theorem rnE_4 (A : Sx) (h : isQd (eC A (aL A 0)) = false) : (rnE A).1 4 = aS A 0 := by
  have ec : eC A (giveA (shiftL A) (aL A 0)).2 = eC A (aL A 0) := by
    unfold eC
    rw [(giveA_f (shiftL A) (aL A 0)).2.2.2.2.2.2.2.1 0 (by decide) (by decide) (by decide) (by decide)]
  unfold rnE
  dsimp only
  rw [ec, h]
  rfl
theorem rn1_P (A : Sx) : SamP A (rn1 A) := ⟨fun r h1 h2 => (rn1_f A).2.2.2.1 r (by omega) (by omega) (by omega), (rn1_f A).2.2.2.2.1 5 (by decide)⟩
theorem rn_row {F0 F : Nat → Int32} (f : IF A) (h10 : aS A 10 ≠ 0) (hx : RLm A (aL A 0) F0) (hF : ∀ k, k = 0 ∨ k = 1 ∨ k = 5 ∨ k = 17 ∨ (18 ≤ k ∧ k < 28) → F k = F0 k) (F2 : F 2 = nI (aS A 0)) (F7 : F 7 = nI (aN A 0 (aN A 12 ((aL A 0).1 0)))) (F8 : F 8 = nI (aN A 0 (aN A 13 ((aL A 0).1 0)))) (F11 : F 11 = if isQd (eC A (aL A 0)) = true then 113 else 101) (F4 : F 4 = nI (aS A 0)) (F13 : F 13 = if eC A (aL A 0) = 20 then 4 else 0)
    (F6 : F 6 = if eC A (aL A 0) = 14 ∨ eC A (aL A 0) = 15 then eI A (aL A 0) else nI ((aL A 0).1 0 + 1)) (F16 : F 16 = -1) (F9 : hasD (eC A (aL A 0)) = true → F 9 = nI (aN A 3 0) ∧ F 10 = nI (aN A 0 (eD A (aL A 0)))) : REm (rn1 A) (rnE A) F := by
  obtain ⟨e0, e1, e6, e7, e2, e8, eq1, eq2⟩ := rnE_f A
  have l := f.2.2.2.1 0 (by omega)
  have ht := l.1.2.2.1.1
  have g := (hx.to28 (f' := F0) (fun _ _ => rfl) ht)
  obtain ⟨x0, x1, x5, x17, x23, x18⟩ := hx
  have ec : eC (rn1 A) (rnE A) = eC A (aL A 0) := ((rn1_P A).c e0).1
  have n101 : isQd (eC A (aL A 0)) = true → (rnE A).1 10 = 113 := fun z => by rw [(eq1 z).1]; exact l.2.2.1
  unfold REm
  rw [ec, e0, e1 1 (by omega), e1 5 (by omega), e1 13 (by omega), e6, e7, e2, rnE_2, hF 0 (by omega), hF 1 (by omega), hF 5 (by omega), hF 17 (by omega)]
  refine ⟨x0, x1, F2, x5, F7, F8, x17, ?_, ⟨(hF 23 (by omega)).trans x23.1, fun i hi => (hF _ (by omega)).trans (x23.2 i hi)⟩, fun a c => ⟨(hF 18 (by omega)).trans (x18 a c).1, fun i hi => (hF _ (by omega)).trans ((x18 a c).2 i hi)⟩, fun hd => ?_, fun hq hs => absurd (n101 hq) hs, fun hs => ?_, fun hs => ?_, ?_, fun hs => ?_, fun hm _ hs => ?_, fun h9 hs => ?_, fun hd hq hs => ?_, fun h9 => ?_⟩
  · rw [F11]
    cases hq : isQd (eC A (aL A 0))
    · rw [(eq2 hq).1]; rfl
    · rw [n101 hq]; rfl
  · rw [(e8 hd).1, (e8 hd).2]
    exact F9 hd
  · exfalso
    cases hq : isQd (eC A (aL A 0))
    · rw [(eq2 hq).1] at hs; cases hs
    · rw [n101 hq] at hs; cases hs
  · cases hq : isQd (eC A (aL A 0))
    · rw [rnE_4 A hq]
      exact F4
    · rw [n101 hq] at hs; cases hs
  · rw [F13]
    cases hq : isQd (eC A (aL A 0))
    · rw [if_neg Bool.false_ne_true]
    · rw [if_pos rfl, n101 hq]
      have : ¬ eC A (aL A 0) = 20 := fun z => by rw [z] at hq; cases hq
      rw [if_neg this]
      simp
  · have hct : isCt (eC A (aL A 0)) = false := by
      rcases hs with z | z
      · exact z
      · cases hz : isCt (eC A (aL A 0))
        · rfl
        · have := n101 (Ct_q hz)
          omega
    rw [F6, l.2.2.2.2.2.2.2]
    unfold goV
    unfold isCt at hct
    rw [Bool.or_eq_false_iff] at hct
    rw [hct.1, hct.2]
    rfl
  · exfalso
    have : isQd (eC A (aL A 0)) = true := by
      unfold isMm at hm
      simp only [Bool.or_eq_true, decide_eq_true_eq] at hm
      rcases hm with (z | z) | z <;> rw [z] <;> rfl
    have := n101 this
    omega
  · have : isQd (eC A (aL A 0)) = true := by rw [h9]; rfl
    exact absurd (n101 this) hs
  · have := n101 hq
    omega
  · rw [F16, l.2.2.2.2.2.1]
end MR7
