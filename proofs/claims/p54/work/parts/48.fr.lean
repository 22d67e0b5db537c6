/-! renaming, fetching -/
section RNF
variable {A B : Sx}
theorem nB_q {c : Nat} (h : isQd c = false) : nX c = false ∧ nB c = false := by
  unfold nX
  rw [h]
  refine ⟨rfl, ?_⟩
  revert h
  unfold isQd nB isQn
  simp only [Bool.or_eq_false_iff, Bool.and_eq_false_iff, decide_eq_false_iff_not]
  omega
theorem D_q {c : Nat} (h : isQd c = false) (hd : hasD c = true) : c = 15 := by
  revert h hd
  unfold isQd hasD
  simp only [Bool.or_eq_false_iff, Bool.and_eq_false_iff, decide_eq_false_iff_not, Bool.or_eq_true, Bool.and_eq_true, decide_eq_true_eq]
  omega
theorem Ct_q {c : Nat} (h : isCt c = true) : isQd c = true := by
  revert h
  unfold isCt isQn isLp isQd
  simp only [Bool.or_eq_true, Bool.and_eq_true, decide_eq_true_eq]
  omega
theorem giveA_f (A : Sx) (x : Ent) : (∀ i, i ≠ 7 → aS (giveA A x).1 i = aS A i) ∧ (∀ r, r ≠ 0 → r ≠ 2 → r ≠ 3 → aN (giveA A x).1 r = aN A r) ∧ aV (giveA A x).1 = aV A ∧ aB (giveA A x).1 = aB A ∧ aL (giveA A x).1 = aL A ∧ aT (giveA A x).1 = aT A ∧ aQ (giveA A x).1 = aQ A ∧
    (∀ i, i ≠ 6 → i ≠ 7 → i ≠ 8 → i ≠ 9 → (giveA A x).2.1 i = x.1 i) ∧ (giveA A x).2.2 = x.2 ∧ (giveA A x).2.1 6 = aN A 0 (aN A 12 (x.1 0)) ∧ (giveA A x).2.1 7 = aN A 0 (aN A 13 (x.1 0)) ∧
    (hasD (eC A x) = true → aS (giveA A x).1 7 = aS A 7 - 1 ∧ aN (giveA A x).1 0 = up1 (aN A 0) (eD A x) (aN A 3 0) ∧ aN (giveA A x).1 2 = up1 (aN A 2) (aN A 3 0) 0 ∧ aN (giveA A x).1 3 = (fun k => if k < aS A 7 - 1 then aN A 3 (k + 1) else aN A 3 k) ∧ (giveA A x).2.1 8 = aN A 3 0 ∧ (giveA A x).2.1 9 = aN A 0 (eD A x)) ∧
    (hasD (eC A x) = false → aS (giveA A x).1 7 = aS A 7 ∧ aN (giveA A x).1 0 = aN A 0 ∧ aN (giveA A x).1 2 = aN A 2 ∧ aN (giveA A x).1 3 = aN A 3) := by
  unfold giveA
  cases hd : hasD (eC A x)
  · rw [if_neg Bool.false_ne_true]
    refine ⟨fun _ _ => rfl, fun _ _ _ _ => rfl, rfl, rfl, rfl, rfl, rfl, fun i h1 h2 h3 h4 => ?_, rfl, rfl, rfl, fun h => (by cases h), fun _ => ⟨rfl, rfl, rfl, rfl⟩⟩
    simp [eN_, up1_if, h1, h2]
  · rw [if_pos (rfl : true = true)]
    refine ⟨fun i h => ?_, fun r h1 h2 h3 => ?_, rfl, rfl, rfl, rfl, rfl, fun i h1 h2 h3 h4 => ?_, rfl, rfl, rfl, fun _ => ⟨rfl, rfl, rfl, rfl, rfl, rfl⟩, fun h => by cases h⟩
    · simp [zS_, zN_, zNr_, up1_if, h]
    · simp [zS_, zN_, zNr_, up1_if, up2_if, h1, h2, h3]
    · simp [eN_, up1_if, h1, h2, h3, h4]
/-- the new entry of the buffer -/
def rnE (A : Sx) : Ent :=
  let x := (giveA (shiftL A) (aL A 0)).2
  let y := eN x 2 (aS A 0)
  if isQd (eC A x) then y else eN (eN (eN y 12 (if eC A x = 21 ∧ aS A 3 = 0 then 5 else tpV (eC A x) 0 0 (eI A x))) 10 101) 4 (aS A 0)
theorem rnE_f (A : Sx) : (rnE A).1 0 = (aL A 0).1 0 ∧ (∀ i, (i = 1 ∨ i = 5 ∨ i = 11 ∨ i = 13 ∨ i = 14) → (rnE A).1 i = (aL A 0).1 i) ∧ (rnE A).1 6 = aN A 0 (aN A 12 ((aL A 0).1 0)) ∧ (rnE A).1 7 = aN A 0 (aN A 13 ((aL A 0).1 0)) ∧ (rnE A).2 = (aL A 0).2 ∧
    (hasD (eC A (aL A 0)) = true → (rnE A).1 8 = aN A 3 0 ∧ (rnE A).1 9 = aN A 0 (eD A (aL A 0))) ∧ (isQd (eC A (aL A 0)) = true → (rnE A).1 10 = (aL A 0).1 10 ∧ (rnE A).1 12 = (aL A 0).1 12) ∧
    (isQd (eC A (aL A 0)) = false → (rnE A).1 10 = 101 ∧ (rnE A).1 12 = (if eC A (aL A 0) = 21 ∧ aS A 3 = 0 then 5 else tpV (eC A (aL A 0)) 0 0 (eI A (aL A 0)))) := by
  obtain ⟨-, -, -, -, -, -, -, g8, g9, g10, g11, g12, -⟩ := giveA_f (shiftL A) (aL A 0)
  have ec : eC A (giveA (shiftL A) (aL A 0)).2 = eC A (aL A 0) := by unfold eC; rw [g8 0 (by decide) (by decide) (by decide) (by decide)]
  have ei : eI A (giveA (shiftL A) (aL A 0)).2 = eI A (aL A 0) := by unfold eI; rw [g8 0 (by decide) (by decide) (by decide) (by decide)]
  have key : ∀ i, i ≠ 2 → i ≠ 4 → i ≠ 10 → i ≠ 12 → (rnE A).1 i = (giveA (shiftL A) (aL A 0)).2.1 i := fun i h1 h2 h3 h4 => by
    unfold rnE
    dsimp only
    split <;> simp [eN_, up1_if, h1, h2, h3, h4]
  refine ⟨?_, fun i hi => ?_, ?_, ?_, ?_, fun hd => ?_, fun hq => ?_, fun hq => ?_⟩
  · rw [key 0 (by decide) (by decide) (by decide) (by decide)]
    exact g8 0 (by decide) (by decide) (by decide) (by decide)
  · rw [key i (by omega) (by omega) (by omega) (by omega)]
    exact g8 i (by omega) (by omega) (by omega) (by omega)
  · rw [key 6 (by decide) (by decide) (by decide) (by decide)]
    exact g10
  · rw [key 7 (by decide) (by decide) (by decide) (by decide)]
    exact g11
  · unfold rnE
    dsimp only
    split <;> exact g9
  · rw [key 8 (by decide) (by decide) (by decide) (by decide), key 9 (by decide) (by decide) (by decide) (by decide)]
    obtain ⟨-, -, -, -, h5, h6⟩ := g12 hd
    exact ⟨h5, h6⟩
  · unfold rnE
    dsimp only
    rw [ec, hq]
    exact ⟨g8 10 (by decide) (by decide) (by decide) (by decide), g8 12 (by decide) (by decide) (by decide) (by decide)⟩
  · unfold rnE
    dsimp only
    rw [ec, hq, ei]
    exact ⟨rfl, rfl⟩
theorem rn1_f (A : Sx) : (∀ i, i ≠ 7 → i ≠ 9 → i ≠ 10 → aS (rn1 A) i = aS A i) ∧ aS (rn1 A) 9 = aS A 9 + 1 ∧ aS (rn1 A) 10 = aS A 10 - 1 ∧ (∀ r, r ≠ 0 → r ≠ 2 → r ≠ 3 → aN (rn1 A) r = aN A r) ∧ (∀ r, r ≠ 1 → aV (rn1 A) r = aV A r) ∧ aB (rn1 A) = up1 (aB A) (aS A 9) (rnE A) ∧ aL (rn1 A) = (fun k => aL A (k + 1)) ∧ aT (rn1 A) = aT A ∧ aQ (rn1 A) = aQ A ∧
    (hasD (eC A (aL A 0)) = true → aS (rn1 A) 7 = aS A 7 - 1 ∧ aN (rn1 A) 0 = up1 (aN A 0) (eD A (aL A 0)) (aN A 3 0) ∧ aN (rn1 A) 3 = (fun k => if k < aS A 7 - 1 then aN A 3 (k + 1) else aN A 3 k)) ∧
    (hasD (eC A (aL A 0)) = false → aS (rn1 A) 7 = aS A 7 ∧ aN (rn1 A) 0 = aN A 0 ∧ aN (rn1 A) 3 = aN A 3) ∧
    (∀ i, (hasD (eC A (aL A 0)) = true → i ≠ aN A 3 0) → aN (rn1 A) 2 i = aN A 2 i ∧ aV (rn1 A) 1 i = aV A 1 i) ∧
    (hasD (eC A (aL A 0)) = true → aN (rn1 A) 2 (aN A 3 0) = (if eC A (aL A 0) = 15 then 1 else 0) ∧ (eC A (aL A 0) = 15 → aV (rn1 A) 1 (aN A 3 0) = nI ((aL A 0).1 0 + 1))) := by
  obtain ⟨g1, g2, g3, g4, g5, g6, g7, g8, g9, g10, g11, g12, g13⟩ := giveA_f (shiftL A) (aL A 0)
  have ec : eC A (giveA (shiftL A) (aL A 0)).2 = eC A (aL A 0) := by unfold eC; rw [g8 0 (by decide) (by decide) (by decide) (by decide)]
  have e0 : (giveA (shiftL A) (aL A 0)).2.1 0 = (aL A 0).1 0 := g8 0 (by decide) (by decide) (by decide) (by decide)
  obtain ⟨Z, hZ⟩ : ∃ Z, Z = if eC A (aL A 0) = 15 then zN (zV (giveA (shiftL A) (aL A 0)).1 1 ((giveA (shiftL A) (aL A 0)).2.1 8) (rsV (eC A (giveA (shiftL A) (aL A 0)).2) ((giveA (shiftL A) (aL A 0)).2.1 0) 0 0 (eI A (giveA (shiftL A) (aL A 0)).2))) 2 ((giveA (shiftL A) (aL A 0)).2.1 8) 1 else (giveA (shiftL A) (aL A 0)).1 := ⟨_, rfl⟩
  have hr : rn1 A = zS (zB Z (aS A 9) (rnE A)) 9 (aS A 9 + 1) := by
    rw [hZ]
    unfold rn1 rnE
    dsimp only
    rw [ec]
  have zS' : aS Z = aS (giveA (shiftL A) (aL A 0)).1 := by rw [hZ]; split <;> rfl
  have zB' : aB Z = aB A := by rw [hZ]; split <;> exact g4
  have zL' : aL Z = (fun k => aL A (k + 1)) := by rw [hZ]; split <;> exact g5
  have zT' : aT Z = aT A := by rw [hZ]; split <;> exact g6
  have zQ' : aQ Z = aQ A := by rw [hZ]; split <;> exact g7
  have zN' : ∀ r, r ≠ 2 → aN Z r = aN (giveA (shiftL A) (aL A 0)).1 r := fun r h => by
    rw [hZ]
    split
    · exact up2_ne _ _ _ h
    · rfl
  have zV' : ∀ r, r ≠ 1 → aV Z r = aV A r := fun r h => by
    rw [hZ]
    split
    · show up2 (aV (giveA (shiftL A) (aL A 0)).1) 1 _ _ r = _
      rw [up2_ne _ _ _ h, g3]
      rfl
    · rw [g3]
      rfl
  have s7 : aS (rn1 A) 7 = aS (giveA (shiftL A) (aL A 0)).1 7 := by
    rw [hr]
    show up1 (aS Z) 9 (aS A 9 + 1) 7 = _
    rw [up1_ne _ _ (by decide), zS']
  have n0 : ∀ r, r ≠ 2 → aN (rn1 A) r = aN (giveA (shiftL A) (aL A 0)).1 r := fun r h => by rw [hr]; exact zN' r h
  refine ⟨fun i h7 h9 h10 => ?_, ?_, ?_, fun r h0 h2 h3 => ?_, fun r h => ?_, ?_, ?_, ?_, ?_, fun hd => ?_, fun hd => ?_, fun i hi => ?_, fun hd => ?_⟩
  · rw [hr]
    show up1 (aS Z) 9 (aS A 9 + 1) i = _
    rw [up1_ne _ _ h9, zS', g1 i h7]
    exact up1_ne _ _ h10
  · rw [hr]
    exact zS_at _ _ _
  · rw [hr]
    show up1 (aS Z) 9 (aS A 9 + 1) 10 = _
    rw [up1_ne _ _ (by decide), zS', g1 10 (by decide)]
    exact zS_at _ _ _
  · rw [n0 r h2, g2 r h0 h2 h3]
    rfl
  · rw [hr]
    exact zV' r h
  · rw [hr]
    show up1 (aB Z) (aS A 9) (rnE A) = _
    rw [zB']
  · rw [hr]
    exact zL'
  · rw [hr]
    exact zT'
  · rw [hr]
    exact zQ'
  · obtain ⟨h1, h2, h3, h4, h5, h6⟩ := g12 hd
    rw [s7, n0 0 (by decide), n0 3 (by decide)]
    exact ⟨h1, h2, h4⟩
  · obtain ⟨h1, h2, h3, h4⟩ := g13 hd
    rw [s7, n0 0 (by decide), n0 3 (by decide)]
    exact ⟨h1, h2, h4⟩
  · rw [hr]
    show aN Z 2 i = aN A 2 i ∧ aV Z 1 i = aV A 1 i
    cases hd : hasD (eC A (aL A 0))
    · have h15 : ¬ eC A (aL A 0) = 15 := fun z => by rw [z] at hd; cases hd
      rw [hZ, if_neg h15, g3, (g13 hd).2.2.1]
      exact ⟨rfl, rfl⟩
    · have hne := hi hd
      obtain ⟨h1, h2, h3, h4, h5, h6⟩ := g12 hd
      have h5' : (giveA (shiftL A) (aL A 0)).2.1 8 = aN A 3 0 := h5
      have h3' : aN (giveA (shiftL A) (aL A 0)).1 2 i = aN A 2 i := by
        rw [h3]
        exact up1_ne _ _ hne
      rw [hZ]
      split
      · show up2 (aN (giveA (shiftL A) (aL A 0)).1) 2 _ 1 2 i = _ ∧ up2 (aV (giveA (shiftL A) (aL A 0)).1) 1 _ _ 1 i = _
        rw [up2_eq, up2_eq, h5', up1_ne _ _ hne, up1_ne _ _ hne, h3', g3]
        exact ⟨rfl, rfl⟩
      · rw [h3', g3]
        exact ⟨rfl, rfl⟩
  · rw [hr]
    show aN Z 2 (aN A 3 0) = _ ∧ (_ → aV Z 1 (aN A 3 0) = _)
    obtain ⟨h1, h2, h3, h4, h5, h6⟩ := g12 hd
    have h5' : (giveA (shiftL A) (aL A 0)).2.1 8 = aN A 3 0 := h5
    rw [hZ]
    split
    · rename_i h15
      refine ⟨?_, fun _ => ?_⟩
      · show up2 (aN (giveA (shiftL A) (aL A 0)).1) 2 _ 1 2 (aN A 3 0) = _
        rw [up2_eq, h5', up1_eq]
      · show up2 (aV (giveA (shiftL A) (aL A 0)).1) 1 _ _ 1 (aN A 3 0) = _
        rw [up2_eq, h5', up1_eq, ec, h15, e0]
        rfl
    · rename_i h15
      refine ⟨?_, fun z => absurd z h15⟩
      rw [h3]
      exact up1_eq _ _ _
end RNF
