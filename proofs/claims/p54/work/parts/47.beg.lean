/-! the bus; beginnings -/
section BUS
variable {A B : Sx}
theorem bus1_ib {k : Nat} (q : IB A) (f : IF A) (hk : k < aS A 9) (hs : (aB A k).1 10 = 98) : IB (bus1 A k) ∧ IF (bus1 A k) := by
  obtain ⟨q1, q2, q3, q4, q5, q6, q7, q8, q9, q10, q11, q12, q13, q14, q15⟩ := id q
  obtain ⟨d1, d2, d3, d4, d5, d6, d7⟩ := q7 k hk
  have hd := d3 hs
  have hq : isQd (eC A (aB A k)) = true := by
    cases h : isQd (eC A (aB A k)) with
    | true => rfl
    | false => have := d2 h; omega
  have hcm := d7 (by omega)
  have hr0 : aN A 2 ((aB A k).1 8) = 0 := by rw [d5 hd, hs]; rfl
  have eB : ∀ j, aB (bus1 A k) j = if j = k then eN (eN (aB A k) 10 101) 4 (aS A 0) else aB A j := fun j => rfl
  have eN2 : ∀ i, aN (bus1 A k) 2 i = if i = (aB A k).1 8 then 1 else aN A 2 i := fun i => rfl
  have eV1 : ∀ i, aV (bus1 A k) 1 i = if i = (aB A k).1 8 then (aB A k).2.1 2 else aV A 1 i := fun i => rfl
  have eS : aS (bus1 A k) = aS A := rfl
  have eQ : aQ (bus1 A k) = aQ A := rfl
  have hR : ∀ i, aN A 2 i = 1 → aN (bus1 A k) 2 i = 1 ∧ aV (bus1 A k) 1 i = aV A 1 i := fun i hi => by
    have hne : i ≠ (aB A k).1 8 := fun z => by rw [z] at hi; omega
    rw [eN2, eV1, if_neg hne, if_neg hne]
    exact ⟨hi, rfl⟩
  have hSt : St A (bus1 A k) := by
    refine ⟨fun _ _ => rfl, fun r h2 h5 h7 => up2_ne _ _ _ h2, fun r h1 h4 => up2_ne _ _ _ h1, fun j _ => ?_⟩
    rw [eB]
    split
    · rename_i e
      subst e
      refine ⟨fun i hi => ?_, rfl⟩
      simp only [eN_, up1_if]
      rw [if_neg (by omega), if_neg (by omega)]
    · exact ⟨fun _ _ => rfl, rfl⟩
  have hns : isSt (eC A (aB A k)) = false := by
    revert hd
    unfold hasD isSt
    simp only [Bool.or_eq_true, Bool.and_eq_true, decide_eq_true_eq, Bool.or_eq_false_iff, decide_eq_false_iff_not]
    omega
  have hnc : isCt (eC A (aB A k)) = false := by
    revert hd
    unfold hasD isCt isQn isLp
    simp only [Bool.or_eq_true, Bool.and_eq_true, decide_eq_true_eq, Bool.or_eq_false_iff, decide_eq_false_iff_not]
    omega
  have hsuc : ∀ j, suc (bus1 A k) (aB (bus1 A k) j) = suc A (aB A j) := fun j => by
    rw [suc_eq hSt.P, eB]
    split
    · rename_i e
      subst e
      have ec : eC A (eN (eN (aB A j) 10 101) 4 (aS A 0)) = eC A (aB A j) := rfl
      unfold suc
      rw [ec, hnc]
      simp [eN_, up1_if]
    · rfl
  have hc15 : eC A (aB A k) ≠ 15 := fun z => by rw [z] at hq; cases hq
  refine ⟨?_, hSt.if_ ⟨rfl, rfl, rfl, rfl, rfl⟩ f (fun j _ => hsuc j)⟩
  show IBp (bus1 A k) (aS A 9)
  refine hSt.ibp q (Nat.le_refl _) (Nat.le_refl _) (fun i hi => ?_) (fun i hi => q2.2.2.2.2.2.1 i hi) q3 (fun j hj => ?_) (fun j hj => ?_) (fun j _ => hsuc j) (fun r hr => hR _ (q13 r hr))
  · rw [eN2]
    split
    · exact Nat.le_refl _
    · exact q2.2.2.2.2.1 i hi
  · rw [eB]
    split
    · have ec : eC (bus1 A k) (eN (eN (aB A k) 10 101) 4 (aS A 0)) = eC A (aB A k) := rfl
      unfold DY
      rw [ec, eQ]
      refine ⟨by simp [eN_, up1_if], fun z => absurd (z.symm.trans hq) Bool.false_ne_true, fun _ => hd, fun z => by simp [eN_, up1_if] at z, fun _ => ?_, fun z => by simp [eN_, up1_if] at z, fun _ => ?_⟩
      · show (if (aB A k).1 8 = (aB A k).1 8 then 1 else _) = _
        rw [if_pos rfl]
        rfl
      · refine hcm.to hSt.P rfl rfl rfl rfl rfl rfl rfl rfl (fun _ => rfl) (hR _) (hR _) (fun _ _ => ?_)
        show (if (aB A k).1 8 = (aB A k).1 8 then (aB A k).2.1 2 else _) = _
        rw [if_pos rfl, if_neg hc15]
        rfl
    · rename_i hjk
      refine (q7 j hj).same hSt.P rfl (fun z _ => z) (hR _) (hR _) (fun hdj => ?_)
      have hne : (aB A j).1 8 ≠ (aB A k).1 8 := fun z => hjk (q4.dst_inj hj hk hdj hd z)
      rw [eN2, eV1, if_neg hne, if_neg hne]
      exact ⟨rfl, fun _ => rfl⟩
  · have h0 := q8 j hj
    unfold LD at h0 ⊢
    rw [(hSt.c hj).1]
    intro c1 c2 c3
    have hES : ∀ i a, ES (bus1 A k) i a ↔ ES A i a := fun i a => by
      by_cases e : i = k
      · subst e
        refine ES.iff hSt.P (by rw [eB, if_pos rfl]; rfl) (fun z => ?_) a
        rw [hns] at z
        cases z
      · exact ES.iff hSt.P (by rw [eB, if_neg e]) (fun _ => by rw [eB, if_neg e]; exact ⟨Iff.rfl, fun _ => ⟨rfl, rfl⟩⟩) a
    have hfl : ∀ i, i < j → (aB (bus1 A k) i).1 0 = (aB A i).1 0 ∧ (aB (bus1 A k) i).1 7 = (aB A i).1 7 ∧ (aB (bus1 A k) i).1 13 = (aB A i).1 13 := fun i hi => ⟨hSt.f (by omega) 0, hSt.f (by omega) 7, hSt.f (by omega) 13⟩
    by_cases e : j = k
    · subst e
      have h1 := h0 c1 (by rw [hs]; decide) (by rw [eB, if_pos rfl] at c3; exact c3)
      rw [eB, if_pos rfl]
      refine h1.to q10.2.2 hSt.P rfl rfl hfl (fun i _ => hES i _) (fun i _ z => hR _ z) rfl (Nat.le_refl _) (Nat.le_refl _) (fun i hi => hSt.f hi 13) (fun _ => rfl) (fun z _ => ?_)
      rcases h1 with ⟨-, -, b3⟩ | ⟨g, b1, b2, -⟩
      · exact b3 (Or.inl hs)
      · exact absurd (b1.symm.trans z) (nI_m1 (by have := q10.2.2; omega))
    · rw [eB, if_neg e] at c2 c3 ⊢
      have h1 := h0 c1 c2 c3
      refine h1.to q10.2.2 hSt.P rfl rfl hfl (fun i _ => hES i _) (fun i _ z => hR _ z) rfl (Nat.le_refl _) (Nat.le_refl _) (fun i hi => hSt.f hi 13) (fun _ => rfl) (fun z z2 => ?_)
      rcases h1 with ⟨-, -, b3⟩ | ⟨g, b1, b2, -⟩
      · exact b3 z2
      · exact absurd (b1.symm.trans z) (nI_m1 (by have := q10.2.2; omega))
/-! beginnings -/
theorem cmp_f (A : Sx) (x : Ent) : (∀ i, i ≠ 12 → i ≠ 14 → (cmp A x).1 i = x.1 i) ∧ (cmp A x).1 12 = tpV (eC A x) (eX A x) (eY A x) (eI A x) ∧ (cmp A x).1 14 = (if (isQn (eC A x) && soV (eC A x) (eX A x) (eY A x)) = true then 1 else 0) ∧ (cmp A x).2.1 0 = goV (eC A x) (x.1 0) (eX A x) (eY A x) (eI A x) ∧ (cmp A x).2.1 1 = (if isMm (eC A x) = true ∧ tpV (eC A x) (eX A x) (eY A x) (eI A x) = 0 then eX A x + eI A x else -1) ∧ (cmp A x).2.1 2 = (if tpV (eC A x) (eX A x) (eY A x) (eI A x) = 0 then rsV (eC A x) (x.1 0) (eX A x) (eY A x) (eI A x) else 0) ∧ (cmp A x).2.1 3 = x.2.1 3 ∧ (cmp A x).2.2 = x.2.2 := by
  refine ⟨fun i h1 h2 => ?_, rfl, rfl, rfl, rfl, rfl, rfl, rfl⟩
  unfold cmp
  simp [eN_, eV_, up1_if, h1, h2]
theorem bgW_f (x : Ent) (d c : Nat) : (∀ i, i ≠ 10 → i ≠ 11 → i ≠ 3 → (bgW x d c).1 i = x.1 i) ∧ (bgW x d c).1 10 = 120 ∧ (bgW x d c).1 11 = c + d ∧ (bgW x d c).1 3 = c ∧ (bgW x d c).2 = x.2 := by
  refine ⟨fun i h1 h2 h3 => ?_, rfl, rfl, rfl, rfl⟩
  unfold bgW
  simp [eN_, up1_if, h1, h2, h3]
theorem cmp_CM {x y : Ent} (hc : eC A x ≤ 21) (hq : isQd (eC A x) = true) (ho : opR A x = true) (hy : ∀ i, i = 0 ∨ i = 6 ∨ i = 7 ∨ i = 12 ∨ i = 14 → y.1 i = (cmp A x).1 i) (h0 : y.2.1 0 = (cmp A x).2.1 0) (h1 : y.2.1 1 = (cmp A x).2.1 1) (h2 : eC A x ≠ 9 ∨ (cmp A x).1 12 ≠ 0 → y.2.1 2 = (cmp A x).2.1 2) (h10 : y.1 10 ≠ 101) : CM A y := by
  obtain ⟨f1, f2, f3, f4, f5, f6, f7, f8⟩ := cmp_f A x
  have e0 : y.1 0 = x.1 0 := (hy 0 (by omega)).trans (f1 0 (by decide) (by decide))
  have e6 : y.1 6 = x.1 6 := (hy 6 (by omega)).trans (f1 6 (by decide) (by decide))
  have e7 : y.1 7 = x.1 7 := (hy 7 (by omega)).trans (f1 7 (by decide) (by decide))
  have e12 : y.1 12 = tpV (eC A x) (eX A x) (eY A x) (eI A x) := (hy 12 (by omega)).trans f2
  have ec : eC A y = eC A x := by unfold eC; rw [e0]
  have ei : eI A y = eI A x := by unfold eI; rw [e0]
  have eX' : opX A y = if nX (eC A x) = true then eX A x else 0 := by unfold opX eX; rw [ec, e6]
  have eY' : opY A y = if nB (eC A x) = true then eY A x else 0 := by unfold opY eY; rw [ec, e7]
  have h21 : eC A x ≠ 21 := fun z => by rw [z] at hq; cases hq
  unfold opR at ho
  simp only [Bool.and_eq_true, Bool.or_eq_true, Bool.not_eq_true', decide_eq_true_eq] at ho
  unfold CM
  rw [ec, ei, e0, e6, e7, e12, hy 14 (by omega), h0, h1, eX', eY', f3, f4, f5, ← tpV_n _ _ _ _ hc, ← goV_n _ _ _ _ _ hc, ← soV_n _ _ _ hc]
  refine ⟨fun z => ?_, fun z => ?_, ?_, rfl, rfl, ?_, fun z1 z2 => ?_, fun z1 z2 => ?_, fun z => absurd z h10⟩
  · rcases ho.1 with h | h
    · unfold nA at h
      unfold nX at z
      simp only [decide_eq_false_iff_not, Classical.not_not, ne_eq] at h
      rw [h] at z
      cases z
    · exact h
  · rcases ho.2 with h | h
    · rw [h] at z
      cases z
    · exact h
  · rw [if_neg (fun z => h21 z.1)]
  · split
    · rename_i z
      exact mm_n _ _ _ hc z.1
    · rfl
  · rw [h2 (Or.inl z1), f6]
    split
    · exact rsV_n _ _ _ _ _ hc
    · rfl
  · rw [h2 (Or.inr (by rw [f2]; exact z2)), f6, if_neg z2]
/-- an instruction begins: of all that the kinds of beginning have alike -/
theorem bgn_ib {A' : Sx} {k : Nat} {y : Ent} (q : IB A) (f : IF A) (hk : k < aS A 9) (hs : (aB A k).1 10 = 113) (hSt : St A A') (hN : aN A' = aN A) (hV : aV A' = aV A) (hB : aB A' = aB A) (hFr : Fr A A') (hQK : QK A') (hl : ∀ l, l ∈ (aQ A).map (·.1) → l ∈ (aQ A').map (·.1))
    (hy : ∀ i, (i = 0 ∨ i = 5 ∨ i = 6 ∨ i = 7 ∨ i = 8 ∨ i = 9 ∨ i = 13) → y.1 i = (aB A k).1 i) (hy2 : y.2.2 = (aB A k).2.2) (hst : y.1 10 = 120 ∨ (y.1 10 = 109 ∧ eC A (aB A k) = 9 ∧ y.1 12 = 0 ∧ lineOf y ∈ (aQ A').map (·.1) ∧ y.2.1 3 = -1)) (hcm : CM A y) (hld : eC A (aB A k) = 9 → y.1 12 = 0 → LDr A k y) : IB (zB A' k y) ∧ IF (zB A' k y) := by
  obtain ⟨q1, q2, q3, q4, q5, q6, q7, q8, q9, q10, q11, q12, q13, q14, q15⟩ := id q
  obtain ⟨d1, d2, d3, d4, d5, d6, d7⟩ := q7 k hk
  have hq : isQd (eC A (aB A k)) = true := by
    cases h : isQd (eC A (aB A k)) with
    | true => rfl
    | false => have := d2 h; omega
  have hSt2 : St A (zB A' k y) := hSt.trans (St.zB0 (fun i hi => by rw [hB]; exact hy i hi) (by rw [hB]; exact hy2))
  have eB : ∀ j, aB (zB A' k y) j = if j = k then y else aB A j := fun j => by
    show (if j = k then y else aB A' j) = _
    rw [hB]
  have h2 : aN (zB A' k y) = aN A := hN
  have h1 : aV (zB A' k y) = aV A := hV
  have hQ : aQ (zB A' k y) = aQ A' := rfl
  have hR : ∀ i, aN A 2 i = 1 → aN (zB A' k y) 2 i = 1 ∧ aV (zB A' k y) 1 i = aV A 1 i := fun i hi => by rw [h2, h1]; exact ⟨hi, rfl⟩
  have hn101 : y.1 10 ≠ 101 := by
    rcases hst with h | h
    · rw [h]; decide
    · rw [h.1]; decide
  have ecy : eC (zB A' k y) y = eC A (aB A k) := (hSt2.P.c (hy 0 (by omega))).1
  have hsuc : ∀ j, suc (zB A' k y) (aB (zB A' k y) j) = suc A (aB A j) := fun j => by
    rw [suc_eq hSt2.P, eB]
    split
    · rename_i e
      subst e
      unfold suc
      rw [if_neg (fun z => hn101 z.2.1), if_neg (fun z => by have := z.2.1; omega)]
      exact hy 5 (by omega)
    · rfl
  refine ⟨?_, hSt2.if_ hFr f (fun j _ => hsuc j)⟩
  have h9 : aS (zB A' k y) 9 = aS A 9 := hSt2.S 9
  unfold IB
  rw [h9]
  refine hSt2.ibp q (Nat.le_refl _) (Nat.le_refl _) (fun i hi => by rw [h2]; exact q2.2.2.2.2.1 i hi) (fun i hi => by rw [h2]; exact q2.2.2.2.2.2.1 i hi) hQK (fun j hj => ?_) (fun j hj => ?_) (fun j _ => hsuc j) (fun r hr => hR _ (q13 r hr))
  · rw [eB]
    split
    · unfold DY
      rw [ecy, h2, hy 8 (by omega), hQ]
      refine ⟨by rcases hst with h | h <;> simp [h], fun z => absurd (z.symm.trans hq) Bool.false_ne_true, fun z => by rcases hst with h | h <;> simp [h] at z, fun z => ?_, fun z => ?_, fun z => by rcases hst with h | h <;> simp [h] at z, fun _ => ?_⟩
      · rcases hst with h | h
        · rw [h] at z
          cases z
        · exact h.2
      · rw [d5 z, hs, if_neg hn101]
        rfl
      · exact hcm.to hSt2.P (hSt2.S 3) rfl rfl rfl rfl rfl rfl rfl (fun _ => rfl) (hR _) (hR _) (fun z => absurd z hn101)
    · exact (q7 j hj).same hSt2.P (hSt2.S 3) (fun z _ => hl _ z) (hR _) (hR _) (fun _ => by rw [h2, h1]; exact ⟨rfl, fun _ => rfl⟩)
  · have h0 := q8 j hj
    unfold LD at h0 ⊢
    rw [(hSt2.c hj).1]
    intro c1 c2 c3
    have hES : ∀ i a, ES (zB A' k y) i a ↔ ES A i a := fun i a => by
      by_cases e : i = k
      · subst e
        refine ⟨fun z => ?_, fun z => ?_⟩
        · have := z.2.1
          rw [eB, if_pos rfl] at this
          exact absurd this hn101
        · have := z.2.1
          omega
      · exact ES.iff hSt2.P (by rw [eB, if_neg e]) (fun _ => by rw [eB, if_neg e]; exact ⟨Iff.rfl, fun _ => ⟨rfl, rfl⟩⟩) a
    have hfl : ∀ i, i < j → (aB (zB A' k y) i).1 0 = (aB A i).1 0 ∧ (aB (zB A' k y) i).1 7 = (aB A i).1 7 ∧ (aB (zB A' k y) i).1 13 = (aB A i).1 13 := fun i hi => ⟨hSt2.f (by omega) 0, hSt2.f (by omega) 7, hSt2.f (by omega) 13⟩
    have key : ∀ x : Ent, LDr A j x → LDr (zB A' k y) j x := fun x h1x => by
      refine h1x.to q10.2.2 hSt2.P rfl rfl hfl (fun i _ => hES i _) (fun i _ z => hR _ z) (by rw [h1]) (by rw [hSt2.S 6]; exact Nat.le_refl _) (by rw [h9]; exact Nat.le_refl _) (fun i hi => hSt2.f (by rw [h9] at hi; exact hi) 13) (fun _ => rfl) (fun z z2 => ?_)
      rcases h1x with ⟨-, -, b3⟩ | ⟨g, b1, b2, -⟩
      · exact b3 z2
      · exact absurd (b1.symm.trans z) (nI_m1 (by have := q10.2.2; omega))
    rw [eB] at c2 c3 ⊢
    by_cases e : j = k
    · subst e
      rw [if_pos rfl] at c2 c3 ⊢
      exact key _ (hld c1 c3)
    · rw [if_neg e] at c2 c3 ⊢
      exact key _ (h0 c1 c2 c3)
theorem lstS_s {a : Int32} {j : Nat} : ∀ {k : Nat}, lstS A a k = some j → j < k ∧ ES A j a ∧ ∀ i, j < i → i < k → ¬ ES A i a
  | 0, h => by cases h
  | k + 1, h => by
    unfold lstS at h
    split at h
    · rename_i hw
      cases h
      exact ⟨Nat.lt_succ_self _, hw, fun i h1 h2 => by omega⟩
    · rename_i hw
      obtain ⟨h1, h2, h3⟩ := lstS_s h
      refine ⟨by omega, h2, fun i g1 g2 => ?_⟩
      by_cases e : i = k
      · rw [e]; exact hw
      · exact h3 i g1 (by omega)
theorem lstS_n {a : Int32} : ∀ {k : Nat}, lstS A a k = none → ∀ i, i < k → ¬ ES A i a
  | 0, _, i, h => absurd h (Nat.not_lt_zero _)
  | k + 1, h, i, hi => by
    unfold lstS at h
    split at h
    · cases h
    · rename_i hw
      by_cases e : i = k
      · rw [e]; exact hw
      · exact lstS_n h i (by omega)
theorem bg1_ib {k : Nat} (q : IB A) (f : IF A) (hk : k < aS A 9) (hs : (aB A k).1 10 = 113) (ho : opR A (aB A k) = true) (h : bg1 A k = some B) : IB B ∧ IF B := by
  obtain ⟨q1, q2, q3, q4, q5, q6, q7, q8, q9, q10, q11, q12, q13, q14, q15⟩ := id q
  obtain ⟨d1, d2, d3, d4, d5, d6, d7⟩ := q7 k hk
  have hq : isQd (eC A (aB A k)) = true := by
    cases h : isQd (eC A (aB A k)) with
    | true => rfl
    | false => have := d2 h; omega
  have hfr : (aB A k).2.1 3 = -1 := d6 hs
  have hp := q1.p (q6 k hk).1
  have hc : eC A (aB A k) ≤ 21 := hp.2.1
  obtain ⟨f1, f2, f3, f4, f5, f6, f7, f8⟩ := cmp_f A (aB A k)
  have ecm : eC A (cmp A (aB A k)) = eC A (aB A k) := by
    unfold eC
    rw [f1 0 (by decide) (by decide)]
  have stat : ∀ i, (i = 0 ∨ i = 5 ∨ i = 6 ∨ i = 7 ∨ i = 8 ∨ i = 9 ∨ i = 13) → (cmp A (aB A k)).1 i = (aB A k).1 i := fun i hi => f1 i (by omega) (by omega)
  unfold bg1 at h
  dsimp only at h
  rw [ecm] at h
  split at h
  · rename_i hld
    obtain ⟨h9, ht⟩ := hld
    have hmm : isMm (eC A (aB A k)) = true := by rw [h9]; rfl
    have hal : adok ((cmp A (aB A k)).2.1 1) = true := by
      rw [f5, if_pos ⟨hmm, by rw [← f2]; exact ht⟩]
      rw [f2] at ht
      unfold tpV at ht
      rw [if_neg (by omega), if_pos hmm] at ht
      split at ht
      · assumption
      · cases ht
    have hline : lineOf (cmp A (aB A k)) < 16 := by
      obtain ⟨-, e2⟩ := adok_e hal
      unfold lineOf
      omega
    unfold ldB at h
    split at h
    · cases h
    · split at h
      · rename_i j hj
        obtain ⟨j1, j2, j3⟩ := lstS_s hj
        dsimp only at h
        split at h
        · cases h
        · rename_i hno
          cases h
          have h11 : eC A (aB A j) ≠ 11 := fun z => hno (Or.inl z)
          have hrd : aN A 2 ((aB A j).1 7) = 1 := Classical.byContradiction fun z => hno (Or.inr z)
          have h10 : eC A (aB A j) = 10 := by
            have := j2.1
            unfold isSt at this
            simp only [Bool.or_eq_true, decide_eq_true_eq] at this
            omega
          obtain ⟨w1, w2, w3, w4, w5⟩ := bgW_f (eV (eV (cmp A (aB A k)) 2 (eY A (aB A j))) 3 (nI ((aB A j).1 13))) 1 (aS A 0)
          refine bgn_ib q f hk hs (St.zS0 rfl) rfl rfl rfl ⟨rfl, rfl, rfl, rfl, rfl⟩ q3 (fun l hl => hl) (fun i hi => ?_) (by rw [w5]; exact f8) (Or.inl w2) (cmp_CM hc hq ho (fun i hi => ?_) (by rw [w5]; rfl) (by rw [w5]; rfl) (fun z => z.elim (fun z => absurd h9 z) (fun z => absurd ht z)) (by rw [w2]; decide)) (fun _ _ => ?_)
          · rw [w1 i (by omega) (by omega) (by omega)]
            exact stat i hi
          · rw [w1 i (by omega) (by omega) (by omega)]
            rfl
          · refine Or.inr ⟨(aB A j).1 13, by rw [w5]; rfl, q10.2.1 j (by omega), Or.inl ⟨j, j1, rfl, ?_, h10, hrd, by rw [w5]; rfl, ?_⟩⟩
            · rw [w5]
              exact j2
            · rw [w5]
              exact j3
      · rename_i hj
        have hno := lstS_n hj
        have hLD : ∀ y : Ent, y.2.1 3 = -1 → y.2.1 1 = (cmp A (aB A k)).2.1 1 → (y.1 10 = 120 ∨ y.1 10 = 109) → LDr A k y := fun y a b c => Or.inl ⟨a, fun i hi => by rw [b]; exact hno i hi, fun z => by omega⟩
        split at h
        · cases h
          obtain ⟨w1, w2, w3, w4, w5⟩ := bgW_f (cmp A (aB A k)) 2 (aS A 0)
          refine bgn_ib q f hk hs (St.zS0 rfl) rfl rfl rfl ⟨rfl, rfl, rfl, rfl, rfl⟩ q3 (fun l hl => hl) (fun i hi => ?_) (by rw [w5]; exact f8) (Or.inl w2) (cmp_CM hc hq ho (fun i hi => ?_) (by rw [w5]) (by rw [w5]) (fun _ => by rw [w5]) (by rw [w2]; decide)) (fun _ _ => hLD _ (by rw [w5, f7]; exact hfr) (by rw [w5]) (Or.inl w2))
          · rw [w1 i (by omega) (by omega) (by omega)]
            exact stat i hi
          · rw [w1 i (by omega) (by omega) (by omega)]
        · obtain ⟨w1, w2, w3, w4, w5⟩ := bgW_f (cmp A (aB A k)) 0 (aS A 0)
          have z1 : ∀ i, i ≠ 10 → i ≠ 11 → i ≠ 3 → (eN (bgW (cmp A (aB A k)) 0 (aS A 0)) 10 109).1 i = (cmp A (aB A k)).1 i := fun i a b c => (up1_ne _ _ a).trans (w1 i a b c)
          have z2 : (eN (bgW (cmp A (aB A k)) 0 (aS A 0)) 10 109).1 10 = 109 := rfl
          have z3 : (eN (bgW (cmp A (aB A k)) 0 (aS A 0)) 10 109).2 = (cmp A (aB A k)).2 := w5
          have z4 : lineOf (eN (bgW (cmp A (aB A k)) 0 (aS A 0)) 10 109) = lineOf (cmp A (aB A k)) := by
            unfold lineOf
            rw [z3]
          split at h
          · rename_i hin
            cases h
            refine bgn_ib q f hk hs St.refl0 rfl rfl rfl ⟨rfl, rfl, rfl, rfl, rfl⟩ q3 (fun l hl => hl) (fun i hi => ?_) (by rw [z3]; exact f8) (Or.inr ⟨z2, h9, ?_, by rw [z4]; exact hin, by rw [z3, f7]; exact hfr⟩) (cmp_CM hc hq ho (fun i hi => z1 i (by omega) (by omega) (by omega)) (by rw [z3]) (by rw [z3]) (fun _ => by rw [z3]) (by rw [z2]; decide)) (fun _ _ => hLD _ (by rw [z3, f7]; exact hfr) (by rw [z3]) (Or.inr z2))
            · rw [z1 i (by omega) (by omega) (by omega)]
              exact stat i hi
            · rw [z1 12 (by decide) (by decide) (by decide)]
              exact ht
          · rename_i hin
            split at h
            · cases h
            · rename_i hlen
              cases h
              refine bgn_ib q f hk hs (St.zQ0.trans (St.zS0 rfl)) rfl rfl rfl ⟨rfl, rfl, rfl, rfl, rfl⟩ ?_ (fun l hl => ?_) (fun i hi => ?_) (by rw [z3]; exact f8) (Or.inr ⟨z2, h9, ?_, ?_, by rw [z3, f7]; exact hfr⟩) (cmp_CM hc hq ho (fun i hi => z1 i (by omega) (by omega) (by omega)) (by rw [z3]) (by rw [z3]) (fun _ => by rw [z3]) (by rw [z2]; decide)) (fun _ _ => hLD _ (by rw [z3, f7]; exact hfr) (by rw [z3]) (Or.inr z2))
              · obtain ⟨b1, b2, b3⟩ := q3
                refine ⟨?_, fun z hz => ?_, ?_⟩
                · show (aQ A ++ [_]).length ≤ 2
                  rw [List.length_append]
                  show _ + 1 ≤ 2
                  omega
                · rcases List.mem_append.mp (show z ∈ aQ A ++ [_] from hz) with g | g
                  · exact b2 z g
                  · rw [List.mem_singleton.mp g]
                    exact hline
                · show ((aQ A ++ [_]).map (fun z : Nat × Nat => z.1)).Nodup
                  rw [List.map_append]
                  refine List.nodup_append.mpr ⟨b3, by simp, fun a ha b hb => ?_⟩
                  rw [List.map_singleton] at hb
                  rw [List.mem_singleton.mp hb]
                  intro z
                  rw [z] at ha
                  exact hin ha
              · show l ∈ (aQ A ++ [_]).map (fun z : Nat × Nat => z.1)
                rw [List.map_append]
                exact List.mem_append.mpr (Or.inl hl)
              · rw [z1 i (by omega) (by omega) (by omega)]
                exact stat i hi
              · rw [z1 12 (by decide) (by decide) (by decide)]
                exact ht
              · show _ ∈ (aQ A ++ [_]).map (fun z : Nat × Nat => z.1)
                rw [List.map_append, z4]
                exact List.mem_append.mpr (Or.inr (by simp))
  · rename_i hld
    cases h
    obtain ⟨w1, w2, w3, w4, w5⟩ := bgW_f (cmp A (aB A k)) (dly (eC A (aB A k))) (aS A 0)
    refine bgn_ib q f hk hs St.refl0 rfl rfl rfl ⟨rfl, rfl, rfl, rfl, rfl⟩ q3 (fun l hl => hl) (fun i hi => ?_) (by rw [w5]; exact f8) (Or.inl w2) (cmp_CM hc hq ho (fun i hi => ?_) (by rw [w5]) (by rw [w5]) (fun _ => by rw [w5]) (by rw [w2]; decide)) (fun z1 z2 => ?_)
    · rw [w1 i (by omega) (by omega) (by omega)]
      exact stat i hi
    · rw [w1 i (by omega) (by omega) (by omega)]
    · rw [w1 12 (by decide) (by decide) (by decide)] at z2
      exact absurd ⟨z1, z2⟩ hld
end BUS
