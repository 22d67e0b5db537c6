theorem zN_ne (A : Sx) {r j : Nat} (k n : Nat) (h : j ≠ r) : aN (zN A r k n) j = aN A j := up2_ne (aN A) k n h
theorem zV_ne (A : Sx) {r j : Nat} (k : Nat) (v : Int32) (h : j ≠ r) : aV (zV A r k v) j = aV A j := up2_ne (aV A) k v h
section ENDT
variable {A B : Sx}
def endY (A : Sx) (k : Nat) : Ent :=
  let x := aB A k
  let x1 := if eC A x = 9 ∧ x.2.1 3 = -1 ∧ x.1 12 = 0 then eV x 2 (aV A 2 (x.2.1 1).toNatClampNeg) else x
  if hasD (eC A x) then eN x1 10 98 else eN (eN x 10 101) 4 (aS A 0)
theorem endDl_eq (A : Sx) (k : Nat) : endDl A k = zB A k (endY A k) := by
  unfold endDl endY
  dsimp only
  split <;> rfl
theorem endY_f (A : Sx) (k : Nat) : (∀ i, i ≠ 10 → i ≠ 4 → (endY A k).1 i = (aB A k).1 i) ∧ (endY A k).2.2 = (aB A k).2.2 ∧ (∀ i, i ≠ 2 → (endY A k).2.1 i = (aB A k).2.1 i) ∧ (hasD (eC A (aB A k)) = true → (endY A k).1 10 = 98) ∧ (hasD (eC A (aB A k)) = false → (endY A k).1 10 = 101 ∧ (endY A k).2.1 2 = (aB A k).2.1 2) ∧
    (eC A (aB A k) = 9 → (aB A k).2.1 3 = -1 → (aB A k).1 12 = 0 → (endY A k).2.1 2 = aV A 2 ((aB A k).2.1 1).toNatClampNeg) ∧ (¬ (eC A (aB A k) = 9 ∧ (aB A k).2.1 3 = -1 ∧ (aB A k).1 12 = 0) → (endY A k).2.1 2 = (aB A k).2.1 2) := by
  unfold endY
  dsimp only
  cases hd : hasD (eC A (aB A k))
  · simp only [Bool.false_eq_true, ↓reduceIte]
    refine ⟨fun i h1 h2 => ?_, rfl, fun _ _ => rfl, fun h => (by cases h), fun _ => ⟨rfl, rfl⟩, fun h => ?_, fun _ => rfl⟩
    · simp [eN_, up1_if, h1, h2]
    · rw [h] at hd
      cases hd
  · simp only [↓reduceIte]
    refine ⟨fun i h1 h2 => ?_, ?_, fun i h => ?_, fun _ => rfl, fun h => (by cases h), fun h1 h2 h3 => ?_, fun h => ?_⟩
    · split <;> simp [eN_, eV_, up1_if, h1]
    · split <;> simp [eN_, eV_]
    · split <;> simp [eN_, eV_, up1_if, h]
    · simp [h1, h2, h3, eN_, eV_, up1_if]
    · simp [h, eN_]
theorem endDl_St (A : Sx) (k : Nat) : St A (endDl A k) := by
  rw [endDl_eq]
  obtain ⟨h1, h2, -⟩ := endY_f A k
  exact St.zB0 (fun i hi => h1 i (by omega) (by omega)) h2
/-- an entry's delay ends: of the buffer's first n entries -/
theorem endDl_ib {n k : Nat} (q : IB A) (hk : k < aS A 9) (hs : (aB A k).1 10 = 120) (hn : n ≤ aS A 9)
    (hld : isSt (eC A (aB A k)) = true → (aB A k).1 12 = 0 → ∀ i, k < i → i < n → eC A (aB A i) = 9 → (aB A i).1 10 ≠ 113 → (aB A i).2.1 1 = (aB A k).2.1 1 → ¬ (aB A i).2.1 3 < nI ((aB A k).1 13))
    (hsu : isCt (eC A (aB A k)) = true → (aB A k).1 12 = 0 → (aB A k).2.1 0 ≠ nI ((aB A k).1 5) → n ≤ k + 1) : IBp (endDl A k) n := by
  obtain ⟨q1, q2, q3, q4, q5, q6, q7, q8, q9, q10, q11, q12, q13, q14, q15⟩ := id q
  obtain ⟨y1, y2, y3, y4, y5, y6, y7⟩ := endY_f A k
  have hSt := endDl_St A k
  obtain ⟨d1, d2, d3, d4, d5, d6, d7⟩ := q7 k hk
  have hq : isQd (eC A (aB A k)) = true := by
    cases h : isQd (eC A (aB A k)) with
    | true => rfl
    | false => have := d2 h; omega
  have hc := d7 (by omega)
  have eB : ∀ j, aB (endDl A k) j = if j = k then endY A k else aB A j := fun j => by rw [endDl_eq]; rfl
  have hN : aN (endDl A k) = aN A := by rw [endDl_eq]; rfl
  have hV : aV (endDl A k) = aV A := by rw [endDl_eq]; rfl
  have hS : aS (endDl A k) = aS A := by rw [endDl_eq]; rfl
  have hQ : aQ (endDl A k) = aQ A := by rw [endDl_eq]; rfl
  have hg2 : eC A (aB A k) ≠ 9 ∨ (aB A k).1 12 ≠ 0 → (endY A k).2.1 2 = (aB A k).2.1 2 := fun h => y7 (fun z => h.elim (fun z2 => z2 z.1) (fun z2 => z2 z.2.2))
  have hcm : CM (endDl A k) (endY A k) := by
    refine hc.to hSt.P (hSt.S 3) (y1 0 (by decide) (by decide)) (y1 6 (by decide) (by decide)) (y1 7 (by decide) (by decide)) (y1 12 (by decide) (by decide)) (y1 14 (by decide) (by decide)) (y3 0 (by decide)) (y3 1 (by decide)) hg2 (fun z => by rw [hN, hV]; exact ⟨z, rfl⟩) (fun z => by rw [hN, hV]; exact ⟨z, rfl⟩) (fun z1 z2 => ?_)
    rw [y4 z2] at z1
    cases z1
  have ecy : eC (endDl A k) (endY A k) = eC A (aB A k) := (hSt.P.c (y1 0 (by decide) (by decide))).1
  refine hSt.ibp q hn (Nat.le_refl _) (fun j hj => by rw [hN]; exact q2.2.2.2.2.1 j hj) (fun j hj => by rw [hN]; exact q2.2.2.2.2.2.1 j hj) ?_ (fun j hj => ?_) (fun j hj => ?_) (fun j hj => ?_) (fun r hr => by rw [hN, hV]; exact ⟨q13 r hr, rfl⟩)
  · unfold QK at q3 ⊢
    rw [hQ]
    exact q3
  · rw [eB]
    split
    · rename_i e
      unfold DY
      rw [ecy, hN, y1 8 (by decide) (by decide), y3 3 (by decide), hQ]
      cases hd : hasD (eC A (aB A k))
      · rw [(y5 hd).1]
        exact ⟨by simp, fun z => absurd (z.symm.trans hq) Bool.false_ne_true, fun z => by simp at z, fun z => by simp at z, fun z => (by cases z), fun z => by simp at z, fun _ => hcm⟩
      · rw [y4 hd]
        refine ⟨by simp, fun z => absurd (z.symm.trans hq) Bool.false_ne_true, fun _ => rfl, fun z => by simp at z, fun _ => ?_, fun z => by simp at z, fun _ => hcm⟩
        rw [d5 hd, hs]
        rfl
    · exact (q7 j (by omega)).eq hSt.P (hSt.S 3) (by rw [hN]) (by rw [hV]) hQ
  · have h0 := q8 j (by omega)
    unfold LD at h0 ⊢
    rw [(hSt.c (show j < aS A 9 by omega)).1]
    intro c1 c2 c3
    rw [eB] at c2 c3
    have hES : ∀ i, i ≠ k ∨ isSt (eC A (aB A k)) = false → ∀ a, ES (endDl A k) i a ↔ ES A i a := fun i hi a => by
      rcases hi with hi | hi
      · exact ES.iff hSt.P (by rw [eB, if_neg hi]) (fun _ => by rw [eB, if_neg hi]; exact ⟨Iff.rfl, fun _ => ⟨rfl, rfl⟩⟩) a
      · by_cases e : i = k
        · subst e
          refine ES.iff hSt.P (by rw [eB, if_pos rfl]; exact y1 0 (by decide) (by decide)) (fun z => ?_) a
          rw [hi] at z
          cases z
        · exact ES.iff hSt.P (by rw [eB, if_neg e]) (fun _ => by rw [eB, if_neg e]; exact ⟨Iff.rfl, fun _ => ⟨rfl, rfl⟩⟩) a
    have hfl : ∀ i, i < j → (aB (endDl A k) i).1 0 = (aB A i).1 0 ∧ (aB (endDl A k) i).1 7 = (aB A i).1 7 ∧ (aB (endDl A k) i).1 13 = (aB A i).1 13 := fun i hi => ⟨hSt.f (by omega) 0, hSt.f (by omega) 7, hSt.f (by omega) 13⟩
    by_cases e : j = k
    · subst e
      rw [if_pos rfl] at c2 c3
      rw [y1 12 (by decide) (by decide)] at c3
      have h1 := h0 c1 (by rw [hs]; decide) c3
      rw [eB, if_pos rfl]
      refine h1.to q10.2.2 hSt.P (y3 3 (by decide)) (y3 1 (by decide)) hfl (fun i hi => hES i (Or.inl (by omega)) _) (fun i _ z => by rw [hN, hV]; exact ⟨z, rfl⟩) (by rw [hV]) (by rw [hS]; exact Nat.le_refl _) (by rw [hS]; exact Nat.le_refl _) (fun i hi => hSt.f (by rw [hS] at hi; exact hi) 13) (fun z => y7 (fun w => z w.2.1)) (fun z _ => y6 c1 z c3)
    · rw [if_neg e] at c2 c3
      have h1 := h0 c1 c2 c3
      rw [eB, if_neg e]
      by_cases hst : isSt (eC A (aB A k)) = true ∧ k < j
      · obtain ⟨hst, hkj⟩ := hst
        by_cases ha : (aB A k).1 12 = 0 ∧ (aB A j).2.1 1 = (aB A k).2.1 1
        · have h2 := hld hst ha.1 j hkj hj c1 c2 ha.2
          have hnum := q10.2.1 k hk
          have hle := q10.2.2
          rcases h1 with ⟨b1, -⟩ | ⟨g, b1, b2, b3⟩
          · exact absurd (by rw [b1]; exact Int32.lt_iff_toInt_lt.mpr (by rw [nI_toInt (by omega)]; have h9 : (-1 : Int32).toInt = -1 := (by decide); omega)) h2
          · have h3 : ¬ g < (aB A k).1 13 := fun z => h2 (by rw [b1]; exact nI_lt z (by omega))
            rcases b3 with ⟨i, e1, e2, e3, e4, e5, e6, e7⟩ | ⟨e1, -⟩
            · have hik : i ≠ k := fun z => by
                rw [z] at e3
                have := e3.2.1
                omega
              have hki : k < i := by
                rcases Nat.lt_trichotomy i k with z | z | z
                · have := q10.1 i k z hk
                  omega
                · exact absurd z hik
                · exact z
              have ei : aB (endDl A k) i = aB A i := by rw [eB, if_neg hik]
              refine Or.inr ⟨g, b1, by rw [hS]; exact b2, Or.inl ⟨i, e1, by rw [ei]; exact e2, (hES i (Or.inl hik) _).mpr e3, by rw [ei, (hSt.P.c (x := aB A i) rfl).1]; exact e4, by rw [hN, ei]; exact e5, by rw [ei]; unfold eY at e6 ⊢; rw [hV]; exact e6, fun m hm1 hm2 z => e7 m hm1 hm2 ((hES m (Or.inl (by omega)) _).mp z)⟩⟩
            · exact absurd (e1 k hk) h3
        · refine h1.to q10.2.2 hSt.P rfl rfl hfl (fun i hi => ?_) (fun i _ z => by rw [hN, hV]; exact ⟨z, rfl⟩) (by rw [hV]) (by rw [hS]; exact Nat.le_refl _) (by rw [hS]; exact Nat.le_refl _) (fun i hi => hSt.f (by rw [hS] at hi; exact hi) 13) (fun _ => rfl) (fun z z2 => ?_)
          · by_cases hik : i = k
            · subst hik
              refine ⟨fun z => ?_, fun z => ?_⟩
              · obtain ⟨z1, z2, z3, z4⟩ := z
                rw [eB, if_pos rfl, y1 12 (by decide) (by decide)] at z3
                rw [eB, if_pos rfl, y3 1 (by decide)] at z4
                exact absurd ⟨z3, z4.symm⟩ ha
              · have := z.2.1
                omega
            · exact hES i (Or.inl hik) _
          · rcases h1 with ⟨-, -, b3⟩ | ⟨g, b1, b2, -⟩
            · exact b3 z2
            · exact absurd (b1.symm.trans z) (nI_m1 (by have := q10.2.2; omega))
      · refine h1.to q10.2.2 hSt.P rfl rfl hfl (fun i hi => hES i (by
          by_cases hik : i = k
          · refine Or.inr ?_
            cases h9 : isSt (eC A (aB A k)) with
            | false => rfl
            | true => exact absurd ⟨h9, by omega⟩ hst
          · exact Or.inl hik) _) (fun i _ z => by rw [hN, hV]; exact ⟨z, rfl⟩) (by rw [hV]) (by rw [hS]; exact Nat.le_refl _) (by rw [hS]; exact Nat.le_refl _) (fun i hi => hSt.f (by rw [hS] at hi; exact hi) 13) (fun _ => rfl) (fun z z2 => ?_)
        rcases h1 with ⟨-, -, b3⟩ | ⟨g, b1, b2, -⟩
        · exact b3 z2
        · exact absurd (b1.symm.trans z) (nI_m1 (by have := q10.2.2; omega))
  · rw [suc_eq hSt.P, eB]
    split
    · rename_i e
      subst e
      have ec : eC A (endY A j) = eC A (aB A j) := by
        unfold eC
        rw [y1 0 (by decide) (by decide)]
      unfold suc
      rw [ec, y1 12 (by decide) (by decide), y1 5 (by decide) (by decide), y3 0 (by decide), hs]
      rw [if_neg (show ¬ (isCt (eC A (aB A j)) = true ∧ (120 : Nat) = 101 ∧ (aB A j).1 12 = 0) by simp)]
      split
      · rename_i h
        have h2 : (aB A j).2.1 0 = nI ((aB A j).1 5) := Classical.byContradiction fun z => by
          have := hsu h.1 h.2.2 z
          omega
        rw [h2, nI_clamp (by have := (q6 j hk).2.1; omega)]
      · rfl
    · rfl
theorem endDl_if {k : Nat} (q : IB A) (f : IF A) (hk : k < aS A 9) (hs : (aB A k).1 10 = 120) (hsu : ¬ (isCt (eC A (aB A k)) = true ∧ (aB A k).1 12 = 0 ∧ (aB A k).2.1 0 ≠ nI ((aB A k).1 5))) : IF (endDl A k) := by
  obtain ⟨y1, y2, y3, y4, y5, y6, y7⟩ := endY_f A k
  have hSt := endDl_St A k
  have eB : ∀ j, aB (endDl A k) j = if j = k then endY A k else aB A j := fun j => by rw [endDl_eq]; rfl
  refine hSt.if_ (by rw [endDl_eq]; exact ⟨rfl, rfl, rfl, rfl, rfl⟩) f (fun j hj => ?_)
  rw [suc_eq hSt.P, eB]
  split
  · rename_i e
    subst e
    have ec : eC A (endY A j) = eC A (aB A j) := by
      unfold eC
      rw [y1 0 (by decide) (by decide)]
    unfold suc
    rw [ec, y1 12 (by decide) (by decide), y1 5 (by decide) (by decide), y3 0 (by decide), hs]
    rw [if_neg (show ¬ (isCt (eC A (aB A j)) = true ∧ (120 : Nat) = 101 ∧ (aB A j).1 12 = 0) by simp)]
    split
    · rename_i h
      have h2 : (aB A j).2.1 0 = nI ((aB A j).1 5) := Classical.byContradiction fun z => hsu ⟨h.1, h.2.2, z⟩
      rw [h2, nI_clamp (by have := (q.2.2.2.2.2.1 j hk).2.1; omega)]
    · rfl
  · rfl
/-- the oldest younger load that went ahead wrongly -/
abbrev Wl (A : Sx) (a : Int32) (num i : Nat) : Prop := eC A (aB A i) = 9 ∧ (aB A i).1 10 ≠ 113 ∧ (aB A i).2.1 1 = a ∧ (aB A i).2.1 3 < nI num
theorem findLd_s {a : Int32} {num j : Nat} : ∀ {n k : Nat}, findLd A a num n k = some j → k ≤ j ∧ j < k + n ∧ Wl A a num j ∧ ∀ i, k ≤ i → i < j → ¬ Wl A a num i
  | 0, _, h => by cases h
  | n + 1, k, h => by
    unfold findLd at h
    split at h
    · rename_i hw
      cases h
      exact ⟨Nat.le_refl _, by omega, hw, fun i h1 h2 => by omega⟩
    · rename_i hw
      obtain ⟨h1, h2, h3, h4⟩ := findLd_s h
      refine ⟨by omega, by omega, h3, fun i g1 g2 => ?_⟩
      by_cases e : i = k
      · rw [e]; exact hw
      · exact h4 i (by omega) g2
theorem findLd_n {a : Int32} {num : Nat} : ∀ {n k : Nat}, findLd A a num n k = none → ∀ i, k ≤ i → i < k + n → ¬ Wl A a num i
  | 0, k, _, i, h1, h2 => by omega
  | n + 1, k, h, i, h1, h2 => by
    unfold findLd at h
    split at h
    · cases h
    · rename_i hw
      by_cases e : i = k
      · rw [e]; exact hw
      · exact findLd_n h i (by omega) (by omega)
/-- throwing away behind n, and going on at the place behind n -/
theorem thrGo {n p : Nat} {t : List Nat} (q : IBp A n) (hn : n ≤ aS A 9) (h1 : aS A 1 ≠ 1) (hp : p = prd A n) (hp64 : p ≤ 64) (ht : okT t) (hef : ∀ k, k < n → isEf (eC A (aB A k)) = false) : IB (goOn (throwF A n) p t) ∧ IF (goOn (throwF A n) p t) := by
  obtain ⟨g1, g2, g3, g4, g5, g6, g7, g8⟩ := throwF_f A hn
  have hz : IBp (zS A 10 0) n := (St.zS0 rfl).ibe q hn rfl q.2.1.2.2.2.2.2.1 rfl rfl rfl
  have h9 : aS (zS A 10 0) 9 = aS A 9 := zS_ne A 0 (by decide)
  have q2 : IBp (throwF A n) n := hz.thrN (aS A 9 - n) (by rw [h9]; omega)
  have hP : SamP A (throwF A n) := ⟨fun r h1 h2 => g4 r (by omega) (by omega), by rw [g5]⟩
  have hpr : prd (throwF A n) n = prd A n := by
    unfold prd
    rw [g1 5 (by decide) (by decide) (by decide) (by decide), g6, suc_eq hP]
  refine ⟨?_, IF.go g3 (by rw [g1 1 (by decide) (by decide) (by decide) (by decide)]; exact h1) (by rw [g2, hpr]; exact hp) hp64 ht (fun k hk => ?_)⟩
  · show IBp (goOn (throwF A n) p t) (aS (throwF A n) 9)
    rw [g2]
    exact q2.go (by rw [g2]; exact Nat.le_refl _)
  · rw [g2] at hk
    rw [g6, (hP.c (x := aB A k) rfl).1]
    exact hef k hk
/-- a delay's end -/
theorem endOne_ib {k : Nat} (q : IB A) (f : IF A) (hk : k < aS A 9) : IB (endOne A k) ∧ IF (endOne A k) := by
  unfold endOne
  split
  · rename_i hs
    obtain ⟨hs, -⟩ := hs
    obtain ⟨q1, q2, q3, q4, q5, q6, q7, q8, q9, q10, q11, q12, q13, q14, q15⟩ := id q
    have hSt := endDl_St A k
    obtain ⟨y1, y2, y3, y4, y5, y6, y7⟩ := endY_f A k
    have eB : ∀ j, aB (endDl A k) j = if j = k then endY A k else aB A j := fun j => by rw [endDl_eq]; rfl
    have ey : aB (endDl A k) k = endY A k := by rw [eB, if_pos rfl]
    have hS : aS (endDl A k) = aS A := by rw [endDl_eq]; rfl
    have ec : eC (endDl A k) (aB (endDl A k) k) = eC A (aB A k) := (hSt.c hk).1
    have hst1 : aS A 1 ≠ 1 := fun z => by
      have := f.2.2.2.2.2.2.2.2.2.2.2.2 z
      omega
    have hcm := (q7 k hk).2.2.2.2.2.2 (by omega)
    by_cases hct : isCt (eC A (aB A k)) = true ∧ (aB A k).1 12 = 0 ∧ (aB A k).2.1 0 ≠ nI ((aB A k).1 5)
    · -- guessed wrong
      have hns : isSt (eC A (aB A k)) = false := by
        have := hct.1
        revert this
        unfold isCt isQn isLp isSt
        simp only [Bool.or_eq_true, decide_eq_true_eq, Bool.or_eq_false_iff, decide_eq_false_iff_not]
        omega
      have hhd : hasD (eC A (aB A k)) = false := by
        have := hct.1
        revert this
        unfold isCt isQn isLp hasD
        simp only [Bool.or_eq_true, decide_eq_true_eq, Bool.or_eq_false_iff, Bool.and_eq_false_iff, decide_eq_false_iff_not]
        omega
      have hnf : isEf (eC A (aB A k)) = false := by
        have := hct.1
        revert this
        unfold isCt isQn isLp isEf
        simp only [Bool.or_eq_true, decide_eq_true_eq, Bool.or_eq_false_iff, decide_eq_false_iff_not]
        omega
      obtain ⟨g, g64, hg⟩ := hcm.go q1 (q6 k hk) hct.2.1
      have e1 : endCt (endDl A k) k = goOn (throwF (zS (endDl A k) 19 (aS (endDl A k) 19 + 1)) (k + 1)) g (aB A k).2.2 := by
        unfold endCt
        dsimp only
        rw [ec, ey, y1 12 (by decide) (by decide), y3 0 (by decide), y1 5 (by decide) (by decide), if_pos hct, y2, hg, nI_clamp (by omega)]
      have hIB1 : IBp (endDl A k) (k + 1) := endDl_ib q hk hs (by omega) (fun z => by rw [hns] at z; cases z) (fun _ _ _ => Nat.le_refl _)
      have hIB2 : IBp (zS (endDl A k) 19 (aS (endDl A k) 19 + 1)) (k + 1) := (St.zS0 rfl).ibe hIB1 (by rw [hS]; omega) rfl hIB1.2.1.2.2.2.2.2.1 rfl rfl rfl
      have hpr : prd (zS (endDl A k) 19 (aS (endDl A k) 19 + 1)) (k + 1) = g := by
        show suc (endDl A k) (aB (endDl A k) k) = g
        refine suc_go g64 (by rw [ey, y3 0 (by decide)]; exact hg) (by rw [ec]; exact hct.1) (by rw [ey]; exact (y5 hhd).1) (by rw [ey, y1 12 (by decide) (by decide)]; exact hct.2.1)
      have h9 : aS (zS (endDl A k) 19 (aS (endDl A k) 19 + 1)) 9 = aS A 9 := by rw [zS_ne _ _ (by decide), hS]
      have hr := thrGo (p := g) (t := (aB A k).2.2) hIB2 (by rw [h9]; omega) (by rw [zS_ne _ _ (by decide), hS]; exact hst1) hpr.symm g64 (q6 k hk).2.2.1 (fun i hi => by
        have e9 : eC (endDl A k) (aB (endDl A k) i) = eC A (aB A i) := (hSt.c (by omega)).1
        show isEf (eC (endDl A k) (aB (endDl A k) i)) = false
        rw [e9]
        cases hz : isEf (eC A (aB A i)) with
        | false => rfl
        | true =>
          have := q15 i (by omega) hz
          have h3 : i = k := by omega
          rw [h3, hnf] at hz
          cases hz)
      rw [e1]
      have e2 : endSt (goOn (throwF (zS (endDl A k) 19 (aS (endDl A k) 19 + 1)) (k + 1)) g (aB A k).2.2) k = goOn (throwF (zS (endDl A k) 19 (aS (endDl A k) 19 + 1)) (k + 1)) g (aB A k).2.2 := by
        obtain ⟨-, -, -, t4, t5, t6, -⟩ := throwF_f (zS (endDl A k) 19 (aS (endDl A k) 19 + 1)) (n := k + 1) (by rw [h9]; omega)
        have hP : SamP (zS (endDl A k) 19 (aS (endDl A k) 19 + 1)) (throwF (zS (endDl A k) 19 (aS (endDl A k) 19 + 1)) (k + 1)) := ⟨fun r h1 h2 => t4 r (by omega) (by omega), by rw [t5]⟩
        unfold endSt
        dsimp only
        have e3 : eC (goOn (throwF (zS (endDl A k) 19 (aS (endDl A k) 19 + 1)) (k + 1)) g (aB A k).2.2) (aB (goOn (throwF (zS (endDl A k) 19 (aS (endDl A k) 19 + 1)) (k + 1)) g (aB A k).2.2) k) = eC A (aB A k) := by
          show eC (throwF (zS (endDl A k) 19 (aS (endDl A k) 19 + 1)) (k + 1)) (aB (throwF (zS (endDl A k) 19 (aS (endDl A k) 19 + 1)) (k + 1)) k) = _
          rw [t6, (hP.c (x := aB (zS (endDl A k) 19 (aS (endDl A k) 19 + 1)) k) rfl).1]
          exact ec
        rw [e3, hns]
        simp
      rw [e2]
      exact hr
    · have e1 : endCt (endDl A k) k = endDl A k := by
        unfold endCt
        dsimp only
        rw [ec, ey, y1 12 (by decide) (by decide), y3 0 (by decide), y1 5 (by decide) (by decide), if_neg hct]
      rw [e1]
      have hIF := endDl_if q f hk hs hct
      by_cases hst : isSt (eC A (aB A k)) = true ∧ (aB A k).1 12 = 0
      · -- a store
        unfold endSt
        dsimp only
        rw [ec, ey, y1 12 (by decide) (by decide), if_pos hst, y3 1 (by decide), y1 13 (by decide) (by decide), hS]
        have hW : ∀ i, k < i → i < aS A 9 → (Wl (endDl A k) ((aB A k).2.1 1) ((aB A k).1 13) i ↔ Wl A ((aB A k).2.1 1) ((aB A k).1 13) i) := fun i h1 h2 => by
          have e2 : aB (endDl A k) i = aB A i := by rw [eB, if_neg (by omega)]
          unfold Wl
          rw [e2, (hSt.P.c (x := aB A i) rfl).1]
        split
        · rename_i hf
          have hno := findLd_n hf
          refine ⟨?_, hIF⟩
          unfold IB
          rw [hS]
          exact endDl_ib q hk hs (Nat.le_refl _) (fun _ _ i h1 h2 c1 c2 c3 c4 => hno i (by omega) (by omega) ((hW i h1 h2).mpr ⟨c1, c2, c3, c4⟩)) (fun z1 z2 z3 => absurd ⟨z1, z2, z3⟩ hct)
        · rename_i j hf
          obtain ⟨j1, j2, j3, j4⟩ := findLd_s hf
          have hIB1 : IBp (endDl A k) j := endDl_ib q hk hs (by omega) (fun _ _ i h1 h2 c1 c2 c3 c4 => j4 i (by omega) h2 ((hW i h1 (by omega)).mpr ⟨c1, c2, c3, c4⟩)) (fun z1 z2 z3 => absurd ⟨z1, z2, z3⟩ hct)
          have ej : aB (endDl A k) j = aB A j := by rw [eB, if_neg (by omega)]
          have hSt2 : St (endDl A k) (zN (zS (endDl A k) 20 (aS A 20 + 1)) 5 ((aB (endDl A k) j).1 0 % 16) 1) := (St.zS0 rfl).trans (St.zN0 (Or.inr (Or.inl rfl)))
          have h9 : aS (zN (zS (endDl A k) 20 (aS A 20 + 1)) 5 ((aB (endDl A k) j).1 0 % 16) 1) 9 = aS A 9 := by
            show aS (zS (endDl A k) 20 (aS A 20 + 1)) 9 = _
            rw [zS_ne _ _ (by decide), hS]
          have hIB2 : IBp (zN (zS (endDl A k) 20 (aS A 20 + 1)) 5 ((aB (endDl A k) j).1 0 % 16) 1) j := hSt2.ibe hIB1 (by rw [hS]; omega) (zN_ne _ _ _ (by decide)) (fun i hi => by
            show up2 (aN (endDl A k)) 5 ((aB (endDl A k) j).1 0 % 16) 1 5 i ≤ 1
            rw [up2_eq, up1_if]
            split
            · exact Nat.le_refl _
            · exact hIB1.2.1.2.2.2.2.2.1 i hi) rfl rfl rfl
          have hpj : (aB (endDl A k) j).1 0 = prd (zN (zS (endDl A k) 20 (aS A 20 + 1)) 5 ((aB (endDl A k) j).1 0 % 16) 1) j := by
            show _ = prd (endDl A k) j
            rw [ej, q9 j (by omega)]
            refine (hSt.prdE (Nat.le_of_lt (show j < aS A 9 by omega)) (fun i hi => ?_)).symm
            rw [suc_eq hSt.P, eB]
            split
            · rename_i e
              subst e
              have ec3 : eC A (endY A i) = eC A (aB A i) := by
                unfold eC
                rw [y1 0 (by decide) (by decide)]
              have hnc : isCt (eC A (aB A i)) = false := by
                have := hst.1
                revert this
                unfold isCt isQn isLp isSt
                simp only [Bool.or_eq_true, decide_eq_true_eq, Bool.or_eq_false_iff, decide_eq_false_iff_not]
                omega
              unfold suc
              rw [ec3, hnc, y1 5 (by decide) (by decide)]
              simp
            · rfl
          have hjp := (q6 j (by omega)).1
          refine thrGo hIB2 (by rw [h9]; omega) (by
            show aS (zS (endDl A k) 20 (aS A 20 + 1)) 1 ≠ 1
            rw [zS_ne _ _ (by decide), hS]
            exact hst1) hpj (by
              rw [ej]
              have := q1.2.2.2.2.1
              omega) (by rw [ej]; exact (q6 j (by omega)).2.2.1) (fun i hi => ?_)
          show isEf (eC (endDl A k) (aB (endDl A k) i)) = false
          rw [(hSt.c (show i < aS A 9 by omega)).1]
          cases hz : isEf (eC A (aB A i)) with
          | false => rfl
          | true =>
            have := q15 i (by omega) hz
            omega
      · have e2 : endSt (endDl A k) k = endDl A k := by
          unfold endSt
          dsimp only
          rw [ec, ey, y1 12 (by decide) (by decide), if_neg hst]
        rw [e2]
        refine ⟨?_, hIF⟩
        unfold IB
        rw [hS]
        exact endDl_ib q hk hs (Nat.le_refl _) (fun z1 z2 => absurd ⟨z1, z2⟩ hst) (fun z1 z2 z3 => absurd ⟨z1, z2, z3⟩ hct)
  · exact ⟨q, f⟩
end ENDT
