section RNI
variable {A B : Sx}
theorem rn1_ib (q : IB A) (f : IF A) (hnl : aS A 10 ≠ 0) (hc : canRn A (eC A (aL A 0)) = true) : IB (rn1 A) ∧ IF (rn1 A) := by
  obtain ⟨q1, q2, q3, q4, q5, q6, q7, q8, q9, q10, q11, q12, q13, q14, q15⟩ := id q
  obtain ⟨f1, f2, f3, f4, f5, f6, f7, f8, f9, f10, f11, f12, f13⟩ := id f
  obtain ⟨r1, r2, r3, r4, r5, r6, r7, r8, r9, r10, r11, r12, r13⟩ := rn1_f A
  obtain ⟨e1, e2, e3, e4, e5, e6, e7, e8⟩ := rnE_f A
  obtain ⟨l1, l2, l3, l4, l5, l6, l7, l8⟩ := f4 0 (by omega)
  have hP : SamP A (rn1 A) := ⟨fun r h1 h2 => r4 r (by omega) (by omega) (by omega), r5 5 (by decide)⟩
  have ec : ∀ x : Ent, eC (rn1 A) x = eC A x ∧ eD (rn1 A) x = eD A x ∧ eI (rn1 A) x = eI A x := fun x => hP.c rfl
  have ez : eC A (rnE A) = eC A (aL A 0) ∧ eD A (rnE A) = eD A (aL A 0) ∧ eI A (rnE A) = eI A (aL A 0) := by
    unfold eC eD eI
    rw [e1]
    exact ⟨rfl, rfl, rfl⟩
  have eB : ∀ j, aB (rn1 A) j = if j = aS A 9 then rnE A else aB A j := fun j => by rw [r6]; rfl
  have eBo : ∀ j, j < aS A 9 → aB (rn1 A) j = aB A j := fun j hj => by rw [eB, if_neg (by omega)]
  have eBn : aB (rn1 A) (aS A 9) = rnE A := by rw [eB, if_pos rfl]
  unfold canRn at hc
  simp only [Bool.and_eq_true, Bool.or_eq_true, Bool.not_eq_true', decide_eq_true_eq, Bool.and_eq_false_iff, decide_eq_false_iff_not] at hc
  obtain ⟨⟨⟨c1, c2⟩, c3⟩, c4⟩ := hc
  have hnf : hasD (eC A (aL A 0)) = true → 0 < aS A 7 := fun h => by
    rcases c2 with z | z
    · rw [h] at z; cases z
    · omega
  have hp := q1.p l1.1
  have hpl : ∀ e, plA (rn1 A) e = plA A e := fun e => plA_congr hP (r5 0 (by decide)) (r5 6 (by decide)) (r5 7 (by decide)) (r1 15 (by decide) (by decide) (by decide)) (fun i _ => by rw [r4 14 (by decide) (by decide) (by decide)])
  have hma : ∀ m, m ≤ aS A 9 → ∀ r, r < 8 → mapAt (rn1 A) m r = mapAt A m r := fun m hm => mapAt_congr hP (fun r _ => by rw [r4 1 (by decide) (by decide) (by decide)]) (fun k hk => by rw [eBo k (by omega)]; exact ⟨rfl, rfl⟩)
  have hcd : ∀ i, cntD (rn1 A) i (aS A 9) = cntD A i (aS A 9) := fun i => cntD_congr hP (fun k hk => by rw [eBo k hk]; exact ⟨rfl, rfl⟩)
  -- what is not free stays as it was
  have hR : ∀ i, (∀ j, j < aS A 7 → aN A 3 j ≠ i) → aN (rn1 A) 2 i = aN A 2 i ∧ aV (rn1 A) 1 i = aV A 1 i := fun i hi => r12 i (fun hd z => hi 0 (hnf hd) z.symm)
  have hRm : ∀ m r, m ≤ aS A 9 → r < 8 → aN (rn1 A) 2 (mapAt A m r) = aN A 2 (mapAt A m r) ∧ aV (rn1 A) 1 (mapAt A m r) = aV A 1 (mapAt A m r) := fun m r hm hr => hR _ (fun j hj => q4.map_free hm hr hj)
  have hRa : ∀ k, k < aS A 9 → (aN (rn1 A) 2 ((aB A k).1 6) = aN A 2 ((aB A k).1 6) ∧ aV (rn1 A) 1 ((aB A k).1 6) = aV A 1 ((aB A k).1 6)) ∧ (aN (rn1 A) 2 ((aB A k).1 7) = aN A 2 ((aB A k).1 7) ∧ aV (rn1 A) 1 ((aB A k).1 7) = aV A 1 ((aB A k).1 7)) := fun k hk => by
    obtain ⟨g1, g2, -⟩ := q5.2 k hk
    have p := q1.p (q6 k hk).1
    rw [g1, g2]
    exact ⟨hRm _ _ (by omega) p.2.2.2.1, hRm _ _ (by omega) p.2.2.2.2.1⟩
  have hsu : ∀ j, j < aS A 9 → suc (rn1 A) (aB (rn1 A) j) = suc A (aB A j) := fun j hj => by rw [eBo j hj, suc_eq hP]
  have hpr : ∀ n, n ≤ aS A 9 → prd (rn1 A) n = prd A n := fun n hn => by
    unfold prd
    rw [r1 5 (by decide) (by decide) (by decide)]
    split
    · rfl
    · exact hsu _ (by omega)
  have hokl : ∀ x : Ent, okE A x → okE (rn1 A) x := fun x h => by
    unfold okE at h ⊢
    rw [(ec x).1, (ec x).2.2, r1 15 (by decide) (by decide) (by decide)]
    exact h
  have hokz : okE A (rnE A) := by
    unfold okE at l1 ⊢
    rw [ez.1, ez.2.2, e1, e2 5 (by omega), e5]
    exact l1
  have hsz : suc (rn1 A) (rnE A) = (aL A 0).1 5 := by
    rw [suc_eq hP]
    unfold suc
    rw [ez.1, if_neg (fun z => ?_)]
    · exact e2 5 (by omega)
    · have := (e7 (Ct_q z.1)).1
      rw [l3] at this
      have := z.2.1
      omega
  constructor
  · unfold IB
    rw [r2]
    refine ⟨?_, ?_, ?_, ?_, ?_, ?_, ?_, ?_, ?_, ?_, ?_, ?_, ?_, ?_, ?_⟩
    · unfold CF at q1 ⊢
      rw [r1 16 (by decide) (by decide) (by decide), r1 17 (by decide) (by decide) (by decide), r1 18 (by decide) (by decide) (by decide), r1 8 (by decide) (by decide) (by decide), r1 15 (by decide) (by decide) (by decide), r4 10 (by decide) (by decide) (by decide), r4 11 (by decide) (by decide) (by decide), r4 12 (by decide) (by decide) (by decide), r4 13 (by decide) (by decide) (by decide), r5 5 (by decide), r5 0 (by decide)]
      exact q1
    · unfold BD at q2 ⊢
      obtain ⟨b1, b2, b3, b4, b5, b6, b7⟩ := q2
      rw [r2, r1 17 (by decide) (by decide) (by decide), r4 4 (by decide) (by decide) (by decide), r5 3 (by decide), r4 6 (by decide) (by decide) (by decide), r4 5 (by decide) (by decide) (by decide), r1 1 (by decide) (by decide) (by decide), r1 2 (by decide) (by decide) (by decide), r1 3 (by decide) (by decide) (by decide), r1 5 (by decide) (by decide) (by decide), r1 4 (by decide) (by decide) (by decide)]
      refine ⟨by omega, b2, b3, b4, fun k hk => ?_, b6, b7⟩
      by_cases h : hasD (eC A (aL A 0)) = true ∧ k = aN A 3 0
      · rw [h.2, (r13 h.1).1]
        split <;> omega
      · rw [(r12 k (fun z1 z2 => h ⟨z1, z2⟩)).1]
        exact b5 k hk
    · unfold QK at q3 ⊢
      rw [r9]
      exact q3
    · intro i
      have h0 := q4 i
      have h1 : cntD (rn1 A) i (aS A 9 + 1) = (if hasD (eC (rn1 A) (aB (rn1 A) (aS A 9))) = true ∧ (aB (rn1 A) (aS A 9)).1 8 = i then 1 else 0) + cntD (rn1 A) i (aS A 9) := rfl
      rw [eBn, (ec _).1, ez.1, hcd] at h1
      rw [r2, h1, r4 1 (by decide) (by decide) (by decide), r1 8 (by decide) (by decide) (by decide)]
      cases hd : hasD (eC A (aL A 0))
      · obtain ⟨g1, g2, g3⟩ := r11 hd
        rw [g1, g3]
        simp only [Bool.false_eq_true, false_and, if_false]
        omega
      · obtain ⟨g1, g2, g3⟩ := r10 hd
        obtain ⟨m, hm⟩ : ∃ m, aS A 7 = m + 1 := ⟨aS A 7 - 1, by have := hnf hd; omega⟩
        rw [g1, g3, (e6 hd).1]
        rw [hm] at h0 ⊢
        rw [cnt_shift (f := aN A 3) (n := m)] at h0
        have h2 : cnt (fun k => if k < m + 1 - 1 then aN A 3 (k + 1) else aN A 3 k) i (m + 1 - 1) = cnt (fun k => aN A 3 (k + 1)) i m := cnt_congr (fun k hk => by show (if k < m + 1 - 1 then aN A 3 (k + 1) else aN A 3 k) = aN A 3 (k + 1); rw [if_pos hk])
        rw [h2]
        simp only [true_and]
        omega
    · refine ⟨fun r hr => ?_, fun k hk => ?_⟩
      · rw [r2]
        show aN (rn1 A) 0 r = (if hasD (eC (rn1 A) (aB (rn1 A) (aS A 9))) = true then up1 (mapAt (rn1 A) (aS A 9)) (eD (rn1 A) (aB (rn1 A) (aS A 9))) ((aB (rn1 A) (aS A 9)).1 8) else mapAt (rn1 A) (aS A 9)) r
        rw [eBn, (ec _).1, (ec _).2.1, ez.1, ez.2.1]
        cases hd : hasD (eC A (aL A 0))
        · rw [(r11 hd).2.1, if_neg Bool.false_ne_true, hma _ (Nat.le_refl _) r hr]
          exact q5.1 r hr
        · rw [(r10 hd).2.1, if_pos rfl, up1_if, up1_if, (e6 hd).1, hma _ (Nat.le_refl _) r hr, q5.1 r hr]
      · rw [r2] at hk
        rw [r4 12 (by decide) (by decide) (by decide), r4 13 (by decide) (by decide) (by decide)]
        by_cases hk2 : k < aS A 9
        · obtain ⟨g1, g2, g3⟩ := q5.2 k hk2
          have p := q1.p (q6 k hk2).1
          rw [eBo k hk2, (ec _).1, (ec _).2.1, hma k (by omega) _ p.2.2.2.1, hma k (by omega) _ p.2.2.2.2.1]
          refine ⟨g1, g2, fun hd => ?_⟩
          rw [hma k (by omega) _ (show eD A (aB A k) < 8 from p.2.2.1)]
          exact g3 hd
        · have hkk : k = aS A 9 := by omega
          subst hkk
          rw [eBn, (ec _).1, (ec _).2.1, ez.1, ez.2.1, e1, e3, e4, hma _ (Nat.le_refl _) _ hp.2.2.2.1, hma _ (Nat.le_refl _) _ hp.2.2.2.2.1]
          refine ⟨q5.1 _ hp.2.2.2.1, q5.1 _ hp.2.2.2.2.1, fun hd => ?_⟩
          rw [(e6 hd).2, hma _ (Nat.le_refl _) _ (show eD A (aL A 0) < 8 from hp.2.2.1)]
          exact q5.1 _ hp.2.2.1
    · intro k hk
      rw [r2] at hk
      rw [eB]
      split
      · exact hokl _ hokz
      · exact hokl _ (q6 k (by omega))
    · intro k hk
      rw [eB]
      split
      · have hcm : isQd (eC A (aL A 0)) = false → CM (rn1 A) (rnE A) := fun hq => by
          obtain ⟨x1, x2⟩ := nB_q hq
          have h9 : eC A (aL A 0) ≠ 9 := fun z => by rw [z] at hq; cases hq
          have hmm : isMm (eC A (aL A 0)) = false := by
            revert hq
            unfold isQd isMm
            simp only [Bool.or_eq_false_iff, Bool.and_eq_false_iff, decide_eq_false_iff_not]
            omega
          have hqn : isQn (eC A (aL A 0)) = false := by
            revert hq
            unfold isQd isQn
            simp only [Bool.or_eq_false_iff, Bool.and_eq_false_iff, decide_eq_false_iff_not]
            omega
          have oX : opX (rn1 A) (rnE A) = 0 := by unfold opX; rw [(ec _).1, ez.1, x1]; rfl
          have oY : opY (rn1 A) (rnE A) = 0 := by unfold opY; rw [(ec _).1, ez.1, x2]; rfl
          unfold CM
          rw [oX, oY, (ec _).1, (ec _).2.2, ez.1, ez.2.2, (e8 hq).2, e5, e2 14 (by omega), e1, l5, l7, l8, x1, x2, hmm, hqn, r1 3 (by decide) (by decide) (by decide)]
          refine ⟨fun z => (by cases z), fun z => (by cases z), rfl, rfl, rfl, by simp, fun _ z => ?_, fun z => absurd z h9, fun _ hd => ?_⟩
          · rw [hq] at z
            cases z
          · have h15 := D_q hq hd
            rw [if_pos h15, (e6 hd).1]
            exact (r13 hd).2 h15
        unfold DY
        rw [(ec _).1, ez.1]
        cases hq : isQd (eC A (aL A 0))
        · rw [(e8 hq).1]
          refine ⟨by simp, fun _ => rfl, fun z => by simp at z, fun z => by simp at z, fun hd => ?_, fun z => by simp at z, fun _ => hcm hq⟩
          rw [(e6 hd).1, (r13 hd).1, if_pos (D_q hq hd)]
          rfl
        · rw [(e7 hq).1, l3]
          refine ⟨by simp, fun z => (by cases z), fun z => by simp at z, fun z => by simp at z, fun hd => ?_, fun _ => by rw [e5]; exact l6, fun z => absurd rfl z⟩
          rw [(e6 hd).1, (r13 hd).1, if_neg (fun z => by rw [z] at hq; cases hq)]
          rfl
      · have hk2 : k < aS A 9 := by omega
        obtain ⟨g1, g2⟩ := hRa k hk2
        refine (q7 k hk2).same hP (r1 3 (by decide) (by decide) (by decide)) (fun z _ => by rw [r9]; exact z) (fun z => ⟨g1.1.trans z, g1.2⟩) (fun z => ⟨g2.1.trans z, g2.2⟩) (fun hd => ?_)
        have := hR _ (fun j hj => q4.free_dst hk2 hd hj)
        exact ⟨this.1, fun _ => this.2⟩
    · intro k hk
      unfold LD
      rw [eB]
      split
      · rw [(ec _).1, ez.1]
        intro a1 a2
        have hq : isQd (eC A (aL A 0)) = true := by rw [a1]; rfl
        rw [(e7 hq).1, l3] at a2
        exact absurd rfl a2
      · have hk2 : k < aS A 9 := by omega
        rw [(ec _).1]
        intro a1 a2 a3
        have h1 := q8 k hk2 a1 a2 a3
        refine h1.gen q10.2.2 hP rfl rfl (fun j hj => by rw [eBo j (by omega)]; exact ⟨rfl, rfl, rfl⟩) (fun j hj => ES.iff hP (by rw [eBo j (by omega)]) (fun _ => by rw [eBo j (by omega)]; exact ⟨Iff.rfl, fun _ => ⟨rfl, rfl⟩⟩) _) (fun j hj z => ?_) (r5 2 (by decide)) (by rw [r1 6 (by decide) (by decide) (by decide)]; exact Nat.le_refl _) (fun g hg j hj => ?_) (fun _ => rfl) (fun z z2 => ?_)
        · have := (hRa j (by omega)).2
          exact ⟨this.1.trans z, this.2⟩
        · rw [eB]
          split
          · rw [e2 13 (by omega)]
            exact Nat.lt_trans (hg k hk2) (f6 k 0 hk2 (by omega))
          · rw [r2] at hj
            exact hg j (by omega)
        · rcases h1 with ⟨-, -, b3⟩ | ⟨g, b1, b2, -⟩
          · exact b3 z2
          · exact absurd (b1.symm.trans z) (nI_m1 (by have := q10.2.2; omega))
    · intro k hk
      by_cases hk2 : k < aS A 9
      · rw [eBo k hk2, hpr k (by omega)]
        exact q9 k hk2
      · have hkk : k = aS A 9 := by omega
        rw [hkk, eBn, e1, hpr _ (Nat.le_refl _)]
        exact f7 (by omega)
    · refine ⟨fun j k hjk hk => ?_, fun k hk => ?_, ?_⟩
      · rw [r2] at hk
        rw [eBo j (by omega), eB]
        split
        · rw [e2 13 (by omega)]
          exact f6 j 0 (by omega) (by omega)
        · exact q10.1 j k hjk (by omega)
      · rw [r2] at hk
        rw [r1 6 (by decide) (by decide) (by decide), eB]
        split
        · rw [e2 13 (by omega)]
          exact l2
        · exact q10.2.1 k (by omega)
      · rw [r1 6 (by decide) (by decide) (by decide)]
        exact q10.2.2
    · unfold PL at q11 ⊢
      rw [r1 14 (by decide) (by decide) (by decide), hpl, r4 1 (by decide) (by decide) (by decide), r5 2 (by decide), r1 5 (by decide) (by decide) (by decide), r1 3 (by decide) (by decide) (by decide), r1 4 (by decide) (by decide) (by decide)]
      refine ⟨fun r hr => ?_, q11.2⟩
      rw [(hR _ (fun j hj => q4.free_ret hr hj)).2]
      exact q11.1 r hr
    · intro e he
      rw [r1 14 (by decide) (by decide) (by decide)] at he
      rw [r4 15 (by decide) (by decide) (by decide), r4 14 (by decide) (by decide) (by decide), hpl, plK_congr hP (r1 15 (by decide) (by decide) (by decide)), r4 10 (by decide) (by decide) (by decide), r5 0 (by decide), r1 1 (by decide) (by decide) (by decide), r1 14 (by decide) (by decide) (by decide)]
      exact q12 e he
    · intro r hr
      rw [r4 1 (by decide) (by decide) (by decide), (hR _ (fun j hj => q4.free_ret hr hj)).1]
      exact q13 r hr
    · intro k hk ha
      rw [r2] at hk ⊢
      rw [eB] at ha
      split at ha
      · rw [(ec _).1, ez.1] at ha
        rcases c4 with z | z
        · omega
        · rw [z.1] at ha
          cases ha
      · rw [(ec _).1] at ha
        have h1 := q14 k (by omega) ha
        rcases c4 with z | z
        · omega
        · have h2 : k = 0 := by omega
          rw [h2, z.2] at ha
          cases ha
    · intro k hk ha
      rw [r2] at hk ⊢
      rw [eB] at ha
      split at ha
      · omega
      · rw [(ec _).1] at ha
        have := (f11 k (by omega) ha).1
        omega
  · unfold IF
    rw [r2, r3, r1 16 (by decide) (by decide) (by decide), r8, r1 12 (by decide) (by decide) (by decide), r1 6 (by decide) (by decide) (by decide), r1 11 (by decide) (by decide) (by decide), r1 1 (by decide) (by decide) (by decide), r7]
    have hpn : prd (rn1 A) (aS A 9 + 1) = (aL A 0).1 5 := by
      unfold prd
      rw [if_neg (by omega), Nat.add_sub_cancel, eBn]
      exact hsz
    rw [hpn]
    refine ⟨by omega, f2, f3, fun j hj => ?_, fun i j h1 h2 => f5 _ _ (by omega) (by omega), fun k j hk hj => ?_, fun h => f8 0 (by omega), fun j hj => f8 (j + 1) (by omega), fun h => ?_, f10, fun k hk he => ?_, fun j hj he => ?_, fun h => ?_⟩
    · obtain ⟨m1, m2⟩ := f4 (j + 1) (by omega)
      rw [(ec _).1, (ec _).2.2]
      exact ⟨hokl _ m1, m2⟩
    · rw [eB]
      split
      · rw [e2 13 (by omega)]
        exact f5 0 (j + 1) (by omega) (by omega)
      · exact f6 k (j + 1) (by omega) (by omega)
    · have h9 := f9 h
      rw [if_neg hnl] at h9
      rw [h9]
      split
      · rw [show aS A 10 - 1 = 0 by omega]
      · show _ = (aL A (aS A 10 - 1 - 1 + 1)).1 5
        rw [show aS A 10 - 1 - 1 + 1 = aS A 10 - 1 by omega]
    · rw [eB] at he
      split at he
      · rw [(ec _).1, ez.1] at he
        obtain ⟨h1, h2⟩ := f12 0 (by omega) he
        exact ⟨by omega, h2⟩
      · rw [(ec _).1] at he
        have := (f11 k (by omega) he).1
        omega
    · rw [(ec _).1] at he
      obtain ⟨h1, h2⟩ := f12 (j + 1) (by omega) he
      exact ⟨by omega, h2⟩
    · have := (f13 h).2.1
      omega
end RNI
