section RETK
variable {A B : Sx}
theorem ES.ad {j : Nat} {a : Int32} (q : IB A) (hj : j < aS A 9) (h : ES A j a) : adok a = true := by
  obtain ⟨h1, h2, h3, h4⟩ := h
  rw [← h4]
  have hm : isMm (eC A (aB A j)) = true := by
    revert h1
    unfold isSt isMm
    simp only [Bool.or_eq_true, decide_eq_true_eq]
    omega
  exact (mm_ad q.1 (q.2.2.2.2.2.1 j hj) ((q.2.2.2.2.2.2.1 j hj).2.2.2.2.2.2 (by omega)) hm h3).1
/-- the oldest one retires -/
theorem ret1_ib (q : IB A) (f : IF A) (hl : canLv A = true) (ht : (aB A 0).1 12 = 0) : IB (ret1 A) ∧ IF (ret1 A) := by
  obtain ⟨h1, hk, hs⟩ := canLv_e hl
  obtain ⟨p1, p2, p3, p4, p5⟩ := plain_at q hk (by omega)
  obtain ⟨w1, w2, w3, w4, w5, w6⟩ := plain_do q hk hs ht
  obtain ⟨r1, r2, r3, r4, r5, r6, r7, r8, r9, r10, n1, n2, n3, n4, n5, n6, v1, v2, v3, hB, hL, hT, hQ⟩ := ret1_f A
  obtain ⟨q1, q2, q3, q4, q5, q6, q7, q8, q9, q10, q11, q12, q13, q14, q15⟩ := id q
  obtain ⟨f1, f2, f3, f4, f5, f6, f7, f8, f9, f10, f11, f12, f13⟩ := id f
  have eB : ∀ k, aB (ret1 A) k = aB A (k + 1) := fun k => by rw [hB]
  have hP : SamP A (ret1 A) := ⟨fun r a b => n1 r b (by omega) (by omega) (by omega), v1 5 (by decide) (by decide) (by decide)⟩
  have ec : ∀ x : Ent, eC (ret1 A) x = eC A x ∧ eD (ret1 A) x = eD A x ∧ eI (ret1 A) x = eI A x := fun x => hP.c rfl
  have hp := q1.p (q6 0 hk).1
  have hcm := (q7 0 hk).2.2.2.2.2.2 (by omega)
  obtain ⟨go, go64, hgo⟩ := hcm.go q1 (q6 0 hk) ht
  have hgoN : ((aB A 0).2.1 0).toNatClampNeg = go := by rw [hgo, nI_clamp (by omega)]
  rw [hgoN] at r7
  rw [hgoN] at w4
  obtain ⟨m, hm⟩ : ∃ m, aS A 9 = m + 1 := ⟨aS A 9 - 1, by omega⟩
  have r3' : aS (ret1 A) 9 = m := by omega
  -- the oldest one's own registers
  have hbef : hasD (eC A (aB A 0)) = true → (aB A 0).1 9 = aN A 1 (eD A (aB A 0)) := fun hd => (q5.2 0 hk).2.2 hd
  have hn2 : ∀ r, r < 8 → aN (ret1 A) 1 r = mapAt A 1 r := fun r _ => by rw [n2]; rfl
  have hma : ∀ n r, r < 8 → mapAt (ret1 A) n r = mapAt A (n + 1) r := mapAt_shift hP eB hn2
  have hrdy : ∀ i, aN (ret1 A) 2 i = aN A 2 i ∧ aV (ret1 A) 1 i = aV A 1 i := fun i => by rw [n1 2 (by decide) (by decide) (by decide) (by decide), v1 1 (by decide) (by decide) (by decide)]; exact ⟨rfl, rfl⟩
  have h21 : eC A (aB A 0) = 21 → m = 0 := fun z => by
    have := q15 0 hk (by rw [z]; rfl)
    omega
  have hsu : ∀ x : Ent, suc (ret1 A) x = suc A x := fun x => suc_eq hP x
  have hnext : eC A (aB A 0) ≠ 21 → go = suc A (aB A 0) := fun h => by
    unfold suc
    split
    · exact hgoN.symm
    · rename_i hz
      have hnc : isCt (eC A (aB A 0)) = false := by
        cases hq : isCt (eC A (aB A 0)) with
        | false => rfl
        | true => exact absurd ⟨hq, hs, ht⟩ hz
      have e1 := (q6 0 hk).2.2.2 hnc
      have e2 := hcm.2.2.2.1
      rw [goV_nc hnc, ← e1] at e2
      have e3 := e2.symm.trans hgo
      have h64 := (q6 0 hk).2.1
      exact ((nI_eq (by omega) (by omega)).mp e3).symm
  -- a load's word stays, unless it comes from the store that retires
  have hwd : ∀ a, adok a = true → ¬ ES A 0 a → aV (ret1 A) 2 a.toNatClampNeg = aV A 2 a.toNatClampNeg := fun a ha hne => by
    rw [v2]
    split
    · rename_i hst
      rw [up1_if, if_neg]
      intro z
      have hmm : isMm (eC A (aB A 0)) = true := by
        revert hst
        unfold isSt isMm
        simp only [Bool.or_eq_true, decide_eq_true_eq]
        omega
      obtain ⟨a1, -⟩ := mm_ad q1 (q6 0 hk) hcm hmm ht
      refine hne ⟨hst, hs, ht, ?_⟩
      rw [(adok_e a1).1, (adok_e ha).1, z]
    · rfl
  have hES : ∀ j a, ES (ret1 A) j a ↔ ES A (j + 1) a := fun j a => by
    unfold ES
    rw [eB, (ec _).1]
  have ho5 : ∀ k, k < m → aB A (k + 1) = aB A (k + 1) := fun _ _ => rfl
  obtain ⟨en, hpa⟩ := q12.more (B := ret1 A) (kd := 0) (pl := (aB A 0).1 0) (by omega) hP (r1 15 (by decide) (by decide) (by decide) (by decide) (by decide) (by decide) (by decide) (by decide) (by decide)) (v1 0 (by decide) (by decide) (by decide)) (v1 6 (by decide) (by decide) (by decide)) (v1 7 (by decide) (by decide) (by decide)) r2 n5 n6 p1 (by
    unfold plK
    rw [if_neg (by decide), if_neg (by rw [← p1]; omega), ← p5, ht]) (by decide) (fun _ z => by
    rcases z with z | z
    · rw [r5, if_pos (show eC A (aB A 0) = 18 from z)]
    · exact absurd rfl z.1)
  have hplN : plN A (plA A (aS A 14)) 0 = plD A (plA A (aS A 14)) := by
    unfold plN
    rw [if_neg (by decide), if_neg (by rw [← p1]; omega), if_neg (by rw [← p5]; omega)]
  rw [hplN] at hpa
  have s3 : 0 < m → aS (ret1 A) 3 = aS A 3 := fun h => by
    rw [r6, if_neg (fun z => by have := h21 z; omega)]
  constructor
  · unfold IB
    rw [r3']
    refine ⟨?_, ?_, ?_, fun i => ?_, ⟨fun r hr => ?_, fun k hk2 => ?_⟩, fun k hk2 => ?_, fun k hk2 => ?_, fun k hk2 => ?_, fun k hk2 => ?_, ⟨fun j k hjk hk2 => ?_, fun k hk2 => ?_, ?_⟩, ?_, en, fun r hr => ?_, fun k hk2 ha => ?_, fun k hk2 ha => ?_⟩
    · unfold CF at q1 ⊢
      rw [r1 16 (by decide) (by decide) (by decide) (by decide) (by decide) (by decide) (by decide) (by decide) (by decide), r1 17 (by decide) (by decide) (by decide) (by decide) (by decide) (by decide) (by decide) (by decide) (by decide), r1 18 (by decide) (by decide) (by decide) (by decide) (by decide) (by decide) (by decide) (by decide) (by decide), r1 8 (by decide) (by decide) (by decide) (by decide) (by decide) (by decide) (by decide) (by decide) (by decide), r1 15 (by decide) (by decide) (by decide) (by decide) (by decide) (by decide) (by decide) (by decide) (by decide), n1 10 (by decide) (by decide) (by decide) (by decide), n1 11 (by decide) (by decide) (by decide) (by decide), n1 12 (by decide) (by decide) (by decide) (by decide), n1 13 (by decide) (by decide) (by decide) (by decide), v1 5 (by decide) (by decide) (by decide), v1 0 (by decide) (by decide) (by decide)]
      exact q1
    · unfold BD at q2 ⊢
      obtain ⟨b1, b2, b3, b4, b5, b6, ⟨b7, b8, b9⟩, b10, b11⟩ := q2
      rw [r3', r1 17 (by decide) (by decide) (by decide) (by decide) (by decide) (by decide) (by decide) (by decide) (by decide), n1 6 (by decide) (by decide) (by decide) (by decide), n1 2 (by decide) (by decide) (by decide) (by decide), n1 5 (by decide) (by decide) (by decide) (by decide), r1 2 (by decide) (by decide) (by decide) (by decide) (by decide) (by decide) (by decide) (by decide) (by decide), r1 4 (by decide) (by decide) (by decide) (by decide) (by decide) (by decide) (by decide) (by decide) (by decide), r5, r6, r7]
      refine ⟨by omega, n4 b2, v3 b3 (fun z => ?_), b4, b5, b6, ⟨by split <;> omega, b8, by split <;> omega⟩, by split <;> omega, b11⟩
      have c3 := hcm.2.2.1
      have c4 := hcm.2.2.2.1
      rw [z, ht] at c3
      rw [c4, z]
      have h9 : ¬ ((17 : Nat) = 21 ∧ aS A 3 = 0) := by omega
      rw [if_neg h9] at c3
      have e1 : tpV 17 (opX A (aB A 0)) (opY A (aB A 0)) (eI A (aB A 0)) = if adok (opX A (aB A 0)) then 0 else 3 := by simp [tpV, isMm, isLp]
      have e2 : goV 17 ((aB A 0).1 0) (opX A (aB A 0)) (opY A (aB A 0)) (eI A (aB A 0)) = opX A (aB A 0) := by simp [goV, isQn, isLp]
      rw [e1] at c3
      rw [e2]
      split at c3
      · assumption
      · cases c3
    · unfold QK at q3 ⊢
      rw [hQ]
      exact q3
    · have h0 := q4 i
      rw [hm, cntD_shift hP eB i m] at h0
      rw [r3', n2, n3, r4, r1 8 (by decide) (by decide) (by decide) (by decide) (by decide) (by decide) (by decide) (by decide) (by decide)]
      cases hd : hasD (eC A (aB A 0))
      · rw [hd] at h0
        simp only [Bool.false_eq_true, false_and, if_false] at h0 ⊢
        omega
      · rw [hd] at h0
        simp only [true_and, if_true] at h0 ⊢
        have c1 := cnt_up (f := aN A 1) (i := i) (v := (aB A 0).1 8) (n := 8) (show eD A (aB A 0) < 8 from hp.2.2.1)
        have c2 : cnt (up1 (aN A 3) (aS A 7) ((aB A 0).1 9)) i (aS A 7 + 1) = (if aN A 1 (eD A (aB A 0)) = i then 1 else 0) + cnt (aN A 3) i (aS A 7) := by
          show (if up1 (aN A 3) (aS A 7) ((aB A 0).1 9) (aS A 7) = i then 1 else 0) + cnt (up1 (aN A 3) (aS A 7) ((aB A 0).1 9)) i (aS A 7) = _
          rw [up1_eq, hbef hd, cnt_congr (g := aN A 3) (fun k hk => up1_ne _ _ (by omega))]
        rw [c2]
        omega
    · rw [r3', n1 0 (by decide) (by decide) (by decide) (by decide), hma _ _ hr, ← hm]
      exact q5.1 r hr
    · rw [r3'] at hk2
      obtain ⟨g1, g2, g3⟩ := q5.2 (k + 1) (by omega)
      have pk := q1.p (q6 (k + 1) (by omega)).1
      rw [eB, n1 12 (by decide) (by decide) (by decide) (by decide), n1 13 (by decide) (by decide) (by decide) (by decide), (ec _).1, (ec _).2.1, hma _ _ pk.2.2.2.1, hma _ _ pk.2.2.2.2.1]
      refine ⟨g1, g2, fun hd => ?_⟩
      rw [hma _ _ (show eD A (aB A (k + 1)) < 8 from pk.2.2.1)]
      exact g3 hd
    · rw [r3'] at hk2
      have h0 := q6 (k + 1) (by omega)
      unfold okE at h0 ⊢
      rw [eB, (ec _).1, (ec _).2.2, r1 15 (by decide) (by decide) (by decide) (by decide) (by decide) (by decide) (by decide) (by decide) (by decide)]
      exact h0
    · rw [eB]
      exact (q7 (k + 1) (by omega)).eq hP (s3 (by omega)) (n1 2 (by decide) (by decide) (by decide) (by decide)) (v1 1 (by decide) (by decide) (by decide)) hQ
    · have h0 := q8 (k + 1) (by omega)
      unfold LD at h0 ⊢
      rw [eB, (ec _).1]
      intro c1 c2 c3
      have hL := h0 c1 c2 c3
      have hok : adok ((aB A (k + 1)).2.1 1) = true := (mm_ad q1 (q6 (k + 1) (by omega)) ((q7 (k + 1) (by omega)).2.2.2.2.2.2 c2) (by rw [c1]; rfl) c3).1
      have hs6 : aS (ret1 A) 6 = aS A 6 := r1 6 (by decide) (by decide) (by decide) (by decide) (by decide) (by decide) (by decide) (by decide) (by decide)
      unfold LDr
      rcases hL with ⟨a1, a2, a3⟩ | ⟨g, a1, a2, a3⟩
      · refine Or.inl ⟨a1, fun j hj z => a2 (j + 1) (by omega) ((hES j _).mp z), fun z => ?_⟩
        rw [hwd _ hok (a2 0 (by omega))]
        exact a3 z
      · refine Or.inr ⟨g, a1, by rw [hs6]; exact a2, ?_⟩
        rcases a3 with ⟨j, b1, b2, b3, b4, b5, b6, b7⟩ | ⟨b1, b2, b3⟩
        · by_cases j0 : j = 0
          · subst j0
            refine Or.inr ⟨fun j hj => ?_, fun j hj z => b7 (j + 1) (by omega) (by omega) ((hES j _).mp z), ?_⟩
            · rw [r3'] at hj
              rw [eB, ← b2]
              exact q10.1 0 (j + 1) (by omega) (by omega)
            · rw [b6, v2, if_pos b3.1, b3.2.2.2, up1_eq, b4]
              rfl
          · obtain ⟨i, hi⟩ : ∃ i, j = i + 1 := ⟨j - 1, by omega⟩
            subst hi
            refine Or.inl ⟨i, by omega, by rw [eB]; exact b2, (hES i _).mpr b3, by rw [eB, (ec _).1]; exact b4, by rw [eB, (hrdy _).1]; exact b5, ?_, fun l l1 l2 z => b7 (l + 1) (by omega) (by omega) ((hES l _).mp z)⟩
            rw [b6, eB]
            unfold eY
            rw [(hrdy _).2]
        · refine Or.inr ⟨fun j hj => ?_, fun j hj z => b2 (j + 1) (by omega) ((hES j _).mp z), ?_⟩
          · rw [r3'] at hj
            rw [eB]
            exact b1 (j + 1) (by omega)
          · rw [hwd _ hok (b2 0 (by omega))]
            exact b3
    · rw [eB, q9 (k + 1) (by omega)]
      unfold prd
      rw [if_neg (Nat.succ_ne_zero k), Nat.add_sub_cancel]
      split
      · rename_i k0
        subst k0
        rw [r7, if_neg (fun z => by have := h21 z; omega)]
        exact (hnext (fun z => by have := h21 z; omega)).symm
      · rw [hsu, eB, show k - 1 + 1 = k by omega]
    · rw [r3'] at hk2
      rw [eB, eB]
      exact q10.1 (j + 1) (k + 1) (by omega) (by omega)
    · rw [r3'] at hk2
      rw [eB, r1 6 (by decide) (by decide) (by decide) (by decide) (by decide) (by decide) (by decide) (by decide) (by decide)]
      exact q10.2.1 (k + 1) (by omega)
    · rw [r1 6 (by decide) (by decide) (by decide) (by decide) (by decide) (by decide) (by decide) (by decide) (by decide)]
      exact q10.2.2
    · unfold PL
      rw [hpa, r7, r6, r1 4 (by decide) (by decide) (by decide) (by decide) (by decide) (by decide) (by decide) (by decide) (by decide), w4, w5, w6, v1 1 (by decide) (by decide) (by decide), v2, n2]
      refine ⟨fun r hr => ?_, fun a ha => (w3 a ha).symm, rfl, rfl, rfl⟩
      cases hd : hasD (eC A (aB A 0))
      · rw [if_neg Bool.false_ne_true, w2 r (fun z => by rw [hd] at z; cases z)]
        exact q11.1 r hr
      · rw [if_pos rfl, up1_if]
        split
        · rename_i e
          rw [e]
          exact w1 hd
        · rename_i e
          rw [w2 r (fun _ => e)]
          exact q11.1 r hr
    · rw [(hrdy _).1, n2]
      cases hd : hasD (eC A (aB A 0))
      · rw [if_neg Bool.false_ne_true]
        exact q13 r hr
      · rw [if_pos rfl, up1_if]
        split
        · rw [(q7 0 hk).2.2.2.2.1 hd, if_pos hs]
        · exact q13 r hr
    · rw [r3'] at hk2
      rw [eB, (ec _).1] at ha
      have := q14 (k + 1) (by omega) ha
      omega
    · rw [r3'] at hk2 ⊢
      rw [eB, (ec _).1] at ha
      have := q15 (k + 1) (by omega) ha
      omega
  · by_cases hc21 : eC A (aB A 0) = 21
    · have hm0 := h21 hc21
      obtain ⟨g1, g2⟩ := f11 0 hk (by rw [hc21]; rfl)
      rw [if_pos hc21] at r6 r7 r8 r9 r10
      have hpr : prd (ret1 A) m = aS A 4 := by
        unfold prd
        rw [if_pos hm0, r7]
      have r5' : aS (ret1 A) 1 = aS A 1 := by
        have h9 := ret1_f A
        rw [h9.2.2.2.2.1, if_neg (by omega)]
      unfold IF
      rw [r8, r3', r10, r9, r1 16 (by decide) (by decide) (by decide) (by decide) (by decide) (by decide) (by decide) (by decide) (by decide), hT, hpr, r5']
      refine ⟨by omega, f2, by omega, fun j hj => absurd hj (Nat.not_lt_zero _), fun i j _ hj => absurd hj (Nat.not_lt_zero _), fun k j _ hj => absurd hj (Nat.not_lt_zero _), fun h => absurd h (Nat.lt_irrefl _), fun j hj => absurd hj (Nat.not_lt_zero _), fun _ => by rw [if_pos rfl], fun _ => q2.2.2.2.2.2.2.2.2, fun k hk2 => by omega, fun j hj => absurd hj (Nat.not_lt_zero _), fun h => by omega⟩
    · rw [if_neg hc21] at r7 r8 r9 r10
      have hpr : prd (ret1 A) m = prd A (m + 1) := by
        unfold prd
        rw [if_neg (Nat.succ_ne_zero m), Nat.add_sub_cancel]
        split
        · rename_i m0
          subst m0
          rw [r7]
          exact hnext hc21
        · rw [hsu, eB, show m - 1 + 1 = m by omega]
      unfold IF
      rw [r8, r3', r10, r9, r1 16 (by decide) (by decide) (by decide) (by decide) (by decide) (by decide) (by decide) (by decide) (by decide), r1 6 (by decide) (by decide) (by decide) (by decide) (by decide) (by decide) (by decide) (by decide) (by decide), hT, hpr, hL, ← hm, r5]
      refine ⟨f1, f2, f3, fun j hj => ?_, f5, fun k j hk2 hj => ?_, f7, f8, f9, f10, fun k hk2 he => ?_, fun j hj he => ?_, fun h => ?_⟩
      · obtain ⟨m1, m2⟩ := f4 j hj
        rw [(ec _).1, (ec _).2.2]
        refine ⟨?_, m2⟩
        unfold okE at m1 ⊢
        rw [(ec _).1, (ec _).2.2, r1 15 (by decide) (by decide) (by decide) (by decide) (by decide) (by decide) (by decide) (by decide) (by decide)]
        exact m1
      · rw [eB]
        exact f6 (k + 1) j (by omega) hj
      · rw [eB, (ec _).1] at he
        exact f11 (k + 1) (by omega) he
      · rw [(ec _).1] at he
        exact f12 j hj he
      · split at h
        · rename_i h18
          obtain ⟨g1, g2⟩ := f11 0 hk (by rw [h18]; rfl)
          have := q15 0 hk (by rw [h18]; rfl)
          exact ⟨by omega, g1, g2⟩
        · omega
end RETK
