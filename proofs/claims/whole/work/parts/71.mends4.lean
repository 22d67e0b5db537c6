/-! the model: a store's delay ends; all endings -/
section MEN5
variable {b : Nat} {A B A' : Sx} {ρ : Nat → Nat} {μ μ' : Mm} {S : Nat → Nat → Bool}
theorem m_mod16 : ∀ p, p < 64 → nI p - nI p / 16 * 16 = nI (p % 16) := by decide +kernel
theorem m_mod8 : ∀ p, p < 64 → nI p - nI p / 8 * 8 = nI (p % 8) := by decide +kernel
theorem m_mod4 : ∀ p, p < 64 → nI p - nI p / 4 * 4 = nI (p % 4) := by decide +kernel
theorem m_div4 : ∀ p, p < 64 → nI p / 4 = nI (p / 4) := by decide +kernel
theorem nI_tc {x : Int32} (h : adok x = true) : nI x.toNatClampNeg = x := (adok_e h).1.symm
/-- what the endings of stores look for -/
theorem wl_hw {k : Nat} (q : IB A) (hk : k < aS A 9) (hs : (aB A k).1 10 = 120) (hst : isSt (eC A (aB A k)) = true) {a : Int32} (ha : adok a = true) : ∀ i, k < i → i < aS A 9 → eC A (aB A i) = 9 → (aB A i).1 10 ≠ 113 → (aB A i).1 10 < 1000 ∧ (aB A i).1 12 ≤ 5 ∧ ((aB A i).1 12 ≠ 0 → (aB A i).2.1 1 ≠ a) ∧ ((aB A i).1 12 = 0 → (aB A i).2.1 3 ≠ nI ((aB A k).1 13)) := by
  intro i hki hi h9 h113
  obtain ⟨q1, q2, q3, q4, q5, q6, q7, q8, q9, q10, -⟩ := id q
  obtain ⟨d1, d2, d3, d4, d5, d6, d7⟩ := q7 i hi
  obtain ⟨c1, c2, c3, c4, c5, c6, -⟩ := d7 h113
  rw [if_neg (fun z => by rw [h9] at z; cases z.1)] at c3
  refine ⟨by omega, by rw [c3]; exact tpV_le _ _ _ _, fun ht e => ?_, fun ht e => ?_⟩
  · rw [c6, if_neg (fun z => ht z.2)] at e
    rw [← e] at ha
    cases ha
  · have n1 := q10.2.1 k hk
    rcases q8 i hi h9 h113 ht with ⟨l1, -⟩ | ⟨g, l1, l2, l3⟩
    · rw [l1] at e
      exact nI_m1 (g := (aB A k).1 13) (by have := q10.2.2; omega) e.symm
    · rw [l1] at e
      have eg := nIj (by have := q10.2.2; omega) (by have := q10.2.2; omega) e
      rcases l3 with ⟨j, j1, j2, j3, -⟩ | ⟨j1, -⟩
      · rcases Nat.lt_trichotomy j k with w | w | w
        · have := q10.1 j k w hk
          omega
        · subst w
          have := j3.2.1
          omega
        · have := q10.1 k j w (by omega)
          omega
      · have := j1 k hk
        omega
theorem m_endsS {k : Nat} (h : RM b A ρ μ) (q : IB A) (f : IF A) (hk : k < aS A 9) (hs : (aB A k).1 10 = 120) (hc : isSt (eC A (aB A k)) = true) : ∃ μ', f_X11_ends (b + 30) (nI k) μ = some ((), μ') ∧ RM b (endSt (endDl A k) k) ρ μ' ∧ CH b sMo μ μ' := by
  have s := h.1
  unfold SM at s
  obtain ⟨q1, q2, q3, q4, q5, q6, q7, q8, q9, q10, -⟩ := id q
  have hn9 : aS A 9 ≤ 16 := by have := q2.1; have := q1.2.1; omega
  have hn10 : aS A 10 ≤ 8 := by have := f.1; have := q1.1; omega
  obtain ⟨r1, r2, r3⟩ := h.2.2.1.1 k (by omega)
  have s2 := h.1.row ⟨r2, r3⟩
  have re := h.2.2.2.1 k hk
  have ho := q6 k hk
  obtain ⟨d1, d2, d3, d4, d5, d6, d7⟩ := q7 k hk
  have ab := q.ab hk
  have hcc := isSt_c hc
  have hd : hasD (eC A (aB A k)) = false := by rcases hcc with e | e <;> rw [e] <;> rfl
  have hct : isCt (eC A (aB A k)) = false := by rcases hcc with e | e <;> rw [e] <;> rfl
  have hq : isQd (eC A (aB A k)) = true := by rcases hcc with e | e <;> rw [e] <;> rfl
  have hmm : isMm (eC A (aB A k)) = true := by rcases hcc with e | e <;> rw [e] <;> rfl
  have hnx : nX (eC A (aB A k)) = true := by rcases hcc with e | e <;> rw [e] <;> rfl
  obtain ⟨y1, y2, y3, y4, y5, y6, y7⟩ := endY_f A k
  have y10 := (y5 hd).1
  have yy4 := endY_4 A k hd
  have hSt := endDl_St A k
  have ey : aB (endDl A k) k = endY A k := by rw [endDl_eq]; exact up1_eq _ _ _
  have en : ∀ i, i ≠ k → aB (endDl A k) i = aB A i := fun i hi => by rw [endDl_eq]; exact up1_ne _ _ hi
  have hS : aS (endDl A k) = aS A := by rw [endDl_eq]; rfl
  have hN : aN (endDl A k) = aN A := by rw [endDl_eq]; rfl
  have hV : aV (endDl A k) = aV A := by rw [endDl_eq]; rfl
  have ec : eC (endDl A k) (aB (endDl A k) k) = eC A (aB A k) := (hSt.c hk).1
  have iz := q.endz hk hs
  have ip : IBp (endDl A k) 0 := endDl_ib (n := 0) q hk hs (Nat.zero_le _) (fun _ _ i _ h2 => absurd h2 (Nat.not_lt_zero _)) (fun _ _ _ => Nat.zero_le _)
  have hwl := fun (a : Int32) (ha : adok a = true) => wl_hw q hk hs hc ha
  have num2 : (aB A k).1 13 < 2000 := by have := q10.2.1 k hk; have := q10.2.2; omega
  obtain ⟨x, hx⟩ : ∃ x, x = aB A k := ⟨_, rfl⟩
  have E : endSt (endDl A k) k = if x.1 12 = 0 then (match findLd (endDl A k) (x.2.1 1) (x.1 13) (aS A 9 - (k + 1)) (k + 1) with
      | none => endDl A k
      | some j => goOn (throwF (zN (zS (endDl A k) 20 (aS (endDl A k) 20 + 1)) 5 ((aB (endDl A k) j).1 0 % 16) 1) j) ((aB (endDl A k) j).1 0) (aB (endDl A k) j).2.2) else endDl A k := by
    unfold endSt
    dsimp only
    rw [ec, ey, y1 12 (by decide) (by decide), y3 1 (by decide), y1 13 (by decide) (by decide), hc, hx, hS]
    by_cases ht : (aB A k).1 12 = 0
    · rw [if_pos ⟨rfl, ht⟩, if_pos ht]
      rfl
    · rw [if_neg (fun z => ht z.2), if_neg ht]
  rw [E]
  rw [← hx] at re ho hs hd d1 d2 d3 d4 d5 d6 d7 ab y1 y2 y3 hq hct hc hcc hmm hnx num2 hwl
  have hp := q1.p ho.1
  have hec : eC A x = aN A 10 (x.1 0) := rfl
  have hco : f_X11_codeOf (b + 30) (b + ρ k) μ = some (nI (eC A x)) := m_codeOf h.1 h.2.2.2.2.2.1 q1.2.2.2.2.1 s2.1 s2.2 re.1 ho.1
  have hcd := m_hasD (eC A x) (by rw [hec]; omega)
  have hcs := m_isSt (eC A x) (by rw [hec]; omega)
  rw [hd] at hcd
  rw [hc] at hcs
  obtain ⟨c1, c2, c3, c4, c5, c6, c7, c8, c9⟩ := d7 (by omega)
  have n21 : eC A x ≠ 21 := by omega
  rw [if_neg (fun z => n21 z.1)] at c3
  have t5 : x.1 12 ≤ 5 := by rw [c3]; exact tpV_le _ _ _ _
  have hox : opX A x = aV A 1 (x.1 6) := by
    unfold opX
    rw [hnx]
    rfl
  have hei : eI A x = aV A 5 (x.1 0) := rfl
  have tv : x.1 12 = if adok (aV A 1 (x.1 6) + aV A 5 (x.1 0)) = true then 0 else 2 := by
    rw [c3, ← hox, ← hei]
    rcases hcc with e | e <;> rw [e] <;> rfl
  obtain ⟨ad, had⟩ : ∃ ad, ad = aV A 1 (x.1 6) + aV A 5 (x.1 0) := ⟨_, rfl⟩
  rw [← had] at tv
  obtain ⟨w11, w3, w12, w4, w13, w6, w14, w15, w15b, w16⟩ := re.d
  have h36 : mI μ (b + 30) 36 = nI (aS A 0) := h.2.1.1 0 rfl
  have n1 : b + 30 ≠ b + ρ k := by omega
  have n2 : b + 42 ≠ b + ρ k := by omega
  have n3 : b + 35 ≠ b + ρ k := by omega
  have v7 : mI μ (b + ρ k) 7 = nI (x.1 6) := re.2.2.2.2.1
  have v0 : mI μ (b + ρ k) 0 = nI (x.1 0) := re.1
  have hv := h.2.1.v1 ab.1
  have pn := (h.2.2.2.2.2.1 _ ho.1).2.2.2.2
  obtain ⟨μ2, hμ2⟩ : ∃ μ2, μ2 = sI (sI μ (b + ρ k) 11 101) (b + ρ k) 4 (nI (aS A 0)) := ⟨_, rfl⟩
  have g2 : CH b (sRow (ρ k)) μ μ2 := by
    rw [hμ2]
    exact (CH.put (sRow_at _ _)).trans (CH.put (sRow_at _ _))
  have row2 : mI μ2 (b + ρ k) = up1 (up1 (mI μ (b + ρ k)) 11 101) 4 (nI (aS A 0)) := by rw [hμ2, mI_up, mI_up]
  have S2 := h.1.ch g2
  have s2b := S2
  unfold SM at s2b
  have s22 := S2.row ⟨r2, r3⟩
  obtain ⟨μ4, hμ4⟩ : ∃ μ4, μ4 = sI (sI μ2 (b + ρ k) 13 (nI (x.1 12))) (b + ρ k) 14 ad := ⟨_, rfl⟩
  have g4 : CH b (sRow (ρ k)) μ μ4 := by
    rw [hμ4]
    exact g2.trans ((CH.put (sRow_at _ _)).trans (CH.put (sRow_at _ _)))
  have row4 : mI μ4 (b + ρ k) = up1 (up1 (up1 (up1 (mI μ (b + ρ k)) 11 101) 4 (nI (aS A 0))) 13 (nI (x.1 12))) 14 ad := by rw [hμ4, mI_up, mI_up, row2]
  have h4 : RM b (endDl A k) ρ μ4 := by
    refine m_endRow h q f hk g4 (fun j hj => ?_) ?_
    · rw [row4, up1_ne _ _ (by omega), up1_ne _ _ (by omega), up1_ne _ _ (by omega), up1_ne _ _ (by omega)]
    · rw [← hx, row4]
      unfold REd
      rw [y10, y1 3 (by decide) (by decide), y1 12 (by decide) (by decide), y3 0 (by decide), y3 1 (by decide), yy4, hq, hd, hct]
      have n9 : eC A x ≠ 9 := by omega
      refine ⟨rfl, fun _ _ => w3 hq (by omega), fun z => absurd z (by decide), fun _ => rfl, ?_, fun _ => w6 (Or.inl hct), fun _ ht _ => ?_, fun z => absurd z n9, fun z => (by cases z), fun z => absurd z n9⟩
      · rw [if_pos rfl, if_neg n9, if_neg (by decide)]
        rfl
      · rw [c6, if_pos ⟨hmm, ht⟩, hox, hei, ← had]
        rfl
  have s4 := h4.1
  unfold SM at s4
  have s24 := h4.1.row ⟨r2, r3⟩
  have base : f_X11_ends (b + 30) (nI k) μ = f_X11_ends_b121 (b + 30) (nI k) (b + ρ k) ad (nI (x.1 12)) 13 (b + ρ k) μ2 := by
    have n10 : ¬ (1 : Int32) = 0 := by decide
    have m7 : mI μ2 (b + ρ k) 7 = nI (x.1 6) := by rw [row2]; exact v7
    have m0 : mI μ2 (b + ρ k) 0 = nI (x.1 0) := by rw [row2]; exact v0
    have m42 : mI μ2 (b + 42) = mI μ (b + 42) := by rw [hμ2, mI_row _ _ n2, mI_row _ _ n2]
    have m35 : mI μ2 (b + 35) = mI μ (b + 35) := by rw [hμ2, mI_row _ _ n3, mI_row _ _ n3]
    have hin := m_isAd ad
    cases hz : adok ad
    · rw [hz] at hin tv
      rw [if_neg Bool.false_ne_true] at tv
      rw [tv]
      simp only [f_X11_ends, s, s2, ckT, bdS, zlS, ckA, ckI, tcL, r1, hco, hcd, hcs, bI, Bool.false_eq_true, if_true, if_false, n10, h36, mK_sI, mL_sI, mR_sI', mI_ne _ _ (Or.inl n1), ck_t (inbN (p := k) (n := 16) (by omega) (by omega)), clN (show k < 100000 by omega), ← hμ2, m7, m0, m42, m35, hv, pn, s2b, s22, ck_t (inbN (p := x.1 6) (n := 24) ab.1 (by omega)), clN (show x.1 6 < 100000 by omega), ck_t (inbN (p := x.1 0) (n := 64) hp.1 (by omega)), clN (show x.1 0 < 100000 by omega), ← had, hin]
      rfl
    · rw [hz] at hin tv
      rw [if_pos rfl] at tv
      rw [tv]
      simp only [f_X11_ends, s, s2, ckT, bdS, zlS, ckA, ckI, tcL, r1, hco, hcd, hcs, bI, Bool.false_eq_true, if_true, if_false, n10, h36, mK_sI, mL_sI, mR_sI', mI_ne _ _ (Or.inl n1), ck_t (inbN (p := k) (n := 16) (by omega) (by omega)), clN (show k < 100000 by omega), ← hμ2, m7, m0, m42, m35, hv, pn, s2b, s22, ck_t (inbN (p := x.1 6) (n := 24) ab.1 (by omega)), clN (show x.1 6 < 100000 by omega), ck_t (inbN (p := x.1 0) (n := 64) hp.1 (by omega)), clN (show x.1 0 < 100000 by omega), ← had, hin]
      rfl
  rw [base]
  have f13 : mI μ4 (b + ρ k) 13 = nI (x.1 12) := by rw [row4]; rfl
  have f14 : mI μ4 (b + ρ k) 14 = ad := by rw [row4]; rfl
  have f17 : mI μ4 (b + ρ k) 17 = nI (x.1 13) := by rw [row4]; exact re.2.2.2.2.2.2.1
  have h23 : mI μ4 (b + 30) 23 = nI (aS A 9) := by rw [← hS]; exact h4.2.1.1 9 rfl
  have kk : (nI k) + 1 = nI (k + 1) := nI_1 k
  -- nothing wrong: the state stays
  have fin0 : f_X11_wrongLoad (b + 30) (nI k) μ4 = some (-1) → f_X11_ends_b121 (b + 30) (nI k) (b + ρ k) ad (nI (x.1 12)) 13 (b + ρ k) μ2 = some ((), μ4) := fun hW => by
    simp only [f_X11_ends_b121, zlS, ckT, bdS, ckA, ckI, tcL, s22, s2b, mK_sI, mL_sI, ← hμ4, s4, s24, hW, if_true]
  by_cases ht : x.1 12 = 0
  · rw [if_pos ht]
    have hz : adok ad = true := by
      cases hz : adok ad with
      | true => rfl
      | false => rw [hz, if_neg Bool.false_ne_true, ht] at tv; cases tv
    have ha1 : x.2.1 1 = ad := by rw [c6, if_pos ⟨hmm, ht⟩, hox, hei, had]
    rw [ha1]
    obtain ⟨B, hB⟩ : ∃ B, B = endDl A k := ⟨_, rfl⟩
    rw [← hB] at h4 iz ip hS hN hV en hSt ey ⊢
    have hP := hSt.P
    have cB : CF B := hSt.cf q1
    have hW0 := m_wlL (B := B) (k := k) (num := x.1 13) (a := ad) h4 cB (by rw [hS]; exact hn9) (fun i hi => by
      rw [hS] at hi
      have e1 := (hSt.f hi 0)
      rw [e1, hSt.S 15]
      exact (q6 i hi).1) (by rw [hS]; exact hk) (by rw [f13, ht]; rfl) f14 f17 (fun i hki hi h9 h113 => by
        rw [hS] at hi
        rw [en i (by omega)] at h9 h113 ⊢
        rw [(hP.c (x := aB A i) rfl).1] at h9
        have := hwl ad hz i hki hi h9 h113
        exact this) (aS A 9 - (k + 1)) (k + 1) 5000 (by rw [hS]; omega) (by omega) (by omega)
    have hW : f_X11_wrongLoad (b + 30) (nI k) μ4 = f_X11_wrongLoad_b11 5000 (b + 30) (b + ρ k) (nI (k + 1)) μ4 := by
      simp only [f_X11_wrongLoad, ckT, bdS, ckA, s4, (h4.2.2.1.1 k (by omega)).1, ck_t (inbN (p := k) (n := 16) (by omega) (by omega)), clN (show k < 100000 by omega), kk]
    rw [hW0] at hW
    cases hj : findLd B ad (x.1 13) (aS A 9 - (k + 1)) (k + 1) with
    | none =>
      rw [hj] at hW
      dsimp only at hW ⊢
      exact ⟨μ4, fin0 hW, h4, g4.mo ⟨r2, r3⟩⟩
    | some j =>
      rw [hj] at hW
      dsimp only at hW ⊢
      obtain ⟨j1, j2, ⟨j3, j4, j5, j6⟩, -⟩ := findLd_s hj
      have jn : j < aS A 9 := by omega
      have n9B : aS B 9 ≤ 16 := by rw [hS]; exact hn9
      have n10B : aS B 10 ≤ 8 := by rw [hS]; exact hn10
      obtain ⟨u1, u2, u3⟩ := h.2.2.1.1 j (by omega)
      have sj := h.1.row ⟨u2, u3⟩
      have rj := h4.2.2.2.1 j (by rw [hS]; exact jn)
      have oj : okE B (aB B j) := hSt.oke jn (q6 j jn)
      have pj := cB.p oj.1
      obtain ⟨y, hy⟩ : ∃ y, y = aB B j := ⟨_, rfl⟩
      rw [← hy] at rj oj pj j3 j4 j5 j6 ⊢
      have h49 : mI μ4 (b + 30) 49 = nI (aS B 20) := h4.2.1.1 20 rfl
      have h5 : RM b (zN (zS B 20 (aS B 20 + 1)) 5 (y.1 0 % 16) 1) ρ (sI (sI μ4 (b + 30) 49 (nI (aS B 20 + 1))) (b + 74) (y.1 0 % 16) 1) := by
        refine h4.next (S := fun o j => (o == 30 && j == 49) || o == 74) ((h4.2.1.putS mT_ok (i := 20) rfl _).putN mT_ok (q := 5) (j := y.1 0 % 16) (by omega) (Nat.mod_lt _ (by decide)) 1) ((CH.put rfl).trans (CH.put rfl)) (fun o j z => ?_) n9B n10B ⟨fun r h1 h2 => zN_ne _ _ _ (by omega), rfl⟩ ?_ (fun _ _ => rfl) ?_ (fun _ _ => rfl) ?_ rfl rfl rfl rfl (fun z => ?_) ?_ (fun r hr => zN_ne _ _ _ (by omega)) rfl
        · simp only [Bool.and_eq_true, Bool.or_eq_true, beq_iff_eq] at z
          exact decide_eq_true (by omega)
        · rw [(zN_ _ _ _ _).1, zS_ne _ _ (by decide)]; exact Nat.le_refl _
        · rw [(zN_ _ _ _ _).1, zS_ne _ _ (by decide)]; exact Nat.le_refl _
        · rw [(zN_ _ _ _ _).1, zS_ne _ _ (by decide)]
        · rw [(zN_ _ _ _ _).1, zS_ne _ _ (by decide)] at z ⊢
          exact ⟨z, rfl⟩
        · rw [(zN_ _ _ _ _).1, zS_ne _ _ (by decide)]
      obtain ⟨μ5, hμ5⟩ : ∃ μ5, μ5 = sI (sI μ4 (b + 30) 49 (nI (aS B 20 + 1))) (b + 74) (y.1 0 % 16) 1 := ⟨_, rfl⟩
      obtain ⟨C, hC⟩ : ∃ C, C = zN (zS B 20 (aS B 20 + 1)) 5 (y.1 0 % 16) 1 := ⟨_, rfl⟩
      have C9 : aS C 9 = aS A 9 := by rw [hC, (zN_ _ _ _ _).1, zS_ne _ _ (by decide), hS]
      have C10 : aS C 10 = aS A 10 := by rw [hC, (zN_ _ _ _ _).1, zS_ne _ _ (by decide), hS]
      have izC : IBz C := by
        rw [hC]
        refine IBp.z (((St.zS0 (i := 20) rfl).trans (St.zN0 (r := 5) (by omega))).ibe (n := 0) ip (Nat.zero_le _) (zN_ne _ _ _ (by decide)) (fun i hi => ?_) rfl rfl rfl)
        rw [(zN_ _ _ _ _).2.1, up2_eq, up1_if]
        split
        · exact Nat.le_refl _
        · exact ip.2.1.2.2.2.2.2.1 i hi
      rw [← hμ5, ← hC] at h5
      have rr5 : mI μ5 (b + ρ j) = mI μ4 (b + ρ j) := by rw [hμ5, mI_row _ _ (by omega), mI_row _ _ (by omega)]
      obtain ⟨μ6, e6, h6, g6⟩ := m_stackAs (r := ρ j) (o := 18) (x := 18) (t := y.2.2) h5 (by rw [C9]; exact hn9) (by rw [C10]; exact hn10) ⟨u2, u3⟩ rfl (by omega) (by
        rw [rr5]
        exact rj.2.2.2.2.2.2.2.2.2.1 (by omega) (by omega)) oj.2.2.1.1
      have rr6 : mI μ6 (b + ρ j) 0 = nI (y.1 0) := by
        rw [g6.cell (by unfold sSt; simp; omega), rr5]
        exact rj.1
      obtain ⟨μ7, μ8, e7, k7, e8, h8, g8⟩ := m_goThrow (n := j) (p := y.1 0) h6 (izC.cg (fun i hi => rfl) (fun _ _ _ => rfl) (fun _ _ => rfl) rfl rfl izC.2.1.2.2.2.2.2.2) (by show aS C 10 ≤ 8; rw [C10]; exact hn10) (by show j ≤ aS C 9; rw [C9]; omega)
      have s6 := h6.1
      unfold SM at s6
      have s26 := h6.1.row ⟨u2, u3⟩
      have n74 : b + ρ j ≠ b + 30 := by omega
      have m0j : mI μ4 (b + ρ j) 0 = nI (y.1 0) := rj.1
      have jne : ¬ nI j = -1 := nI_m1 (by omega)
      refine ⟨μ8, ?_, ?_, (g4.mo ⟨r2, r3⟩).trans (CH.trans ?_ ((g6.mono fun o j z => ?_).trans g8))⟩
      · simp only [f_X11_ends_b121, zlS, ckT, bdS, ckA, ckI, tcL, mK_sI, mL_sI, mR_sI', ← hμ4, g4.1, g4.2.1, g4.2.2.1, g2.1, g2.2.1, g2.2.2.1, s, s2, hW, jne, if_false, u1, sj, ck_t (inbN (p := j) (n := 16) (by omega) (by omega)), clN (show j < 100000 by omega), h49, nI_1, mI_ne _ _ (Or.inl n74), m0j, m_mod16 _ pj.1, ck_t (inbN (p := y.1 0 % 16) (n := 16) (Nat.mod_lt _ (by decide)) (by omega)), clN (show y.1 0 % 16 < 100000 by omega), ck_t (show ¬ (16 : Int32) = 0 by decide), ← hμ5, cl_t e6, s6, s26, rr6, cl_t e7, k7, cl_t e8]
      · rw [goOn_eq] at h8
        rw [← hC]
        exact h8
      · rw [hμ5]
        exact (CH.put (o := 30) rfl).trans (CH.put (o := 74) rfl)
      · unfold sSt at z
        simp only [beq_iff_eq] at z
        exact decide_eq_true (by omega)
  · rw [if_neg ht]
    refine ⟨μ4, fin0 ?_, h4, g4.mo ⟨r2, r3⟩⟩
    have t13 : ¬ mI μ4 (b + ρ k) 13 = 0 := by rw [f13]; exact nIne (n := 0) (by omega) (by omega) ht
    have w : f_X11_wrongLoad (b + 30) (nI k) μ4 = f_X11_wrongLoad_b11 5000 (b + 30) (b + ρ k) (nI (k + 1)) μ4 := by
      simp only [f_X11_wrongLoad, ckT, bdS, ckA, s4, (h4.2.2.1.1 k (by omega)).1, ck_t (inbN (p := k) (n := 16) (by omega) (by omega)), clN (show k < 100000 by omega), kk]
    obtain ⟨n, hn⟩ : ∃ n, 5000 = n + 1 := ⟨4999, rfl⟩
    rw [w, hn]
    by_cases hlast : nI (aS A 9) ≤ nI (k + 1)
    · simp only [f_X11_wrongLoad_b11, s4, h23, hlast, ckT, if_true]
    · simp only [f_X11_wrongLoad_b11, s4, s24, h23, hlast, ckT, ckA, ckI, tcL, t13, not_false_eq_true, if_true, if_false]
end MEN5
