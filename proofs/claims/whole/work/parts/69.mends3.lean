/-! the model: an entry's delay ends -/
section MEN4
variable {b : Nat} {A B A' : Sx} {ρ : Nat → Nat} {μ μ' : Mm} {S : Nat → Nat → Bool}
theorem endY_4 (A : Sx) (k : Nat) (h : hasD (eC A (aB A k)) = false) : (endY A k).1 4 = aS A 0 := by
  unfold endY
  dsimp only
  rw [h]
  rfl
/-- an ending writes the row of its entry: the state is the next one -/
theorem m_endRow {k : Nat} (h : RM b A ρ μ) (q : IB A) (f : IF A) (hk : k < aS A 9) (g : CH b (sRow (ρ k)) μ μ') (hj : ∀ j, j = 0 ∨ j = 1 ∨ j = 2 ∨ j = 5 ∨ j = 7 ∨ j = 8 ∨ j = 9 ∨ j = 10 ∨ 17 ≤ j → mI μ' (b + ρ k) j = mI μ (b + ρ k) j) (hd : REd (eC A (aB A k)) (endY A k) (mI μ' (b + ρ k))) : RM b (endDl A k) ρ μ' := by
  obtain ⟨q1, q2, q3, q4, q5, q6, q7, q8, -⟩ := id q
  have hn9 : aS A 9 ≤ 16 := by have := q2.1; have := q1.2.1; omega
  have hn10 : aS A 10 ≤ 8 := by have := f.1; have := q1.1; omega
  obtain ⟨r1, r2, r3⟩ := h.2.2.1.1 k (by omega)
  obtain ⟨y1, y2, -⟩ := endY_f A k
  have hP : SamP A (endDl A k) := (endDl_St A k).P
  have eB : ∀ j, aB (endDl A k) j = if j = k then endY A k else aB A j := fun j => by rw [endDl_eq]; rfl
  have hN : aN (endDl A k) = aN A := by rw [endDl_eq]; rfl
  have hV : aV (endDl A k) = aV A := by rw [endDl_eq]; rfl
  have hS : aS (endDl A k) = aS A := by rw [endDl_eq]; rfl
  have hro : ∀ o j, sRow (ρ k) o j = true → ¬ (o = 30 ∨ (38 ≤ o ∧ o ≤ 44) ∨ (72 ≤ o ∧ o ≤ 75) ∨ o = 81) := fun o j z => by
    have := sRow_e z
    omega
  refine h.nx ((h.2.1.ch g hro).cg (fun i _ => by rw [hS]) (fun _ _ _ _ => by rw [hN]) (fun _ _ _ _ => by rw [hV])) (h.2.2.2.1.upd (k := k) h.2.2.1 hn9 (by omega) g (fun o j z => Or.inl (sRow_e z)) hP (by rw [hS]; exact Nat.le_refl _) (fun j _ hj => by rw [eB, if_neg hj]) (fun _ => ?_)) g (fun o j z => ?_) hn10 hP (by rw [hS]; exact Nat.le_refl _) (fun j _ => by rw [endDl_eq]; rfl) (by rw [hS]) (by rw [hV]) (by rw [hV]) (by rw [endDl_eq]; rfl) (by rw [endDl_eq]; rfl) (fun z => by rw [hS] at z ⊢; exact ⟨z, rfl⟩) (by rw [hS]) (fun r _ => by rw [hN]) (by rw [hV])
  · rw [eB, if_pos rfl]
    exact (h.2.2.2.1 k hk).up hP hj (fun i hi => y1 i (by omega) (by omega)) y2 hd
  · have := sRow_e z
    unfold tabB
    rw [Bool.or_eq_true]
    exact Or.inr (decide_eq_true (by omega))
theorem IB.endz {k : Nat} (q : IB A) (hk : k < aS A 9) (hs : (aB A k).1 10 = 120) : IBz (endDl A k) := (endDl_ib (n := 0) q hk hs (Nat.zero_le _) (fun _ _ i _ h2 => absurd h2 (Nat.not_lt_zero _)) (fun _ _ _ => Nat.zero_le _)).z
theorem isCt_c {c : Nat} (h : isCt c = true) : c = 12 ∨ c = 13 ∨ c = 16 ∨ c = 17 := by
  unfold isCt isQn isLp at h
  simp only [Bool.or_eq_true, decide_eq_true_eq] at h
  omega
theorem isSt_c {c : Nat} (h : isSt c = true) : c = 10 ∨ c = 11 := by
  unfold isSt at h
  simp only [Bool.or_eq_true, decide_eq_true_eq] at h
  omega
/-- a control's delay ends -/
theorem m_endsC {k : Nat} (h : RM b A ρ μ) (q : IB A) (f : IF A) (hk : k < aS A 9) (hs : (aB A k).1 10 = 120) (hc : isCt (eC A (aB A k)) = true) : ∃ μ', f_X11_ends (b + 30) (nI k) μ = some ((), μ') ∧ RM b (endCt (endDl A k) k) ρ μ' ∧ CH b sMo μ μ' := by
  have s := h.1
  unfold SM at s
  obtain ⟨q1, q2, q3, q4, q5, q6, q7, q8, -⟩ := id q
  have hn9 : aS A 9 ≤ 16 := by have := q2.1; have := q1.2.1; omega
  have hn10 : aS A 10 ≤ 8 := by have := f.1; have := q1.1; omega
  obtain ⟨r1, r2, r3⟩ := h.2.2.1.1 k (by omega)
  have s2 := h.1.row ⟨r2, r3⟩
  have re := h.2.2.2.1 k hk
  have ho := q6 k hk
  obtain ⟨d1, d2, d3, d4, d5, d6, d7⟩ := q7 k hk
  have ab := q.ab hk
  have hcc := isCt_c hc
  have hd : hasD (eC A (aB A k)) = false := by rcases hcc with e | e | e | e <;> rw [e] <;> rfl
  have hns : isSt (eC A (aB A k)) = false := by rcases hcc with e | e | e | e <;> rw [e] <;> rfl
  have hq : isQd (eC A (aB A k)) = true := by rcases hcc with e | e | e | e <;> rw [e] <;> rfl
  have hmm : isMm (eC A (aB A k)) = false := by rcases hcc with e | e | e | e <;> rw [e] <;> rfl
  obtain ⟨y1, y2, y3, y4, y5, y6, y7⟩ := endY_f A k
  have y10 := (y5 hd).1
  have yy4 := endY_4 A k hd
  have hSt := endDl_St A k
  have ey : aB (endDl A k) k = endY A k := by rw [endDl_eq]; exact up1_eq _ _ _
  have hS : aS (endDl A k) = aS A := by rw [endDl_eq]; rfl
  have ec : eC (endDl A k) (aB (endDl A k) k) = eC A (aB A k) := (hSt.c hk).1
  have iz := q.endz hk hs
  obtain ⟨x, hx⟩ : ∃ x, x = aB A k := ⟨_, rfl⟩
  have E : endCt (endDl A k) k = if x.1 12 = 0 ∧ x.2.1 0 ≠ nI (x.1 5) then goOn (throwF (zS (endDl A k) 19 (aS (endDl A k) 19 + 1)) (k + 1)) (x.2.1 0).toNatClampNeg x.2.2 else endDl A k := by
    unfold endCt
    dsimp only
    rw [ec, ey, y1 12 (by decide) (by decide), y3 0 (by decide), y1 5 (by decide) (by decide), y2, hc, hx]
    simp only [true_and]
  rw [E]
  rw [← hx] at re ho hs hd d1 d2 d3 d4 d5 d6 d7 ab y1 y2 y3 hq hns hc hcc hmm
  have hp := q1.p ho.1
  have hec : eC A x = aN A 10 (x.1 0) := rfl
  have hco : f_X11_codeOf (b + 30) (b + ρ k) μ = some (nI (eC A x)) := m_codeOf h.1 h.2.2.2.2.2.1 q1.2.2.2.2.1 s2.1 s2.2 re.1 ho.1
  have hcd := m_hasD (eC A x) (by rw [hec]; omega)
  have hcs := m_isSt (eC A x) (by rw [hec]; omega)
  rw [hd] at hcd
  rw [hns] at hcs
  obtain ⟨c1, c2, c3, c4, c5, c6, c7, c8, c9⟩ := d7 (by omega)
  have n21 : eC A x ≠ 21 := by omega
  rw [if_neg (fun z => n21 z.1)] at c3
  have t5 : x.1 12 ≤ 5 := by rw [c3]; exact tpV_le _ _ _ _
  obtain ⟨w11, w3, w12, w4, w13, w6, w14, w15, w15b, w16⟩ := re.d
  have h36 : mI μ (b + 30) 36 = nI (aS A 0) := h.2.1.1 0 rfl
  have n1 : b + 30 ≠ b + ρ k := by omega
  obtain ⟨μ2, hμ2⟩ : ∃ μ2, μ2 = sI (sI μ (b + ρ k) 11 101) (b + ρ k) 4 (nI (aS A 0)) := ⟨_, rfl⟩
  have g2 : CH b (sRow (ρ k)) μ μ2 := by
    rw [hμ2]
    exact (CH.put (sRow_at _ _)).trans (CH.put (sRow_at _ _))
  have row2 : mI μ2 (b + ρ k) = up1 (up1 (mI μ (b + ρ k)) 11 101) 4 (nI (aS A 0)) := by rw [hμ2, mI_up, mI_up]
  have hro : ∀ o j, sRow (ρ k) o j = true → ¬ (o = 30 ∨ (38 ≤ o ∧ o ≤ 44) ∨ (72 ≤ o ∧ o ≤ 75) ∨ o = 81) := fun o j z => by
    have := sRow_e z
    omega
  have hrf : ∀ {o j : Nat}, o < 46 → sRow (ρ k) o j = false := fun {o j} ho => by
    cases hz : sRow (ρ k) o j with
    | false => rfl
    | true => have := sRow_e hz; omega
  have S2 := h.1.ch g2
  have T2 := h.2.1.ch g2 hro
  have P2 : PM b A μ2 := h.2.2.2.2.2.1.ch g2 (fun o j _ _ => hrf (by omega))
  obtain ⟨μ3, e3, g3, v6, v13, vj⟩ := m_finds (r := ρ k) (p := x.1 0) (ra := x.1 6) (rb := x.1 7) (c := eC A x) S2 T2 P2 q1.2.2.2.2.1 ⟨r2, r3⟩ (by rw [row2]; exact re.1) ho.1 (by rw [row2]; exact re.2.2.2.2.1) (by rw [row2]; exact re.2.2.2.2.2.1) ab.1 ab.2 hcc
  have g : CH b (sRow (ρ k)) μ μ3 := g2.trans g3
  -- the values found
  have e6 : mI μ3 (b + ρ k) 6 = x.2.1 0 := by
    rw [v6, c4, goV_n _ _ _ _ _ (by omega)]
    rfl
  have e13 : mI μ3 (b + ρ k) 13 = nI (x.1 12) := by
    rw [v13]
    cases hl : isLp (eC A x) with
    | true =>
      rw [if_pos rfl, c3, tpV_n _ _ _ _ (by omega)]
      rfl
    | false =>
      have hcc2 : eC A x = 12 ∨ eC A x = 13 := by
        rcases hcc with e | e | e | e
        · exact Or.inl e
        · exact Or.inr e
        · rw [e] at hl; cases hl
        · rw [e] at hl; cases hl
      rw [if_neg (by decide), row2]
      have z : mI μ (b + ρ k) 13 = 0 := by
        rw [w13, hq, if_pos rfl, if_neg (by omega), if_pos (Or.inr hs)]
      have z2 : x.1 12 = 0 := by
        rw [c3]
        rcases hcc2 with e | e <;> rw [e] <;> rfl
      rw [z2]
      exact z
  have hj : ∀ j, j = 0 ∨ j = 1 ∨ j = 2 ∨ j = 5 ∨ j = 7 ∨ j = 8 ∨ j = 9 ∨ j = 10 ∨ 17 ≤ j → mI μ3 (b + ρ k) j = mI μ (b + ρ k) j := fun j hj => by
    rw [vj j (by omega) (by omega), row2, up1_ne _ _ (by omega), up1_ne _ _ (by omega)]
  have h3 : RM b (endDl A k) ρ μ3 := by
    refine m_endRow h q f hk g hj ?_
    rw [← hx]
    unfold REd
    rw [y10, y1 3 (by decide) (by decide), y1 12 (by decide) (by decide), y3 0 (by decide), yy4, hq, hd, hmm]
    have n9 : eC A x ≠ 9 := by omega
    refine ⟨?_, fun _ _ => ?_, fun z => absurd z (by decide), fun _ => ?_, ?_, fun _ => e6, fun z => (by cases z), fun z => absurd z n9, fun z => (by cases z), fun z => absurd z n9⟩
    · rw [vj 11 (by decide) (by decide), row2]
      rfl
    · rw [vj 3 (by decide) (by decide), row2]
      exact w3 hq (by omega)
    · rw [vj 4 (by decide) (by decide), row2]
      rfl
    · rw [if_pos rfl, if_neg n9, if_neg (by decide)]
      exact e13
  have e5 : mI μ3 (b + ρ k) 5 = nI (x.1 5) := by rw [hj 5 (by omega)]; exact re.2.2.2.1
  have s3 := h3.1
  unfold SM at s3
  have s23 := h3.1.row ⟨r2, r3⟩
  have base : f_X11_ends (b + 30) (nI k) μ = (if ¬ mI μ3 (b + ρ k) 13 = 0 then some ((), μ3) else if mI μ3 (b + ρ k) 6 = mI μ3 (b + ρ k) 5 then some ((), μ3) else (cl (f_X11_stackAs (b + 30) (b + ρ k) 23 (sI μ3 (b + 30) 48 (mI μ3 (b + 30) 48 + 1))) fun _ μ40 =>
          ck (isA 1 (mK μ40 (b + ρ k))) <|
          ck (inb 6 (mL μ40 (b + ρ k))) <|
          ck (mK μ40 (b + 30) = 112) <|
          cl (f_X11_goesOn (b + 30) (mI μ40 (b + ρ k) 6) μ40) fun _ μ46 =>
          ck (mK μ46 (b + 30) = 112) <|
          cl (f_X11_throwsFrom (b + 30) (nI k + 1) μ46) fun _ μ50 =>
          some ((), μ50))) := by
    simp only [f_X11_ends, s, s2, ckT, bdS, zlS, ckA, ckI, tcL, r1, hco, hcd, hcs, bI, Bool.false_eq_true, if_true, if_false, h36, mK_sI, mL_sI, mR_sI', mI_ne _ _ (Or.inl n1), ck_t (inbN (p := k) (n := 16) (by omega) (by omega)), clN (show k < 100000 by omega), ← hμ2, cl_t e3, s3, s23]
  rw [base, e13, e6, e5]
  by_cases ht : x.1 12 = 0
  · rw [if_neg (fun z => z (by rw [ht]; rfl))]
    by_cases hg : x.2.1 0 = nI (x.1 5)
    · rw [if_pos hg, if_neg (fun z => z.2 hg)]
      exact ⟨μ3, rfl, h3, g.mo ⟨r2, r3⟩⟩
    · rw [if_neg hg, if_pos ⟨ht, hg⟩]
      obtain ⟨gg, gg64, hgg⟩ := (d7 (by omega)).go q1 ho ht
      obtain ⟨B, hB⟩ : ∃ B, B = endDl A k := ⟨_, rfl⟩
      rw [← hB] at h3 iz hS ⊢
      have h48 : mI μ3 (b + 30) 48 = nI (aS B 19) := h3.2.1.1 19 rfl
      have n9B : aS B 9 ≤ 16 := by rw [hS]; exact hn9
      have n10B : aS B 10 ≤ 8 := by rw [hS]; exact hn10
      have h4 : RM b (zS B 19 (aS B 19 + 1)) ρ (sI μ3 (b + 30) 48 (nI (aS B 19 + 1))) := by
        refine h3.next (S := fun o j => o == 30 && j == 48) (h3.2.1.putS mT_ok (i := 19) rfl _) (CH.put rfl) (fun o j z => ?_) n9B n10B SamP.refl0 (Nat.le_refl _) (fun _ _ => rfl) (Nat.le_refl _) (fun _ _ => rfl) rfl rfl rfl rfl rfl (fun z => ⟨z, rfl⟩) rfl (fun _ _ => rfl) rfl
        simp only [Bool.and_eq_true, beq_iff_eq] at z
        exact decide_eq_true (by omega)
      obtain ⟨μ4, hμ4⟩ : ∃ μ4, μ4 = sI μ3 (b + 30) 48 (nI (aS B 19 + 1)) := ⟨_, rfl⟩
      rw [← hμ4] at h4
      have rr4 : mI μ4 (b + ρ k) = mI μ3 (b + ρ k) := by rw [hμ4]; exact mI_row _ _ (by omega)
      obtain ⟨μ5, e5', h5, g5⟩ := m_stackAs (r := ρ k) (o := 23) (x := 23) (t := x.2.2) h4 n9B n10B ⟨r2, r3⟩ rfl (Nat.le_refl _) (by
        rw [rr4]
        have st := re.2.2.2.2.2.2.2.2.1
        exact ⟨(hj 23 (by omega)).trans st.1, fun i hi => (hj _ (by omega)).trans (st.2 i hi)⟩) ho.2.2.1.1
      have rr5 : mI μ5 (b + ρ k) 6 = nI gg := by
        rw [g5.cell (by unfold sSt; simp; omega), rr4, e6, hgg]
      obtain ⟨μ6, μ7, e6', k6, e7, h7, g7⟩ := m_goThrow (n := k + 1) (p := gg) h5 (iz.cg (fun i hi => zS_ne _ _ (by omega)) (fun _ _ _ => rfl) (fun _ _ => rfl) rfl rfl iz.2.1.2.2.2.2.2.2) n10B (by show k + 1 ≤ aS B 9; rw [hS]; omega)
      have s5 := h5.1
      unfold SM at s5
      have s25 := h5.1.row ⟨r2, r3⟩
      refine ⟨μ7, ?_, ?_, (g.mo ⟨r2, r3⟩).trans (CH.trans ?_ ((g5.mono fun o j z => ?_).trans g7))⟩
      · rw [h48, nI_1, ← hμ4, cl_t e5']
        simp only [s5, s25, ckA, ckI, ckT, rr5, cl_t e6', k6, nI_1, cl_t e7]
      · rw [goOn_eq] at h7
        rw [hgg, clN (by omega)]
        exact h7
      · rw [hμ4]
        exact CH.put (o := 30) rfl
      · unfold sSt at z
        simp only [beq_iff_eq] at z
        exact decide_eq_true (by omega)
  · rw [if_pos (show ¬ nI (x.1 12) = 0 from nIne (n := 0) (by omega) (by omega) ht), if_neg (fun z => ht z.1)]
    exact ⟨μ3, rfl, h3, g.mo ⟨r2, r3⟩⟩
end MEN4
