/-! the model: renaming, step by step -/
section MR8
variable {b : Nat} {A B : Sx} {ρ : Nat → Nat} {μ μ' : Mm} {S : Nat → Nat → Bool}
theorem canRn_e {c : Nat} (h : canRn A c = true) : aS A 9 < aS A 17 ∧ (hasD c = true → aS A 7 ≠ 0) := by
  unfold canRn at h
  simp only [Bool.and_eq_true, decide_eq_true_eq, Bool.not_eq_true', Bool.and_eq_false_iff, decide_eq_false_iff_not] at h
  refine ⟨h.1.1.1, fun hd => ?_⟩
  rcases h.1.1.2 with z | z
  · rw [hd] at z; cases z
  · exact z
/-- up to where a row is filled -/
theorem m_rnHead {fu w : Nat} (h : RM b A ρ μ) (q : IV A) (qb : QB A) (hw : w < aS A 16) (h10 : aS A 10 ≠ 0) (hc : canRn A (eC A (aL A 0)) = true) : ∃ μ', f_X11_renames_b2 (fu + 1) (b + 30) (nI w) μ = f_X11_renames_b144 (f_X11_renames_b2 fu) (b + 30) (nI w) (b + ρ (aS A 9)) μ' ∧ CH b (sRn (ρ (aS A 9))) μ μ' ∧ RT mT b (zS (zS A 9 (aS A 9 + 1)) 10 (aS A 10 - 1)) μ' ∧ (∀ k, k < 28 → mI μ' (b + ρ (aS A 9)) k = mI μ (b + 63) k) ∧ ∀ j k, j < aS A 10 - 1 → k < 28 → mI μ' (b + (63 + j)) k = mI μ (b + (63 + (j + 1))) k := by
  obtain ⟨c17, c7⟩ := canRn_e hc
  have q1 := q.1.1
  have n9 : aS A 9 < 16 := by have := q1.2.1; omega
  have n10 : aS A 10 ≤ 8 := by have := q.2.1; have := q1.1; omega
  have l := q.2.2.2.2.1 0 (by omega)
  have hp := q1.p l.1.1
  have S := h.1
  have s := h.1
  unfold SM at s
  have hr := h.2.2.1.1 (aS A 9) n9
  have hrl := h.2.2.1.2.2
  have h0 : mI μ (b + 63) 0 = nI ((aL A 0).1 0) := (h.2.2.2.2.1 0 (by omega)).1
  have hcr := m_canRn (c := eC A (aL A 0)) h q.1 qb (by have : eC A (aL A 0) = aN A 10 ((aL A 0).1 0) := rfl; omega)
  rw [hc] at hcr
  have p10 : mI μ (b + 31) ((aL A 0).1 0) = nI (eC A (aL A 0)) := (h.2.2.2.2.2.1 _ l.1.1).1
  have h6 : mI μ (b + 30) 6 = nI (aS A 16) := h.2.1.1 16 rfl
  have h25 : mI μ (b + 30) 25 = nI (aS A 10) := h.2.1.1 10 rfl
  have h23 : mI μ (b + 30) 23 = nI (aS A 9) := h.2.1.1 9 rfl
  have c1 : ¬ nI (aS A 16) ≤ nI w := nI_ge (by omega) (by have := q1.1; omega)
  have c2 : ¬ nI (aS A 10) ≤ 0 := nI_nle (by omega) (by omega)
  have i9 := inbN (p := aS A 9) (n := 16) n9 (by omega)
  have cl9 := clN (show aS A 9 < 100000 by omega)
  have ip := inbN (p := (aL A 0).1 0) (n := 64) hp.1 (by omega)
  have clp := clN (show (aL A 0).1 0 < 100000 by omega)
  have i08 : inb 0 8 := by decide
  have s63 := S.lrow (o := 63) (by omega)
  have r0 : mR μ (b + 62) 0 = some (b + 63) := hrl 0 (by omega)
  have b1 : ¬ bI true = 0 := by decide
  obtain ⟨r, hrr⟩ : ∃ r, r = ρ (aS A 9) := ⟨_, rfl⟩
  rw [← hrr] at hr ⊢
  -- the count of the buffer
  obtain ⟨μ1, m1⟩ : ∃ μ1, μ1 = sI μ (b + 30) 23 (nI (aS A 9 + 1)) := ⟨_, rfl⟩
  have t1 : RT mT b (zS A 9 (aS A 9 + 1)) μ1 := by rw [m1]; exact h.2.1.putS mT_ok (i := 9) rfl (aS A 9 + 1)
  have g1 : CH b (sRn r) μ μ1 := by rw [m1]; exact CH.put (sRn_m (sRm_t (by omega)))
  have S1 := S.ch g1
  obtain ⟨μ2, e2, g2, v2⟩ := m_cp59 (b := b) (r := r) (x1 := nI w) (k2 := f_X11_renames_b2 fu) hr.2 28 0 5000 μ1 rfl (by omega) S1 (by rw [g1.2.2.1]; exact r0)
  have t2 := t1.rowR g2 (by omega)
  have S2 := S1.ch g2
  have h25b : mI μ2 (b + 30) 25 = nI (aS A 10) := by
    rw [g2.row2 (show 30 ≠ r by omega), m1, mI_ne _ _ (Or.inr (by decide))]
    exact h25
  obtain ⟨μ3, m3⟩ : ∃ μ3, μ3 = sI μ2 (b + 30) 25 (nI (aS A 10 - 1)) := ⟨_, rfl⟩
  have t3 : RT mT b (zS (zS A 9 (aS A 9 + 1)) 10 (aS A 10 - 1)) μ3 := by rw [m3]; exact t2.putS mT_ok (i := 10) rfl (aS A 10 - 1)
  have g3 : CH b (sRn r) μ2 μ3 := by rw [m3]; exact CH.put (sRn_m (sRm_t (by omega)))
  have S3 := S2.ch g3
  obtain ⟨μ4, e4, g4, -, v4⟩ := m_sh94 (b := b) (a2 := b + r) (N := aS A 10 - 1) (x1 := nI w) (k2 := f_X11_renames_b2 fu) (by omega) (aS A 10 - 1) 0 5000 μ3 (by omega) (by omega) S3 (by rw [g3.2.2.1, g2.2.2.1, g1.2.2.1]; exact hrl) (by rw [m3, mI_at])
  refine ⟨μ4, ?_, ((g1.trans (g2.mono fun o k z => sRn_m (sRm_t (Or.inr (Or.inr (sRow_e z)))))).trans g3).trans (g4.mono fun o k z => by
    have := of_decide_eq_true z
    unfold sRn
    rw [Bool.or_eq_true]
    exact Or.inr (decide_eq_true this)), ?_, fun k hk => ?_, fun j k hj hk => ?_⟩
  · rw [← e4]
    have hd : nI (aS A 10) - 1 = nI (aS A 10 - 1) := by
      have := nI_pred (aS A 10 - 1)
      rw [show aS A 10 - 1 + 1 = aS A 10 by omega] at this
      exact this
    have e82 : f_X11_renames_b82 (f_X11_renames_b2 fu) (b + 30) (nI w) (b + r) μ2 = f_X11_renames_b94 (f_X11_renames_b2 fu) 5000 (b + 30) (nI w) (b + r) (nI 0) μ3 := by
      have k2 := S2.1
      simp only [f_X11_renames_b82, k2, ckT, zlS, h25b, hd, ← m3]
      rfl
    rw [← e82, ← e2]
    simp only [f_X11_renames_b2, s, s63, ckT, bdS, zlS, ckA, ckI, tcL, h6, c1, if_false, h25, c2, ck_t i08, r0, h0, ck_t ip, clp, p10, hcr, b1, h23, ck_t i9, cl9, hr.1, nI_1, ← m1]
    rfl
  · exact t3.ch g4 (fun o k z => by have := of_decide_eq_true z; omega)
  · have e3 : mI μ4 (b + r) = mI μ3 (b + r) := g4.row (fun j => decide_eq_false (by omega))
    rw [e3, m3, mI_row _ _ (show b + r ≠ b + 30 by omega), v2 k hk, if_pos (Nat.zero_le _), m1, mI_row _ _ (show b + 63 ≠ b + 30 by omega)]
  · rw [v4 j k (Nat.zero_le _) hj hk, m3, mI_row _ _ (show b + (63 + (j + 1)) ≠ b + 30 by omega), g2.row2 (show 63 + (j + 1) ≠ r by omega), m1, mI_row _ _ (show b + (63 + (j + 1)) ≠ b + 30 by omega)]
theorem rnF_at (F : Nat → Int32) (cyc va vb g t : Int32) : rnF F cyc va vb g t 2 = cyc ∧ rnF F cyc va vb g t 7 = va ∧ rnF F cyc va vb g t 8 = vb ∧ rnF F cyc va vb g t 16 = -1 ∧ rnF F cyc va vb g t 6 = g ∧ rnF F cyc va vb g t 13 = t ∧ ∀ k, k = 0 ∨ k = 1 ∨ k = 5 ∨ k = 17 ∨ 18 ≤ k → rnF F cyc va vb g t k = F k := by
  unfold rnF
  refine ⟨rfl, rfl, rfl, rfl, rfl, rfl, fun k hk => ?_⟩
  simp only [up1_if]
  rw [if_neg (by omega), if_neg (by omega), if_neg (by omega), if_neg (by omega), if_neg (by omega), if_neg (by omega), if_neg (by omega)]
theorem rn1_v (h : eC A (aL A 0) ≠ 15) : aV (rn1 A) = aV A := by
  have ec : eC A (giveA (shiftL A) (aL A 0)).2 = eC A (aL A 0) := by
    unfold eC
    rw [(giveA_f (shiftL A) (aL A 0)).2.2.2.2.2.2.2.1 0 (by decide) (by decide) (by decide) (by decide)]
  unfold rn1
  dsimp only
  rw [ec, if_neg h]
  exact (giveA_f (shiftL A) (aL A 0)).2.2.1
theorem m_rn1 {fu w : Nat} (h : RM b A ρ μ) (q : IV A) (qb : QB A) (hw : w < aS A 16) (h10 : aS A 10 ≠ 0) (hc : canRn A (eC A (aL A 0)) = true) : ∃ μ', f_X11_renames_b2 (fu + 1) (b + 30) (nI w) μ = f_X11_renames_b2 fu (b + 30) (nI (w + 1)) μ' ∧ RM b (rn1 A) ρ μ' ∧ CH b sMo μ μ' := by
  obtain ⟨μ4, e4, g4, t4, v4, w4⟩ := m_rnHead (fu := fu) h q qb hw h10 hc
  obtain ⟨c17, c7⟩ := canRn_e hc
  have q1 := q.1.1
  have n9 : aS A 9 < 16 := by have := q1.2.1; omega
  have l := q.2.2.2.2.1 0 (by omega)
  have hp := q1.p l.1.1
  have hr := h.2.2.1.1 (aS A 9) n9
  have nf := q.1.2.2.2.1.nf
  have q8 := q1.2.2.2.1
  obtain ⟨p, hpp⟩ : ∃ p, p = (aL A 0).1 0 := ⟨_, rfl⟩
  obtain ⟨c, hcc⟩ : ∃ c, c = aN A 10 p := ⟨_, rfl⟩
  have hec : eC A (aL A 0) = c := by rw [hcc, hpp]; rfl
  have hx := h.2.2.2.2.1 0 (by omega)
  obtain ⟨r, hrr⟩ : ∃ r, r = ρ (aS A 9) := ⟨_, rfl⟩
  have fin := fun (μ' : Mm) => m_rnEnd (μ' := μ') h q n9
  rw [← hrr] at e4 g4 v4 hr fin
  have S4 := h.1.ch g4
  have P4 : PM b A μ4 := h.2.2.2.2.2.1.ch g4 (fun o k _ _ => sRn_f (by omega))
  have h04 : mI μ4 (b + r) 0 = nI p := by rw [v4 0 (by omega), hpp]; exact hx.1
  obtain ⟨μ5, e5, g5, v5⟩ := m_rnA (b := b) (r := r) (p := p) (x1 := nI w) (k2 := f_X11_renames_b2 fu) S4 t4 P4 q1 hr.2 h04 (by rw [hpp]; exact l.1.1)
  rw [← hcc] at e5 v5
  have S5 := S4.ch g5
  have t5 := t4.rowR g5 (by omega)
  have k5 := S5.1
  have s5r := S5.row hr.2
  have hcb : c < 22 := by rw [← hec]; have : eC A (aL A 0) = aN A 10 ((aL A 0).1 0) := rfl; omega
  have hdd := m_hasD c hcb
  obtain ⟨B, hB⟩ : ∃ B, B = zS (zS A 9 (aS A 9 + 1)) 10 (aS A 10 - 1) := ⟨_, rfl⟩
  rw [← hB] at t4 t5 v5
  have B0 : aS B 0 = aS A 0 := by rw [hB, zS_ne _ _ (by decide), zS_ne _ _ (by decide)]
  have BN : aN B = aN A := by rw [hB]; rfl
  have BV : aV B = aV A := by rw [hB]; rfl
  have eI5 : aV A 5 p = eI A (aL A 0) := by rw [hpp]; rfl
  have eD5 : aN A 11 p = eD A (aL A 0) := by rw [hpp]; rfl
  rw [B0, BN, eI5] at v5
  obtain ⟨a2, a7, a8, a16, a6, a13, ak⟩ := rnF_at (mI μ4 (b + r)) (nI (aS A 0)) (nI (aN A 0 (aN A 12 p))) (nI (aN A 0 (aN A 13 p))) (if c = 14 ∨ c = 15 then eI A (aL A 0) else nI (p + 1)) (if c = 20 then 4 else 0)
  rw [← v5] at a2 a7 a8 a16 a6 a13 ak
  obtain ⟨f1, f2, f3, f4, f5, f6, f7, f8, f9, f10, f11, f12, f13⟩ := rn1_f A
  rw [hec] at f10 f11 f12 f13
  have mo : ∀ {ν ν' : Mm}, CH b (sRn r) ν ν' → CH b sMo ν ν' := fun g => g.mono fun o k z => by
    have := sRn_e z
    exact decide_eq_true (by omega)
  have lines : ∀ {μ' : Mm}, CH b (sRm r) μ4 μ' → ∀ j k, j < aS A 10 - 1 → k < 28 → mI μ' (b + (63 + j)) k = mI μ (b + (63 + (j + 1))) k := fun g j k hj hk => by
    have := q.2.1
    have := q1.1
    rw [g.row (o := 63 + j) (fun i => sRm_f (by omega))]
    exact w4 j k hj hk
  have up : ∀ {ν ν' : Mm}, CH b (sRow r) ν ν' → CH b (sRm r) ν ν' := fun g => g.mono fun o k z => sRm_t (Or.inr (Or.inr (sRow_e z)))
  have row : ∀ (F : Nat → Int32), F = (fun k => if k = 11 then (if isQd c = true then 113 else 101) else if k = 4 then nI (aS A 0) else if hasD c = true ∧ k = 9 then nI (aN A 3 0) else if hasD c = true ∧ k = 10 then nI (aN A 0 (eD A (aL A 0))) else mI μ5 (b + r) k) → REm (rn1 A) (rnE A) F := fun F hF => by
    refine rn_row (F0 := mI μ4 (b + r)) q.2 h10 (hx.to28 (fun k hk => v4 k hk) l.1.2.2.1.1) (fun k hk => ?_) ?_ ?_ ?_ ?_ ?_ ?_ ?_ ?_ (fun hd => ?_)
    · rw [hF]
      show (if k = 11 then _ else _) = _
      rw [if_neg (by omega), if_neg (by omega), if_neg (by omega), if_neg (by omega)]
      exact ak k (by omega)
    · rw [hF]; show (if (2 : Nat) = 11 then _ else _) = _
      rw [if_neg (by omega), if_neg (by omega), if_neg (by omega), if_neg (by omega)]; exact a2
    · rw [hF]; show (if (7 : Nat) = 11 then _ else _) = _
      rw [if_neg (by omega), if_neg (by omega), if_neg (by omega), if_neg (by omega), ← hpp]; exact a7
    · rw [hF]; show (if (8 : Nat) = 11 then _ else _) = _
      rw [if_neg (by omega), if_neg (by omega), if_neg (by omega), if_neg (by omega), ← hpp]; exact a8
    · rw [hF, hec]; rfl
    · rw [hF]; rfl
    · rw [hF, hec]; show (if (13 : Nat) = 11 then _ else _) = _
      rw [if_neg (by omega), if_neg (by omega), if_neg (by omega), if_neg (by omega)]; exact a13
    · rw [hF, hec]; show (if (6 : Nat) = 11 then _ else _) = _
      rw [if_neg (by omega), if_neg (by omega), if_neg (by omega), if_neg (by omega), ← hpp]; exact a6
    · rw [hF]; show (if (16 : Nat) = 11 then _ else _) = _
      rw [if_neg (by omega), if_neg (by omega), if_neg (by omega), if_neg (by omega)]; exact a16
    · rw [hec] at hd
      rw [hF]
      refine ⟨?_, ?_⟩
      · show (if (9 : Nat) = 11 then _ else _) = _
        rw [if_neg (by omega), if_neg (by omega), if_pos ⟨hd, rfl⟩]
      · show (if (10 : Nat) = 11 then _ else _) = _
        rw [if_neg (by omega), if_neg (by omega), if_neg (by omega), if_pos ⟨hd, rfl⟩]
  -- the end of the row
  have tail : ∀ (ν : Mm), SM b ν → CH b (sRm r) μ4 ν → RT mT b (rn1 A) ν → (∀ k, mI ν (b + r) k = if hasD c = true ∧ k = 9 then nI (aN A 3 0) else if hasD c = true ∧ k = 10 then nI (aN A 0 (eD A (aL A 0))) else mI μ5 (b + r) k) → ∃ μ', f_X11_renames_b393 (f_X11_renames_b2 fu) (b + 30) (nI w) (b + r) (nI c) ν = f_X11_renames_b2 fu (b + 30) (nI (w + 1)) μ' ∧ RM b (rn1 A) ρ μ' ∧ CH b sMo μ μ' := fun ν Sν gν tν vν => by
    have h36 : mI ν (b + 30) 36 = nI (aS A 0) := by
      have := tν.1 0 rfl
      rw [f1 0 (by decide) (by decide) (by decide)] at this
      exact this
    obtain ⟨μ', hμ'⟩ : ∃ μ', μ' = sI (sI ν (b + r) 11 (if isQd c = true then 113 else 101)) (b + r) 4 (nI (aS A 0)) := ⟨_, rfl⟩
    have gg : CH b (sRow r) ν μ' := by rw [hμ']; exact CH.putR.trans CH.putR
    have gall : CH b (sRn r) μ μ' := g4.trans ((gν.trans (up gg)).mono fun o k z => sRn_m z)
    refine ⟨μ', ?_, ?_, mo gall⟩
    · rw [m_rnT Sν hr.2 hcb, h36, ← hμ', nI_1]
    · refine fin μ' gall (tν.rowR gg (by omega)) (row _ ?_) (lines (gν.trans (up gg)))
      rw [hμ', mI_up, mI_up]
      funext k
      simp only [up1_if]
      by_cases k4 : k = 4
      · subst k4
        rfl
      · rw [if_neg k4]
        by_cases k11 : k = 11
        · rw [if_pos k11, if_pos k11]
        · rw [if_neg k11, if_neg k11, if_neg k4]
          exact vν k
  rw [e4, e5]
  have o0 : bI false = 0 := rfl
  have o1 : bI true = 1 := rfl
  have n10 : ¬ (1 : Int32) = 0 := by decide
  cases hd : hasD c <;> rw [hd] at hdd
  · have ee : ∀ x : Option (Unit × Mm), (bd (some (bI false)) fun y105 => if y105 = 0 then f_X11_renames_b393 (f_X11_renames_b2 fu) (b + 30) (nI w) (b + r) (nI c) μ5 else x) = f_X11_renames_b393 (f_X11_renames_b2 fu) (b + 30) (nI w) (b + r) (nI c) μ5 := fun x => rfl
    rw [hdd, ee]
    refine tail μ5 S5 (up g5) (t5.cg (fun i hi => ?_) (fun i k hi hk => ?_) (fun i k hi hk => ?_)) (fun k => ?_)
    · by_cases i7 : i = 7
      · subst i7
        rw [(f11 hd).1, hB, zS_ne _ _ (by decide), zS_ne _ _ (by decide)]
      · by_cases i9 : i = 9
        · subst i9
          rw [f2, hB, zS_ne _ _ (by decide), zS_at]
        · by_cases i10 : i = 10
          · subst i10
            rw [f3, hB, zS_at]
          · rw [f1 i i7 i9 i10, hB, zS_ne _ _ i10, zS_ne _ _ i9]
    · rw [BN]
      by_cases i0 : i = 0
      · subst i0; rw [(f11 hd).2.1]
      · by_cases i3 : i = 3
        · subst i3; rw [(f11 hd).2.2]
        · by_cases i2 : i = 2
          · subst i2
            exact (f12 k (fun z => by rw [hd] at z; cases z)).1
          · rw [f4 i i0 i2 i3]
    · rw [BV]
      by_cases i1 : i = 1
      · subst i1
        exact (f12 k (fun z => by rw [hd] at z; cases z)).2
      · rw [f5 i i1]
    · rw [hd, if_neg (fun z => by cases z.1), if_neg (fun z => by cases z.1)]
  · have hf := c7 (by rw [hec]; exact hd)
    obtain ⟨g, hg⟩ : ∃ g, g = aN A 3 0 := ⟨_, rfl⟩
    have g24 : g < 24 := by
      have := q.1.2.2.2.1.free (j := 0) (by omega)
      omega
    have m44 : mI μ5 (b + 44) 0 = nI g := by
      have := t5.2.1 3 0 (by omega) (show 0 < 24 by omega)
      rw [BN] at this
      rw [hg]
      exact this
    have s5 := S5
    unfold SM at s5
    have h21 : mI μ5 (b + 30) 21 = nI (aS A 7) := by
      have := t5.1 7 rfl
      rw [hB, zS_ne _ _ (by decide), zS_ne _ _ (by decide)] at this
      exact this
    obtain ⟨μ7, m7⟩ : ∃ μ7, μ7 = sI (sI μ5 (b + r) 9 (nI g)) (b + 30) 21 (nI (aS A 7 - 1)) := ⟨_, rfl⟩
    have hpd : nI (aS A 7) - 1 = nI (aS A 7 - 1) := by
      have := nI_pred (aS A 7 - 1)
      rw [show aS A 7 - 1 + 1 = aS A 7 by omega] at this
      exact this
    have n30 : b + 30 ≠ b + r := by omega
    have i024 : inb 0 24 := by decide
    have e7 : (bd (f_X11_hasD (nI c)) fun y105 => if y105 = 0 then f_X11_renames_b393 (f_X11_renames_b2 fu) (b + 30) (nI w) (b + r) (nI c) μ5 else ck (mK μ5 (b + 30) = 112) <| bd (mR μ5 (b + 30) 20) fun p109 => ck (isA 1 (mK μ5 p109)) <| ck (inb 0 (mL μ5 p109)) <| ck (isA 1 (mK μ5 (b + r))) <| ck (inb 9 (mL μ5 (b + r))) <| zl (sI μ5 (b + r) (Int32.toNatClampNeg 9) (mI μ5 p109 (Int32.toNatClampNeg 0))) fun μ115 => zl (sI μ115 (b + 30) 21 ((mI μ115 (b + 30) 21) - 1)) fun μ118 => f_X11_renames_b280 (f_X11_renames_b2 fu) 5000 (b + 30) (nI w) (b + r) (nI p) (nI c) 0 μ118) = f_X11_renames_b280 (f_X11_renames_b2 fu) 5000 (b + 30) (nI w) (b + r) (nI p) (nI c) (nI 0) μ7 := by
      simp only [hdd, o1, bdS, n10, if_false, s5, s5r, ckT, ckA, ckI, tcL, zlS, m44, mI_ne _ _ (Or.inl n30), h21, hpd, ← m7]
      rfl
    rw [e7]
    have t6 : RT mT b B (sI μ5 (b + r) 9 (nI g)) := t5.off _ (offM (by omega) _)
    have t7 : RT mT b (zS B 7 (aS A 7 - 1)) μ7 := by rw [m7]; exact t6.putS mT_ok (i := 7) rfl (aS A 7 - 1)
    have g7 : CH b (sRm r) μ5 μ7 := by rw [m7]; exact (CH.put (sRm_t (by omega))).trans (CH.put (sRm_t (by omega)))
    have S7 := S5.ch g7
    obtain ⟨μ8, e8, g8, v8⟩ := m_fr280 (b := b) (a2 := b + r) (n := aS A 7 - 1) (x1 := nI w) (x3 := nI p) (x4 := nI c) (k2 := f_X11_renames_b2 fu) (by omega) (aS A 7 - 1) 0 5000 μ7 (by omega) (by omega) S7 (by rw [m7, mI_at])
    rw [e8]
    have t8 : RT mT b (zNr (zS B 7 (aS A 7 - 1)) 3 (fun k => if k < aS A 7 - 1 then aN A 3 (k + 1) else aN A 3 k)) μ8 := by
      refine t7.row3 g8 (fun k hk => ?_)
      have b44 : ∀ k, k < 24 → mI μ7 (b + 44) k = nI (aN A 3 k) := fun k hk => by
        have := t7.2.1 3 k (by omega) hk
        rw [show aN (zS B 7 (aS A 7 - 1)) = aN A from BN] at this
        exact this
      rw [v8 k]
      by_cases kk : k < aS A 7 - 1
      · rw [if_pos ⟨Nat.zero_le _, kk⟩, if_pos kk]
        exact b44 (k + 1) (by omega)
      · rw [if_neg (fun z => kk z.2), if_neg kk]
        exact b44 k hk
    have S8 := S7.ch g8
    have g8m : CH b (sRm r) μ7 μ8 := g8.mono fun o k z => sRm_t (by have := sRow_e z; omega)
    have P8 : mI μ8 (b + 32) p = nI (eD A (aL A 0)) := by
      rw [g8.row2 (show 32 ≠ 44 by decide), g7.row (o := 32) (fun k => sRm_f (by omega)), g5.row2 (show 32 ≠ r by omega), ← eD5]
      exact (P4 p (by rw [hpp]; exact l.1.1)).2.1
    have r9 : mI μ8 (b + r) 9 = nI g := by
      rw [g8.row2 (show r ≠ 44 by omega), m7, mI_row _ _ (show b + r ≠ b + 30 by omega), mI_at]
    obtain ⟨μ9, e9, g9, v9, t9⟩ := m_rnD (b := b) (r := r) (p := p) (c := c) (g := g) (d := eD A (aL A 0)) (x1 := nI w) (k2 := f_X11_renames_b2 fu) S8 t8 (by rw [hpp]; exact hp.1) P8 hp.2.2.1 hr.2 r9 g24 hcb
    rw [e9]
    obtain ⟨C, hC⟩ : ∃ C, C = zNr (zS B 7 (aS A 7 - 1)) 3 (fun k => if k < aS A 7 - 1 then aN A 3 (k + 1) else aN A 3 k) := ⟨_, rfl⟩
    rw [← hC] at t9 v9
    have CN : ∀ i, i ≠ 3 → aN C i = aN A i := fun i hi => by
      rw [hC]
      show up1 (aN (zS B 7 (aS A 7 - 1))) 3 _ i = _
      rw [up1_ne _ _ hi, show aN (zS B 7 (aS A 7 - 1)) = aN A from BN]
    have CV : aV C = aV A := by rw [hC]; exact BV
    have C3 : aN C 3 = (fun k => if k < aS A 7 - 1 then aN A 3 (k + 1) else aN A 3 k) := by
      rw [hC]
      show up1 (aN (zS B 7 (aS A 7 - 1))) 3 (fun k => if k < aS A 7 - 1 then aN A 3 (k + 1) else aN A 3 k) 3 = _
      exact up1_eq _ _ _
    have CS : aS C = aS (zS B 7 (aS A 7 - 1)) := by rw [hC]; rfl
    obtain ⟨h7, hm0, hm3⟩ := f10 hd
    have hd2 := f13 hd
    rw [← hg] at hm0 hd2 f12
    refine tail μ9 (S8.ch g9) ((((up g5).trans g7).trans g8m).trans g9) (t9.cg (fun i hi => ?_) (fun i k hi hk => ?_) (fun i k hi hk => ?_)) (fun k => ?_)
    · show aS (rn1 A) i = aS C i
      rw [CS]
      by_cases i7 : i = 7
      · subst i7
        rw [h7, zS_at]
      · rw [zS_ne _ _ i7]
        by_cases i9 : i = 9
        · subst i9
          rw [f2, hB, zS_ne _ _ (by decide), zS_at]
        · by_cases i10 : i = 10
          · subst i10
            rw [f3, hB, zS_at]
          · rw [f1 i i7 i9 i10, hB, zS_ne _ _ i10, zS_ne _ _ i9]
    · show aN (rn1 A) i k = up2 (up2 (aN C) 0 (eD A (aL A 0)) g) 2 g (if c = 15 then 1 else 0) i k
      simp only [up2_if]
      by_cases i2 : i = 2
      · subst i2
        rw [if_pos rfl, if_neg (show ¬ (2 : Nat) = 0 by decide), up1_if, CN 2 (by decide)]
        by_cases kg : k = g
        · rw [if_pos kg, kg, hd2.1]
        · rw [if_neg kg]
          exact (f12 k (fun _ => kg)).1
      · rw [if_neg i2]
        by_cases i0 : i = 0
        · subst i0
          rw [if_pos rfl, hm0, CN 0 (by decide)]
        · rw [if_neg i0]
          by_cases i3 : i = 3
          · subst i3
            rw [hm3, C3]
          · rw [f4 i i0 i2 i3, CN i i3]
    · show aV (rn1 A) i k = up2 (aV C) 1 g (if c = 15 then nI (p + 1) else aV C 1 g) i k
      simp only [up2_if]
      rw [CV]
      by_cases i1 : i = 1
      · subst i1
        rw [if_pos rfl, up1_if]
        by_cases kg : k = g
        · rw [if_pos kg, kg]
          by_cases c15 : c = 15
          · rw [if_pos c15, hd2.2 c15, hpp]
          · rw [if_neg c15]
            rw [rn1_v (by rw [hec]; exact c15)]
        · rw [if_neg kg]
          exact (f12 k (fun _ => kg)).2
      · rw [if_neg i1, f5 i i1]
    · rw [v9, up1_if, g8.row2 (show r ≠ 44 by omega), m7, mI_row _ _ (show b + r ≠ b + 30 by omega), mI_up, up1_if, hd]
      by_cases k10 : k = 10
      · subst k10
        rw [if_pos rfl, if_neg (fun z => by cases z.2), if_pos ⟨rfl, rfl⟩, CN 0 (by decide)]
      · rw [if_neg k10]
        by_cases k9 : k = 9
        · subst k9
          rw [if_pos rfl, if_pos ⟨rfl, rfl⟩, hg]
        · rw [if_neg k9, if_neg (fun z => k9 z.2), if_neg (fun z => k10 z.2)]
end MR8
