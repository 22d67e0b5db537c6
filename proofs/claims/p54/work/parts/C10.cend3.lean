/-! THE CLASS: endings -/
section CE3
variable {b z e sl : Nat} {m : Nat → Nat} {A A' B : Sx} {G : Nat → Nat → Nat} {ar : Nat → Nat} {s : Nat} {μ μ' : Mm} {S : Nat → Nat → Bool}
theorem HR.lateOff {i : Nat} (h : HR b z A m G ar s μ) (hm1 : m i ≠ 1) (hi : i < aS A 9 → ¬ (m i = (aB A i).1 11 + 2 ∧ (aB A i).1 10 = 120)) : HR b z A (noL m i) G ar s μ := by
  obtain ⟨h1, h2, h3, h4, h5, h6, h7⟩ := h
  refine ⟨h1, h2, h3, fun k hk => ?_, h5, ⟨h6.1, h6.2.1, h6.2.2.1, fun e k a c d => h6.2.2.2.1 e k a c (fun q => ?_), h6.2.2.2.2⟩, h7⟩
  rotate_left
  · unfold noL at d
    by_cases e0 : k = i
    · rw [e0] at q
      exact hm1 q
    · rw [if_neg e0] at d
      exact d q
  obtain ⟨c1, c2, c3, c4, c5, c6, c7⟩ := h4 k hk
  refine ⟨c1, c2, c3, c4, c5, c6, ?_⟩
  obtain ⟨a1, a2, a3, a4, a5, a6⟩ := c7
  refine ⟨a1, a2, a3, a4, ?_, a6⟩
  unfold noL
  by_cases e : k = i
  · subst e
    exact Or.inl (a5.resolve_right (fun w => hi hk ⟨w.1, w.2.1⟩))
  · rw [if_neg e]
    exact a5
theorem c_checkLoads_no {i : Nat} (hh : HR b z B m G ar s μ) (hi : i < aS B 9) (ho : (aB B i).1 0 < aS B 15) (hc : eC B (aB B i) < 22) (hst : isSt (eC B (aB B i)) = false) : f_X0_checkLoads (b + 1) (G 1 i) (nI i) μ = some ((), μ) := by
  obtain ⟨k1, r0, -⟩ := hh.2.2.2.1 i hi
  have ins := hh.2.2.1 _ ho
  have i1 : mI μ (G 0 ((aB B i).1 0)) 1 = nI (eC B (aB B i)) := ins.2.2.1
  have qs := c_isSt ins.1 i1 hc
  rw [hst] at qs
  have b0 : bI false = 0 := rfl
  simp only [f_X0_checkLoads, k1, ckT, r0, bdS, ins.1, qs, b0, if_true]
theorem c_endOne {i : Nat} (h : FR b z A μ) (hh : HR b z A m G ar s μ) (w : WF μ) (q : IB A) (f : IF A) (hi : i < aS A 9) (hs : (aB A i).1 10 = 120) (hm1 : m i ≠ 1) : ∃ s' μ1 μ2 μ3, f_X0_endDelay (b + 1) (G 1 i) μ = some ((), μ1) ∧ mK μ1 (b + 1) = 101 ∧ f_X0_checkGuess (b + 1) (G 1 i) (nI i) μ1 = some ((), μ2) ∧ mK μ2 (b + 1) = 101 ∧ f_X0_checkLoads (b + 1) (G 1 i) (nI i) μ2 = some ((), μ3) ∧ FR b z (endSt (endCt (endDl A i) i) i) μ3 ∧ HR b z (endSt (endCt (endDl A i) i) i) (noL m i) G ar s' μ3 ∧ CK 0 0 μ μ3 := by
  obtain ⟨μ1, e1, F1, H1, c1⟩ := c_endDelay h hh q hi hs hm1
  obtain ⟨y1, y2, y3, y4, y5, y6, y7⟩ := endY_f A i
  have ho := q.2.2.2.2.2.1 i hi
  have dy := q.2.2.2.2.2.2.1 i hi
  have cm := dy.2.2.2.2.2.2 (by omega)
  have hp := q.1.p ho.1
  have eB : aB (endDl A i) i = endY A i := by rw [endDl_eq]; exact up1_eq _ _ _
  have eS : aS (endDl A i) = aS A := by rw [endDl_eq]; rfl
  have eN : aN (endDl A i) = aN A := by rw [endDl_eq]; rfl
  have n10 : aS A 10 ≤ 8 := by have := f.1; have := q.1.1; omega
  have hz := q.endz hi hs
  have ec : eC (endDl A i) (aB (endDl A i) i) = eC A (aB A i) := by
    rw [eB]
    unfold eC
    rw [eN, y1 0 (by decide) (by decide)]
  have hec : eC A (aB A i) = aN A 10 ((aB A i).1 0) := rfl
  have hcb : eC A (aB A i) < 22 := by rw [hec]; omega
  have st113 : (aB (endDl A i) i).1 10 ≠ 113 := by
    rw [eB]
    cases hdd : hasD (eC A (aB A i))
    · rw [(y5 hdd).1]; decide
    · rw [y4 hdd]; decide
  have ht : (aB (endDl A i) i).1 12 ≤ 5 := by
    rw [eB, y1 12 (by decide) (by decide), cm.2.2.1]
    split
    · exact Nat.le_refl _
    · exact tpV_le _ _ _ _
  have w1 := c1.1 w
  obtain ⟨s2, μ2, e2, F2, H2', c2⟩ := c_checkGuess F1 H1 w1 hz (by rw [eS]; exact n10) (by rw [eS]; exact hi) st113 (fun hct ht0 => by
    rw [ec] at hct
    rw [eB, y1 12 (by decide) (by decide)] at ht0
    rw [eB, y3 0 (by decide)]
    obtain ⟨g, g1, g2⟩ := cm.go q.1 ho ht0
    rw [g2, clN (by omega)]) ht
  have k2 := F1.1
  unfold SC at k2
  have k3 := F2.1
  unfold SC at k3
  have hi1 : i < aS (endDl A i) 9 := by rw [eS]; exact hi
  obtain ⟨cf1, cf2⟩ := endCt_f hi1
  cases hst : isSt (eC A (aB A i))
  · have hi2 : i < aS (endCt (endDl A i) i) 9 := by
      unfold endCt
      dsimp only
      split
      · have h9 : aS (zS (endDl A i) 19 (aS (endDl A i) 19 + 1)) 9 = aS A 9 := by rw [zS_ne _ _ (by decide), eS]
        show i < aS (throwF (zS (endDl A i) 19 (aS (endDl A i) 19 + 1)) (i + 1)) 9
        rw [(throwF_f _ (by rw [h9]; omega)).2.1]
        exact Nat.lt_succ_self _
      · exact hi1
    have ec2 : eC (endCt (endDl A i) i) (aB (endCt (endDl A i) i) i) = eC A (aB A i) := by
      rw [cf1, ← ec]
      exact (cf2.c rfl).1
    have h15 : aS (endCt (endDl A i) i) 15 = aS A 15 := by
      unfold endCt
      dsimp only
      split
      · have h9 : aS (zS (endDl A i) 19 (aS (endDl A i) 19 + 1)) 9 = aS A 9 := by rw [zS_ne _ _ (by decide), eS]
        refine (kp_goOn 15 rfl).trans ?_
        rw [(throwF_f _ (by rw [h9]; omega)).1 15 (by decide) (by decide) (by decide) (by decide), zS_ne _ _ (by decide), eS]
      · rw [eS]
    have e3 := c_checkLoads_no H2' hi2 (by rw [cf1, eB, y1 0 (by decide) (by decide), h15]; exact ho.1) (by rw [ec2]; exact hcb) (by rw [ec2]; exact hst)
    have eSt : endSt (endCt (endDl A i) i) i = endCt (endDl A i) i := endSt_no (by rw [ec2]; exact hst)
    rw [eSt]
    exact ⟨s2, μ1, μ2, μ2, e1, k2.2.1, e2, k3.2.1, e3, F2, H2', c1.trans c2⟩
  · have hct : isCt (eC A (aB A i)) = false := by
      rcases isSt_c hst with q | q <;> rw [q] <;> rfl
    have eCt : endCt (endDl A i) i = endDl A i := endCt_no (by rw [ec]; exact hct)
    rw [eCt] at F2 H2' ⊢
    obtain ⟨s3, μ3, e3, F3, H3, c3⟩ := c_checkLoads F2 H2' (c2.1 w1) hz (by rw [eS]; exact n10) hi1 st113 (fun j hj => by
      rw [eS] at hj
      have e : aB (endDl A i) j = if j = i then endY A i else aB A j := by rw [endDl_eq]; rfl
      rw [e]
      split
      · cases hdd : hasD (eC A (aB A i))
        · rw [(y5 hdd).1]; decide
        · rw [y4 hdd]; decide
      · have := (q.2.2.2.2.2.2.1 j hj).1
        omega) ht (fun _ => endDl_ib (n := 0) q hi hs (Nat.zero_le _) (fun _ _ i _ h2 => absurd h2 (Nat.not_lt_zero _)) (fun _ _ _ => Nat.zero_le _))
    exact ⟨s3, μ1, μ2, μ3, e1, k2.2.1, e2, k3.2.1, e3, F3, H3, (c1.trans c2).trans c3⟩
theorem c_endL : ∀ (n : Nat) {A : Sx} {i : Nat} {s : Nat} {μ : Mm} {fu : Nat}, FR b z A μ → HR b z A (fun k => if i ≤ k then aS A 0 + 2 else 0) G ar s μ → WF μ → IV A → TQ A → NG (aS A 0) A → aS A 0 < 1000 → n + i = 17 → n < fu → ∃ s' μ', f_X0_doEndings_b2 fu (b + 1) (nI i) μ = f_X0_doEndings_b87 (b + 1) μ' ∧ FR b z (endL A n i) μ' ∧ HR b z (endL A n i) (fun _ => 0) G ar s' μ' ∧ CK 0 0 μ μ'
  | 0, A, i, s, μ, fu, h, hh, w, q, t, ng, h0, hn, hf => by
    obtain ⟨fu, rfl⟩ : ∃ n, fu = n + 1 := ⟨fu - 1, by omega⟩
    have n9 : aS A 9 ≤ 16 := by have := q.1.2.1.1; have := q.1.1.2.1; omega
    have s0 := h.1
    unfold SC at s0
    have sz := c_sizeB h
    have c1 : nI (aS A 9) ≤ nI i := nI_le (by omega) (by omega)
    refine ⟨s, μ, by simp only [f_X0_doEndings_b2, s0, ckT, bdS, sz, c1, if_true], h, hh.cg SamP.refl0 rfl rfl rfl rfl (fun _ _ => rfl) (fun _ _ => rfl) rfl (fun _ _ => rfl) rfl (fun k hk hm => ?_), CK.refl0⟩
    show 0 = if i ≤ k then aS A 0 + 2 else 0
    rw [if_neg (by omega)]
  | n + 1, A, i, s, μ, fu, h, hh, w, q, t, ng, h0, hn, hf => by
    obtain ⟨fu, rfl⟩ : ∃ n, fu = n + 1 := ⟨fu - 1, by omega⟩
    have n9 : aS A 9 ≤ 16 := by have := q.1.2.1.1; have := q.1.1.2.1; omega
    have s0 := h.1
    unfold SC at s0
    have sz := c_sizeB h
    have hE : endL A (n + 1) i = if i < aS A 9 then endL (endOne A i) n (i + 1) else A := rfl
    have fl : noL (fun k => if i ≤ k then aS A 0 + 2 else 0) i = fun k => if i + 1 ≤ k then aS A 0 + 2 else 0 := by
      funext k
      unfold noL
      by_cases e : k = i
      · subst e
        rw [if_pos rfl, if_neg (by omega)]
      · rw [if_neg e]
        show (if i ≤ k then aS A 0 + 2 else 0) = if i + 1 ≤ k then aS A 0 + 2 else 0
        by_cases e2 : i ≤ k
        · rw [if_pos e2, if_pos (by omega)]
        · rw [if_neg e2, if_neg (by omega)]
    by_cases hi : i < aS A 9
    · have c1 : ¬ nI (aS A 9) ≤ nI i := nI_ge (by omega) (by omega)
      have gb := c_getB h hh hi (by omega)
      obtain ⟨k1, r0, -, -, k2, -, hf1⟩ := hh.2.2.2.1 i hi
      have dy := q.1.2.2.2.2.2.2.1 i hi
      have s101 : ∀ {ν : Mm}, SC b ν → mK ν (b + 1) = 101 := fun hC => by unfold SC at hC; exact hC.2.1
      have i12 : mI μ (b + 1) 12 = nI (aS A 0) := h.2.1.1 0 rfl
      have n10' : ¬ (1 : Int32) = 0 := by decide
      have a10 := hf1.2.2.2.2.2.2.2.2.1
      have a5 : mI μ (G 1 i) 5 = nI ((aB A i).1 10) ∨ (aS A 0 + 2 = (aB A i).1 11 + 2 ∧ (aB A i).1 10 = 120 ∧ mI μ (G 1 i) 5 = 109) := by
        have := hf1.2.2.2.2.1
        rw [show (fun k => if i ≤ k then aS A 0 + 2 else 0) i = aS A 0 + 2 from if_pos (Nat.le_refl _)] at this
        exact this
      rw [hE, if_pos hi]
      by_cases hc : (aB A i).1 10 = 120 ∧ (aB A i).1 11 = aS A 0
      · -- it ends
        obtain ⟨s1, μ1, μ2, μ3, e1, m1, e2, m2, e3, F3, H3, c3⟩ := c_endOne h hh w q.1 q.2 hi hc.1 (by show (if i ≤ i then aS A 0 + 2 else 0) ≠ 1; rw [if_pos (Nat.le_refl _)]; omega)
        have eO : endOne A i = endSt (endCt (endDl A i) i) i := if_pos hc
        rw [fl, ← eO] at H3
        rw [← eO] at F3
        have kp := kp_endOne (A := A) hi
        have c0 : aS (endOne A i) 0 = aS A 0 := kp 0 rfl
        rw [← c0] at H3
        obtain ⟨s2, μ4, e4, F4, H4, c4⟩ := c_endL n (i := i + 1) (fu := fu) F3 H3 (c3.1 w) (endOne_ib q.1 q.2 hi) (tq_endOne t hi) (by rw [c0]; exact ng_endOne ng hi) (by rw [c0]; exact h0) (by omega) (by omega)
        refine ⟨s2, μ4, ?_, F4, H4, c3.trans c4⟩
        have f10 : mI μ (G 1 i) 10 = nI (aS A 0) := by rw [a10 (Or.inl hc.1), hc.2]
        have w10 : ¬ ¬ mI μ (G 1 i) 10 = mI μ (b + 1) 12 := by rw [f10, i12]; exact fun z => z rfl
        have t48 : f_X0_doEndings_b48 (f_X0_doEndings_b2 fu) (b + 1) (nI i) (G 1 i) 1 μ = f_X0_doEndings_b2 fu (b + 1) (nI (i + 1)) μ3 := by
          simp only [f_X0_doEndings_b48, f_X0_doEndings_b81, n10', if_false, k1, ckT, s0, w10, cl_t e1, m1, cl_t e2, m2, cl_t e3, nI_1]
        rw [← e4, ← t48]
        rcases a5 with p | p
        · have z5 : zc (mI μ (G 1 i) 5) = 120 := by rw [p, hc.1]; decide
          simp only [f_X0_doEndings_b2, f_X0_doEndings_b43, s0, ckT, bdS, sz, c1, if_false, gb, k1, z5, if_true]
        · have z5 : ¬ zc (mI μ (G 1 i) 5) = 120 := by rw [p.2.2]; decide
          have z6 : ¬ ¬ zc (mI μ (G 1 i) 5) = 109 := by rw [p.2.2]; decide
          simp only [f_X0_doEndings_b2, f_X0_doEndings_b43, s0, ckT, bdS, sz, c1, if_false, gb, k1, z5, z6]
      · -- it doesn't
        have eO : endOne A i = A := if_neg hc
        rw [eO]
        have ex : mI μ (G 1 i) 5 = nI ((aB A i).1 10) := a5.resolve_right (fun p => hc ⟨p.2.1, by omega⟩)
        have H1 := hh.lateOff (i := i) (by show (if i ≤ i then aS A 0 + 2 else 0) ≠ 1; rw [if_pos (Nat.le_refl _)]; omega) (fun _ p => hc ⟨p.2, by
          have p1 : (if i ≤ i then aS A 0 + 2 else 0) = (aB A i).1 11 + 2 := p.1
          rw [if_pos (Nat.le_refl _)] at p1
          omega⟩)
        rw [fl] at H1
        obtain ⟨s2, μ4, e4, F4, H4, c4⟩ := c_endL n (i := i + 1) (fu := fu) h H1 w q t ng h0 (by omega) (by omega)
        refine ⟨s2, μ4, ?_, F4, H4, c4⟩
        rw [← e4]
        have st : (aB A i).1 10 < 200 := by have := dy.1; omega
        have zz := zcN _ st
        rw [← ex] at zz
        have late : ((aB A i).1 10 = 120 ∨ (aB A i).1 10 = 109) → ¬ mI μ (G 1 i) 10 = mI μ (b + 1) 12 := fun hh2 => by
          rw [a10 hh2, i12]
          rcases hh2 with p | p
          · have := t.1 i hi p
            exact nIne (by omega) (by omega) (fun r => hc ⟨p, r⟩)
          · have := ng i hi p
            exact nIne (by omega) (by omega) (by omega)
        by_cases e120 : (aB A i).1 10 = 120
        · have z5 : zc (mI μ (G 1 i) 5) = 120 := by rw [zz, ex, e120]; rfl
          have lt := late (Or.inl e120)
          simp only [f_X0_doEndings_b2, f_X0_doEndings_b43, f_X0_doEndings_b48, f_X0_doEndings_b81, s0, ckT, bdS, sz, c1, if_false, gb, k1, z5, if_true, n10', lt, not_false_eq_true, nI_1]
        · have z5 : ¬ zc (mI μ (G 1 i) 5) = 120 := by rw [zz, ex]; exact nIne (n := 120) (by omega) (by omega) e120
          by_cases e109 : (aB A i).1 10 = 109
          · have z6 : ¬ ¬ zc (mI μ (G 1 i) 5) = 109 := by rw [zz, ex, e109]; exact fun z => z rfl
            have lt := late (Or.inr e109)
            simp only [f_X0_doEndings_b2, f_X0_doEndings_b43, f_X0_doEndings_b48, f_X0_doEndings_b81, s0, ckT, bdS, sz, c1, if_false, gb, k1, z5, z6, n10', lt, not_false_eq_true, if_true, nI_1]
          · have z6 : ¬ zc (mI μ (G 1 i) 5) = 109 := by rw [zz, ex]; exact nIne (n := 109) (by omega) (by omega) e109
            simp only [f_X0_doEndings_b2, f_X0_doEndings_b48, f_X0_doEndings_b81, s0, ckT, bdS, sz, c1, if_false, gb, k1, z5, z6, not_false_eq_true, if_true, nI_1]
    · have c1 : nI (aS A 9) ≤ nI i := nI_le (by omega) (by omega)
      rw [hE, if_neg hi]
      refine ⟨s, μ, by simp only [f_X0_doEndings_b2, s0, ckT, bdS, sz, c1, if_true], h, hh.cg SamP.refl0 rfl rfl rfl rfl (fun _ _ => rfl) (fun _ _ => rfl) rfl (fun _ _ => rfl) rfl (fun k hk hm => ?_), CK.refl0⟩
      show 0 = if i ≤ k then aS A 0 + 2 else 0
      rw [if_neg (by omega)]
/-- the bus -/
theorem c_bus1 {k w : Nat} {fu : Nat} (h : FR b z A μ) (hh : HR b z A (fun _ => 0) G ar s μ) (q : IB A) (hk : k < aS A 9) (hs : (aB A k).1 10 = 98) (hw : w < 2) : ∃ μ', f_X0_writeResults_b4 (fu + 1) (b + 1) (nI w) (nI k) μ = f_X0_writeResults_b4 fu (b + 1) (nI (w + 1)) (nI (k + 1)) μ' ∧ FR b z (bus1 A k) μ' ∧ HR b z (bus1 A k) (fun _ => 0) G ar s μ' ∧ CK 0 0 μ μ' := by
  obtain ⟨k1, r0, r3, r4, k2, l2, hf⟩ := hh.2.2.2.1 k hk
  have dy := q.2.2.2.2.2.2.1 k hk
  have hd := dy.2.2.1 hs
  have n9 : aS A 9 ≤ 16 := by have := q.2.1.1; have := q.1.2.1; omega
  have d8 : (aB A k).1 8 < 24 := q.dd hk hd
  have s0 := h.1
  unfold SC at s0
  have sz := c_sizeB h
  have c1 : ¬ nI (aS A 9) ≤ nI k := nI_ge (by omega) (by omega)
  have c2 : ¬ (2 : Int32) ≤ nI w := nI_ge (b := 2) (by omega) (by omega)
  have gb := c_getB h hh hk (by omega)
  have f5 : mI μ (G 1 k) 5 = nI ((aB A k).1 10) := hf.2.2.2.2.1.resolve_right (fun p => by have p1 : 0 = (aB A k).1 11 + 2 := p.1; omega)
  have z5 : ¬ ¬ zc (mI μ (G 1 k) 5) = 98 := by rw [f5, hs]; decide
  have i12 : mI μ (b + 1) 12 = nI (aS A 0) := h.2.1.1 0 rfl
  obtain ⟨x, hx⟩ : ∃ x, x = aB A k := ⟨_, rfl⟩
  rw [← hx] at r0 r3 hf hs hd d8
  obtain ⟨a1, a2, a3, a4, a5, a6, a7, a8, a9, a10, a11, a12⟩ := hf
  obtain ⟨d11, d12, d13, d14, d15⟩ := a10 (Or.inr (Or.inr (by omega)))
  have f8 := (a7 rfl hd).1
  have wr := c_write (v := x.2.1 2) h.1 d8
  obtain ⟨μ1, m1⟩ : ∃ μ1, μ1 = sI (sI μ (b + 12) (x.1 8) (x.2.1 2)) (b + 13) (x.1 8) 1 := ⟨_, rfl⟩
  rw [← m1] at wr
  obtain ⟨B1, hB1⟩ : ∃ B1, B1 = zN (zV A 1 (x.1 8) (x.2.1 2)) 2 (x.1 8) 1 := ⟨_, rfl⟩
  have t1 : RT cT b B1 μ1 := by
    rw [hB1, m1]
    have := h.2.1.putV cT_ok (q := 1) (j := x.1 8) (by omega) (show x.1 8 < 24 from d8) (x.2.1 2)
    rw [show (cT.2.2 1).2 + x.1 8 = x.1 8 from Nat.zero_add _] at this
    exact this.putN cT_ok (q := 2) (j := x.1 8) (by omega) (show x.1 8 < 24 from d8) 1
  have g1 : CH b (fun o _ => o == 12 || o == 13) μ μ1 := by rw [m1]; exact (CH.put rfl).trans (CH.put rfl)
  have hS : ∀ o k : Nat, (o == 12 || o == 13) = true → o < 30 ∧ o ≠ 24 ∧ ¬ (o = 6 ∨ o = 7 ∨ o = 8 ∨ o = 18 ∨ o = 19) ∧ ¬ (o = 15 ∧ k = 4) ∧ ¬ (o = 20 ∧ k = 4) := fun o k zz => by
    simp only [Bool.or_eq_true, beq_iff_eq] at zz
    omega
  have hS2 := fun (o k : Nat) (zz : (o == 12 || o == 13) = true) => (⟨(hS o k zz).1, (hS o k zz).2.1⟩ : o < 30 ∧ o ≠ 24)
  have hP : SamP A B1 := by rw [hB1]; exact ⟨fun r _ _ => zN_ne _ _ _ (by omega), zV_ne _ _ _ (by decide)⟩
  have BS : aS B1 = aS A := by rw [hB1]; rfl
  have F1 : FR b z B1 μ1 := h.ch t1 g1 hS (by
    rw [BS]
    exact plA_congr (A := A) (B := B1) hP (by rw [hB1]; exact zV_ne _ _ _ (by decide)) (by rw [hB1]; exact zV_ne _ _ _ (by decide)) (by rw [hB1]; exact zV_ne _ _ _ (by decide)) (by rw [BS]) (fun _ _ => by rw [hB1]; exact congrFun (zN_ne _ _ _ (by decide)) _)) (by rw [hB1]; rfl) (fun p => by rw [BS] at p ⊢; exact ⟨p, rfl⟩)
  have BB : aB B1 = aB A := by rw [hB1]; rfl
  have H1 : HR b z B1 (fun _ => 0) G ar s μ1 := (hh.ch h.1 g1 hS2).cg hP (by rw [BS]) (by rw [BS]) (by rw [BS]) (by rw [BS]) (fun _ _ => by rw [BB]) (fun _ _ => by rw [hB1]; rfl) (by rw [hB1]; rfl) (fun r hr => by rw [hB1]; exact zN_ne _ _ _ (by omega)) (by rw [hB1]; exact zV_ne _ _ _ (by decide)) (fun _ _ _ => rfl)
  have ga := (g1.h2 h.1 hS2) (G 1 k) (by rw [k1]; rfl)
  have ga1 := (g1.h2 h.1 hS2) (G 1 k + 1) (by rw [k2]; rfl)
  have ei := c_endIn (μ := μ1) (a := G 1 k) (cy := nI (aS A 0)) (by rw [ga.1]; exact k1) (by rw [ga.2.2.2]; exact r4) (by rw [ga1.1]; exact k2) (by rw [ga1.2.1]; exact l2)
  obtain ⟨μ2, m2⟩ : ∃ μ2, μ2 = sI (sI μ1 (G 1 k) 5 101) (G 1 k + 1) 3 (nI (aS A 0)) := ⟨_, rfl⟩
  rw [← m2] at ei
  have ce : CE (G 1 k) μ1 μ2 := by rw [m2]; exact CE.put.trans CE.put1
  have kk1 : mK μ1 (G 1 k) = 104 := by rw [ga.1]; exact k1
  have kk2 : mK μ1 (G 1 k + 1) = 51 := by rw [ga1.1]; exact k2
  have eb : bus1 A k = zB B1 k (eN (eN x 10 101) 4 (aS A 0)) := by rw [hB1, hx]; rfl
  rw [eb]
  have fo : ∀ j, j ≠ 5 → mI μ2 (G 1 k) j = mI μ (G 1 k) j := fun j hj => by rw [m2, mI_row _ _ (by omega), mI_ne _ _ (Or.inr hj), ga.2.2.1]
  have po : ∀ j, j ≠ 3 → mI μ2 (G 1 k + 1) j = mI μ (G 1 k + 1) j := fun j hj => by rw [m2, mI_ne _ _ (Or.inr hj), mI_row _ _ (by omega), ga1.2.2.1]
  have bx : aB B1 k = x := by rw [BB, hx]
  refine ⟨μ2, ?_, (F1.ce kk1 kk2 ce).cgA rfl rfl rfl rfl, H1.ent (k0 := k) (y := eN (eN x 10 101) 4 (aS A 0)) (by rw [BS]; exact hk) (show 0 ≠ 1 by decide) ce (fun j => rfl) (by rw [bx]; rfl) (by rw [bx]; rfl) ?_ SamP.refl0 rfl rfl rfl rfl rfl rfl (fun _ _ => rfl) rfl (fun _ _ _ _ => rfl), (g1.ck h.1 hS2).trans (ce.ck kk1 kk2)⟩
  · have k1' := F1.1
    unfold SC at k1'
    have i12' : mI μ1 (b + 1) 12 = nI (aS A 0) := by rw [m1, mI_row _ _ (by omega), mI_row _ _ (by omega)]; exact i12
    simp only [f_X0_writeResults_b4, f_X0_writeResults_b67, s0, ckT, bdS, sz, c1, c2, if_false, gb, k1, z5, f8, d13, cl_t wr, k1', kk1, i12', cl_t ei, nI_1]
  · have ec : eC B1 (eN (eN x 10 101) 4 (aS A 0)) = eC A x := (hP.c rfl).1
    have qd : isQd (eC A x) = true := by
      cases hq : isQd (eC A x) with
      | true => rfl
      | false =>
        have := dy.2.1 (by rw [← hx]; exact hq)
        rw [← hx] at this
        omega
    unfold REf
    rw [ec]
    refine ⟨by rw [fo 1 (by decide)]; exact a1, by rw [fo 2 (by decide)]; exact a2, by rw [fo 16 (by decide)]; exact a3, by rw [po 0 (by decide)]; exact a4, Or.inl ?_, fun r => ?_, fun r hd => ?_, fun r => by rw [fo 8 (by decide)]; exact a8 r, fun p => ?_, fun _ => ?_, ?_, fun _ => ?_⟩
    · rw [m2, mI_row _ _ (by omega), mI_at]; rfl
    · rw [fo 6 (by decide), fo 7 (by decide), po 1 (by decide)]; exact a6 r
    · rw [fo 8 (by decide), fo 9 (by decide)]; exact a7 r hd
    · rcases p with p | p <;> cases p
    · rw [fo 11 (by decide), fo 12 (by decide), fo 13 (by decide), fo 14 (by decide), fo 15 (by decide)]
      exact ⟨d11, d12, d13, d14, d15⟩
    · rw [po 2 (by decide), a11, if_pos ⟨qd, by omega⟩, if_pos ⟨qd, (by decide : (101 : Nat) ≠ 113)⟩]
      rfl
    · rw [m2, mI_at]; rfl
theorem c_busL : ∀ (n : Nat) {A : Sx} {k w : Nat} {μ : Mm} {fu : Nat}, FR b z A μ → HR b z A (fun _ => 0) G ar s μ → IV A → n + k = 17 → w ≤ 2 → n < fu → ∃ μ', f_X0_writeResults_b4 fu (b + 1) (nI w) (nI k) μ = some ((), μ') ∧ FR b z (busL A n k w) μ' ∧ HR b z (busL A n k w) (fun _ => 0) G ar s μ' ∧ CK 0 0 μ μ'
  | 0, A, k, w, μ, fu, h, hh, q, hn, hw, hf => by
    obtain ⟨fu, rfl⟩ : ∃ n, fu = n + 1 := ⟨fu - 1, by omega⟩
    have n9 : aS A 9 ≤ 16 := by have := q.1.2.1.1; have := q.1.1.2.1; omega
    have s0 := h.1
    unfold SC at s0
    have sz := c_sizeB h
    have c1 : nI (aS A 9) ≤ nI k := nI_le (by omega) (by omega)
    exact ⟨μ, by simp only [f_X0_writeResults_b4, s0, ckT, bdS, sz, c1, if_true], h, hh, CK.refl0⟩
  | n + 1, A, k, w, μ, fu, h, hh, q, hn, hw, hf => by
    obtain ⟨fu, rfl⟩ : ∃ n, fu = n + 1 := ⟨fu - 1, by omega⟩
    have n9 : aS A 9 ≤ 16 := by have := q.1.2.1.1; have := q.1.1.2.1; omega
    have s0 := h.1
    unfold SC at s0
    have sz := c_sizeB h
    have hE : busL A (n + 1) k w = if k < aS A 9 ∧ w < 2 then (if (aB A k).1 10 = 98 then busL (bus1 A k) n (k + 1) (w + 1) else busL A n (k + 1) w) else A := rfl
    by_cases hk : k < aS A 9
    · have c1 : ¬ nI (aS A 9) ≤ nI k := nI_ge (by omega) (by omega)
      by_cases hw2 : w < 2
      · rw [hE, if_pos ⟨hk, hw2⟩]
        by_cases hs : (aB A k).1 10 = 98
        · rw [if_pos hs]
          obtain ⟨μ1, e1, F1, H1, c1'⟩ := c_bus1 (fu := fu) h hh q.1 hk hs hw2
          obtain ⟨μ2, e2, F2, H2', c2'⟩ := c_busL n (k := k + 1) (w := w + 1) (fu := fu) F1 H1 (bus1_ib q.1 q.2 hk hs) (by omega) (by omega) (by omega)
          exact ⟨μ2, e1.trans e2, F2, H2', c1'.trans c2'⟩
        · rw [if_neg hs]
          obtain ⟨μ2, e2, F2, H2', c2'⟩ := c_busL n (k := k + 1) (w := w) (fu := fu) h hh q (by omega) hw (by omega)
          refine ⟨μ2, ?_, F2, H2', c2'⟩
          have c2 : ¬ (2 : Int32) ≤ nI w := nI_ge (b := 2) (by omega) (by omega)
          have gb := c_getB h hh hk (by omega)
          obtain ⟨k1, -, -, -, -, -, hf1⟩ := hh.2.2.2.1 k hk
          have f5 : mI μ (G 1 k) 5 = nI ((aB A k).1 10) := hf1.2.2.2.2.1.resolve_right (fun p => by have p1 : 0 = (aB A k).1 11 + 2 := p.1; omega)
          have st : (aB A k).1 10 < 200 := by have := (q.1.2.2.2.2.2.2.1 k hk).1; omega
          have z5 : ¬ zc (mI μ (G 1 k) 5) = 98 := by rw [f5, zcN _ st]; exact nIne (n := 98) (by omega) (by omega) hs
          rw [← e2]
          simp only [f_X0_writeResults_b4, f_X0_writeResults_b67, s0, ckT, bdS, sz, c1, c2, if_false, gb, k1, z5, not_false_eq_true, if_true, nI_1]
      · have c2 : (2 : Int32) ≤ nI w := nI_le (a := 2) (by omega) (by omega)
        rw [hE, if_neg (fun p => hw2 p.2)]
        exact ⟨μ, by simp only [f_X0_writeResults_b4, s0, ckT, bdS, sz, c1, if_false, c2, if_true], h, hh, CK.refl0⟩
    · have c1 : nI (aS A 9) ≤ nI k := nI_le (by omega) (by omega)
      rw [hE, if_neg (fun p => hk p.1)]
      exact ⟨μ, by simp only [f_X0_writeResults_b4, s0, ckT, bdS, sz, c1, if_true], h, hh, CK.refl0⟩
theorem c_endings (h : FR b z A μ) (hh : HR b z A (fun _ => aS A 0 + 2) G ar s μ) (w : WF μ) (q : IV A) (t : TQ A) (ng : NG (aS A 0) A) (h0 : aS A 0 < 1000) : ∃ s' μ', f_X0_doEndings (b + 1) μ = some ((), μ') ∧ FR b z (endings A) μ' ∧ HR b z (endings A) (fun _ => 0) G ar s' μ' ∧ CK 0 0 μ μ' := by
  obtain ⟨s1, μ1, e1, F1, H1, c1⟩ := c_endL 17 (i := 0) (fu := 5000) h (hh.cg SamP.refl0 rfl rfl rfl rfl (fun _ _ => rfl) (fun _ _ => rfl) rfl (fun _ _ => rfl) rfl (fun k _ _ => if_pos (Nat.zero_le _))) w q t ng h0 rfl (by omega)
  obtain ⟨μ2, e2, F2, H2', c2⟩ := c_busL 17 (k := 0) (w := 0) (fu := 5000) F1 H1 (endL_iv 17 q).1 rfl (by omega) (by omega)
  have s1' := F1.1
  unfold SC at s1'
  have e2' : f_X0_writeResults (b + 1) μ1 = some ((), μ2) := e2
  refine ⟨s1, μ2, ?_, F2, H2', c1.trans c2⟩
  have e1' : f_X0_doEndings (b + 1) μ = f_X0_doEndings_b87 (b + 1) μ1 := e1
  rw [e1']
  simp only [f_X0_doEndings_b87, s1', ckT, cl_t e2']
end CE3
