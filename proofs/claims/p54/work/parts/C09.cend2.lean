/-! THE CLASS: guesses and loads that went wrong -/
section CE2
variable {b z e sl : Nat} {m : Nat → Nat} {A A' B : Sx} {G : Nat → Nat → Nat} {ar : Nat → Nat} {s : Nat} {μ μ' : Mm} {S : Nat → Nat → Bool}
/-- a scalar of the class's table changes -/
theorem c_scal {i n : Nat} (h : FR b z A μ) (hh : HR b z A m G ar s μ) (hi : scI i = true) (h1 : i ≠ 9 ∧ i ≠ 10 ∧ i ≠ 12 ∧ i ≠ 14 ∧ i ≠ 15) : FR b z (zS A i n) (sI μ (b + (cT.1 i).1) (cT.1 i).2 (nI n)) ∧ HR b z (zS A i n) m G ar s (sI μ (b + (cT.1 i).1) (cT.1 i).2 (nI n)) ∧ CK 0 0 μ (sI μ (b + (cT.1 i).1) (cT.1 i).2 (nI n)) ∧ H2 μ (sI μ (b + (cT.1 i).1) (cT.1 i).2 (nI n)) := by
  have k : ∀ i, i < 25 → scI i = true → (cT.1 i).1 < 30 ∧ (cT.1 i).1 ≠ 24 ∧ ¬ ((cT.1 i).1 = 6 ∨ (cT.1 i).1 = 7 ∨ (cT.1 i).1 = 8 ∨ (cT.1 i).1 = 18 ∨ (cT.1 i).1 = 19) ∧ ¬ ((cT.1 i).1 = 15 ∧ (cT.1 i).2 = 4) ∧ ¬ ((cT.1 i).1 = 20 ∧ (cT.1 i).2 = 4) := by decide +kernel
  have ki := k i (scI_lt hi) hi
  have i11 : i ≠ 11 := fun q => by rw [q] at hi; cases hi
  have T := h.2.1.putS cT_ok hi n
  have g : CH b (fun o k => o == (cT.1 i).1 && k == (cT.1 i).2) μ (sI μ (b + (cT.1 i).1) (cT.1 i).2 (nI n)) := CH.put (by simp)
  have hS : ∀ o k, (o == (cT.1 i).1 && k == (cT.1 i).2) = true → o < 30 ∧ o ≠ 24 ∧ ¬ (o = 6 ∨ o = 7 ∨ o = 8 ∨ o = 18 ∨ o = 19) ∧ ¬ (o = 15 ∧ k = 4) ∧ ¬ (o = 20 ∧ k = 4) := fun o k zz => by
    simp only [Bool.and_eq_true, beq_iff_eq] at zz
    rw [zz.1, zz.2]
    exact ki
  have hS2 := fun (o k : Nat) (zz : (o == (cT.1 i).1 && k == (cT.1 i).2) = true) => (⟨(hS o k zz).1, (hS o k zz).2.1⟩ : o < 30 ∧ o ≠ 24)
  exact ⟨h.ch T g hS (plS _ (by omega) (by omega)) rfl (fun q => by rw [zS_ne _ _ (by omega)] at q; exact ⟨q, zS_ne _ _ (by omega)⟩), (hh.ch h.1 g hS2).cg SamP.refl0 (zS_ne _ _ (by omega)) (zS_ne _ _ (by omega)) (zS_ne _ _ (by omega)) (zS_ne _ _ (by omega)) (fun _ _ => rfl) (fun _ _ => rfl) rfl (fun _ _ => rfl) rfl (fun _ _ _ => rfl), g.ck h.1 hS2, g.h2 h.1 hS2⟩
theorem c_checkGuess {i : Nat} (h : FR b z B μ) (hh : HR b z B m G ar s μ) (w : WF μ) (hz : IBz B) (n10 : aS B 10 ≤ 8) (hi : i < aS B 9) (st : (aB B i).1 10 ≠ 113) (hgo : isCt (eC B (aB B i)) = true → (aB B i).1 12 = 0 → (aB B i).2.1 0 = nI ((aB B i).2.1 0).toNatClampNeg) (ht : (aB B i).1 12 ≤ 5) : ∃ s' μ', f_X0_checkGuess (b + 1) (G 1 i) (nI i) μ = some ((), μ') ∧ FR b z (endCt B i) μ' ∧ HR b z (endCt B i) m G ar s' μ' ∧ CK 0 0 μ μ' := by
  obtain ⟨k1, r0, ⟨sx, r3, ss⟩, r4, k2, l2, hf⟩ := hh.2.2.2.1 i hi
  have ho := hz.2.2.2.2.2.1 i hi
  have ins := hh.2.2.1 _ ho.1
  have hp := hz.1.p ho.1
  have n9 : aS B 9 ≤ 16 := by have := hz.2.1.1; have := hz.1.2.1; omega
  have s0 := h.1
  unfold SC at s0
  obtain ⟨x, hx⟩ : ∃ x, x = aB B i := ⟨_, rfl⟩
  rw [← hx] at r0 ss hf ho ins hp st hgo ht
  have hec : eC B x = aN B 10 (x.1 0) := rfl
  have hcb : eC B x < 22 := by rw [hec]; omega
  have i1 : mI μ (G 0 (x.1 0)) 1 = nI (eC B x) := ins.2.2.1
  have qn := c_isQn ins.1 i1 hcb
  have ql := c_isLp ins.1 i1 hcb
  obtain ⟨a1, a2, a3, a4, a5, a6, a7, a8, a9, a10, a11, a12⟩ := hf
  obtain ⟨d11, d12, d13, d14, d15⟩ := a10 (Or.inr (Or.inr st))
  have b0 : bI false = 0 := rfl
  have b1 : ¬ bI true = 0 := by decide
  have b00 : ¬ ¬ (0 : Int32) = 0 := fun q => q rfl
  have e25 : f_X0_checkGuess (b + 1) (G 1 i) (nI i) μ = f_X0_checkGuess_b25 (b + 1) (G 1 i) (nI i) (bI (isCt (eC B x))) μ := by
    unfold isCt
    cases q1 : isQn (eC B x)
    · rw [q1] at qn
      cases q2 : isLp (eC B x)
      · rw [q2] at ql
        simp only [f_X0_checkGuess, k1, ckT, r0, bdS, ins.1, qn, ql, b0, not_true, if_false, if_true]
        rfl
      · rw [q2] at ql
        simp only [f_X0_checkGuess, f_X0_checkGuess_b20, k1, ckT, r0, bdS, ins.1, qn, ql, b0, not_true, if_false, b1]
        rfl
    · rw [q1] at qn
      simp only [f_X0_checkGuess, f_X0_checkGuess_b20, k1, ckT, r0, bdS, ins.1, qn, b1, not_false_eq_true, if_true]
      rfl
  have done : ¬ (isCt (eC B x) = true ∧ x.1 12 = 0 ∧ x.2.1 0 ≠ nI (x.1 5)) → f_X0_checkGuess_b25 (b + 1) (G 1 i) (nI i) (bI (isCt (eC B x))) μ = some ((), μ) → ∃ s' μ', f_X0_checkGuess (b + 1) (G 1 i) (nI i) μ = some ((), μ') ∧ FR b z (endCt B i) μ' ∧ HR b z (endCt B i) m G ar s' μ' ∧ CK 0 0 μ μ' := fun hn ee => by
    have : endCt B i = B := if_neg (by rw [← hx]; exact hn)
    rw [this]
    exact ⟨s, μ, by rw [e25, ee], h, hh, CK.refl0⟩
  cases hct : isCt (eC B x)
  · refine done (fun q => by rw [hct] at q; cases q.1) ?_
    rw [hct]
    simp only [f_X0_checkGuess_b25, b0, if_true]
  · by_cases t0 : x.1 12 = 0
    · have w12 : ¬ ¬ nI (x.1 12) = 0 := by rw [t0]; exact fun q => q rfl
      by_cases eg : x.2.1 0 = nI (x.1 5)
      · refine done (fun q => q.2.2 eg) ?_
        rw [hct]
        simp only [f_X0_checkGuess_b25, b1, if_false, k1, ckT, d12, w12, d14, a2, eg, if_true]
      · obtain ⟨p, hpp⟩ : ∃ p, p = (x.2.1 0).toNatClampNeg := ⟨_, rfl⟩
        have go := hgo hct t0
        rw [← hpp] at go
        have eCt : endCt B i = goOn (throwF (zS B 19 (aS B 19 + 1)) (i + 1)) p x.2.2 := by
          rw [hpp, hx]
          exact if_pos ⟨by rw [← hx]; exact hct, by rw [← hx]; exact t0, by rw [← hx]; exact eg⟩
        rw [eCt]
        obtain ⟨μ1, m1⟩ : ∃ μ1, μ1 = sI μ (b + 4) 1 (nI (aS B 19 + 1)) := ⟨_, rfl⟩
        have i19 : mI μ (b + 4) 1 = nI (aS B 19) := h.2.1.1 19 rfl
        have sc := c_scal (i := 19) (n := aS B 19 + 1) h hh rfl (by decide)
        rw [show b + (cT.1 19).1 = b + 4 from rfl, show (cT.1 19).2 = 1 from rfl, ← m1] at sc
        obtain ⟨F1, H1, c1, x1⟩ := sc
        have zs9 : aS (zS B 19 (aS B 19 + 1)) 9 = aS B 9 := zS_ne _ _ (by decide)
        have hz1 : IBz (zS B 19 (aS B 19 + 1)) := hz.cg (fun i hi => zS_ne _ _ (by omega)) (fun _ _ _ => rfl) (fun _ _ => rfl) rfl rfl (by
          rw [zS_ne _ _ (by decide), zS_ne _ _ (by decide), zS_ne _ _ (by decide), zS_ne _ _ (by decide), zS_ne _ _ (by decide)]
          exact hz.2.1.2.2.2.2.2.2)
        obtain ⟨μ2, e2, F2, HH2, c2, x2⟩ := c_throwF (at_ := i + 1) F1 H1 (c1.1 w) hz1 (by rw [zS_ne _ _ (by decide)]; exact n10) (by rw [zs9]; omega)
        have x12 := x1.trans x2
        have ga := x12 (G 1 i) (by rw [k1]; rfl)
        have gs := ss.same x12
        obtain ⟨μ3, e3, F3, H3, c3, x3⟩ := c_goOn (p := p) F2 HH2 gs
        refine ⟨sx, μ3, ?_, F3, H3, (c1.trans c2).trans c3⟩
        have wg : ¬ nI p = nI (x.1 5) := by rw [← go]; exact eg
        have k3 := F2.1
        unfold SC at k3
        have e2' : f_X0_throwAwayFrom (b + 1) (nI (i + 1)) μ1 = some ((), μ2) := e2
        rw [e25, hct]
        simp only [f_X0_checkGuess_b25, b1, if_false, k1, ckT, d12, w12, d14, a2, go, wg, s0, bdS, i19, nI_1, zlS, ← m1, cl_t e2', k3, ga.1, ga.2.2.1, ga.2.2.2, r3, cl_t e3]
    · have w12 : ¬ nI (x.1 12) = 0 := nIne (n := 0) (by omega) (by omega) t0
      refine done (fun q => t0 q.2.1) ?_
      rw [hct]
      simp only [f_X0_checkGuess_b25, b1, if_false, k1, ckT, d12, w12, not_false_eq_true, if_true]
/-- what the scan for a wrong load finds -/
theorem c_wlL {i : Nat} (h : FR b z B μ) (hh : HR b z B m G ar s μ) (hz : IBz B) (hi : i < aS B 9) (st : (aB B i).1 10 ≠ 113) (hs : ∀ j, j < aS B 9 → (aB B j).1 10 < 200) : ∀ (n j fu : Nat), j + n = aS B 9 → i < j → n < fu → f_X0_checkLoads_b22 fu (b + 1) (G 1 i) (nI j) μ = match findLd B ((aB B i).2.1 1) ((aB B i).1 13) n j with | none => some ((), μ) | some k => f_X0_checkLoads_b93 (b + 1) (nI k) (G 1 k) μ
  | 0, j, fu, hj, hij, hf => by
    obtain ⟨fu, rfl⟩ : ∃ n, fu = n + 1 := ⟨fu - 1, by omega⟩
    have n9 : aS B 9 ≤ 16 := by have := hz.2.1.1; have := hz.1.2.1; omega
    have s0 := h.1
    unfold SC at s0
    have sz := c_sizeB h
    have c1 : nI (aS B 9) ≤ nI j := nI_le (by omega) (by omega)
    simp only [f_X0_checkLoads_b22, s0, ckT, bdS, sz, c1, if_true]
    rfl
  | n + 1, j, fu, hj, hij, hf => by
    obtain ⟨fu, rfl⟩ : ∃ n, fu = n + 1 := ⟨fu - 1, by omega⟩
    have n9 : aS B 9 ≤ 16 := by have := hz.2.1.1; have := hz.1.2.1; omega
    have s0 := h.1
    unfold SC at s0
    have sz := c_sizeB h
    have c1 : ¬ nI (aS B 9) ≤ nI j := nI_ge (by omega) (by omega)
    have ih := c_wlL h hh hz hi st hs n (j + 1) fu (by omega) (by omega) (by omega)
    have hjj : j < aS B 9 := by omega
    have gb := c_getB h hh hjj (by omega)
    obtain ⟨k1, r0, -, -, k2, -, hf1⟩ := hh.2.2.2.1 j hjj
    obtain ⟨ki, -, -, -, -, -, hfi⟩ := hh.2.2.2.1 i hi
    have ho := hz.2.2.2.2.2.1 j hjj
    have ins := hh.2.2.1 _ ho.1
    have hp := hz.1.p ho.1
    have i1 : mI μ (G 0 ((aB B j).1 0)) 1 = nI (eC B (aB B j)) := ins.2.2.1
    have hcb : eC B (aB B j) < 22 := by have : eC B (aB B j) = aN B 10 ((aB B j).1 0) := rfl; omega
    have i11 : mI μ (G 1 i) 11 = (aB B i).2.1 1 := (hfi.2.2.2.2.2.2.2.2.2.1 (Or.inr (Or.inr st))).1
    have i01 : mI μ (G 1 i) 1 = nI ((aB B i).1 13) := hfi.1
    have j16 : mI μ (G 1 j) 16 = (aB B j).2.1 3 := hf1.2.2.1
    have st5 := hs j hjj
    have z5 : zc (mI μ (G 1 j) 5) = 113 ↔ (aB B j).1 10 = 113 := by
      rcases hf1.2.2.2.2.1 with q | q
      · rw [q, zcN _ st5]
        exact ⟨fun w => nIj (n := 113) (by omega) (by omega) w, fun w => by rw [w]; rfl⟩
      · rw [q.2.2, q.2.1]
        decide
    have fd : findLd B ((aB B i).2.1 1) ((aB B i).1 13) (n + 1) j = if eC B (aB B j) = 9 ∧ (aB B j).1 10 ≠ 113 ∧ (aB B j).2.1 1 = (aB B i).2.1 1 ∧ (aB B j).2.1 3 < nI ((aB B i).1 13) then some j else findLd B ((aB B i).2.1 1) ((aB B i).1 13) n (j + 1) := rfl
    have skip : ¬ (eC B (aB B j) = 9 ∧ (aB B j).1 10 ≠ 113 ∧ (aB B j).2.1 1 = (aB B i).2.1 1 ∧ (aB B j).2.1 3 < nI ((aB B i).1 13)) → f_X0_checkLoads_b22 (fu + 1) (b + 1) (G 1 i) (nI j) μ = f_X0_checkLoads_b22 fu (b + 1) (G 1 i) (nI (j + 1)) μ → f_X0_checkLoads_b22 (fu + 1) (b + 1) (G 1 i) (nI j) μ = match findLd B ((aB B i).2.1 1) ((aB B i).1 13) (n + 1) j with | none => some ((), μ) | some k => f_X0_checkLoads_b93 (b + 1) (nI k) (G 1 k) μ := fun hn ee => by
      rw [fd, if_neg hn, ee, ih]
    by_cases c9 : eC B (aB B j) = 9
    · have w9 : ¬ ¬ nI (eC B (aB B j)) = 9 := by rw [c9]; exact fun w => w rfl
      by_cases c113 : (aB B j).1 10 = 113
      · refine skip (fun w => w.2.1 c113) ?_
        have zz := z5.mpr c113
        simp only [f_X0_checkLoads_b22, f_X0_checkLoads_b151, s0, ckT, bdS, sz, c1, if_false, gb, k1, r0, ins.1, i1, w9, zz, if_true, nI_1]
      · have zz : ¬ zc (mI μ (G 1 j) 5) = 113 := fun w => c113 (z5.mp w)
        have j11 : mI μ (G 1 j) 11 = (aB B j).2.1 1 := (hf1.2.2.2.2.2.2.2.2.2.1 (Or.inr (Or.inr c113))).1
        by_cases ca : (aB B j).2.1 1 = (aB B i).2.1 1
        · have wa : ¬ ¬ (aB B j).2.1 1 = (aB B i).2.1 1 := fun w => w ca
          by_cases cg : nI ((aB B i).1 13) ≤ (aB B j).2.1 3
          · refine skip (fun w => absurd w.2.2.2 (Int32.not_lt.mpr cg)) ?_
            simp only [f_X0_checkLoads_b22, f_X0_checkLoads_b151, s0, ckT, bdS, sz, c1, if_false, gb, k1, r0, ins.1, i1, w9, zz, ki, j11, i11, wa, i01, j16, cg, if_true, nI_1]
          · rw [fd, if_pos ⟨c9, c113, ca, Int32.not_le.mp cg⟩]
            simp only [f_X0_checkLoads_b22, s0, ckT, bdS, sz, c1, if_false, gb, k1, r0, ins.1, i1, w9, zz, ki, j11, i11, wa, i01, j16, cg]
        · refine skip (fun w => ca w.2.2.1) ?_
          simp only [f_X0_checkLoads_b22, f_X0_checkLoads_b151, s0, ckT, bdS, sz, c1, if_false, gb, k1, r0, ins.1, i1, w9, zz, ki, j11, i11, ca, not_false_eq_true, if_true, nI_1]
    · have w9 : ¬ nI (eC B (aB B j)) = 9 := nIne (n := 9) (by omega) (by omega) c9
      refine skip (fun w => c9 w.1) ?_
      simp only [f_X0_checkLoads_b22, f_X0_checkLoads_b151, s0, ckT, bdS, sz, c1, if_false, gb, k1, r0, ins.1, i1, w9, not_false_eq_true, if_true, nI_1]
theorem c_checkLoads {i : Nat} (h : FR b z B μ) (hh : HR b z B m G ar s μ) (w : WF μ) (hz : IBz B) (n10 : aS B 10 ≤ 8) (hi : i < aS B 9) (st : (aB B i).1 10 ≠ 113) (hs : ∀ j, j < aS B 9 → (aB B j).1 10 < 200) (ht : (aB B i).1 12 ≤ 5) (hip : isSt (eC B (aB B i)) = true → IBp B 0) : ∃ s' μ', f_X0_checkLoads (b + 1) (G 1 i) (nI i) μ = some ((), μ') ∧ FR b z (endSt B i) μ' ∧ HR b z (endSt B i) m G ar s' μ' ∧ CK 0 0 μ μ' := by
  obtain ⟨k1, r0, -, -, k2, l2, hf⟩ := hh.2.2.2.1 i hi
  have ho := hz.2.2.2.2.2.1 i hi
  have ins := hh.2.2.1 _ ho.1
  have hp := hz.1.p ho.1
  have n9 : aS B 9 ≤ 16 := by have := hz.2.1.1; have := hz.1.2.1; omega
  have s0 := h.1
  unfold SC at s0
  have i1 : mI μ (G 0 ((aB B i).1 0)) 1 = nI (eC B (aB B i)) := ins.2.2.1
  have hcb : eC B (aB B i) < 22 := by have : eC B (aB B i) = aN B 10 ((aB B i).1 0) := rfl; omega
  have qs := c_isSt ins.1 i1 hcb
  have d12 : mI μ (G 1 i) 12 = nI ((aB B i).1 12) := (hf.2.2.2.2.2.2.2.2.2.1 (Or.inr (Or.inr st))).2.1
  have b0 : bI false = 0 := rfl
  have b1 : ¬ bI true = 0 := by decide
  have done : endSt B i = B → f_X0_checkLoads (b + 1) (G 1 i) (nI i) μ = some ((), μ) → ∃ s' μ', f_X0_checkLoads (b + 1) (G 1 i) (nI i) μ = some ((), μ') ∧ FR b z (endSt B i) μ' ∧ HR b z (endSt B i) m G ar s' μ' ∧ CK 0 0 μ μ' := fun hn ee => by
    rw [hn]
    exact ⟨s, μ, ee, h, hh, CK.refl0⟩
  cases hst : isSt (eC B (aB B i))
  · rw [hst] at qs
    refine done (endSt_no hst) ?_
    simp only [f_X0_checkLoads, k1, ckT, r0, bdS, ins.1, qs, b0, if_true]
  · rw [hst] at qs
    by_cases t0 : (aB B i).1 12 = 0
    · have w12 : nI ((aB B i).1 12) = 0 := by rw [t0]; rfl
      have wl := c_wlL h hh hz hi st hs (aS B 9 - (i + 1)) (i + 1) 5000 (by omega) (by omega) (by omega)
      have base : f_X0_checkLoads (b + 1) (G 1 i) (nI i) μ = f_X0_checkLoads_b22 5000 (b + 1) (G 1 i) (nI (i + 1)) μ := by
        simp only [f_X0_checkLoads, k1, ckT, r0, bdS, ins.1, qs, b1, if_false, d12, w12, if_true, nI_1]
      have eS : endSt B i = match findLd B ((aB B i).2.1 1) ((aB B i).1 13) (aS B 9 - (i + 1)) (i + 1) with
          | none => B
          | some j => goOn (throwF (zN (zS B 20 (aS B 20 + 1)) 5 ((aB B j).1 0 % 16) 1) j) ((aB B j).1 0) (aB B j).2.2 := if_pos ⟨hst, t0⟩
      cases hfd : findLd B ((aB B i).2.1 1) ((aB B i).1 13) (aS B 9 - (i + 1)) (i + 1) with
      | none =>
        rw [hfd] at wl eS
        exact done eS (base.trans wl)
      | some j =>
        rw [hfd] at wl eS
        obtain ⟨j1, j2, -⟩ := findLd_s hfd
        have hj : j < aS B 9 := by omega
        obtain ⟨kj, q0, ⟨sx, q3, ss⟩, -, kj2, -, -⟩ := hh.2.2.2.1 j hj
        have hoj := hz.2.2.2.2.2.1 j hj
        have insj := hh.2.2.1 _ hoj.1
        have hpj := hz.1.p hoj.1
        obtain ⟨y, hy⟩ : ∃ y, y = aB B j := ⟨_, rfl⟩
        have eS' : endSt B i = goOn (throwF (zN (zS B 20 (aS B 20 + 1)) 5 (y.1 0 % 16) 1) j) (y.1 0) y.2.2 := by rw [hy]; exact eS
        rw [← hy] at q0 ss hoj insj hpj
        rw [eS']
        have i20 : mI μ (b + 4) 2 = nI (aS B 20) := h.2.1.1 20 rfl
        have sc := c_scal (i := 20) (n := aS B 20 + 1) h hh rfl (by decide)
        obtain ⟨μ1, m1⟩ : ∃ μ1, μ1 = sI μ (b + 4) 2 (nI (aS B 20 + 1)) := ⟨_, rfl⟩
        rw [show b + (cT.1 20).1 = b + 4 from rfl, show (cT.1 20).2 = 2 from rfl, ← m1] at sc
        obtain ⟨F1, H1, c1, x1⟩ := sc
        obtain ⟨μ2, m2⟩ : ∃ μ2, μ2 = sI μ1 (b + 28) (y.1 0 % 16) 1 := ⟨_, rfl⟩
        obtain ⟨C, hC⟩ : ∃ C, C = zN (zS B 20 (aS B 20 + 1)) 5 (y.1 0 % 16) 1 := ⟨_, rfl⟩
        have t2 : RT cT b C μ2 := by rw [hC, m2]; exact F1.2.1.putN cT_ok (q := 5) (j := y.1 0 % 16) (by omega) (show y.1 0 % 16 < 16 by omega) 1
        have g2 : CH b (fun o _ => o == 28) μ1 μ2 := by rw [m2]; exact CH.put rfl
        have hS : ∀ o k : Nat, (o == 28) = true → o < 30 ∧ o ≠ 24 ∧ ¬ (o = 6 ∨ o = 7 ∨ o = 8 ∨ o = 18 ∨ o = 19) ∧ ¬ (o = 15 ∧ k = 4) ∧ ¬ (o = 20 ∧ k = 4) := fun o k zz => by
          simp only [beq_iff_eq] at zz
          omega
        have hS2 := fun (o k : Nat) (zz : (o == 28) = true) => (⟨(hS o k zz).1, (hS o k zz).2.1⟩ : o < 30 ∧ o ≠ 24)
        have hP : SamP (zS B 20 (aS B 20 + 1)) C := by rw [hC]; exact ⟨fun r _ _ => zN_ne _ _ _ (by omega), rfl⟩
        have CS : aS C = aS (zS B 20 (aS B 20 + 1)) := by rw [hC]; rfl
        have F2 : FR b z C μ2 := F1.ch t2 g2 hS (by
          rw [CS]
          exact plA_congr (A := zS B 20 (aS B 20 + 1)) (B := C) hP (by rw [hC]; rfl) (by rw [hC]; rfl) (by rw [hC]; rfl) (by rw [CS]) (fun _ _ => by rw [hC]; exact congrFun (zN_ne _ _ _ (by decide)) _)) (by rw [hC]; rfl) (fun q => by rw [CS] at q ⊢; exact ⟨q, rfl⟩)
        have HH2 : HR b z C m G ar s μ2 := (H1.ch F1.1 g2 hS2).cg hP (by rw [CS]) (by rw [CS]) (by rw [CS]) (by rw [CS]) (fun _ _ => by rw [hC]; rfl) (fun _ _ => by rw [hC]; rfl) (by rw [hC]; rfl) (fun r hr => by rw [hC]; exact zN_ne _ _ _ (by omega)) (by rw [hC]; rfl) (fun _ _ _ => rfl)
        have c2 := g2.ck F1.1 hS2
        have x2 := g2.h2 F1.1 hS2
        have C9 : aS C 9 = aS B 9 := by rw [CS]; exact zS_ne _ _ (by decide)
        have ip := hip hst
        have hzC : IBz C := by
          rw [hC]
          refine IBp.z (((St.zS0 (i := 20) rfl).trans (St.zN0 (r := 5) (by omega))).ibe (n := 0) ip (Nat.zero_le _) (zN_ne _ _ _ (by decide)) (fun i hi => ?_) rfl rfl rfl)
          rw [(zN_ _ _ _ _).2.1, up2_eq, up1_if]
          split
          · exact Nat.le_refl _
          · exact ip.2.1.2.2.2.2.2.1 i hi
        obtain ⟨μ3, e3, F3, H3, c3, x3⟩ := c_throwF (at_ := j) F2 HH2 (c2.1 (c1.1 w)) hzC (by rw [CS, zS_ne _ _ (by decide)]; exact n10) (by rw [C9]; omega)
        have xx := (x1.trans x2).trans x3
        have ga := xx (G 1 j) (by rw [kj]; rfl)
        have gi := xx (G 0 (y.1 0)) (by rw [insj.1]; rfl)
        have x12 := (x1.trans x2) (G 1 j) (by rw [kj]; rfl)
        obtain ⟨μ4, e4, F4, H4, c4, x4⟩ := c_goOn (p := y.1 0) F3 H3 (ss.same xx)
        rw [hC] at F4 H4
        refine ⟨sx, μ4, ?_, F4, H4, ((c1.trans c2).trans c3).trans c4⟩
        have fm := c_fmod16 (y.1 0) hpj.1
        have im := inbN (p := y.1 0 % 16) (n := 16) (by omega) (by omega)
        have cm := clN (show y.1 0 % 16 < 100000 by omega)
        have k1' := F1.1
        unfold SC at k1'
        have k3 := F3.1
        unfold SC at k3
        have y1 := x1 (G 1 j) (by rw [kj]; rfl)
        have yi := x1 (G 0 (y.1 0)) (by rw [insj.1]; rfl)
        rw [base, wl]
        show f_X0_checkLoads_b93 (b + 1) (nI j) (G 1 j) μ = _
        simp only [f_X0_checkLoads_b93, s0, ckT, bdS, i20, nI_1, zlS, ← m1, k1', y1.1, kj, y1.2.2.2, q0, yi.1, insj.1, yi.2.2.1, insj.2.1, fm, ckA, ck_t im, cm, ← m2, cl_t e3, k3, ga.1, ga.2.2.2, q3, gi.1, gi.2.2.1, cl_t e4]
    · have w12 : ¬ nI ((aB B i).1 12) = 0 := nIne (n := 0) (by omega) (by omega) t0
      refine done (if_neg (fun q => t0 q.2)) ?_
      simp only [f_X0_checkLoads, k1, ckT, r0, bdS, ins.1, qs, b1, if_false, d12, w12]
end CE2
