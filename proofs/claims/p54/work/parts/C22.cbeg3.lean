/-! THE CLASS: an entry begins -/
section CBI
variable {b z e sl : Nat} {m m' : Nat → Nat} {A A' B C D : Sx} {P : Pm} {G : Nat → Nat → Nat} {ar : Nat → Nat} {s : Nat} {μ μ' μ2 : Mm} {S : Nat → Nat → Bool}
/-- what was computed of an entry -/
def CPf (F : Nat → Int32) (y : Ent) : Prop := F 11 = y.2.1 1 ∧ F 12 = nI (y.1 12) ∧ F 13 = y.2.1 2 ∧ F 14 = y.2.1 0 ∧ F 15 = nI (y.1 14) ∧ F 16 = y.2.1 3
theorem qd_of (q : IB A) {k : Nat} (hk : k < aS A 9) (hs : (aB A k).1 10 = 113) : isQd (eC A (aB A k)) = true := by
  have dy := q.2.2.2.2.2.2.1 k hk
  cases hd : isQd (eC A (aB A k))
  · have := dy.2.1 hd
    omega
  · rfl
theorem CE.u29 {a : Nat} (S : SC b μ) (k1 : mK μ a = 104) (k2 : mK μ (a + 1) = 51) (g : CE a μ μ') : mI μ' (b + 29) = mI μ (b + 29) := by
  have f := S.fk (o := 29) (by decide) (by decide)
  exact g.2.2.2.2.2.2 _ (fun q => by rw [q, k1] at f; cases f) (fun q => by rw [q, k2] at f; cases f)
theorem c_cmpE {k : Nat} (h : FR b z A μ) (hh : HR b z A (fun _ => 0) G ar s μ) (q : IB A) (hk : k < aS A 9) (hs : (aB A k).1 10 = 113) : ∃ μ', f_X3_compute (G 1 k) (eX A (aB A k)) (eY A (aB A k)) μ = some ((), μ') ∧ FR b z A μ' ∧ HR b z A (fun _ => 0) G ar s μ' ∧ CK 0 0 μ μ' ∧ mI μ' (b + 29) = mI μ (b + 29) ∧ CPf (mI μ' (G 1 k)) (cmp A (aB A k)) := by
  obtain ⟨g1, g2, g3, g4, g5, g6, g7, g8, g9⟩ := c_rd h hh q hk
  have re := hh.2.2.2.1 k hk
  have ins := hh.2.2.1 _ g9
  have hq := qd_of q hk hs
  obtain ⟨c1, c2, c3, c4, c5, c6, c7, c8⟩ := cmp_f A (aB A k)
  obtain ⟨μ', e, g, m1, m12, m13, m14, m15, m11, mo⟩ := c_compute (x1 := eX A (aB A k)) (x2 := eY A (aB A k)) (n := eI A (aB A k)) g2 g3 g4 ins.2.1 g5 ins.2.2.2.2.2.2 g6
  have rf := re.2.2.2.2.2.2
  have rf' : REf A 0 true (aB A k) (mI μ' (G 1 k)) (mI μ' (G 1 k + 1)) := by
    unfold REf at rf ⊢
    rw [m1, mo 1 (by omega), mo 2 (by omega), mo 16 (by omega), mo 5 (by omega), mo 6 (by omega), mo 7 (by omega), mo 8 (by omega), mo 9 (by omega), mo 10 (by omega)]
    obtain ⟨f1, f2, f3, f4, f5, f6, f7, f8, f9, f10, f11, f12⟩ := rf
    refine ⟨f1, f2, f3, f4, f5, f6, f7, f8, f9, fun w => ?_, f11, f12⟩
    rcases w with w | w | w
    · cases w
    · rw [hq] at w; cases w
    · exact absurd hs w
  refine ⟨μ', e, h.ce re.1 re.2.2.2.2.1 g, hh.ent (k0 := k) (y := aB A k) hk (by decide) g (fun j => by split <;> simp_all) rfl rfl rf' SamP.refl0 rfl rfl rfl rfl rfl rfl (fun _ _ => rfl) rfl (fun _ _ _ hz => absurd rfl hz), g.ck re.1 re.2.2.2.2.1, g.u29 h.1 re.1 re.2.2.2.2.1, ?_⟩
  refine ⟨by rw [m11, c5], by rw [m12, c2], by rw [m13, c6], by rw [m14, c4], ?_, ?_⟩
  · rw [m15, c3]
    cases (isQn (eC A (aB A k)) && soV (eC A (aB A k)) (eX A (aB A k)) (eY A (aB A k))) <;> rfl
  · rw [mo 16 (by omega), c7]
    exact rf.2.2.1
theorem c_bgPut {k d : Nat} {X : Ent} (h : FR b z C μ) (hh : HR b z C (fun _ => 0) G ar s μ) (hk : k < aS C 9) (hq : isQd (eC C (aB C k)) = true) (hX : ∀ i, i ≠ 12 → i ≠ 14 → X.1 i = (aB C k).1 i) (hX2 : X.2.2 = (aB C k).2.2) (g0 : CE (G 1 k) μ μ2) (m0 : mI μ2 (G 1 k + 1) = mI μ (G 1 k + 1)) (m1 : ∀ i, i = 1 ∨ i = 2 ∨ i = 6 ∨ i = 7 ∨ i = 8 ∨ i = 9 → mI μ2 (G 1 k) i = mI μ (G 1 k) i) (cp : CPf (mI μ2 (G 1 k)) X) : ∃ μ', f_X3_beginWith (G 1 k) (nI d) (nI (aS C 0)) μ2 = some ((), μ') ∧ FR b z (zB C k (bgW X d (aS C 0))) μ' ∧ HR b z (zB C k (bgW X d (aS C 0))) (fun _ => 0) G ar s μ' ∧ CK 0 0 μ μ' ∧ FR b z (zB C k (eN (bgW X d (aS C 0)) 10 109)) (sI μ' (G 1 k) 5 109) ∧ HR b z (zB C k (eN (bgW X d (aS C 0)) 10 109)) (fun _ => 0) G ar s (sI μ' (G 1 k) 5 109) ∧ CK 0 0 μ (sI μ' (G 1 k) 5 109) ∧ mK μ' = mK μ ∧ mI μ' (b + 29) = mI μ (b + 29) ∧ mI (sI μ' (G 1 k) 5 109) (b + 29) = mI μ (b + 29) := by
  have re := hh.2.2.2.1 k hk
  obtain ⟨k1, r0, -, r4, k2, l2, rf⟩ := re
  obtain ⟨μ', e, g, e5, e10, eo, e2, eo2⟩ := c_beginWith (μ := μ2) (a := G 1 k) (d := d) (cyc := aS C 0) (by rw [g0.1]; exact k1) (by rw [g0.2.2.1]; exact r4) (by rw [g0.1]; exact k2) (by rw [g0.2.1]; exact l2)
  have gg := g0.trans g
  have g5 : CE (G 1 k) μ' (sI μ' (G 1 k) 5 109) := ⟨rfl, rfl, rfl, rfl, rfl, rfl, fun x a c => mI_row _ _ a⟩
  have ggw := gg.trans g5
  obtain ⟨p11, p12, p13, p14, p15, p16⟩ := cp
  have hX' : ∀ i, i ≠ 3 → i ≠ 10 → i ≠ 11 → i ≠ 12 → i ≠ 14 → (bgW X d (aS C 0)).1 i = (aB C k).1 i := fun i a1 a2 a3 a4 a5 => by
    show up1 (up1 (up1 X.1 10 120) 11 (aS C 0 + d)) 3 (aS C 0) i = _
    rw [up1_ne _ _ a1, up1_ne _ _ a3, up1_ne _ _ a2]
    exact hX i a4 a5
  have rb : REf C 0 true (bgW X d (aS C 0)) (mI μ' (G 1 k)) (mI μ' (G 1 k + 1)) := REf.beg (F := mI μ (G 1 k)) (p := mI μ (G 1 k + 1)) rf hq hX' (Or.inl rfl) e5 e10 (by rw [eo 11 (by decide) (by decide)]; exact p11) (by rw [eo 12 (by decide) (by decide)]; exact p12) (by rw [eo 13 (by decide) (by decide)]; exact p13) (by rw [eo 14 (by decide) (by decide)]; exact p14) (by rw [eo 15 (by decide) (by decide)]; exact p15) (by rw [eo 16 (by decide) (by decide)]; exact p16) (fun i hi => by rw [eo i (by omega) (by omega)]; exact m1 i hi) e2 (fun i hi => by rw [eo2 i (by omega), m0])
  have rw' : REf C 0 true (eN (bgW X d (aS C 0)) 10 109) (mI (sI μ' (G 1 k) 5 109) (G 1 k)) (mI (sI μ' (G 1 k) 5 109) (G 1 k + 1)) := by
    have w1 : mI (sI μ' (G 1 k) 5 109) (G 1 k + 1) = mI μ' (G 1 k + 1) := mI_row _ _ (by omega)
    have w2 : ∀ i, i ≠ 5 → mI (sI μ' (G 1 k) 5 109) (G 1 k) i = mI μ' (G 1 k) i := fun i hi => mI_ne _ _ (Or.inr hi)
    rw [w1]
    exact REf.beg (F := mI μ (G 1 k)) (p := mI μ (G 1 k + 1)) rf hq (fun i a1 a2 a3 a4 a5 => by
      show up1 (bgW X d (aS C 0)).1 10 109 i = _
      rw [up1_ne _ _ a2]
      exact hX' i a1 a2 a3 a4 a5) (Or.inr rfl) (mI_at _ _ _ _) (by rw [w2 10 (by decide)]; exact e10) (by rw [w2 11 (by decide), eo 11 (by decide) (by decide)]; exact p11) (by rw [w2 12 (by decide), eo 12 (by decide) (by decide)]; exact p12) (by rw [w2 13 (by decide), eo 13 (by decide) (by decide)]; exact p13) (by rw [w2 14 (by decide), eo 14 (by decide) (by decide)]; exact p14) (by rw [w2 15 (by decide), eo 15 (by decide) (by decide)]; exact p15) (by rw [w2 16 (by decide), eo 16 (by decide) (by decide)]; exact p16) (fun i hi => by rw [w2 i (by omega), eo i (by omega) (by omega)]; exact m1 i hi) e2 (fun i hi => by rw [eo2 i (by omega), m0])
  refine ⟨μ', e, (h.ce k1 k2 gg).cgA rfl rfl rfl rfl, hh.ent (k0 := k) (y := bgW X d (aS C 0)) hk (by decide) gg (fun j => ?_) (hX' 0 (by decide) (by decide) (by decide) (by decide) (by decide)) hX2 rb ⟨fun _ _ _ => rfl, rfl⟩ rfl rfl rfl rfl rfl rfl (fun _ _ => rfl) rfl (fun _ _ _ hz => absurd rfl hz), gg.ck k1 k2, (h.ce k1 k2 ggw).cgA rfl rfl rfl rfl, hh.ent (k0 := k) (y := eN (bgW X d (aS C 0)) 10 109) hk (by decide) ggw (fun j => ?_) (hX' 0 (by decide) (by decide) (by decide) (by decide) (by decide)) hX2 rw' ⟨fun _ _ _ => rfl, rfl⟩ rfl rfl rfl rfl rfl rfl (fun _ _ => rfl) rfl (fun _ _ _ hz => absurd rfl hz), ggw.ck k1 k2, gg.1, gg.u29 h.1 k1 k2, ggw.u29 h.1 k1 k2⟩
  · show up1 (aB C) k _ j = _
    rw [up1_if]
  · show up1 (aB C) k _ j = _
    rw [up1_if]
theorem c_begs {k d : Nat} {X : Ent} (h : FR b z C μ) (hh : HR b z C (fun _ => 0) G ar s μ) (hk : k < aS C 9) (hq : isQd (eC C (aB C k)) = true) (hX : ∀ i, i ≠ 12 → i ≠ 14 → X.1 i = (aB C k).1 i) (hX2 : X.2.2 = (aB C k).2.2) (cp : CPf (mI μ (G 1 k)) X) : (∃ μ', f_X3_beginWith (G 1 k) (nI d) (nI (aS C 0)) μ = some ((), μ') ∧ FR b z (zB C k (bgW X d (aS C 0))) μ' ∧ HR b z (zB C k (bgW X d (aS C 0))) (fun _ => 0) G ar s μ' ∧ CK 0 0 μ μ' ∧ mI μ' (b + 29) = mI μ (b + 29)) ∧ ∃ μ', f_X0_canBeginLoad_b187 (b + 1) (G 1 k) μ = some (1, μ') ∧ FR b z (zB C k (eN (bgW X 0 (aS C 0)) 10 109)) μ' ∧ HR b z (zB C k (eN (bgW X 0 (aS C 0)) 10 109)) (fun _ => 0) G ar s μ' ∧ CK 0 0 μ μ' ∧ mI μ' (b + 29) = mI μ (b + 29) := by
  have k0 := h.1
  unfold SC at k0
  have i12 : mI μ (b + 1) 12 = nI (aS C 0) := h.2.1.1 0 rfl
  have k104 := (hh.2.2.2.1 k hk).1
  obtain ⟨μ1, e1, F1, H1, c1, -, -, -, -, u1, -⟩ := c_bgPut (d := d) h hh hk hq hX hX2 CE.refl0 rfl (fun _ _ => rfl) cp
  obtain ⟨μ3, e3, -, -, -, F3, H3, c3, K3, -, u3⟩ := c_bgPut (d := 0) h hh hk hq hX hX2 CE.refl0 rfl (fun _ _ => rfl) cp
  have e3' : f_X3_beginWith (G 1 k) 0 (nI (aS C 0)) μ = some ((), μ3) := e3
  exact ⟨⟨μ1, e1, F1, H1, c1, u1⟩, ⟨_, by simp only [f_X0_canBeginLoad_b187, k0, ckT, k104, i12, cl_t e3', K3, zlS], F3, H3, c3, u3⟩⟩
theorem c_take {k j : Nat} {X : Ent} (h : FR b z A μ) (hh : HR b z A (fun _ => 0) G ar s μ) (q : IB A) (hk : k < aS A 9) (hj : j < aS A 9) (hjk : j ≠ k) (hq : isQd (eC A (aB A k)) = true) (hX : ∀ i, i ≠ 12 → i ≠ 14 → X.1 i = (aB A k).1 i) (hX2 : X.2.2 = (aB A k).2.2) (cp : CPf (mI μ (G 1 k)) X) : ∃ μ', f_X0_canBeginLoad_b90 (b + 1) (G 1 k) (G 1 j) μ = some (bI (!(decide (eC A (aB A j) = 11) || decide (aN A 2 ((aB A j).1 7) ≠ 1))), μ') ∧ (eC A (aB A j) = 11 ∨ aN A 2 ((aB A j).1 7) ≠ 1 → μ' = μ) ∧ (¬ (eC A (aB A j) = 11 ∨ aN A 2 ((aB A j).1 7) ≠ 1) → FR b z (zB (zS A 22 (aS A 22 + 1)) k (bgW (eV (eV X 2 (eY A (aB A j))) 3 (nI ((aB A j).1 13))) 1 (aS A 0))) μ' ∧ HR b z (zB (zS A 22 (aS A 22 + 1)) k (bgW (eV (eV X 2 (eY A (aB A j))) 3 (nI ((aB A j).1 13))) 1 (aS A 0))) (fun _ => 0) G ar s μ') ∧ CK 0 0 μ μ' ∧ mI μ' (b + 29) = mI μ (b + 29) := by
  have k0 := h.1
  unfold SC at k0
  obtain ⟨g1, g2, g3, g4, g5, g6, g7, g8, g9⟩ := c_rd h hh q hj
  have k104 := (hh.2.2.2.1 k hk).1
  have abj := q.ab hj
  have rej := hh.2.2.2.1 j hj
  have f1 : mI μ (G 1 j) 1 = nI ((aB A j).1 13) := rej.2.2.2.2.2.2.1
  have f7 : mI μ (G 1 j) 7 = nI ((aB A j).1 7) := (rej.2.2.2.2.2.2.2.2.2.2.2.1 rfl).2.1
  have hv := c_hasValue h.1 h.2.1 abj.2 (q.2.1.2.2.2.2.1 _ abj.2)
  have vo := c_valueOf h.1 h.2.1 abj.2
  have i12 : mI μ (b + 1) 12 = nI (aS A 0) := h.2.1.1 0 rfl
  have zz0 : zb 0 = 0 := by decide
  have zz1 : zb 1 = 1 := by decide
  have b0 : bI false = 0 := rfl
  have b1 : ¬ bI true = 0 := by decide
  have ngk : G 1 j ≠ G 1 k := fun w => by
    have or := hh.2.2.2.2.2.1.1
    rcases Nat.lt_or_ge j k with y | y
    · have := or j k y hk
      omega
    · have := or k j (by omega) hj
      omega
  by_cases e11 : eC A (aB A j) = 11
  · have w : nI (eC A (aB A j)) = 11 := by rw [e11]; rfl
    rw [decide_eq_true e11]
    exact ⟨μ, by
      simp only [f_X0_canBeginLoad_b90, f_X0_canTake, k0, ckT, g2, g3, bdS, g4, g5, w, if_true, clS, zz0]
      rfl, fun _ => rfl, fun y => absurd (Or.inl e11) y, CK.refl0, rfl⟩
  · have w : ¬ nI (eC A (aB A j)) = 11 := nIne (n := 11) (by omega) (by omega) e11
    rw [decide_eq_false e11]
    by_cases e1 : aN A 2 ((aB A j).1 7) = 1
    · rw [decide_eq_true e1] at hv
      rw [decide_eq_false (fun y => y e1)]
      obtain ⟨Y, hY⟩ : ∃ Y, Y = eV (eV X 2 (eY A (aB A j))) 3 (nI ((aB A j).1 13)) := ⟨_, rfl⟩
      obtain ⟨μ1, m1⟩ : ∃ μ1, μ1 = sI (sI μ (G 1 k) 13 (aV A 1 ((aB A j).1 7))) (G 1 k) 16 (nI ((aB A j).1 13)) := ⟨_, rfl⟩
      have g0 : CE (G 1 k) μ μ1 := by
        rw [m1]
        exact ⟨rfl, rfl, rfl, rfl, rfl, rfl, fun x a c => by rw [mI_row _ _ a, mI_row _ _ a]⟩
      have mo : ∀ i, i ≠ 13 → i ≠ 16 → mI μ1 (G 1 k) i = mI μ (G 1 k) i := fun i a c => by rw [m1, mI_ne _ _ (Or.inr c), mI_ne _ _ (Or.inr a)]
      obtain ⟨p11, p12, p13, p14, p15, p16⟩ := cp
      have cp1 : CPf (mI μ1 (G 1 k)) Y := by
        rw [hY]
        refine ⟨by rw [mo 11 (by decide) (by decide)]; exact p11, by rw [mo 12 (by decide) (by decide)]; exact p12, ?_, by rw [mo 14 (by decide) (by decide)]; exact p14, by rw [mo 15 (by decide) (by decide)]; exact p15, ?_⟩
        · rw [m1, mI_ne _ _ (Or.inr (by decide)), mI_at]
          rfl
        · rw [m1, mI_at]
          rfl
      obtain ⟨μ3, e3, F3, H3, c3, -, -, -, K3, u3, -⟩ := c_bgPut (d := 1) (X := Y) h hh hk hq (fun i a c => by rw [hY]; exact hX i a c) (by rw [hY]; exact hX2) g0 (by rw [m1, mI_row _ _ (by omega), mI_row _ _ (by omega)]) (fun i hi => mo i (by omega) (by omega)) cp1
      obtain ⟨F4, H4, c4, x4⟩ := c_put (i := 22) (n := aS A 22 + 1) F3 H3 rfl (by decide) rfl
      rw [← hY]
      refine ⟨_, ?_, fun y => absurd y (by rintro (y | y); exact e11 y; exact y e1), fun _ => ⟨F4, H4⟩, c3.trans c4, by rw [mI_row _ _ (by omega)]; exact u3⟩
      have n1k : b + 1 ≠ G 1 k := fun y => by rw [← y] at k104; rw [show mK μ (b + 1) = 101 by simp only [k0]] at k104; cases k104
      have i12' : mI μ1 (b + 1) 12 = nI (aS A 0) := by rw [g0.2.2.2.2.2.2 _ n1k (fun y => by
        have k51 := (hh.2.2.2.1 k hk).2.2.2.2.1
        rw [← y] at k51
        rw [show mK μ (b + 1) = 101 by simp only [k0]] at k51; cases k51)]; exact i12
      have f1' : mI (sI μ (G 1 k) 13 (aV A 1 ((aB A j).1 7))) (G 1 j) 1 = nI ((aB A j).1 13) := by rw [mI_row _ _ ngk]; exact f1
      have i44 : mI μ3 (b + 4) 4 = nI (aS A 22) := F3.2.1.1 22 rfl
      have k3 := F3.1
      unfold SC at k3
      have e3' : f_X3_beginWith (G 1 k) 1 (nI (aS A 0)) μ1 = some ((), μ3) := e3
      simp only [f_X0_canBeginLoad_b90, f_X0_canTake, k0, ckT, g2, g3, bdS, g4, g5, w, if_false, f7, hv, b1, not_false_eq_true, if_true, vo, k104, zlS, f1', ← m1, i12', cl_t e3', k3, i44, nI_1, clS, zz1]
      rfl
    · rw [decide_eq_false e1] at hv
      rw [decide_eq_true e1]
      exact ⟨μ, by
        simp only [f_X0_canBeginLoad_b90, f_X0_canTake, k0, ckT, g2, g3, bdS, g4, g5, w, if_false, f7, hv, b0, not_true, clS, zz0]
        rfl, fun _ => rfl, fun y => absurd (Or.inr e1) y, CK.refl0, rfl⟩
end CBI
