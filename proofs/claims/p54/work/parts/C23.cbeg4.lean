/-! THE CLASS: loads begin; a cycle's beginnings -/
section CBJ
variable {b z e sl : Nat} {m m' : Nat → Nat} {A A' B C D : Sx} {P : Pm} {G : Nat → Nat → Nat} {ar : Nat → Nat} {s : Nat} {μ μ' μ2 : Mm} {S : Nat → Nat → Bool}
theorem c_isES {k : Nat} (h : FR b z A μ) (hh : HR b z A (fun _ => 0) G ar s μ) (q : IB A) (hk : k < aS A 9) : f_X3_isEndedStore (G 1 k) μ = some (bI (isSt (eC A (aB A k)) && decide ((aB A k).1 10 = 101))) := by
  obtain ⟨g1, g2, g3, g4, g5, g6, g7, g8, g9⟩ := c_rd h hh q hk
  have is := c_isSt g4 g5 g6
  have b0 : bI false = 0 := rfl
  have b1 : ¬ bI true = 0 := by decide
  cases e5 : isSt (eC A (aB A k))
  · rw [e5] at is
    simp only [f_X3_isEndedStore, g2, g3, g4, ckT, bdS, is, b0, if_true]
    rfl
  · rw [e5] at is
    by_cases e101 : (aB A k).1 10 = 101
    · have w : ¬ ¬ nI ((aB A k).1 10) = 101 := by rw [e101]; exact fun y => y rfl
      rw [decide_eq_true e101]
      simp only [f_X3_isEndedStore, g2, g3, g4, ckT, bdS, is, b1, if_false, g7, w]
      rfl
    · have w : ¬ nI ((aB A k).1 10) = 101 := nIne (n := 101) (by omega) (by omega) e101
      rw [decide_eq_false e101]
      simp only [f_X3_isEndedStore, g2, g3, g4, ckT, bdS, is, b1, if_false, g7, w, not_false_eq_true, if_true]
      rfl
theorem c_ldL {a k : Nat} {ad : Int32} (h : FR b z A μ) (hh : HR b z A (fun _ => 0) G ar s μ) (q : IB A) (hk : k < aS A 9) (ka : mK μ a = 104) (i11 : mI μ a 11 = ad) : ∀ (j fu : Nat), j ≤ k → j < fu → f_X0_canBeginLoad_b34 fu (b + 1) a (nI j + (-1)) μ = (match lstS A ad j with | some i => f_X0_canBeginLoad_b90 (b + 1) a (G 1 i) μ | none => f_X0_canBeginLoad_b104 (b + 1) a μ)
  | 0, fu, hj, hf => by
    obtain ⟨fu, rfl⟩ : ∃ n, fu = n + 1 := ⟨fu - 1, by omega⟩
    have c : nI 0 + (-1) < 0 := by decide
    simp only [f_X0_canBeginLoad_b34, c, if_true, lstS]
  | j + 1, fu, hj, hf => by
    obtain ⟨fu, rfl⟩ : ∃ n, fu = n + 1 := ⟨fu - 1, by omega⟩
    have n9 : aS A 9 ≤ 16 := by have := q.2.1.1; have := q.1.2.1; omega
    have k0 := h.1
    unfold SC at k0
    have sz := c_sizeB h
    have hjk : j < aS A 9 := by omega
    obtain ⟨g1, g2, g3, g4, g5, g6, g7, g8, g9⟩ := c_rd h hh q hjk
    have ej : nI (j + 1) + (-1) = nI j := by
      rw [← nI_1 j, Int32.add_assoc]
      exact Int32.add_zero _
    have c0 : ¬ nI j < 0 := nI_pos (by omega)
    have c1 : ¬ nI (aS A 9) ≤ nI j := nI_ge (by omega) (by omega)
    have es := c_isES h hh q hjk
    have b0 : bI false = 0 := rfl
    have b1 : ¬ bI true = 0 := by decide
    have ih := c_ldL h hh q hk ka i11 j fu (by omega) (by omega)
    have rf := (hh.2.2.2.1 j hjk).2.2.2.2.2.2
    have hl : lstS A ad (j + 1) = if isSt (eC A (aB A j)) = true ∧ (aB A j).1 10 = 101 ∧ (aB A j).1 12 = 0 ∧ (aB A j).2.1 1 = ad then some j else lstS A ad j := rfl
    rw [ej, hl]
    cases e5 : isSt (eC A (aB A j))
    · rw [e5] at es
      rw [if_neg (fun y => by cases y.1), ← ih]
      simp only [f_X0_canBeginLoad_b34, f_X0_canBeginLoad_b98, c0, if_false, k0, ckT, bdS, sz, c1, g1, g2, es, Bool.false_and, b0, if_true]
    · rw [e5] at es
      by_cases e101 : (aB A j).1 10 = 101
      · rw [decide_eq_true e101] at es
        obtain ⟨d11, d12, -⟩ := rf.2.2.2.2.2.2.2.2.2.1 (Or.inr (Or.inr (by omega)))
        have cm := (q.2.2.2.2.2.2.1 j hjk).2.2.2.2.2.2 (by omega)
        have t5 : (aB A j).1 12 ≤ 5 := by
          rw [cm.2.2.1]
          split
          · exact Nat.le_refl _
          · exact tpV_le _ _ _ _
        by_cases t0 : (aB A j).1 12 = 0
        · have w12 : ¬ ¬ nI ((aB A j).1 12) = 0 := by rw [t0]; exact fun y => y rfl
          by_cases ea : (aB A j).2.1 1 = ad
          · have wa : ¬ ¬ (aB A j).2.1 1 = ad := fun y => y ea
            rw [if_pos ⟨rfl, e101, t0, ea⟩]
            simp only [f_X0_canBeginLoad_b34, c0, if_false, k0, ckT, bdS, sz, c1, g1, g2, es, Bool.true_and, b1, d12, w12, ka, d11, i11, wa]
          · rw [if_neg (fun y => ea y.2.2.2), ← ih]
            simp only [f_X0_canBeginLoad_b34, f_X0_canBeginLoad_b98, c0, if_false, k0, ckT, bdS, sz, c1, g1, g2, es, Bool.true_and, b1, d12, w12, ka, d11, i11, ea, not_false_eq_true, if_true]
        · have w12 : ¬ nI ((aB A j).1 12) = 0 := nIne (n := 0) (by omega) (by omega) t0
          rw [if_neg (fun y => t0 y.2.2.1), ← ih]
          simp only [f_X0_canBeginLoad_b34, f_X0_canBeginLoad_b98, c0, if_false, k0, ckT, bdS, sz, c1, g1, g2, es, Bool.true_and, b1, d12, w12, not_false_eq_true, if_true]
      · rw [decide_eq_false e101] at es
        rw [if_neg (fun y => e101 y.2.1), ← ih]
        simp only [f_X0_canBeginLoad_b34, f_X0_canBeginLoad_b98, c0, if_false, k0, ckT, bdS, sz, c1, g1, g2, es, Bool.and_false, b0, if_true]
theorem c_ldB {k : Nat} {X : Ent} (h : FR b z A μ) (hh : HR b z A (fun _ => 0) G ar s μ) (q : IB A) (h0 : aS A 0 < 1000) (hk : k < aS A 9) (hq : isQd (eC A (aB A k)) = true) (hX : ∀ i, i ≠ 12 → i ≠ 14 → X.1 i = (aB A k).1 i) (hX2 : X.2.2 = (aB A k).2.2) (cp : CPf (mI μ (G 1 k)) X) (had : adok (X.2.1 1) = true) : ∃ μ', f_X0_canBeginLoad (b + 1) (G 1 k) (nI k) μ = some (bI (ldB A k X).isSome, μ') ∧ FR b z ((ldB A k X).getD A) μ' ∧ HR b z ((ldB A k X).getD A) (fun _ => 0) G ar s μ' ∧ CK 0 0 μ μ' ∧ mI μ' (b + 29) = mI μ (b + 29) := by
  have n9 : aS A 9 ≤ 16 := by have := q.2.1.1; have := q.1.2.1; omega
  have k0 := h.1
  unfold SC at k0
  obtain ⟨g1, g2, g3, g4, g5, g6, g7, g8, g9⟩ := c_rd h hh q hk
  have ins := hh.2.2.1 _ g9
  have hp := q.1.p g9
  obtain ⟨p11, p12, p13, p14, p15, p16⟩ := id cp
  obtain ⟨a1, a2⟩ := adok_e had
  obtain ⟨l, hl⟩ : ∃ l, l = lineOf X := ⟨_, rfl⟩
  have l16 : l < 16 := by
    rw [hl]
    unfold lineOf
    omega
  have dl : X.2.1 1 / 4 = nI l := by
    have := m_div4 (X.2.1 1).toNatClampNeg a2
    rw [nI_tc had] at this
    rw [hl]
    exact this
  have ex0 : X.1 0 = (aB A k).1 0 := hX 0 (by decide) (by decide)
  have fm := c_fmod16 ((aB A k).1 0) hp.1
  have i16 := inbN (p := (aB A k).1 0 % 16) (n := 16) (by omega) (by omega)
  have c16 := clN (show (aB A k).1 0 % 16 < 100000 by omega)
  have hm5 : mI μ (b + 28) ((aB A k).1 0 % 16) = nI (aN A 5 ((aB A k).1 0 % 16)) := h.2.1.2.1 5 _ (by omega) (show (aB A k).1 0 % 16 < 16 by omega)
  have z5 := zb1 (q.2.1.2.2.2.2.2.1 ((aB A k).1 0 % 16) (by omega))
  have st := c_stL h hh q (k := k) (by omega) k 0 5000 (by omega) (by omega) rfl
  have st' : f_X0_isStoreOpenBefore (b + 1) (nI k) μ = some (bI (stOp A k)) := st
  have b0 : bI false = 0 := rfl
  have b1 : ¬ bI true = 0 := by decide
  have hLD : ldB A k X = if aN A 5 ((aB A k).1 0 % 16) ≠ 0 ∧ stOp A k = true then none
    else match lstS A (X.2.1 1) k with
    | some j => if eC A (aB A j) = 11 ∨ aN A 2 ((aB A j).1 7) ≠ 1 then none else some (zB (zS A 22 (aS A 22 + 1)) k (bgW (eV (eV X 2 (eY A (aB A j))) 3 (nI ((aB A j).1 13))) 1 (aS A 0)))
    | none => if aV A 4 (l % 4) = nI l then some (zB (zS A 23 (aS A 23 + 1)) k (bgW X 2 (aS A 0)))
      else if l ∈ (aQ A).map (·.1) then some (zB A k (eN (bgW X 0 (aS A 0)) 10 109))
      else if 2 ≤ (aQ A).length then none
      else some (zB (zS (zQ A (aQ A ++ [(l, aS A 0 + aN A 6 l)])) 24 (aS A 24 + 1)) k (eN (bgW X 0 (aS A 0)) 10 109)) := by
    unfold ldB
    rw [ex0, hl]
    rfl
  have scn : aN A 5 ((aB A k).1 0 % 16) = 0 ∨ stOp A k = false → f_X0_canBeginLoad (b + 1) (G 1 k) (nI k) μ = (match lstS A (X.2.1 1) k with | some i => f_X0_canBeginLoad_b90 (b + 1) (G 1 k) (G 1 i) μ | none => f_X0_canBeginLoad_b104 (b + 1) (G 1 k) μ) := fun ho => by
    have sc := c_ldL h hh q hk g2 p11 k 5000 (Nat.le_refl _) (by omega)
    rw [← sc, ← Int32.sub_eq_add_neg]
    by_cases m5 : aN A 5 ((aB A k).1 0 % 16) = 0
    · have w : zb (nI (aN A 5 ((aB A k).1 0 % 16))) = 0 := by rw [z5]; exact m5
      simp only [f_X0_canBeginLoad, f_X0_canBeginLoad_b30, k0, ckT, bdS, g2, g3, g4, ins.2.1, fm, ckA, ck_t i16, c16, hm5, w, if_true]
    · have w : ¬ zb (nI (aN A 5 ((aB A k).1 0 % 16))) = 0 := by rw [z5]; exact m5
      rw [ho.resolve_left m5] at st'
      simp only [f_X0_canBeginLoad, f_X0_canBeginLoad_b30, k0, ckT, bdS, g2, g3, g4, ins.2.1, fm, ckA, ck_t i16, c16, hm5, w, if_false, st', b0, if_true]
  rw [hLD]
  by_cases hno : aN A 5 ((aB A k).1 0 % 16) ≠ 0 ∧ stOp A k = true
  · rw [if_pos hno]
    have w : ¬ zb (nI (aN A 5 ((aB A k).1 0 % 16))) = 0 := by rw [z5]; exact hno.1
    rw [hno.2] at st'
    exact ⟨μ, by
      simp only [f_X0_canBeginLoad, k0, ckT, bdS, g2, g3, g4, ins.2.1, fm, ckA, ck_t i16, c16, hm5, w, if_false, st', b1]
      rfl, h, hh, CK.refl0, rfl⟩
  rw [if_neg hno, scn (by
    by_cases m5 : aN A 5 ((aB A k).1 0 % 16) = 0
    · exact Or.inl m5
    · right
      cases hs : stOp A k
      · rfl
      · exact absurd ⟨m5, hs⟩ hno)]
  cases hL : lstS A (X.2.1 1) k with
  | some j =>
    dsimp only
    have jk := (lstS_s hL).1
    obtain ⟨μ', e, y1, y2, c1, u1⟩ := c_take h hh q hk (show j < aS A 9 by omega) (by omega) hq hX hX2 cp
    by_cases hc : eC A (aB A j) = 11 ∨ aN A 2 ((aB A j).1 7) ≠ 1
    · rw [if_pos hc]
      have em := y1 hc
      rw [em] at e c1 u1
      refine ⟨μ, ?_, h, hh, c1, u1⟩
      rw [e]
      have : (!(decide (eC A (aB A j) = 11) || decide (aN A 2 ((aB A j).1 7) ≠ 1))) = false := by
        rcases hc with y | y
        · rw [decide_eq_true y]; rfl
        · rw [decide_eq_true y]; simp
      rw [this]
      rfl
    · rw [if_neg hc]
      obtain ⟨F, H⟩ := y2 hc
      refine ⟨μ', ?_, F, H, c1, u1⟩
      rw [e]
      have : (!(decide (eC A (aB A j) = 11) || decide (aN A 2 ((aB A j).1 7) ≠ 1))) = true := by
        rw [decide_eq_false (fun y => hc (Or.inl y)), decide_eq_false (fun y => hc (Or.inr y))]
        rfl
      rw [this]
      rfl
  | none =>
    dsimp only
    have it := c_isThere h.1 h.2.1 l16
    have iw := c_isWaited h (l := l) (by omega) q.2.2.1.1 q.2.2.1.2.1
    have c40 : ∀ y : Option (Int32 × Mm), ck (¬ (4 : Int32) = 0) y = y := fun y => if_pos (by decide)
    have i12 : mI μ (b + 1) 12 = nI (aS A 0) := h.2.1.1 0 rfl
    by_cases ht : aV A 4 (l % 4) = nI l
    · rw [if_pos ht]
      rw [decide_eq_true ht] at it
      obtain ⟨F1, H1, c1, x1⟩ := c_put (i := 23) (n := aS A 23 + 1) h hh rfl (by decide) rfl
      obtain ⟨μ1, m1⟩ : ∃ μ1, μ1 = sI μ (b + 4) 5 (nI (aS A 23 + 1)) := ⟨_, rfl⟩
      rw [show sI μ (b + 4) 5 (nI (aS A 23 + 1)) = μ1 from m1.symm] at F1 H1 c1 x1
      have er : mI μ1 (G 1 k) = mI μ (G 1 k) := (x1 (G 1 k) (by rw [g2]; rfl)).2.2.1
      obtain ⟨⟨μ2, e2, F2, H2', c2, u2⟩, -⟩ := c_begs (d := 2) (k := k) (X := X) F1 H1 (by rw [zS_ne _ _ (by decide)]; exact hk) hq hX hX2 (by rw [er]; exact cp)
      rw [zS_ne _ _ (by decide)] at e2 F2 H2'
      refine ⟨μ2, ?_, F2, H2', c1.trans c2, by rw [u2, m1, mI_row _ _ (by omega)]⟩
      have i45 : mI μ (b + 4) 5 = nI (aS A 23) := h.2.1.1 23 rfl
      have i12' : mI μ1 (b + 1) 12 = nI (aS A 0) := by rw [m1, mI_row _ _ (by omega)]; exact i12
      have e2' : f_X3_beginWith (G 1 k) 2 (nI (aS A 0)) μ1 = some ((), μ2) := e2
      simp only [f_X0_canBeginLoad_b104, k0, ckT, bdS, g2, c40, p11, dl, it, b1, if_false, i45, nI_1, zlS, ← m1, i12', cl_t e2']
      rfl
    · rw [if_neg ht]
      rw [decide_eq_false ht] at it
      obtain ⟨-, μ3, e3, F3, H3, c3, u3⟩ := c_begs (d := 0) (k := k) (X := X) h hh hk hq hX hX2 cp
      by_cases hw : l ∈ (aQ A).map (·.1)
      · rw [if_pos hw]
        rw [decide_eq_true hw] at iw
        refine ⟨μ3, ?_, F3, H3, c3, u3⟩
        simp only [f_X0_canBeginLoad_b104, k0, ckT, bdS, g2, c40, p11, dl, it, b0, if_true, iw, b1, not_false_eq_true, e3]
        rfl
      · rw [if_neg hw]
        rw [decide_eq_false hw] at iw
        obtain ⟨y1, y2⟩ := c_askFor (l := l) h hh l16 q.2.2.1.1 (fun i hi => (q.2.1.2.2.2.1 i hi).2) h0
        have nn : ¬ ¬ (0 : Int32) = 0 := fun y => y rfl
        have n10 : ¬ (1 : Int32) = 0 := by decide
        by_cases h2 : 2 ≤ (aQ A).length
        · rw [if_pos h2]
          refine ⟨μ, ?_, h, hh, CK.refl0, rfl⟩
          simp only [f_X0_canBeginLoad_b104, k0, ckT, bdS, g2, c40, p11, dl, it, b0, if_true, iw, nn, if_false, i12, cl_t (y1 h2)]
          rfl
        · rw [if_neg h2]
          obtain ⟨μ4, e4, F4, H4, c4, x4, u4⟩ := y2 (by omega)
          obtain ⟨E, hE⟩ : ∃ E, E = zQ A (aQ A ++ [(l, aS A 0 + aN A 6 l)]) := ⟨_, rfl⟩
          rw [← hE] at F4 H4 ⊢
          have E24 : aS E 24 = aS A 24 := by rw [hE]; rfl
          obtain ⟨F5, H5, c5, x5⟩ := c_put (i := 24) (n := aS A 24 + 1) F4 H4 rfl (by decide) rfl
          obtain ⟨μ5, m5⟩ : ∃ μ5, μ5 = sI μ4 (b + 4) 6 (nI (aS A 24 + 1)) := ⟨_, rfl⟩
          rw [show sI μ4 (b + 4) 6 (nI (aS A 24 + 1)) = μ5 from m5.symm] at F5 H5 c5 x5
          have x45 := x4.trans x5
          have er : mI μ5 (G 1 k) = mI μ (G 1 k) := (x45 (G 1 k) (by rw [g2]; rfl)).2.2.1
          have E9 : aS (zS E 24 (aS A 24 + 1)) 9 = aS A 9 := by rw [zS_ne _ _ (by decide), hE]; rfl
          have E0 : aS (zS E 24 (aS A 24 + 1)) 0 = aS A 0 := by rw [zS_ne _ _ (by decide), hE]; rfl
          have EB : aB (zS E 24 (aS A 24 + 1)) = aB A := by rw [hE]; rfl
          have EC : eC (zS E 24 (aS A 24 + 1)) (aB (zS E 24 (aS A 24 + 1)) k) = eC A (aB A k) := by rw [hE]; rfl
          obtain ⟨-, μ6, e6, F6, H6, c6, u6⟩ := c_begs (d := 0) (k := k) (X := X) F5 H5 (by rw [E9]; exact hk) (by rw [EC]; exact hq) (by rw [EB]; exact hX) (by rw [EB]; exact hX2) (by rw [er]; exact cp)
          rw [E0] at F6 H6
          refine ⟨μ6, ?_, F6, H6, (c4.trans c5).trans c6, by rw [u6, m5, mI_row _ _ (by omega), u4]⟩
          have k4 := F4.1
          unfold SC at k4
          have i46 : mI μ4 (b + 4) 6 = nI (aS A 24) := by
            have := F4.2.1.1 24 rfl
            rw [E24] at this
            exact this
          simp only [f_X0_canBeginLoad_b104, k0, ckT, bdS, g2, c40, p11, dl, it, b0, if_true, iw, nn, if_false, i12, cl_t e4, n10, not_false_eq_true, k4, i46, nI_1, zlS, ← m5, e6]
          rfl
end CBJ
