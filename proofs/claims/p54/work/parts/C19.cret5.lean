/-! THE CLASS: a cycle's retiring, whole -/
section CRX
variable {b z e sl : Nat} {m m' : Nat → Nat} {A A' B C D : Sx} {P : Pm} {G : Nat → Nat → Nat} {ar : Nat → Nat} {s : Nat} {μ μ' μ2 : Mm} {S : Nat → Nat → Bool}
theorem CM.so {x : Ent} (h : CM A x) : x.1 14 ≤ 1 := by
  rw [h.2.2.2.2.1]
  split <;> decide
theorem c_rtL : ∀ (n : Nat) {A : Sx} {G : Nat → Nat → Nat} {ar : Nat → Nat} {s : Nat} {μ : Mm} {ret fu : Nat}, FR b z A μ → HR b z A (fun _ => 0) G ar s μ → WF μ → IV A → ret + n = aS A 16 → aS A 14 + n ≤ 2003 → n + 1 < fu → ∃ G' ar' s' μ', f_X0_doRetiring_b34 fu (b + 1) (nI ret) (nI ret) μ = some ((), μ') ∧ FR b z (rtL A n ret) μ' ∧ HR b z (rtL A n ret) (fun _ => 0) G' ar' s' μ' ∧ CK (2 * n + 1) (3100 * n) μ μ'
  | 0, A, G, ar, s, μ, ret, fu, h, hh, w, q, hr, h14, hf => by
    obtain ⟨fu, rfl⟩ : ∃ n, fu = n + 1 := ⟨fu - 1, by omega⟩
    have hw := q.1.1.1
    have k0 := h.1
    unfold SC at k0
    have i30 : mI μ (b + 3) 0 = nI (aS A 16) := h.2.1.1 16 rfl
    have c1 : nI (aS A 16) ≤ nI ret := nI_le (by omega) (by omega)
    obtain ⟨μ', e, F, H, c⟩ := c_b142 (ret := ret) h hh q.1 (fun _ _ => rfl) (by omega)
    exact ⟨G, ar, s, μ', by simp only [f_X0_doRetiring_b34, k0, ckT, bdS, i30, c1, if_true, e], F, H, c.mono (by omega) (by omega)⟩
  | n + 1, A, G, ar, s, μ, ret, fu, h, hh, w, q, hr, h14, hf => by
    obtain ⟨fu, rfl⟩ : ∃ n, fu = n + 1 := ⟨fu - 1, by omega⟩
    obtain ⟨q1, q2, q3, q4, q5, q6, q7, q8, -⟩ := id q.1
    have hw := q.1.1.1
    have hn9 : aS A 9 ≤ 16 := by have := q2.1; have := q1.2.1; omega
    have hn10 : aS A 10 ≤ 8 := by have := q.2.1; have := q1.1; omega
    have k0 := h.1
    unfold SC at k0
    have i30 : mI μ (b + 3) 0 = nI (aS A 16) := h.2.1.1 16 rfl
    have c1 : ¬ nI (aS A 16) ≤ nI ret := nI_ge (by omega) (by omega)
    have cvl := c_canLeave h hh q.1 (fun _ _ => rfl)
    have b0 : bI false = 0 := rfl
    have b1 : ¬ bI true = 0 := by decide
    have hrt : rtL A (n + 1) ret = if canLv A = true then (if (aB A 0).1 12 ≠ 0 then trap1 A ret else rtL (ret1 A) n (ret + 1)) else if ret = 0 then lose A (reas A) else A := rfl
    cases hl : canLv A with
    | false =>
      rw [hl] at cvl hrt
      obtain ⟨μ', e, F, H, c⟩ := c_b142 (ret := ret) h hh q.1 (fun _ _ => rfl) (by omega)
      rw [if_neg Bool.false_ne_true] at hrt
      rw [hrt]
      exact ⟨G, ar, s, μ', by simp only [f_X0_doRetiring_b34, k0, ckT, bdS, i30, c1, if_false, cvl, b0, if_true, e], F, H, c.mono (by omega) (by omega)⟩
    | true =>
      rw [hl] at cvl
      rw [if_pos hl] at hrt
      rw [hrt]
      obtain ⟨l1, l2, l3⟩ := canLv_e hl
      have gb : f_Jx4a65c_get_915e3 (b + 25) 0 μ = some (G 1 0) := c_getB h hh l2 (by omega)
      have re := hh.2.2.2.1 0 l2
      obtain ⟨G', ar', μ2, e2, F2, H2', c2, g1, g2⟩ := c_tellE h hh w q.1 hl (fun _ _ => rfl) (by omega)
      have G0 : G' 0 = G 0 := g1 0 (by decide) (by decide)
      have G1 : G' 1 = G 1 := g1 1 (by decide) (by decide)
      have ho := q6 0 l2
      have dy := q7 0 l2
      have ab := q.1.ab l2
      have dd := q.1.dd l2
      have cm := dy.2.2.2.2.2.2 (by omega)
      have tib := fun (ht : (aB A 0).1 12 ≠ 0) => trapIt_ib q.1 hl ht
      have rib := fun (ht : (aB A 0).1 12 = 0) => ret1_ib q.1 q.2 hl ht
      have rf := ret1_f A
      have hef : eC A (aB A 0) = 21 → aS A 10 = 0 := fun h21 => (q.2.2.2.2.2.2.2.2.2.2.2.1 0 l2 (by rw [h21]; rfl)).1
      have ins := hh.2.2.1 _ ho.1
      have zT : IBz (tellE A (aB A 0) ((aB A 0).1 12)) := q.1.z.tellE
      have tf := tellE_f A (aB A 0) ((aB A 0).1 12)
      have re2 := H2'.2.2.2.1 0 (by rw [tf.1 9 (by decide)]; exact l2)
      rw [tf.2.2.2.2.2.2.1, G1] at re2
      have re2' : REc (tellE A (aB A 0) ((aB A 0).1 12)) (G' 0) 1 true (aB A 0) (G 1 0) μ2 := re2
      have sd : ∀ {S' : Nat}, trap1 A S' = if S' = 0 then lose (trapIt (tellE A (aB A 0) ((aB A 0).1 12)) (aB A 0)) 1 else trapIt (tellE A (aB A 0) ((aB A 0).1 12)) (aB A 0) := fun {_} => rfl
      have sr : ret1 A = finR (learn (settle (zS (shiftB (tellE A (aB A 0) 0)) 5 ((aB A 0).2.1 0).toNatClampNeg) (aB A 0)) (aB A 0)) (aB A 0) := rfl
      obtain ⟨x, hx⟩ : ∃ x, x = aB A 0 := ⟨_, rfl⟩
      rw [← hx] at l3 ho dy ab dd cm tib rib hef ins zT tf re re2' sr e2 F2 H2'
      simp only [← hx] at sd
      rw [← hx]
      have k104 := re.1
      have r0 := re.2.1
      have r4 := re.2.2.2.1
      have k51 := re.2.2.2.2.1
      have l5 := re.2.2.2.2.2.1
      have d12 : mI μ (G 1 0) 12 = nI (x.1 12) := (re.2.2.2.2.2.2.2.2.2.2.2.2.2.2.2.1 (Or.inr (Or.inr (by omega)))).2.1
      have d12' : mI μ2 (G 1 0) 12 = nI (x.1 12) := (re2'.2.2.2.2.2.2.2.2.2.2.2.2.2.2.2.1 (Or.inr (Or.inr (by omega)))).2.1
      have p0 := ins.2.1
      have kin := ins.1
      have ng : G 0 (x.1 0) ≠ G 1 0 + 1 := fun w => by rw [w, k51] at kin; cases kin
      have i112 : mI μ (b + 1) 12 = nI (aS A 0) := h.2.1.1 0 rfl
      have cia : ∀ y : Option (Unit × Mm), ck (isA 1 51) y = y := fun y => if_pos (by decide)
      have i45 : inb 4 5 := by decide
      have cl4 : Int32.toNatClampNeg 4 = 4 := by decide
      obtain ⟨μ1, m1⟩ : ∃ μ1, μ1 = sI μ (G 1 0 + 1) 4 (nI (aS A 0)) := ⟨_, rfl⟩
      rw [← m1] at e2
      have R1 : mR μ1 = mR μ := by rw [m1]; rfl
      have K1 : mK μ1 = mK μ := by rw [m1]; rfl
      have d12'' : mI μ1 (G 1 0) 12 = nI (x.1 12) := by rw [m1, mI_row _ _ (by omega)]; exact d12
      have p0' : mI μ1 (G 0 (x.1 0)) 0 = nI (x.1 0) := by rw [m1, mI_row _ _ ng]; exact p0
      have w2 := c2.1 w
      have k2 := F2.1
      unfold SC at k2
      have ka2 := re2'.1
      have bs : f_X0_doRetiring_b34 (fu + 1) (b + 1) (nI ret) (nI ret) μ = (if nI (x.1 12) = 0 then
        (cl (f_Jx4a65c_remove_915e3 (b + 25) 0 μ2) fun p46 μ48 =>
        ck (mK μ48 (b + 1) = 101) <|
        cl (f_X0_retireOldest (b + 1) (G 1 0) μ48) fun _ μ52 =>
        f_X0_doRetiring_b34 fu (b + 1) (nI ret + 1) (nI ret + 1) μ52) else f_X0_doRetiring_b100 (b + 1) (nI ret) (G 1 0) μ2) := by
        rw [f_X0_doRetiring_b34]
        simp only [k0, ckT, bdS, i30, c1, if_false, cvl, b1, gb, k104, r4, k51, cia, l5, ck_t i45, cl4, zlS, i112, ← m1, R1, K1, r0, kin, d12'', p0', cl_t e2, ka2, d12', k2]
      rw [bs]
      have hec : eC A x = aN A 10 (x.1 0) := rfl
      have hp := q1.p ho.1
      by_cases ht : x.1 12 = 0
      · have w12 : nI (x.1 12) = 0 := by rw [ht]; rfl
        rw [if_pos w12, if_neg (fun y : x.1 12 ≠ 0 => y ht)]
        rw [ht] at F2 H2' tf re2' zT
        obtain ⟨x3', μ3, e3, F3, H3, c3, x3⟩ := c_rm0 F2 H2' w2 (by rw [tf.1 9 (by decide)]; exact l2) (by rw [tf.1 9 (by decide)]; exact hn9)
        have e0 : (fun k => (fun k => if k = 0 then 1 else 0) (k + 1)) = (fun _ => 0 : Nat → Nat) := funext fun k => if_neg (by omega)
        rw [e0] at H3
        obtain ⟨T, hT⟩ : ∃ T, T = tellE A x 0 := ⟨_, rfl⟩
        rw [← hT] at F3 H3 tf re2' sr
        obtain ⟨D, hD⟩ : ∃ D, D = shiftB T := ⟨_, rfl⟩
        rw [← hD] at F3 H3 sr
        have Di : ∀ i, i ≠ 9 → i ≠ 14 → aS D i = aS A i := fun i a d => by rw [hD, shiftB_S T a, tf.1 i d]
        have Dn : ∀ r, r < 14 → aN D r = aN A r := fun r hr => by
          rw [hD]
          exact tf.2.2.1 r hr
        have Dv : ∀ r, r < 8 → aV D r = aV A r := fun r hr => by
          rw [hD]
          exact tf.2.2.2.2.2.1 r hr
        have sP : SamP A D := ⟨fun r a d => Dn r (by omega), Dv 5 (by decide)⟩
        have sP2 : SamP T D := by rw [hD]; exact ⟨fun _ _ _ => rfl, rfl⟩
        have ec : eC D x = eC A x := (sP.c (x := x) rfl).1
        have cfD : CF D := by
          unfold CF
          rw [Di 16 (by decide) (by decide), Di 17 (by decide) (by decide), Di 18 (by decide) (by decide), Di 8 (by decide) (by decide), Di 15 (by decide) (by decide), Dn 10 (by decide), Dn 11 (by decide), Dn 12 (by decide), Dn 13 (by decide), Dv 5 (by decide), Dv 0 (by decide)]
          exact q1
        obtain ⟨g, g64, hg⟩ := cm.go q1 ho ht
        obtain ⟨μ4, e4, F4, H4, c4, x4⟩ := c_retO (x := x) (a := G 1 0) (g := g) F3 H3 (by
          rw [up1_ne _ _ (by decide)]
          exact (re2'.same x3).cg sP2 (fun _ => rfl)) (by rw [Di 15 (by decide) (by decide)]; exact ho.1) cfD l3 ab.2 (fun hd => by
          rw [ec] at hd
          rw [Di 7 (by decide) (by decide)]
          have := q4.nf
          have := q1.2.2.2.1
          exact ⟨by omega, dd hd⟩) hg (by omega) (fun hs => by
          rw [ec] at hs
          exact (mm_ad q1 ho cm (by rcases isSt_c hs with y | y <;> rw [y] <;> rfl) ht).1) (fun k hk => by rw [Dn 4 (by decide)]; exact q2.2.1 k hk) cm.so (fun h21 => by
          rw [ec] at h21
          rw [Di 10 (by decide) (by decide)]
          exact hef h21)
        rw [← sr] at F4 H4
        have w4 := c4.1 (c3.1 w2)
        obtain ⟨G5, ar5, s5, μ5, e5, F5, H5, c5⟩ := c_rtL n (ret := ret + 1) (fu := fu) F4 H4 w4 (rib ht) (by rw [rf.1 16 (by decide) (by decide) (by decide) (by decide) (by decide) (by decide) (by decide) (by decide) (by decide)]; omega) (by rw [rf.2.1]; omega) (by omega)
        refine ⟨G5, ar5, s5, μ5, ?_, F5, H5, (((c2.trans c3).trans c4).trans c5).mono (by omega) (by omega)⟩
        have k3 := F3.1
        unfold SC at k3
        simp only [cl_t e3, k3, ckT, cl_t e4, nI_1, e5]
      · have w12 : ¬ nI (x.1 12) = 0 := by
          have t5 : x.1 12 ≤ 5 := by
            rw [cm.2.2.1]
            split
            · exact Nat.le_refl _
            · exact tpV_le _ _ _ _
          exact nIne (n := 0) (by omega) (by omega) ht
        rw [if_neg w12, if_pos ht]
        obtain ⟨s3, μ3, e3, F3, H3, c3⟩ := c_takeTrap (a := G 1 0) (x := x) F2 H2' w2 zT (by rw [tf.1 10 (by decide)]; exact hn10) (by rw [tf.1 1 (by decide)]; exact l1) ka2 re2'.2.1 (by rw [tf.1 15 (by decide)]; exact ho.1)
        rw [sd]
        have k3 := F3.1
        unfold SC at k3
        have ib := tib ht
        by_cases r0 : ret = 0
        · have z0 : ¬ ¬ nI ret = 0 := by rw [r0]; exact fun z => z rfl
          rw [if_pos r0]
          have lz : f_X10_indexOfReason 116 μ3 = some (nI 1) := by
            rw [c_idxL F3.2.2.1.2.1]
            rfl
          obtain ⟨μ4, e4, F4, H4, c4, -⟩ := c_lose (c := 116) (i := 1) F3 H3 (by omega) lz
          exact ⟨_, _, _, μ4, by simp only [f_X0_doRetiring_b100, k2, ckT, cl_t e3, z0, if_false, k3, bdS, cl_t e4], F4, H4, ((c2.trans c3).trans c4).mono (by omega) (by omega)⟩
        · have z0 : ¬ nI ret = 0 := nIne (n := 0) (by omega) (by omega) r0
          rw [if_neg r0]
          exact ⟨_, _, _, μ3, by simp only [f_X0_doRetiring_b100, k2, ckT, cl_t e3, z0, not_false_eq_true, if_true], F3, H3, (c2.trans c3).mono (by omega) (by omega)⟩
theorem c_retires (h : FR b z A μ) (hh : HR b z A (fun _ => 0) G ar s μ) (w : WF μ) (q : IV A) (h14 : aS A 14 ≤ 1999) : ∃ G' ar' s' μ', f_X0_doRetiring (b + 1) μ = some ((), μ') ∧ FR b z (retires A) μ' ∧ HR b z (retires A) (fun _ => 0) G' ar' s' μ' ∧ CK 9 12400 μ μ' := by
  obtain ⟨q1, q2, -⟩ := id q.1
  have hw := q1.1
  have k0 := h.1
  unfold SC at k0
  have bb := q2.2.2.2.2.2.2.1
  have z38 := zb1 bb.2.1
  have z39 := zb1 bb.2.2
  have i14 : mI μ (b + 1) 14 = nI (aS A 2) := h.2.1.1 2 rfl
  have i15 : mI μ (b + 1) 15 = nI (aS A 3) := h.2.1.1 3 rfl
  have i34 : mI μ (b + 3) 4 = aV A 0 1 := h.2.1.2.2 0 1 (by decide) (by decide)
  have go : f_X0_doRetiring (b + 1) μ = f_X0_doRetiring_b30 (b + 1) μ → ¬ (aS A 2 ≠ 0 ∧ aS A 3 = 0 ∧ aV A 0 1 ≠ -1) → ∃ G' ar' s' μ', f_X0_doRetiring (b + 1) μ = some ((), μ') ∧ FR b z (retires A) μ' ∧ HR b z (retires A) (fun _ => 0) G' ar' s' μ' ∧ CK 9 12400 μ μ' := fun ee hn => by
    obtain ⟨G', ar', s', μ', e, F, H, c⟩ := c_rtL (aS A 16) (ret := 0) (fu := 5000) h hh w q (Nat.zero_add _) (by omega) (by omega)
    refine ⟨G', ar', s', μ', ee.trans e, ?_, ?_, c.mono (by omega) (by omega)⟩
    · unfold retires
      rw [if_neg hn]
      exact F
    · unfold retires
      rw [if_neg hn]
      exact H
  by_cases a2 : aS A 2 = 0
  · have e38 : zb (nI (aS A 2)) = 0 := by rw [z38]; exact a2
    exact go (by simp only [f_X0_doRetiring, k0, ckT, i14, e38, if_true]) (fun z => z.1 a2)
  have e38 : ¬ zb (nI (aS A 2)) = 0 := by rw [z38]; exact a2
  by_cases a3 : aS A 3 = 0
  · have e39 : ¬ ¬ zb (nI (aS A 3)) = 0 := by rw [z39]; exact fun z => z a3
    by_cases ah : aV A 0 1 = -1
    · exact go (by simp only [f_X0_doRetiring, k0, ckT, i14, e38, i15, e39, bdS, i34, ah, if_true, if_false]) (fun z => z.2.2 ah)
    · obtain ⟨G', ar', s', μ', e, F, H, c⟩ := c_intr h hh w q (fun _ _ => rfl) (by omega) ah
      have E : retires A = intr A := if_pos ⟨a2, a3, ah⟩
      rw [E]
      exact ⟨G', ar', s', μ', by simp only [f_X0_doRetiring, k0, ckT, i14, e38, i15, e39, bdS, i34, ah, if_false, cl_t e], F, H, c.mono (by omega) (by omega)⟩
  · have e39 : ¬ zb (nI (aS A 3)) = 0 := by rw [z39]; exact a3
    exact go (by simp only [f_X0_doRetiring, k0, ckT, i14, e38, i15, e39, not_false_eq_true, if_true, if_false]) (fun z => a3 z.2.1)
end CRX
