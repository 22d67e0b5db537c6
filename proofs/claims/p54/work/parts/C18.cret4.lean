/-! THE CLASS: a cycle's retiring -/
section CRR
variable {b z e sl : Nat} {m m' : Nat → Nat} {A A' B C D : Sx} {P : Pm} {G : Nat → Nat → Nat} {ar : Nat → Nat} {s : Nat} {μ μ' μ2 : Mm} {S : Nat → Nat → Bool}
theorem c_intr (h : FR b z A μ) (hh : HR b z A m G ar s μ) (w : WF μ) (q : IV A) (hm : ∀ k, k < aS A 9 → m k = 0) (h14 : aS A 14 < 2004) (ah : aV A 0 1 ≠ -1) : ∃ G' ar' s' μ', f_X0_takeInterrupt (b + 1) μ = some ((), μ') ∧ FR b z (intr A) μ' ∧ HR b z (intr A) (fun _ => 0) G' ar' s' μ' ∧ CK 4 3105 μ μ' := by
  have k0 := h.1
  unfold SC at k0
  obtain ⟨q1, q2, q3, q4, q5, q6, q7, q8, q9, q10, q11, -⟩ := id q.1
  have hn9 : aS A 9 ≤ 16 := by have := q2.1; have := q1.2.1; omega
  have hn10 : aS A 10 ≤ 8 := by have := q.2.1; have := q1.1; omega
  have bb := q2.2.2.2.2.2.2.1
  have b54 := q2.2.2.2.2.2.2.2
  obtain ⟨v1, v2⟩ := adok_h ah (q1.2.2.2.2.2.2 1 (by decide))
  obtain ⟨g, hg⟩ : ∃ g, g = (aV A 0 1).toNatClampNeg := ⟨_, rfl⟩
  rw [← hg] at v1
  -- the life
  obtain ⟨μ1, e1, n1, N1, S1, K1, L1, I1⟩ := c_newLife (μ := μ)
  have F1 := h.nf w n1
  have H1 := hh.nf h.1 w n1
  have c1 := n1.ck (e := 1) (sl := 5) (by omega) (by omega)
  have w1 := n1.1 w
  have lB : ∀ k, k < aS A 9 → mN μ ≠ G 1 k + 1 := fun k hk hz => by
    have := w.lt (a := G 1 k + 1) (by rw [(hh.2.2.2.1 k hk).2.2.2.2.1]; decide)
    omega
  have lL : ∀ j, j < aS A 10 → mN μ ≠ G 2 j + 1 := fun j hj hz => by
    have := w.lt (a := G 2 j + 1) (by rw [(hh.2.2.2.2.1 j hj).2.2.2.2.1]; decide)
    omega
  obtain ⟨G', ar', μ2, e2, F2, H2', c2, x2, g1, g2⟩ := c_addEnd (P := plA A (aS A 14)) (kd := 9) (pl := aS A 5) (f := 0) (r := 0) (g := 0) (ee := 0) (bg := -1) (q := mN μ) (m' := fun _ => 0) F1 H1 w1 q1 h14 rfl q11.2.2.1 (by rw [← q11.2.2.1]; omega) (by rw [← q11.2.2.2.1]; omega) (by rw [← q11.2.2.2.2]; omega) (Or.inl ⟨rfl, ah⟩) K1 L1 (fun a => absurd rfl a) (fun _ => I1) (fun k hk => ⟨Or.inl (hm k hk).symm, fun _ => lB k hk⟩) lL
  obtain ⟨t1, t2, t3, t4, t5, t6, t7, t8, -⟩ := tell_f A 9 (aS A 5) 0 0 0 0 (-1)
  obtain ⟨T, hT⟩ : ∃ T, T = tell A 9 (aS A 5) 0 0 0 0 (-1) := ⟨_, rfl⟩
  rw [← hT] at F2 H2' t1 t2 t3 t4 t5 t6 t7 t8
  -- the numbers
  obtain ⟨F3, H3, c3, x3⟩ := c_put (i := 2) (n := 0) F2 H2' rfl (by decide) rfl
  obtain ⟨F4, H4, c4, x4⟩ := c_put (i := 3) (n := 1) F3 H3 rfl (by decide) rfl
  obtain ⟨F5, H5, c5, x5⟩ := c_put (i := 4) (n := aS A 5) F4 H4 rfl (by decide) rfl
  obtain ⟨F6, H6, c6, x6⟩ := c_put (i := 5) (n := g) F5 H5 rfl (by decide) rfl
  obtain ⟨D, hD⟩ : ∃ D, D = zS (zS (zS (zS T 2 0) 3 1) 4 (aS A 5)) 5 g := ⟨_, rfl⟩
  rw [← hD] at F6 H6
  obtain ⟨μ6, m6⟩ : ∃ μ6, μ6 = sI (sI (sI (sI μ2 (b + 1) 14 0) (b + 1) 15 1) (b + 1) 16 (nI (aS A 5))) (b + 1) 17 (nI g) := ⟨_, rfl⟩
  rw [show sI (sI (sI (sI μ2 (b + 1) 14 (nI 0)) (b + 1) 15 (nI 1)) (b + 1) 16 (nI (aS A 5))) (b + 1) 17 (nI g) = μ6 from m6.symm] at F6 H6 c6 x6
  have Di : ∀ i, i ≠ 2 → i ≠ 3 → i ≠ 4 → i ≠ 5 → i ≠ 14 → aS D i = aS A i := fun i a1 a2 a3 a4 a5 => by
    rw [hD, zS_ne _ _ a4, zS_ne _ _ a3, zS_ne _ _ a2, zS_ne _ _ a1, t1 i a5]
  have w6 : WF μ6 := c6.1 (c5.1 (c4.1 (c3.1 (c2.1 w1))))
  have zD : IBz D := q.1.z.cg (fun i hi => Di i (by omega) (by omega) (by omega) (by omega) (by omega)) (fun r hr _ => by rw [hD]; exact t3 r hr) (fun r hr => by rw [hD]; exact t4 r (by omega)) (by rw [hD]; exact t5) (by rw [hD]; exact t8) (by
    rw [Di 1 (by decide) (by decide) (by decide) (by decide) (by decide)]
    have d2 : aS D 2 = 0 := by rw [hD, zS_ne _ _ (by decide), zS_ne _ _ (by decide), zS_ne _ _ (by decide)]; exact zS_at _ _ _
    have d3 : aS D 3 = 1 := by rw [hD, zS_ne _ _ (by decide), zS_ne _ _ (by decide)]; exact zS_at _ _ _
    have d4 : aS D 4 = aS A 5 := by rw [hD, zS_ne _ _ (by decide)]; exact zS_at _ _ _
    have d5 : aS D 5 = g := by rw [hD]; exact zS_at _ _ _
    rw [d2, d3, d4, d5]
    have := q2.2.2.2.2.2.2.2
    exact ⟨⟨bb.1, by omega, by omega⟩, by omega, by omega⟩)
  obtain ⟨μ7, e7, F7, H7, c7, x7⟩ := c_throwF (at_ := 0) F6 H6 w6 zD (by rw [Di 10 (by decide) (by decide) (by decide) (by decide) (by decide)]; exact hn10) (Nat.zero_le _)
  have e7' : f_X0_throwAwayFrom (b + 1) 0 μ6 = some ((), μ7) := e7
  obtain ⟨f1, f2, f3, f4, f5, f6, f7, f8⟩ := throwF_f D (n := 0) (Nat.zero_le _)
  obtain ⟨E, hE⟩ : ∃ E, E = throwF D 0 := ⟨_, rfl⟩
  rw [← hE] at F7 H7 f1 f2 f3 f4 f5 f6 f7 f8
  have w7 := c7.1 w6
  -- the empty stack
  obtain ⟨n8, sk⟩ := c_noStk (μ := μ7)
  obtain ⟨N, hN⟩ : ∃ N, N = mN μ7 := ⟨_, rfl⟩
  obtain ⟨μ8, m8⟩ : ∃ μ8, μ8 = nw μ7 41 0 0 := ⟨_, rfl⟩
  rw [← m8] at n8 sk
  rw [← hN] at sk
  have F8 := F7.nf w7 n8
  have H8 := H7.nf F7.1 w7 n8
  have c8 := n8.ck (e := 1) (sl := 0) (by rw [m8]; exact Nat.le_refl _) (by rw [m8]; exact Nat.le_refl _)
  obtain ⟨μ9, e9, F9, H9, c9, x9⟩ := c_goOn (p := g) F8 H8 sk
  have G9 : aS (goOn E g []) 9 = 0 := by
    show aS (zS (zS E 11 g) 12 0) 9 = 0
    rw [zS_ne _ _ (by decide), zS_ne _ _ (by decide)]
    exact f2
  have lz := c_idxL (c := 105) (μ := μ9) F9.2.2.1.2.1
  rw [if_pos rfl] at lz
  obtain ⟨μ10, e10, F10, H10, c10, x10⟩ := c_lose (c := 105) (i := 0) F9 H9 (by omega) lz
  have E0 : intr A = lose (goOn E g []) 0 := by
    rw [hE, hD, hT, hg]
    rfl
  rw [E0]
  refine ⟨G', ar', N, μ10, ?_, F10, H10.no9 G9, ((((((((c1.trans c2).trans c3).trans c4).trans c5).trans c6).trans c7).trans c8).trans (c9.trans c10)).mono (by omega) (by omega)⟩
  have k1 := F1.1
  unfold SC at k1
  have k2 := F2.1
  unfold SC at k2
  have k6 := F6.1
  unfold SC at k6
  have k7 := F7.1
  unfold SC at k7
  have k8 := F8.1
  unfold SC at k8
  have k9 := F9.1
  unfold SC at k9
  have i17 : mI μ (b + 1) 17 = nI (aS A 5) := h.2.1.1 5 rfl
  have i17' : ∀ {v u : Int32}, mI (sI (sI μ2 (b + 1) 14 u) (b + 1) 15 v) (b + 1) 17 = nI (aS A 5) := fun {v u} => by
    rw [mI_ne _ _ (Or.inr (by decide)), mI_ne _ _ (Or.inr (by decide))]
    have := F2.2.1.1 5 rfl
    rw [t1 5 (by decide)] at this
    exact this
  have i34 : ∀ {v u y : Int32}, mI (sI (sI (sI μ2 (b + 1) 14 u) (b + 1) 15 v) (b + 1) 16 y) (b + 3) 4 = nI g := fun {v u y} => by
    rw [mI_row _ _ (by omega), mI_row _ _ (by omega), mI_row _ _ (by omega)]
    have : mI μ2 (b + 3) 4 = aV T 0 1 := F2.2.1.2.2 0 1 (by decide) (by decide)
    rw [this, t4 0 (by decide)]
    exact v1
  have i177 : mI μ7 (b + 1) 17 = nI g := by
    have := F7.2.1.1 5 rfl
    rw [f1 5 (by decide) (by decide) (by decide) (by decide), hD, zS_at] at this
    exact this
  have sm : ∀ x : Option (Unit × Mm), ck (smn 0) x = x := fun x => if_pos (by decide)
  have nw0 : nw μ7 41 (Int32.toNatClampNeg 0) (Int32.toNatClampNeg 0) = μ8 := m8.symm
  have e2' : f_X0_addEnd (b + 1) 9 (nI (aS A 5)) (mN μ) μ1 = some ((), μ2) := e2
  simp only [f_X0_takeInterrupt, k0, ckT, cl_t e1, k1, i17, cl_t e2', k2, zlS, i17', mR_sI', mK_sI, bdS, i34, ← m6, cl_t e7', k7, sm, nw0, ← hN, k8, i177, cl_t e9, k9, cl_t e10]
/-- what a cycle without a retiring loses -/
theorem c_reas (h : FR b z A μ) (hh : HR b z A m G ar s μ) (q : IB A) (hm : ∀ k, k < aS A 9 → m k = 0) : ∃ c, f_X0_reasonOfWaiting (b + 1) μ = some c ∧ f_X10_indexOfReason c μ = some (nI (reas A)) ∧ reas A < 8 := by
  have k0 := h.1
  unfold SC at k0
  have n9 : aS A 9 ≤ 16 := by have := q.2.1.1; have := q.1.2.1; omega
  have em := c_empty h.k100.2.2.1 h.sz.2.1 (by omega)
  have b0 : bI false = 0 := rfl
  have b1 : ¬ bI true = 0 := by decide
  by_cases a9 : aS A 9 = 0
  · rw [decide_eq_true a9] at em
    have lz := c_idxL (c := 102) (μ := μ) h.2.2.1.2.1
    refine ⟨102, by simp only [f_X0_reasonOfWaiting, k0, ckT, bdS, em, b1, if_false], ?_, ?_⟩
    · rw [lz]
      unfold reas
      rw [if_pos a9]
      rfl
    · unfold reas
      rw [if_pos a9]
      decide
  · rw [decide_eq_false a9] at em
    have l2 : 0 < aS A 9 := by omega
    have gb : f_Jx4a65c_get_915e3 (b + 25) 0 μ = some (G 1 0) := c_getB h hh l2 (by omega)
    obtain ⟨k1, r0, -, -, k2, -, hf⟩ := hh.2.2.2.1 0 l2
    have f5 : mI μ (G 1 0) 5 = nI ((aB A 0).1 10) := hf.2.2.2.2.1.resolve_right (fun p => by have p1 := p.1; rw [hm 0 l2] at p1; omega)
    have dy := q.2.2.2.2.2.2.1 0 l2
    have st := dy.1
    have re : reas A = why ((aB A 0).1 10) := if_neg a9
    have zz := zcN ((aB A 0).1 10) (by omega)
    have zt : zc (mI μ (G 1 0) 5) = nI ((aB A 0).1 10) := by rw [f5]; exact zz
    have zt2 : zc (nI ((aB A 0).1 10)) = nI ((aB A 0).1 10) := zz
    rw [re]
    by_cases h101 : (aB A 0).1 10 = 101
    · have w : ¬ ¬ nI ((aB A 0).1 10) = 101 := by rw [h101]; exact fun w => w rfl
      have lz := c_idxL (c := 100) (μ := μ) h.2.2.1.2.1
      refine ⟨100, by simp only [f_X0_reasonOfWaiting, k0, ckT, bdS, em, b0, if_true, gb, k1, zt, w, if_false], ?_, ?_⟩
      · rw [lz, h101]
        rfl
      · rw [h101]
        decide
    · have w : ¬ nI ((aB A 0).1 10) = 101 := nIne (n := 101) (by omega) (by omega) h101
      refine ⟨nI ((aB A 0).1 10), ?_, ?_, ?_⟩
      · have t : ∀ x : Option Int32, ck (zc (zc (mI μ (G 1 0) 5)) = (zc (mI μ (G 1 0) 5))) x = x := fun x => if_pos (by rw [zt, zt2])
        simp only [f_X0_reasonOfWaiting, k0, ckT, bdS, em, b0, if_true, gb, k1, t]
        simp only [zt, w, not_false_eq_true, if_true]
      · rw [c_idxL h.2.2.1.2.1]
        rcases st with q | q | q | q | q <;> first | (rw [q]; rfl) | omega
      · unfold why
        split
        · decide
        · split
          · decide
          · split
            · decide
            · split <;> decide
theorem c_b142 {ret : Nat} (h : FR b z A μ) (hh : HR b z A m G ar s μ) (q : IB A) (hm : ∀ k, k < aS A 9 → m k = 0) (hr : ret < 100) : ∃ μ', f_X0_doRetiring_b142 (b + 1) (nI ret) μ = some ((), μ') ∧ FR b z (if ret = 0 then lose A (reas A) else A) μ' ∧ HR b z (if ret = 0 then lose A (reas A) else A) m G ar s μ' ∧ CK 0 0 μ μ' := by
  have k0 := h.1
  unfold SC at k0
  by_cases r0 : ret = 0
  · have z0 : ¬ ¬ nI ret = 0 := by rw [r0]; exact fun z => z rfl
    obtain ⟨c, e1, e2, l8⟩ := c_reas h hh q hm
    obtain ⟨μ1, e3, F, H, c1, -⟩ := c_lose h hh l8 e2
    rw [if_pos r0]
    exact ⟨μ1, by simp only [f_X0_doRetiring_b142, z0, if_false, k0, ckT, bdS, e1, cl_t e3], F, H, c1⟩
  · have z0 : ¬ nI ret = 0 := nIne (n := 0) (by omega) (by omega) r0
    rw [if_neg r0]
    exact ⟨μ, by simp only [f_X0_doRetiring_b142, z0, not_false_eq_true, if_true], h, hh, CK.refl0⟩
end CRR
