section RETJ
variable {A B : Sx}
theorem lose_ib {i : Nat} (q : IB A) (f : IF A) : IB (lose A i) ∧ IF (lose A i) := by
  have hSt : St A (lose A i) := St.zN0 (Or.inr (Or.inr rfl))
  refine ⟨?_, hSt.if_ ⟨rfl, rfl, rfl, rfl, rfl⟩ f (fun k _ => suc_eq hSt.P _)⟩
  have := hSt.ibe q (Nat.le_refl _) (zN_ne _ _ _ (by decide)) (fun k hk => by rw [show aN (lose A i) 5 = aN A 5 from zN_ne _ _ _ (by decide)]; exact q.2.1.2.2.2.2.2.1 k hk) rfl rfl rfl
  exact this
theorem adok_h {h : Int32} (h0 : h ≠ -1) (h1 : h = -1 ∨ adok h = true) : h = nI h.toNatClampNeg ∧ h.toNatClampNeg < 64 := adok_e (h1.resolve_left h0)
/-- an interrupt is taken -/
theorem intr_ib (q : IB A) (h1 : aS A 1 = 0) (h2 : aV A 0 1 ≠ -1) : IB (intr A) ∧ IF (intr A) := by
  obtain ⟨q1, q2, q3, q4, q5, q6, q7, q8, q9, q10, q11, q12, q13, q14, q15⟩ := id q
  obtain ⟨hh, h64⟩ := adok_h h2 (q1.2.2.2.2.2.2 1 (by decide))
  obtain ⟨C, hC⟩ : ∃ C, C = zS (zS (zS (zS (tell A 9 (aS A 5) 0 0 0 0 (-1)) 2 0) 3 1) 4 (aS A 5)) 5 (aV A 0 1).toNatClampNeg := ⟨_, rfl⟩
  have cS : ∀ i, i ≠ 2 → i ≠ 3 → i ≠ 4 → i ≠ 5 → i ≠ 14 → aS C i = aS A i := fun i a b c d e => by
    rw [hC, zS_ne _ _ d, zS_ne _ _ c, zS_ne _ _ b, zS_ne _ _ a]
    exact zS_ne _ _ e
  have cN : ∀ r, r < 14 → aN C r = aN A r := fun r h => by
    rw [hC]
    unfold tell
    simp [zS_, zN_, zV_, up2_if, show r ≠ 14 by omega, show r ≠ 15 by omega, show r ≠ 20 by omega, show r ≠ 21 by omega, show r ≠ 22 by omega, show r ≠ 23 by omega]
  have cV : ∀ r, r < 8 → aV C r = aV A r := fun r h => by
    rw [hC]
    unfold tell
    simp [zS_, zN_, zV_, up2_if, show r ≠ 8 by omega]
  have cB : aB C = aB A := by rw [hC]; rfl
  have cQ : aQ C = aQ A := by rw [hC]; rfl
  have c14 : aS C 14 = aS A 14 + 1 := by rw [hC]; rfl
  have n14 : aN C 14 = up1 (aN A 14) (aS A 14) 9 := by rw [hC]; rfl
  have n15 : aN C 15 = up1 (aN A 15) (aS A 14) (aS A 5) := by rw [hC]; rfl
  have c3 : aS C 3 = 1 := by rw [hC]; rfl
  have c4 : aS C 4 = aS A 5 := by rw [hC]; rfl
  have c5 : aS C 5 = (aV A 0 1).toNatClampNeg := by rw [hC]; rfl
  have c2 : aS C 2 = 0 := by rw [hC]; rfl
  have hz : IBz C := IBz.cg q.z (fun i hi => cS i (by omega) (by omega) (by omega) (by omega) (by omega)) (fun r hr _ => cN r hr) (fun r hr => cV r (by omega)) cB cQ (by rw [cS 1 (by decide) (by decide) (by decide) (by decide) (by decide), c2, c3, c4, c5]; have := q2.2.2.2.2.2.2.2.1; omega)
  have hP : SamP A C := ⟨fun r a b => cN r b, cV 5 (by decide)⟩
  obtain ⟨en, hpa⟩ := q12.more (by omega) hP (cS 15 (by decide) (by decide) (by decide) (by decide) (by decide)) (cV 0 (by decide)) (cV 6 (by decide)) (cV 7 (by decide)) c14 n14 n15 q11.2.2.1 (by unfold plK; rw [if_pos rfl]; rfl) (by decide) (fun z => absurd rfl z)
  have plm : PL C := by
    unfold PL
    rw [hpa, cN 1 (by decide), cV 1 (by decide), cV 2 (by decide), c3, c4, c5]
    unfold plN
    rw [if_pos rfl]
    exact ⟨q11.1, q11.2.1, rfl, rfl, q11.2.2.1⟩
  obtain ⟨t1, t2, t3, t4, t5, t6, t7, t8⟩ := throwF_f C (Nat.zero_le _)
  have c9 : aS C 9 = aS A 9 := cS 9 (by decide) (by decide) (by decide) (by decide) (by decide)
  have hz0 : IBz (zS C 10 0) := IBz.cg hz (fun i hi => zS_ne _ _ (by omega)) (fun _ _ _ => rfl) (fun _ _ => rfl) rfl rfl (by
    rw [zS_ne _ _ (by decide), zS_ne _ _ (by decide), zS_ne _ _ (by decide), zS_ne _ _ (by decide), zS_ne _ _ (by decide)]
    exact hz.2.1.2.2.2.2.2.2)
  have hzt : IBz (throwF C 0) := hz0.thrN _ (by rw [zS_ne _ _ (by decide)]; omega)
  have hPt : SamP C (throwF C 0) := ⟨fun r a b => t4 r (by omega) (by omega), by rw [t5]⟩
  have hplt : ∀ e, plA (throwF C 0) e = plA C e := fun e => plA_congr hPt (by rw [t5]) (by rw [t5]) (by rw [t5]) (t1 15 (by decide) (by decide) (by decide) (by decide)) (fun i _ => by rw [t4 14 (by decide) (by decide)])
  have hib : IB (throwF C 0) := hzt.ib t2 (by
    unfold PL at plm ⊢
    rw [t1 14 (by decide) (by decide) (by decide) (by decide), hplt, t5, t4 1 (by decide) (by decide), t1 5 (by decide) (by decide) (by decide) (by decide), t1 3 (by decide) (by decide) (by decide) (by decide), t1 4 (by decide) (by decide) (by decide) (by decide)]
    exact plm) (fun e he => by
    rw [t1 14 (by decide) (by decide) (by decide) (by decide)] at he
    rw [t4 15 (by decide) (by decide), t4 14 (by decide) (by decide), hplt, plK_congr hPt (t1 15 (by decide) (by decide) (by decide) (by decide)), t4 10 (by decide) (by decide), t5, t1 1 (by decide) (by decide) (by decide) (by decide), t1 14 (by decide) (by decide) (by decide) (by decide)]
    exact en e he)
  have e : intr A = lose (goOn (throwF C 0) (aV A 0 1).toNatClampNeg []) 0 := by rw [hC]; rfl
  rw [e]
  refine lose_ib (IBp.go hib (Nat.le_refl _)) (IF.go t3 (by rw [t1 1 (by decide) (by decide) (by decide) (by decide), cS 1 (by decide) (by decide) (by decide) (by decide) (by decide)]; omega) ?_ (by omega) ⟨by decide, fun x hx => nomatch hx⟩ (fun k hk => absurd hk (by rw [t2]; exact Nat.not_lt_zero _)))
  rw [t2]
  show _ = aS (throwF C 0) 5
  rw [t1 5 (by decide) (by decide) (by decide) (by decide), c5]
theorem canLv_e (h : canLv A = true) : aS A 1 = 0 ∧ 0 < aS A 9 ∧ (aB A 0).1 10 = 101 := by
  unfold canLv at h
  simp only [Bool.and_eq_true, decide_eq_true_eq] at h
  exact ⟨h.1.1.1, h.1.1.2, h.1.2⟩
/-- a trap is taken -/
theorem trapIt_ib (q : IB A) (hl : canLv A = true) (ht : (aB A 0).1 12 ≠ 0) : IB (trapIt (tellE A (aB A 0) ((aB A 0).1 12)) (aB A 0)) ∧ IF (trapIt (tellE A (aB A 0) ((aB A 0).1 12)) (aB A 0)) := by
  obtain ⟨h1, hk, hs⟩ := canLv_e hl
  obtain ⟨p1, p2, p3, p4, p5⟩ := plain_at q hk (by omega)
  obtain ⟨q1, q2, q3, q4, q5, q6, q7, q8, q9, q10, q11, q12, q13, q14, q15⟩ := id q
  have ht5 : (aB A 0).1 12 ≤ 5 := by
    rw [p5]
    unfold plT tpV
    dsimp only
    repeat' split
    all_goals omega
  obtain ⟨C, hC⟩ : ∃ C, C = tellE A (aB A 0) ((aB A 0).1 12) := ⟨_, rfl⟩
  rw [← hC]
  obtain ⟨c1, c2, c3, c4, c5, c6, c7, c8, c9, c10⟩ := tellE_f A (aB A 0) ((aB A 0).1 12)
  rw [← hC] at c1 c2 c3 c4 c5 c6 c7 c8 c9 c10
  have hz : IBz C := IBz.cg q.z (fun i hi => c1 i (by omega)) (fun r hr _ => c3 r hr) (fun r hr => c6 r (by omega)) c7 c10 (by
    rw [c1 1 (by decide), c1 2 (by decide), c1 3 (by decide), c1 4 (by decide), c1 5 (by decide)]
    exact q2.2.2.2.2.2.2)
  have hz0 : IBz (zS C 10 0) := IBz.cg hz (fun i hi => zS_ne _ _ (by omega)) (fun _ _ _ => rfl) (fun _ _ => rfl) rfl rfl (by
    rw [zS_ne _ _ (by decide), zS_ne _ _ (by decide), zS_ne _ _ (by decide), zS_ne _ _ (by decide), zS_ne _ _ (by decide)]
    exact hz.2.1.2.2.2.2.2.2)
  have hzt : IBz (throwF C 0) := hz0.thrN _ (by rw [zS_ne _ _ (by decide)]; omega)
  obtain ⟨t1, t2, t3, t4, t5, t6, t7, t8⟩ := throwF_f C (Nat.zero_le _)
  have b1 : ∀ i, i ≠ 7 → i ≠ 9 → i ≠ 10 → i ≠ 14 → i ≠ 21 → aS (throwF C 0) i = aS A i := fun i a b c d e => (t1 i a b e c).trans (c1 i d)
  have hP : SamP A (throwF C 0) := ⟨fun r a b => (t4 r (by omega) (by omega)).trans (c3 r (by omega)), by rw [t5, c6 5 (by decide)]⟩
  have plk : nI ((aB A 0).1 12) = plK A (plA A (aS A 14)) ((aB A 0).1 12) := by
    unfold plK
    rw [if_neg (by omega), if_neg (by rw [← p1]; omega), p5]
  unfold trapIt
  dsimp only
  have b3 : aS C 3 = aS A 3 := c1 3 (by decide)
  have b0 : aV C 0 = aV A 0 := c6 0 (by decide)
  rw [b3, b0]
  have hpN : plN A (plA A (aS A 14)) ((aB A 0).1 12) = (if (plA A (aS A 14)).2.2 1 = 0 ∧ aV A 0 0 ≠ -1 then ((plA A (aS A 14)).1, (plA A (aS A 14)).2.1, up1 (up1 (up1 (plA A (aS A 14)).2.2 2 ((plA A (aS A 14)).2.2 0 + 1)) 1 1) 0 (aV A 0 0).toNatClampNeg) else plA A (aS A 14)) := by
    unfold plN
    rw [if_neg (by omega), if_neg (by rw [← p1]; omega), if_pos (by rw [← p5]; exact ht)]
  by_cases hst : aS A 3 ≠ 0 ∨ aV A 0 0 = -1
  · rw [if_pos hst]
    obtain ⟨D, hD⟩ : ∃ D, D = zS (zT (zS (throwF C 0) 12 1) []) 1 1 := ⟨_, rfl⟩
    rw [← hD]
    have d1 : ∀ i, i ≠ 1 → i ≠ 12 → aS D i = aS (throwF C 0) i := fun i a b => by rw [hD, zS_ne _ _ a]; exact zS_ne _ _ b
    have dN : aN D = aN (throwF C 0) := by rw [hD]; rfl
    have dV : aV D = aV (throwF C 0) := by rw [hD]; rfl
    have dB : aB D = aB (throwF C 0) := by rw [hD]; rfl
    have dQ : aQ D = aQ (throwF C 0) := by rw [hD]; rfl
    have d01 : aS D 1 = 1 := by rw [hD]; rfl
    have d12 : aS D 12 = 1 := by rw [hD]; rfl
    have hzd : IBz D := IBz.cg hzt (fun i hi => d1 i (by omega) (by omega)) (fun _ _ _ => by rw [dN]) (fun _ _ => by rw [dV]) dB dQ (by
      rw [d01, d1 2 (by decide) (by decide), d1 3 (by decide) (by decide), d1 4 (by decide) (by decide), d1 5 (by decide) (by decide)]
      exact ⟨⟨by omega, hzt.2.1.2.2.2.2.2.2.1.2⟩, hzt.2.1.2.2.2.2.2.2.2⟩)
    have hPD : SamP A D := ⟨fun r a b => by rw [dN]; exact hP.1 r a b, by rw [dV]; exact hP.2⟩
    obtain ⟨en, hpa⟩ := q12.more (B := D) (by omega) hPD (by rw [d1 15 (by decide) (by decide)]; exact b1 15 (by decide) (by decide) (by decide) (by decide) (by decide)) (by rw [dV, t5]; exact b0) (by rw [dV, t5]; exact c6 6 (by decide)) (by rw [dV, t5]; exact c6 7 (by decide)) (by rw [d1 14 (by decide) (by decide), t1 14 (by decide) (by decide) (by decide) (by decide)]; exact c2) (by rw [dN, t4 14 (by decide) (by decide)]; exact c4) (by rw [dN, t4 15 (by decide) (by decide)]; exact c5) p1 plk (by omega) (fun _ _ => d01)
    have hib : IB D := hzd.ib (by rw [d1 9 (by decide) (by decide)]; exact t2) (by
      unfold PL
      rw [hpa, hpN, if_neg (fun z => hst.elim (fun w => w (q11.2.2.2.1.trans z.1)) (fun w => z.2 w)), dV, t5, dN, t4 1 (by decide) (by decide), c3 1 (by decide), c6 1 (by decide), c6 2 (by decide), d1 5 (by decide) (by decide), d1 3 (by decide) (by decide), d1 4 (by decide) (by decide), b1 5 (by decide) (by decide) (by decide) (by decide) (by decide), b1 3 (by decide) (by decide) (by decide) (by decide) (by decide), b1 4 (by decide) (by decide) (by decide) (by decide) (by decide)]
      exact q11) en
    refine ⟨hib, ?_⟩
    have d10 : aS D 10 = 0 := by rw [d1 10 (by decide) (by decide)]; exact t3
    have d9 : aS D 9 = 0 := by rw [d1 9 (by decide) (by decide)]; exact t2
    have dT : aT D = [] := by rw [hD]; rfl
    unfold IF
    rw [d10, d9, d12, dT]
    refine ⟨by omega, ⟨by decide, fun x hx => nomatch hx⟩, by omega, fun j hj => absurd hj (Nat.not_lt_zero _), fun i j _ hj => absurd hj (Nat.not_lt_zero _), fun k j hk _ => absurd hk (Nat.not_lt_zero _), fun h => absurd h (Nat.lt_irrefl _), fun j hj => absurd hj (Nat.not_lt_zero _), fun h => by omega, fun h => by omega, fun k hk => absurd hk (Nat.not_lt_zero _), fun j hj => absurd hj (Nat.not_lt_zero _), fun _ => ⟨rfl, rfl, rfl⟩⟩
  · rw [if_neg hst]
    have hst' : aS A 3 = 0 ∧ aV A 0 0 ≠ -1 := ⟨Classical.byContradiction fun z => hst (Or.inl z), fun z => hst (Or.inr z)⟩
    obtain ⟨hh, h64⟩ := adok_h hst'.2 (q1.2.2.2.2.2.2 0 (by decide))
    obtain ⟨D, hD⟩ : ∃ D, D = zS (zS (zS (throwF C 0) 4 ((aB A 0).1 0 + 1)) 3 1) 5 (aV A 0 0).toNatClampNeg := ⟨_, rfl⟩
    rw [← hD]
    have d1 : ∀ i, i ≠ 3 → i ≠ 4 → i ≠ 5 → aS D i = aS (throwF C 0) i := fun i a b c => by rw [hD, zS_ne _ _ c, zS_ne _ _ a, zS_ne _ _ b]
    have dN : aN D = aN (throwF C 0) := by rw [hD]; rfl
    have dV : aV D = aV (throwF C 0) := by rw [hD]; rfl
    have dB : aB D = aB (throwF C 0) := by rw [hD]; rfl
    have dQ : aQ D = aQ (throwF C 0) := by rw [hD]; rfl
    have d3 : aS D 3 = 1 := by rw [hD]; rfl
    have d4 : aS D 4 = (aB A 0).1 0 + 1 := by rw [hD]; rfl
    have d5 : aS D 5 = (aV A 0 0).toNatClampNeg := by rw [hD]; rfl
    have hp64 : (aB A 0).1 0 < 64 := (q1.p p2).1
    have hzd : IBz D := IBz.cg hzt (fun i hi => d1 i (by omega) (by omega) (by omega)) (fun _ _ _ => by rw [dN]) (fun _ _ => by rw [dV]) dB dQ (by
      rw [d1 1 (by decide) (by decide) (by decide), d1 2 (by decide) (by decide) (by decide), d3, d4, d5]
      have := hzt.2.1.2.2.2.2.2.2.1
      omega)
    have hPD : SamP A D := ⟨fun r a b => by rw [dN]; exact hP.1 r a b, by rw [dV]; exact hP.2⟩
    obtain ⟨en, hpa⟩ := q12.more (B := D) (by omega) hPD (by rw [d1 15 (by decide) (by decide) (by decide)]; exact b1 15 (by decide) (by decide) (by decide) (by decide) (by decide)) (by rw [dV, t5]; exact b0) (by rw [dV, t5]; exact c6 6 (by decide)) (by rw [dV, t5]; exact c6 7 (by decide)) (by rw [d1 14 (by decide) (by decide) (by decide), t1 14 (by decide) (by decide) (by decide) (by decide)]; exact c2) (by rw [dN, t4 14 (by decide) (by decide)]; exact c4) (by rw [dN, t4 15 (by decide) (by decide)]; exact c5) p1 plk (by omega) (fun _ z => by
      rcases z with z | ⟨-, z | z⟩
      · have e21 : (aB A 0).1 12 = 0 := by
          rw [p5]
          unfold plT
          dsimp only
          rw [← p1, z]
          rfl
        exact absurd e21 ht
      · exact absurd (q11.2.2.2.1.symm.trans hst'.1) z
      · exact absurd z hst'.2)
    have hib : IB D := hzd.ib (by rw [d1 9 (by decide) (by decide) (by decide)]; exact t2) (by
      unfold PL
      rw [hpa, hpN, if_pos ⟨q11.2.2.2.1.symm.trans hst'.1, hst'.2⟩, dV, t5, dN, t4 1 (by decide) (by decide), c3 1 (by decide), c6 1 (by decide), c6 2 (by decide), d3, d4, d5]
      exact ⟨q11.1, q11.2.1, rfl, rfl, by rw [p1]; rfl⟩) en
    refine ⟨IBp.go hib (Nat.le_refl _), IF.go (by rw [d1 10 (by decide) (by decide) (by decide)]; exact t3) (by rw [d1 1 (by decide) (by decide) (by decide), b1 1 (by decide) (by decide) (by decide) (by decide) (by decide)]; omega) ?_ (by omega) ⟨by decide, fun x hx => nomatch hx⟩ (fun k hk => absurd hk (by rw [d1 9 (by decide) (by decide) (by decide), t2]; exact Nat.not_lt_zero _))⟩
    rw [d1 9 (by decide) (by decide) (by decide), t2]
    exact d5.symm
theorem trap1_ib {ret : Nat} (q : IB A) (hl : canLv A = true) (ht : (aB A 0).1 12 ≠ 0) : IB (trap1 A ret) ∧ IF (trap1 A ret) := by
  obtain ⟨h1, h2⟩ := trapIt_ib q hl ht
  unfold trap1
  dsimp only
  split
  · exact lose_ib h1 h2
  · exact ⟨h1, h2⟩
end RETJ
