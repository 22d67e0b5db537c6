/-! THE CLASS: a cycle's fetching -/
section CFW
variable {b z e sl : Nat} {m m' : Nat → Nat} {A A' B C D : Sx} {P : Pm} {G : Nat → Nat → Nat} {ar : Nat → Nat} {s : Nat} {μ μ' μ2 : Mm} {S : Nat → Nat → Bool}
theorem c_ft1 {v fu : Nat} (h : FR b z A μ) (hh : HR b z A (fun _ => 0) G ar s μ) (w : WF μ) (q : IV A) (hv : v < aS A 16) (h12 : aS A 12 = 0) (hl : aS A 10 < 2 * aS A 16) (hp : aS A 11 < aS A 15) (h6 : aS A 6 + 1 ≤ 2000) : ∃ (G' : Nat → Nat → Nat) (ar' : Nat → Nat) (s' : Nat) (μ' : Mm), f_X4_fetch_b3 (fu + 1) (b + 20) (b + 2) (nI (aS A 16)) (nI (aS A 0)) (nI v) μ = (if aS (ft1 A) 11 = aS A 11 + 1 then f_X4_fetch_b3 fu (b + 20) (b + 2) (nI (aS A 16)) (nI (aS A 0)) (nI (v + 1)) μ' else some ((), μ')) ∧ FR b z (ft1 A) μ' ∧ HR b z (ft1 A) (fun _ => 0) G' ar' s' μ' ∧ CK 4 70 μ μ' := by
  obtain ⟨q1, q2, -⟩ := id q.1
  have hw := q1.1
  have h15 := q1.2.2.2.2.1
  have hn10 : aS A 10 ≤ 8 := by omega
  have k0 := h.1
  unfold SC at k0
  obtain ⟨p, hpp⟩ : ∃ p, p = aS A 11 := ⟨_, rfl⟩
  have i4 : mI μ (b + 20) 4 = nI p := by rw [hpp]; exact h.2.2.2.2.2 h12
  have i5 : mI μ (b + 20) 5 = 0 := by
    have := h.2.1.1 12 rfl
    rw [h12] at this
    exact this
  rw [← hpp] at hp
  have gp := c_getP h hh hp h15
  have ins := hh.2.2.1 p hp
  have cp := q1.p hp
  have hcb : aN A 10 p < 22 := by omega
  obtain ⟨s1, μ1, e1, F1, H1, c1⟩ := c_guess h hh w q1 q2 q.2.2.1 hp
  obtain ⟨g, hg⟩ : ∃ g, g = (guessA A p).1 := ⟨_, rfl⟩
  obtain ⟨t, ht⟩ : ∃ t, t = (guessA A p).2 := ⟨_, rfl⟩
  rw [← hg] at e1
  rw [← ht] at F1 H1
  have w1 := c1.1 w
  have f11 : aS (ft1 A) 11 = g := by rw [(ft1_f A).2.2.2.1, ← hpp, hg]
  have ivF := ft1_ib q.1 q.2 h6 h12 hl (by rw [← hpp]; exact hp)
  have g64 : g ≤ 64 := by
    have lf := (ivF.2.2.2.2.1 (aS A 10) (by rw [(ft1_f A).2.2.1]; omega)).1.2.1
    rw [(ft1_f A).2.2.2.2.2.2.2.2.1, up1_eq, ← hpp] at lf
    rw [hg]
    exact lf
  obtain ⟨n, hn⟩ : ∃ n, n = if isEf (aN A 10 p) = true then 1 else 0 := ⟨_, rfl⟩
  have bn : bI (isEf (aN A 10 p)) = nI n := by
    rw [hn]
    cases isEf (aN A 10 p) <;> rfl
  -- place, halted
  obtain ⟨μ3, m3⟩ : ∃ μ3, μ3 = sI (sI μ1 (b + 20) 4 (nI g)) (b + 20) 5 (nI n) := ⟨_, rfl⟩
  obtain ⟨C, hC⟩ : ∃ C, C = zS (zS (zT A t) 11 g) 12 n := ⟨_, rfl⟩
  have Ci : ∀ i, i ≠ 11 → i ≠ 12 → aS C i = aS A i := fun i a c => by rw [hC, zS_ne _ _ c, zS_ne _ _ a]; rfl
  have g3 : CH b (fun o _ => o == 20) μ1 μ3 := by rw [m3]; exact (CH.put rfl).trans (CH.put rfl)
  have T3 : RT cT b C μ3 := by
    have t1 : RT cT b (zT A t) (sI μ1 (b + 20) 4 (nI g)) := F1.2.1.off (o := 20) (k := 4) _ (by decide +kernel)
    have t2 := t1.putS cT_ok (i := 12) rfl n
    rw [m3, hC]
    refine t2.cg (fun i hi => ?_) (fun _ _ _ _ => rfl) (fun _ _ _ _ => rfl)
    have i11 : i ≠ 11 := fun q => by rw [q] at hi; cases hi
    by_cases e : i = 12
    · rw [e, zS_at, zS_at]
    · rw [zS_ne _ _ e, zS_ne _ _ i11, zS_ne _ _ e]
  have sfx : ∀ o k, (fun o (_ : Nat) => o == 20) o k = true → o < 30 ∧ o ≠ 24 := fun o k zz => by
    simp only [beq_iff_eq] at zz
    omega
  have pe : plA C (aS C 14) = plA (zT A t) (aS (zT A t) 14) := by
    rw [hC]
    exact (plS (zS (zT A t) 11 g) (i := 12) (n := n) (by decide) (by decide)).trans (plS (zT A t) (i := 11) (n := g) (by decide) (by decide))
  have F3 : FR b z C μ3 := F1.front (A' := C) g3.1 g3.2.1 (fun a ha => by rw [m3, mI_row _ _ ha, mI_row _ _ ha]) (fun _ _ => by rw [g3.2.2.1]) (fun _ _ => by rw [g3.2.2.1]) (by omega) T3 pe (by rw [hC]; rfl) (fun q => by
    rw [m3, mI_ne _ _ (Or.inr (by decide)), mI_at, hC, zS_ne _ _ (by decide), zS_at])
  have H3 : HR b z C (fun _ => 0) G ar s1 μ3 := (H1.ch F1.1 g3 sfx).cg (by rw [hC]; exact ⟨fun _ _ _ => rfl, rfl⟩) (Ci 15 (by decide) (by decide)) (Ci 9 (by decide) (by decide)) (Ci 10 (by decide) (by decide)) (Ci 14 (by decide) (by decide)) (fun _ _ => by rw [hC]; rfl) (fun _ _ => by rw [hC]; rfl) (by rw [hC]; rfl) (fun _ _ => by rw [hC]; rfl) (by rw [hC]; rfl) (fun _ _ _ => rfl)
  have c3 := g3.ck F1.1 sfx
  have w3 := c3.1 w1
  have insC := H3.2.2.1 p (by rw [Ci 15 (by decide) (by decide)]; exact hp)
  have CN : aN C = aN A := by rw [hC]; rfl
  have CV : aV C = aV A := by rw [hC]; rfl
  obtain ⟨kp3, ip0, ip1, -, -, -, ip5⟩ := insC
  rw [CN] at ip1
  rw [CV] at ip5
  -- the entry
  obtain ⟨N, hN⟩ : ∃ N, N = mN μ3 := ⟨_, rfl⟩
  obtain ⟨μ4, e4, n4, N4, S4, kN, kL, lL, R0, R3, R4, Lf, E1, E2, E5, E8, E11, E12, E13, E14, E15, E16⟩ := c_newEnt (o := aS A 6) (g := g) (st := s1) w3 kp3 ip0 ip1 ip5 hcb
  rw [← hN] at e4 N4 kN kL lL R0 R3 R4 Lf E1 E2 E5 E8 E11 E12 E13 E14 E15 E16
  obtain ⟨μ5, m5⟩ : ∃ μ5, μ5 = sI μ4 (N + 1) 0 (nI (aS A 0)) := ⟨_, rfl⟩
  have n5 : NF μ3 μ5 := by rw [m5]; exact NF.putI (N := 0) n4 (by omega)
  have F5 := F3.nf w3 n5
  have H5 := H3.nf F3.1 w3 n5
  have c5 := n5.ck (e := 2) (sl := 22) (by rw [m5]; show mN μ4 ≤ _; omega) (by rw [m5]; show mS μ4 ≤ _; omega)
  have w5 := c5.1 w3
  -- the order
  obtain ⟨F6, H6, c6, x6⟩ := c_put (i := 6) (n := aS A 6 + 1) F5 H5 rfl (by decide) rfl
  obtain ⟨μ6, m6⟩ : ∃ μ6, μ6 = sI μ5 (b + 20) 6 (nI (aS A 6 + 1)) := ⟨_, rfl⟩
  rw [show sI μ5 (b + 20) 6 (nI (aS A 6 + 1)) = μ6 from m6.symm] at F6 H6 c6 x6
  obtain ⟨D, hD⟩ : ∃ D, D = zS C 6 (aS A 6 + 1) := ⟨_, rfl⟩
  rw [← hD] at F6 H6
  have D9 : aS D 9 = aS A 9 := by rw [hD, zS_ne _ _ (by decide)]; exact Ci 9 (by decide) (by decide)
  have D10 : aS D 10 = aS A 10 := by rw [hD, zS_ne _ _ (by decide)]; exact Ci 10 (by decide) (by decide)
  have D14 : aS D 14 = aS A 14 := by rw [hD, zS_ne _ _ (by decide)]; exact Ci 14 (by decide) (by decide)
  have w6 := c6.1 w5
  have DT : aT D = t := by rw [hD, hC]; rfl
  have kN5 : mK μ5 N = 104 := by rw [m5]; exact kN
  have kL5 : mK μ5 (N + 1) = 51 := by rw [m5]; exact kL
  obtain ⟨y1, y2, y3, y4⟩ := x6 N (by rw [kN5]; rfl)
  obtain ⟨z1, z2, z3, z4⟩ := x6 (N + 1) (by rw [kL5]; rfl)
  have eN : mI μ6 N = mI μ4 N := by rw [y3, m5]; exact mI_row _ _ (by omega)
  have eL : ∀ k, mI μ6 (N + 1) k = if k = 0 then nI (aS A 0) else mI μ4 (N + 1) k := fun k => by rw [z3, m5, mI_up, up1_if]
  have rN : mR μ6 N = mR μ4 N := by rw [y4, m5]; rfl
  obtain ⟨x, hx⟩ : ∃ x, x = newE A p g t := ⟨_, rfl⟩
  have rce : REc D (G 0) 0 false x N μ6 := by
    refine ⟨y1.trans kN5, by rw [rN, R0, hx]; rfl, ⟨s1, by rw [rN]; exact R3, ?_⟩, by rw [rN]; exact R4, z1.trans kL5, by rw [z2, m5]; exact lL, ?_⟩
    · have := H6.2.2.2.2.2.2.2.2
      rw [DT] at this
      rw [hx]
      exact this
    · unfold REf
      rw [eN, hx]
      refine ⟨E1, E2, E16, by rw [eL]; rfl, Or.inl E5, fun y => (by cases y), fun y => (by cases y), fun _ => E8, fun y => ?_, fun _ => ⟨E11, E12, E13, E14, E15⟩, ?_, fun y => ?_⟩
      · have y' : (113 : Nat) = 120 ∨ (113 : Nat) = 109 := y
        omega
      · rw [eL, if_neg (by decide), Lf 2 (by decide), if_neg (fun y => y.2 rfl)]
      · have y' : (113 : Nat) = 101 := y
        omega
  have ltB : ∀ k, k < aS D 9 → G 1 k + 1 < N := fun k hk => by
    rw [hN]
    refine w3.lt (a := G 1 k + 1) ?_
    rw [(H3.2.2.2.1 k (by rw [Ci 9 (by decide) (by decide), ← D9]; exact hk)).2.2.2.2.1]
    decide
  have ltL : ∀ j, j < aS D 10 → G 2 j + 1 < N := fun j hj => by
    rw [hN]
    refine w3.lt (a := G 2 j + 1) ?_
    rw [(H3.2.2.2.2.1 j (by rw [Ci 10 (by decide) (by decide), ← D10]; exact hj)).2.2.2.2.1]
    decide
  have ltE : ∀ e, e < aS D 14 → G 4 e ≠ N + 1 := fun e he => by
    have : G 4 e < mN μ3 := w3.lt (by rw [(H3.2.2.2.2.2.2.1 e (by rw [Ci 14 (by decide) (by decide), ← D14]; exact he)).2.2.2.2.2.2.1]; decide)
    omega
  obtain ⟨ar', μ7, e7, F7, H7, c7, i20⟩ := c_addL F6 H6 w6 (by rw [D10]; exact hn10) rce ltB ltL ltE
  have eF : ft1 A = zS (zL D (aS D 10) x) 10 (aS D 10 + 1) := by
    rw [D10, hD, hC, hx, hn, hg, ht, hpp]
    rfl
  rw [← eF] at F7 H7
  refine ⟨_, ar', s1, μ7, ?_, F7, H7, ((((c1.trans c3).trans c5).trans c6).trans c7).mono (by omega) (by omega)⟩
  -- the run
  have l20 : b + 20 < mN μ3 := w3.lt (fxK_0 (F3.1.fk (o := 20) (by decide) (by decide)))
  have n20 : b + 20 ≠ mN μ3 := by omega
  have nbN : b + 20 ≠ N := by omega
  have nbN1 : b + 20 ≠ N + 1 := by omega
  have k1 := F1.1
  unfold SC at k1
  have k3 := F3.1
  unfold SC at k3
  have k5 := F5.1
  unfold SC at k5
  have k6 := F6.1
  unfold SC at k6
  have k7 := F7.1
  unfold SC at k7
  have sL := c_size h.k100.2.1 h.sz.2.2.1
  have sP := c_size h.k100.1 h.sz.1
  have c16 : ¬ nI (aS A 16) ≤ nI v := nI_ge (by omega) (by omega)
  have zz : ¬ ¬ zb 0 = 0 := by decide
  have tw : (2 : Int32) * nI (aS A 16) = nI (2 * aS A 16) := by
    have : aS A 16 = 1 ∨ aS A 16 = 2 ∨ aS A 16 = 3 ∨ aS A 16 = 4 := by omega
    rcases this with y | y | y | y <;> rw [y] <;> rfl
  have c10 : ¬ nI (2 * aS A 16) ≤ nI (aS A 10) := nI_ge (by omega) (by omega)
  have cp0 : ¬ nI p < 0 := nI_pos (by omega)
  have cp15 : nI p < nI (aS A 15) := nI_lt hp (by omega)
  have k1a : mK μ1 (b + 20) = 105 := by simp only [k1]
  have k45 : mK μ5 = mK μ4 := by rw [m5]; rfl
  have k4a : mK μ4 (b + 20) = 105 := by rw [← k45]; simp only [k5]
  have k4b : mK μ4 (b + 21) = 100 := by rw [← k45]; simp only [k5]
  have kp1 : mK μ1 (G 0 p) = 107 := by rw [← g3.1]; exact kp3
  have ins1 := H1.2.2.1 p hp
  have ipe : mI (sI μ1 (b + 20) 4 (nI g)) (G 0 p) 1 = nI (aN A 10 p) := by
    rw [mI_row _ _ (fun y => by rw [y, k1a] at kp1; cases kp1)]
    exact ins1.2.2.1
  have ef := c_isEf (μ := sI μ1 (b + 20) 4 (nI g)) (a := G 0 p) kp1 ipe hcb
  rw [bn] at ef
  have zbn : zb (nI n) = nI n := by
    have : n = 0 ∨ n = 1 := by rw [hn]; split <;> omega
    rcases this with y | y <;> rw [y] <;> rfl
  have kf : mK (nw μ3 104 0 17) (b + 20) = 105 := by rw [nwK _ _ _ _ n20]; simp only [k3]
  have rf3 : mR (nw μ3 104 0 17) (b + 20) 3 = some s1 := by rw [nwR _ _ _ _ n20]; exact H3.2.2.2.2.2.2.2.1
  have if6 : mI (nw μ3 104 0 17) (b + 20) 6 = nI (aS A 6) := by
    rw [nwI _ _ _ _ n20]
    have := F3.2.1.1 6 rfl
    rw [Ci 6 (by decide) (by decide)] at this
    exact this
  have i34 : mI μ3 (b + 20) 4 = nI g := by rw [m3, mI_ne _ _ (Or.inr (by decide)), mI_at]
  have if4 : mI (nw μ3 104 0 17) (b + 20) 4 = nI g := by rw [nwI _ _ _ _ n20]; exact i34
  have cia : ∀ y : Option (Unit × Mm), ck (isA 1 51) y = y := fun y => if_pos (by decide)
  have i05 : inb 0 5 := by decide
  have cl0 : Int32.toNatClampNeg 0 = 0 := by decide
  have i56 : mI μ5 (b + 20) 6 = nI (aS A 6) := by
    have := F5.2.1.1 6 rfl
    rw [Ci 6 (by decide) (by decide)] at this
    exact this
  have i64 : mI μ6 (b + 20) 4 = nI g := by
    rw [m6, mI_ne _ _ (Or.inr (by decide)), (n5.2.2 _ l20).2.2.1]
    exact i34
  have ins7 := H7.2.2.1 p (by rw [(ft1_f A).1 15 (by decide) (by decide) (by decide) (by decide)]; exact hp)
  rw [up1_ne _ _ (by decide)] at ins7
  have kp7 := ins7.1
  have i70 : mI μ7 (G 0 p) 0 + 1 = nI (p + 1) := by rw [ins7.2.1]; exact nI_1 p
  have i74 : mI μ7 (b + 20) 4 = nI g := by rw [i20]; exact i64
  have r60 : mR μ6 (b + 20) 0 = some (b + 21) := by simp only [k6]
  have tail : f_X4_fetch_b3 (fu + 1) (b + 20) (b + 2) (nI (aS A 16)) (nI (aS A 0)) (nI v) μ = if nI g = nI (p + 1) then f_X4_fetch_b3 fu (b + 20) (b + 2) (nI (aS A 16)) (nI (aS A 0)) (nI v + 1) μ7 else some ((), μ7) := by
    rw [f_X4_fetch_b3]
    simp only [c16, if_false, k0, ckT, i5, zz, bdS, sL, tw, c10, i4, cp0, sP, cp15, if_true, gp, ins.1, cl_t e1, k1, zlS, mK_sI, kp1, ef, zbn, ← m3, ← hN, kf, rf3, if6, if4, cl_t e4, kN, R4, kL, cia, lL, ck_t i05, cl0, ← m5, k5, i56, nI_1, ← m6, r60, k6, k4a, k4b, cl_t e7, k7, kp7, i74, i70]
  rw [tail, f11, ← hpp]
  by_cases eg : g = p + 1
  · rw [if_pos eg, if_pos (by rw [eg]), nI_1]
  · rw [if_neg eg, if_neg (nIne (by omega) (by omega) eg)]
end CFW
