/-! THE CLASS: an entry is renamed -/
section CRP
variable {b z e sl : Nat} {m m' : Nat → Nat} {A A' B C D : Sx} {P : Pm} {G : Nat → Nat → Nat} {ar : Nat → Nat} {s : Nat} {μ μ' μ2 : Mm} {S : Nat → Nat → Bool}
theorem c_give {a : Nat} {x : Ent} (h : FR b z A μ) (hh : HR b z A (fun _ => 0) G ar s μ) (ka : mK μ a = 104) (r0 : mR μ a 0 = some (G 0 (x.1 0))) (k51 : mK μ (a + 1) = 51) (n1 : ∀ k, k < aS A 9 → G 1 k ≠ a) (n2 : ∀ j, j < aS A 10 → G 2 j ≠ a) (n4 : ∀ e, e < aS A 14 → G 4 e ≠ a + 1) (ho : x.1 0 < aS A 15) (c : CF A) (h24 : aS A 7 ≤ 24) (h7 : hasD (eC A x) = true → 0 < aS A 7 ∧ aN A 3 0 < 24) : ∃ μ', f_X5_give (b + 9) a μ = some ((), μ') ∧ FR b z (giveA A x).1 μ' ∧ HR b z (giveA A x).1 (fun _ => 0) G ar s μ' ∧ CK 0 0 μ μ' ∧ (mK μ' = mK μ ∧ mL μ' = mL μ ∧ mR μ' = mR μ) ∧ mI μ' (a + 1) = mI μ (a + 1) ∧ mI μ' a 6 = nI (aN A 0 (aN A 12 (x.1 0))) ∧ mI μ' a 7 = nI (aN A 0 (aN A 13 (x.1 0))) ∧ (hasD (eC A x) = true → mI μ' a 8 = nI (aN A 3 0) ∧ mI μ' a 9 = nI (aN A 0 (eD A x))) ∧ (hasD (eC A x) = false → mI μ' a 8 = mI μ a 8) ∧ (∀ i, i < 6 ∨ 9 < i → mI μ' a i = mI μ a i) ∧ ∀ y, h2K (mK μ y) = true → y ≠ a → y ≠ a + 1 → mI μ' y = mI μ y := by
  have k0 := h.1
  unfold SC at k0
  have ins := hh.2.2.1 _ ho
  obtain ⟨kp, ip0, ip1, ip2, ip3, ip4, ip5⟩ := ins
  have hp := c.p ho
  have hec : eC A x = aN A 10 (x.1 0) := rfl
  have hed : eD A x = aN A 11 (x.1 0) := rfl
  obtain ⟨p, hpp⟩ : ∃ p, p = G 0 (x.1 0) := ⟨_, rfl⟩
  rw [← hpp] at kp ip0 ip1 ip2 ip3 ip4 ip5 r0
  have npa : p ≠ a := fun q => by rw [q, ka] at kp; cases kp
  have nrow : ∀ o, o < 30 → o ≠ 24 → b + o ≠ a := fun o o1 o2 q => by
    have := h.1.fk o1 o2
    rw [q, ka] at this
    cases this
  have m12 : mI μ (b + 10) (aN A 12 (x.1 0)) = nI (aN A 0 (aN A 12 (x.1 0))) := h.2.1.2.1 0 _ (by omega) hp.2.2.2.1
  have m13 : mI μ (b + 10) (aN A 13 (x.1 0)) = nI (aN A 0 (aN A 13 (x.1 0))) := h.2.1.2.1 0 _ (by omega) hp.2.2.2.2.1
  have i12 := inbN (p := aN A 12 (x.1 0)) (n := 8) hp.2.2.2.1 (by omega)
  have i13 := inbN (p := aN A 13 (x.1 0)) (n := 8) hp.2.2.2.2.1 (by omega)
  have i11 := inbN (p := aN A 11 (x.1 0)) (n := 8) hp.2.2.1 (by omega)
  have c12 := clN (show aN A 12 (x.1 0) < 100000 by omega)
  have c13 := clN (show aN A 13 (x.1 0) < 100000 by omega)
  have c11 := clN (show aN A 11 (x.1 0) < 100000 by omega)
  obtain ⟨v6, hv6⟩ : ∃ v, v = nI (aN A 0 (aN A 12 (x.1 0))) := ⟨_, rfl⟩
  obtain ⟨v7, hv7⟩ : ∃ v, v = nI (aN A 0 (aN A 13 (x.1 0))) := ⟨_, rfl⟩
  rw [← hv6] at m12
  rw [← hv7] at m13
  obtain ⟨μ1, m1⟩ : ∃ μ1, μ1 = sI (sI μ a 6 v6) a 7 v7 := ⟨_, rfl⟩
  have g1 : CE a μ μ1 := by
    rw [m1]
    exact ⟨rfl, rfl, rfl, rfl, rfl, rfl, fun y a1 _ => by rw [mI_row _ _ a1, mI_row _ _ a1]⟩
  have F1 := h.ce ka k51 g1
  have H1 := hh.cea ka k51 g1 n1 n2 n4
  have c1 := g1.ck ka k51
  have P1 : mI μ1 p = mI μ p := by rw [m1, mI_row _ _ npa, mI_row _ _ npa]
  have hd := c_hasD (μ := μ1) (a := p) (c := eC A x) (by rw [g1.1]; exact kp) (by rw [P1]; exact ip1) (by omega)
  have e6 : mI μ1 a 6 = v6 := by rw [m1, mI_ne _ _ (Or.inr (by decide)), mI_at]
  have e7 : mI μ1 a 7 = v7 := by rw [m1, mI_at]
  have eo : ∀ i, i ≠ 6 → i ≠ 7 → mI μ1 a i = mI μ a i := fun i u v => by rw [m1, mI_ne _ _ (Or.inr v), mI_ne _ _ (Or.inr u)]
  have ep : mI μ1 (a + 1) = mI μ (a + 1) := by rw [m1, mI_row _ _ (by omega), mI_row _ _ (by omega)]
  have b0 : bI false = 0 := rfl
  have b1 : ¬ bI true = 0 := by decide
  have ip4' : mI (sI μ a 6 v6) p 4 = nI (aN A 13 (x.1 0)) := by rw [mI_row _ _ npa]; exact ip4
  have m13' : mI (sI μ a 6 v6) (b + 10) (aN A 13 (x.1 0)) = v7 := by rw [mI_row _ _ (nrow 10 (by decide) (by decide))]; exact m13
  cases hD : hasD (eC A x)
  · rw [hD] at hd
    have E : giveA A x = (A, eN (eN x 6 (aN A 0 (aN A 12 (x.1 0)))) 7 (aN A 0 (aN A 13 (x.1 0)))) := by
      unfold giveA
      rw [hD]
      rfl
    rw [E]
    refine ⟨μ1, ?_, F1, H1, c1, ⟨g1.1, g1.2.1, g1.2.2.1⟩, ep, e6.trans hv6, e7.trans hv7, fun w => (by cases w), fun _ => eo 8 (by decide) (by decide), fun i hi => eo i (by omega) (by omega), fun y _ u v => g1.2.2.2.2.2.2 y u v⟩
    simp only [f_X5_give, ka, ckT, r0, bdS, k0, kp, ckA, ip3, ck_t i12, c12, m12, zlS, mR_sI', mK_sI, mL_sI, ip4', ck_t i13, c13, m13', ← m1, hd, b0, if_true]
  · rw [hD] at hd
    obtain ⟨h70, hg⟩ := h7 hD
    obtain ⟨g, hgg⟩ : ∃ g, g = aN A 3 0 := ⟨_, rfl⟩
    have k1 := F1.1
    unfold SC at k1
    have i95 : mI μ1 (b + 9) 5 = nI (aS A 7) := F1.2.1.1 7 rfl
    have cn : ¬ nI (aS A 7) ≤ 0 := nI_nle (by omega) (by omega)
    obtain ⟨μ2, e2, F2, H2', c2, x2, K2, L2, R2⟩ := c_takeF F1 H1 h70 h24
    rw [← hgg] at e2 hg ⊢
    obtain ⟨D, hDD⟩ : ∃ D, D = zS (tkN A (aS A 7 - 1)) 7 (aS A 7 - 1) := ⟨_, rfl⟩
    rw [← hDD] at F2 H2'
    have k2 := F2.1
    unfold SC at k2
    have D0 : aN D 0 = aN A 0 := by rw [hDD]; rfl
    have D9 : aS D 9 = aS A 9 := by rw [hDD, zS_ne _ _ (by decide)]; rfl
    have D10 : aS D 10 = aS A 10 := by rw [hDD, zS_ne _ _ (by decide)]; rfl
    have D14 : aS D 14 = aS A 14 := by rw [hDD, zS_ne _ _ (by decide)]; rfl
    have ka2 : mK μ2 a = 104 := by rw [K2, g1.1]; exact ka
    have k512 : mK μ2 (a + 1) = 51 := by rw [K2, g1.1]; exact k51
    have kp2 : mK μ2 p = 107 := by rw [K2, g1.1]; exact kp
    have ip2' : mI μ2 p 2 = nI (aN A 11 (x.1 0)) := by rw [(x2 p (by rw [g1.1, kp]; rfl)).2.2.1, P1]; exact ip2
    have mo : mI μ2 (b + 10) (aN A 11 (x.1 0)) = nI (aN A 0 (eD A x)) := by
      have := F2.2.1.2.1 0 (aN A 11 (x.1 0)) (by omega) hp.2.2.1
      rw [D0] at this
      exact this
    have ia2 : mI μ2 a = mI μ1 a := (x2 a (by rw [g1.1, ka]; rfl)).2.2.1
    have ip2 : mI μ2 (a + 1) = mI μ1 (a + 1) := (x2 (a + 1) (by rw [g1.1, k51]; rfl)).2.2.1
    obtain ⟨μ3, m3⟩ : ∃ μ3, μ3 = sI (sI μ2 a 9 (nI (aN A 0 (eD A x)))) a 8 (nI g) := ⟨_, rfl⟩
    have g3 : CE a μ2 μ3 := by
      rw [m3]
      exact ⟨rfl, rfl, rfl, rfl, rfl, rfl, fun y a1 _ => by rw [mI_row _ _ a1, mI_row _ _ a1]⟩
    have F3 := F2.ce ka2 k512 g3
    have H3 := H2'.cea ka2 k512 g3 (fun k hk => n1 k (by omega)) (fun j hj => n2 j (by omega)) (fun e he => n4 e (by omega))
    have c3 := g3.ck ka2 k512
    obtain ⟨F4, H4, c4, x4⟩ := c_putN (q := 0) (j := aN A 11 (x.1 0)) (n := g) F3 H3 (by omega) hp.2.2.1
    obtain ⟨F5, H5, c5, x5⟩ := c_putN (q := 2) (j := g) (n := 0) F4 H4 (by omega) hg
    obtain ⟨μ5, m5⟩ : ∃ μ5, μ5 = sI (sI μ3 (b + 10) (aN A 11 (x.1 0)) (nI g)) (b + 13) g 0 := ⟨_, rfl⟩
    rw [show sI (sI μ3 (b + cT.2.1 0) (aN A 11 (x.1 0)) (nI g)) (b + cT.2.1 2) g (nI 0) = μ5 from m5.symm] at F5 H5 c5 x5
    have E : (giveA A x).1 = zN (zN D 0 (aN A 11 (x.1 0)) g) 2 g 0 := by
      unfold giveA
      rw [hD, hDD, hgg]
      rfl
    rw [E]
    have ia5 : mI μ5 a = mI μ3 a := by rw [m5, mI_row _ _ (Ne.symm (nrow 13 (by decide) (by decide))), mI_row _ _ (Ne.symm (nrow 10 (by decide) (by decide)))]
    have nrow1 : ∀ o, o < 30 → o ≠ 24 → a + 1 ≠ b + o := fun o o1 o2 q => by
      have := h.1.fk o1 o2
      rw [← q, k51] at this
      cases this
    have ip5 : mI μ5 (a + 1) = mI μ (a + 1) := by
      rw [m5, mI_row _ _ (nrow1 13 (by decide) (by decide)), mI_row _ _ (nrow1 10 (by decide) (by decide)), m3, mI_row _ _ (by omega), mI_row _ _ (by omega), ip2]
      exact ep
    have e3o : ∀ i, i ≠ 8 → i ≠ 9 → mI μ3 a i = mI μ1 a i := fun i u v => by rw [m3, mI_ne _ _ (Or.inr u), mI_ne _ _ (Or.inr v), ia2]
    refine ⟨μ5, ?_, F5, H5, (((c1.trans c2).trans c3).trans c4).trans c5, ⟨?_, ?_, ?_⟩, ip5, ?_, ?_, fun _ => ⟨?_, ?_⟩, fun w => (by cases w), fun i hi => ?_, fun y hy u v => ?_⟩
    · have ng0 : ¬ nI g < 0 := nI_pos (by omega)
      have ng24 : ¬ (24 : Int32) ≤ nI g := by
        have := nI_ge (b := 24) (a := g) (by omega) (by omega)
        exact this
      have ig := inbN (p := g) (n := 24) hg (by omega)
      have cg := clN (show g < 100000 by omega)
      have ip2a : ∀ {u v : Int32}, mI (sI (sI μ2 a 9 u) a 8 v) p 2 = nI (aN A 11 (x.1 0)) := fun {u v} => by rw [mI_row _ _ npa, mI_row _ _ npa]; exact ip2'
      have ip3a : mI μ3 p 2 = nI (aN A 11 (x.1 0)) := by rw [m3]; exact ip2a
      have k3 := F3.1
      unfold SC at k3
      simp only [f_X5_give, ka, ckT, r0, bdS, k0, kp, ckA, ip3, ck_t i12, c12, m12, zlS, mR_sI', mK_sI, mL_sI, ip4', ck_t i13, c13, m13', ← m1, hd, b1, if_false, i95, cn, cl_t e2, k2, kp2, ip2', ck_t i11, c11, mo, ka2, ← m3, k3, ip3a, ng0, ng24, ck_t ig, cg, ← m5]
    · rw [m5, ← g1.1, ← K2, ← g3.1]; rfl
    · rw [m5, ← g1.2.1, ← L2, ← g3.2.1]; rfl
    · rw [m5, ← g1.2.2.1, ← R2, ← g3.2.2.1]; rfl
    · rw [ia5, e3o 6 (by decide) (by decide), e6, hv6]
    · rw [ia5, e3o 7 (by decide) (by decide), e7, hv7]
    · rw [ia5, m3, mI_at]
    · rw [ia5, m3, mI_ne _ _ (Or.inr (by decide)), mI_at]
    · rw [ia5, e3o i (by omega) (by omega)]
      exact eo i (by omega) (by omega)
    · have y1 : h2K (mK μ1 y) = true := by rw [g1.1]; exact hy
      have y3 : h2K (mK μ3 y) = true := by rw [g3.1, K2]; exact y1
      have y4 : h2K (mK (sI μ3 (b + cT.2.1 0) (aN A 11 (x.1 0)) (nI g)) y) = true := y3
      rw [(x5 y y4).2.2.1, (x4 y y3).2.2.1, g3.2.2.2.2.2.2 y u v, (x2 y y1).2.2.1, g1.2.2.2.2.2.2 y u v]
theorem rn_ref {F F' p p' : Nat → Int32} (f : IF A) (h10 : aS A 10 ≠ 0) (h : REf A 0 false (aL A 0) F p) (e6 : F' 6 = nI (aN A 0 (aN A 12 ((aL A 0).1 0)))) (e7 : F' 7 = nI (aN A 0 (aN A 13 ((aL A 0).1 0)))) (e8 : hasD (eC A (aL A 0)) = true → F' 8 = nI (aN A 3 0) ∧ F' 9 = nI (aN A 0 (eD A (aL A 0)))) (e8n : hasD (eC A (aL A 0)) = false → F' 8 = F 8) (eq : isQd (eC A (aL A 0)) = true → F' 5 = F 5 ∧ F' 12 = F 12) (en : isQd (eC A (aL A 0)) = false → F' 5 = 101 ∧ F' 12 = nI (if eC A (aL A 0) = 21 ∧ aS A 3 = 0 then 5 else tpV (eC A (aL A 0)) 0 0 (eI A (aL A 0)))) (eo : ∀ i, i = 1 ∨ i = 2 ∨ i = 11 ∨ i = 13 ∨ i = 14 ∨ i = 15 ∨ i = 16 → F' i = F i) (p1 : p' 1 = nI (aS A 0)) (p0 : p' 0 = p 0) (p2 : p' 2 = p 2) (p3 : isQd (eC A (aL A 0)) = false → p' 3 = nI (aS A 0)) : REf A 0 true (rnE A) F' p' := by
  obtain ⟨r0, r1, r6, r7, r2, r8, rq, rn⟩ := rnE_f A
  have ec : eC A (rnE A) = eC A (aL A 0) := congrArg (aN A 10) r0
  have l := f.2.2.2.1 0 (by omega)
  have l113 : (aL A 0).1 10 = 113 := l.2.2.1
  unfold REf at h ⊢
  rw [ec]
  obtain ⟨f1, f2, f3, f4, f5, f6, f7, f8, f9, f10, f11, f12⟩ := h
  obtain ⟨d11, d12, d13, d14, d15⟩ := f10 (Or.inl rfl)
  have f5' : F 5 = nI ((aL A 0).1 10) := f5.resolve_right (fun y => by have := y.1; omega)
  have r13 := r1 13 (by omega)
  have r5 := r1 5 (by omega)
  have r14 := r1 14 (by omega)
  have r1' := r1 1 (by omega)
  rw [r13, r5, r14, r1', r2, eo 1 (by omega), eo 2 (by omega), eo 16 (by omega), eo 11 (by omega), eo 13 (by omega), eo 14 (by omega), eo 15 (by omega), p0, p1, p2, r6, r7, rnE_2]
  have np2 : p 2 = -1 := by rw [f11, if_neg (fun y => y.2 l113)]
  cases hq : isQd (eC A (aL A 0))
  · obtain ⟨q10, q12⟩ := rn hq
    obtain ⟨n5, n12⟩ := en hq
    refine ⟨f1, f2, f3, f4, Or.inl (by rw [n5, q10]; rfl), fun _ => ⟨e6, e7, rfl⟩, fun _ hd => by rw [(r8 hd).1, (r8 hd).2]; exact e8 hd, fun y => ?_, fun y => by rw [q10] at y; omega, fun _ => ⟨d11, by rw [n12, q12], d13, d14, d15⟩, ?_, fun _ => by rw [p3 hq, rnE_4 A hq]⟩
    · rcases y with y | y
      · cases y
      · rw [e8n y]
        exact f8 (Or.inl rfl)
    · rw [if_neg (fun y => by cases y.1)]
      exact np2
  · obtain ⟨q10, q12⟩ := rq hq
    obtain ⟨n5, n12⟩ := eq hq
    have s113 : (rnE A).1 10 = 113 := q10.trans l113
    refine ⟨f1, f2, f3, f4, Or.inl (by rw [n5, q10]; exact f5'), fun _ => ⟨e6, e7, rfl⟩, fun _ hd => by rw [(r8 hd).1, (r8 hd).2]; exact e8 hd, fun y => ?_, fun y => by rw [s113] at y; omega, fun y => ?_, ?_, fun y => by rw [s113] at y; omega⟩
    · rcases y with y | y
      · cases y
      · rw [e8n y]
        exact f8 (Or.inl rfl)
    · rcases y with y | y | y
      · cases y
      · cases y
      · exact absurd s113 y
    · rw [if_neg (fun y => y.2 s113)]
      exact np2
end CRP
