/-! the model: its plain machine from the beginning -/
section MPE
variable {b N : Nat} {A A' : Sx} {P : Pm} {ρ : Nat → Nat} {μ μ' μ2 : Mm} {S : Nat → Nat → Bool}
theorem plA_1 : ∀ e, (plA A e).2.2 1 ≤ 1
  | 0 => Nat.zero_le _
  | e + 1 => by
    have ih := plA_1 e
    show (plN A (plA A e) (aN A 14 e)).2.2 1 ≤ 1
    unfold plN
    split
    · exact Nat.le_refl 1
    · split
      · exact ih
      · split
        · split
          · exact Nat.le_refl 1
          · exact ih
        · unfold plD
          dsimp only
          split
          · exact Nat.zero_le 1
          · exact ih
/-- the plain machine's cells and its row change -/
def PF (b N : Nat) (μ μ' : Mm) : Prop := mK μ' = mK μ ∧ mL μ' = mL μ ∧ mR μ' = mR μ ∧ mJ μ' = mJ μ ∧ mN μ' = mN μ ∧ mS μ' = mS μ ∧ ∀ a k, a ≠ N → (∀ o, a = b + o → sPm o k = false) → mI μ' a k = mI μ a k
theorem PF.refl0 : PF b N μ μ := ⟨rfl, rfl, rfl, rfl, rfl, rfl, fun _ _ _ _ => rfl⟩
theorem PF.trans (h : PF b N μ μ') (g : PF b N μ' μ2) : PF b N μ μ2 := by
  obtain ⟨h1, h2, h3, h4, h5, h6, h7⟩ := h
  obtain ⟨g1, g2, g3, g4, g5, g6, g7⟩ := g
  exact ⟨g1.trans h1, g2.trans h2, g3.trans h3, g4.trans h4, g5.trans h5, g6.trans h6, fun a k x y => (g7 a k x y).trans (h7 a k x y)⟩
theorem CH.pf (g : CH b sPm μ μ') : PF b N μ μ' := ⟨g.1, g.2.1, g.2.2.1, g.2.2.2.1, g.2.2.2.2.1, g.2.2.2.2.2.1, fun a k _ y => g.2.2.2.2.2.2 a k y⟩
theorem PF.its {k : Nat} {v : Int32} : PF b N μ (sI μ N k v) := ⟨rfl, rfl, rfl, rfl, rfl, rfl, fun _ _ x _ => by rw [mI_row _ _ x]⟩
theorem RM.pf (h : RM b A ρ μ) (n9 : aS A 9 ≤ 16) (n10 : aS A 10 ≤ 8) (kN : mK μ N ≠ 71) (hN : b + 86 ≤ N) {k : Nat} {v : Int32} : RM b A ρ (sI μ N k v) := h.fr n9 n10 (fun a ha => ⟨rfl, rfl, mI_row _ _ (fun e => by
  rcases ha with ha | ha
  · omega
  · rw [e] at ha
    exact kN ha), rfl⟩)
theorem QPm.its {k : Nat} {v : Int32} (h : QPm b P μ) (hN : b + 86 ≤ N) : QPm b P (sI μ N k v) := by
  unfold QPm at h ⊢
  rw [mI_row _ _ (show b + 82 ≠ N by omega), mI_row _ _ (show b + 83 ≠ N by omega), mI_row _ _ (show b + 30 ≠ N by omega)]
  exact h
/-- one end more -/
theorem m_plStep {e many fu : Nat} (h : RM b A ρ μ) (q : IB A) (hi : HI A) (n10 : aS A 10 ≤ 8) (n14 : aS A 14 ≤ 2004) (hm : many ≤ aS A 14) (he : e < many) (hN : b + 86 ≤ N) (kN : mK μ N = 81) (lN : mL μ N = 2) (Q : QPm b (plA A e) μ) (h60 : mI μ (b + 30) 60 = 0) : ∃ μ', f_X11_plain_b73 (fu + 1) (b + 30) (nI many) N (nI e) μ = f_X11_plain_b73 fu (b + 30) (nI many) N (nI (e + 1)) μ' ∧ RM b A ρ μ' ∧ QPm b (plA A (e + 1)) μ' ∧ PF b N μ μ' ∧ (e + 1 < many → mI μ' (b + 30) 60 = 0) ∧ mI μ' N 0 = nI (aN A 14 e) ∧ mI μ' N 1 = nI (aN A 15 e) := by
  have n9 : aS A 9 ≤ 16 := by have := q.2.1.1; have := q.1.2.1; omega
  have cf := q.1
  have s := h.1
  unfold SM at s
  obtain ⟨en1, en2, en3, en4⟩ := q.2.2.2.2.2.2.2.2.2.2.2.1 e (by omega)
  obtain ⟨P, hP⟩ : ∃ P, P = plA A e := ⟨_, rfl⟩
  obtain ⟨p, hpp⟩ : ∃ p, p = P.2.2 0 := ⟨_, rfl⟩
  obtain ⟨kd, hkd⟩ : ∃ kd, kd = aN A 14 e := ⟨_, rfl⟩
  have hh1 : P.2.2 1 ≤ 1 := by rw [hP]; exact plA_1 e
  have hs : plA A (e + 1) = plN A P kd := by rw [hP, hkd]; rfl
  rw [← hP] at en1 en2 en4 Q
  rw [← hpp] at en1
  rw [← hkd] at en2 en3 en4
  rw [en1] at en4
  rw [← hkd, en1, hs]
  have N30 : b + 30 ≠ N := by omega
  have N78 : b + 78 ≠ N := by omega
  have c1 : ¬ nI many ≤ nI e := nI_ge he (by omega)
  have ie := inbN (p := e) (n := 2004) (by omega) (by omega)
  have ce := clN (show e < 100000 by omega)
  have i57 : mI μ (b + 30) 57 = nI p := by rw [hpp]; exact Q.2.2.1
  have i59 : mI μ (b + 30) 59 = nI (P.2.2 1) := Q.2.2.2.1
  have i78 : mI μ (b + 78) e = nI kd := by rw [hkd]; exact (h.2.2.2.2.2.2.2.2.2.2 e (by omega)).1
  have i5 : mI μ (b + 30) 5 = nI (aS A 15) := h.2.1.1 15 rfl
  have i10 : mI μ (b + 30) 10 = aV A 0 0 := h.2.1.2.2 0 0 (by decide) (by decide)
  have i11 : mI μ (b + 30) 11 = aV A 0 1 := h.2.1.2.2 0 1 (by decide) (by decide)
  have z59 := zb1 hh1
  obtain ⟨μ1, m1⟩ : ∃ μ1, μ1 = sI μ N 1 (nI p) := ⟨_, rfl⟩
  have R1 : RM b A ρ μ1 := by rw [m1]; exact h.pf n9 n10 (by rw [kN]; decide) hN
  have Q1 : QPm b P μ1 := by rw [m1]; exact Q.its hN
  have p1 : PF b N μ μ1 := by rw [m1]; exact PF.its
  have r30 : mI μ1 (b + 30) = mI μ (b + 30) := by rw [m1, mI_row _ _ N30]
  have r78 : mI μ1 (b + 78) = mI μ (b + 78) := by rw [m1, mI_row _ _ N78]
  have k1 := R1.1
  unfold SM at k1
  have kN1 : mK μ1 N = 81 := by rw [m1]; exact kN
  have lN1 : mL μ1 N = 2 := by rw [m1]; exact lN
  have vN1 : mI μ1 N 1 = nI p := by rw [m1]; exact mI_at _ _ _ _
  have head : f_X11_plain_b73 (fu + 1) (b + 30) (nI many) N (nI e) μ = (if ¬ nI kd = 9 then
      if nI (aS A 15) ≤ nI p then f_X11_plain_b143 (f_X11_plain_b73 fu) (b + 30) (nI many) N (nI e) μ1
      else if zb (0 : Int32) = 0 then
        bd (f_X11_plainTrap (b + 30) (nI p) μ1) fun y58 =>
        zl (sI μ1 N 0 y58) fun μ61 =>
        if ¬ (mI μ61 N 0) = 0 then
          if ¬ (zb (mI μ61 (b + 30) 59)) = 0 then f_X11_plain_b189 (f_X11_plain_b73 fu) (b + 30) (nI many) N (nI e) μ61
          else if ¬ (mI μ61 (b + 30) 10) = -1 then
            zl (sI μ61 (b + 30) 58 (nI p + 1)) fun μ68 =>
            zl (sI μ68 (b + 30) 59 1) fun μ71 =>
            zl (sI μ71 (b + 30) 57 (mI μ71 (b + 30) 10)) fun μ74 =>
            f_X11_plain_b218 (f_X11_plain_b73 fu) (b + 30) (nI many) N (nI e) μ74
          else f_X11_plain_b189 (f_X11_plain_b73 fu) (b + 30) (nI many) N (nI e) μ61
        else cl (f_X11_plainDoes (b + 30) (nI p) μ61) fun _ μ79 => f_X11_plain_b218 (f_X11_plain_b73 fu) (b + 30) (nI many) N (nI e) μ79
      else f_X11_plain_b143 (f_X11_plain_b73 fu) (b + 30) (nI many) N (nI e) μ1
    else
      zl (sI μ1 N 0 9) fun μ81 =>
      zl (sI μ81 (b + 30) 58 (nI p)) fun μ84 =>
      zl (sI μ84 (b + 30) 59 1) fun μ87 =>
      zl (sI μ87 (b + 30) 57 (mI μ87 (b + 30) 11)) fun μ90 =>
      f_X11_plain_b218 (f_X11_plain_b73 fu) (b + 30) (nI many) N (nI e) μ90) := by
    simp only [f_X11_plain_b73, c1, if_false, s, ckT, kN, lN, ckA, ckI, tcL, i57, zlS, ← m1, k1, bdS, ck_t ie, ce, r78, i78, r30, i5, h60, kN1, lN1, mL_sI]
  rw [head]
  have m218 : ∀ ν : Mm, f_X11_plain_b218 (f_X11_plain_b73 fu) (b + 30) (nI many) N (nI e) ν = f_X11_plain_b73 fu (b + 30) (nI many) N (nI (e + 1)) ν := fun ν => by
    simp only [f_X11_plain_b218, nI_1]
  by_cases k9 : kd = 9
  · have w9 : ¬ ¬ nI kd = 9 := by rw [k9]; exact fun t => t rfl
    have a1 : aV A 0 1 ≠ -1 := hi e (by omega) (by rw [← hkd]; exact k9)
    have ad : adok (aV A 0 1) = true := by
      rcases cf.2.2.2.2.2.2 1 (by decide) with y | y
      · exact absurd y a1
      · exact y
    rw [if_neg w9]
    have v11 : mI (sI (sI (sI μ1 N 0 9) (b + 30) 58 (nI p)) (b + 30) 59 1) (b + 30) 11 = aV A 0 1 := by
      rw [mI_ne _ _ (Or.inr (by decide)), mI_ne _ _ (Or.inr (by decide)), mI_row _ _ N30, r30]
      exact i11
    have T := (Q1.its (N := N) (k := 0) (v := 9) hN).trap (kp := p) (v := nI p) (w := aV A 0 1) (g := (aV A 0 1).toNatClampNeg) rfl (adok_e ad).1
    have gx : CH b sPm (sI μ1 N 0 9) (sI (sI (sI (sI μ1 N 0 9) (b + 30) 58 (nI p)) (b + 30) 59 1) (b + 30) 57 (aV A 0 1)) := ((CH.pm (by omega)).trans (CH.pm (by omega))).trans (CH.pm (by omega))
    refine ⟨sI (sI (sI (sI μ1 N 0 9) (b + 30) 58 (nI p)) (b + 30) 59 1) (b + 30) 57 (aV A 0 1), ?_, ?_, ?_, p1.trans (PF.its.trans gx.pf), fun _ => ?_, ?_, ?_⟩
    · simp only [zlS, v11, m218]
    · exact (R1.pf n9 n10 (by rw [kN1]; decide) hN).plc n9 n10 gx
    · unfold plN
      rw [if_pos k9, ← hpp]
      exact T
    · rw [mI_ne _ _ (Or.inr (by decide)), mI_ne _ _ (Or.inr (by decide)), mI_ne _ _ (Or.inr (by decide)), mI_row _ _ N30, r30]
      exact h60
    · rw [mI_row _ _ N30.symm, mI_row _ _ N30.symm, mI_row _ _ N30.symm, mI_at, k9]
      rfl
    · rw [mI_row _ _ N30.symm, mI_row _ _ N30.symm, mI_row _ _ N30.symm, mI_ne _ _ (Or.inr (by decide))]
      exact vN1
  · have w9 : ¬ nI kd = 9 := nIne (n := 9) (by omega) (by omega) k9
    unfold plK at en2
    rw [if_neg k9, ← hpp] at en2
    have p15 : ¬ aS A 15 ≤ p := fun t => by
      rw [if_pos t] at en2
      exact nI_m1 (show kd < 2 ^ 31 by omega) en2
    rw [if_neg p15] at en2
    have h15 := cf.2.2.2.2.1
    have t5 : plT A P ≤ 5 := by
      unfold plT
      dsimp only
      split
      · exact Nat.le_refl _
      · exact tpV_le _ _ _ _
    have kt : kd = plT A P := nIj (by omega) (by omega) en2
    have cp15 : ¬ nI (aS A 15) ≤ nI p := nI_ge (by omega) (by omega)
    have z0 : zb (0 : Int32) = 0 := zb_0
    have tr := m_plTrap (p := p) R1.1 R1.2.2.2.2.2.1 cf Q1 hpp (by omega) hh1
    rw [← kt] at tr
    have hpl : plN A P kd = if kd ≠ 0 then (if P.2.2 1 = 0 ∧ aV A 0 0 ≠ -1 then (P.1, P.2.1, up1 (up1 (up1 P.2.2 2 (p + 1)) 1 1) 0 (aV A 0 0).toNatClampNeg) else P) else plD A P := by
      unfold plN
      rw [if_neg k9, ← hpp, if_neg p15, ← kt]
    rw [if_pos w9, if_neg cp15, if_pos z0, hpl]
    obtain ⟨μ2, m2⟩ : ∃ μ2, μ2 = sI μ1 N 0 (nI kd) := ⟨_, rfl⟩
    have R2 : RM b A ρ μ2 := by rw [m2]; exact R1.pf n9 n10 (by rw [kN1]; decide) hN
    have Q2 : QPm b P μ2 := by rw [m2]; exact Q1.its hN
    have p2 : PF b N μ μ2 := by rw [m2]; exact p1.trans PF.its
    have k2 := R2.1
    unfold SM at k2
    have s30 : mI μ2 (b + 30) = mI μ (b + 30) := by rw [m2, mI_row _ _ N30, r30]
    have vN0 : mI μ2 N 0 = nI kd := by rw [m2]; exact mI_at _ _ _ _
    have vN1' : mI μ2 N 1 = nI p := by rw [m2, mI_ne _ _ (Or.inr (by decide))]; exact vN1
    simp only [tr, bdS, zlS, ← m2, vN0, s30, i59, i10, nI_1]
    have stop : e + 1 = many → plN A P kd = P → f_X11_plain_b189 (f_X11_plain_b73 fu) (b + 30) (nI many) N (nI e) μ2 = f_X11_plain_b73 fu (b + 30) (nI many) N (nI (e + 1)) (sI μ2 (b + 30) 60 1) ∧ RM b A ρ (sI μ2 (b + 30) 60 1) ∧ QPm b P (sI μ2 (b + 30) 60 1) ∧ PF b N μ (sI μ2 (b + 30) 60 1) ∧ (e + 1 < many → mI (sI μ2 (b + 30) 60 1) (b + 30) 60 = 0) ∧ mI (sI μ2 (b + 30) 60 1) N 0 = nI kd ∧ mI (sI μ2 (b + 30) 60 1) N 1 = nI p := fun em _ => by
      refine ⟨?_, R2.plc n9 n10 (CH.pm (by omega)), Q2.st, p2.trans (CH.pf (CH.pm (by omega))), fun t => by omega, ?_, ?_⟩
      · simp only [f_X11_plain_b189, k2, ckT, zlS, m218]
      · rw [mI_row _ _ N30.symm]; exact vN0
      · rw [mI_row _ _ N30.symm]; exact vN1'
    by_cases t0 : kd = 0
    · have w0 : ¬ ¬ nI kd = 0 := by rw [t0]; exact fun t => t rfl
      have nt : ¬ kd ≠ 0 := fun t => t t0
      rw [if_neg w0, if_neg nt]
      obtain ⟨μ3, e3, Q3, g3, h3⟩ := m_plDoes (p := p) R2.1 R2.2.2.2.2.2.1 cf Q2 hpp (by omega) (by rw [← kt]; exact t0)
      have far : ∀ k, mI μ3 N k = mI μ2 N k := fun k => g3.2.2.2.2.2.2 N k (fun o eo => by
        refine decide_eq_false ?_
        omega)
      refine ⟨μ3, ?_, R2.plc n9 n10 g3, Q3, p2.trans g3.pf, fun lt => ?_, by rw [far]; exact vN0, by rw [far]; exact vN1'⟩
      · simp only [cl_t e3, m218]
      · rw [h3]
        by_cases c18 : aN A 10 p = 18
        · have := (en4 k9 (Or.inl c18)).2
          omega
        · rw [if_neg c18, s30]
          exact h60
    · have w0 : ¬ nI kd = 0 := nI_ne0 (by omega) (by omega)
      rw [if_pos w0, if_pos t0]
      by_cases eh : P.2.2 1 = 0
      · have wh : ¬ ¬ zb (nI (P.2.2 1)) = 0 := by rw [z59]; exact fun t => t eh
        rw [if_neg wh]
        by_cases a0 : aV A 0 0 = -1
        · have wa : ¬ ¬ aV A 0 0 = -1 := fun t => t a0
          have em : e + 1 = many := by have := (en4 k9 (Or.inr ⟨t0, Or.inr a0⟩)).2; omega
          rw [if_neg wa, if_neg (fun t => t.2 a0)]
          exact ⟨_, stop em (by rw [hpl, if_pos t0, if_neg (fun t => t.2 a0)])⟩
        · have ad : adok (aV A 0 0) = true := by
            rcases cf.2.2.2.2.2.2 0 (by decide) with y | y
            · exact absurd y a0
            · exact y
          rw [if_pos a0, if_pos ⟨eh, a0⟩]
          have v10 : mI (sI (sI μ2 (b + 30) 58 (nI (p + 1))) (b + 30) 59 1) (b + 30) 10 = aV A 0 0 := by
            rw [mI_ne _ _ (Or.inr (by decide)), mI_ne _ _ (Or.inr (by decide)), s30]
            exact i10
          have T := Q2.trap (kp := p + 1) (v := nI (p + 1)) (w := aV A 0 0) (g := (aV A 0 0).toNatClampNeg) rfl (adok_e ad).1
          have gx : CH b sPm μ2 (sI (sI (sI μ2 (b + 30) 58 (nI (p + 1))) (b + 30) 59 1) (b + 30) 57 (aV A 0 0)) := ((CH.pm (by omega)).trans (CH.pm (by omega))).trans (CH.pm (by omega))
          refine ⟨sI (sI (sI μ2 (b + 30) 58 (nI (p + 1))) (b + 30) 59 1) (b + 30) 57 (aV A 0 0), ?_, R2.plc n9 n10 gx, T, p2.trans gx.pf, fun _ => ?_, ?_, ?_⟩
          · simp only [v10, m218]
          · rw [mI_ne _ _ (Or.inr (by decide)), mI_ne _ _ (Or.inr (by decide)), mI_ne _ _ (Or.inr (by decide)), s30]
            exact h60
          · rw [mI_row _ _ N30.symm, mI_row _ _ N30.symm, mI_row _ _ N30.symm]; exact vN0
          · rw [mI_row _ _ N30.symm, mI_row _ _ N30.symm, mI_row _ _ N30.symm]; exact vN1'
      · have wh : ¬ zb (nI (P.2.2 1)) = 0 := by rw [z59]; exact eh
        have em : e + 1 = many := by have := (en4 k9 (Or.inr ⟨t0, Or.inl eh⟩)).2; omega
        rw [if_pos wh, if_neg (fun t => eh t.1)]
        exact ⟨_, stop em (by rw [hpl, if_pos t0, if_neg (fun t => eh t.1)])⟩
theorem m_plL {many : Nat} (q : IB A) (hi : HI A) (n10 : aS A 10 ≤ 8) (n14 : aS A 14 ≤ 2004) (hm : many ≤ aS A 14) (hN : b + 86 ≤ N) : ∀ (n e fu : Nat) (μ : Mm), e + n = many → n < fu → RM b A ρ μ → mK μ N = 81 → mL μ N = 2 → QPm b (plA A e) μ → (e < many → mI μ (b + 30) 60 = 0) → (0 < e → mI μ N 0 = nI (aN A 14 (e - 1)) ∧ mI μ N 1 = nI (aN A 15 (e - 1))) → ∃ μ', f_X11_plain_b73 fu (b + 30) (nI many) N (nI e) μ = some (N, μ') ∧ RM b A ρ μ' ∧ QPm b (plA A many) μ' ∧ PF b N μ μ' ∧ (0 < many → mI μ' N 0 = nI (aN A 14 (many - 1)) ∧ mI μ' N 1 = nI (aN A 15 (many - 1)))
  | 0, e, fu, μ, he, hf, R, kN, lN, Q, h60, its => by
    obtain ⟨fu, rfl⟩ : ∃ n, fu = n + 1 := ⟨fu - 1, by omega⟩
    have em : e = many := by omega
    rw [em] at Q its ⊢
    have c1 := Int32.le_refl (nI many)
    exact ⟨μ, by simp only [f_X11_plain_b73, c1, if_true], R, Q, PF.refl0, its⟩
  | n + 1, e, fu, μ, he, hf, R, kN, lN, Q, h60, its => by
    obtain ⟨fu, rfl⟩ : ∃ n, fu = n + 1 := ⟨fu - 1, by omega⟩
    obtain ⟨μ1, e1, R1, Q1, p1, h1, i0, i1⟩ := m_plStep (fu := fu) R q hi n10 n14 hm (show e < many by omega) hN kN lN Q (h60 (by omega))
    obtain ⟨μ2, e2, R2, Q2, p2, t2⟩ := m_plL q hi n10 n14 hm hN n (e + 1) fu μ1 (by omega) (by omega) R1 (by rw [p1.1]; exact kN) (by rw [p1.2.1]; exact lN) Q1 h1 (fun _ => ⟨i0, i1⟩)
    exact ⟨μ2, by rw [e1]; exact e2, R2, Q2, p1.trans p2, t2⟩
end MPE
