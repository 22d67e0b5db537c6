/-! the model: its plain machine, asked -/
section MPF
variable {b N : Nat} {A A' : Sx} {P : Pm} {ρ : Nat → Nat} {μ μ' μ2 : Mm} {x y : Int32}
theorem m_plR {v : Int32} : ∀ (n j fu : Nat) (μ : Mm), j + n = 8 → n < fu → SM b μ → KM b A μ → (∀ r, r < j → mI μ (b + 82) r = aV A 6 r) → ∃ μ', f_X11_plain_b2 fu (b + 30) v (nI j) μ = f_X11_plain_b26 (b + 30) v μ' ∧ CH b sPm μ μ' ∧ ∀ r, r < 8 → mI μ' (b + 82) r = aV A 6 r
  | 0, j, fu, μ, hj, hf, S0, K, h => by
    obtain ⟨fu, rfl⟩ : ∃ n, fu = n + 1 := ⟨fu - 1, by omega⟩
    have j8 : j = 8 := by omega
    subst j8
    have c1 : (8 : Int32) ≤ nI 8 := by decide
    exact ⟨μ, by simp only [f_X11_plain_b2, c1, if_true], CH.refl0, h⟩
  | n + 1, j, fu, μ, hj, hf, S0, K, h => by
    obtain ⟨fu, rfl⟩ : ∃ n, fu = n + 1 := ⟨fu - 1, by omega⟩
    have s := S0
    unfold SM at s
    have c1 : ¬ (8 : Int32) ≤ nI j := nI_ge (b := 8) (by omega) (by omega)
    have ib := inbN (p := j) (n := 8) (by omega) (by omega)
    have cj := clN (show j < 100000 by omega)
    have r36 := K.1 j (by omega)
    have g1 : CH b sPm μ (sI μ (b + 82) j (aV A 6 j)) := CH.pm (by omega)
    obtain ⟨μ', e1, g2, t2⟩ := m_plR (v := v) n (j + 1) fu (sI μ (b + 82) j (aV A 6 j)) (by omega) (by omega) (S0.ch g1) (K.ch g1 (fun o k _ _ => decide_eq_false (by omega))) (fun r hr => by
      rw [mI_up, up1_if]
      by_cases e : r = j
      · rw [if_pos e, e]
      · rw [if_neg e]
        exact h r (by omega))
    refine ⟨μ', ?_, g1.trans g2, t2⟩
    rw [← e1]
    simp only [f_X11_plain_b2, c1, if_false, s, ckT, bdS, ckA, ck_t ib, cj, r36, zlS, nI_1]
theorem m_plW {v : Int32} : ∀ (n j fu : Nat) (μ : Mm), j + n = 64 → n < fu → SM b μ → KM b A μ → (∀ r, r < j → mI μ (b + 83) r = aV A 7 r) → ∃ μ', f_X11_plain_b28 fu (b + 30) v (nI j) μ = f_X11_plain_b52 (b + 30) v μ' ∧ CH b sPm μ μ' ∧ mI μ' (b + 82) = mI μ (b + 82) ∧ ∀ r, r < 64 → mI μ' (b + 83) r = aV A 7 r
  | 0, j, fu, μ, hj, hf, S0, K, h => by
    obtain ⟨fu, rfl⟩ : ∃ n, fu = n + 1 := ⟨fu - 1, by omega⟩
    have j8 : j = 64 := by omega
    subst j8
    have c1 : (64 : Int32) ≤ nI 64 := by decide
    exact ⟨μ, by simp only [f_X11_plain_b28, c1, if_true], CH.refl0, rfl, h⟩
  | n + 1, j, fu, μ, hj, hf, S0, K, h => by
    obtain ⟨fu, rfl⟩ : ∃ n, fu = n + 1 := ⟨fu - 1, by omega⟩
    have s := S0
    unfold SM at s
    have c1 : ¬ (64 : Int32) ≤ nI j := nI_ge (b := 64) (by omega) (by omega)
    have ib := inbN (p := j) (n := 64) (by omega) (by omega)
    have cj := clN (show j < 100000 by omega)
    have r37 := K.2 j (by omega)
    have g1 : CH b sPm μ (sI μ (b + 83) j (aV A 7 j)) := CH.pm (by omega)
    obtain ⟨μ', e1, g2, q2, t2⟩ := m_plW (v := v) n (j + 1) fu (sI μ (b + 83) j (aV A 7 j)) (by omega) (by omega) (S0.ch g1) (K.ch g1 (fun o k _ _ => decide_eq_false (by omega))) (fun r hr => by
      rw [mI_up, up1_if]
      by_cases e : r = j
      · rw [if_pos e, e]
      · rw [if_neg e]
        exact h r (by omega))
    refine ⟨μ', ?_, g1.trans g2, by rw [q2, mI_row _ _ (by omega)], t2⟩
    rw [← e1]
    simp only [f_X11_plain_b28, c1, if_false, s, ckT, bdS, ckA, ck_t ib, cj, r37, zlS, nI_1]
theorem RM.nf (h : RM b A ρ μ) (n9 : aS A 9 ≤ 16) (n10 : aS A 10 ≤ 8) (w : WF μ) (hN : b + 84 ≤ mN μ) (g : NF μ μ') : RM b A ρ μ' := h.fr n9 n10 (fun a ha => by
  have la : a < mN μ := by
    rcases ha with ha | ha
    · omega
    · exact w.lt (by rw [ha]; decide)
  obtain ⟨g1, g2, g3, g4, -⟩ := g.2.2 a la
  exact ⟨g1, g2, g3, g4⟩)
theorem m_plain {many : Nat} (h : RM b A ρ μ) (w : WF μ) (hN : b + 86 ≤ mN μ) (q : IB A) (hi : HI A) (n10 : aS A 10 ≤ 8) (n14 : aS A 14 ≤ 2004) (hm : many ≤ aS A 14) : ∃ μ', f_X11_plain (b + 30) (nI many) μ = some (mN μ, μ') ∧ RM b A ρ μ' ∧ QPm b (plA A many) μ' ∧ mK μ' (mN μ) = 81 ∧ mL μ' (mN μ) = 2 ∧ (0 < many → mI μ' (mN μ) 0 = nI (aN A 14 (many - 1)) ∧ mI μ' (mN μ) 1 = nI (aN A 15 (many - 1))) ∧ ML b 1 μ μ' ∧ mI μ' (b + 30) 54 = mI μ (b + 30) 54 := by
  have n9 : aS A 9 ≤ 16 := by have := q.2.1.1; have := q.1.2.1; omega
  have K := h.2.2.2.2.2.2.1
  obtain ⟨μ1, e1, g1, t1⟩ := m_plR (A := A) (v := nI many) 8 0 5000 μ (Nat.zero_add _) (by omega) h.1 K (fun r hr => by omega)
  have R1 := h.plc n9 n10 g1
  obtain ⟨μ2, e2, g2, q2, t2⟩ := m_plW (A := A) (v := nI many) 64 0 5000 μ1 (Nat.zero_add _) (by omega) R1.1 R1.2.2.2.2.2.2.1 (fun r hr => by omega)
  have R2 := R1.plc n9 n10 g2
  obtain ⟨μ3, m3⟩ : ∃ μ3, μ3 = sI (sI (sI μ2 (b + 30) 57 0) (b + 30) 59 0) (b + 30) 60 0 := ⟨_, rfl⟩
  have g3 : CH b sPm μ2 μ3 := by rw [m3]; exact ((CH.pm (by omega)).trans (CH.pm (by omega))).trans (CH.pm (by omega))
  have R3 := R2.plc n9 n10 g3
  have g13 := (g1.trans g2).trans g3
  have N3 : mN μ3 = mN μ := g13.2.2.2.2.1
  have w3 : WF μ3 := fun a ha => by rw [g13.1]; exact w a (by rw [← N3]; exact ha)
  obtain ⟨M, hM⟩ : ∃ M, M = mN μ := ⟨_, rfl⟩
  rw [← hM] at N3 hN ⊢
  obtain ⟨μ4, m4⟩ : ∃ μ4, μ4 = nw μ3 81 2 2 := ⟨_, rfl⟩
  have nf : NF μ3 μ4 := by rw [m4]; exact NF.new
  have R4 := R3.nf n9 n10 w3 (by omega) nf
  have i4 : ∀ o, o < 84 → mI μ4 (b + o) = mI μ3 (b + o) := fun o ho => (nf.2.2 (b + o) (by omega)).2.2.1
  have kM : mK μ4 M = 81 := by rw [m4, ← N3]; exact nwKa _ _ _ _
  have lM : mL μ4 M = 2 := by rw [m4, ← N3]; exact nwLa _ _ _ _
  have v60 : mI μ4 (b + 30) 60 = 0 := by rw [i4 30 (by decide), m3, mI_at]
  have Q4 : QPm b (plA A 0) μ4 := by
    refine ⟨fun r hr => ?_, fun a ha => ?_, ?_, ?_, fun t => absurd rfl t⟩
    · rw [i4 82 (by decide), m3, mI_row _ _ (by omega), mI_row _ _ (by omega), mI_row _ _ (by omega), q2]
      exact t1 r hr
    · rw [i4 83 (by decide), m3, mI_row _ _ (by omega), mI_row _ _ (by omega), mI_row _ _ (by omega)]
      exact t2 a ha
    · rw [i4 30 (by decide), m3, mI_ne _ _ (Or.inr (by decide)), mI_ne _ _ (Or.inr (by decide)), mI_at]
      rfl
    · rw [i4 30 (by decide), m3, mI_ne _ _ (Or.inr (by decide)), mI_at]
      rfl
  obtain ⟨μ5, e5, R5, Q5, p5, its⟩ := m_plL q hi n10 n14 hm hN many 0 5000 μ4 (Nat.zero_add _) (by omega) R4 kM lM Q4 (fun _ => v60) (fun t => by omega)
  obtain ⟨p1, p2, p3, p4, p6, p7, p8⟩ := p5
  have N4 : mN μ4 = M + 1 := by rw [m4]; show mN μ3 + 1 = _; rw [N3]
  have S4 : mS μ4 = mS μ + 2 := by rw [m4]; show mS μ3 + 2 = _; rw [g13.2.2.2.2.2.1]
  refine ⟨μ5, ?_, R5, Q5, by rw [p1]; exact kM, by rw [p2]; exact lM, its, ⟨fun _ a ha => ?_, by omega, by omega, by omega, fun a la ho => ?_⟩, ?_⟩
  · have c2 : (smn 2) := by decide
    have k2 := R2.1.1
    have e1' : f_X11_plain (b + 30) (nI many) μ = f_X11_plain_b26 (b + 30) (nI many) μ1 := e1
    have e2' : f_X11_plain_b26 (b + 30) (nI many) μ1 = f_X11_plain_b52 (b + 30) (nI many) μ2 := e2
    have e5' : f_X11_plain_b73 5000 (b + 30) (nI many) M 0 μ4 = some (M, μ5) := e5
    rw [e1', e2']
    simp only [f_X11_plain_b52, k2, ckT, zlS, ← m3, ck_t c2, tcL, ← m4, N3, e5']
  · rw [p1]
    exact (nf.1 w3) a (by rw [N4]; rw [p6, N4] at ha; exact ha)
  · have la3 : a < mN μ3 := by omega
    obtain ⟨f1, f2, f3, f4, f5⟩ := nf.2.2 a la3
    have fa : mI μ5 a = mI μ4 a := funext fun k => p8 a k (by omega) (fun o eo => decide_eq_false (by omega))
    have fb : mI μ3 a = mI μ a := funext fun k => g13.2.2.2.2.2.2 a k (fun o eo => decide_eq_false (by omega))
    exact ⟨by rw [p1, f1, g13.1], by rw [p2, f2, g13.2.1], by rw [fa, f3, fb], by rw [p3, f4, g13.2.2.1], by rw [p4, f5, g13.2.2.2.1]⟩
  · rw [p8 (b + 30) 54 (by omega) (fun o eo => decide_eq_false (by omega)), i4 30 (by decide)]
    exact g13.2.2.2.2.2.2 _ _ (fun o eo => decide_eq_false (by omega))
/-- what is asked of the plain machine -/
theorem m_byPlain (h : RM b A ρ μ) (w : WF μ) (hN : b + 86 ≤ mN μ) (q : IB A) (hi : HI A) (n10 : aS A 10 ≤ 8) (n14 : aS A 14 ≤ 2004) : (∃ (v : Int32) (μ' : Mm), f_X11_kindByPlain (b + 30) x μ = some (v, μ') ∧ (k01 (ix x (aS A 14)) = 0 → v = nI (aN A 14 x.toNatClampNeg)) ∧ RM b A ρ μ' ∧ mI μ' (b + 30) 54 = nI (k01 (ix x (aS A 14))) ∧ ML b 1 μ μ') ∧ ∃ (v : Int32) (μ' : Mm), f_X11_placeByPlain (b + 30) x μ = some (v, μ') ∧ (k01 (ix x (aS A 14)) = 0 → v = nI (aN A 15 x.toNatClampNeg)) ∧ RM b A ρ μ' ∧ mI μ' (b + 30) 54 = nI (k01 (ix x (aS A 14))) ∧ ML b 1 μ μ' := by
  have n9 : aS A 9 ≤ 16 := by have := q.2.1.1; have := q.1.2.1; omega
  have k0 := h.1.1
  have ne := m_noEnd (x := x) h (by omega)
  have b0 : bI false = 0 := rfl
  have b1 : ¬ bI true = 0 := by decide
  cases hx : ix x (aS A 14)
  · rw [hx] at ne
    obtain ⟨μ1, m1⟩ : ∃ μ1, μ1 = sI μ (b + 30) 54 (nI (k01 false)) := ⟨_, rfl⟩
    have ne' : f_X11_noEnd (b + 30) x μ = some (bI true, μ1) := by rw [m1]; exact ne
    have R1 : RM b A ρ μ1 := by rw [m1]; exact m_54 h n9 n10
    have l1 : ML b 0 μ μ1 := by rw [m1]; exact ML.put
    have l2 : ML b 1 μ μ1 := ⟨l1.1, l1.2.1, by have := l1.2.2.1; omega, by have := l1.2.2.2.1; omega, l1.2.2.2.2⟩
    have e54 : mI μ1 (b + 30) 54 = nI (k01 false) := by rw [m1]; exact mI_at _ _ _ _
    refine ⟨⟨0, μ1, ?_, fun t => (by cases t), R1, e54, l2⟩, ⟨0, μ1, ?_, fun t => (by cases t), R1, e54, l2⟩⟩
    · simp only [f_X11_kindByPlain, k0, ckT, cl_t ne', b1, if_false]
    · simp only [f_X11_placeByPlain, k0, ckT, cl_t ne', b1, if_false]
  · rw [hx] at ne
    obtain ⟨μ1, m1⟩ : ∃ μ1, μ1 = sI μ (b + 30) 54 (nI (k01 true)) := ⟨_, rfl⟩
    have ne' : f_X11_noEnd (b + 30) x μ = some (bI false, μ1) := by rw [m1]; exact ne
    have R1 : RM b A ρ μ1 := by rw [m1]; exact m_54 h n9 n10
    have l1 : ML b 0 μ μ1 := by rw [m1]; exact ML.put
    have e54 : mI μ1 (b + 30) 54 = nI (k01 true) := by rw [m1]; exact mI_at _ _ _ _
    have k1 := R1.1.1
    have N1 : mN μ1 = mN μ := by rw [m1]; rfl
    obtain ⟨i, hi', e1, e2⟩ := ix_e hx (by omega)
    obtain ⟨μ2, f2, R2, -, kN, lN, its, ml, x54⟩ := m_plain (many := i + 1) R1 (l1.1 w) (by rw [N1]; exact hN) q hi n10 n14 (by omega)
    obtain ⟨i0, i1⟩ := its (by omega)
    rw [Nat.add_sub_cancel] at i0 i1
    have f2' : f_X11_plain (b + 30) (x + 1) μ1 = some (mN μ1, μ2) := by rw [e1, nI_1]; exact f2
    have l2 : ML b 1 μ μ2 := by
      have := l1.trans ml
      exact this
    rw [e2]
    refine ⟨⟨_, μ2, ?_, fun _ => rfl, R2, by rw [x54]; exact e54, l2⟩, ⟨_, μ2, ?_, fun _ => rfl, R2, by rw [x54]; exact e54, l2⟩⟩
    · simp only [f_X11_kindByPlain, k0, ckT, cl_t ne', b0, if_true, k1, cl_t f2', kN, lN, ckA, ckI, tcL, i0]
    · simp only [f_X11_placeByPlain, k0, ckT, cl_t ne', b0, if_true, k1, cl_t f2', kN, lN, ckA, ckI, tcL, i1]
theorem m_regByPlain (h : RM b A ρ μ) (w : WF μ) (hN : b + 86 ≤ mN μ) (q : IB A) (hi : HI A) (n10 : aS A 10 ≤ 8) (n14 : aS A 14 ≤ 2004) : ∃ (v : Int32) (μ' : Mm), f_X11_registerByPlain (b + 30) x μ = some (v, μ') ∧ (k01 (rok x) = 0 → v = (plA A (aS A 14)).1 x.toNatClampNeg) ∧ RM b A ρ μ' ∧ mI μ' (b + 30) 54 = nI (k01 (rok x)) ∧ ML b 1 μ μ' := by
  have n9 : aS A 9 ≤ 16 := by have := q.2.1.1; have := q.1.2.1; omega
  have k0 := h.1.1
  obtain ⟨k, hk⟩ : ∃ k, k = k01 (rok x) := ⟨_, rfl⟩
  obtain ⟨μ1, m1⟩ : ∃ μ1, μ1 = sI μ (b + 30) 54 (nI k) := ⟨_, rfl⟩
  have R1 : RM b A ρ μ1 := by rw [m1]; exact m_54 h n9 n10
  have l1 : ML b 0 μ μ1 := by rw [m1]; exact ML.put
  have e54 : mI μ1 (b + 30) 54 = nI k := by rw [m1]; exact mI_at _ _ _ _
  have k1 := R1.1.1
  have N1 : mN μ1 = mN μ := by rw [m1]; rfl
  have i46 : mI μ1 (b + 30) 46 = nI (aS A 14) := R1.2.1.1 14 rfl
  obtain ⟨μ2, f2, R2, Q2, kN, lN, -, ml, x54⟩ := m_plain (many := aS A 14) R1 (l1.1 w) (by rw [N1]; exact hN) q hi n10 n14 (Nat.le_refl _)
  rw [e54] at x54
  have k2 := R2.1
  unfold SM at k2
  have run : f_X11_registerByPlain (b + 30) x μ = f_X11_registerByPlain_b16 (b + 30) x (nI k) (b + 30) μ := by
    have ir := m_in7 x
    have b0 : bI false = 0 := rfl
    have b1 : ¬ bI true = 0 := by decide
    cases hx : rok x
    · rw [hx] at ir hk
      rw [hk]
      simp only [f_X11_registerByPlain, ir, bdS, b0, if_true]
      rfl
    · rw [hx] at ir hk
      rw [hk]
      simp only [f_X11_registerByPlain, ir, bdS, b1, if_false]
      rfl
  rw [run, ← hk]
  by_cases k00 : k = 0
  · have hx : rok x = true := by
      cases hb : rok x
      · rw [hb] at hk; rw [hk] at k00; cases k00
      · rfl
    obtain ⟨e1, h8⟩ := rok_e hx
    have ib : inb x 8 := by rw [e1]; exact inbN h8 (by omega)
    have c0 : ¬ (0 : Int32) < nI k := by rw [k00]; decide
    have c2 : ¬ nI 2 = 0 := by decide
    have v := Q2.1 _ h8
    refine ⟨_, μ2, ?_, fun _ => rfl, R2, x54, l1.trans ml⟩
    simp only [f_X11_registerByPlain_b16, k0, ckT, zlS, ← m1, k1, i46, cl_t f2, k2, x54, c0, if_false, kN, ckA, lN, c2, not_false_eq_true, if_true, bdS, ck_t ib, v]
  · have c0 : (0 : Int32) < nI k := by
      have : k = 1 := by
        rw [hk] at k00 ⊢
        cases hb : rok x
        · rfl
        · rw [hb] at k00; exact absurd rfl k00
      rw [this]
      decide
    refine ⟨0, μ2, ?_, fun t => absurd t k00, R2, x54, l1.trans ml⟩
    simp only [f_X11_registerByPlain_b16, f_X11_registerByPlain_b40, k0, ckT, zlS, ← m1, k1, i46, cl_t f2, k2, x54, c0, if_true]
theorem m_wordByPlain (h : RM b A ρ μ) (w : WF μ) (hN : b + 86 ≤ mN μ) (q : IB A) (hi : HI A) (n10 : aS A 10 ≤ 8) (n14 : aS A 14 ≤ 2004) : ∃ (v : Int32) (μ' : Mm), f_X11_wordByPlain (b + 30) x μ = some (v, μ') ∧ (k01 (adok x) = 0 → v = (plA A (aS A 14)).2.1 x.toNatClampNeg) ∧ RM b A ρ μ' ∧ mI μ' (b + 30) 54 = nI (k01 (adok x)) ∧ ML b 1 μ μ' := by
  have n9 : aS A 9 ≤ 16 := by have := q.2.1.1; have := q.1.2.1; omega
  have k0 := h.1.1
  obtain ⟨k, hk⟩ : ∃ k, k = k01 (adok x) := ⟨_, rfl⟩
  obtain ⟨μ1, m1⟩ : ∃ μ1, μ1 = sI μ (b + 30) 54 (nI k) := ⟨_, rfl⟩
  have R1 : RM b A ρ μ1 := by rw [m1]; exact m_54 h n9 n10
  have l1 : ML b 0 μ μ1 := by rw [m1]; exact ML.put
  have e54 : mI μ1 (b + 30) 54 = nI k := by rw [m1]; exact mI_at _ _ _ _
  have k1 := R1.1.1
  have N1 : mN μ1 = mN μ := by rw [m1]; rfl
  have i46 : mI μ1 (b + 30) 46 = nI (aS A 14) := R1.2.1.1 14 rfl
  obtain ⟨μ2, f2, R2, Q2, kN, lN, -, ml, x54⟩ := m_plain (many := aS A 14) R1 (l1.1 w) (by rw [N1]; exact hN) q hi n10 n14 (Nat.le_refl _)
  rw [e54] at x54
  have k2 := R2.1
  unfold SM at k2
  have run : f_X11_wordByPlain (b + 30) x μ = f_X11_wordByPlain_b13 (b + 30) x (nI k) (b + 30) μ := by
    have ir := m_isAd x
    have b0 : bI false = 0 := rfl
    have b1 : ¬ bI true = 0 := by decide
    cases hx : adok x
    · rw [hx] at ir hk
      rw [hk]
      simp only [f_X11_wordByPlain, ir, bdS, b0, if_true]
      rfl
    · rw [hx] at ir hk
      rw [hk]
      simp only [f_X11_wordByPlain, ir, bdS, b1, if_false]
      rfl
  rw [run, ← hk]
  by_cases k00 : k = 0
  · have hx : adok x = true := by
      cases hb : adok x
      · rw [hb] at hk; rw [hk] at k00; cases k00
      · rfl
    obtain ⟨e1, h8⟩ := adok_e hx
    have ib : inb x 64 := by rw [e1]; exact inbN h8 (by omega)
    have c0 : ¬ (0 : Int32) < nI k := by rw [k00]; decide
    have c2 : ¬ nI 2 = 0 := by decide
    have v := Q2.2.1 _ h8
    refine ⟨_, μ2, ?_, fun _ => rfl, R2, x54, l1.trans ml⟩
    simp only [f_X11_wordByPlain_b13, k0, ckT, zlS, ← m1, k1, i46, cl_t f2, k2, x54, c0, if_false, kN, ckA, lN, c2, not_false_eq_true, if_true, bdS, ck_t ib, v]
  · have c0 : (0 : Int32) < nI k := by
      have : k = 1 := by
        rw [hk] at k00 ⊢
        cases hb : adok x
        · rfl
        · rw [hb] at k00; exact absurd rfl k00
      rw [this]
      decide
    refine ⟨0, μ2, ?_, fun t => absurd t k00, R2, x54, l1.trans ml⟩
    simp only [f_X11_wordByPlain_b13, f_X11_wordByPlain_b37, k0, ckT, zlS, ← m1, k1, i46, cl_t f2, k2, x54, c0, if_true]
end MPF
