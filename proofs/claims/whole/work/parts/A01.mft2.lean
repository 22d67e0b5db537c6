/-! the model: one instruction is fetched -/
section MF2
variable {b : Nat} {A B : Sx} {ρ : Nat → Nat} {μ μ' : Mm} {S : Nat → Nat → Bool}
theorem m_clr {r : Nat} {x2 : Int32} {k4 : Nat → Int32 → Int32 → Mm → Option (Unit × Mm)} (hr : 63 ≤ r ∧ r < 71) : ∀ (m j fu : Nat) (μ : Mm), j + m = 28 → m < fu → SM b μ → ∃ μ', f_X11_fetches_b70 k4 fu (b + 30) x2 (b + r) (nI j) μ = f_X11_fetches_b88 k4 (b + 30) x2 (b + r) μ' ∧ CH b (sRow r) μ μ'
  | 0, j, fu, μ, hm, hf, S => by
    obtain ⟨fu, rfl⟩ : ∃ n, fu = n + 1 := ⟨fu - 1, by omega⟩
    have c1 : (28 : Int32) ≤ nI j := nI_le (a := 28) (by omega) (by omega)
    exact ⟨μ, by simp only [f_X11_fetches_b70, c1, if_true], CH.refl0⟩
  | m + 1, j, fu, μ, hm, hf, S => by
    obtain ⟨fu, rfl⟩ : ∃ n, fu = n + 1 := ⟨fu - 1, by omega⟩
    have s2 := S.lrow hr
    have c1 : ¬ (28 : Int32) ≤ nI j := nI_ge (b := 28) (by omega) (by omega)
    have hb := inbN (p := j) (n := 28) (by omega) (by omega)
    have hc := clN (show j < 100000 by omega)
    have g1 : CH b (sRow r) μ (sI μ (b + r) j 0) := CH.putR
    obtain ⟨μ', e, g⟩ := m_clr (x2 := x2) (k4 := k4) hr m (j + 1) fu _ (by omega) (by omega) (S.ch g1)
    refine ⟨μ', ?_, g1.trans g⟩
    rw [← e]
    simp only [f_X11_fetches_b70, c1, if_false, s2, ckA, zlS, ck_t hb, hc, nI_1]
/-- what fetching changes -/
def sFt (r o k : Nat) : Bool := decide ((o = 30 ∧ k ≠ 35 ∧ k ≠ 54) ∨ o = r ∨ o = 71)
theorem sFt_f {r o k : Nat} (h : ¬ ((o = 30 ∧ k ≠ 35 ∧ k ≠ 54) ∨ o = r ∨ o = 71)) : sFt r o k = false := decide_eq_false h
theorem guess_st {p : Nat} (h5 : aN A 10 p ≠ 15) (h6 : aN A 10 p ≠ 16) : (guessA A p).2 = aT A := by
  unfold guessA
  dsimp only
  split
  · rfl
  · split
    · rfl
    · split <;> rfl
theorem guess_15 {p : Nat} (h5 : aN A 10 p = 15) : (guessA A p).2 = pushT (aT A) (p + 1) := by
  unfold guessA
  dsimp only
  rw [h5]
  rfl
/-- the row, its stack, the guess: up to where fetching goes on -/
theorem m_ftA {w fu : Nat} (h : RM b A ρ μ) (q : IV A) (hw : w < aS A 16) (h12 : aS A 12 = 0) (hl : aS A 10 < 2 * aS A 16) (hp : aS A 11 < aS A 15) : ∃ μ', f_X11_fetches_b4 (fu + 1) (b + 30) 1 (nI w) μ = f_X11_fetches_b160 (f_X11_fetches_b4 fu) (b + 30) (nI w) (b + (63 + aS A 10)) (nI (aS A 11)) μ' ∧ CH b (sFt (63 + aS A 10)) μ μ' ∧ RT mT b (zS (zS A 10 (aS A 10 + 1)) 6 (aS A 6 + 1)) μ' ∧ STk (mI μ' (b + 71)) 0 (guessA A (aS A 11)).2 ∧ mI μ' (b + (63 + aS A 10)) 0 = nI (aS A 11) ∧ mI μ' (b + (63 + aS A 10)) 1 = nI (aS A 0) ∧ mI μ' (b + (63 + aS A 10)) 5 = nI (guessA A (aS A 11)).1 ∧ mI μ' (b + (63 + aS A 10)) 17 = nI (aS A 6) ∧ ∀ k, k < 5 → mI μ' (b + (63 + aS A 10)) (18 + k) = mI μ (b + 71) k := by
  have q1 := q.1.1
  have n10 : aS A 10 < 8 := by have := q1.1; omega
  have S := h.1
  have s := h.1
  unfold SM at s
  obtain ⟨p, hpp⟩ : ∃ p, p = aS A 11 := ⟨_, rfl⟩
  rw [← hpp] at hp ⊢
  have cp := q1.p hp
  have hrl := h.2.2.1.2.2 (aS A 10) n10
  have h6 : mI μ (b + 30) 6 = nI (aS A 16) := h.2.1.1 16 rfl
  have h25 : mI μ (b + 30) 25 = nI (aS A 10) := h.2.1.1 10 rfl
  have h5 : mI μ (b + 30) 5 = nI (aS A 15) := h.2.1.1 15 rfl
  have h27 : mI μ (b + 30) 27 = nI (aS A 12) := h.2.1.1 12 rfl
  have h26 : mI μ (b + 30) 26 = nI p := by rw [hpp]; exact h.2.2.2.2.2.2.2.2.2.1 h12
  have c1 : ¬ nI (aS A 16) ≤ nI w := nI_ge (by omega) (by have := q1.1; omega)
  have c2 : ¬ (1 : Int32) = 0 := by decide
  have c3 : ¬ ¬ zb (nI (aS A 12)) = 0 := by rw [h12]; exact fun z => z rfl
  have w2 : 2 * nI (aS A 16) = nI (2 * aS A 16) := by
    have : ∀ n, n < 5 → 2 * nI n = nI (2 * n) := by decide
    exact this _ (by have := q1.1; omega)
  have c4 : ¬ nI (2 * aS A 16) ≤ nI (aS A 10) := nI_ge hl (by have := q1.1; omega)
  have c5 : ¬ nI (aS A 15) ≤ nI p := nI_ge hp (by have := q1.2.2.2.2.1; omega)
  have i10 := inbN (p := aS A 10) (n := 8) n10 (by omega)
  have cl10 := clN (show aS A 10 < 100000 by omega)
  have ip := inbN (p := p) (n := 64) cp.1 (by omega)
  have clp := clN (show p < 100000 by omega)
  obtain ⟨r, hr⟩ : ∃ r, r = 63 + aS A 10 := ⟨_, rfl⟩
  rw [← hr] at hrl ⊢
  have hr2 : 63 ≤ r ∧ r < 71 := by omega
  have n30 : b + 30 ≠ b + r := by omega
  have up : ∀ {ν ν' : Mm}, CH b (sRow r) ν ν' → CH b (sFt r) ν ν' := fun g => g.mono fun o k z => decide_eq_true (Or.inr (Or.inl (sRow_e z)))
  have ust : ∀ {ν ν' : Mm}, CH b sSt ν ν' → CH b (sFt r) ν ν' := fun g => g.mono fun o k z => decide_eq_true (Or.inr (Or.inr (by unfold sSt at z; simpa using z)))
  have rst : ∀ {ν ν' : Mm} {o : Nat}, CH b sSt ν ν' → o ≠ 71 → mI ν' (b + o) = mI ν (b + o) := fun {ν ν' o} g ho => g.row (fun k => by unfold sSt; simp [ho])
  have tst : ∀ {ν ν' : Mm} {C : Sx}, RT mT b C ν → CH b sSt ν ν' → RT mT b C ν' := fun t g => t.ch g (fun o k z => by unfold sSt at z; simp only [beq_iff_eq] at z; omega)
  -- the count, the row cleared
  obtain ⟨μ1, m1⟩ : ∃ μ1, μ1 = sI μ (b + 30) 25 (nI (aS A 10 + 1)) := ⟨_, rfl⟩
  have g1 : CH b (sFt r) μ μ1 := by rw [m1]; exact CH.put (decide_eq_true (by omega))
  have t1 : RT mT b (zS A 10 (aS A 10 + 1)) μ1 := by rw [m1]; exact h.2.1.putS mT_ok (i := 10) rfl (aS A 10 + 1)
  have S1 := S.ch g1
  obtain ⟨μ2, e2, g2⟩ := m_clr (b := b) (r := r) (x2 := nI w) (k4 := f_X11_fetches_b4 fu) hr2 28 0 5000 μ1 rfl (by omega) S1
  have t2 := t1.rowR g2 (by omega)
  have S2 := S1.ch g2
  have s2r := S2.lrow hr2
  have a26 : mI μ2 (b + 30) 26 = nI p := by rw [g2.row2 (show 30 ≠ r by omega), m1, mI_ne _ _ (Or.inr (by decide))]; exact h26
  have a36 : mI μ2 (b + 30) 36 = nI (aS A 0) := by
    have := t2.1 0 rfl
    rw [zS_ne _ _ (by decide)] at this
    exact this
  have a42 : mI μ2 (b + 30) 42 = nI (aS A 6) := by
    have := t2.1 6 rfl
    rw [zS_ne _ _ (by decide)] at this
    exact this
  -- place, cycle, number
  obtain ⟨μ3, m3⟩ : ∃ μ3, μ3 = sI (sI (sI μ2 (b + r) 0 (nI p)) (b + r) 1 (nI (aS A 0))) (b + r) 17 (nI (aS A 6)) := ⟨_, rfl⟩
  have g3 : CH b (sRow r) μ2 μ3 := by rw [m3]; exact (CH.putR.trans CH.putR).trans CH.putR
  have t3 := t2.rowR g3 (by omega)
  obtain ⟨μ4, m4⟩ : ∃ μ4, μ4 = sI μ3 (b + 30) 42 (nI (aS A 6 + 1)) := ⟨_, rfl⟩
  have g4 : CH b (sFt r) μ3 μ4 := by rw [m4]; exact CH.put (decide_eq_true (by omega))
  have t4 : RT mT b (zS (zS A 10 (aS A 10 + 1)) 6 (aS A 6 + 1)) μ4 := by rw [m4]; exact t3.putS mT_ok (i := 6) rfl (aS A 6 + 1)
  have S4 := (S2.ch g3).ch g4
  obtain ⟨μ5, e5, g5, v5⟩ := m_keeps (b := b) (r := r) (o := 18) (by omega) (by omega) 5 0 5000 μ4 rfl (by omega) S4
  have e5' : f_X11_keepsStack (b + 30) (b + r) 18 μ4 = some ((), μ5) := e5
  have t5 := t4.rowR g5 (by omega)
  have S5 := S4.ch g5
  have r71 : ∀ {ν : Mm}, mI ν (b + 71) = mI μ (b + 71) → STk (mI ν (b + 71)) 0 (aT A) := fun e => by rw [e]; exact h.2.2.2.2.2.2.2.2.1
  have f71a : mI μ4 (b + 71) = mI μ (b + 71) := by
    rw [m4, mI_row _ _ (show b + 71 ≠ b + 30 by omega), g3.row2 (show 71 ≠ r by omega), g2.row2 (show 71 ≠ r by omega), m1, mI_row _ _ (show b + 71 ≠ b + 30 by omega)]
  have f71 : mI μ5 (b + 71) = mI μ (b + 71) := by rw [g5.row2 (show 71 ≠ r by omega), f71a]
  have P5 : PM b A μ5 := h.2.2.2.2.2.1.ch (((g1.trans (up g2)).trans ((up g3).trans g4)).trans (up g5)) (fun o k _ _ => sFt_f (by omega))
  obtain ⟨μ6, e6, g6, v6⟩ := m_guess (p := p) S5 t5 P5 q1 (fun _ _ => rfl) (fun _ _ => rfl) q.1.2.1 q.2.2.1 (r71 f71) hp
  have S6 := S5.ch g6
  have s6r := S6.lrow hr2
  obtain ⟨μ7, m7⟩ : ∃ μ7, μ7 = sI μ6 (b + r) 5 (nI (guessA A p).1) := ⟨_, rfl⟩
  have g7 : CH b (sRow r) μ6 μ7 := by rw [m7]; exact CH.putR
  have S7 := S6.ch g7
  have t7 := (tst t5 g6).rowR g7 (by omega)
  have v7 : STk (mI μ7 (b + 71)) 0 (if aN A 10 p = 15 then aT A else (guessA A p).2) := by rw [g7.row2 (show 71 ≠ r by omega)]; exact v6
  have P7 : mI μ7 (b + 31) p = nI (aN A 10 p) := by
    rw [g7.row2 (show 31 ≠ r by omega), rst g6 (by decide)]
    exact (P5 p hp).1
  have k2 := S2
  unfold SM at k2
  have k5 := S5.1
  have k6 := S6
  unfold SM at k6
  have k7 := S7
  unfold SM at k7
  have e88 : f_X11_fetches_b88 (f_X11_fetches_b4 fu) (b + 30) (nI w) (b + r) μ2 = (if ¬ nI (aN A 10 p) = 15 then f_X11_fetches_b160 (f_X11_fetches_b4 fu) (b + 30) (nI w) (b + r) (nI p) μ7 else cl (f_X11_pushes (b + 30) (nI p + 1) μ7) fun _ μ59 => f_X11_fetches_b160 (f_X11_fetches_b4 fu) (b + 30) (nI w) (b + r) (nI p) μ59) := by
    simp only [f_X11_fetches_b88, k2, s2r, ckT, bdS, zlS, ckA, ckI, tcL, a26, a36, a42, mK_sI, mL_sI, mI_ne _ _ (Or.inl n30), nI_1, ← m3, ← m4, cl_t e5', k5, cl_t e6, s6r, k6, ← m7, k7, ck_t ip, clp, P7]
  have gall : CH b (sFt r) μ μ7 := (((g1.trans (up g2)).trans ((up g3).trans g4)).trans ((up g5).trans (ust g6))).trans (up g7)
  have row7 : ∀ k, k ≠ 5 → mI μ7 (b + r) k = mI μ5 (b + r) k := fun k hk => by
    rw [m7, mI_ne _ _ (Or.inr hk), rst g6 (by omega)]
  have row5 : ∀ k, k < 18 → mI μ5 (b + r) k = mI μ3 (b + r) k := fun k hk => by
    rw [v5 k, if_neg (by omega), m4, mI_row _ _ (show b + r ≠ b + 30 by omega)]
  have start : f_X11_fetches_b4 (fu + 1) (b + 30) 1 (nI w) μ = f_X11_fetches_b88 (f_X11_fetches_b4 fu) (b + 30) (nI w) (b + r) μ2 := by
    rw [← e2]
    simp only [f_X11_fetches_b4, s, ckT, bdS, zlS, ckA, h6, c1, c2, h27, c3, w2, h25, c4, h5, h26, c5, if_false, ck_t i10, cl10, hrl, nI_1, ← hr, ← m1]
    rfl
  have vals : mI μ7 (b + r) 0 = nI p ∧ mI μ7 (b + r) 1 = nI (aS A 0) ∧ mI μ7 (b + r) 5 = nI (guessA A p).1 ∧ mI μ7 (b + r) 17 = nI (aS A 6) ∧ ∀ k, k < 5 → mI μ7 (b + r) (18 + k) = mI μ (b + 71) k := by
    refine ⟨?_, ?_, by rw [m7, mI_at], ?_, fun k hk => ?_⟩
    · rw [row7 0 (by decide), row5 0 (by decide), m3, mI_ne _ _ (Or.inr (by decide)), mI_ne _ _ (Or.inr (by decide)), mI_at]
    · rw [row7 1 (by decide), row5 1 (by decide), m3, mI_ne _ _ (Or.inr (by decide)), mI_at]
    · rw [row7 17 (by decide), row5 17 (by decide), m3, mI_at]
    · rw [row7 (18 + k) (by omega), v5 (18 + k), if_pos (by omega), f71a, show 18 + k - 18 = k by omega]
  rw [start, e88]
  by_cases h15 : aN A 10 p = 15
  · have e15 : ¬ ¬ nI (aN A 10 p) = 15 := by rw [h15]; exact fun z => z rfl
    rw [if_pos h15] at v7
    obtain ⟨μ8, e8, g8, v8⟩ := m_pushes (p := p + 1) S7 q.2.2.1.1 v7
    refine ⟨μ8, ?_, gall.trans (ust g8), tst t7 g8, ?_, ?_⟩
    · rw [if_neg e15, nI_1, cl_t e8]
    · rw [guess_15 h15]
      exact v8
    · rw [rst g8 (by omega)]
      exact vals
  · have e15 : ¬ nI (aN A 10 p) = 15 := nIne (n := 15) (by omega) (by omega) h15
    rw [if_neg h15] at v7
    exact ⟨μ7, by rw [if_pos e15], gall, t7, v7, vals⟩
end MF2
