/-! the model: fetching -/
section MF3
variable {b : Nat} {A B : Sx} {ρ : Nat → Nat} {μ μ' : Mm} {S : Nat → Nat → Bool}
theorem ft1_P (A : Sx) : SamP A (ft1 A) := ⟨fun r _ _ => by rw [(ft1_f A).2.2.2.2.2.1], by rw [(ft1_f A).2.2.2.2.2.2.1]⟩
theorem isEf_n {c : Nat} (hc : c < 22) : (nI c = 18 ∨ nI c = 21) ↔ isEf c = true := by
  unfold isEf
  simp only [Bool.or_eq_true, decide_eq_true_eq]
  constructor
  · rintro (h | h)
    · exact Or.inl (nIj (n := 18) (by omega) (by omega) h)
    · exact Or.inr (nIj (n := 21) (by omega) (by omega) h)
  · rintro (h | h)
    · exact Or.inl (by rw [h]; rfl)
    · exact Or.inr (by rw [h]; rfl)
theorem m_ft1 {fu w : Nat} (h : RM b A ρ μ) (q : IV A) (hw : w < aS A 16) (h12 : aS A 12 = 0) (hl : aS A 10 < 2 * aS A 16) (hp : aS A 11 < aS A 15) : ∃ μ', f_X11_fetches_b4 (fu + 1) (b + 30) 1 (nI w) μ = f_X11_fetches_b4 fu (b + 30) (bI (decide (aS (ft1 A) 11 = aS A 11 + 1))) (nI (w + 1)) μ' ∧ RM b (ft1 A) ρ μ' ∧ CH b sMo μ μ' := by
  obtain ⟨μ1, e1, g1, t1, v1, c0, cc1, c5, c17, c18⟩ := m_ftA (fu := fu) h q hw h12 hl hp
  have q1 := q.1.1
  have n10 : aS A 10 < 8 := by have := q1.1; omega
  have n9 : aS A 9 ≤ 16 := by have := q.1.2.1.1; have := q1.2.1; omega
  obtain ⟨p, hpp⟩ : ∃ p, p = aS A 11 := ⟨_, rfl⟩
  obtain ⟨f1, f2, f3, f4, f5, f6, f7, f8, f9, f10⟩ := ft1_f A
  rw [← hpp] at hp e1 v1 c0 c5 f4 f5 f9 f10 ⊢
  have cp := q1.p hp
  obtain ⟨r, hr⟩ : ∃ r, r = 63 + aS A 10 := ⟨_, rfl⟩
  rw [← hr] at e1 g1 c0 cc1 c5 c17 c18
  have hr2 : 63 ≤ r ∧ r < 71 := by omega
  have S1 := h.1.ch g1
  have up : ∀ {ν ν' : Mm}, CH b (sRow r) ν ν' → CH b (sFt r) ν ν' := fun g => g.mono fun o k z => decide_eq_true (Or.inr (Or.inl (sRow_e z)))
  obtain ⟨μ2, e2, g2, v2⟩ := m_keeps (b := b) (r := r) (o := 23) (by omega) (by omega) 5 0 5000 μ1 rfl (by omega) S1
  have e2' : f_X11_keepsStack (b + 30) (b + r) 23 μ1 = some ((), μ2) := e2
  have S2 := S1.ch g2
  have t2 := t1.rowR g2 (by omega)
  have gg := guess_ok q1 q.1.2.1 q.2.2.1 hp
  have d5 : mI μ2 (b + r) 5 = nI (guessA A p).1 := by rw [v2 5, if_neg (by omega)]; exact c5
  obtain ⟨μ3, m3⟩ : ∃ μ3, μ3 = sI μ2 (b + 30) 26 (nI (guessA A p).1) := ⟨_, rfl⟩
  have g3 : CH b (sFt r) μ2 μ3 := by rw [m3]; exact CH.put (decide_eq_true (by omega))
  have S3 := S2.ch g3
  have t3 : RT mT b (zS (zS A 10 (aS A 10 + 1)) 6 (aS A 6 + 1)) μ3 := by rw [m3]; exact t2.off (o := 30) (k := 26) _ (by decide +kernel)
  obtain ⟨hf, hhf⟩ : ∃ hf, hf = if isEf (aN A 10 p) = true then 1 else 0 := ⟨_, rfl⟩
  obtain ⟨μ4, m4⟩ : ∃ μ4, μ4 = sI μ3 (b + 30) 27 (nI hf) := ⟨_, rfl⟩
  have g4 : CH b (sFt r) μ3 μ4 := by rw [m4]; exact CH.put (decide_eq_true (by omega))
  have t4 : RT mT b (zS (zS (zS A 10 (aS A 10 + 1)) 6 (aS A 6 + 1)) 12 hf) μ4 := by rw [m4]; exact t3.putS mT_ok (i := 12) rfl hf
  have S4 := S3.ch g4
  have gall : CH b (sFt r) μ μ4 := ((g1.trans (up g2)).trans g3).trans g4
  have i26 : mI μ4 (b + 30) 26 = nI (guessA A p).1 := by rw [m4, mI_ne _ _ (Or.inr (by decide)), m3, mI_at]
  refine ⟨μ4, ?_, ?_, gall.mono fun o k z => ?_⟩
  · -- the text
    have p10 : mI μ3 (b + 31) p = nI (aN A 10 p) := by
      rw [m3, mI_row _ _ (show b + 31 ≠ b + 30 by omega), g2.row2 (show 31 ≠ r by omega), g1.row (o := 31) (fun k => sFt_f (by omega))]
      exact (h.2.2.2.2.2.1 p hp).1
    have ip := inbN (p := p) (n := 64) cp.1 (by omega)
    have clp := clN (show p < 100000 by omega)
    have k1 := S1.1
    have k2 := S2.1
    have s2r := S2.lrow hr2
    have k3 := S3
    unfold SM at k3
    have k4 := S4.1
    have last : ∀ (x : Int32), x = nI hf → f_X11_fetches_b204 (f_X11_fetches_b4 fu) (b + 30) (nI w) (nI p) x (b + 30) μ3 = f_X11_fetches_b4 fu (b + 30) (bI (decide (aS (ft1 A) 11 = p + 1))) (nI (w + 1)) μ4 := fun x hx => by
      subst hx
      have zx : zb (nI hf) = nI hf := by
        rw [hhf]
        split <;> decide
      have k3' := k3.1
      rw [f4]
      by_cases eg : (guessA A p).1 = p + 1
      · have e3 : ¬ ¬ nI (guessA A p).1 = nI (p + 1) := by rw [eg]; exact fun z => z rfl
        rw [decide_eq_true eg]
        simp only [f_X11_fetches_b204, f_X11_fetches_b223, k3', ckT, ck_t zx, zlS, ← m4, k4, i26, nI_1, e3, if_false]
        rfl
      · have e3 : ¬ nI (guessA A p).1 = nI (p + 1) := nIne (by omega) (by omega) eg
        rw [decide_eq_false eg]
        simp only [f_X11_fetches_b204, f_X11_fetches_b223, k3', ckT, ck_t zx, zlS, ← m4, k4, i26, nI_1, e3, not_false_eq_true, if_true]
        rfl
    rw [e1]
    have ne := isEf_n (c := aN A 10 p) (by omega)
    by_cases e18 : nI (aN A 10 p) = 18
    · have hf1 : (1 : Int32) = nI hf := by rw [hhf, if_pos (ne.mp (Or.inl e18))]; rfl
      rw [← last 1 hf1]
      simp only [f_X11_fetches_b160, f_X11_fetches_b199, k1, ckT, cl_t e2', s2r, ckA, ckI, tcL, k2, d5, zlS, ← m3, k3, bdS, ck_t ip, clp, p10, e18, if_true]
    · by_cases e21 : nI (aN A 10 p) = 21
      · have hf1 : (1 : Int32) = nI hf := by rw [hhf, if_pos (ne.mp (Or.inr e21))]; rfl
        have n18 : ¬ (21 : Int32) = 18 := by decide
        have n21 : ¬ ¬ (21 : Int32) = 21 := fun z => z rfl
        rw [← last 1 hf1]
        simp only [f_X11_fetches_b160, f_X11_fetches_b199, k1, ckT, cl_t e2', s2r, ckA, ckI, tcL, k2, d5, zlS, ← m3, k3, bdS, ck_t ip, clp, p10, e21, n18, n21, not_true, if_false]
      · have hf0 : (0 : Int32) = nI hf := by
          rw [hhf, if_neg (fun z => (ne.mpr z).elim e18 e21)]
          rfl
        rw [← last 0 hf0]
        simp only [f_X11_fetches_b160, f_X11_fetches_b199, k1, ckT, cl_t e2', s2r, ckA, ckI, tcL, k2, d5, zlS, ← m3, k3, bdS, ck_t ip, clp, p10, e18, e21, if_false, not_false_eq_true, if_true]
  · -- the model
    obtain ⟨r1, r2, r3, r4, r5, r6, r7, r8, r9, r10, r11⟩ := h
    have hP := ft1_P A
    have rr : ∀ k, k < 23 → mI μ4 (b + r) k = mI μ1 (b + r) k := fun k hk => by
      rw [m4, mI_row _ _ (show b + r ≠ b + 30 by omega), m3, mI_row _ _ (show b + r ≠ b + 30 by omega), v2 k, if_neg (by omega)]
    have rk : ∀ k, k < 5 → mI μ4 (b + r) (23 + k) = mI μ1 (b + 71) k := fun k hk => by
      rw [m4, mI_row _ _ (show b + r ≠ b + 30 by omega), m3, mI_row _ _ (show b + r ≠ b + 30 by omega), v2 (23 + k), if_pos (by omega), show 23 + k - 23 = k by omega]
    have hS : ∀ i, i ≠ 6 → i ≠ 10 → i ≠ 11 → i ≠ 12 → aS (ft1 A) i = aS A i := fun i a1 a2 a3 a4 => f1 i a1 a2 a3 a4
    refine ⟨r1.ch gall, t4.cg (fun i hi => ?_) (fun i k _ _ => by rw [f6]; rfl) (fun i k _ _ => by rw [f7]; rfl), r3.ch gall, fun k hk => ?_, fun k hk => ?_, fun i hi => ?_, ?_, ?_, ?_, fun _ => ?_, fun e he => ?_⟩
    · by_cases i6 : i = 6
      · subst i6
        rw [f2, zS_ne _ _ (by decide), zS_at]
      · by_cases i10 : i = 10
        · subst i10
          rw [f3, zS_ne _ _ (by decide), zS_ne _ _ (by decide), zS_at]
        · by_cases i12 : i = 12
          · subst i12
            rw [f5, zS_at, hhf]
          · have i11 : i ≠ 11 := fun z => by rw [z] at hi; cases hi
            rw [hS i i6 i10 i11 i12, zS_ne _ _ i12, zS_ne _ _ i6, zS_ne _ _ i10]
    · rw [hS 9 (by decide) (by decide) (by decide) (by decide)] at hk
      rw [f8]
      exact ((r4.ch n9 r3 gall (fun o k _ _ => sFt_f (by omega))) k hk).cg hP
    · rw [f3] at hk
      rw [f9]
      by_cases e : k = aS A 10
      · subst e
        rw [up1_eq, ← hr]
        have ec : eC (ft1 A) (newE A p (guessA A p).1 (guessA A p).2) = aN A 10 p := by
          show aN (ft1 A) 10 p = _
          rw [f6]
        have tl : (guessA A p).2.length ≤ 4 := gg.2.1.1
        refine ⟨(rr 0 (by omega)).trans c0, (rr 1 (by omega)).trans cc1, (rr 5 (by omega)).trans c5, (rr 17 (by omega)).trans c17, ⟨?_, fun i hi => ?_⟩, fun a c => ⟨?_, fun i hi => ?_⟩⟩
        · exact (rk 0 (by omega)).trans v1.1
        · have hi2 : i < (guessA A p).2.length := hi
          rw [show 23 + 1 + i = 23 + (1 + i) by omega, rk (1 + i) (by omega)]
          have := v1.2 i hi2
          rw [show 0 + 1 + i = 1 + i by omega] at this
          exact this
        · rw [ec] at a c
          have := (rr 18 (by omega)).trans (c18 0 (by omega))
          rw [this, r9.1]
          show _ = nI (guessA A p).2.length
          rw [guess_st a c]
        · rw [ec] at a c
          have hi2 : i < (guessA A p).2.length := hi
          rw [show 18 + 1 + i = 18 + (1 + i) by omega, rr (18 + (1 + i)) (by omega), c18 (1 + i) (by omega)]
          show _ = nI ((guessA A p).2.getD i 0)
          rw [guess_st a c] at hi2 ⊢
          have := r9.2 i hi2
          rw [show 0 + 1 + i = 1 + i by omega] at this
          exact this
      · rw [up1_ne _ _ e, gall.row (o := 63 + k) (fun j => sFt_f (by omega))]
        exact (r5 k (by omega)).cg hP
    · rw [hS 15 (by decide) (by decide) (by decide) (by decide)] at hi
      rw [hP.1 10 (by omega) (by omega), hP.1 11 (by omega) (by omega), hP.1 12 (by omega) (by omega), hP.1 13 (by omega) (by omega), hP.2]
      exact (r6.ch gall (fun o k a c => sFt_f (by omega))) i hi
    · unfold KM
      rw [f7]
      exact r7.ch gall (fun o k a c => sFt_f (by omega))
    · unfold QM
      rw [f10.2]
      exact r8.ch gall (sFt_f (by omega)) (fun o k a c => sFt_f (by omega))
    · unfold TM
      rw [f10.1, m4, mI_row _ _ (show b + 71 ≠ b + 30 by omega), m3, mI_row _ _ (show b + 71 ≠ b + 30 by omega), g2.row2 (show 71 ≠ r by omega)]
      exact v1
    · rw [f4]
      exact i26
    · rw [hS 14 (by decide) (by decide) (by decide) (by decide)] at he
      rw [f6, f7]
      exact (r11.ch gall (fun o k a c => sFt_f (by omega)) (fun o k z => by
        have := of_decide_eq_true z
        omega)) e he
  · have := of_decide_eq_true z
    exact decide_eq_true (by omega)
theorem m_ftN {n : Nat} (h : aS A 12 ≠ 0 ∨ 2 * aS A 16 ≤ aS A 10 ∨ aS A 15 ≤ aS A 11) : ftL A n = A := by
  cases n with
  | zero => rfl
  | succ n => exact if_pos h
theorem m_ftL : ∀ (n : Nat) {A : Sx} {w fu : Nat} {μ : Mm}, RM b A ρ μ → IV A → w + n = aS A 16 → aS A 6 + n ≤ 2000 → n < fu → ∃ μ', f_X11_fetches_b4 fu (b + 30) 1 (nI w) μ = some ((), μ') ∧ RM b (ftL A n) ρ μ' ∧ CH b sMo μ μ'
  | 0, A, w, fu, μ, h, q, hw, h6, hf => by
    obtain ⟨fu, rfl⟩ : ∃ n, fu = n + 1 := ⟨fu - 1, by omega⟩
    have k0 := h.1.1
    have i6 : mI μ (b + 30) 6 = nI (aS A 16) := h.2.1.1 16 rfl
    have c1 : nI (aS A 16) ≤ nI w := nI_le (by omega) (by have := q.1.1.1; omega)
    exact ⟨μ, by simp only [f_X11_fetches_b4, k0, ckT, i6, c1, if_true], h, CH.refl0⟩
  | n + 1, A, w, fu, μ, h, q, hw, h6, hf => by
    obtain ⟨fu, rfl⟩ : ∃ n, fu = n + 1 := ⟨fu - 1, by omega⟩
    have q1 := q.1.1
    have h16 := q.1.1.1
    have k0 := h.1.1
    have i6 : mI μ (b + 30) 6 = nI (aS A 16) := h.2.1.1 16 rfl
    have i25 : mI μ (b + 30) 25 = nI (aS A 10) := h.2.1.1 10 rfl
    have i5 : mI μ (b + 30) 5 = nI (aS A 15) := h.2.1.1 15 rfl
    have i27 : mI μ (b + 30) 27 = nI (aS A 12) := h.2.1.1 12 rfl
    have c1 : ¬ nI (aS A 16) ≤ nI w := nI_ge (by omega) (by omega)
    have c2 : ¬ (1 : Int32) = 0 := by decide
    have z12 := zb1 q.2.2.2.1
    have w2 : 2 * nI (aS A 16) = nI (2 * aS A 16) := by
      have : ∀ n, n < 5 → 2 * nI n = nI (2 * n) := by decide
      exact this _ (by omega)
    have out : (aS A 12 ≠ 0 ∨ 2 * aS A 16 ≤ aS A 10 ∨ aS A 15 ≤ aS A 11) → f_X11_fetches_b4 (fu + 1) (b + 30) 1 (nI w) μ = some ((), μ) → ∃ μ', f_X11_fetches_b4 (fu + 1) (b + 30) 1 (nI w) μ = some ((), μ') ∧ RM b (ftL A (n + 1)) ρ μ' ∧ CH b sMo μ μ' := fun ho e => ⟨μ, e, by rw [m_ftN ho]; exact h, CH.refl0⟩
    by_cases a12 : aS A 12 = 0
    · have e27 : ¬ ¬ zb (nI (aS A 12)) = 0 := by rw [z12]; exact fun z => z a12
      by_cases al : 2 * aS A 16 ≤ aS A 10
      · have c4 : nI (2 * aS A 16) ≤ nI (aS A 10) := nI_le al (by have := q.2.1; omega)
        exact out (Or.inr (Or.inl al)) (by simp only [f_X11_fetches_b4, k0, ckT, i6, c1, c2, i27, e27, w2, i25, c4, if_false, if_true])
      · have c4 : ¬ nI (2 * aS A 16) ≤ nI (aS A 10) := nI_ge (by omega) (by omega)
        have i26 : mI μ (b + 30) 26 = nI (aS A 11) := h.2.2.2.2.2.2.2.2.2.1 a12
        by_cases ap : aS A 15 ≤ aS A 11
        · have h64 := q.2.2.2.2.2.2.2.2.2.2.1 a12
          have c5 : nI (aS A 15) ≤ nI (aS A 11) := nI_le ap (by omega)
          exact out (Or.inr (Or.inr ap)) (by simp only [f_X11_fetches_b4, k0, ckT, i6, c1, c2, i27, e27, w2, i25, c4, i5, i26, c5, if_false, if_true])
        · obtain ⟨μ1, e1, h1, g1⟩ := m_ft1 (fu := fu) (w := w) h q (by omega) a12 (by omega) (by omega)
          have iv := ft1_ib q.1 q.2 (by omega) a12 (by omega) (by omega)
          have f := ft1_f A
          have l1 : ftL A (n + 1) = if aS (ft1 A) 11 = aS A 11 + 1 then ftL (ft1 A) n else ft1 A := if_neg (by omega)
          rw [e1, l1]
          have f16 := f.1 16 (by decide) (by decide) (by decide) (by decide)
          by_cases eg : aS (ft1 A) 11 = aS A 11 + 1
          · rw [decide_eq_true eg, if_pos eg]
            obtain ⟨μ2, e2, h2, g2⟩ := m_ftL n (w := w + 1) (fu := fu) h1 iv (by rw [f16]; omega) (by rw [f.2.1]; omega) (by omega)
            exact ⟨μ2, e2, h2, g1.trans g2⟩
          · rw [decide_eq_false eg, if_neg eg]
            obtain ⟨fu, rfl⟩ : ∃ n, fu = n + 1 := ⟨fu - 1, by omega⟩
            have k1 := h1.1.1
            have j6 : mI μ1 (b + 30) 6 = nI (aS A 16) := by rw [← f16]; exact h1.2.1.1 16 rfl
            refine ⟨μ1, ?_, h1, g1⟩
            have o0 : bI false = 0 := rfl
            by_cases c6 : nI (aS A 16) ≤ nI (w + 1)
            · simp only [f_X11_fetches_b4, k1, ckT, j6, c6, if_true]
            · simp only [f_X11_fetches_b4, k1, ckT, j6, c6, if_false, o0, if_true]
    · have e27 : ¬ zb (nI (aS A 12)) = 0 := by rw [z12]; exact a12
      exact out (Or.inl a12) (by simp only [f_X11_fetches_b4, k0, ckT, i6, c1, c2, i27, e27, if_false, not_false_eq_true, if_true])
theorem m_rnL : ∀ (n : Nat) {A : Sx} {w fu : Nat} {μ : Mm}, RM b A ρ μ → IV A → QB A → w + n = aS A 16 → n < fu → ∃ μ', f_X11_renames_b2 fu (b + 30) (nI w) μ = some ((), μ') ∧ RM b (rnL A n) ρ μ' ∧ CH b sMo μ μ'
  | 0, A, w, fu, μ, h, q, qb, hw, hf => by
    obtain ⟨fu, rfl⟩ : ∃ n, fu = n + 1 := ⟨fu - 1, by omega⟩
    have k0 := h.1.1
    have i6 : mI μ (b + 30) 6 = nI (aS A 16) := h.2.1.1 16 rfl
    have c1 : nI (aS A 16) ≤ nI w := nI_le (by omega) (by have := q.1.1.1; omega)
    exact ⟨μ, by simp only [f_X11_renames_b2, k0, ckT, i6, c1, if_true], h, CH.refl0⟩
  | n + 1, A, w, fu, μ, h, q, qb, hw, hf => by
    obtain ⟨fu, rfl⟩ : ∃ n, fu = n + 1 := ⟨fu - 1, by omega⟩
    have q1 := q.1.1
    have h16 := q.1.1.1
    have k0 := h.1.1
    have i6 : mI μ (b + 30) 6 = nI (aS A 16) := h.2.1.1 16 rfl
    have i25 : mI μ (b + 30) 25 = nI (aS A 10) := h.2.1.1 10 rfl
    have c1 : ¬ nI (aS A 16) ≤ nI w := nI_ge (by omega) (by omega)
    have n10 : aS A 10 ≤ 8 := by have := q.2.1; omega
    have l1 : rnL A (n + 1) = if aS A 10 ≠ 0 ∧ canRn A (eC A (aL A 0)) = true then rnL (rn1 A) n else A := rfl
    by_cases a10 : aS A 10 = 0
    · have c2 : nI (aS A 10) ≤ 0 := by rw [a10]; decide
      rw [l1, if_neg (fun z => z.1 a10)]
      exact ⟨μ, by simp only [f_X11_renames_b2, k0, ckT, i6, c1, i25, c2, if_false, if_true], h, CH.refl0⟩
    · cases hc : canRn A (eC A (aL A 0))
      · rw [l1, if_neg (fun z => by rw [hc] at z; cases z.2)]
        have l := q.2.2.2.2.1 0 (by omega)
        have hp := q1.p l.1.1
        have s := h.1
        unfold SM at s
        have c2 : ¬ nI (aS A 10) ≤ 0 := nI_nle (by omega) (by omega)
        have h0 : mI μ (b + 63) 0 = nI ((aL A 0).1 0) := (h.2.2.2.2.1 0 (by omega)).1
        have hcr := m_canRn (c := eC A (aL A 0)) h q.1 qb (by have : eC A (aL A 0) = aN A 10 ((aL A 0).1 0) := rfl; omega)
        rw [hc] at hcr
        have p10 : mI μ (b + 31) ((aL A 0).1 0) = nI (eC A (aL A 0)) := (h.2.2.2.2.2.1 _ l.1.1).1
        have ip := inbN (p := (aL A 0).1 0) (n := 64) hp.1 (by omega)
        have clp := clN (show (aL A 0).1 0 < 100000 by omega)
        have i08 : inb 0 8 := by decide
        have s63 := h.1.lrow (o := 63) (by omega)
        have r0 : mR μ (b + 62) 0 = some (b + 63) := h.2.2.1.2.2 0 (by omega)
        have b1 : bI false = 0 := rfl
        exact ⟨μ, by simp only [f_X11_renames_b2, s, s63, ckT, bdS, zlS, ckA, ckI, tcL, i6, c1, if_false, i25, c2, ck_t i08, r0, h0, ck_t ip, clp, p10, hcr, b1, if_true], h, CH.refl0⟩
      · rw [l1, if_pos ⟨a10, hc⟩]
        obtain ⟨μ1, e1, h1, g1⟩ := m_rn1 (fu := fu) (w := w) h q qb (by omega) a10 hc
        have iv := rn1_ib q.1 q.2 a10 hc
        have f16 := (rn1_f A).1 16 (by decide) (by decide) (by decide)
        obtain ⟨μ2, e2, h2, g2⟩ := m_rnL n (w := w + 1) (fu := fu) h1 iv (qb_rn1 qb hc) (by rw [f16]; omega) (by omega)
        exact ⟨μ2, by rw [e1, e2], h2, g1.trans g2⟩
end MF3
