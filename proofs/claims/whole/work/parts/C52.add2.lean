/-! the model: an instruction is told -/
section MAD
variable {b : Nat} {A A' : Sx} {ρ : Nat → Nat} {μ μ' μ2 : Mm} {S : Nat → Nat → Bool}
theorem m_addG {x1 x2 x3 x4 x5 : Int32} : f_X11_add (b + 30) x1 x2 x3 x4 x5 μ = f_X11_add_b68 (b + 30) x1 x2 x3 x4 x5 (bI (okC x1 x2 x3 x4 x5)) μ := by
  unfold f_X11_add f_X11_add_b63 f_X11_add_b67 okC
  rw [m_inR x1 0 21, m_in7, m_in7, m_in7, m_inR x1 12 15, m_in63]
  cases (!decide (x1 < 0) && decide (x1 ≤ 21)) <;> cases rok x2 <;> cases rok x3 <;> cases rok x4 <;> cases (!decide (x1 < 12) && decide (x1 ≤ 15)) <;> cases adok x5 <;> rfl
theorem m_add101 {k : Nat} {x1 x2 x3 x4 x5 : Int32} (h : RM b A ρ μ) (n9 : aS A 9 ≤ 16) (n10 : aS A 10 ≤ 8) (h15 : aS A 15 ≤ 64) (k2 : k ≤ 2) (z0 : k = 0 → aS A 9 = 0 ∧ aS A 10 = 0 ∧ aS A 14 = 0 ∧ aS A 15 < 64 ∧ okC x1 x2 x3 x4 x5 = true) : ∃ (A' : Sx) (μ' : Mm), A' = (if k = 0 then addP A x1.toNatClampNeg x2.toNatClampNeg x3.toNatClampNeg x4.toNatClampNeg x5 else A) ∧ f_X11_add_b101 (b + 30) x1 x2 x3 x4 x5 (nI k) (b + 30) μ = some (if k = 0 then nI (aS A 15) else 0, μ') ∧ RM b A' ρ μ' ∧ mI μ' (b + 30) 54 = nI k ∧ ML b 0 μ μ' := by
  have k0 := h.1.1
  obtain ⟨μ1, m1⟩ : ∃ μ1, μ1 = sI μ (b + 30) 54 (nI k) := ⟨_, rfl⟩
  have R1 : RM b A ρ μ1 := by rw [m1]; exact m_54 h n9 n10
  have s1 := R1.1
  unfold SM at s1
  have e54 : mI μ1 (b + 30) 54 = nI k := by rw [m1]; exact mI_at _ _ _ _
  have l1 : ML b 0 μ μ1 := by rw [m1]; exact ML.put
  by_cases k00 : k = 0
  · obtain ⟨z9, z10, z14, p64, ok⟩ := z0 k00
    obtain ⟨⟨e1, c1⟩, ⟨e2, c2⟩, ⟨e3, c3⟩, ⟨e4, c4⟩, -⟩ := okC_e ok
    have c0 : nI k ≤ 0 := by rw [k00]; decide
    obtain ⟨n, hn⟩ : ∃ n, n = aS A 15 := ⟨_, rfl⟩
    have i5 : mI μ1 (b + 30) 5 = nI n := by rw [hn]; exact R1.2.1.1 15 rfl
    have ib : inb (nI n) 64 := inbN (by omega) (by omega)
    have cn : (nI n).toNatClampNeg = n := clN (by omega)
    obtain ⟨μ2, m2⟩ : ∃ μ2, μ2 = sI (sI (sI (sI (sI μ1 (b + 31) n x1) (b + 32) n x2) (b + 33) n x3) (b + 34) n x4) (b + 35) n x5 := ⟨_, rfl⟩
    obtain ⟨μ3, m3⟩ : ∃ μ3, μ3 = sI μ2 (b + 30) 5 (nI (n + 1)) := ⟨_, rfl⟩
    obtain ⟨S, hS⟩ : ∃ S : Nat → Nat → Bool, S = fun o _ => decide (31 ≤ o ∧ o ≤ 35) := ⟨_, rfl⟩
    have sf : ∀ o k, ¬ (31 ≤ o ∧ o ≤ 35) → S o k = false := fun o k ho => by rw [hS]; exact decide_eq_false ho
    have sT : ∀ o k, S o k = true → 31 ≤ o ∧ o ≤ 35 := fun o k hz => by rw [hS] at hz; exact of_decide_eq_true hz
    have g2 : CH b S μ1 μ2 := by
      have sp : ∀ {o k : Nat}, 31 ≤ o → o ≤ 35 → S o k = true := fun {o k} a c => by rw [hS]; exact decide_eq_true ⟨a, c⟩
      rw [m2]
      exact ((((CH.put (sp (by omega) (by omega))).trans (CH.put (sp (by omega) (by omega)))).trans (CH.put (sp (by omega) (by omega)))).trans (CH.put (sp (by omega) (by omega)))).trans (CH.put (sp (by omega) (by omega)))
    have r31 : mI μ2 (b + 31) = up1 (mI μ1 (b + 31)) n x1 := by
      rw [m2, mI_row _ _ (show b + 31 ≠ b + 35 by omega), mI_row _ _ (show b + 31 ≠ b + 34 by omega), mI_row _ _ (show b + 31 ≠ b + 33 by omega), mI_row _ _ (show b + 31 ≠ b + 32 by omega), mI_up]
    have r32 : mI μ2 (b + 32) = up1 (mI μ1 (b + 32)) n x2 := by
      rw [m2, mI_row _ _ (show b + 32 ≠ b + 35 by omega), mI_row _ _ (show b + 32 ≠ b + 34 by omega), mI_row _ _ (show b + 32 ≠ b + 33 by omega), mI_up, mI_row _ _ (show b + 32 ≠ b + 31 by omega)]
    have r33 : mI μ2 (b + 33) = up1 (mI μ1 (b + 33)) n x3 := by
      rw [m2, mI_row _ _ (show b + 33 ≠ b + 35 by omega), mI_row _ _ (show b + 33 ≠ b + 34 by omega), mI_up, mI_row _ _ (show b + 33 ≠ b + 32 by omega), mI_row _ _ (show b + 33 ≠ b + 31 by omega)]
    have r34 : mI μ2 (b + 34) = up1 (mI μ1 (b + 34)) n x4 := by
      rw [m2, mI_row _ _ (show b + 34 ≠ b + 35 by omega), mI_up, mI_row _ _ (show b + 34 ≠ b + 33 by omega), mI_row _ _ (show b + 34 ≠ b + 32 by omega), mI_row _ _ (show b + 34 ≠ b + 31 by omega)]
    have r35 : mI μ2 (b + 35) = up1 (mI μ1 (b + 35)) n x5 := by
      rw [m2, mI_up, mI_row _ _ (show b + 35 ≠ b + 34 by omega), mI_row _ _ (show b + 35 ≠ b + 33 by omega), mI_row _ _ (show b + 35 ≠ b + 32 by omega), mI_row _ _ (show b + 35 ≠ b + 31 by omega)]
    have r30 : ∀ j, mI μ2 (b + 30) j = mI μ1 (b + 30) j := fun j => g2.cell (sf _ _ (by omega))
    have T2 : RT mT b A μ2 := R1.2.1.ch g2 (fun o k hz => by have := sT o k hz; omega)
    have T3 : RT mT b (zS A 15 (n + 1)) μ3 := by rw [m3]; exact T2.putS mT_ok (i := 15) rfl (n + 1)
    have g3 : CH b (fun o k => o == 30 && k == 5) μ2 μ3 := by rw [m3]; exact CH.put rfl
    have g : CH b (fun o k => decide (31 ≤ o ∧ o ≤ 35) || (o == 30 && k == 5)) μ1 μ3 := (g2.mono (fun o k hz => by simp [sT o k hz])).trans (g3.mono (fun o k hz => by
      simp only [Bool.and_eq_true, beq_iff_eq] at hz
      simp [hz]))
    have gS : ∀ o k, (fun o k => decide (31 ≤ o ∧ o ≤ 35) || (o == 30 && k == 5)) o k = true → (31 ≤ o ∧ o ≤ 35) ∨ (o = 30 ∧ k = 5) := fun o k hz => by
      simp only [Bool.or_eq_true, decide_eq_true_eq, Bool.and_eq_true, beq_iff_eq] at hz
      exact hz
    have gF : ∀ o k, ¬ ((31 ≤ o ∧ o ≤ 35) ∨ (o = 30 ∧ k = 5)) → (fun o k => decide (31 ≤ o ∧ o ≤ 35) || (o == 30 && k == 5)) o k = false := fun o k ho => by
      cases hz : (fun o k => decide (31 ≤ o ∧ o ≤ 35) || (o == 30 && k == 5)) o k
      · rfl
      · exact absurd (gS o k hz) ho
    obtain ⟨B, hB⟩ : ∃ B, B = addP A x1.toNatClampNeg x2.toNatClampNeg x3.toNatClampNeg x4.toNatClampNeg x5 := ⟨_, rfl⟩
    have es : ∀ i, i ≠ 15 → aS B i = aS A i := fun i hi => by rw [hB]; exact zS_ne _ _ hi
    have es15 : aS B 15 = n + 1 := by rw [hB, hn]; exact zS_at _ _ _
    have ev : ∀ r, r ≠ 5 → aV B r = aV A r := fun r hr => by rw [hB]; exact zV_ne _ _ _ hr
    have rowN : ∀ (q v : Nat) (C : Sx) (p : Nat), aN (zN C q n v) q p = if p = n then v else aN C q p := fun q v C p => by
      show up2 (aN C) q n v q p = _
      rw [up2_eq, up1_if]
    have b10 : ∀ p, aN B 10 p = if p = n then x1.toNatClampNeg else aN A 10 p := fun p => by
      rw [hB]
      show aN (zN (zN (zN (zN A 10 (aS A 15) x1.toNatClampNeg) 11 (aS A 15) x2.toNatClampNeg) 12 (aS A 15) x3.toNatClampNeg) 13 (aS A 15) x4.toNatClampNeg) 10 p = _
      rw [← hn, zN_ne _ _ _ (by decide), zN_ne _ _ _ (by decide), zN_ne _ _ _ (by decide), rowN]
    have b11 : ∀ p, aN B 11 p = if p = n then x2.toNatClampNeg else aN A 11 p := fun p => by
      rw [hB]
      show aN (zN (zN (zN (zN A 10 (aS A 15) x1.toNatClampNeg) 11 (aS A 15) x2.toNatClampNeg) 12 (aS A 15) x3.toNatClampNeg) 13 (aS A 15) x4.toNatClampNeg) 11 p = _
      rw [← hn, zN_ne _ _ _ (by decide), zN_ne _ _ _ (by decide), rowN, zN_ne _ _ _ (by decide)]
    have b12 : ∀ p, aN B 12 p = if p = n then x3.toNatClampNeg else aN A 12 p := fun p => by
      rw [hB]
      show aN (zN (zN (zN (zN A 10 (aS A 15) x1.toNatClampNeg) 11 (aS A 15) x2.toNatClampNeg) 12 (aS A 15) x3.toNatClampNeg) 13 (aS A 15) x4.toNatClampNeg) 12 p = _
      rw [← hn, zN_ne _ _ _ (by decide), rowN, zN_ne _ _ _ (by decide), zN_ne _ _ _ (by decide)]
    have b13 : ∀ p, aN B 13 p = if p = n then x4.toNatClampNeg else aN A 13 p := fun p => by
      rw [hB]
      show aN (zN (zN (zN (zN A 10 (aS A 15) x1.toNatClampNeg) 11 (aS A 15) x2.toNatClampNeg) 12 (aS A 15) x3.toNatClampNeg) 13 (aS A 15) x4.toNatClampNeg) 13 p = _
      rw [← hn, rowN, zN_ne _ _ _ (by decide), zN_ne _ _ _ (by decide), zN_ne _ _ _ (by decide)]
    have b5 : ∀ p, aV B 5 p = if p = n then x5 else aV A 5 p := fun p => by
      rw [hB]
      show up2 (aV _) 5 (aS A 15) x5 5 p = _
      rw [up2_eq, up1_if, ← hn]
      rfl
    have TB : RT mT b B μ3 := T3.cg (fun i _ => by
      by_cases e : i = 15
      · rw [e, es15, zS_at]
      · rw [es i e, zS_ne _ _ e]) (fun r k hr _ => by
      rw [hB]
      show aN (zN (zN (zN (zN A 10 _ _) 11 _ _) 12 _ _) 13 _ _) r k = _
      rw [zN_ne _ _ _ (by omega), zN_ne _ _ _ (by omega), zN_ne _ _ _ (by omega), zN_ne _ _ _ (by omega)]
      rfl) (fun r k hr _ => by rw [ev r (by omega)]; rfl)
    obtain ⟨r1, r2, r3, r4, r5, r6, r7, r8, r9, r10, r11⟩ := R1
    have R3 : RM b B ρ μ3 := by
      refine ⟨r1.ch g, TB, r3.ch g, fun k hk => ?_, fun k hk => ?_, fun p hp => ?_, ?_, ?_, ?_, fun q => ?_, fun e he => ?_⟩
      · rw [es 9 (by decide)] at hk; omega
      · rw [es 10 (by decide)] at hk; omega
      · rw [es15] at hp
        rw [m3, mI_row _ _ (show b + 31 ≠ b + 30 by omega), mI_row _ _ (show b + 32 ≠ b + 30 by omega), mI_row _ _ (show b + 33 ≠ b + 30 by omega), mI_row _ _ (show b + 34 ≠ b + 30 by omega), mI_row _ _ (show b + 35 ≠ b + 30 by omega), r31, r32, r33, r34, r35, b10, b11, b12, b13, b5]
        simp only [up1_if]
        by_cases e : p = n
        · simp only [if_pos e]
          exact ⟨e1, e2, e3, e4, trivial⟩
        · simp only [if_neg e]
          exact r6 p (by omega)
      · unfold KM
        rw [ev 6 (by decide), ev 7 (by decide)]
        exact r7.ch g (fun o k _ _ => gF o k (by omega))
      · unfold QM
        rw [show aQ B = aQ A by rw [hB]; rfl]
        exact r8.ch g (gF _ _ (by omega)) (fun o k _ _ => gF o k (by omega))
      · unfold TM
        rw [show aT B = aT A by rw [hB]; rfl]
        exact r9.ch g (fun k => gF _ _ (by omega))
      · rw [es 12 (by decide)] at q
        rw [es 11 (by decide)]
        exact r10.ch g (gF _ _ (by omega)) q
      · rw [es 14 (by decide)] at he; omega
    have mk : ML b 0 μ1 μ3 := (g.mono (S' := sMo) (fun o k hz => by
      have := gS o k hz
      exact decide_eq_true (by omega))).mk.ml
    refine ⟨B, μ3, by rw [if_pos k00, hB], ?_, R3, ?_, l1.trans mk⟩
    · rw [if_pos k00, ← hn]
      have q30 : ∀ {ν : Mm} {o k2 : Nat} {v : Int32}, o ≠ 30 → mI (sI ν (b + o) k2 v) (b + 30) = mI ν (b + 30) := fun {ν o k2 v} ho => mI_row _ _ (by omega)
      have at5 : mI (sI μ2 (b + 30) 5 (nI (n + 1))) (b + 30) 5 = nI (n + 1) := mI_at _ _ _ _
      have pr : nI (n + 1) - 1 = nI n := nI_pred _
      have q5 : mI μ2 (b + 30) 5 = nI n := by rw [r30 5]; exact i5
      simp only [f_X11_add_b101, k0, ckT, zlS, ← m1, s1, e54, c0, if_true, bdS, ckA, i5, cn, ck_t ib, mR_sI', mK_sI, mL_sI, q30 (show 31 ≠ 30 by decide), q30 (show 32 ≠ 30 by decide), q30 (show 33 ≠ 30 by decide), q30 (show 34 ≠ 30 by decide), ← m2, q5, nI_1, at5, pr]
      rw [m3]
    · rw [g.cell (o := 30) (k := 54) (gF _ _ (by omega))]
      exact e54
  · have c0 : ¬ nI k ≤ 0 := nI_nle (by omega) (by omega)
    refine ⟨A, μ1, (if_neg k00).symm, ?_, R1, e54, l1⟩
    rw [if_neg k00]
    simp only [f_X11_add_b101, k0, ckT, zlS, ← m1, s1, e54, c0, if_false]
theorem m_addI {x1 x2 x3 x4 x5 : Int32} (h : RM b A ρ μ) (n9 : aS A 9 ≤ 16) (n10 : aS A 10 ≤ 8) (h0 : aS A 0 ≤ 500) (h15 : aS A 15 ≤ 64) (z0 : aS A 0 = 0 → aS A 9 = 0 ∧ aS A 10 = 0 ∧ aS A 14 = 0) : ∃ (A' : Sx) (μ' : Mm), A' = (if kAdd A (okC x1 x2 x3 x4 x5) = 0 then addP A x1.toNatClampNeg x2.toNatClampNeg x3.toNatClampNeg x4.toNatClampNeg x5 else A) ∧ f_X11_add (b + 30) x1 x2 x3 x4 x5 μ = some (if kAdd A (okC x1 x2 x3 x4 x5) = 0 then nI (aS A 15) else 0, μ') ∧ RM b A' ρ μ' ∧ mI μ' (b + 30) 54 = nI (kAdd A (okC x1 x2 x3 x4 x5)) ∧ ML b 0 μ μ' := by
  have k0 := h.1.1
  have h36 : mI μ (b + 30) 36 = nI (aS A 0) := h.2.1.1 0 rfl
  have i5 : mI μ (b + 30) 5 = nI (aS A 15) := h.2.1.1 15 rfl
  obtain ⟨k, hk⟩ : ∃ k, k = kAdd A (okC x1 x2 x3 x4 x5) := ⟨_, rfl⟩
  have kk : k ≤ 2 ∧ (k = 0 → okC x1 x2 x3 x4 x5 = true ∧ aS A 0 = 0 ∧ aS A 15 < 64) := by
    rw [hk]
    unfold kAdd
    split
    · exact ⟨by decide, fun y => by cases y⟩
    · rename_i c1
      have ok : okC x1 x2 x3 x4 x5 = true := by
        cases hb : okC x1 x2 x3 x4 x5
        · exact absurd hb c1
        · rfl
      split
      · rename_i c2
        exact ⟨by decide, fun _ => ⟨ok, c2⟩⟩
      · exact ⟨by decide, fun y => by cases y⟩
  have M := m_add101 (k := k) (x1 := x1) (x2 := x2) (x3 := x3) (x4 := x4) (x5 := x5) h n9 n10 h15 kk.1 (fun y => by
    obtain ⟨c1, c2, c3⟩ := kk.2 y
    obtain ⟨d1, d2, d3⟩ := z0 c2
    exact ⟨d1, d2, d3, c3, c1⟩)
  rw [← hk]
  have run : f_X11_add (b + 30) x1 x2 x3 x4 x5 μ = f_X11_add_b101 (b + 30) x1 x2 x3 x4 x5 (nI k) (b + 30) μ := by
    rw [m_addG]
    cases ok : okC x1 x2 x3 x4 x5
    · have e1 : k = 1 := by rw [hk, ok]; rfl
      rw [e1]
      have nn : ¬ ¬ bI false = 0 := fun y => y rfl
      simp only [f_X11_add_b68, nn, if_false]
      rfl
    · have b1 : ¬ bI true = 0 := by decide
      by_cases a0 : aS A 0 = 0
      · have c0 : ¬ (0 : Int32) < nI (aS A 0) := by rw [a0]; decide
        by_cases p64 : aS A 15 < 64
        · have e0 : k = 0 := by rw [hk, ok]; unfold kAdd; rw [if_neg (by decide), if_pos ⟨a0, p64⟩]
          have c5 : ¬ nI (aS A 15) = 64 := fun q => by
            have := congrArg Int32.toInt q
            rw [nI_toInt (by omega), show (64 : Int32).toInt = 64 by decide] at this
            omega
          rw [e0]
          simp only [f_X11_add_b68, b1, not_false_eq_true, if_true, k0, ckT, h36, c0, if_false, i5, c5]
          rfl
        · have e2 : k = 2 := by rw [hk, ok]; unfold kAdd; rw [if_neg (by decide), if_neg (fun y => p64 y.2)]
          have c5 : ¬ ¬ nI (aS A 15) = 64 := fun q => q (by rw [show aS A 15 = 64 by omega]; rfl)
          rw [e2]
          simp only [f_X11_add_b68, f_X11_add_b96, b1, not_false_eq_true, if_true, k0, ckT, h36, c0, if_false, i5, c5]
          rfl
      · have c0 : (0 : Int32) < nI (aS A 0) := nI_lt (a := 0) (by omega) (by omega)
        have e2 : k = 2 := by rw [hk, ok]; unfold kAdd; rw [if_neg (by decide), if_neg (fun y => a0 y.1)]
        rw [e2]
        simp only [f_X11_add_b68, f_X11_add_b96, b1, not_false_eq_true, if_true, k0, ckT, h36, c0]
        rfl
  rw [run]
  exact M
end MAD
