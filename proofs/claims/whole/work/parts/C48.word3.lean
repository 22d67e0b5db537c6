/-! the model: a word, a register is set -/
section MWD
variable {b : Nat} {A A' : Sx} {ρ : Nat → Nat} {μ μ' μ2 : Mm} {S : Nat → Nat → Bool}
/-- the first registers, the first words -/
theorem RM.k67 {q a : Nat} {v : Int32} (h : RM b A ρ μ) (n9 : aS A 9 ≤ 16) (n10 : aS A 10 ≤ 8) (hq : q = 6 ∨ q = 7) : RM b (zV A q a v) ρ (sI μ (b + (30 + q)) a v) := by
  obtain ⟨r1, r2, r3, r4, r5, r6, r7, r8, r9, r10, r11⟩ := h
  obtain ⟨S, hS⟩ : ∃ S : Nat → Nat → Bool, S = fun o _ => o == 30 + q := ⟨_, rfl⟩
  have g : CH b S μ (sI μ (b + (30 + q)) a v) := CH.put (by rw [hS]; simp)
  have sf : ∀ o k, o ≠ 30 + q → S o k = false := fun o k ho => by rw [hS]; simpa using ho
  have sT : ∀ o k, S o k = true → o = 30 + q := fun o k z => by rw [hS] at z; simpa using z
  have hP : SamP A (zV A q a v) := ⟨fun _ _ _ => rfl, zV_ne _ _ _ (by omega)⟩
  refine ⟨r1.ch g, (r2.ch g (fun o k z => by have := sT o k z; omega)).cg (fun _ _ => rfl) (fun _ _ _ _ => rfl) (fun r k hr _ => by rw [zV_ne _ _ _ (by omega)]), r3.ch g, fun k hk => (r4.ch n9 r3 g (fun o j _ _ => sf o j (by omega)) k hk).cg hP, fun k hk => (r5.ch n10 g (fun o j _ _ => sf o j (by omega)) k hk).cg hP, fun p hp => ?_, ?_, r8.ch g (sf _ _ (by omega)) (fun o j _ _ => sf o j (by omega)), r9.ch g (fun j => sf _ _ (by omega)), r10.ch g (sf _ _ (by omega)), fun e he => ?_⟩
  · rw [hP.2]
    exact r6.ch g (fun o j _ _ => sf o j (by omega)) p hp
  · obtain ⟨k1, k2⟩ := r7
    rcases hq with rfl | rfl
    · refine ⟨fun r hr => ?_, fun r hr => ?_⟩
      · rw [mI_up, up1_if]
        show _ = up1 (aV A 6) a v r
        rw [up1_if, k1 r hr]
      · rw [mI_row _ _ (by omega), zV_ne _ _ _ (by decide)]
        exact k2 r hr
    · refine ⟨fun r hr => ?_, fun r hr => ?_⟩
      · rw [mI_row _ _ (by omega), zV_ne _ _ _ (by decide)]
        exact k1 r hr
      · rw [mI_up, up1_if]
        show _ = up1 (aV A 7) a v r
        rw [up1_if, k2 r hr]
  · rw [zV_ne _ _ _ (by omega)]
    exact r11.ch g (fun o j _ _ => sf o j (by omega)) (fun o j z => by have := sT o j z; omega) e he
theorem m_in63 (x : Int32) : f_X11_in x 0 63 = some (bI (adok x)) := by
  rw [m_in, le63]
  rfl
theorem m_setWord {x v : Int32} (h : RM b A ρ μ) (n9 : aS A 9 ≤ 16) (n10 : aS A 10 ≤ 8) (h0 : aS A 0 ≤ 500) : ∃ (A' : Sx) (μ' : Mm), A' = (if kSet A (adok x) = 0 then zV (zV A 2 x.toNatClampNeg v) 7 x.toNatClampNeg v else A) ∧ f_X11_setWord (b + 30) x v μ = some (if kSet A (adok x) = 0 then aV A 2 x.toNatClampNeg else 0, μ') ∧ RM b A' ρ μ' ∧ mI μ' (b + 30) 54 = nI (kSet A (adok x)) ∧ ML b 0 μ μ' := by
  have k0 := h.1.1
  have i1 := m_in63 x
  have b0 : bI false = 0 := rfl
  have b1 : ¬ bI true = 0 := by decide
  have cn := m_cannot (p := adok x) h h0
  obtain ⟨k, hk⟩ : ∃ k, k = kSet A (adok x) := ⟨_, rfl⟩
  rw [← hk] at cn ⊢
  obtain ⟨μ1, m1⟩ : ∃ μ1, μ1 = sI μ (b + 30) 54 (nI k) := ⟨_, rfl⟩
  have R1 : RM b A ρ μ1 := by rw [m1]; exact m_54 h n9 n10
  rw [← m1] at cn
  have s1 := R1.1
  unfold SM at s1
  have e54 : mI μ1 (b + 30) 54 = nI k := by rw [m1]; exact mI_at _ _ _ _
  have l1 : ML b 0 μ μ1 := by rw [m1]; exact ML.put
  by_cases k00 : k = 0
  · rw [decide_eq_false (p := k ≠ 0) (fun t => t k00)] at cn
    have hx : adok x = true := by
      rw [k00] at hk
      cases hb : adok x
      · rw [hb] at hk; cases hk
      · rfl
    obtain ⟨e, a64⟩ := adok_e hx
    obtain ⟨a, ha⟩ : ∃ a, a = x.toNatClampNeg := ⟨_, rfl⟩
    rw [← ha] at e a64 ⊢
    have ix : inb x 64 := by rw [e]; exact inbN a64 (by omega)
    have iw : mI μ1 (b + 39) a = aV A 2 a := by
      have := R1.2.1.2.2 2 a (by decide) a64
      rw [show (mT.2.2 2).2 + a = a from Nat.zero_add _] at this
      exact this
    have t1 := R1.2.1.putV mT_ok (q := 2) (j := a) (by omega) a64 v
    rw [show (mT.2.2 2).2 + a = a from Nat.zero_add _] at t1
    have R2 : RM b (zV A 2 a v) ρ (sI μ1 (b + 39) a v) := R1.next (S := fun o k => o == 39) t1 (CH.put rfl) (fun o k z => by
      simp only [beq_iff_eq] at z
      exact decide_eq_true (by omega)) n9 n10 ⟨fun _ _ _ => rfl, zV_ne _ _ _ (by decide)⟩ (Nat.le_refl _) (fun _ _ => rfl) (Nat.le_refl _) (fun _ _ => rfl) rfl (zV_ne _ _ _ (by decide)) (zV_ne _ _ _ (by decide)) rfl rfl (fun z => ⟨z, rfl⟩) rfl (fun _ _ => rfl) (zV_ne _ _ _ (by decide))
    have R3 := R2.k67 (q := 7) (a := a) (v := v) n9 n10 (Or.inr rfl)
    refine ⟨_, sI (sI μ1 (b + 39) a v) (b + 37) a v, (if_pos k00).symm, ?_, R3, by rw [mI_row _ _ (by omega), mI_row _ _ (by omega)]; exact e54, (l1.trans (ML.putO (by omega) (by omega))).trans (ML.putO (by omega) (by omega))⟩
    rw [if_pos k00]
    simp only [f_X11_setWord, i1, bdS, k0, ckT, cl_t cn, b0, if_true, s1, ckA, ck_t ix, ← ha, zlS, mR_sI', mK_sI, mL_sI, iw]
  · rw [decide_eq_true (p := k ≠ 0) k00] at cn
    refine ⟨A, μ1, (if_neg k00).symm, ?_, R1, e54, l1⟩
    rw [if_neg k00]
    simp only [f_X11_setWord, i1, bdS, k0, ckT, cl_t cn, b1, if_false]
/-! a register -/
def rok (x : Int32) : Bool := !decide (x < 0) && decide (x ≤ 7)
theorem rok_e {x : Int32} (h : rok x = true) : x = nI x.toNatClampNeg ∧ x.toNatClampNeg < 8 := by
  unfold rok at h
  simp only [Bool.and_eq_true, Bool.not_eq_true', decide_eq_false_iff_not, decide_eq_true_eq] at h
  obtain ⟨n, -, n2, e⟩ := i32r (lo := 0) (hi := 7) (by omega) (by omega) h.1 h.2
  have en : x.toNatClampNeg = n := by rw [e]; exact clN (by omega)
  rw [en]
  exact ⟨e, by omega⟩
theorem c_isReg (x : Int32) : f_X10_isRegister x = some (bI (rok x)) := by
  have e : (x ≤ 7) = ¬ (8 ≤ x) := by
    rw [Int32.le_iff_toInt_le, Int32.le_iff_toInt_le]
    have h1 : (7 : Int32).toInt = 7 := by decide
    have h2 : (8 : Int32).toInt = 8 := by decide
    rw [h1, h2]
    exact propext ⟨fun h => by omega, fun h => by omega⟩
  unfold f_X10_isRegister rok
  by_cases h1 : x < 0
  · rw [if_pos h1, decide_eq_true h1]
    rfl
  · rw [if_neg h1, decide_eq_false h1]
    by_cases h2 : 8 ≤ x
    · rw [if_pos h2, decide_eq_false (by rw [e]; exact fun t => t h2)]
      rfl
    · rw [if_neg h2, decide_eq_true (by rw [e]; exact h2)]
      rfl
theorem m_in7 (x : Int32) : f_X11_in x 0 7 = some (bI (rok x)) := m_inR x 0 7
/-- before the first cycle the maps are what they were -/
theorem m_setReg {x v : Int32} (h : RM b A ρ μ) (n9 : aS A 9 ≤ 16) (n10 : aS A 10 ≤ 8) (h0 : aS A 0 ≤ 500) : ∃ (A' : Sx) (μ' : Mm), A' = (if kSet A (rok x) = 0 then zV (zV A 1 x.toNatClampNeg v) 6 x.toNatClampNeg v else A) ∧ f_X11_setRegister (b + 30) x v μ = some (if kSet A (rok x) = 0 then aV A 1 x.toNatClampNeg else 0, μ') ∧ RM b A' ρ μ' ∧ mI μ' (b + 30) 54 = nI (kSet A (rok x)) ∧ ML b 0 μ μ' := by
  have k0 := h.1.1
  have i1 := m_in7 x
  have b0 : bI false = 0 := rfl
  have b1 : ¬ bI true = 0 := by decide
  have cn := m_cannot (p := rok x) h h0
  obtain ⟨k, hk⟩ : ∃ k, k = kSet A (rok x) := ⟨_, rfl⟩
  rw [← hk] at cn ⊢
  obtain ⟨μ1, m1⟩ : ∃ μ1, μ1 = sI μ (b + 30) 54 (nI k) := ⟨_, rfl⟩
  have R1 : RM b A ρ μ1 := by rw [m1]; exact m_54 h n9 n10
  rw [← m1] at cn
  have s1 := R1.1
  unfold SM at s1
  have e54 : mI μ1 (b + 30) 54 = nI k := by rw [m1]; exact mI_at _ _ _ _
  have l1 : ML b 0 μ μ1 := by rw [m1]; exact ML.put
  by_cases k00 : k = 0
  · rw [decide_eq_false (p := k ≠ 0) (fun t => t k00)] at cn
    have hx : rok x = true := by
      rw [k00] at hk
      cases hb : rok x
      · rw [hb] at hk; cases hk
      · rfl
    obtain ⟨e, a8⟩ := rok_e hx
    obtain ⟨a, ha⟩ : ∃ a, a = x.toNatClampNeg := ⟨_, rfl⟩
    rw [← ha] at e a8 ⊢
    have ix : inb x 24 := by rw [e]; exact inbN (by omega) (by omega)
    have ix8 : inb x 8 := by rw [e]; exact inbN a8 (by omega)
    have iw : mI μ1 (b + 42) a = aV A 1 a := by
      have := R1.2.1.2.2 1 a (by decide) (show a < 24 by omega)
      rw [show (mT.2.2 1).2 + a = a from Nat.zero_add _] at this
      exact this
    have t1 := R1.2.1.putV mT_ok (q := 1) (j := a) (by omega) (show a < 24 by omega) v
    rw [show (mT.2.2 1).2 + a = a from Nat.zero_add _] at t1
    have R2 : RM b (zV A 1 a v) ρ (sI μ1 (b + 42) a v) := R1.next (S := fun o k => o == 42) t1 (CH.put rfl) (fun o k z => by
      simp only [beq_iff_eq] at z
      exact decide_eq_true (by omega)) n9 n10 ⟨fun _ _ _ => rfl, zV_ne _ _ _ (by decide)⟩ (Nat.le_refl _) (fun _ _ => rfl) (Nat.le_refl _) (fun _ _ => rfl) rfl (zV_ne _ _ _ (by decide)) (zV_ne _ _ _ (by decide)) rfl rfl (fun z => ⟨z, rfl⟩) rfl (fun _ _ => rfl) (zV_ne _ _ _ (by decide))
    have R3 := R2.k67 (q := 6) (a := a) (v := v) n9 n10 (Or.inl rfl)
    refine ⟨_, sI (sI μ1 (b + 42) a v) (b + 36) a v, (if_pos k00).symm, ?_, R3, by rw [mI_row _ _ (by omega), mI_row _ _ (by omega)]; exact e54, (l1.trans (ML.putO (by omega) (by omega))).trans (ML.putO (by omega) (by omega))⟩
    rw [if_pos k00]
    simp only [f_X11_setRegister, i1, bdS, k0, ckT, cl_t cn, b0, if_true, s1, ckA, ck_t ix, ck_t ix8, ← ha, zlS, mR_sI', mK_sI, mL_sI, iw]
  · rw [decide_eq_true (p := k ≠ 0) k00] at cn
    refine ⟨A, μ1, (if_neg k00).symm, ?_, R1, e54, l1⟩
    rw [if_neg k00]
    simp only [f_X11_setRegister, i1, bdS, k0, ckT, cl_t cn, b1, if_false]
end MWD
