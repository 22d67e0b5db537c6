/-! the model: handlers -/
section MHN
variable {b : Nat} {A A' : Sx} {ρ : Nat → Nat} {μ μ' μ2 : Mm} {S : Nat → Nat → Bool}
theorem m_setHand {x y : Int32} (h : RM b A ρ μ) (n9 : aS A 9 ≤ 16) (n10 : aS A 10 ≤ 8) (h0 : aS A 0 ≤ 500) : ∃ (A' : Sx) (μ' : Mm), A' = (if kSet A (okH x && okH y) = 0 then zV (zV A 0 0 x) 0 1 y else A) ∧ f_X11_setHandlers (b + 30) x y μ = some (if kSet A (okH x && okH y) = 0 then 64 * aV A 0 0 + aV A 0 1 else 0, μ') ∧ RM b A' ρ μ' ∧ mI μ' (b + 30) 54 = nI (kSet A (okH x && okH y)) ∧ ML b 0 μ μ' := by
  have k0 := h.1.1
  have i1 := m_inR x (-1) 63
  have i2 := m_inR y (-1) 63
  rw [okH_r] at i1 i2
  have b0 : bI false = 0 := rfl
  have b1 : ¬ bI true = 0 := by decide
  have run : f_X11_setHandlers (b + 30) x y μ = f_X11_setHandlers_b26 (b + 30) x y (bI (okH x && okH y)) (b + 30) μ := by
    cases hx : okH x
    · rw [hx] at i1
      simp only [f_X11_setHandlers, f_X11_setHandlers_b25, i1, bdS, b0, if_true, Bool.false_and]
    · rw [hx] at i1
      cases hy : okH y
      · rw [hy] at i2
        simp only [f_X11_setHandlers, f_X11_setHandlers_b25, i1, i2, bdS, b0, b1, if_true, if_false, Bool.and_false]
      · rw [hy] at i2
        simp only [f_X11_setHandlers, i1, i2, bdS, b1, if_false]
        rfl
  rw [run]
  have cn := m_cannot (p := okH x && okH y) h h0
  obtain ⟨k, hk⟩ : ∃ k, k = kSet A (okH x && okH y) := ⟨_, rfl⟩
  rw [← hk] at cn ⊢
  obtain ⟨μ1, m1⟩ : ∃ μ1, μ1 = sI μ (b + 30) 54 (nI k) := ⟨_, rfl⟩
  have R1 : RM b A ρ μ1 := by rw [m1]; exact m_54 h n9 n10
  rw [← m1] at cn
  have k1 := R1.1.1
  have i10 : mI μ1 (b + 30) 10 = aV A 0 0 := R1.2.1.2.2 0 0 (by decide) (by decide)
  have i11 : mI μ1 (b + 30) 11 = aV A 0 1 := R1.2.1.2.2 0 1 (by decide) (by decide)
  have e54 : mI μ1 (b + 30) 54 = nI k := by rw [m1]; exact mI_at _ _ _ _
  have l1 : ML b 0 μ μ1 := by rw [m1]; exact ML.put
  by_cases k00 : k = 0
  · rw [decide_eq_false (p := k ≠ 0) (fun t => t k00)] at cn
    have t1 := R1.2.1.putV mT_ok (q := 0) (j := 0) (by omega) (show 0 < 2 by omega) x
    have t2 := t1.putV mT_ok (q := 0) (j := 1) (by omega) (show 1 < 2 by omega) y
    have ev : ∀ r, r ≠ 0 → aV (zV (zV A 0 0 x) 0 1 y) r = aV A r := fun r hr => by rw [zV_ne _ _ _ hr, zV_ne _ _ _ hr]
    have R2 : RM b (zV (zV A 0 0 x) 0 1 y) ρ (sI (sI μ1 (b + 30) 10 x) (b + 30) 11 y) := R1.next (S := fun o k => o == 30 && (k == 10 || k == 11)) t2 ((CH.put rfl).trans (CH.put rfl)) (fun o k z => by
      simp only [Bool.and_eq_true, Bool.or_eq_true, beq_iff_eq] at z
      exact decide_eq_true (by omega)) n9 n10 ⟨fun _ _ _ => rfl, ev 5 (by decide)⟩ (Nat.le_refl _) (fun _ _ => rfl) (Nat.le_refl _) (fun _ _ => rfl) rfl (ev 6 (by decide)) (ev 7 (by decide)) rfl rfl (fun z => ⟨z, rfl⟩) rfl (fun _ _ => rfl) (ev 8 (by decide))
    refine ⟨_, sI (sI μ1 (b + 30) 10 x) (b + 30) 11 y, (if_pos k00).symm, ?_, R2, by rw [mI_ne _ _ (Or.inr (by decide)), mI_ne _ _ (Or.inr (by decide))]; exact e54, (l1.trans ML.put).trans ML.put⟩
    rw [if_pos k00]
    simp only [f_X11_setHandlers_b26, k0, ckT, cl_t cn, b0, if_true, k1, zlS, i10, i11]
  · rw [decide_eq_true (p := k ≠ 0) k00] at cn
    refine ⟨A, μ1, (if_neg k00).symm, ?_, R1, e54, l1⟩
    rw [if_neg k00]
    simp only [f_X11_setHandlers_b26, k0, ckT, cl_t cn, b1, if_false]
end MHN
