/-! the model: traps, interrupts -/
section MTR
variable {b : Nat} {A B A' : Sx} {ρ : Nat → Nat} {μ μ' μ2 : Mm} {S : Nat → Nat → Bool}
theorem m_put {i n : Nat} (h : RM b A ρ μ) (n9 : aS A 9 ≤ 16) (n10 : aS A 10 ≤ 8) (hi : scI i = true) (h1 : i ≠ 9 ∧ i ≠ 10 ∧ i ≠ 11 ∧ i ≠ 12 ∧ i ≠ 14 ∧ i ≠ 15) : RM b (zS A i n) ρ (sI μ (b + 30) (mT.1 i).2 (nI n)) ∧ CH b sMo μ (sI μ (b + 30) (mT.1 i).2 (nI n)) := by
  have k1 : ∀ i, i < 25 → scI i = true → (mT.1 i).1 = 30 ∧ (mT.1 i).2 ≠ 26 ∧ (mT.1 i).2 ≠ 35 ∧ (mT.1 i).2 ≠ 54 := by decide +kernel
  obtain ⟨a1, a2, a3⟩ := k1 i (scI_lt hi) hi
  have T := h.2.1.putS mT_ok hi n
  rw [a1] at T
  refine ⟨h.next (S := fun o k => o == 30 && k == (mT.1 i).2) T (CH.put (by simp)) (fun o k z => ?_) n9 n10 SamP.refl0 (by rw [zS_ne _ _ (by omega)]; exact Nat.le_refl _) (fun _ _ => rfl) (by rw [zS_ne _ _ (by omega)]; exact Nat.le_refl _) (fun _ _ => rfl) (zS_ne _ _ (by omega)) rfl rfl rfl rfl (fun z => ?_) (zS_ne _ _ (by omega)) (fun _ _ => rfl) rfl, CH.put (decide_eq_true (by omega))⟩
  · simp only [Bool.and_eq_true, beq_iff_eq] at z
    exact decide_eq_true (by omega)
  · rw [zS_ne _ _ (by omega)] at z
    exact ⟨z, zS_ne _ _ (by omega)⟩
theorem m_clearT (h : RM b A ρ μ) (n9 : aS A 9 ≤ 16) (n10 : aS A 10 ≤ 8) : RM b (zT A []) ρ (sI μ (b + 71) 0 0) ∧ CH b sMo μ (sI μ (b + 71) 0 0) := by
  have g : CH b (sRow 71) μ (sI μ (b + 71) 0 0) := CH.put (sRow_at _ _)
  have fs : ∀ {o k : Nat}, o ≠ 71 → sRow 71 o k = false := fun {o k} hn => by
    cases hz : sRow 71 o k with
    | false => rfl
    | true => exact absurd (sRow_e hz) hn
  obtain ⟨r1, r2, r3, r4, r5, r6, r7, r8, r9, r10, r11⟩ := h
  refine ⟨⟨r1.ch g, (r2.ch g (fun o k z => by have := sRow_e z; omega)).cg (fun _ _ => rfl) (fun _ _ _ _ => rfl) (fun _ _ _ _ => rfl), r3.ch g, r4.ch n9 r3 g (fun o k _ _ => fs (by omega)), r5.ch n10 g (fun o k _ _ => fs (by omega)), r6.ch g (fun o k _ _ => fs (by omega)), r7.ch g (fun o k _ _ => fs (by omega)), r8.ch g (fs (by omega)) (fun o k _ _ => fs (by omega)), ⟨by rw [mI_at]; rfl, fun i hi => absurd hi (Nat.not_lt_zero _)⟩, r10.ch g (fs (by omega)), r11.ch g (fun o k _ _ => fs (by omega)) (fun o k z => by have := sRow_e z; omega)⟩, CH.put rfl⟩
theorem zS_perm (X : Sx) (p q : Nat) (t : List Nat) : zS (zS (zS (zS (zS (zS (zT X t) 4 p) 3 1) 11 q) 12 0) 10 0) 5 q = goOn (zS (zS (zS (zS X 10 0) 4 p) 3 1) 5 q) q t := by
  refine Prod.ext (funext fun i => ?_) rfl
  show up1 (up1 (up1 (up1 (up1 (up1 X.1 4 p) 3 1) 11 q) 12 0) 10 0) 5 q i = up1 (up1 (up1 (up1 (up1 (up1 X.1 10 0) 4 p) 3 1) 5 q) 11 q) 12 0 i
  simp only [up1_if]
  by_cases h4 : i = 4
  · subst h4; rfl
  by_cases h3 : i = 3
  · subst h3; rfl
  by_cases h11 : i = 11
  · subst h11; rfl
  by_cases h12 : i = 12
  · subst h12; rfl
  by_cases h10 : i = 10
  · subst h10; rfl
  by_cases h5 : i = 5
  · subst h5; rfl
  simp only [if_neg h4, if_neg h3, if_neg h11, if_neg h12, if_neg h10, if_neg h5]
theorem m_handles {p q : Nat} (h : RM b A ρ μ) (z : IBz A) (n10 : aS A 10 ≤ 8) : ∃ μ', f_X11_handles (b + 30) (nI p) (nI q) μ = some ((), μ') ∧ RM b (goOn (zS (zS (zS (throwF A 0) 4 p) 3 1) 5 q) q []) ρ μ' ∧ CH b sMo μ μ' := by
  have hn9 : aS A 9 ≤ 16 := by have := z.2.1.1; have := z.1.2.1; omega
  obtain ⟨μ1, e1, h1, g1⟩ := m_throws (at_ := 0) h z n10 (Nat.zero_le _)
  obtain ⟨t1, t2, t3, t4, t5, t6, t7, t8, -⟩ := throwN_f (aS A 9 - 0) A
  have q9 : aS (throwN A (aS A 9 - 0)) 9 ≤ 16 := by rw [t2]; omega
  have q10 : aS (throwN A (aS A 9 - 0)) 10 ≤ 8 := by rw [t1 10 (by decide) (by decide) (by decide)]; exact n10
  obtain ⟨X, hX⟩ : ∃ X, X = throwN A (aS A 9 - 0) := ⟨_, rfl⟩
  rw [← hX] at h1 q9 q10
  obtain ⟨h2, g2⟩ := m_clearT h1 q9 q10
  obtain ⟨h3, g3⟩ := m_put (i := 4) (n := p) h2 q9 q10 rfl (by decide)
  obtain ⟨h4, g4⟩ := m_put (i := 3) (n := 1) h3 (by rw [zS_ne _ _ (by decide)]; exact q9) (by rw [zS_ne _ _ (by decide)]; exact q10) rfl (by decide)
  obtain ⟨μ5, e5, h5, g5⟩ := m_goesOn (p := q) h4 (by rw [zS_ne _ _ (by decide), zS_ne _ _ (by decide)]; exact q9)
  have c9 : aS (zS (zS (zS (zS (zS (zT X []) 4 p) 3 1) 11 q) 12 0) 10 0) 9 ≤ 16 := by
    rw [zS_ne _ _ (by decide), zS_ne _ _ (by decide), zS_ne _ _ (by decide), zS_ne _ _ (by decide), zS_ne _ _ (by decide)]
    exact q9
  obtain ⟨h6, g6⟩ := m_put (i := 5) (n := q) h5 c9 (by rw [zS_at]; omega) rfl (by decide)
  have s1 := h1.1
  unfold SM at s1
  have k5 := h5.1.1
  have k0 := h.1.1
  refine ⟨sI μ5 (b + 30) 41 (nI q), ?_, ?_, ?_⟩
  · have e1' : f_X11_throwsFrom (b + 30) 0 μ = some ((), μ1) := e1
    have e5' : f_X11_goesOn (b + 30) (nI q) (sI (sI (sI μ1 (b + 71) 0 0) (b + 30) 40 (nI p)) (b + 30) 39 1) = some ((), μ5) := e5
    have i05 : ∀ x : Option (Unit × Mm), ck (inb 0 5) x = x := fun x => if_pos (by decide)
    simp only [f_X11_handles, k0, ckT, cl_t e1', s1, bdS, zlS, ckA, ckI, tcL, mK_sI, mL_sI, mR_sI', cl_t e5', k5]
  · have e : throwF A 0 = zS X 10 0 := by
      unfold throwF
      rw [throwN_zS _ (by decide) (by decide) (by decide), ← hX]
    rw [e, ← zS_perm]
    exact h6
  · refine (g1.mono fun o k hh => ?_).trans (g2.trans (g3.trans (g4.trans ((g5.mono fun o k hh => ?_).trans g6))))
    · unfold sThr at hh
      simp only [Bool.and_eq_true, Bool.or_eq_true, beq_iff_eq] at hh
      exact decide_eq_true (by omega)
    · unfold sGo at hh
      simp only [Bool.and_eq_true, Bool.or_eq_true, beq_iff_eq] at hh
      exact decide_eq_true (by omega)
theorem zb1 {n : Nat} (h : n ≤ 1) : (zb (nI n) = 0) = (n = 0) := by
  have : n = 0 ∨ n = 1 := by omega
  rcases this with rfl | rfl <;> decide
/-- the plain end: it stops, with no handler -/
theorem m_stop (h : RM b A ρ μ) (z : IBz A) (n10 : aS A 10 ≤ 8) : ∃ μ', f_X11_traps_b26 (b + 30) μ = some ((), μ') ∧ RM b (zS (zT (zS (throwF A 0) 12 1) []) 1 1) ρ μ' ∧ CH b sMo μ μ' := by
  have hn9 : aS A 9 ≤ 16 := by have := z.2.1.1; have := z.1.2.1; omega
  obtain ⟨μ1, e1, h1, g1⟩ := m_throws (at_ := 0) h z n10 (Nat.zero_le _)
  obtain ⟨t1, t2, t3, t4, t5, t6, t7, t8, -⟩ := throwN_f (aS A 9 - 0) A
  have q9 : aS (throwN A (aS A 9 - 0)) 9 ≤ 16 := by rw [t2]; omega
  have q10 : aS (throwN A (aS A 9 - 0)) 10 ≤ 8 := by rw [t1 10 (by decide) (by decide) (by decide)]; exact n10
  obtain ⟨X, hX⟩ : ∃ X, X = throwN A (aS A 9 - 0) := ⟨_, rfl⟩
  rw [← hX] at h1 q9 q10
  obtain ⟨h2, g2⟩ := m_clearT h1 q9 q10
  have h3 : RM b (zS (zS (zT X []) 10 0) 12 1) ρ (sI (sI (sI μ1 (b + 71) 0 0) (b + 30) 25 0) (b + 30) 27 1) := by
    refine h2.next (S := fun o k => o == 30 && (k == 25 || k == 27)) ((h2.2.1.putS mT_ok (i := 10) rfl 0).putS mT_ok (i := 12) rfl 1) ((CH.put rfl).trans (CH.put rfl)) (fun o k zz => ?_) q9 q10 SamP.refl0 ?_ (fun _ _ => rfl) ?_ (fun _ _ => rfl) ?_ rfl rfl rfl rfl (fun zz => ?_) ?_ (fun _ _ => rfl) rfl
    · simp only [Bool.and_eq_true, Bool.or_eq_true, beq_iff_eq] at zz
      exact decide_eq_true (by omega)
    · rw [zS_ne _ _ (by decide), zS_ne _ _ (by decide)]; exact Nat.le_refl _
    · rw [zS_ne _ _ (by decide), zS_at]; exact Nat.zero_le _
    · rw [zS_ne _ _ (by decide), zS_ne _ _ (by decide)]
    · rw [zS_at] at zz
      cases zz
    · rw [zS_ne _ _ (by decide), zS_ne _ _ (by decide)]
  obtain ⟨h4, g4⟩ := m_put (i := 1) (n := 1) h3 (by rw [zS_ne _ _ (by decide), zS_ne _ _ (by decide)]; exact q9) (by rw [zS_ne _ _ (by decide), zS_at]; omega) rfl (by decide)
  have s1 := h1.1
  unfold SM at s1
  have k0 := h.1.1
  refine ⟨_, ?_, ?_, (g1.mono fun o k hh => ?_).trans (g2.trans (((CH.put (o := 30) rfl).trans (CH.put (o := 30) rfl)).trans g4))⟩
  · have e1' : f_X11_throwsFrom (b + 30) 0 μ = some ((), μ1) := e1
    simp only [f_X11_traps_b26, k0, ckT, cl_t e1', s1, bdS, zlS, ckA, ckI, tcL, mK_sI, mL_sI, mR_sI']
    rfl
  · have e : throwF A 0 = zS X 10 0 := by
      unfold throwF
      rw [throwN_zS _ (by decide) (by decide) (by decide), ← hX]
    rw [e]
    exact h4
  · unfold sThr at hh
    simp only [Bool.and_eq_true, Bool.or_eq_true, beq_iff_eq] at hh
    exact decide_eq_true (by omega)
theorem IBz.tellE {x : Ent} {kd : Nat} (z : IBz A) : IBz (tellE A x kd) := by
  have tf := tellE_f A x kd
  exact z.cg (fun i hi => tf.1 i (by omega)) (fun r hr _ => tf.2.2.1 r hr) (fun r hr => tf.2.2.2.2.2.1 r (by omega)) tf.2.2.2.2.2.2.1 tf.2.2.2.2.2.2.2.2.2 (by
    rw [tf.1 1 (by decide), tf.1 2 (by decide), tf.1 3 (by decide), tf.1 5 (by decide), tf.1 4 (by decide)]
    exact z.2.1.2.2.2.2.2.2)
/-- a trap -/
theorem m_traps {kd r0 : Nat} {x : Ent} (h : RM b A ρ μ) (w : WF μ) (hN : b + 86 ≤ mN μ) (z : IBz A) (n10 : aS A 10 ≤ 8) (hr : 46 ≤ r0 ∧ r0 < 62) (re : REm A x (mI μ (b + r0))) (ho : x.1 0 < aS A 15) (h14 : aS A 14 < 2004) (hs : x.1 10 = 101) : ∃ μ', f_X11_traps (b + 30) (b + r0) (nI kd) μ = some ((), μ') ∧ RM b (trapIt (tellE A x kd) x) ρ μ' ∧ MK b 1 μ μ' := by
  have hn9 : aS A 9 ≤ 16 := by have := z.2.1.1; have := z.1.2.1; omega
  obtain ⟨μ1, e1, h1, g1, i1⟩ := m_tellE (kd := kd) h w hN hn9 n10 z.1 hr re ho h14 hs
  have z1 : IBz (tellE A x kd) := z.tellE
  have tf := tellE_f A x kd
  have m10 : aS (tellE A x kd) 10 ≤ 8 := by rw [tf.1 10 (by decide)]; exact n10
  obtain ⟨B, hB⟩ : ∃ B, B = tellE A x kd := ⟨_, rfl⟩
  rw [← hB] at h1 z1 m10 ⊢
  have sr := h.1.row hr
  have sr1 := h1.1.row hr
  have k0 := h.1.1
  have k1 := h1.1.1
  have x0 := re.1
  have x0' : mI μ1 (b + r0) 0 = nI (x.1 0) := by rw [i1 _ hr.1 hr.2]; exact x0
  have h39 : mI μ1 (b + 30) 39 = nI (aS B 3) := h1.2.1.1 3 rfl
  have h10 : mI μ1 (b + 30) 10 = aV B 0 0 := h1.2.1.2.2 0 0 (by decide) (by decide)
  have b3 := z1.2.1.2.2.2.2.2.2.1.2.2
  have hzb := zb1 b3
  have hh := z1.1.2.2.2.2.2.2 0 (by decide)
  unfold trapIt
  by_cases c3 : aS B 3 ≠ 0
  · rw [if_pos (Or.inl c3)]
    obtain ⟨μ2, e2, h2, g2⟩ := m_stop h1 z1 m10
    refine ⟨μ2, ?_, h2, g1.trans (e2 := 0) g2.mk⟩
    have cz : ¬ zb (nI (aS B 3)) = 0 := by rw [hzb]; exact c3
    simp only [f_X11_traps, sr, k0, k1, ckT, ckA, ckI, tcL, x0, cl_t e1, h39, cz, not_false_eq_true, if_true, e2]
  · have cz : zb (nI (aS B 3)) = 0 := by rw [hzb]; omega
    by_cases ch : aV B 0 0 = -1
    · rw [if_pos (Or.inr ch)]
      obtain ⟨μ2, e2, h2, g2⟩ := m_stop h1 z1 m10
      refine ⟨μ2, ?_, h2, g1.trans (e2 := 0) g2.mk⟩
      simp only [f_X11_traps, sr, k0, k1, ckT, ckA, ckI, tcL, x0, cl_t e1, h39, cz, h10, ch, not_true, if_false, e2]
    · rw [if_neg (fun y => y.elim c3 ch)]
      obtain ⟨a1, a2⟩ := adok_h ch hh
      obtain ⟨μ2, e2, h2, g2⟩ := m_handles (p := x.1 0 + 1) (q := (aV B 0 0).toNatClampNeg) h1 z1 m10
      refine ⟨μ2, ?_, h2, g1.trans (e2 := 0) g2.mk⟩
      rw [← a1] at e2
      simp only [f_X11_traps, sr, sr1, k0, k1, ckT, ckA, ckI, tcL, x0, x0', cl_t e1, h39, cz, h10, ch, not_true, not_false_eq_true, if_true, if_false, nI_1, cl_t e2]
end MTR
