/-! the model: a cycle, a run -/
section MCY
variable {b : Nat} {A B : Sx} {ρ : Nat → Nat} {μ μ' : Mm} {S : Nat → Nat → Bool}
theorem m_renames (h : RM b A ρ μ) (q : IV A) (qb : QB A) : ∃ μ', f_X11_renames (b + 30) μ = some ((), μ') ∧ RM b (rnL A (aS A 16)) ρ μ' ∧ CH b sMo μ μ' := m_rnL (aS A 16) (w := 0) (fu := 5000) h q qb (Nat.zero_add _) (by have := q.1.1.1; omega)
theorem m_fetches (h : RM b A ρ μ) (q : IV A) (h6 : aS A 6 + 4 ≤ 2000) : ∃ μ', f_X11_fetches (b + 30) μ = some ((), μ') ∧ RM b (ftL A (aS A 16)) ρ μ' ∧ CH b sMo μ μ' := m_ftL (aS A 16) (w := 0) (fu := 5000) h q (Nat.zero_add _) (by have := q.1.1.1; omega) (by have := q.1.1.1; omega)
theorem m_tick (h : RM b A ρ μ) (q : IV A) : RM b (tick A) ρ (sI μ (b + 30) 36 (nI (aS A 0 + 1))) ∧ CH b sMo μ (sI μ (b + 30) 36 (nI (aS A 0 + 1))) := m_put (i := 0) (n := aS A 0 + 1) h (by have := q.1.2.1.1; have := q.1.1.2.1; omega) (by have := q.2.1; have := q.1.1.1; omega) rfl (by decide)
theorem m_cycles (h : RM b A ρ μ) (w : WF μ) (hN : b + 86 ≤ mN μ) (q : IX A) (h1 : aS A 1 = 0) (h5 : aS A 0 < 500) : ∃ ρ' μ', f_X11_cycles (b + 30) μ = some ((), μ') ∧ RM b (cycA A) ρ' μ' ∧ MK b 4 μ μ' := by
  obtain ⟨⟨ga, pa⟩, ⟨ge, pe, e14, e1⟩, ⟨gr, pr⟩, gb, pb, b6⟩ := cyc_iv q h1 h5
  obtain ⟨qt, tq, gv, qb, c5⟩ := q
  obtain ⟨μ1, m1⟩ : ∃ μ1, μ1 = sI μ (b + 30) 36 (nI (aS A 0 + 1)) := ⟨_, rfl⟩
  obtain ⟨t1, g1⟩ := m_tick h qt.1
  rw [← m1] at t1 g1
  have hh : mI μ (b + 30) 36 = nI (aS A 0) := h.2.1.1 0 rfl
  have it := tick_iv qt.1
  have t0 : aS (tick A) 0 = aS A 0 + 1 := zS_at _ _ _
  obtain ⟨μ2, e2, h2, g2⟩ := m_answers t1 it (tq_tick tq) (by rw [t0]; omega)
  obtain ⟨μ3, e3, h3, g3⟩ := m_endings h2 ga pa.1.1 (by have := pa.2; omega)
  have g13 := (g1.trans (g2.trans g3)).mk
  obtain ⟨ρ4, μ4, e4, h4, g4⟩ := m_retires h3 (g13.1 w) (by have := g13.2.1; omega) ge (by rw [e14]; have := qt.2.2; omega)
  obtain ⟨μ5, e5, h5', -, g5⟩ := m_begins h4 gr pr.1.2.1
  obtain ⟨μ6, e6, h6, g6⟩ := m_renames h5' gb pb.1.2.2
  obtain ⟨C, hC⟩ : ∃ C, C = begins (retires (endings (answers (tick A)))) := ⟨_, rfl⟩
  rw [← hC] at h6 gb b6
  obtain ⟨gc, kc⟩ := rnL_iv (aS C 16) gb
  obtain ⟨μ7, e7, h7, g7⟩ := m_fetches h6 gc (by rw [kc 6 rfl, b6]; have := qt.2.1; omega)
  have hcyc : cycA A = ftL (rnL C (aS C 16)) (aS (rnL C (aS C 16)) 16) := by rw [hC]; rfl
  refine ⟨ρ4, μ7, ?_, by rw [hcyc]; exact h7, ((g13.trans g4).trans ((g5.trans g6).trans g7).mk).mono (by omega)⟩
  have k0 := h.1.1
  have k2 := h2.1.1
  have k3 := h3.1.1
  have k4 := h4.1.1
  have k5 := h5'.1.1
  have k6 := h6.1.1
  simp only [f_X11_cycles, k0, ckT, zlS, hh, nI_1, ← m1, cl_t e2, k2, cl_t e3, k3, cl_t e4, k4, cl_t e5, k5, cl_t e6, k6, cl_t e7]
theorem m_runL {N had : Nat} (hN60 : N ≤ 60) : ∀ (n : Nat) {A : Sx} {ρ : Nat → Nat} {μ : Mm} {i fu : Nat}, RM b A ρ μ → WF μ → b + 86 ≤ mN μ → IX A → mI μ (b + 30) 54 = 0 → i + n = N → aS A 0 + n ≤ 500 → n < fu → ∃ ρ' μ', f_X11_run_b49 fu (b + 30) (nI N) (nI had) (nI i) μ = some (nI (aS (runA A n) 14) - nI had, μ') ∧ RM b (runA A n) ρ' μ' ∧ MK b (4 * n) μ μ'
  | 0, A, ρ, μ, i, fu, h, w, hN, q, h54, hi, h5, hf => by
    obtain ⟨fu, rfl⟩ : ∃ n, fu = n + 1 := ⟨fu - 1, by omega⟩
    have k0 := h.1.1
    have h46 : mI μ (b + 30) 46 = nI (aS A 14) := h.2.1.1 14 rfl
    have c1 : nI N ≤ nI i := nI_le (by omega) (by omega)
    exact ⟨ρ, μ, by simp only [f_X11_run_b49, f_X11_run_b78, c1, if_true, k0, ckT, h46]; rfl, h, CH.mk CH.refl0⟩
  | n + 1, A, ρ, μ, i, fu, h, w, hN, q, h54, hi, h5, hf => by
    obtain ⟨fu, rfl⟩ : ∃ n, fu = n + 1 := ⟨fu - 1, by omega⟩
    have k0 := h.1.1
    have h46 : mI μ (b + 30) 46 = nI (aS A 14) := h.2.1.1 14 rfl
    have h37 : mI μ (b + 30) 37 = nI (aS A 1) := h.2.1.1 1 rfl
    have z37 := zb1 q.1.1.1.2.1.2.2.2.2.2.2.1.1
    have c1 : ¬ nI N ≤ nI i := nI_ge (by omega) (by omega)
    have c2 : ¬ ¬ (0 : Int32) = 0 := fun z => z rfl
    have hr : runA A (n + 1) = if aS A 1 = 0 then runA (cycA A) n else A := rfl
    by_cases a1 : aS A 1 = 0
    · have e37 : ¬ ¬ zb (nI (aS A 1)) = 0 := by rw [z37]; exact fun z => z a1
      obtain ⟨ρ1, μ1, e1, h1, g1⟩ := m_cycles h w hN q a1 (by omega)
      obtain ⟨q1, q0⟩ := cycA_ix q a1 (by omega)
      obtain ⟨ρ2, μ2, e2, h2, g2⟩ := m_runL hN60 n (i := i + 1) (fu := fu) h1 (g1.1 w) (by have := g1.2.1; omega) q1 (by rw [g1.2.2.2.2.2]; exact h54) (by omega) (by omega) (by omega)
      rw [hr, if_pos a1]
      refine ⟨ρ2, μ2, ?_, h2, (g1.trans g2).mono (by omega)⟩
      rw [← e2]
      simp only [f_X11_run_b49, c1, if_false, k0, ckT, h54, c2, not_true, h37, e37, cl_t e1, nI_1]
    · have e37 : ¬ zb (nI (aS A 1)) = 0 := by rw [z37]; exact a1
      rw [hr, if_neg a1]
      exact ⟨ρ, μ, by simp only [f_X11_run_b49, f_X11_run_b78, c1, if_false, k0, ckT, h54, c2, not_true, h37, e37, not_false_eq_true, if_true, h46], h, (CH.mk CH.refl0).mono (Nat.zero_le _)⟩
end MCY
