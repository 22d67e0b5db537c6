/-! THE CLASS: a cycle, a run -/
section CCY
variable {b z e sl : Nat} {m m' : Nat → Nat} {A A' B C D : Sx} {P : Pm} {G : Nat → Nat → Nat} {ar : Nat → Nat} {s : Nat} {μ μ' μ2 : Mm} {S : Nat → Nat → Bool}
theorem c_ftL : ∀ (n : Nat) {A : Sx} {G : Nat → Nat → Nat} {ar : Nat → Nat} {s : Nat} {μ : Mm} {v fu : Nat}, FR b z A μ → HR b z A (fun _ => 0) G ar s μ → WF μ → IV A → v + n = aS A 16 → aS A 6 + n ≤ 2000 → n < fu → ∃ (G' : Nat → Nat → Nat) (ar' : Nat → Nat) (s' : Nat) (μ' : Mm), f_X4_fetch_b3 fu (b + 20) (b + 2) (nI (aS A 16)) (nI (aS A 0)) (nI v) μ = some ((), μ') ∧ FR b z (ftL A n) μ' ∧ HR b z (ftL A n) (fun _ => 0) G' ar' s' μ' ∧ CK (4 * n) (70 * n) μ μ'
  | 0, A, G, ar, s, μ, v, fu, h, hh, w, q, hv, h6, hf => by
    obtain ⟨fu, rfl⟩ : ∃ n, fu = n + 1 := ⟨fu - 1, by omega⟩
    have hw := q.1.1.1
    have c1 : nI (aS A 16) ≤ nI v := nI_le (by omega) (by omega)
    exact ⟨G, ar, s, μ, by simp only [f_X4_fetch_b3, c1, if_true], h, hh, CK.refl0⟩
  | n + 1, A, G, ar, s, μ, v, fu, h, hh, w, q, hv, h6, hf => by
    obtain ⟨fu, rfl⟩ : ∃ n, fu = n + 1 := ⟨fu - 1, by omega⟩
    have hw := q.1.1.1
    have h15 := q.1.1.2.2.2.2.1
    have hn10 : aS A 10 ≤ 8 := by have := q.2.1; omega
    have k0 := h.1
    unfold SC at k0
    have c1 : ¬ nI (aS A 16) ≤ nI v := nI_ge (by omega) (by omega)
    have i5 : mI μ (b + 20) 5 = nI (aS A 12) := h.2.1.1 12 rfl
    have z12 := zb1 q.2.2.2.1
    have sL := c_size h.k100.2.1 h.sz.2.2.1
    have sP := c_size h.k100.1 h.sz.1
    have tw : (2 : Int32) * nI (aS A 16) = nI (2 * aS A 16) := by
      have : aS A 16 = 1 ∨ aS A 16 = 2 ∨ aS A 16 = 3 ∨ aS A 16 = 4 := by omega
      rcases this with y | y | y | y <;> rw [y] <;> rfl
    have hft : ftL A (n + 1) = if aS A 12 ≠ 0 ∨ 2 * aS A 16 ≤ aS A 10 ∨ aS A 15 ≤ aS A 11 then A else (if aS (ft1 A) 11 = aS A 11 + 1 then ftL (ft1 A) n else ft1 A) := rfl
    have stop : (aS A 12 ≠ 0 ∨ 2 * aS A 16 ≤ aS A 10 ∨ aS A 15 ≤ aS A 11) → f_X4_fetch_b3 (fu + 1) (b + 20) (b + 2) (nI (aS A 16)) (nI (aS A 0)) (nI v) μ = some ((), μ) → ∃ (G' : Nat → Nat → Nat) (ar' : Nat → Nat) (s' : Nat) (μ' : Mm), f_X4_fetch_b3 (fu + 1) (b + 20) (b + 2) (nI (aS A 16)) (nI (aS A 0)) (nI v) μ = some ((), μ') ∧ FR b z (ftL A (n + 1)) μ' ∧ HR b z (ftL A (n + 1)) (fun _ => 0) G' ar' s' μ' ∧ CK (4 * (n + 1)) (70 * (n + 1)) μ μ' := fun hc e => by
      rw [hft, if_pos hc]
      exact ⟨G, ar, s, μ, e, h, hh, CK.refl0.mono (by omega) (by omega)⟩
    by_cases h12 : aS A 12 = 0
    · have w12 : ¬ ¬ zb (nI (aS A 12)) = 0 := by rw [z12]; exact fun y => y h12
      by_cases hl : 2 * aS A 16 ≤ aS A 10
      · have c10 : nI (2 * aS A 16) ≤ nI (aS A 10) := nI_le (by omega) (by omega)
        refine stop (Or.inr (Or.inl hl)) ?_
        simp only [f_X4_fetch_b3, c1, if_false, k0, ckT, i5, w12, bdS, sL, tw, c10, if_true]
      · have c10 : ¬ nI (2 * aS A 16) ≤ nI (aS A 10) := nI_ge (by omega) (by omega)
        by_cases hp : aS A 15 ≤ aS A 11
        · have i4 : mI μ (b + 20) 4 = nI (aS A 11) := h.2.2.2.2.2 h12
          have p64 := q.2.2.2.2.2.2.2.2.2.2.1 h12
          have cp0 : ¬ nI (aS A 11) < 0 := nI_pos (by omega)
          have cp15 : ¬ nI (aS A 11) < nI (aS A 15) := nI_nlt hp (by omega)
          refine stop (Or.inr (Or.inr hp)) ?_
          simp only [f_X4_fetch_b3, c1, if_false, k0, ckT, i5, w12, bdS, sL, tw, c10, i4, cp0, sP, cp15]
        · obtain ⟨G1, ar1, s1, μ1, e1, F1, H1, c1'⟩ := c_ft1 (fu := fu) h hh w q (show v < aS A 16 by omega) h12 (by omega) (by omega) (by omega)
          have ivF := ft1_ib q.1 q.2 (by omega) h12 (by omega) (by omega)
          have ff := ft1_f A
          have e16 := ff.1 16 (by decide) (by decide) (by decide) (by decide)
          have e0 := ff.1 0 (by decide) (by decide) (by decide) (by decide)
          rw [hft, if_neg (by rintro (y | y | y); exact y h12; exact hl y; exact hp y), e1]
          by_cases eg : aS (ft1 A) 11 = aS A 11 + 1
          · rw [if_pos eg, if_pos eg]
            obtain ⟨G2, ar2, s2, μ2, e2, F2, H2', c2⟩ := c_ftL n (v := v + 1) (fu := fu) F1 H1 (c1'.1 w) ivF (by rw [e16]; omega) (by rw [ff.2.1]; omega) (by omega)
            rw [e16, e0] at e2
            exact ⟨G2, ar2, s2, μ2, e2, F2, H2', (c1'.trans c2).mono (by omega) (by omega)⟩
          · rw [if_neg eg, if_neg eg]
            exact ⟨G1, ar1, s1, μ1, rfl, F1, H1, c1'.mono (by omega) (by omega)⟩
    · have w12 : ¬ zb (nI (aS A 12)) = 0 := by rw [z12]; exact h12
      refine stop (Or.inl h12) ?_
      simp only [f_X4_fetch_b3, c1, if_false, k0, ckT, i5, w12, not_false_eq_true, if_true]
theorem c_cycle (h : FR b z A μ) (hh : HR b z A (fun _ => 0) G ar s μ) (w : WF μ) (q : IY A) (h1 : aS A 1 = 0) (h5 : aS A 0 < 500) : ∃ (G' : Nat → Nat → Nat) (ar' : Nat → Nat) (s' : Nat) (μ' : Mm), f_X0_doCycle (b + 1) μ = some ((), μ') ∧ FR b z (cycA A) μ' ∧ HR b z (cycA A) (fun _ => 0) G' ar' s' μ' ∧ CK 30 13000 μ μ' := by
  obtain ⟨qx, ng⟩ := q
  obtain ⟨⟨ga, pa⟩, ⟨ge, pe, e14, e1⟩, ⟨gr, pr⟩, gb, pb, b6⟩ := cyc_iv qx h1 h5
  obtain ⟨qt, tq, gv, qb, c5⟩ := qx
  have k0 := h.1
  unfold SC at k0
  have t0 : aS (tick A) 0 = aS A 0 + 1 := zS_at _ _ _
  have it := tick_iv qt.1
  have i12 : mI μ (b + 1) 12 = nI (aS A 0) := h.2.1.1 0 rfl
  obtain ⟨F1, H1, c1, -⟩ := c_put (i := 0) (n := aS A 0 + 1) h hh rfl (by decide) rfl
  obtain ⟨μ1, m1⟩ : ∃ μ1, μ1 = sI μ (b + 1) 12 (nI (aS A 0 + 1)) := ⟨_, rfl⟩
  rw [show sI μ (b + 1) 12 (nI (aS A 0 + 1)) = μ1 from m1.symm] at F1 H1 c1
  have F1' : FR b z (tick A) μ1 := F1
  have H1' : HR b z (tick A) (fun _ => 0) G ar s μ1 := H1
  have w1 := c1.1 w
  obtain ⟨μ2, e2, F2, H2', c2⟩ := c_answers F1' H1' it (tq_tick tq) (by rw [t0]; omega) w1
  have an0 : aS (answers (tick A)) 0 = aS (tick A) 0 := by rw [(answers_f (tick A)).1]
  rw [← an0] at H2'
  have w2 := c2.1 w1
  have ng1 : NG (aS (answers (tick A)) 0) (answers (tick A)) := by
    rw [an0, t0]
    refine ng_answers (fun k hk hs => ?_)
    have h9 : aS (tick A) 9 = aS A 9 := zS_ne _ _ (by decide)
    rw [h9] at hk
    exact ng k hk hs
  obtain ⟨s3, μ3, e3, F3, H3, c3⟩ := c_endings F2 H2' w2 ga pa.1.1 ng1 (by rw [an0, t0]; omega)
  have w3 := c3.1 w2
  obtain ⟨G4, ar4, s4, μ4, e4, F4, H4, c4⟩ := c_retires F3 H3 w3 ge (by rw [e14]; have := qt.2.2; omega)
  have w4 := c4.1 w3
  obtain ⟨μ5, e5, F5, H5, c5'⟩ := c_begins F4 H4 gr (by have := pr.2; omega)
  have w5 := c5'.1 w4
  obtain ⟨G6, ar6, μ6, e6, F6, H6, c6⟩ := c_renames F5 H5 w5 gb
  have w6 := c6.1 w5
  obtain ⟨C, hC⟩ : ∃ C, C = begins (retires (endings (answers (tick A)))) := ⟨_, rfl⟩
  rw [← hC] at F6 H6 gb b6
  obtain ⟨gc, kc⟩ := rnL_iv (aS C 16) gb
  obtain ⟨D, hD⟩ : ∃ D, D = rnL C (aS C 16) := ⟨_, rfl⟩
  rw [← hD] at F6 H6 gc kc
  obtain ⟨G7, ar7, s7, μ7, e7, F7, H7, c7⟩ := c_ftL (aS D 16) (v := 0) (fu := 5000) F6 H6 w6 gc (Nat.zero_add _) (by
    have := gc.1.1.1
    rw [kc 6 rfl, b6]; have := qt.2.1; omega) (by have := gc.1.1.1; omega)
  have hcyc : cycA A = ftL D (aS D 16) := by rw [hD, hC]; rfl
  rw [hcyc]
  refine ⟨G7, ar7, s7, μ7, ?_, F7, H7, ((((((c1.trans c2).trans c3).trans c4).trans c5').trans c6).trans c7).mono (by have := gc.1.1.1; omega) (by have := gc.1.1.1; omega)⟩
  have k2 := F2.1
  unfold SC at k2
  have k3 := F3.1
  unfold SC at k3
  have k4 := F4.1
  unfold SC at k4
  have k5 := F5.1
  unfold SC at k5
  have k6 := F6.1
  unfold SC at k6
  have e2' : f_X0_doAnswers (b + 1) μ1 = some ((), μ2) := e2
  have j16 : mI μ6 (b + 3) 0 = nI (aS D 16) := F6.2.1.1 16 rfl
  have j0 : mI μ6 (b + 1) 12 = nI (aS D 0) := F6.2.1.1 0 rfl
  have e7' : f_X4_fetch (b + 20) (b + 2) (nI (aS D 16)) (nI (aS D 0)) μ6 = some ((), μ7) := e7
  simp only [f_X0_doCycle, k0, ckT, zlS, i12, nI_1, ← m1, cl_t e2', k2, cl_t e3, k3, cl_t e4, k4, cl_t e5, k5, cl_t e6, k6, bdS, j16, j0, cl_t e7']
theorem c_runL {N had : Nat} (hN60 : N ≤ 60) : ∀ (n : Nat) {A : Sx} {G : Nat → Nat → Nat} {ar : Nat → Nat} {s : Nat} {μ : Mm} {i fu : Nat}, FR b z A μ → HR b z A (fun _ => 0) G ar s μ → WF μ → IY A → i + n = N → aS A 0 + n ≤ 500 → n < fu → ∃ (G' : Nat → Nat → Nat) (ar' : Nat → Nat) (s' : Nat) (μ' : Mm), f_X10_run_b65 fu b (nI N) (nI had) (nI i) μ = some (.inl (nI (aS (runA A n) 14) - nI had), μ') ∧ FR b z (runA A n) μ' ∧ HR b z (runA A n) (fun _ => 0) G' ar' s' μ' ∧ CK (30 * n) (13000 * n) μ μ' ∧ IY (runA A n)
  | 0, A, G, ar, s, μ, i, fu, h, hh, w, q, hi, h5, hf => by
    obtain ⟨fu, rfl⟩ : ∃ n, fu = n + 1 := ⟨fu - 1, by omega⟩
    have k0 := h.1
    unfold SC at k0
    have sz := c_size h.k100.2.2.2 h.sz.2.2.2
    have c1 : nI N ≤ nI i := nI_le (by omega) (by omega)
    exact ⟨G, ar, s, μ, by simp only [f_X10_run_b65, f_X10_run_b93, c1, if_true, k0, ckT, bdS, sz]; rfl, h, hh, CK.refl0, q⟩
  | n + 1, A, G, ar, s, μ, i, fu, h, hh, w, q, hi, h5, hf => by
    obtain ⟨fu, rfl⟩ : ∃ n, fu = n + 1 := ⟨fu - 1, by omega⟩
    have k0 := h.1
    unfold SC at k0
    have sz := c_size h.k100.2.2.2 h.sz.2.2.2
    have i13 : mI μ (b + 1) 13 = nI (aS A 1) := h.2.1.1 1 rfl
    have z1 := zb1 q.1.1.1.1.2.1.2.2.2.2.2.2.1.1
    have c1 : ¬ nI N ≤ nI i := nI_ge (by omega) (by omega)
    have hr : runA A (n + 1) = if aS A 1 = 0 then runA (cycA A) n else A := rfl
    by_cases a1 : aS A 1 = 0
    · have e13 : ¬ ¬ zb (nI (aS A 1)) = 0 := by rw [z1]; exact fun y => y a1
      obtain ⟨G1, ar1, s1, μ1, e1, F1, H1, c1'⟩ := c_cycle h hh w q a1 (by omega)
      obtain ⟨q1, q0⟩ := cycA_iy q a1 (by omega)
      obtain ⟨G2, ar2, s2, μ2, e2, F2, H2', c2, q2⟩ := c_runL hN60 n (i := i + 1) (fu := fu) F1 H1 (c1'.1 w) q1 (by omega) (by omega) (by omega)
      rw [hr, if_pos a1]
      refine ⟨G2, ar2, s2, μ2, ?_, F2, H2', (c1'.trans c2).mono (by omega) (by omega), q2⟩
      rw [← e2]
      simp only [f_X10_run_b65, c1, if_false, k0, ckT, bdS, i13, e13, cl_t e1, nI_1]
    · have e13 : ¬ zb (nI (aS A 1)) = 0 := by rw [z1]; exact a1
      rw [hr, if_neg a1]
      exact ⟨G, ar, s, μ, by simp only [f_X10_run_b65, f_X10_run_b93, c1, if_false, k0, ckT, bdS, i13, e13, not_false_eq_true, if_true, sz], h, hh, CK.refl0.mono (by omega) (by omega), q⟩
end CCY
