/-! the model: retiring in a cycle -/
section MRT
variable {b : Nat} {A B C A' : Sx} {ρ : Nat → Nat} {μ μ' μ2 : Mm} {S : Nat → Nat → Bool}
theorem shiftB_S (A : Sx) {i : Nat} (h : i ≠ 9) : aS (shiftB A) i = aS A i := zS_ne _ _ h
theorem shiftB_cf (q : CF A) : CF (shiftB A) := by
  unfold CF at q ⊢
  rw [shiftB_S A (by decide), shiftB_S A (by decide), shiftB_S A (by decide), shiftB_S A (by decide), shiftB_S A (by decide)]
  exact q
theorem m_ret1 (h : RM b A ρ μ) (w : WF μ) (hN : b + 86 ≤ mN μ) (q : IB A) (f : IF A) (hl : canLv A = true) (ht : (aB A 0).1 12 = 0) (h14 : aS A 14 < 2004) : ∃ ρ' μ1 μ', f_X11_leaves (b + 30) μ = some ((), μ1) ∧ mK μ1 (b + 30) = 112 ∧ f_X11_retire (b + 30) (b + ρ 0) μ1 = some ((), μ') ∧ RM b (ret1 A) ρ' μ' ∧ MK b 1 μ μ' := by
  obtain ⟨l1, l2, l3⟩ := canLv_e hl
  obtain ⟨q1, q2, q3, q4, q5, q6, q7, q8, -⟩ := id q
  have hn9 : aS A 9 ≤ 16 := by have := q2.1; have := q1.2.1; omega
  have hn10 : aS A 10 ≤ 8 := by have := f.1; have := q1.1; omega
  obtain ⟨r1, r2, r3⟩ := h.2.2.1.1 0 (by omega)
  have re := h.2.2.2.1 0 l2
  have ho := q6 0 l2
  have dy := q7 0 l2
  have ab := q.ab l2
  have dd := q.dd l2
  obtain ⟨μ1, e1, h1, g1, nn1, i1⟩ := m_leaves h hn9 hn10 l2
  obtain ⟨x, hx⟩ : ∃ x, x = aB A 0 := ⟨_, rfl⟩
  have hret : ret1 A = finR (learn (settle (zS (tellE (shiftB A) x 0) 5 (x.2.1 0).toNatClampNeg) x) x) x := by
    rw [hx, ← tell_shift]
    rfl
  rw [← hx] at re ho dy ab dd ht l3
  have cm := dy.2.2.2.2.2.2 (by omega)
  obtain ⟨g, g64, hg⟩ := cm.go q1 ho ht
  have hgc : (x.2.1 0).toNatClampNeg = g := by rw [hg]; exact clN (by omega)
  rw [hret, hgc]
  have hp := q1.p ho.1
  obtain ⟨ρ', hρ'⟩ : ∃ ρ', ρ' = rot ρ (aS A 9 - 1) := ⟨_, rfl⟩
  rw [← hρ'] at h1
  have s9 : aS (shiftB A) 9 = aS A 9 - 1 := zS_at _ _ _
  have re1 : REm (shiftB A) x (mI μ1 (b + ρ 0)) := by
    rw [i1 _ r2 r3]
    exact re.cg ⟨fun _ _ _ => rfl, rfl⟩
  obtain ⟨μ2, e2, h2, g2, i2⟩ := m_tellE (kd := 0) h1 (g1.1 w) (by rw [nn1]; exact hN) (by rw [s9]; omega) (by rw [shiftB_S A (by decide)]; exact hn10) (shiftB_cf q1) ⟨r2, r3⟩ re1 (by rw [shiftB_S A (by decide)]; exact ho.1) (by rw [shiftB_S A (by decide)]; exact h14) l3
  have tf := tellE_f (shiftB A) x 0
  obtain ⟨D, hD⟩ : ∃ D, D = tellE (shiftB A) x 0 := ⟨_, rfl⟩
  rw [← hD] at h2 tf ⊢
  have D9 : aS D 9 ≤ 16 := by rw [tf.1 9 (by decide), s9]; omega
  have D10 : aS D 10 ≤ 8 := by rw [tf.1 10 (by decide), shiftB_S A (by decide)]; exact hn10
  obtain ⟨h3, g3⟩ := m_put (i := 5) (n := g) h2 D9 D10 rfl (by decide)
  obtain ⟨μ3, hμ3⟩ : ∃ μ3, μ3 = sI μ2 (b + 30) 41 (nI g) := ⟨_, rfl⟩
  have h3' : RM b (zS D 5 g) ρ' μ3 := by rw [hμ3]; exact h3
  have g3' : CH b sMo μ2 μ3 := by rw [hμ3]; exact g3
  have cS : ∀ i, i ≠ 5 → i ≠ 9 → i ≠ 14 → aS (zS D 5 g) i = aS A i := fun i a c d => by rw [zS_ne _ _ a, tf.1 i d, shiftB_S A c]
  have cV : ∀ r, r < 8 → aV (zS D 5 g) r = aV A r := fun r hr => by
    show aV D r = _
    rw [tf.2.2.2.2.2.1 r hr]
    rfl
  have cN : ∀ r, r < 14 → aN (zS D 5 g) r = aN A r := fun r hr => by
    show aN D r = _
    rw [tf.2.2.1 r hr]
    rfl
  have ec : eC (zS D 5 g) x = eC A x := by
    show aN (zS D 5 g) 10 _ = _
    rw [cN 10 (by decide)]
    rfl
  have rows : mI μ3 (b + ρ 0) = mI μ (b + ρ 0) := by rw [hμ3, mI_row _ _ (by omega), i2 _ r2 r3, i1 _ r2 r3]
  have sP : SamP A (zS D 5 g) := ⟨fun r h1 h2 => cN r (by omega), cV 5 (by decide)⟩
  have cfC : CF (zS D 5 g) := by
    unfold CF
    rw [cS 16 (by decide) (by decide) (by decide), cS 17 (by decide) (by decide) (by decide), cS 18 (by decide) (by decide) (by decide), cS 8 (by decide) (by decide) (by decide), cS 15 (by decide) (by decide) (by decide), cN 10 (by decide), cN 11 (by decide), cN 12 (by decide), cN 13 (by decide), cV 5 (by decide), cV 0 (by decide)]
    exact q1
  have eX' : eX (zS D 5 g) x = eX A x := by
    show aV (zS D 5 g) 1 _ = _
    rw [cV 1 (by decide)]
    rfl
  have eY' : eY (zS D 5 g) x = eY A x := by
    show aV (zS D 5 g) 1 _ = _
    rw [cV 1 (by decide)]
    rfl
  obtain ⟨μ4, e4, h4, g4⟩ := m_retC (r0 := ρ 0) (x := x) h3' cfC (by rw [zS_ne _ _ (by decide)]; exact D9) (by rw [zS_ne _ _ (by decide)]; exact D10) (by rw [cS 1 (by decide) (by decide) (by decide)]; exact l1) ⟨r2, r3⟩ (by rw [rows]; exact re.cg sP) (by rw [cS 15 (by decide) (by decide) (by decide)]; exact ho.1) l3 ht ab.1 ab.2 (fun hd => by
    rw [ec] at hd
    rw [cS 7 (by decide) (by decide) (by decide)]
    have := q4.nf
    have := q1.2.2.2.1
    exact ⟨dd hd, by omega⟩) (fun hm => by rw [ec] at hm; exact (mm_ad q1 ho cm hm ht).1) (fun k hk => by rw [cN 4 (by decide)]; exact q2.2.1 k hk) (fun hn => by
    rw [ec] at hn ⊢
    have c5 := cm.2.2.2.2.1
    rw [hn, Bool.true_and] at c5
    have nb : nB (eC A x) = true := by unfold nB; rw [hn]; simp
    have nx : nX (eC A x) = true := by
      unfold isQn at hn
      unfold nX isQd
      simp only [Bool.or_eq_true, decide_eq_true_eq, Bool.and_eq_true] at hn ⊢
      omega
    have o1 : opX A x = eX A x := by unfold opX; rw [nx]; rfl
    have o2 : opY A x = eY A x := by unfold opY; rw [nb]; rfl
    rw [o1, o2] at c5
    rw [eX', eY']
    exact c5)
  refine ⟨ρ', μ1, μ4, e1, h1.1.1, ?_, h4, ((g1.trans (e2 := 1) g2).trans (e2 := 0) g3'.mk).trans (e2 := 0) g4.mk⟩
  rw [← e4, ec]
  have e2' : f_X11_tellsEnd (b + 30) 0 (nI (x.1 0)) (b + ρ 0) μ1 = some ((), μ2) := e2
  have s1 := h1.1
  unfold SM at s1
  have sr1 := h1.1.row ⟨r2, r3⟩
  have sr2 := h2.1.row ⟨r2, r3⟩
  have s2 := h2.1
  unfold SM at s2
  have x0 : mI μ1 (b + ρ 0) 0 = nI (x.1 0) := re1.1
  have pc : mI μ1 (b + 31) (x.1 0) = nI (eC A x) := (h1.2.2.2.2.2.1 (x.1 0) (by rw [shiftB_S A (by decide)]; exact ho.1)).1
  have f6 : mI μ2 (b + ρ 0) 6 = nI g := by
    rw [i2 _ r2 r3, i1 _ r2 r3, ← hg]
    exact re.d.2.2.2.2.2.1 (Or.inr l3)
  have hb0 := inbN (p := x.1 0) (n := 64) hp.1 (by omega)
  have hc0 := clN (show x.1 0 < 100000 by omega)
  have cc22 : eC A x < 22 := by
    have : eC A x = aN A 10 (x.1 0) := rfl
    omega
  by_cases q10 : eC A x = 10
  · have hm : isMm (eC A x) = true := by rw [q10]; rfl
    have ad := (mm_ad q1 ho cm hm ht).1
    obtain ⟨a1, a2⟩ := adok_e ad
    have hi : inb (x.2.1 1) 64 := ⟨by rw [a1]; exact nI_pos' (by omega), a2⟩
    have f14 : mI μ3 (b + ρ 0) 14 = x.2.1 1 := by
      rw [rows]
      exact re.d.2.2.2.2.2.2.1 hm ht (Or.inr l3)
    have f8 : mI μ3 (b + ρ 0) 8 = nI (x.1 7) := by rw [rows]; exact re.2.2.2.2.2.1
    have v7 : mI μ3 (b + 42) (x.1 7) = eY (zS D 5 g) x := h3'.2.1.v1 ab.2
    have s3 := h3'.1
    unfold SM at s3
    have sr3 := h3'.1.row ⟨r2, r3⟩
    rw [q10]
    rw [q10] at pc
    have nn : ¬ ¬ nI 10 = 10 := fun z => z rfl
    simp only [f_X11_retire, s1, sr1, ckT, bdS, zlS, ckA, ckI, tcL, x0, ck_t hb0, hc0, cl_t e2', s2, sr2, f6, ← hμ3, pc, nn, if_false, s3, sr3, f14, f8, v7, ck_t hi, ck_t (inbN (p := x.1 7) (n := 24) ab.2 (by omega)), clN (show x.1 7 < 100000 by omega)]
  · have nn : ¬ nI (eC A x) = 10 := nIne (n := 10) (by omega) (by omega) q10
    simp only [f_X11_retire, s1, sr1, ckT, bdS, zlS, ckA, ckI, tcL, x0, ck_t hb0, hc0, cl_t e2', s2, sr2, f6, ← hμ3, pc, nn, not_false_eq_true, if_true]
/-- what a cycle without a retiring loses -/
theorem m_b207 {ret : Nat} (h : RM b A ρ μ) (q : IB A) (f : IF A) (hr : ret < 100) (hs : aS A 9 = 0 ∨ (aB A 0).1 10 ≠ 101) : ∃ μ', f_X11_retires_b207 (b + 30) (nI ret) 0 μ = some ((), μ') ∧ RM b (if ret = 0 then lose A (reas A) else A) ρ μ' ∧ CH b sMo μ μ' := by
  obtain ⟨q1, q2, q3, q4, q5, q6, q7, q8, -⟩ := id q
  have hn9 : aS A 9 ≤ 16 := by have := q2.1; have := q1.2.1; omega
  have hn10 : aS A 10 ≤ 8 := by have := f.1; have := q1.1; omega
  have s := h.1
  unfold SM at s
  have h23 : mI μ (b + 30) 23 = nI (aS A 9) := h.2.1.1 9 rfl
  by_cases r0 : ret = 0
  · subst r0
    rw [if_pos rfl]
    have z0 : ¬ ¬ nI 0 = 0 := fun z => z rfl
    by_cases n0 : aS A 9 = 0
    · have er : reas A = 2 := if_pos n0
      rw [er]
      obtain ⟨μ', e, g⟩ := m_loses (c := 102) (i := 2) h hn9 hn10 (by decide) (by omega)
      have c0 : ¬ ¬ nI (aS A 9) = 0 := by rw [n0]; exact fun z => z rfl
      exact ⟨μ', by simp only [f_X11_retires_b207, f_X11_retires_b243, z0, if_false, if_true, s, ckT, h23, c0, cl_t e], g⟩
    · have c0 : ¬ nI (aS A 9) = 0 := nIne (n := 0) (by omega) (by omega) n0
      obtain ⟨r1, r2, r3⟩ := h.2.2.1.1 0 (by omega)
      have s2 := h.1.row ⟨r2, r3⟩
      have dy := q7 0 (by omega)
      have f11 : mI μ (b + ρ 0) 11 = nI ((aB A 0).1 10) := (h.2.2.2.1 0 (by omega)).d.1
      have er : reas A = why ((aB A 0).1 10) := if_neg n0
      have key : f_X11_reason (zc (nI ((aB A 0).1 10))) = some (nI (why ((aB A 0).1 10))) ∧ why ((aB A 0).1 10) < 8 := by
        have d := dy.1
        have hs2 := hs.resolve_left n0
        have : (aB A 0).1 10 = 113 ∨ (aB A 0).1 10 = 120 ∨ (aB A 0).1 10 = 109 ∨ (aB A 0).1 10 = 98 := by omega
        rcases this with e | e | e | e <;> rw [e] <;> decide
      rw [er]
      obtain ⟨μ', e, g⟩ := m_loses h hn9 hn10 key.1 key.2
      have i016 : inb 0 16 := by decide
      exact ⟨μ', by simp only [f_X11_retires_b207, f_X11_retires_b243, z0, if_false, if_true, s, s2, ckT, bdS, ckA, ckI, tcL, h23, c0, not_false_eq_true, ck_t i016, r1, f11, cl_t e], g⟩
  · rw [if_neg r0]
    have z0 : ¬ nI ret = 0 := nIne (n := 0) (by omega) (by omega) r0
    exact ⟨μ, by simp only [f_X11_retires_b207, z0, not_false_eq_true, if_true], h, CH.refl0⟩
/-- the trap that the oldest one's row shows -/
theorem row13 {k : Nat} (h : RM b A ρ μ) (q : IB A) (hk : k < aS A 9) (hs : (aB A k).1 10 = 101) : (¬ (eC A (aB A k) = 21 ∧ aS A 3 = 0) → mI μ (b + ρ k) 13 = nI ((aB A k).1 12)) ∧ (eC A (aB A k) = 21 ∧ aS A 3 = 0 → (aB A k).1 12 = 5) ∧ (aB A k).1 12 ≤ 5 := by
  obtain ⟨q1, q2, q3, q4, q5, q6, q7, q8, -⟩ := id q
  have w13 := (h.2.2.2.1 k hk).d.2.2.2.2.1
  have cm3 := ((q7 k hk).2.2.2.2.2.2 (by omega)).2.2.1
  have ho := q6 k hk
  have hp := q1.p ho.1
  obtain ⟨x, hx⟩ : ∃ x, x = aB A k := ⟨_, rfl⟩
  rw [← hx] at w13 cm3 ho hp hs ⊢
  have hc : eC A x = aN A 10 (x.1 0) := rfl
  refine ⟨fun hn => ?_, fun hy => by rw [cm3, if_pos hy], ?_⟩
  · rw [if_neg hn] at cm3
    rw [w13]
    cases hq : isQd (eC A x) with
    | true =>
      rw [if_pos rfl, if_neg (show ¬ x.1 10 = 113 by omega), if_neg (show ¬ (x.1 10 = 113 ∨ x.1 10 = 120) by omega), ite_self]
    | false =>
      rw [if_neg Bool.false_ne_true, cm3]
      have : eC A x = 0 ∨ eC A x = 14 ∨ eC A x = 15 ∨ eC A x = 18 ∨ eC A x = 19 ∨ eC A x = 20 ∨ eC A x = 21 := by
        unfold isQd at hq
        simp only [Bool.or_eq_false_iff, Bool.and_eq_false_iff, decide_eq_false_iff_not] at hq
        omega
      rcases this with e | e | e | e | e | e | e <;> rw [e] <;> rfl
  · rw [cm3]
    split
    · exact Nat.le_refl _
    · exact tpV_le _ _ _ _
end MRT
