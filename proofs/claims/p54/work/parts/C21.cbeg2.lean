/-! THE CLASS: beginnings, what they ask -/
section CBH
variable {b z e sl : Nat} {m m' : Nat → Nat} {A A' B C D : Sx} {P : Pm} {G : Nat → Nat → Nat} {ar : Nat → Nat} {s : Nat} {μ μ' μ2 : Mm} {S : Nat → Nat → Bool}
/-- what is read of an entry of the buffer -/
theorem c_rd {k : Nat} (h : FR b z A μ) (hh : HR b z A (fun _ => 0) G ar s μ) (q : IB A) (hk : k < aS A 9) : f_Jx4a65c_get_915e3 (b + 25) (nI k) μ = some (G 1 k) ∧ mK μ (G 1 k) = 104 ∧ mR μ (G 1 k) 0 = some (G 0 ((aB A k).1 0)) ∧ mK μ (G 0 ((aB A k).1 0)) = 107 ∧ mI μ (G 0 ((aB A k).1 0)) 1 = nI (eC A (aB A k)) ∧ eC A (aB A k) < 22 ∧ zc (mI μ (G 1 k) 5) = nI ((aB A k).1 10) ∧ (aB A k).1 10 < 200 ∧ (aB A k).1 0 < aS A 15 := by
  have n9 : aS A 9 ≤ 16 := by have := q.2.1.1; have := q.1.2.1; omega
  have ho := q.2.2.2.2.2.1 k hk
  have dy := q.2.2.2.2.2.2.1 k hk
  obtain ⟨k1, r0, -, -, k2, -, hf⟩ := hh.2.2.2.1 k hk
  have f5 : mI μ (G 1 k) 5 = nI ((aB A k).1 10) := hf.2.2.2.2.1.resolve_right (fun p => by
    have p1 : 0 = (aB A k).1 11 + 2 := p.1
    omega)
  have ins := hh.2.2.1 _ ho.1
  have hp := q.1.p ho.1
  have hec : eC A (aB A k) = aN A 10 ((aB A k).1 0) := rfl
  have st := dy.1
  exact ⟨c_getB h hh hk (by omega), k1, r0, ins.1, ins.2.2.1, by omega, by rw [f5]; exact zcN _ (by omega), by omega, ho.1⟩
theorem c_dvL (h : FR b z A μ) (hh : HR b z A (fun _ => 0) G ar s μ) (q : IB A) : ∀ (r i fu : Nat), i + r = aS A 9 → r < fu → isDv A i = false → f_X0_isDividing_b2 fu (b + 1) (nI i) μ = some (bI (isDv A (aS A 9)))
  | 0, i, fu, hi, hf, hd => by
    obtain ⟨fu, rfl⟩ : ∃ n, fu = n + 1 := ⟨fu - 1, by omega⟩
    have n9 : aS A 9 ≤ 16 := by have := q.2.1.1; have := q.1.2.1; omega
    have k0 := h.1
    unfold SC at k0
    have sz := c_sizeB h
    have c1 : nI (aS A 9) ≤ nI i := nI_le (by omega) (by omega)
    have e : i = aS A 9 := by omega
    rw [← e, hd]
    rw [e] at c1 ⊢
    simp only [f_X0_isDividing_b2, k0, ckT, bdS, sz, c1, if_true]
    rfl
  | r + 1, i, fu, hi, hf, hd => by
    obtain ⟨fu, rfl⟩ : ∃ n, fu = n + 1 := ⟨fu - 1, by omega⟩
    have n9 : aS A 9 ≤ 16 := by have := q.2.1.1; have := q.1.2.1; omega
    have k0 := h.1
    unfold SC at k0
    have sz := c_sizeB h
    have hk : i < aS A 9 := by omega
    obtain ⟨g1, g2, g3, g4, g5, g6, g7, g8, -⟩ := c_rd h hh q hk
    have c1 : ¬ nI (aS A 9) ≤ nI i := nI_ge (by omega) (by omega)
    have go : ¬ (eC A (aB A i) = 5 ∧ (aB A i).1 10 = 120) → f_X0_isDividing_b2 fu (b + 1) (nI (i + 1)) μ = some (bI (isDv A (aS A 9))) := fun hn => c_dvL h hh q r (i + 1) fu (by omega) (by omega) (by
      unfold isDv
      rw [hd]
      by_cases e5 : eC A (aB A i) = 5
      · rw [decide_eq_true e5, decide_eq_false (fun w => hn ⟨e5, w⟩)]; rfl
      · rw [decide_eq_false e5]; rfl)
    by_cases e5 : eC A (aB A i) = 5
    · have w5 : ¬ ¬ nI (eC A (aB A i)) = 5 := by rw [e5]; exact fun w => w rfl
      by_cases e120 : (aB A i).1 10 = 120
      · have w : ¬ ¬ nI ((aB A i).1 10) = 120 := by rw [e120]; exact fun w => w rfl
        rw [isDv_has e5 e120 (aS A 9) hk]
        simp only [f_X0_isDividing_b2, k0, ckT, bdS, sz, c1, if_false, g1, g2, g3, g4, g5, w5, g7, w]
        rfl
      · have w : ¬ nI ((aB A i).1 10) = 120 := nIne (n := 120) (by omega) (by omega) e120
        rw [← go (fun y => e120 y.2)]
        simp only [f_X0_isDividing_b2, f_X0_isDividing_b47, k0, ckT, bdS, sz, c1, if_false, g1, g2, g3, g4, g5, w5, g7, w, not_false_eq_true, if_true, nI_1]
    · have w5 : ¬ nI (eC A (aB A i)) = 5 := nIne (n := 5) (by omega) (by omega) e5
      rw [← go (fun y => e5 y.1)]
      simp only [f_X0_isDividing_b2, f_X0_isDividing_b47, k0, ckT, bdS, sz, c1, if_false, g1, g2, g3, g4, g5, w5, not_false_eq_true, if_true, nI_1]
theorem stOp_has {k : Nat} (h5 : isSt (eC A (aB A k)) = true) (hs : (aB A k).1 10 ≠ 101) : ∀ n, k < n → stOp A n = true
  | n + 1, h => by
    unfold stOp
    by_cases e : n = k
    · subst e
      rw [h5, decide_eq_true hs]
      rfl
    · rw [stOp_has h5 hs n (by omega)]
      simp
theorem c_stL {k : Nat} (h : FR b z A μ) (hh : HR b z A (fun _ => 0) G ar s μ) (q : IB A) (hk9 : k ≤ aS A 9) : ∀ (r i fu : Nat), i + r = k → r < fu → stOp A i = false → f_X0_isStoreOpenBefore_b2 fu (b + 1) (nI k) (nI i) μ = some (bI (stOp A k))
  | 0, i, fu, hi, hf, hd => by
    obtain ⟨fu, rfl⟩ : ∃ n, fu = n + 1 := ⟨fu - 1, by omega⟩
    have n9 : aS A 9 ≤ 16 := by have := q.2.1.1; have := q.1.2.1; omega
    have c1 : nI k ≤ nI i := nI_le (by omega) (by omega)
    have e : i = k := by omega
    rw [← e, hd]
    rw [e] at c1 ⊢
    simp only [f_X0_isStoreOpenBefore_b2, c1, if_true]
    rfl
  | r + 1, i, fu, hi, hf, hd => by
    obtain ⟨fu, rfl⟩ : ∃ n, fu = n + 1 := ⟨fu - 1, by omega⟩
    have n9 : aS A 9 ≤ 16 := by have := q.2.1.1; have := q.1.2.1; omega
    have k0 := h.1
    unfold SC at k0
    have sz := c_sizeB h
    have hk : i < aS A 9 := by omega
    obtain ⟨g1, g2, g3, g4, g5, g6, g7, g8, -⟩ := c_rd h hh q hk
    have c0 : ¬ nI k ≤ nI i := nI_ge (by omega) (by omega)
    have c1 : ¬ nI (aS A 9) ≤ nI i := nI_ge (by omega) (by omega)
    have is := c_isSt g4 g5 g6
    have b0 : bI false = 0 := rfl
    have b1 : ¬ bI true = 0 := by decide
    have go : ¬ (isSt (eC A (aB A i)) = true ∧ (aB A i).1 10 ≠ 101) → f_X0_isStoreOpenBefore_b2 fu (b + 1) (nI k) (nI (i + 1)) μ = some (bI (stOp A k)) := fun hn => c_stL h hh q hk9 r (i + 1) fu (by omega) (by omega) (by
      unfold stOp
      rw [hd]
      cases e5 : isSt (eC A (aB A i))
      · rfl
      · rw [decide_eq_false (fun w => hn ⟨e5, w⟩)]; rfl)
    cases e5 : isSt (eC A (aB A i))
    · rw [e5] at is
      rw [← go (fun y => by rw [e5] at y; cases y.1)]
      simp only [f_X0_isStoreOpenBefore_b2, f_X0_isStoreOpenBefore_b51, k0, ckT, bdS, sz, c0, c1, if_false, g1, g2, g3, g4, is, b0, if_true, nI_1]
    · rw [e5] at is
      by_cases e101 : (aB A i).1 10 = 101
      · have w : nI ((aB A i).1 10) = 101 := by rw [e101]; rfl
        rw [← go (fun y => y.2 e101)]
        simp only [f_X0_isStoreOpenBefore_b2, f_X0_isStoreOpenBefore_b51, k0, ckT, bdS, sz, c0, c1, if_false, g1, g2, g3, g4, is, b1, g7, w, if_true, nI_1]
      · have w : ¬ nI ((aB A i).1 10) = 101 := nIne (n := 101) (by omega) (by omega) e101
        rw [stOp_has e5 e101 k (by omega)]
        simp only [f_X0_isStoreOpenBefore_b2, k0, ckT, bdS, sz, c0, c1, if_false, g1, g2, g3, g4, is, b1, g7, w]
        rfl
theorem c_opR {k : Nat} (h : FR b z A μ) (hh : HR b z A (fun _ => 0) G ar s μ) (q : IB A) (hk : k < aS A 9) : f_X0_hasOperands (b + 1) (G 1 k) μ = some (bI (opR A (aB A k))) := by
  have k0 := h.1
  unfold SC at k0
  obtain ⟨g1, g2, g3, g4, g5, g6, g7, g8, -⟩ := c_rd h hh q hk
  have ab := q.ab hk
  have r01 := q.2.1.2.2.2.2.1
  have hf := (hh.2.2.2.1 k hk).2.2.2.2.2.2
  obtain ⟨f6, f7, -⟩ := hf.2.2.2.2.2.1 rfl
  have ha := c_hasValue h.1 h.2.1 ab.1 (r01 _ ab.1)
  have hb := c_hasValue h.1 h.2.1 ab.2 (r01 _ ab.2)
  have na := c_nA g4 g5 g6
  have nb := c_nB g4 g5 g6
  have b0 : bI false = 0 := rfl
  have b1 : ¬ bI true = 0 := by decide
  have n10 : ¬ (1 : Int32) = 0 := by decide
  unfold opR
  have key : ∀ p : Bool, f_X0_hasOperands_b29 (b + 1) (G 1 k) (bI p) μ = some (bI (p && (!nB (eC A (aB A k)) || decide (aN A 2 ((aB A k).1 7) = 1)))) := fun p => by
    cases hn : nB (eC A (aB A k))
    · rw [hn] at nb
      cases p
      · simp only [f_X0_hasOperands_b29, f_X0_hasOperands_b54, f_X0_hasOperands_b59, g2, g3, g4, ckT, bdS, nb, b0, if_true]
        rfl
      · simp only [f_X0_hasOperands_b29, f_X0_hasOperands_b54, f_X0_hasOperands_b59, g2, g3, g4, ckT, bdS, nb, b0, if_true, b1, if_false, n10]
        rfl
    · rw [hn] at nb
      by_cases e : aN A 2 ((aB A k).1 7) = 1
      · rw [decide_eq_true e] at hb ⊢
        cases p
        · simp only [f_X0_hasOperands_b29, f_X0_hasOperands_b54, f_X0_hasOperands_b59, g2, g3, g4, ckT, bdS, nb, b0, if_true, b1, if_false, k0, f7, hb]
          rfl
        · simp only [f_X0_hasOperands_b29, f_X0_hasOperands_b54, f_X0_hasOperands_b59, g2, g3, g4, ckT, bdS, nb, b1, if_false, k0, f7, hb, n10]
          rfl
      · rw [decide_eq_false e] at hb ⊢
        cases p
        · simp only [f_X0_hasOperands_b29, f_X0_hasOperands_b54, f_X0_hasOperands_b59, g2, g3, g4, ckT, bdS, nb, b0, if_true, b1, if_false, k0, f7, hb]
          rfl
        · simp only [f_X0_hasOperands_b29, f_X0_hasOperands_b54, f_X0_hasOperands_b59, g2, g3, g4, ckT, bdS, nb, b0, if_true, b1, if_false, k0, f7, hb]
          rfl
  have k1' := key true
  have k0' := key false
  have e1 : bI true = 1 := rfl
  rw [e1] at k1'
  rw [b0] at k0'
  cases hn : nA (eC A (aB A k))
  · rw [hn] at na
    simp only [f_X0_hasOperands, f_X0_hasOperands_b24, g2, g3, g4, ckT, bdS, na, b0, if_true, k1']
    rfl
  · rw [hn] at na
    by_cases e : aN A 2 ((aB A k).1 6) = 1
    · rw [decide_eq_true e] at ha ⊢
      simp only [f_X0_hasOperands, f_X0_hasOperands_b24, g2, g3, g4, ckT, bdS, na, b1, if_false, k0, f6, ha, k1']
      rfl
    · rw [decide_eq_false e] at ha ⊢
      simp only [f_X0_hasOperands, f_X0_hasOperands_b24, g2, g3, g4, ckT, bdS, na, b1, if_false, k0, f6, ha, b0, if_true, k0']
      rfl
/-- lines -/
theorem c_isThere {l : Nat} (S : SC b μ) (hT : RT cT b A μ) (hl : l < 16) : f_X7_isThere (b + 15) (nI l) μ = some (bI (decide (aV A 4 (l % 4) = nI l))) := by
  have k0 := S
  unfold SC at k0
  have fm := c_fmod4 l hl
  have i4 := inbN (p := l % 4) (n := 4) (by omega) (by omega)
  have cl := clN (show l % 4 < 100000 by omega)
  have c4 := hT.c4 (i := l % 4) (by omega)
  by_cases e : aV A 4 (l % 4) = nI l
  · have w : ¬ ¬ aV A 4 (l % 4) = nI l := fun y => y e
    rw [decide_eq_true e]
    simp only [f_X7_isThere, k0, ckT, bdS, fm, ckA, ck_t i4, cl, c4, w, if_false]
    rfl
  · rw [decide_eq_false e]
    simp only [f_X7_isThere, k0, ckT, bdS, fm, ckA, ck_t i4, cl, c4, e, not_false_eq_true, if_true]
    rfl
def sAk (o k : Nat) : Bool := decide (o = 18 ∨ o = 19 ∨ (o = 15 ∧ k = 4))
theorem c_askFor {l : Nat} (h : FR b z A μ) (hh : HR b z A m G ar s μ) (hl : l < 16) (hq : (aQ A).length ≤ 2) (ht : ∀ k, k < 16 → aN A 6 k ≤ 30) (h0 : aS A 0 < 1000) : (2 ≤ (aQ A).length → f_X7_askFor (b + 15) (nI l) (nI (aS A 0)) μ = some (0, μ)) ∧ ((aQ A).length < 2 → ∃ μ', f_X7_askFor (b + 15) (nI l) (nI (aS A 0)) μ = some (1, μ') ∧ FR b z (zQ A (aQ A ++ [(l, aS A 0 + aN A 6 l)])) μ' ∧ HR b z (zQ A (aQ A ++ [(l, aS A 0 + aN A 6 l)])) m G ar s μ' ∧ CK 0 0 μ μ' ∧ H2 μ μ' ∧ mI μ' (b + 29) = mI μ (b + 29)) := by
  have k0 := h.1
  unfold SC at k0
  obtain ⟨f1, f2, f3, f4, f5, f6⟩ := id h
  have i4 : mI μ (b + 15) 4 = nI (aQ A).length := f5.1
  refine ⟨fun h2 => ?_, fun h2 => ?_⟩
  · have e : (aQ A).length = 2 := by omega
    have c : (2 : Int32) ≤ nI (aQ A).length := by rw [e]; decide
    simp only [f_X7_askFor, k0, ckT, i4, c, if_true]
  · have c : ¬ (2 : Int32) ≤ nI (aQ A).length := by
      have : (aQ A).length = 0 ∨ (aQ A).length = 1 := by omega
      rcases this with w | w <;> rw [w] <;> decide
    have c0 : ¬ nI l < 0 := nI_pos (by omega)
    have c16 : nI l < 16 := show nI l < nI 16 from nI_lt hl (by omega)
    have ib := inbN (p := (aQ A).length) (n := 2) h2 (by omega)
    have cl := clN (show (aQ A).length < 100000 by omega)
    have il := inbN (p := l) (n := 16) hl (by omega)
    have cll := clN (show l < 100000 by omega)
    have h6 : mI μ (b + 17) l = nI (aN A 6 l) := h.2.1.2.1 6 l (by omega) hl
    obtain ⟨μ', m'⟩ : ∃ μ', μ' = sI (sI (sI μ (b + 18) (aQ A).length (nI l)) (b + 19) (aQ A).length (nI (aS A 0 + aN A 6 l))) (b + 15) 4 (nI ((aQ A).length + 1)) := ⟨_, rfl⟩
    have g : CH b sAk μ μ' := by
      rw [m']
      exact ((CH.put (by rfl)).trans (CH.put (by rfl))).trans (CH.put (by rfl))
    have sfx : ∀ o k, sAk o k = true → o < 30 ∧ o ≠ 24 := fun o k zz => by
      have := of_decide_eq_true zz
      omega
    have nS : ∀ o k, ¬ (o = 18 ∨ o = 19 ∨ (o = 15 ∧ k = 4)) → sAk o k = false := fun o k hq => decide_eq_false hq
    have r1 : f_X7_askFor (b + 15) (nI l) (nI (aS A 0)) μ = some (1, μ') := by
      have h17 : mI (sI μ (b + 18) (aQ A).length (nI l)) (b + 17) l = nI (aN A 6 l) := by rw [mI_row _ _ (by omega)]; exact h6
      have h4a : mI (sI μ (b + 18) (aQ A).length (nI l)) (b + 15) 4 = nI (aQ A).length := by rw [mI_row _ _ (by omega)]; exact i4
      have h4b : mI (sI (sI μ (b + 18) (aQ A).length (nI l)) (b + 19) (aQ A).length (nI (aS A 0 + aN A 6 l))) (b + 15) 4 = nI (aQ A).length := by rw [mI_row _ _ (by omega)]; exact h4a
      simp only [f_X7_askFor, k0, ckT, i4, c, if_false, c0, c16, if_true, bdS, ckA, ck_t ib, cl, zlS, mR_sI', mK_sI, mL_sI, ck_t il, cll, h17, h4a, nI_add, h4b, nI_1, ← m']
    have T : RT cT b (zQ A (aQ A ++ [(l, aS A 0 + aN A 6 l)])) μ' := by
      rw [m']
      exact (((f2.off (o := 18) (k := (aQ A).length) _ (by
        have : (aQ A).length = 0 ∨ (aQ A).length = 1 := by omega
        rcases this with w | w <;> rw [w] <;> decide +kernel)).off (o := 19) (k := (aQ A).length) _ (by
        have : (aQ A).length = 0 ∨ (aQ A).length = 1 := by omega
        rcases this with w | w <;> rw [w] <;> decide +kernel)).off (o := 15) (k := 4) _ (by decide +kernel)).cg (fun _ _ => rfl) (fun _ _ _ _ => rfl) (fun _ _ _ _ => rfl)
    have hP : SamP A (zQ A (aQ A ++ [(l, aS A 0 + aN A 6 l)])) := ⟨fun _ _ _ => rfl, rfl⟩
    refine ⟨μ', r1, ⟨f1.cg g.1 g.2.1 g.2.2.1, T, ?_, ?_, ?_, fun hz => ?_⟩, (hh.ch f1 g sfx).cg hP rfl rfl rfl rfl (fun _ _ => rfl) (fun _ _ => rfl) rfl (fun _ _ => rfl) rfl (fun _ _ _ => rfl), g.ck f1 sfx, g.h2 f1 sfx, g.row (o := 29) (fun k => nS _ _ (by omega))⟩
    · unfold ST at f3 ⊢
      rw [g.1, g.2.1, g.2.2.1]
      exact f3
    · have pe : plA (zQ A (aQ A ++ [(l, aS A 0 + aN A 6 l)])) (aS (zQ A (aQ A ++ [(l, aS A 0 + aN A 6 l)])) 14) = plA A (aS A 14) := plA_congr (A := A) (B := zQ A (aQ A ++ [(l, aS A 0 + aN A 6 l)])) hP rfl rfl rfl rfl (fun _ _ => rfl)
      unfold PLm at f4 ⊢
      rw [pe, g.row (o := 7) (fun k => nS _ _ (by omega)), g.row (o := 8) (fun k => nS _ _ (by omega)), g.row (o := 6) (fun k => nS _ _ (by omega))]
      exact f4
    · have el : (aQ (zQ A (aQ A ++ [(l, aS A 0 + aN A 6 l)]))).length = (aQ A).length + 1 := by
        show (aQ A ++ [(l, aS A 0 + aN A 6 l)]).length = _
        rw [List.length_append]
        rfl
      refine ⟨by rw [el, m', mI_at], fun k hk => ?_⟩
      rw [el] at hk
      have e18 : mI μ' (b + 18) k = if k = (aQ A).length then nI l else mI μ (b + 18) k := by
        rw [m', mI_row _ _ (by omega), mI_row _ _ (by omega), mI_up, up1_if]
      have e19 : mI μ' (b + 19) k = if k = (aQ A).length then nI (aS A 0 + aN A 6 l) else mI μ (b + 19) k := by
        rw [m', mI_row _ _ (by omega), mI_up, up1_if, mI_row _ _ (by omega)]
      rw [e18, e19]
      show _ = nI ((aQ A ++ [(l, aS A 0 + aN A 6 l)]).getD k (0, 0)).1 ∧ _ = nI ((aQ A ++ [(l, aS A 0 + aN A 6 l)]).getD k (0, 0)).2
      by_cases e : k = (aQ A).length
      · subst e
        rw [if_pos rfl, if_pos rfl]
        simp
      · rw [if_neg e, if_neg e]
        have lk : k < (aQ A).length := by omega
        have := f5.2 k lk
        have eg : (aQ A ++ [(l, aS A 0 + aN A 6 l)]).getD k (0, 0) = (aQ A).getD k (0, 0) := by simp [List.getD, List.getElem?_append_left lk]
        rw [eg]
        exact this
    · rw [g.cell (o := 20) (k := 4) (nS _ _ (by omega))]
      exact f6 hz
end CBH
