/-! THE CLASS: beginnings, their parts -/
section CBG
variable {b z e sl : Nat} {m m' : Nat → Nat} {A A' B C D : Sx} {P : Pm} {G : Nat → Nat → Nat} {ar : Nat → Nat} {s : Nat} {μ μ' μ2 : Mm} {S : Nat → Nat → Bool}
theorem isMm_u : ∀ c, c < 22 → (isMm c = true ↔ unit c = 3) := by decide +kernel
theorem c_cp78 {a p c t : Nat} {x1 n : Int32} {so : Bool} (k : mK μ a = 104) (r : mR μ a 0 = some p) (kp : mK μ p = 107) (ip1 : mI μ p 1 = nI c) (ip5 : mI μ p 5 = n) (hc : c < 22) (e12 : mI μ a 12 = nI t) (ht : t < 1000) : f_X3_compute_b78 a x1 (bI so) a μ = some ((), sI (sI μ a 15 (bI so)) a 11 (if isMm c = true ∧ t = 0 then x1 + n else -1)) := by
  have npa : p ≠ a := fun q => by rw [q, k] at kp; cases kp
  have zs : ∀ y : Option (Unit × Mm), ck (zb (bI so) = bI so) y = y := fun y => if_pos (by cases so <;> rfl)
  have u := c_unit (μ := sI μ a 15 (bI so)) (a := p) (c := c) kp (by rw [mI_row _ _ npa]; exact ip1) hc
  have e12' : mI (sI μ a 15 (bI so)) a 12 = nI t := by rw [mI_ne _ _ (Or.inr (by decide))]; exact e12
  have e5' : mI (sI μ a 15 (bI so)) p 5 = n := by rw [mI_row _ _ npa]; exact ip5
  have iu := isMm_u c hc
  by_cases h3 : unit c = 3
  · have w3 : ¬ ¬ nI (unit c) = 3 := by rw [h3]; exact fun q => q rfl
    by_cases t0 : t = 0
    · have w0 : ¬ ¬ nI t = 0 := by rw [t0]; exact fun q => q rfl
      rw [if_pos ⟨iu.2 h3, t0⟩]
      simp only [f_X3_compute_b78, f_X3_compute_b113, k, ckT, zs, zlS, mK_sI, mR_sI', r, bdS, kp, u, w3, if_false, e12', w0, e5']
    · have w0 : ¬ nI t = 0 := nIne (n := 0) (by omega) (by omega) t0
      rw [if_neg (fun q => t0 q.2)]
      simp only [f_X3_compute_b78, f_X3_compute_b112, f_X3_compute_b113, k, ckT, zs, zlS, mK_sI, mR_sI', r, bdS, kp, u, w3, if_false, e12', w0, not_false_eq_true, if_true]
  · have u4 : unit c < 10 := by
      have : ∀ c, c < 22 → unit c < 10 := by decide +kernel
      exact this c hc
    have w3 : ¬ nI (unit c) = 3 := nIne (n := 3) (by omega) (by omega) h3
    rw [if_neg (fun q => h3 (iu.1 q.1))]
    simp only [f_X3_compute_b78, f_X3_compute_b112, f_X3_compute_b113, k, ckT, zs, zlS, mK_sI, mR_sI', r, bdS, kp, u, w3, not_false_eq_true, if_true]
theorem c_cp34 {a p c t pl : Nat} {x1 x2 v n : Int32} (k : mK μ a = 104) (r : mR μ a 0 = some p) (kp : mK μ p = 107) (ip0 : mI μ p 0 = nI pl) (ip1 : mI μ p 1 = nI c) (ip5 : mI μ p 5 = n) (hc : c < 22) (e12 : mI μ a 12 = nI t) (ht : t < 1000) : f_X3_compute_b34 a x1 x2 v a μ = some ((), sI (sI (sI (sI μ a 13 v) a 14 (goV c pl x1 x2 n)) a 15 (bI (isQn c && soV c x1 x2))) a 11 (if isMm c = true ∧ t = 0 then x1 + n else -1)) := by
  have npa : p ≠ a := fun q => by rw [q, k] at kp; cases kp
  obtain ⟨μ1, m1⟩ : ∃ μ1, μ1 = sI μ a 13 v := ⟨_, rfl⟩
  obtain ⟨μ2, m2⟩ : ∃ μ2, μ2 = sI μ1 a 14 (goV c pl x1 x2 n) := ⟨_, rfl⟩
  have P1 : mI μ1 p = mI μ p := by rw [m1]; exact mI_row _ _ npa
  have P2 : mI μ2 p = mI μ p := by rw [m2, mI_row _ _ npa]; exact P1
  have K1 : mK μ1 = mK μ := by rw [m1]; rfl
  have K2 : mK μ2 = mK μ := by rw [m2]; exact K1
  have R1 : mR μ1 = mR μ := by rw [m1]; rfl
  have R2 : mR μ2 = mR μ := by rw [m2]; exact R1
  have go := c_goesBy (μ := μ1) (a := p) (c := c) (p := pl) (x := x1) (y := x2) (n := n) (by rw [K1]; exact kp) (by rw [P1]; exact ip0) (by rw [P1]; exact ip1) (by rw [P1]; exact ip5) hc
  have qn := c_isQn (μ := μ2) (a := p) (c := c) (by rw [K2]; exact kp) (by rw [P2]; exact ip1) hc
  have so := c_isSo (μ := μ2) (a := p) (c := c) (x := x1) (y := x2) (by rw [K2]; exact kp) (by rw [P2]; exact ip1) hc
  have c78 := fun (so : Bool) => c_cp78 (μ := μ2) (a := a) (p := p) (c := c) (t := t) (x1 := x1) (n := n) (so := so) (by rw [K2]; exact k) (by rw [R2]; exact r) (by rw [K2]; exact kp) (by rw [P2]; exact ip1) (by rw [P2]; exact ip5) hc (by rw [m2, mI_ne _ _ (Or.inr (by decide)), m1, mI_ne _ _ (Or.inr (by decide))]; exact e12) ht
  rw [← m1, ← m2, ← c78]
  have b0 : bI false = 0 := rfl
  have b1 : bI true = 1 := rfl
  have b10 : ¬ (1 : Int32) = 0 := by decide
  cases hq : isQn c
  · rw [hq] at qn
    simp only [f_X3_compute_b34, f_X3_compute_b77, k, ckT, zlS, ← m1, K1, R1, r, bdS, kp, go, ← m2, K2, R2, qn, b0, if_true, Bool.false_and]
  · rw [hq] at qn
    cases hs : soV c x1 x2
    · rw [hs] at so
      simp only [f_X3_compute_b34, f_X3_compute_b77, k, ckT, zlS, ← m1, K1, R1, r, bdS, kp, go, ← m2, K2, R2, qn, b0, b1, b10, if_false, so, if_true, Bool.true_and]
    · rw [hs] at so
      simp only [f_X3_compute_b34, k, ckT, zlS, ← m1, K1, R1, r, bdS, kp, go, ← m2, K2, R2, qn, b1, b10, if_false, so, Bool.true_and]
theorem c_compute {a p c pl : Nat} {x1 x2 n : Int32} (k : mK μ a = 104) (r : mR μ a 0 = some p) (kp : mK μ p = 107) (ip0 : mI μ p 0 = nI pl) (ip1 : mI μ p 1 = nI c) (ip5 : mI μ p 5 = n) (hc : c < 22) : ∃ μ', f_X3_compute a x1 x2 μ = some ((), μ') ∧ CE a μ μ' ∧ mI μ' (a + 1) = mI μ (a + 1) ∧ mI μ' a 12 = nI (tpV c x1 x2 n) ∧ mI μ' a 13 = (if tpV c x1 x2 n = 0 then rsV c pl x1 x2 n else 0) ∧ mI μ' a 14 = goV c pl x1 x2 n ∧ mI μ' a 15 = bI (isQn c && soV c x1 x2) ∧ mI μ' a 11 = (if isMm c = true ∧ tpV c x1 x2 n = 0 then x1 + n else -1) ∧ ∀ i, i < 11 ∨ i = 16 → mI μ' a i = mI μ a i := by
  have npa : p ≠ a := fun q => by rw [q, k] at kp; cases kp
  have tb := c_trapBy (x := x1) (y := x2) kp ip1 ip5 hc
  have t5 := tpV_le c x1 x2 n
  obtain ⟨t, ht⟩ : ∃ t, t = tpV c x1 x2 n := ⟨_, rfl⟩
  rw [← ht] at tb t5 ⊢
  obtain ⟨μ1, m1⟩ : ∃ μ1, μ1 = sI μ a 12 (nI t) := ⟨_, rfl⟩
  have P1 : mI μ1 p = mI μ p := by rw [m1]; exact mI_row _ _ npa
  have e12 : mI μ1 a 12 = nI t := by rw [m1]; exact mI_at _ _ _ _
  have K1 : mK μ1 = mK μ := by rw [m1]; rfl
  have R1 : mR μ1 = mR μ := by rw [m1]; rfl
  have c34 := fun (v : Int32) => c_cp34 (μ := μ1) (a := a) (p := p) (c := c) (t := t) (pl := pl) (x1 := x1) (x2 := x2) (v := v) (n := n) (by rw [K1]; exact k) (by rw [R1]; exact r) (by rw [K1]; exact kp) (by rw [P1]; exact ip0) (by rw [P1]; exact ip1) (by rw [P1]; exact ip5) hc e12 (by omega)
  have rb := c_resultBy (μ := μ1) (a := p) (c := c) (p := pl) (x := x1) (y := x2) (n := n) (by rw [K1]; exact kp) (by rw [P1]; exact ip0) (by rw [P1]; exact ip1) (by rw [P1]; exact ip5) hc
  have run : f_X3_compute a x1 x2 μ = f_X3_compute_b34 a x1 x2 (if t = 0 then rsV c pl x1 x2 n else 0) a μ1 := by
    by_cases t0 : t = 0
    · have w0 : ¬ ¬ nI t = 0 := by rw [t0]; exact fun q => q rfl
      rw [if_pos t0]
      simp only [f_X3_compute, k, ckT, r, bdS, kp, tb, zlS, ← m1, e12, w0, if_false, R1, K1, rb]
    · have w0 : ¬ nI t = 0 := nIne (n := 0) (by omega) (by omega) t0
      rw [if_neg t0]
      simp only [f_X3_compute, k, ckT, r, bdS, kp, tb, zlS, ← m1, e12, w0, not_false_eq_true, if_true]
  refine ⟨_, run.trans (c34 _), ?_, ?_, ?_, ?_, ?_, ?_, ?_, fun i hi => ?_⟩
  · rw [m1]
    exact ⟨rfl, rfl, rfl, rfl, rfl, rfl, fun y a1 _ => by rw [mI_row _ _ a1, mI_row _ _ a1, mI_row _ _ a1, mI_row _ _ a1, mI_row _ _ a1]⟩
  · rw [m1, mI_row _ _ (by omega), mI_row _ _ (by omega), mI_row _ _ (by omega), mI_row _ _ (by omega), mI_row _ _ (by omega)]
  · rw [mI_ne _ _ (Or.inr (by decide)), mI_ne _ _ (Or.inr (by decide)), mI_ne _ _ (Or.inr (by decide)), mI_ne _ _ (Or.inr (by decide))]
    exact e12
  · rw [mI_ne _ _ (Or.inr (by decide)), mI_ne _ _ (Or.inr (by decide)), mI_ne _ _ (Or.inr (by decide))]
    exact mI_at _ _ _ _
  · rw [mI_ne _ _ (Or.inr (by decide)), mI_ne _ _ (Or.inr (by decide))]
    exact mI_at _ _ _ _
  · rw [mI_ne _ _ (Or.inr (by decide))]
    exact mI_at _ _ _ _
  · exact mI_at _ _ _ _
  · rw [mI_ne _ _ (Or.inr (by omega)), mI_ne _ _ (Or.inr (by omega)), mI_ne _ _ (Or.inr (by omega)), mI_ne _ _ (Or.inr (by omega)), m1, mI_ne _ _ (Or.inr (by omega))]
theorem c_beginWith {a d cyc : Nat} (k : mK μ a = 104) (r : mR μ a 4 = some (a + 1)) (k1 : mK μ (a + 1) = 51) (l1 : mL μ (a + 1) = 5) : ∃ μ', f_X3_beginWith a (nI d) (nI cyc) μ = some ((), μ') ∧ CE a μ μ' ∧ mI μ' a 5 = 120 ∧ mI μ' a 10 = nI (cyc + d) ∧ (∀ i, i ≠ 5 → i ≠ 10 → mI μ' a i = mI μ a i) ∧ mI μ' (a + 1) 2 = nI cyc ∧ ∀ i, i ≠ 2 → mI μ' (a + 1) i = mI μ (a + 1) i := by
  have i25 : inb 2 5 := by decide
  have cl2 : Int32.toNatClampNeg 2 = 2 := by decide
  have cia : ∀ y : Option (Unit × Mm), ck (isA 1 51) y = y := fun y => if_pos (by decide)
  refine ⟨sI (sI (sI μ a 5 120) a 10 (nI (cyc + d))) (a + 1) 2 (nI cyc), ?_, ⟨rfl, rfl, rfl, rfl, rfl, rfl, fun y a1 a2 => by rw [mI_row _ _ a2, mI_row _ _ a1, mI_row _ _ a1]⟩, ?_, ?_, fun i h1 h2 => ?_, mI_at _ _ _ _, fun i hi => ?_⟩
  · simp only [f_X3_beginWith, k, ckT, zlS, nI_add, mR_sI', r, bdS, mK_sI, mL_sI, k1, cia, l1, ck_t i25, cl2]
  · rw [mI_row _ _ (by omega), mI_ne _ _ (Or.inr (by decide))]
    exact mI_at _ _ _ _
  · rw [mI_row _ _ (by omega)]
    exact mI_at _ _ _ _
  · rw [mI_row _ _ (by omega), mI_ne _ _ (Or.inr h2), mI_ne _ _ (Or.inr h1)]
  · rw [mI_ne _ _ (Or.inr hi), mI_row _ _ (by omega), mI_row _ _ (by omega)]
theorem REf.beg {y x : Ent} {F F' p p' : Nat → Int32} (h : REf A 0 true x F p) (hq : isQd (eC A x) = true) (h1 : ∀ i, i ≠ 3 → i ≠ 10 → i ≠ 11 → i ≠ 12 → i ≠ 14 → y.1 i = x.1 i) (hs : y.1 10 = 120 ∨ y.1 10 = 109) (e5 : F' 5 = nI (y.1 10)) (e10 : F' 10 = nI (y.1 11)) (e11 : F' 11 = y.2.1 1) (e12 : F' 12 = nI (y.1 12)) (e13 : F' 13 = y.2.1 2) (e14 : F' 14 = y.2.1 0) (e15 : F' 15 = nI (y.1 14)) (e16 : F' 16 = y.2.1 3) (eF : ∀ k, k = 1 ∨ k = 2 ∨ k = 6 ∨ k = 7 ∨ k = 8 ∨ k = 9 → F' k = F k) (ep : p' 2 = nI (y.1 3)) (ep' : ∀ k, k = 0 ∨ k = 1 → p' k = p k) : REf A 0 true y F' p' := by
  have ec : eC A y = eC A x := by
    unfold eC
    rw [h1 0 (by decide) (by decide) (by decide) (by decide) (by decide)]
  unfold REf at h ⊢
  obtain ⟨f1, f2, f3, f4, f5, f6, f7, f8, f9, f10, f11, f12⟩ := h
  rw [ec, eF 1 (by omega), eF 2 (by omega), eF 6 (by omega), eF 7 (by omega), eF 8 (by omega), eF 9 (by omega), ep' 0 (by omega), ep' 1 (by omega), h1 13 (by decide) (by decide) (by decide) (by decide) (by decide), h1 5 (by decide) (by decide) (by decide) (by decide) (by decide), h1 1 (by decide) (by decide) (by decide) (by decide) (by decide), h1 6 (by decide) (by decide) (by decide) (by decide) (by decide), h1 7 (by decide) (by decide) (by decide) (by decide) (by decide), h1 2 (by decide) (by decide) (by decide) (by decide) (by decide), h1 8 (by decide) (by decide) (by decide) (by decide) (by decide), h1 9 (by decide) (by decide) (by decide) (by decide) (by decide)]
  refine ⟨f1, f2, e16, f4, Or.inl e5, f6, f7, f8, fun _ => e10, fun _ => ⟨e11, e12, e13, e14, e15⟩, ?_, fun q => by omega⟩
  rw [ep, if_pos ⟨hq, by omega⟩]
end CBG
