/-! the class: all is the same, all is whole -/
section CSM
variable {b z : Nat} {m : Nat → Nat} {A A' : Sx} {ρ : Nat → Nat} {G : Nat → Nat → Nat} {ar : Nat → Nat} {s : Nat} {μ μ' : Mm} {x y : Int32}
theorem c_seL (h : FR b z A μ) (hh : HR b z A m G ar s μ) (n14 : aS A 14 < 2500) : ∀ (n j fu : Nat), j + n = aS A 14 → n < fu → f_X0_hasSameEnds_b2 fu (b + 1) (nI j) μ = some 1
  | 0, j, fu, hm, hf => by
    obtain ⟨fu, rfl⟩ : ∃ n, fu = n + 1 := ⟨fu - 1, by omega⟩
    have hj : j = aS A 14 := by omega
    subst hj
    have k0 := h.1
    unfold SC at k0
    have sz := c_size h.k100.2.2.2 h.sz.2.2.2
    have c1 := Int32.le_refl (nI (aS A 14))
    simp only [f_X0_hasSameEnds_b2, k0, ckT, bdS, sz, c1, if_true]
  | n + 1, j, fu, hm, hf => by
    obtain ⟨fu, rfl⟩ : ∃ n, fu = n + 1 := ⟨fu - 1, by omega⟩
    have ih := c_seL h hh n14 n (j + 1) fu (by omega) (by omega)
    have k0 := h.1
    unfold SC at k0
    have sz := c_size h.k100.2.2.2 h.sz.2.2.2
    have c1 : ¬ nI (aS A 14) ≤ nI j := nI_ge (by omega) (by omega)
    have ge := c_getE h hh (show j < aS A 14 by omega) (by omega)
    obtain ⟨q1, q2, q3, q4, q5, -⟩ := hh.2.2.2.2.2.2.1 j (by omega)
    have nn : ¬ ¬ nI (aN A 14 j) = nI (aN A 14 j) := fun t => t rfl
    simp only [f_X0_hasSameEnds_b2, k0, ckT, bdS, sz, c1, if_false, ge, q1, q2, q3, q4, q5, not_true, if_true, if_false, nI_1, ih]
theorem c_sw (h : FR b z A μ) (pl : PL A) : ∀ (n j fu : Nat), j + n = 64 → n < fu → f_X0_hasSameState_b46 fu (b + 1) (nI j) μ = f_X0_hasSameState_b78 (b + 1) μ
  | 0, j, fu, hm, hf => by
    obtain ⟨fu, rfl⟩ : ∃ n, fu = n + 1 := ⟨fu - 1, by omega⟩
    have hj : j = 64 := by omega
    subst hj
    have c1 : (64 : Int32) ≤ nI 64 := by decide
    simp only [f_X0_hasSameState_b46, c1, if_true]
  | n + 1, j, fu, hm, hf => by
    obtain ⟨fu, rfl⟩ : ∃ n, fu = n + 1 := ⟨fu - 1, by omega⟩
    have ih := c_sw h pl n (j + 1) fu (by omega) (by omega)
    have k0 := h.1
    unfold SC at k0
    have c1 : ¬ (64 : Int32) ≤ nI j := nI_ge (b := 64) (by omega) (by omega)
    have ib := inbN (p := j) (n := 64) (by omega) (by omega)
    have cj := clN (show j < 100000 by omega)
    have v1 : mI μ (b + 27) j = aV A 2 j := h.2.1.c2 (by omega)
    have v2 : mI μ (b + 8) j = aV A 2 j := by rw [h.2.2.2.1.2.1 j (by omega), pl.2.1 j (by omega)]
    rw [← ih]
    simp only [f_X0_hasSameState_b46, k0, ckT, bdS, c1, if_false, ckA, ck_t ib, cj, v1, v2, if_true, nI_1]
theorem c_sr (h : FR b z A μ) (pl : PL A) (r24 : ∀ r, r < 8 → aN A 1 r < 24) : ∀ (n j fu : Nat), j + n = 8 → n < fu → f_X0_hasSameState_b2 fu (b + 1) (nI j) μ = f_X0_hasSameState_b44 (b + 1) μ
  | 0, j, fu, hm, hf => by
    obtain ⟨fu, rfl⟩ : ∃ n, fu = n + 1 := ⟨fu - 1, by omega⟩
    have hj : j = 8 := by omega
    subst hj
    have c1 : (8 : Int32) ≤ nI 8 := by decide
    simp only [f_X0_hasSameState_b2, c1, if_true]
  | n + 1, j, fu, hm, hf => by
    obtain ⟨fu, rfl⟩ : ∃ n, fu = n + 1 := ⟨fu - 1, by omega⟩
    have ih := c_sr h pl r24 n (j + 1) fu (by omega) (by omega)
    have k0 := h.1
    unfold SC at k0
    have c1 : ¬ (8 : Int32) ≤ nI j := nI_ge (b := 8) (by omega) (by omega)
    have ib := inbN (p := j) (n := 8) (by omega) (by omega)
    have cj := clN (show j < 100000 by omega)
    have v1 : mI μ (b + 11) j = nI (aN A 1 j) := h.2.1.2.1 1 j (by decide) (show j < 8 by omega)
    have vo := c_valueOf h.1 h.2.1 (r24 j (by omega))
    have v2 : mI μ (b + 7) j = aV A 1 (aN A 1 j) := by rw [h.2.2.2.1.1 j (by omega), pl.1 j (by omega)]
    rw [← ih]
    simp only [f_X0_hasSameState_b2, k0, ckT, bdS, c1, if_false, ckA, ck_t ib, cj, v1, vo, v2, if_true, nI_1]
theorem c_isSame (h : FR b z A μ) (hh : HR b z A m G ar s μ) (q : IB A) (n14 : aS A 14 < 2500) : f_X10_isSame b μ = some 1 := by
  have k0 := h.1
  unfold SC at k0
  have pl := q.2.2.2.2.2.2.2.2.2.2.1
  have p := q.2.2.2.1
  have n8 := q.1.2.2.2.1.2
  have se : f_X0_hasSameEnds (b + 1) μ = some 1 := c_seL h hh n14 (aS A 14) 0 5000 (Nat.zero_add _) (by omega)
  have i15 : mI μ (b + 1) 15 = nI (aS A 3) := h.2.1.1 3 rfl
  have i16 : mI μ (b + 1) 16 = nI (aS A 4) := h.2.1.1 4 rfl
  have i64 : mI μ (b + 6) 4 = nI (aS A 4) := by rw [h.2.2.2.1.2.2.2.2, pl.2.2.2.2]
  have e78 : f_X0_hasSameState_b78 (b + 1) μ = some 1 := by
    have nn : ¬ ¬ nI (aS A 4) = nI (aS A 4) := fun t => t rfl
    by_cases c : zb (nI (aS A 3)) = 0
    · simp only [f_X0_hasSameState_b78, f_X0_hasSameState_b99, k0, ckT, i15, c, if_true]
    · simp only [f_X0_hasSameState_b78, f_X0_hasSameState_b99, k0, ckT, i15, c, if_false, bdS, i16, i64, not_true]
  have e44 : f_X0_hasSameState_b44 (b + 1) μ = some 1 := (c_sw h pl 64 0 5000 (Nat.zero_add _) (by omega)).trans e78
  have ss : f_X0_hasSameState (b + 1) μ = some 1 := (c_sr h pl (fun r hr => by have := p.ret hr; omega) 8 0 5000 (Nat.zero_add _) (by omega)).trans e44
  have c1 : ¬ (1 : Int32) = 0 := by decide
  simp only [f_X10_isSame, k0, ckT, bdS, se, c1, if_false, ss]
/-- whether an entry of the first n has it for its result -/
def inD (A : Sx) (i : Nat) : Nat → Bool
  | 0 => false
  | n + 1 => inD A i n || (hasD (eC A (aB A n)) && decide ((aB A n).1 8 = i))
theorem cntD_inD {i : Nat} : ∀ {n : Nat}, (cntD A i n = 0) ↔ inD A i n = false
  | 0 => ⟨fun _ => rfl, fun _ => rfl⟩
  | n + 1 => by
    show ((if hasD (eC A (aB A n)) = true ∧ (aB A n).1 8 = i then 1 else 0) + cntD A i n = 0) ↔ (inD A i n || (hasD (eC A (aB A n)) && decide ((aB A n).1 8 = i))) = false
    rw [Bool.or_eq_false_iff, ← cntD_inD (n := n)]
    by_cases e : hasD (eC A (aB A n)) = true ∧ (aB A n).1 8 = i
    · rw [if_pos e, e.1, decide_eq_true e.2]
      constructor
      · intro h; omega
      · intro h; exact absurd h.2 (by decide)
    · rw [if_neg e]
      have e2 : (hasD (eC A (aB A n)) && decide ((aB A n).1 8 = i)) = false := by
        cases hb : hasD (eC A (aB A n))
        · rfl
        · rw [Bool.true_and]
          exact decide_eq_false (fun t => e ⟨hb, t⟩)
      rw [e2]
      constructor
      · intro h; exact ⟨by omega, rfl⟩
      · intro h; omega
theorem inD_mono {i : Nat} : ∀ {n k : Nat}, inD A i n = true → inD A i (n + k) = true
  | n, 0, h => h
  | n, k + 1, h => by
    show (inD A i (n + k) || _) = true
    rw [inD_mono (k := k) h]
    rfl
theorem c_usL {i : Nat} (h : FR b z A μ) (hh : HR b z A (fun _ => 0) G ar s μ) (q : IB A) (hi : i < 1000) : ∀ (n j fu : Nat), j + n = aS A 9 → n < fu → inD A i j = false → f_X0_isUsed_b2 fu (b + 1) (nI i) (nI j) μ = if inD A i (aS A 9) = true then some 1 else f_X0_isUsed_b39 (b + 1) (nI i) μ
  | 0, j, fu, hm, hf, hn => by
    obtain ⟨fu, rfl⟩ : ∃ n, fu = n + 1 := ⟨fu - 1, by omega⟩
    have hj : j = aS A 9 := by omega
    rw [hj] at hn
    have k0 := h.1
    unfold SC at k0
    have sz := c_sizeB h
    have c1 : nI (aS A 9) ≤ nI j := by rw [hj]; exact Int32.le_refl _
    rw [hn, if_neg (by decide)]
    simp only [f_X0_isUsed_b2, k0, ckT, bdS, sz, c1, if_true]
  | n + 1, j, fu, hm, hf, hn => by
    obtain ⟨fu, rfl⟩ : ∃ n, fu = n + 1 := ⟨fu - 1, by omega⟩
    have k0 := h.1
    unfold SC at k0
    have n9 : aS A 9 ≤ 16 := by have := q.2.1.1; have := q.1.2.1; omega
    have sz := c_sizeB h
    have hj : j < aS A 9 := by omega
    have c1 : ¬ nI (aS A 9) ≤ nI j := nI_ge (by omega) (by omega)
    have gt := c_getB h hh hj (by omega)
    obtain ⟨r1, r2, -, -, -, -, rf⟩ := hh.2.2.2.1 j hj
    have hstep : inD A i (j + 1) = (hasD (eC A (aB A j)) && decide ((aB A j).1 8 = i)) := by
      show (inD A i j || _) = _
      rw [hn]
      rfl
    by_cases e : hasD (eC A (aB A j)) = true ∧ (aB A j).1 8 = i
    · have i8 := (rf.2.2.2.2.2.2.1 rfl e.1).1
      have c2 : ¬ ¬ nI ((aB A j).1 8) = nI i := fun t => t (by rw [e.2])
      have ht : inD A i (aS A 9) = true := by
        obtain ⟨d, hd⟩ : ∃ d, aS A 9 = j + 1 + d := ⟨aS A 9 - (j + 1), by omega⟩
        rw [hd]
        refine inD_mono ?_
        rw [hstep, e.1, decide_eq_true e.2]
        rfl
      rw [ht, if_pos rfl]
      simp only [f_X0_isUsed_b2, k0, ckT, bdS, sz, c1, if_false, gt, r1, i8, c2]
    · have c2 : ¬ mI μ (G 1 j) 8 = nI i := by
        cases hb : hasD (eC A (aB A j))
        · rw [rf.2.2.2.2.2.2.2.1 (Or.inr hb)]
          exact fun t => nI_m1 (show i < 2 ^ 31 by omega) t.symm
        · rw [(rf.2.2.2.2.2.2.1 rfl hb).1]
          have := q.2.2.2.1.dst hj hb
          have := q.1.2.2.2.1.2
          exact nIne (by omega) (by omega) (fun t => e ⟨hb, t⟩)
      have hn' : inD A i (j + 1) = false := by
        rw [hstep]
        cases hb : hasD (eC A (aB A j))
        · rfl
        · rw [Bool.true_and]
          exact decide_eq_false (fun t => e ⟨hb, t⟩)
      have ih := c_usL h hh q hi n (j + 1) fu (by omega) (by omega) hn'
      simp only [f_X0_isUsed_b2, k0, ckT, bdS, sz, c1, if_false, gt, r1, c2, not_false_eq_true, if_true, nI_1, ih]
theorem c_isUsed {i : Nat} (h : FR b z A μ) (hh : HR b z A (fun _ => 0) G ar s μ) (q : IB A) (hi : i < 1000) : f_X0_isUsed (b + 1) (nI i) μ = some (bI (inD A i (aS A 9) || inF (aN A 0) i 8 || inF (aN A 1) i 8)) := by
  have n9 : aS A 9 ≤ 16 := by have := q.2.1.1; have := q.1.2.1; omega
  have k0 := h.1
  unfold SC at k0
  have us := c_usL h hh q hi (aS A 9) 0 5000 (Nat.zero_add _) (by omega) rfl
  have e : f_X0_isUsed (b + 1) (nI i) μ = f_X0_isUsed_b2 5000 (b + 1) (nI i) (nI 0) μ := rfl
  rw [e, us]
  have im := c_inMap h q hi
  have ir := c_inRet h q hi
  have b0 : bI false = 0 := rfl
  have b1 : ¬ bI true = 0 := by decide
  have nn : ¬ ¬ (0 : Int32) = 0 := fun t => t rfl
  cases inD A i (aS A 9)
  · rw [if_neg (by decide)]
    cases hm : inF (aN A 0) i 8
    · rw [hm] at im
      cases hr : inF (aN A 1) i 8
      · rw [hr] at ir
        simp only [f_X0_isUsed_b39, k0, ckT, bdS, im, b0, nn, if_false, ir, if_true]
        rfl
      · rw [hr] at ir
        simp only [f_X0_isUsed_b39, f_X0_isUsed_b61, k0, ckT, bdS, im, b0, nn, if_false, ir, b1]
        rfl
    · rw [hm] at im
      simp only [f_X0_isUsed_b39, f_X0_isUsed_b61, k0, ckT, bdS, im, b1, not_false_eq_true, if_true]
      rfl
  · rfl
/-- it is used just where it isn't free -/
theorem used_e {i : Nat} (q : IB A) (hi : i < aS A 8) : (inD A i (aS A 9) || inF (aN A 0) i 8 || inF (aN A 1) i 8) = decide (cnt (aN A 3) i (aS A 7) = 0) ∧ cnt (aN A 3) i (aS A 7) ≤ 1 := by
  have p := q.2.2.2.1
  have pi := p i
  rw [if_pos hi] at pi
  refine ⟨?_, by omega⟩
  by_cases e : cnt (aN A 3) i (aS A 7) = 0
  · rw [decide_eq_true e]
    by_cases d : cntD A i (aS A 9) = 0
    · have hr : inF (aN A 1) i 8 = true := by
        cases hb : inF (aN A 1) i 8
        · have := cnt_inF.mpr hb
          omega
        · rfl
      rw [hr, Bool.or_true]
    · have hd : inD A i (aS A 9) = true := by
        cases hb : inD A i (aS A 9)
        · exact absurd (cntD_inD.mpr hb) d
        · rfl
      rw [hd]
      rfl
  · rw [decide_eq_false e]
    have d0 : cntD A i (aS A 9) = 0 := by omega
    have r0 : cnt (aN A 1) i 8 = 0 := by omega
    have m0 : inF (aN A 0) i 8 = false := by
      cases hb : inF (aN A 0) i 8
      · rfl
      · obtain ⟨r, hr, er⟩ := inF_t.mp hb
        have fr : inF (aN A 3) i (aS A 7) = true := by
          cases hc : inF (aN A 3) i (aS A 7)
          · exact absurd (cnt_inF.mpr hc) e
          · rfl
        obtain ⟨j, hj, ej⟩ := inF_t.mp fr
        rw [q.2.2.2.2.1.1 r hr] at er
        exact absurd (ej.trans er.symm) (p.map_free (Nat.le_refl _) hr hj)
    rw [cntD_inD.mp d0, cnt_inF.mp r0, m0]
    rfl
theorem c_whL (h : FR b z A μ) (hh : HR b z A (fun _ => 0) G ar s μ) (q : IB A) : ∀ (n j fu : Nat), j + n = aS A 8 → n < fu → f_X10_isWhole_b2 fu b (nI j) μ = some 1
  | 0, j, fu, hm, hf => by
    obtain ⟨fu, rfl⟩ : ∃ n, fu = n + 1 := ⟨fu - 1, by omega⟩
    have hj : j = aS A 8 := by omega
    subst hj
    have k0 := h.1
    unfold SC at k0
    have i6 : mI μ (b + 9) 6 = nI (aS A 8) := h.2.1.1 8 rfl
    have c1 := Int32.le_refl (nI (aS A 8))
    simp only [f_X10_isWhole_b2, k0, ckT, bdS, i6, c1, if_true]
  | n + 1, j, fu, hm, hf => by
    obtain ⟨fu, rfl⟩ : ∃ n, fu = n + 1 := ⟨fu - 1, by omega⟩
    have ih := c_whL h hh q n (j + 1) fu (by omega) (by omega)
    have k0 := h.1
    unfold SC at k0
    have n8 := q.1.2.2.2.1.2
    have i6 : mI μ (b + 9) 6 = nI (aS A 8) := h.2.1.1 8 rfl
    have c1 : ¬ nI (aS A 8) ≤ nI j := nI_ge (by omega) (by omega)
    have tm := c_times (i := j) h q.2.2.2.1 n8 (by omega)
    have us := c_isUsed (i := j) h hh q (by omega)
    obtain ⟨ue, l1⟩ := used_e (i := j) q (by omega)
    rw [ue] at us
    have c2 : ¬ (1 : Int32) < nI (cnt (aN A 3) j (aS A 7)) := nI_nlt (a := 1) l1 (by omega)
    have c10 : ¬ (1 : Int32) = 0 := by decide
    have c01 : ¬ (0 : Int32) = 1 := by decide
    have nn : ¬ ¬ (1 : Int32) = 1 := fun t => t rfl
    by_cases e : cnt (aN A 3) j (aS A 7) = 0
    · rw [decide_eq_true e] at us
      have us' : f_X0_isUsed (b + 1) (nI j) μ = some 1 := us
      rw [e] at tm c2
      have e0 : nI 0 = 0 := rfl
      rw [e0] at tm c2
      simp only [f_X10_isWhole_b2, f_X10_isWhole_b53, k0, ckT, bdS, i6, c1, if_false, tm, us', c2, c01, c10, not_false_eq_true, if_true, nI_1, ih]
    · have e1 : cnt (aN A 3) j (aS A 7) = 1 := by omega
      rw [decide_eq_false e] at us
      have us' : f_X0_isUsed (b + 1) (nI j) μ = some 0 := us
      rw [e1] at tm c2
      have e0 : nI 1 = 1 := rfl
      rw [e0] at tm c2
      simp only [f_X10_isWhole_b2, f_X10_isWhole_b53, k0, ckT, bdS, i6, c1, if_false, tm, us', c2, not_true, c01, c10, not_false_eq_true, if_true, nI_1, ih]
theorem c_isWhole (h : FR b z A μ) (hh : HR b z A (fun _ => 0) G ar s μ) (q : IB A) : f_X10_isWhole b μ = some 1 := by
  have n8 := q.1.2.2.2.1.2
  exact c_whL h hh q (aS A 8) 0 5000 (Nat.zero_add _) (by omega)
end CSM
