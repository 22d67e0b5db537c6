/-! retiring -/
section RET
variable {A B : Sx}
theorem settle_f (A : Sx) (x : Ent) : (∀ i, i ≠ 7 → aS (settle A x) i = aS A i) ∧ (∀ r, r ≠ 1 → r ≠ 3 → aN (settle A x) r = aN A r) ∧ aV (settle A x) = aV A ∧ aB (settle A x) = aB A ∧ aL (settle A x) = aL A ∧ aT (settle A x) = aT A ∧ aQ (settle A x) = aQ A ∧ aS (settle A x) 7 = (if hasD (eC A x) = true then aS A 7 + 1 else aS A 7) ∧ aN (settle A x) 1 = (if hasD (eC A x) = true then up1 (aN A 1) (eD A x) (x.1 8) else aN A 1) ∧ aN (settle A x) 3 = (if hasD (eC A x) = true then up1 (aN A 3) (aS A 7) (x.1 9) else aN A 3) := by
  unfold settle
  cases hd : hasD (eC A x)
  · rw [if_neg Bool.false_ne_true]
    exact ⟨fun _ _ => rfl, fun _ _ _ => rfl, rfl, rfl, rfl, rfl, rfl, rfl, rfl, rfl⟩
  · rw [if_pos (rfl : true = true)]
    refine ⟨fun i h => ?_, fun r h1 h2 => ?_, rfl, rfl, rfl, rfl, rfl, rfl, rfl, rfl⟩
    · simp [zS_, zN_, up1_if, h]
    · simp [zS_, zN_, up2_if, h1, h2]
theorem learn_f (A : Sx) (x : Ent) : aS (learn A x) = aS A ∧ (∀ r, r ≠ 4 → aN (learn A x) r = aN A r) ∧ (∀ r, r ≠ 3 → aV (learn A x) r = aV A r) ∧ aB (learn A x) = aB A ∧ aL (learn A x) = aL A ∧ aT (learn A x) = aT A ∧ aQ (learn A x) = aQ A ∧ ((∀ k, k < 16 → aN A 4 k ≤ 3) → ∀ k, k < 16 → aN (learn A x) 4 k ≤ 3) ∧ ((∀ k, k < 8 → aV A 3 k = -1 ∨ adok (aV A 3 k) = true) → (eC A x = 17 → adok (x.2.1 0) = true) → ∀ k, k < 8 → aV (learn A x) 3 k = -1 ∨ adok (aV (learn A x) 3 k) = true) := by
  unfold learn
  split
  · refine ⟨rfl, fun r h => up2_ne _ _ _ h, fun _ _ => rfl, rfl, rfl, rfl, rfl, fun h k hk => ?_, fun h _ => h⟩
    show up2 (aN A) 4 _ _ 4 k ≤ 3
    rw [up2_eq, up1_if]
    split
    · split
      · exact Nat.min_le_left _ _
      · have := h (x.1 0 % 16) (Nat.mod_lt _ (by decide))
        omega
    · exact h k hk
  · split
    · rename_i h17
      refine ⟨rfl, fun _ _ => rfl, fun r h => up2_ne _ _ _ h, rfl, rfl, rfl, rfl, fun h => h, fun h h2 k hk => ?_⟩
      show up2 (aV A) 3 _ _ 3 k = -1 ∨ adok (up2 (aV A) 3 _ _ 3 k) = true
      rw [up2_eq, up1_if]
      split
      · exact Or.inr (h2 h17)
      · exact h k hk
    · exact ⟨rfl, fun _ _ => rfl, fun _ _ => rfl, rfl, rfl, rfl, rfl, fun h => h, fun h _ => h⟩
theorem finR_f (A : Sx) (x : Ent) : (∀ i, i ≠ 1 → i ≠ 3 → i ≠ 5 → i ≠ 10 → i ≠ 11 → i ≠ 12 → aS (finR A x) i = aS A i) ∧ aN (finR A x) = aN A ∧ (∀ r, r ≠ 2 → aV (finR A x) r = aV A r) ∧ aB (finR A x) = aB A ∧ aL (finR A x) = aL A ∧ aT (finR A x) = aT A ∧ aQ (finR A x) = aQ A ∧
    aS (finR A x) 1 = (if eC A x = 18 then 1 else aS A 1) ∧ aS (finR A x) 3 = (if eC A x = 21 then 0 else aS A 3) ∧ aS (finR A x) 5 = (if eC A x = 21 then aS A 4 else aS A 5) ∧ aS (finR A x) 10 = (if eC A x = 21 then 0 else aS A 10) ∧ aS (finR A x) 11 = (if eC A x = 21 then aS A 4 else aS A 11) ∧ aS (finR A x) 12 = (if eC A x = 21 then 0 else aS A 12) ∧
    aV (finR A x) 2 = (if isSt (eC A x) = true then up1 (aV A 2) (x.2.1 1).toNatClampNeg (chW (eC A x) (aV A 2 (x.2.1 1).toNatClampNeg) (eY A x)) else aV A 2) := by
  unfold finR
  split
  · rename_i h
    have h18 : ¬ eC A x = 18 := fun z => by rw [z] at h; cases h
    have h21 : ¬ eC A x = 21 := fun z => by rw [z] at h; cases h
    rw [if_neg h18, if_neg h21, if_neg h21, if_neg h21, if_neg h21, if_neg h21]
    exact ⟨fun _ _ _ _ _ _ _ => rfl, rfl, fun r h => up2_ne _ _ _ h, rfl, rfl, rfl, rfl, rfl, rfl, rfl, rfl, rfl, rfl, rfl⟩
  · rename_i h
    split
    · rename_i h18
      have h21 : ¬ eC A x = 21 := fun z => by rw [z] at h18; cases h18
      rw [if_neg h21, if_neg h21, if_neg h21, if_neg h21, if_neg h21]
      exact ⟨fun i h1 _ _ _ _ _ => zS_ne _ _ h1, rfl, fun _ _ => rfl, rfl, rfl, rfl, rfl, rfl, rfl, rfl, rfl, rfl, rfl, rfl⟩
    · split
      · rename_i h18 h21
        refine ⟨fun i h1 h3 h5 h10 h11 h12 => ?_, rfl, fun _ _ => rfl, rfl, rfl, rfl, rfl, rfl, rfl, rfl, rfl, rfl, rfl, rfl⟩
        unfold goOn
        simp [zS_, zT_, up1_if, h1, h3, h5, h10, h11, h12]
      · exact ⟨fun _ _ _ _ _ _ _ => rfl, rfl, fun _ _ => rfl, rfl, rfl, rfl, rfl, rfl, rfl, rfl, rfl, rfl, rfl, rfl⟩
theorem tellE_f (A : Sx) (x : Ent) (kd : Nat) : (∀ i, i ≠ 14 → aS (tellE A x kd) i = aS A i) ∧ aS (tellE A x kd) 14 = aS A 14 + 1 ∧ (∀ r, r < 14 → aN (tellE A x kd) r = aN A r) ∧ aN (tellE A x kd) 14 = up1 (aN A 14) (aS A 14) kd ∧ aN (tellE A x kd) 15 = up1 (aN A 15) (aS A 14) (x.1 0) ∧ (∀ r, r < 8 → aV (tellE A x kd) r = aV A r) ∧ aB (tellE A x kd) = aB A ∧ aL (tellE A x kd) = aL A ∧ aT (tellE A x kd) = aT A ∧ aQ (tellE A x kd) = aQ A := by
  refine ⟨fun i h => zS_ne _ _ h, rfl, fun r h => ?_, rfl, rfl, fun r h => ?_, rfl, rfl, rfl, rfl⟩
  · unfold tellE tell
    simp [zS_, zN_, zV_, up2_if, show r ≠ 14 by omega, show r ≠ 15 by omega, show r ≠ 20 by omega, show r ≠ 21 by omega, show r ≠ 22 by omega, show r ≠ 23 by omega]
  · unfold tellE tell
    simp [zS_, zN_, zV_, up2_if, show r ≠ 8 by omega]
/-- what the oldest instruction's retiring changes -/
theorem ret1_f (A : Sx) : (∀ i, i ≠ 1 → i ≠ 3 → i ≠ 5 → i ≠ 7 → i ≠ 9 → i ≠ 10 → i ≠ 11 → i ≠ 12 → i ≠ 14 → aS (ret1 A) i = aS A i) ∧ aS (ret1 A) 14 = aS A 14 + 1 ∧ aS (ret1 A) 9 = aS A 9 - 1 ∧
    aS (ret1 A) 7 = (if hasD (eC A (aB A 0)) = true then aS A 7 + 1 else aS A 7) ∧ aS (ret1 A) 1 = (if eC A (aB A 0) = 18 then 1 else aS A 1) ∧ aS (ret1 A) 3 = (if eC A (aB A 0) = 21 then 0 else aS A 3) ∧ aS (ret1 A) 5 = (if eC A (aB A 0) = 21 then aS A 4 else ((aB A 0).2.1 0).toNatClampNeg) ∧ aS (ret1 A) 10 = (if eC A (aB A 0) = 21 then 0 else aS A 10) ∧ aS (ret1 A) 11 = (if eC A (aB A 0) = 21 then aS A 4 else aS A 11) ∧ aS (ret1 A) 12 = (if eC A (aB A 0) = 21 then 0 else aS A 12) ∧
    (∀ r, r < 14 → r ≠ 1 → r ≠ 3 → r ≠ 4 → aN (ret1 A) r = aN A r) ∧ aN (ret1 A) 1 = (if hasD (eC A (aB A 0)) = true then up1 (aN A 1) (eD A (aB A 0)) ((aB A 0).1 8) else aN A 1) ∧ aN (ret1 A) 3 = (if hasD (eC A (aB A 0)) = true then up1 (aN A 3) (aS A 7) ((aB A 0).1 9) else aN A 3) ∧ ((∀ k, k < 16 → aN A 4 k ≤ 3) → ∀ k, k < 16 → aN (ret1 A) 4 k ≤ 3) ∧ aN (ret1 A) 14 = up1 (aN A 14) (aS A 14) 0 ∧ aN (ret1 A) 15 = up1 (aN A 15) (aS A 14) ((aB A 0).1 0) ∧
    (∀ r, r < 8 → r ≠ 2 → r ≠ 3 → aV (ret1 A) r = aV A r) ∧ aV (ret1 A) 2 = (if isSt (eC A (aB A 0)) = true then up1 (aV A 2) ((aB A 0).2.1 1).toNatClampNeg (chW (eC A (aB A 0)) (aV A 2 ((aB A 0).2.1 1).toNatClampNeg) (eY A (aB A 0))) else aV A 2) ∧ ((∀ k, k < 8 → aV A 3 k = -1 ∨ adok (aV A 3 k) = true) → (eC A (aB A 0) = 17 → adok ((aB A 0).2.1 0) = true) → ∀ k, k < 8 → aV (ret1 A) 3 k = -1 ∨ adok (aV (ret1 A) 3 k) = true) ∧
    aB (ret1 A) = (fun k => aB A (k + 1)) ∧ aL (ret1 A) = aL A ∧ aT (ret1 A) = aT A ∧ aQ (ret1 A) = aQ A := by
  obtain ⟨x, hx⟩ : ∃ x, x = aB A 0 := ⟨_, rfl⟩
  rw [← hx]
  obtain ⟨C0, hC0⟩ : ∃ C, C = tellE A x 0 := ⟨_, rfl⟩
  obtain ⟨C1, hC1⟩ : ∃ C, C = zS (shiftB C0) 5 (x.2.1 0).toNatClampNeg := ⟨_, rfl⟩
  obtain ⟨C2, hC2⟩ : ∃ C, C = settle C1 x := ⟨_, rfl⟩
  obtain ⟨C3, hC3⟩ : ∃ C, C = learn C2 x := ⟨_, rfl⟩
  have hr : ret1 A = finR C3 x := by rw [hC3, hC2, hC1, hC0, hx]; rfl
  obtain ⟨t1, t2, t3, t4, t5, t6, t7, t8, t9, t10⟩ := tellE_f A x 0
  obtain ⟨s1, s2, s3, s4, s5, s6, s7, s8, s9, s10⟩ := settle_f C1 x
  obtain ⟨l1, l2, l3, l4, l5, l6, l7, l8, l9⟩ := learn_f C2 x
  obtain ⟨r1, r2, r3, r4, r5, r6, r7, r8, r9, r10, r11, r12, r13, r14⟩ := finR_f C3 x
  rw [← hC0] at t1 t2 t3 t4 t5 t6 t7 t8 t9 t10
  rw [← hC2] at s1 s2 s3 s4 s5 s6 s7 s8 s9 s10
  rw [← hC3] at l1 l2 l3 l4 l5 l6 l7 l8 l9
  rw [← hr] at r1 r2 r3 r4 r5 r6 r7 r8 r9 r10 r11 r12 r13 r14
  have c1s : ∀ i, i ≠ 5 → i ≠ 9 → aS C1 i = aS C0 i := fun i h5 h9 => by
    rw [hC1, zS_ne _ _ h5]
    exact zS_ne _ _ h9
  have c15 : aS C1 5 = (x.2.1 0).toNatClampNeg := by rw [hC1]; exact zS_at _ _ _
  have c19 : aS C1 9 = aS C0 9 - 1 := by rw [hC1]; rfl
  have c1N : aN C1 = aN C0 := by rw [hC1]; rfl
  have c1V : aV C1 = aV C0 := by rw [hC1]; rfl
  have c1B : aB C1 = fun k => aB C0 (k + 1) := by rw [hC1]; rfl
  have c1L : aL C1 = aL C0 := by rw [hC1]; rfl
  have c1T : aT C1 = aT C0 := by rw [hC1]; rfl
  have c1Q : aQ C1 = aQ C0 := by rw [hC1]; rfl
  have ec1 : eC C1 x = eC A x ∧ eD C1 x = eD A x := by unfold eC eD; rw [c1N, t3 10 (by decide), t3 11 (by decide)]; exact ⟨rfl, rfl⟩
  have ec2 : eC C2 x = eC A x := by unfold eC; rw [s2 10 (by decide) (by decide)]; exact ec1.1
  have ec3 : eC C3 x = eC A x := by unfold eC; rw [l2 10 (by decide)]; exact ec2
  have eY3 : eY C3 x = eY A x := by unfold eY; rw [l3 1 (by decide), s3, c1V, t6 1 (by decide)]
  rw [ec1.1, ec1.2] at s9
  rw [ec1.1] at s8 s10
  rw [ec2] at l9
  rw [ec3] at r8 r9 r10 r11 r12 r13 r14
  rw [eY3] at r14
  have b : ∀ i, i ≠ 7 → i ≠ 5 → i ≠ 9 → i ≠ 14 → aS C3 i = aS A i := fun i h7 h5 h9 h14 => by rw [l1, s1 i h7, c1s i h5 h9, t1 i h14]
  have v2 : aV C3 2 = aV A 2 := by rw [l3 2 (by decide), s3, c1V, t6 2 (by decide)]
  refine ⟨fun i h1 h3 h5 h7 h9 h10 h11 h12 h14 => (r1 i h1 h3 h5 h10 h11 h12).trans (b i h7 h5 h9 h14), ?_, ?_, ?_, ?_, ?_, ?_, ?_, ?_, ?_, fun r h h1 h3 h4 => ?_, ?_, ?_, fun h => ?_, ?_, ?_, fun r h h2 h3 => ?_, ?_, fun h h2 => ?_, ?_, ?_, ?_, ?_⟩
  · rw [r1 14 (by decide) (by decide) (by decide) (by decide) (by decide) (by decide), l1, s1 14 (by decide), c1s 14 (by decide) (by decide), t2]
  · rw [r1 9 (by decide) (by decide) (by decide) (by decide) (by decide) (by decide), l1, s1 9 (by decide), c19, t1 9 (by decide)]
  · rw [r1 7 (by decide) (by decide) (by decide) (by decide) (by decide) (by decide), l1, s8, c1s 7 (by decide) (by decide), t1 7 (by decide)]
  · rw [r8, b 1 (by decide) (by decide) (by decide) (by decide)]
  · rw [r9, b 3 (by decide) (by decide) (by decide) (by decide)]
  · rw [r10, b 4 (by decide) (by decide) (by decide) (by decide), l1, s1 5 (by decide), c15]
  · rw [r11, b 10 (by decide) (by decide) (by decide) (by decide)]
  · rw [r12, b 11 (by decide) (by decide) (by decide) (by decide), b 4 (by decide) (by decide) (by decide) (by decide)]
  · rw [r13, b 12 (by decide) (by decide) (by decide) (by decide)]
  · rw [r2, l2 r h4, s2 r h1 h3, c1N, t3 r h]
  · rw [r2, l2 1 (by decide), s9, c1N, t3 1 (by decide)]
  · rw [r2, l2 3 (by decide), s10, c1N, t3 3 (by decide), c1s 7 (by decide) (by decide), t1 7 (by decide)]
  · rw [r2]
    refine l8 ?_
    rw [s2 4 (by decide) (by decide), c1N, t3 4 (by decide)]
    exact h
  · rw [r2, l2 14 (by decide), s2 14 (by decide) (by decide), c1N, t4]
  · rw [r2, l2 15 (by decide), s2 15 (by decide) (by decide), c1N, t5]
  · rw [r3 r h2, l3 r h3, s3, c1V, t6 r h]
  · rw [r14, v2]
  · rw [r3 3 (by decide)]
    refine l9 ?_ h2
    rw [s3, c1V, t6 3 (by decide)]
    exact h
  · rw [r4, l4, s4, c1B, t7]
  · rw [r5, l5, s5, c1L, t8]
  · rw [r6, l6, s6, c1T, t9]
  · rw [r7, l7, s7, c1Q, t10]
theorem mapAt_shift (hP : SamP A B) (hb : ∀ k, aB B k = aB A (k + 1)) (h0 : ∀ r, r < 8 → aN B 1 r = mapAt A 1 r) : ∀ (n r : Nat), r < 8 → mapAt B n r = mapAt A (n + 1) r
  | 0, r, hr => h0 r hr
  | n + 1, r, hr => by
    obtain ⟨e1, e2, -⟩ := hP.c (x := aB A (n + 1)) (y := aB B n) (by rw [hb])
    show (if hasD (eC B (aB B n)) = true then up1 (mapAt B n) (eD B (aB B n)) ((aB B n).1 8) else mapAt B n) r = (if hasD (eC A (aB A (n + 1))) = true then up1 (mapAt A (n + 1)) (eD A (aB A (n + 1))) ((aB A (n + 1)).1 8) else mapAt A (n + 1)) r
    rw [e1, e2, hb]
    have ih := mapAt_shift hP hb h0 n r hr
    split
    · rw [up1_if, up1_if, ih]
    · exact ih
theorem cntD_shift (hP : SamP A B) (hb : ∀ k, aB B k = aB A (k + 1)) (i : Nat) : ∀ n : Nat, cntD A i (n + 1) = (if hasD (eC A (aB A 0)) = true ∧ (aB A 0).1 8 = i then 1 else 0) + cntD B i n
  | 0 => rfl
  | n + 1 => by
    obtain ⟨e1, -⟩ := hP.c (x := aB A (n + 1)) (y := aB B n) (by rw [hb])
    show (if hasD (eC A (aB A (n + 1))) = true ∧ (aB A (n + 1)).1 8 = i then 1 else 0) + cntD A i (n + 1) = _ + ((if hasD (eC B (aB B n)) = true ∧ (aB B n).1 8 = i then 1 else 0) + cntD B i n)
    rw [e1, hb, cntD_shift hP hb i n]
    omega
theorem goV_nc {c p : Nat} {x y n : Int32} (h : isCt c = false) : goV c p x y n = goV c p 0 0 n := by
  unfold isCt at h
  rw [Bool.or_eq_false_iff] at h
  unfold goV
  rw [h.1, h.2]
  simp
/-- where the plain machine stands at the oldest entry -/
theorem plain_at (q : IB A) (hk : 0 < aS A 9) (hs : (aB A 0).1 10 ≠ 113) : (aB A 0).1 0 = (plA A (aS A 14)).2.2 0 ∧ (aB A 0).1 0 < aS A 15 ∧ eX A (aB A 0) = (plA A (aS A 14)).1 (aN A 12 ((aB A 0).1 0)) ∧ eY A (aB A 0) = (plA A (aS A 14)).1 (aN A 13 ((aB A 0).1 0)) ∧ (aB A 0).1 12 = plT A (plA A (aS A 14)) := by
  obtain ⟨q1, q2, q3, q4, q5, q6, q7, q8, q9, q10, q11, q12, q13, q14, q15⟩ := q
  have hp0 : (aB A 0).1 0 = aS A 5 := q9 0 hk
  have hp := q1.p (q6 0 hk).1
  obtain ⟨g1, g2, -⟩ := q5.2 0 hk
  have ex : eX A (aB A 0) = (plA A (aS A 14)).1 (aN A 12 ((aB A 0).1 0)) := by
    unfold eX
    rw [g1]
    exact q11.1 _ hp.2.2.2.1
  have ey : eY A (aB A 0) = (plA A (aS A 14)).1 (aN A 13 ((aB A 0).1 0)) := by
    unfold eY
    rw [g2]
    exact q11.1 _ hp.2.2.2.2.1
  refine ⟨hp0.trans q11.2.2.1, (q6 0 hk).1, ex, ey, ?_⟩
  have c3 := ((q7 0 hk).2.2.2.2.2.2 hs).2.2.1
  have ep : (plA A (aS A 14)).2.2 0 = (aB A 0).1 0 := by rw [hp0]; exact q11.2.2.1.symm
  unfold plT
  dsimp only
  rw [ep, ← q11.2.2.2.1, ← ex, ← ey, c3]
  unfold opX opY
  rw [show eC A (aB A 0) = aN A 10 ((aB A 0).1 0) from rfl, ← tpV_n _ _ _ _ hp.2.1]
  rfl
/-- a load's address, and a store's -/
theorem mm_ad {x : Ent} (q1 : CF A) (ho : okE A x) (h : CM A x) (hm : isMm (eC A x) = true) (ht : x.1 12 = 0) : adok (x.2.1 1) = true ∧ x.2.1 1 = eX A x + eI A x := by
  obtain ⟨-, -, c3, -, -, c6, -⟩ := h
  have hc := (q1.p ho.1).2.1
  rw [c6, if_pos ⟨hm, ht⟩]
  rw [ht] at c3
  have h21 : ¬ (eC A x = 21 ∧ aS A 3 = 0) := fun z => by rw [z.1] at hm; cases hm
  have h5 : ¬ eC A x = 5 := fun z => by rw [z] at hm; cases hm
  rw [if_neg h21] at c3
  unfold tpV at c3
  rw [if_neg h5, if_pos hm] at c3
  refine ⟨?_, (mm_n (eX A x) (eI A x) _ hc hm).symm⟩
  split at c3
  · assumption
  · cases c3
/-- the oldest entry does what the plain machine does -/
theorem plain_do (q : IB A) (hk : 0 < aS A 9) (hs : (aB A 0).1 10 = 101) (ht : (aB A 0).1 12 = 0) :
    (hasD (eC A (aB A 0)) = true → aV A 1 ((aB A 0).1 8) = (plD A (plA A (aS A 14))).1 (eD A (aB A 0))) ∧ (∀ r, (hasD (eC A (aB A 0)) = true → r ≠ eD A (aB A 0)) → (plD A (plA A (aS A 14))).1 r = (plA A (aS A 14)).1 r) ∧
    (∀ a, a < 64 → (plD A (plA A (aS A 14))).2.1 a = (if isSt (eC A (aB A 0)) = true then up1 (aV A 2) ((aB A 0).2.1 1).toNatClampNeg (chW (eC A (aB A 0)) (aV A 2 ((aB A 0).2.1 1).toNatClampNeg) (eY A (aB A 0))) else aV A 2) a) ∧
    (plD A (plA A (aS A 14))).2.2 0 = (if eC A (aB A 0) = 21 then aS A 4 else ((aB A 0).2.1 0).toNatClampNeg) ∧ (plD A (plA A (aS A 14))).2.2 1 = (if eC A (aB A 0) = 21 then 0 else aS A 3) ∧ (plD A (plA A (aS A 14))).2.2 2 = aS A 4 := by
  obtain ⟨p1, p2, p3, p4, p5⟩ := plain_at q hk (by omega)
  obtain ⟨q1, q2, q3, q4, q5, q6, q7, q8, q9, q10, q11, q12, q13, q14, q15⟩ := q
  have hcm := (q7 0 hk).2.2.2.2.2.2 (by omega)
  have hc : eC A (aB A 0) ≤ 21 := (q1.p p2).2.1
  obtain ⟨-, -, c3, c4, c5, c6, c7, c8, c9⟩ := id hcm
  have hgo : goV (eC A (aB A 0)) ((aB A 0).1 0) (eX A (aB A 0)) (eY A (aB A 0)) (eI A (aB A 0)) = (aB A 0).2.1 0 := by
    rw [c4]
    exact goV_n _ _ _ _ _ hc
  have hpl : ∀ P : Pm, P = plA A (aS A 14) → plD A P = (let r := if eC A (aB A 0) = 9 then up1 P.1 (eD A (aB A 0)) (P.2.1 (eX A (aB A 0) + eI A (aB A 0)).toNatClampNeg) else if hasD (eC A (aB A 0)) = true then up1 P.1 (eD A (aB A 0)) (rsV (eC A (aB A 0)) ((aB A 0).1 0) (eX A (aB A 0)) (eY A (aB A 0)) (eI A (aB A 0))) else P.1
      let w := if isSt (eC A (aB A 0)) = true then up1 P.2.1 (eX A (aB A 0) + eI A (aB A 0)).toNatClampNeg (chW (eC A (aB A 0)) (P.2.1 (eX A (aB A 0) + eI A (aB A 0)).toNatClampNeg) (eY A (aB A 0))) else P.2.1
      if eC A (aB A 0) = 21 then (r, w, up1 (up1 P.2.2 0 (P.2.2 2)) 1 0) else (r, w, up1 P.2.2 0 ((aB A 0).2.1 0).toNatClampNeg)) := fun P hP => by
    rw [← hgo]
    unfold plD
    dsimp only
    rw [hP, ← p1, ← p3, ← p4]
    rfl
  have hD := hpl _ rfl
  obtain ⟨P, hP⟩ : ∃ P, P = plA A (aS A 14) := ⟨_, rfl⟩
  rw [← hP] at hD ⊢
  have hw : ∀ a, a < 64 → aV A 2 a = P.2.1 a := by rw [hP]; exact q11.2.1
  have hk4 : aS A 4 = P.2.2 2 := by rw [hP]; exact q11.2.2.2.2
  have hk3 : aS A 3 = P.2.2 1 := by rw [hP]; exact q11.2.2.2.1
  have hr1 : (plD A P).1 = (if eC A (aB A 0) = 9 then up1 P.1 (eD A (aB A 0)) (P.2.1 (eX A (aB A 0) + eI A (aB A 0)).toNatClampNeg) else if hasD (eC A (aB A 0)) = true then up1 P.1 (eD A (aB A 0)) (rsV (eC A (aB A 0)) ((aB A 0).1 0) (eX A (aB A 0)) (eY A (aB A 0)) (eI A (aB A 0))) else P.1) := by
    rw [hD]
    dsimp only
    split <;> rfl
  refine ⟨fun hd => ?_, fun r hr => ?_, fun a ha => ?_, ?_, ?_, ?_⟩
  · rw [hr1, c9 hs hd]
    by_cases h9 : eC A (aB A 0) = 9
    · obtain ⟨a1, a2⟩ := mm_ad q1 (q6 0 hk) hcm (by rw [h9]; rfl) ht
      rw [if_pos h9, up1_eq, if_neg (by omega), ← a2, ← hw _ (adok_e a1).2]
      rcases q8 0 hk h9 (by omega) ht with ⟨-, -, b3⟩ | ⟨g, -, -, ⟨j, b1, -⟩ | ⟨-, -, b3⟩⟩
      · exact b3 (Or.inr hs)
      · exact absurd b1 (Nat.not_lt_zero _)
      · exact b3
    · rw [if_neg h9, if_pos hd, up1_eq]
      by_cases h15 : eC A (aB A 0) = 15
      · rw [if_pos h15, h15]
        rfl
      · rw [if_neg h15]
        have hq : isQd (eC A (aB A 0)) = true := by
          cases hz : isQd (eC A (aB A 0)) with
          | true => rfl
          | false => exact absurd (D_q hz hd) h15
        rw [c7 h9 hq, if_pos ht]
        exact (rsV_n _ _ _ _ _ hc).symm
  · rw [hr1]
    split
    · rename_i h9
      exact up1_ne _ _ (hr (by rw [h9]; rfl))
    · split
      · rename_i hd
        exact up1_ne _ _ (hr hd)
      · rfl
  · have e1 : (plD A P).2.1 = (if isSt (eC A (aB A 0)) = true then up1 P.2.1 (eX A (aB A 0) + eI A (aB A 0)).toNatClampNeg (chW (eC A (aB A 0)) (P.2.1 (eX A (aB A 0) + eI A (aB A 0)).toNatClampNeg) (eY A (aB A 0))) else P.2.1) := by
      rw [hD]
      dsimp only
      split <;> rfl
    rw [e1]
    by_cases hst : isSt (eC A (aB A 0)) = true
    · have hm : isMm (eC A (aB A 0)) = true := by
        revert hst
        unfold isSt isMm
        simp only [Bool.or_eq_true, decide_eq_true_eq]
        omega
      obtain ⟨a1, a2⟩ := mm_ad q1 (q6 0 hk) hcm hm ht
      rw [if_pos hst, if_pos hst, ← a2, up1_if, up1_if, ← hw _ (adok_e a1).2]
      split
      · rfl
      · exact (hw a ha).symm
    · rw [if_neg hst, if_neg hst]
      exact (hw a ha).symm
  · rw [hD]
    dsimp only
    split
    · rw [hk4]
      rfl
    · rfl
  · rw [hD]
    dsimp only
    split
    · rfl
    · rw [hk3]
      rfl
  · rw [hD]
    dsimp only
    rw [hk4]
    split <;> rfl
end RET
