/-! THE CLASS: fetching, the guess -/
section CFU
variable {b z e sl : Nat} {m m' : Nat → Nat} {A A' B C D : Sx} {P : Pm} {G : Nat → Nat → Nat} {ar : Nat → Nat} {s : Nat} {μ μ' μ2 : Mm} {S : Nat → Nat → Bool}
theorem sw1217 : ∀ c, c < 22 → ((Int32.toInt (nI c) < 12 ∨ 17 < Int32.toInt (nI c)) ↔ (c < 12 ∨ 17 < c)) := by decide +kernel
theorem c_guess {p : Nat} (h : FR b z A μ) (hh : HR b z A m G ar s μ) (w : WF μ) (c : CF A) (hd : BD A) (ht : okT (aT A)) (hp : p < aS A 15) : ∃ s' μ', f_X4_guess (b + 20) (G 0 p) μ = some (nI (guessA A p).1, μ') ∧ FR b z (zT A (guessA A p).2) μ' ∧ HR b z (zT A (guessA A p).2) m G ar s' μ' ∧ CK 1 5 μ μ' := by
  have k0 := h.1
  unfold SC at k0
  have cp := c.p hp
  have ins := hh.2.2.1 p hp
  obtain ⟨ki, j0, j1, j2, j3, j4, j5⟩ := ins
  obtain ⟨cd, hcd⟩ : ∃ cd, cd = aN A 10 p := ⟨_, rfl⟩
  rw [← hcd] at j1
  have hcb : cd < 22 := by omega
  have hg : guessA A p = if isQn cd = true then (if 2 ≤ aN A 4 (p % 16) then (aV A 5 p).toNatClampNeg else p + 1, aT A)
    else if cd = 14 then ((aV A 5 p).toNatClampNeg, aT A)
    else if cd = 15 then ((aV A 5 p).toNatClampNeg, pushT (aT A) (p + 1))
    else if cd = 16 then (if aT A = [] then (p + 1, aT A) else ((aT A).getLastD 0, (aT A).dropLast))
    else if cd = 17 then (if aV A 3 (p % 8) = -1 then p + 1 else (aV A 3 (p % 8)).toNatClampNeg, aT A)
    else (p + 1, aT A) := by
    rw [hcd]
    rfl
  have same : ∀ {g : Nat}, f_X4_guess (b + 20) (G 0 p) μ = some (nI g, μ) → guessA A p = (g, aT A) → ∃ s' μ', f_X4_guess (b + 20) (G 0 p) μ = some (nI (guessA A p).1, μ') ∧ FR b z (zT A (guessA A p).2) μ' ∧ HR b z (zT A (guessA A p).2) m G ar s' μ' ∧ CK 1 5 μ μ' := fun {g} e1 e2 => by
    rw [e2]
    exact ⟨s, μ, e1, h, hh, CK.refl0.mono (by omega) (by omega)⟩
  have nx : mI μ (G 0 p) 0 + 1 = nI (p + 1) := by rw [j0]; exact nI_1 p
  by_cases hr : cd < 12 ∨ 17 < cd
  · have sw := (sw1217 cd hcb).2 hr
    refine same (g := p + 1) ?_ ?_
    · simp only [f_X4_guess, ki, ckT, j1, sw, if_true, nx]
    · have nq : isQn cd = false := by
        unfold isQn
        rw [decide_eq_false (by omega), decide_eq_false (by omega)]
        rfl
      rw [hg, nq, if_neg Bool.false_ne_true, if_neg (by omega), if_neg (by omega), if_neg (by omega), if_neg (by omega)]
  · have sw : ¬ (Int32.toInt (nI cd) < 12 ∨ 17 < Int32.toInt (nI cd)) := fun y => hr ((sw1217 cd hcb).1 y)
    have fm16 := c_fmod16 p cp.1
    have i16 := inbN (p := p % 16) (n := 16) (by omega) (by omega)
    have c16 := clN (show p % 16 < 100000 by omega)
    have cv : mI μ (b + 22) (p % 16) = nI (aN A 4 (p % 16)) := h.2.1.2.1 4 _ (by omega) (show p % 16 < 16 by omega)
    have cn := hd.2.1 (p % 16) (by omega)
    have ntc : cd ≤ 15 → nI (aV A 5 p).toNatClampNeg = aV A 5 p := fun y => nI_tc (cp.2.2.2.2.2 (by omega) (by omega))
    by_cases e12 : cd = 12 ∨ cd = 13
    · have nq : isQn cd = true := by rcases e12 with y | y <;> rw [y] <;> rfl
      have d12 : nI cd = 12 ∨ (¬ nI cd = 12 ∧ nI cd = 13) := by rcases e12 with y | y <;> rw [y] <;> decide
      by_cases h2 : 2 ≤ aN A 4 (p % 16)
      · have c2 : ¬ nI (aN A 4 (p % 16)) < 2 := by
          have := nI_nlt (a := aN A 4 (p % 16)) (b := 2) (by omega) (by omega)
          exact this
        refine same (g := (aV A 5 p).toNatClampNeg) ?_ (by rw [hg, nq, if_pos rfl, if_pos h2])
        rw [ntc (by omega)]
        rcases d12 with y | ⟨y, y2⟩
        · simp only [f_X4_guess, ki, ckT, j1, sw, if_false, y, if_true, k0, bdS, j0, fm16, ckA, ck_t i16, c16, cv, c2, j5]
          simp
        · simp only [f_X4_guess, ki, ckT, j1, sw, if_false, y, if_true, k0, bdS, j0, fm16, ckA, ck_t i16, c16, cv, c2, j5]
          simp [y2]
      · have c2 : nI (aN A 4 (p % 16)) < 2 := by
          have := nI_lt (a := aN A 4 (p % 16)) (b := 2) (by omega) (by omega)
          exact this
        refine same (g := p + 1) ?_ (by rw [hg, nq, if_pos rfl, if_neg h2])
        rcases d12 with y | ⟨y, y2⟩
        · simp only [f_X4_guess, ki, ckT, j1, sw, if_false, y, if_true, k0, bdS, j0, fm16, ckA, ck_t i16, c16, cv, c2, nI_1]
          simp
        · simp only [f_X4_guess, ki, ckT, j1, sw, if_false, y, if_true, k0, bdS, j0, fm16, ckA, ck_t i16, c16, cv, c2, nI_1]
          simp [y2]
    · have nq : isQn cd = false := by
        unfold isQn
        rw [decide_eq_false (fun y => e12 (Or.inl y)), decide_eq_false (fun y => e12 (Or.inr y))]
        rfl
      rw [nq, if_neg Bool.false_ne_true] at hg
      have w12 : ¬ nI cd = 12 := nIne (n := 12) (by omega) (by omega) (fun y => e12 (Or.inl y))
      have w13 : ¬ nI cd = 13 := nIne (n := 13) (by omega) (by omega) (fun y => e12 (Or.inr y))
      by_cases e14 : cd = 14
      · rw [if_pos e14] at hg
        have w14 : nI cd = 14 := by rw [e14]; rfl
        refine same (g := (aV A 5 p).toNatClampNeg) ?_ hg
        rw [ntc (by omega)]
        simp only [f_X4_guess, ki, ckT, j1, sw, if_false, w12, w13, w14, if_true, j5]
        simp
      · rw [if_neg e14] at hg
        have w14 : ¬ nI cd = 14 := nIne (n := 14) (by omega) (by omega) e14
        by_cases e15 : cd = 15
        · rw [if_pos e15] at hg
          have w15 : nI cd = 15 := by rw [e15]; rfl
          obtain ⟨s', μ', e1, F, H, c1⟩ := c_push (p := p + 1) h hh w ht.1
          have ins' := H.2.2.1 p hp
          rw [hg]
          refine ⟨s', μ', ?_, F, H, c1⟩
          have j5' : mI μ' (G 0 p) 5 = aV A 5 p := ins'.2.2.2.2.2.2
          have ki' := ins'.1
          show _ = some (nI (aV A 5 p).toNatClampNeg, μ')
          rw [ntc (by omega)]
          simp only [f_X4_guess, ki, ckT, j1, sw, if_false, w12, w13, w14, w15, if_true, k0, nx, cl_t e1, ki', j5']
          simp
        · rw [if_neg e15] at hg
          have w15 : ¬ nI cd = 15 := nIne (n := 15) (by omega) (by omega) e15
          by_cases e16 : cd = 16
          · rw [if_pos e16] at hg
            have w16 : nI cd = 16 := by rw [e16]; rfl
            have s3 := hh.2.2.2.2.2.2.2.1
            obtain ⟨ks, ls, vs⟩ := hh.2.2.2.2.2.2.2.2
            have k1256 : ∀ y : Option (Int32 × Mm), ck (isA1256 41) y = y := fun y => if_pos (by decide)
            by_cases he : aT A = []
            · rw [if_pos he] at hg
              have l0 : nI (aT A).length = 0 := by rw [he]; rfl
              have nn : ¬ ¬ (0 : Int32) = 0 := fun y => y rfl
              refine same (g := p + 1) ?_ hg
              simp only [f_X4_guess, ki, ckT, j1, sw, if_false, w12, w13, w14, w15, w16, if_true, k0, s3, bdS, ks, k1256, ls, l0, nn, not_true, nx]
              simp
            · rw [if_neg he] at hg
              obtain ⟨s', μ', e1, F, H, c1⟩ := c_pop h hh w ht.1 he
              rw [hg]
              refine ⟨s', μ', ?_, F, H, c1⟩
              have l0 : ¬ nI (aT A).length = 0 := nIne (n := 0) (by have := ht.1; omega) (by omega) (fun y => he (List.length_eq_zero_iff.1 y))
              simp only [f_X4_guess, ki, ckT, j1, sw, if_false, w12, w13, w14, w15, w16, if_true, k0, s3, bdS, ks, k1256, ls, l0, not_false_eq_true, cl_t e1]
              simp
          · rw [if_neg e16] at hg
            have e17 : cd = 17 := by omega
            rw [if_pos e17] at hg
            have w16 : ¬ nI cd = 16 := nIne (n := 16) (by omega) (by omega) e16
            have w17 : nI cd = 17 := by rw [e17]; rfl
            have fm8 := c_fmod8 p cp.1
            have i8 := inbN (p := p % 8) (n := 8) (by omega) (by omega)
            have c8 := clN (show p % 8 < 100000 by omega)
            have tv := h.2.1.c3 (i := p % 8) (by omega)
            by_cases t1 : aV A 3 (p % 8) = -1
            · rw [if_pos t1] at hg
              have nn : ¬ ¬ (-1 : Int32) = -1 := fun y => y rfl
              refine same (g := p + 1) ?_ hg
              simp only [f_X4_guess, f_X4_guessLeap, ki, ckT, j1, sw, if_false, w12, w13, w14, w15, w16, w17, if_true, k0, j0, bdS, fm8, ckA, ck_t i8, c8, tv, t1, nn, not_true, nI_1]
              simp
            · rw [if_neg t1] at hg
              refine same (g := (aV A 3 (p % 8)).toNatClampNeg) ?_ hg
              have ad := (hd.2.2.1 (p % 8) (by omega)).resolve_left t1
              rw [nI_tc ad]
              simp only [f_X4_guess, f_X4_guessLeap, ki, ckT, j1, sw, if_false, w12, w13, w14, w15, w16, w17, if_true, k0, j0, bdS, fm8, ckA, ck_t i8, c8, tv, t1, not_false_eq_true]
              simp
end CFU
