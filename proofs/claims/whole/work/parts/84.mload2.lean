/-! the model: loads begin, or not yet -/
section ML2
variable {b : Nat} {A B C A' : Sx} {ρ : Nat → Nat} {μ μ' μ2 : Mm} {S : Nat → Nat → Bool}
theorem m_loads {k : Nat} (h : RM b A ρ μ) (q : IB A) (f : IF A) (gv : GV A) (hk : k < aS A 9) (hs : (aB A k).1 10 = 113) (h9 : eC A (aB A k) = 9) (ha : adok (eX A (aB A k) + eI A (aB A k)) = true) : ∃ μ', f_X11_loads (b + 30) (nI k) μ = some (bI (ldB A k (cmp A (aB A k))).isSome, μ') ∧ RM b ((ldB A k (cmp A (aB A k))).getD A) ρ μ' ∧ CH b sMo μ μ' := by
  obtain ⟨q1, q2, q3, q4, q5, q6, q7, q8, q9, q10, -⟩ := id q
  have n9 : aS A 9 ≤ 16 := by have := q2.1; have := q1.2.1; omega
  have n10 : aS A 10 ≤ 8 := by have := f.1; have := q1.1; omega
  obtain ⟨r1, r2, r3⟩ := h.2.2.1.1 k (by omega)
  have re := h.2.2.2.1 k hk
  have dy := q7 k hk
  have gk := gv k hk
  have ab := q.ab hk
  have ho := q6 k hk
  have hp := q1.p ho.1
  obtain ⟨w11, w3, w12, w4, w13, w6, w14, w15, w15b, w16⟩ := re.d
  obtain ⟨c1, c2, c3, c4, c5, c6, c7, c8⟩ := cmp_f A (aB A k)
  obtain ⟨x, hx⟩ : ∃ x, x = cmp A (aB A k) := ⟨_, rfl⟩
  rw [← hx] at c1 c2 c3 c4 c5 c6 c7 c8 ⊢
  have t0 : x.1 12 = 0 := by
    rw [c2, h9]
    show (if adok (eX A (aB A k) + eI A (aB A k)) = true then 0 else 2) = 0
    rw [ha]
    rfl
  have tv0 : tpV (eC A (aB A k)) (eX A (aB A k)) (eY A (aB A k)) (eI A (aB A k)) = 0 := by rw [← c2]; exact t0
  have had : x.2.1 1 = eX A (aB A k) + eI A (aB A k) := by rw [c5, if_pos ⟨by rw [h9]; rfl, tv0⟩]
  obtain ⟨ad, hadd⟩ : ∃ ad, ad = x.2.1 1 := ⟨_, rfl⟩
  have hada : adok ad = true := by rw [hadd, had]; exact ha
  obtain ⟨a1, a2⟩ := adok_e hada
  have s := h.1
  unfold SM at s
  have s2 := h.1.row ⟨r2, r3⟩
  have f7 : mI μ (b + ρ k) 7 = nI ((aB A k).1 6) := re.2.2.2.2.1
  have f0 : mI μ (b + ρ k) 0 = nI ((aB A k).1 0) := re.1
  have v6 := h.2.1.v1 ab.1
  have pn := (h.2.2.2.2.2.1 _ ho.1).2.2.2.2
  have hia := m_isAd ad
  rw [hada] at hia
  have hsum : aV A 1 ((aB A k).1 6) + aV A 5 ((aB A k).1 0) = ad := by rw [hadd, had]; rfl
  have n10' : ¬ (1 : Int32) = 0 := by decide
  have nn : ¬ ¬ (0 : Int32) = 0 := fun z => z rfl
  -- the row before
  have f13 : mI μ (b + ρ k) 13 = 0 := by
    rw [w13, h9]
    show (if true = true then if (9 : Nat) = 9 then (if (aB A k).1 10 = 113 then 0 else nI ((aB A k).1 12)) else _ else _) = (0 : Int32)
    rw [if_pos rfl, if_pos rfl, if_pos hs]
  have hct : isCt (eC A (aB A k)) = false := by rw [h9]; rfl
  have f6 : mI μ (b + ρ k) 6 = x.2.1 0 := by
    rw [w6 (Or.inl hct), gk hct, c4]
    exact (goV_nc hct).symm
  have f16 : mI μ (b + ρ k) 16 = x.2.1 3 := by rw [w16 h9, c7]
  have x3 : x.2.1 3 = -1 := by rw [c7]; exact dy.2.2.2.2.2.1 hs
  have ld : ∀ {C : Sx} {ν : Mm} (d : Nat), RM b C ρ ν → aS C 9 = aS A 9 → aS C 10 = aS A 10 → aS C 0 = aS A 0 → aB C = aB A → aN C = aN A → mI ν (b + ρ k) = mI μ (b + ρ k) → (∃ μ', f_X11_starts (b + 30) (b + ρ k) (nI d) (sI ν (b + ρ k) 14 (x.2.1 1)) = some ((), μ') ∧ RM b (zB C k (bgW x d (aS C 0))) ρ μ' ∧ CH b sMo ν μ') ∧
      (∃ μ', f_X11_loads_b376 (b + 30) (b + ρ k) (x.2.1 1) ν = some (1, μ') ∧ RM b (zB C k (eN (bgW x 0 (aS C 0)) 10 109)) ρ μ' ∧ CH b sMo ν μ') := fun {C ν} d hC e9 e10 e0 eB eN' er => m_ldRow hC (by rw [e9]; exact n9) (by rw [e10]; exact n10) (by rw [e9]; exact hk) (by rw [eB]; unfold eC; rw [eN']; exact h9) x (fun i a c => by rw [eB]; exact c1 i a c) (by rw [eB]; exact c8) t0 (by rw [er]; exact f13) (by rw [er]; exact f6) (fun z => absurd x3 z) (by rw [er]; exact f16)
  have base : f_X11_loads (b + 30) (nI k) μ = f_X11_loads_b146 (b + 30) (b + ρ k) ad (encO (lstS A ad k)) (bI (!stOp A k)) μ := by
    have sc := m_ldScan (r := b + ρ k) (ad := ad) h q hk k 0 5000 (Nat.zero_add _) (by omega)
    rw [← sc]
    have e0 : f_X11_loads_b55 5000 (b + 30) (nI k) (b + ρ k) ad (encO (lstS A ad 0)) (bI (!stOp A 0)) (nI 0) μ = f_X11_loads_b55 5000 (b + 30) (nI k) (b + ρ k) ad (-1) 1 0 μ := rfl
    rw [e0]
    simp only [f_X11_loads, s, s2, ckT, bdS, ckA, ckI, tcL, r1, f7, f0, v6, pn, ck_t (inbN (p := k) (n := 16) (by omega) (by omega)), clN (show k < 100000 by omega), ck_t (inbN (p := (aB A k).1 6) (n := 24) ab.1 (by omega)), clN (show (aB A k).1 6 < 100000 by omega), ck_t (inbN (p := (aB A k).1 0) (n := 64) hp.1 (by omega)), clN (show (aB A k).1 0 < 100000 by omega), hsum, hia, bI, if_true, n10', not_false_eq_true]
  rw [base]
  have x0 : x.1 0 = (aB A k).1 0 := c1 0 (by decide) (by decide)
  have hm5 : mI μ (b + 74) ((aB A k).1 0 % 16) = nI (aN A 5 ((aB A k).1 0 % 16)) := h.2.1.2.1 5 _ (by omega) (Nat.mod_lt _ (by decide))
  have z5 := zb1 (q2.2.2.2.2.2.1 ((aB A k).1 0 % 16) (Nat.mod_lt _ (by decide)))
  have h16 : ∀ y : Option (Int32 × Mm), ck (¬ (16 : Int32) = 0) y = y := fun y => if_pos (by decide)
  have h4' : ∀ y : Option (Int32 × Mm), ck (¬ (4 : Int32) = 0) y = y := fun y => if_pos (by decide)
  have hLD : ldB A k x = if aN A 5 ((aB A k).1 0 % 16) ≠ 0 ∧ stOp A k = true then none
    else match lstS A ad k with
    | some j => if eC A (aB A j) = 11 ∨ aN A 2 ((aB A j).1 7) ≠ 1 then none else some (zB (zS A 22 (aS A 22 + 1)) k (bgW (eV (eV x 2 (eY A (aB A j))) 3 (nI ((aB A j).1 13))) 1 (aS A 0)))
    | none => if aV A 4 (lineOf x % 4) = nI (lineOf x) then some (zB (zS A 23 (aS A 23 + 1)) k (bgW x 2 (aS A 0)))
      else if lineOf x ∈ (aQ A).map (·.1) then some (zB A k (eN (bgW x 0 (aS A 0)) 10 109))
      else if 2 ≤ (aQ A).length then none
      else some (zB (zS (zQ A (aQ A ++ [(lineOf x, aS A 0 + aN A 6 (lineOf x))])) 24 (aS A 24 + 1)) k (eN (bgW x 0 (aS A 0)) 10 109)) := by
    unfold ldB
    rw [x0, ← hadd]
    rfl
  rw [hLD]
  by_cases cm : aN A 5 ((aB A k).1 0 % 16) ≠ 0 ∧ stOp A k = true
  · rw [if_pos cm]
    have e5 : ¬ zb (nI (aN A 5 ((aB A k).1 0 % 16))) = 0 := by rw [z5]; exact cm.1
    refine ⟨μ, ?_, h, CH.refl0⟩
    rw [cm.2]
    have o0 : bI (!true) = 0 := rfl
    rw [o0]
    simp only [f_X11_loads_b146, s, s2, ckT, bdS, ckA, ckI, tcL, f0, h16, m_mod16 _ hp.1, ck_t (inbN (p := (aB A k).1 0 % 16) (n := 16) (Nat.mod_lt _ (by decide)) (by omega)), clN (show (aB A k).1 0 % 16 < 100000 by omega), hm5, e5, if_false, nn, not_true]
    rfl
  rw [if_neg cm]
  have b167 : f_X11_loads_b146 (b + 30) (b + ρ k) ad (encO (lstS A ad k)) (bI (!stOp A k)) μ = f_X11_loads_b167 (b + 30) (b + ρ k) ad (encO (lstS A ad k)) μ := by
    by_cases c5' : aN A 5 ((aB A k).1 0 % 16) = 0
    · have e5 : zb (nI (aN A 5 ((aB A k).1 0 % 16))) = 0 := by rw [z5]; exact c5'
      simp only [f_X11_loads_b146, s, s2, ckT, bdS, ckA, ckI, tcL, f0, h16, m_mod16 _ hp.1, ck_t (inbN (p := (aB A k).1 0 % 16) (n := 16) (Nat.mod_lt _ (by decide)) (by omega)), clN (show (aB A k).1 0 % 16 < 100000 by omega), hm5, e5, if_true]
    · have e5 : ¬ zb (nI (aN A 5 ((aB A k).1 0 % 16))) = 0 := by rw [z5]; exact c5'
      have so : stOp A k = false := by
        cases hz : stOp A k with
        | false => rfl
        | true => exact absurd ⟨c5', hz⟩ cm
      rw [so]
      have o1 : bI (!false) = 1 := rfl
      rw [o1]
      simp only [f_X11_loads_b146, s, s2, ckT, bdS, ckA, ckI, tcL, f0, h16, m_mod16 _ hp.1, ck_t (inbN (p := (aB A k).1 0 % 16) (n := 16) (Nat.mod_lt _ (by decide)) (by omega)), clN (show (aB A k).1 0 % 16 < 100000 by omega), hm5, e5, if_false, n10', not_false_eq_true, if_true]
  rw [b167]
  cases hL : lstS A ad k with
  | some j =>
    dsimp only
    have en : encO (some j) = nI j := rfl
    rw [en]
    obtain ⟨j1, ⟨j2, j3, j4, j5⟩, -⟩ := lstS_s hL
    have hj : j < aS A 9 := by omega
    obtain ⟨u1, u2, u3⟩ := h.2.2.1.1 j (by omega)
    have hne : ρ j ≠ ρ k := h.2.2.1.2.1 j k j1 (by omega)
    have sj := h.1.row ⟨u2, u3⟩
    have rj := h.2.2.2.1 j hj
    have oj := q6 j hj
    have pj := q1.p oj.1
    have abj := q.ab hj
    have numj : (aB A j).1 13 < 2000 := by have := q10.2.1 j hj; have := q10.2.2; omega
    obtain ⟨y, hy⟩ : ∃ y, y = aB A j := ⟨_, rfl⟩
    rw [← hy] at j2 rj oj pj abj numj ⊢
    have hcj : f_X11_codeOf (b + 30) (b + ρ j) μ = some (nI (eC A y)) := m_codeOf h.1 h.2.2.2.2.2.1 q1.2.2.2.2.1 sj.1 sj.2 rj.1 oj.1
    have hcc := isSt_c j2
    have jm : ¬ nI j = -1 := nI_m1 (by omega)
    have f8j : mI μ (b + ρ j) 8 = nI (y.1 7) := rj.2.2.2.2.2.1
    have f17j : mI μ (b + ρ j) 17 = nI (y.1 13) := rj.2.2.2.2.2.2.1
    have hbj := inbN (p := j) (n := 16) (by omega) (by omega)
    have hcj2 := clN (show j < 100000 by omega)
    have hb7 := inbN (p := y.1 7) (n := 24) abj.2 (by omega)
    have hc7 := clN (show y.1 7 < 100000 by omega)
    have hrd : mI μ (b + 43) (y.1 7) = nI (aN A 2 (y.1 7)) := h.2.1.2.1 2 _ (by omega) abj.2
    have zr := zb1 (q2.2.2.2.2.1 (y.1 7) abj.2)
    have r01 := q2.2.2.2.2.1 (y.1 7) abj.2
    by_cases e11 : eC A y = 11
    · rw [if_pos (Or.inl e11)]
      rw [e11] at hcj
      refine ⟨μ, ?_, h, CH.refl0⟩
      have d11 : (nI 11 = 11) = True := by decide
      simp only [f_X11_loads_b167, jm, if_false, s, ckT, bdS, ckA, ck_t hbj, hcj2, u1, hcj, d11, if_true]
      rfl
    have n11 : ¬ nI (eC A y) = 11 := nIne (n := 11) (by omega) (by omega) e11
    by_cases erd : aN A 2 (y.1 7) ≠ 1
    · rw [if_pos (Or.inr erd)]
      have er : ¬ ¬ zb (nI (aN A 2 (y.1 7))) = 0 := by rw [zr]; omega
      refine ⟨μ, ?_, h, CH.refl0⟩
      simp only [f_X11_loads_b167, jm, if_false, s, sj, ckT, bdS, ckA, ckI, tcL, ck_t hbj, hcj2, u1, hcj, n11, f8j, ck_t hb7, hc7, hrd, er]
      rfl
    rw [if_neg (fun z => z.elim e11 erd)]
    have er : ¬ zb (nI (aN A 2 (y.1 7))) = 0 := by rw [zr]; omega
    have v7 := h.2.1.v1 abj.2
    have ey : eY A y = aV A 1 (y.1 7) := rfl
    obtain ⟨v, hv⟩ : ∃ v, v = eY A y := ⟨_, rfl⟩
    rw [← hv] at ey ⊢
    rw [← ey] at v7
    have m1 : b + ρ j ≠ b + ρ k := by omega
    have m2 : b + 42 ≠ b + ρ k := by omega
    have m3 : b + 30 ≠ b + ρ k := by omega
    obtain ⟨μa, hμa⟩ : ∃ μa, μa = sI (sI (sI μ (b + ρ k) 14 ad) (b + ρ k) 16 (nI (y.1 13))) (b + ρ k) 15 v := ⟨_, rfl⟩
    have ga : CH b (sRow (ρ k)) μ μa := by
      rw [hμa]
      exact ((CH.put (sRow_at _ _)).trans (CH.put (sRow_at _ _))).trans (CH.put (sRow_at _ _))
    have rowa : mI μa (b + ρ k) = up1 (up1 (up1 (mI μ (b + ρ k)) 14 ad) 16 (nI (y.1 13))) 15 v := by rw [hμa, mI_up, mI_up, mI_up]
    have hA1 : RM b (zB A k (eV (aB A k) 3 (nI (y.1 13)))) ρ μa := by
      refine m_begRow h n9 n10 hk ga (fun i hi => ?_) (fun i _ => rfl) rfl ?_
      · rw [rowa, up1_ne _ _ (by omega), up1_ne _ _ (by omega), up1_ne _ _ (by omega)]
      · rw [h9, rowa]
        have e10 : (eV (aB A k) 3 (nI (y.1 13))).1 10 = 113 := hs
        refine ⟨w11, fun _ z => absurd e10 z, fun z => by omega, fun z => by omega, ?_, fun _ => w6 (Or.inl hct), fun _ _ z => ?_, fun _ z => absurd e10 z, fun _ _ z => by omega, fun _ => rfl⟩
        · rw [if_pos (show isQd 9 = true from rfl), if_pos (show (9 : Nat) = 9 from rfl), if_pos e10]
          exact f13
        · rcases z with z | z
          · exact absurd e10 z.2
          · omega
    obtain ⟨hA2, g2⟩ := m_put (i := 22) (n := aS A 22 + 1) hA1 n9 n10 rfl (by decide)
    obtain ⟨μb, hμb⟩ : ∃ μb, μb = sI μa (b + 30) 51 (nI (aS A 22 + 1)) := ⟨_, rfl⟩
    have hA2' : RM b (zS (zB A k (eV (aB A k) 3 (nI (y.1 13)))) 22 (aS A 22 + 1)) ρ μb := by rw [hμb]; exact hA2
    have g2' : CH b sMo μa μb := by rw [hμb]; exact g2
    have rowb : mI μb (b + ρ k) = mI μa (b + ρ k) := by rw [hμb, mI_row _ _ (by omega)]
    have C0 : aS (zS (zB A k (eV (aB A k) 3 (nI (y.1 13)))) 22 (aS A 22 + 1)) 0 = aS A 0 := zS_ne _ _ (by decide)
    have C9 : aS (zS (zB A k (eV (aB A k) 3 (nI (y.1 13)))) 22 (aS A 22 + 1)) 9 = aS A 9 := zS_ne _ _ (by decide)
    have C10 : aS (zS (zB A k (eV (aB A k) 3 (nI (y.1 13)))) 22 (aS A 22 + 1)) 10 = aS A 10 := zS_ne _ _ (by decide)
    have e3 := m_starts (r := ρ k) (d := 1) hA2'.2.1 hA2'.1 ⟨r2, r3⟩
    rw [C0] at e3
    obtain ⟨μc, hμc⟩ : ∃ μc, μc = sI (sI (sI μb (b + ρ k) 11 120) (b + ρ k) 3 (nI (aS A 0))) (b + ρ k) 12 (nI (aS A 0 + 1)) := ⟨_, rfl⟩
    rw [← hμc] at e3
    have gc : CH b (sRow (ρ k)) μb μc := by
      rw [hμc]
      exact ((CH.put (sRow_at _ _)).trans (CH.put (sRow_at _ _))).trans (CH.put (sRow_at _ _))
    have rowc : mI μc (b + ρ k) = up1 (up1 (up1 (mI μa (b + ρ k)) 11 120) 3 (nI (aS A 0))) 12 (nI (aS A 0 + 1)) := by rw [hμc, mI_up, mI_up, mI_up, rowb]
    obtain ⟨b1, b2, b3, b4, b5⟩ := bgW_f (eV (eV x 2 v) 3 (nI (y.1 13))) 1 (aS A 0)
    have eBk : aB (zS (zB A k (eV (aB A k) 3 (nI (y.1 13)))) 22 (aS A 22 + 1)) k = eV (aB A k) 3 (nI (y.1 13)) := up1_eq _ _ _
    have hF := m_begRow (k := k) (y := bgW (eV (eV x 2 v) 3 (nI (y.1 13))) 1 (aS A 0)) hA2' (by rw [C9]; exact n9) (by rw [C10]; exact n10) (by rw [C9]; exact hk) gc (fun i hi => by
      rw [rowc, rowb, up1_ne _ _ (by omega), up1_ne _ _ (by omega), up1_ne _ _ (by omega)]) (fun i hi => by
      rw [eBk, b1 i (by omega) (by omega) (by omega)]
      exact c1 i (by omega) (by omega)) (by rw [eBk, b5]; exact c8) (by
      rw [eBk]
      have e9 : eC (zS (zB A k (eV (aB A k) 3 (nI (y.1 13)))) 22 (aS A 22 + 1)) (eV (aB A k) 3 (nI (y.1 13))) = 9 := h9
      rw [e9, rowc, rowa]
      refine ld_red (by rw [b2]; rfl) (by rw [b4]; rfl) (fun _ => by rw [b3]; rfl) (Or.inl b2) f13 (by rw [b1 12 (by decide) (by decide) (by decide)]; exact t0) (by rw [b5]; exact f6) (by rw [b5]; exact hadd) (fun _ => by rw [b5]; rfl) (by rw [b5]; rfl))
    have eZ : zB (zS (zB A k (eV (aB A k) 3 (nI (y.1 13)))) 22 (aS A 22 + 1)) k (bgW (eV (eV x 2 v) 3 (nI (y.1 13))) 1 (aS A 0)) = zB (zS A 22 (aS A 22 + 1)) k (bgW (eV (eV x 2 v) 3 (nI (y.1 13))) 1 (aS A 0)) := zB_zB (zS A 22 (aS A 22 + 1)) k _ _
    rw [eZ] at hF
    refine ⟨μc, ?_, hF, (ga.mo ⟨r2, r3⟩).trans (g2'.trans (gc.mo ⟨r2, r3⟩))⟩
    have h51 : mI μa (b + 30) 51 = nI (aS A 22) := by
      rw [hμa, mI_row _ _ m3, mI_row _ _ m3, mI_row _ _ m3]
      exact h.2.1.1 22 rfl
    have e3' : f_X11_starts (b + 30) (b + ρ k) 1 μb = some ((), μc) := e3
    simp only [f_X11_loads_b167, jm, if_false, s, s2, sj, ckT, bdS, zlS, ckA, ckI, tcL, ck_t hbj, hcj2, u1, hcj, n11, f8j, ck_t hb7, hc7, hrd, er, not_false_eq_true, if_true, mK_sI, mL_sI, mR_sI', mI_row _ _ m1, mI_row _ _ m2, f17j, v7, ← hμa, h51, nI_1, ← hμb, cl_t e3']
    rfl
  | none =>
    dsimp only
    have en : encO none = -1 := rfl
    rw [en]
    obtain ⟨l, hl⟩ : ∃ l, l = lineOf x := ⟨_, rfl⟩
    have hl2 : l = ad.toNatClampNeg / 4 := by rw [hl, hadd]; rfl
    have l16 : l < 16 := by omega
    have ed : ad / 4 = nI l := by
      rw [hl2]
      have := m_div4 _ a2
      rw [← a1] at this
      exact this
    have em : nI l - nI l / 4 * 4 = nI (l % 4) := m_mod4 l (by omega)
    rw [← hl]
    have v4 := h.2.1.v4 (i := l % 4) (Nat.mod_lt _ (by decide))
    have hb4 := inbN (p := l % 4) (n := 4) (Nat.mod_lt _ (by decide)) (by omega)
    have hc4 := clN (show l % 4 < 100000 by omega)
    have m11 : (-1 : Int32) = -1 := rfl
    by_cases hit : aV A 4 (l % 4) = nI l
    · rw [if_pos hit]
      have h52 : mI μ (b + 30) 52 = nI (aS A 23) := h.2.1.1 23 rfl
      obtain ⟨p1, u1⟩ := m_put (i := 23) (n := aS A 23 + 1) h n9 n10 rfl (by decide)
      obtain ⟨⟨μ3, e3, h3, g3⟩, -⟩ := ld 2 p1 (zS_ne _ _ (by decide)) (zS_ne _ _ (by decide)) (zS_ne _ _ (by decide)) rfl rfl (mI_row _ _ (by have := r2; show b + ρ k ≠ b + 30; omega))
      rw [zS_ne _ _ (show (0 : Nat) ≠ 23 by decide)] at h3
      refine ⟨μ3, ?_, h3, u1.trans g3⟩
      have hit' : ¬ ¬ aV A 4 (l % 4) = nI l := fun z => z hit
      rw [← hadd] at e3
      have e3' : f_X11_starts (b + 30) (b + ρ k) 2 (sI (sI μ (b + 30) 52 (nI (aS A 23 + 1))) (b + ρ k) 14 ad) = some ((), μ3) := e3
      simp only [f_X11_loads_b167, if_true, h4', s, s2, ckT, bdS, zlS, ckA, ckI, tcL, ed, em, ck_t hb4, hc4, v4, hit', if_false, h52, nI_1, mK_sI, mL_sI, cl_t e3']
      rfl
    · rw [if_neg hit]
      have asked := m_asked (A := A) (l := l) h.1 h.2.2.2.2.2.2.2.1 (by omega) q3.1 q3.2.1
      obtain ⟨h35, hkq⟩ := h.2.2.2.2.2.2.2.1
      by_cases hm : l ∈ (aQ A).map (·.1)
      · rw [if_pos hm]
        rw [decide_eq_true hm] at asked
        obtain ⟨-, μ3, e3, h3, g3⟩ := ld 0 h rfl rfl rfl rfl rfl rfl
        refine ⟨μ3, ?_, h3, g3⟩
        rw [← hadd] at e3
        simp only [f_X11_loads_b167, f_X11_loads_b315, if_true, h4', s, s2, ckT, bdS, zlS, ckA, ckI, tcL, ed, em, ck_t hb4, hc4, v4, hit, not_false_eq_true, asked, bI, n10', e3]
        rfl
      · rw [if_neg hm]
        rw [decide_eq_false hm] at asked
        by_cases h2 : 2 ≤ (aQ A).length
        · rw [if_pos h2]
          have l2 : (aQ A).length = 2 := by have := q3.1; omega
          have h35' : mI μ (b + 30) 35 = 2 := by rw [h35, l2]; rfl
          refine ⟨μ, ?_, h, CH.refl0⟩
          simp only [f_X11_loads_b167, if_true, h4', s, s2, ckT, bdS, zlS, ckA, ckI, tcL, ed, em, ck_t hb4, hc4, v4, hit, not_false_eq_true, asked, bI, Bool.false_eq_true, if_false, h35', not_true]
          rfl
        · rw [if_neg h2]
          obtain ⟨L, hLe⟩ : ∃ L, L = (aQ A).length := ⟨_, rfl⟩
          rw [← hLe] at h35 h2
          have h35n : ¬ nI L = 2 := nIne (n := 2) (by omega) (by omega) (by omega)
          have h36 : mI μ (b + 30) 36 = nI (aS A 0) := h.2.1.1 0 rfl
          have h53 : mI μ (b + 30) 53 = nI (aS A 24) := h.2.1.1 24 rfl
          have t6 : mI μ (b + 38) l = nI (aN A 6 l) := h.2.1.2.1 6 l (by omega) l16
          obtain ⟨p1, u1⟩ := m_push (l := l) (t := aS A 0 + aN A 6 l) h n9 n10
          rw [← hLe] at p1 u1
          obtain ⟨ν, hν⟩ : ∃ ν, ν = sI (sI (sI μ (b + 76) L (nI l)) (b + 77) L (nI (aS A 0 + aN A 6 l))) (b + 30) 35 (nI (L + 1)) := ⟨_, rfl⟩
          rw [← hν] at p1 u1
          obtain ⟨p2, u2⟩ := m_put (i := 24) (n := aS A 24 + 1) p1 n9 n10 rfl (by decide)
          have rν : mI (sI ν (b + 30) (mT.1 24).2 (nI (aS A 24 + 1))) (b + ρ k) = mI μ (b + ρ k) := by
            rw [mI_row _ _ (by omega), hν, mI_row _ _ (by omega), mI_row _ _ (by omega), mI_row _ _ (by omega)]
          obtain ⟨-, μ3, e3, h3, g3⟩ := ld 0 p2 (zS_ne _ _ (by decide)) (zS_ne _ _ (by decide)) (zS_ne _ _ (by decide)) rfl rfl rν
          rw [zS_ne _ _ (show (0 : Nat) ≠ 24 by decide)] at h3
          refine ⟨μ3, ?_, h3, u1.trans (u2.trans g3)⟩
          rw [← hadd] at e3
          have e3' : f_X11_loads_b376 (b + 30) (b + ρ k) ad (sI ν (b + 30) 53 (nI (aS A 24 + 1))) = some (1, μ3) := e3
          have n1 : b + 30 ≠ b + 76 := by omega
          have n2 : b + 30 ≠ b + 77 := by omega
          have n3 : b + 38 ≠ b + 76 := by omega
          have hbL := inbN (p := L) (n := 2) (by omega) (by omega)
          have hcL := clN (show L < 100000 by omega)
          have hbl := inbN (p := l) (n := 16) l16 (by omega)
          have hcl := clN (show l < 100000 by omega)
          have kν : mK ν = mK μ := by rw [hν]; rfl
          simp only [f_X11_loads_b167, f_X11_loads_b315, if_true, h4', s, s2, ckT, bdS, zlS, ckA, ckI, tcL, ed, em, ck_t hb4, hc4, v4, hit, not_false_eq_true, not_true, asked, bI, Bool.false_eq_true, if_false, h35, h35n, ck_t hbL, hcL, ck_t hbl, hcl, mK_sI, mL_sI, mR_sI', mI_ne _ _ (Or.inl n1), mI_ne _ _ (Or.inl n2), mI_ne _ _ (Or.inl n3), h36, t6, nI_add, nI_1, mI_ne _ _ (Or.inr (show (53 : Nat) ≠ 35 by decide)), h53, ← hν, e3']
          rfl
end ML2
