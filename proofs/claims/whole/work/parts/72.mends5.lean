/-! the model: the endings of a cycle -/
section MEN6
variable {b : Nat} {A B A' : Sx} {ρ : Nat → Nat} {μ μ' : Mm} {S : Nat → Nat → Bool}
theorem endCt_f {k : Nat} (hk : k < aS A 9) : aB (endCt A k) = aB A ∧ SamP A (endCt A k) := by
  unfold endCt
  dsimp only
  split
  · have h9 : aS (zS A 19 (aS A 19 + 1)) 9 = aS A 9 := zS_ne _ _ (by decide)
    obtain ⟨t1, t2, t3, t4, t5, t6, -⟩ := throwF_f (zS A 19 (aS A 19 + 1)) (n := k + 1) (by rw [h9]; omega)
    exact ⟨by show aB (throwF _ _) = _; rw [t6]; rfl, ⟨fun r h1 h2 => by show aN (throwF _ _) r = _; rw [t4 r (by omega) (by omega)]; rfl, by show aV (throwF _ _) 5 = _; rw [t5]; rfl⟩⟩
  · exact ⟨rfl, SamP.refl0⟩
theorem endSt_no {k : Nat} (h : isSt (eC A (aB A k)) = false) : endSt A k = A := by
  unfold endSt
  dsimp only
  rw [h]
  simp
theorem endCt_no {k : Nat} (h : isCt (eC A (aB A k)) = false) : endCt A k = A := by
  unfold endCt
  dsimp only
  rw [h]
  simp
theorem isQd_c {c : Nat} (h : isQd c = true) (hd : hasD c = false) : isSt c = true ∧ isCt c = false ∨ isCt c = true ∧ isSt c = false := by
  unfold isQd at h
  unfold hasD at hd
  simp only [Bool.or_eq_true, Bool.and_eq_true, decide_eq_true_eq] at h
  simp only [Bool.or_eq_false_iff, Bool.and_eq_false_iff, decide_eq_false_iff_not] at hd
  have : c = 10 ∨ c = 11 ∨ c = 12 ∨ c = 13 ∨ c = 16 ∨ c = 17 := by omega
  rcases this with rfl | rfl | rfl | rfl | rfl | rfl <;> decide
theorem m_endOne {k : Nat} (h : RM b A ρ μ) (q : IB A) (f : IF A) (hk : k < aS A 9) (hs : (aB A k).1 10 = 120) : ∃ μ', f_X11_ends (b + 30) (nI k) μ = some ((), μ') ∧ RM b (endSt (endCt (endDl A k) k) k) ρ μ' ∧ CH b sMo μ μ' := by
  have hSt := endDl_St A k
  have ec : eC (endDl A k) (aB (endDl A k) k) = eC A (aB A k) := (hSt.c hk).1
  have hS : aS (endDl A k) = aS A := by rw [endDl_eq]; rfl
  obtain ⟨q1, q2, q3, q4, q5, q6, q7, q8, -⟩ := id q
  obtain ⟨d1, d2, d3, d4, d5, d6, d7⟩ := q7 k hk
  have hq : isQd (eC A (aB A k)) = true := by
    cases h : isQd (eC A (aB A k)) with
    | true => rfl
    | false => have := d2 h; omega
  obtain ⟨g1, g2⟩ := endCt_f (A := endDl A k) (k := k) (by rw [hS]; exact hk)
  have ec2 : eC (endCt (endDl A k) k) (aB (endCt (endDl A k) k) k) = eC A (aB A k) := by rw [(g2.c (x := aB (endDl A k) k) (by rw [g1])).1, ec]
  cases hd : hasD (eC A (aB A k)) with
  | true =>
    have e1 : isCt (eC A (aB A k)) = false ∧ isSt (eC A (aB A k)) = false := by
      unfold hasD at hd
      unfold isCt isSt isQn isLp
      simp only [Bool.or_eq_true, Bool.and_eq_true, decide_eq_true_eq] at hd
      simp only [Bool.or_eq_false_iff, decide_eq_false_iff_not]
      omega
    rw [endSt_no (by rw [ec2]; exact e1.2), endCt_no (by rw [ec]; exact e1.1)]
    exact m_endsD h q f hk hs hd
  | false =>
    rcases isQd_c hq hd with ⟨a, c⟩ | ⟨a, c⟩
    · rw [endCt_no (by rw [ec]; exact c)]
      exact m_endsS h q f hk hs a
    · rw [endSt_no (by rw [ec2]; exact c)]
      exact m_endsC h q f hk hs a
theorem DY.s {x : Ent} (h : DY A x) : x.1 10 < 1000 := by
  have := h.1
  omega
theorem m_endL : ∀ (n : Nat) {A : Sx} {k : Nat} {μ : Mm} {fu : Nat}, RM b A ρ μ → IV A → TQ A → aS A 0 < 1000 → n + k = 17 → n < fu → ∃ μ', f_X11_endings_b2 fu (b + 30) (nI k) μ = f_X11_endings_b51 (b + 30) μ' ∧ RM b (endL A n k) ρ μ' ∧ CH b sMo μ μ'
  | 0, A, k, μ, fu, h, q, t, h0, hn, hf => by
    obtain ⟨fu, rfl⟩ : ∃ n, fu = n + 1 := ⟨fu - 1, by omega⟩
    have s := h.1
    unfold SM at s
    have hn9 : aS A 9 ≤ 16 := by have := q.1.2.1.1; have := q.1.1.2.1; omega
    have h23 : mI μ (b + 30) 23 = nI (aS A 9) := h.2.1.1 9 rfl
    have c1 : nI (aS A 9) ≤ nI k := nI_le (by omega) (by omega)
    exact ⟨μ, by simp only [f_X11_endings_b2, s, h23, c1, ckT, if_true], h, CH.refl0⟩
  | n + 1, A, k, μ, fu, h, q, t, h0, hn, hf => by
    obtain ⟨fu, rfl⟩ : ∃ n, fu = n + 1 := ⟨fu - 1, by omega⟩
    have s := h.1
    unfold SM at s
    have hn9 : aS A 9 ≤ 16 := by have := q.1.2.1.1; have := q.1.1.2.1; omega
    have h23 : mI μ (b + 30) 23 = nI (aS A 9) := h.2.1.1 9 rfl
    have h36 : mI μ (b + 30) 36 = nI (aS A 0) := h.2.1.1 0 rfl
    unfold endL
    by_cases hk : k < aS A 9
    · rw [if_pos hk]
      have c1 : ¬ nI (aS A 9) ≤ nI k := nI_ge (by omega) (by omega)
      obtain ⟨r1, r2, r3⟩ := h.2.2.1.1 k (by omega)
      have s2 := h.1.row ⟨r2, r3⟩
      have re := h.2.2.2.1 k hk
      have dy := (q.1.2.2.2.2.2.2.1 k hk)
      have w11 := re.d.1
      have w12 := re.d.2.2.1
      have sk := dy.s
      have hb := inbN (p := k) (n := 16) (by omega) (by omega)
      have hc := clN (show k < 100000 by omega)
      unfold endOne
      by_cases hs : (aB A k).1 10 = 120
      · have e11 : mI μ (b + ρ k) 11 = 120 := by rw [w11, hs]; rfl
        have tk := t.1 k hk hs
        by_cases h11 : (aB A k).1 11 = aS A 0
        · rw [if_pos ⟨hs, h11⟩]
          have e12 : mI μ (b + ρ k) 12 = nI (aS A 0) := by rw [w12 hs, h11]
          obtain ⟨μ1, e1, h1, g1⟩ := m_endOne h q.1 q.2 hk hs
          have hO : endOne A k = endSt (endCt (endDl A k) k) k := if_pos ⟨hs, h11⟩
          have q1 := endOne_ib q.1 q.2 hk
          have t1 := tq_endOne t hk
          have k1 := kp_endOne hk 0 rfl
          rw [hO] at q1 t1 k1
          obtain ⟨μ2, e2, h2, g2⟩ := m_endL n (k := k + 1) (fu := fu) h1 q1 t1 (by rw [k1]; exact h0) (by omega) (by omega)
          refine ⟨μ2, ?_, h2, g1.trans g2⟩
          rw [← e2]
          simp only [f_X11_endings_b2, f_X11_endings_b45, s, s2, r1, h23, h36, c1, ckT, bdS, ckA, ckI, tcL, if_false, ck_t hb, hc, e11, e12, not_true, cl_t e1, nI_1]
        · rw [if_neg (fun z => h11 z.2)]
          have e12 : ¬ mI μ (b + ρ k) 12 = nI (aS A 0) := by rw [w12 hs]; exact nIne (by omega) (by omega) h11
          obtain ⟨μ2, e2, h2, g2⟩ := m_endL n (k := k + 1) (fu := fu) h q t h0 (by omega) (by omega)
          refine ⟨μ2, ?_, h2, g2⟩
          rw [← e2]
          simp only [f_X11_endings_b2, f_X11_endings_b45, s, s2, r1, h23, h36, c1, ckT, bdS, ckA, ckI, tcL, if_false, ck_t hb, hc, e11, e12, not_true, not_false_eq_true, if_true, nI_1]
      · rw [if_neg (fun z => hs z.1)]
        have e11 : ¬ mI μ (b + ρ k) 11 = 120 := by rw [w11]; exact nIne (n := 120) (by omega) (by omega) hs
        obtain ⟨μ2, e2, h2, g2⟩ := m_endL n (k := k + 1) (fu := fu) h q t h0 (by omega) (by omega)
        refine ⟨μ2, ?_, h2, g2⟩
        rw [← e2]
        simp only [f_X11_endings_b2, f_X11_endings_b45, s, s2, r1, h23, c1, ckT, bdS, ckA, ckI, tcL, if_false, ck_t hb, hc, e11, not_false_eq_true, if_true, nI_1]
    · rw [if_neg hk]
      have c1 : nI (aS A 9) ≤ nI k := nI_le (by omega) (by omega)
      exact ⟨μ, by simp only [f_X11_endings_b2, s, h23, c1, ckT, if_true], h, CH.refl0⟩
/-- a value comes over the bus -/
def sBus (r o _ : Nat) : Bool := o == r || (o == 42 || o == 43)
theorem sBus_e {r o k : Nat} (h : sBus r o k = true) : o = r ∨ o = 42 ∨ o = 43 := by
  unfold sBus at h
  simpa using h
theorem m_bus1 {k : Nat} {kc : Nat → Int32 → Int32 → Mm → Option (Unit × Mm)} {w : Int32} {fu : Nat} (h : RM b A ρ μ) (q : IB A) (f : IF A) (hk : k < aS A 9) (hs : (aB A k).1 10 = 98) (hw : ¬ 2 ≤ w) : ∃ μ', f_X11_endings_b55 (fu + 1) (b + 30) w (nI k) μ = f_X11_endings_b55 fu (b + 30) (w + 1) (nI (k + 1)) μ' ∧ RM b (bus1 A k) ρ μ' ∧ CH b sMo μ μ' := by
  have s := h.1
  unfold SM at s
  obtain ⟨q1, q2, q3, q4, q5, q6, q7, q8, -⟩ := id q
  have hn9 : aS A 9 ≤ 16 := by have := q2.1; have := q1.2.1; omega
  have hn10 : aS A 10 ≤ 8 := by have := f.1; have := q1.1; omega
  obtain ⟨r1, r2, r3⟩ := h.2.2.1.1 k (by omega)
  have s2 := h.1.row ⟨r2, r3⟩
  have re := h.2.2.2.1 k hk
  have ho := q6 k hk
  obtain ⟨d1, d2, d3, d4, d5, d6, d7⟩ := q7 k hk
  have hdd := q.dd hk
  obtain ⟨x, hx⟩ : ∃ x, x = aB A k := ⟨_, rfl⟩
  have eb : bus1 A k = zB (zN (zV A 1 (x.1 8) (x.2.1 2)) 2 (x.1 8) 1) k (eN (eN x 10 101) 4 (aS A 0)) := by rw [hx]; rfl
  rw [eb]
  have re0 := re
  rw [← hx] at re ho hs d1 d2 d3 d4 d5 d6 d7 hdd
  have hd := d3 hs
  have dd := hdd hd
  have hq : isQd (eC A x) = true := by
    cases h : isQd (eC A x) with
    | true => rfl
    | false => have := d2 h; omega
  have hp := q1.p ho.1
  have hec : eC A x = aN A 10 (x.1 0) := rfl
  obtain ⟨c1, c2, c3, c4, c5, c6, c7, c8, c9⟩ := d7 (by omega)
  have n21 : eC A x ≠ 21 := fun z => by rw [z] at hd; cases hd
  rw [if_neg (fun z => n21 z.1)] at c3
  have t5 : x.1 12 ≤ 5 := by rw [c3]; exact tpV_le _ _ _ _
  obtain ⟨w11, w3, w12, w4, w13, w6, w14, w15, w15b, w16⟩ := re.d
  have e9 : mI μ (b + ρ k) 9 = nI (x.1 8) := (re.2.2.2.2.2.2.2.2.2.2.1 hd).1
  have e11 : mI μ (b + ρ k) 11 = 98 := by rw [w11, hs]; rfl
  have e13 : mI μ (b + ρ k) 13 = nI (x.1 12) := by
    rw [w13, hq, if_pos rfl, if_neg (show ¬ x.1 10 = 113 by omega), if_neg (show ¬ (x.1 10 = 113 ∨ x.1 10 = 120) by omega), ite_self]
  have e15 : mI μ (b + ρ k) 15 = x.2.1 2 := w15b hd hq (Or.inl hs)
  have h23 : mI μ (b + 30) 23 = nI (aS A 9) := h.2.1.1 9 rfl
  have h36 : mI μ (b + 30) 36 = nI (aS A 0) := h.2.1.1 0 rfl
  have cc1 : ¬ nI (aS A 9) ≤ nI k := nI_ge (by omega) (by omega)
  have n1 : b + 30 ≠ b + ρ k := by omega
  have n2 : b + ρ k ≠ b + 42 := by omega
  have n3 : b + ρ k ≠ b + 43 := by omega
  have n4 : b + 30 ≠ b + 42 := by omega
  have n5 : b + 30 ≠ b + 43 := by omega
  have hb := inbN (p := k) (n := 16) (by omega) (by omega)
  have hc := clN (show k < 100000 by omega)
  have hb8 := inbN (p := x.1 8) (n := 24) dd (by omega)
  have hc8 := clN (show x.1 8 < 100000 by omega)
  have g : CH b (sBus (ρ k)) μ (sI (sI (sI (sI μ (b + 42) (x.1 8) (x.2.1 2)) (b + 43) (x.1 8) 1) (b + ρ k) 11 101) (b + ρ k) 4 (nI (aS A 0))) := by
    have ha : ∀ j, sBus (ρ k) (ρ k) j = true := fun j => by unfold sBus; simp
    have h42 : ∀ j, sBus (ρ k) 42 j = true := fun j => by unfold sBus; simp
    have h43 : ∀ j, sBus (ρ k) 43 j = true := fun j => by unfold sBus; simp
    exact (((CH.put (h42 _)).trans (CH.put (h43 _))).trans (CH.put (ha _))).trans (CH.put (ha _))
  refine ⟨_, ?_, ?_, g.mono fun o j z => by have := sBus_e z; exact decide_eq_true (by omega)⟩
  · by_cases ht : x.1 12 = 0
    · have l0 : nI (x.1 12) ≤ 0 := by rw [ht]; decide
      simp only [f_X11_endings_b55, f_X11_endings_b110, f_X11_endings_b134, s, s2, r1, h23, h36, cc1, hw, ckT, bdS, zlS, ckA, ckI, tcL, if_false, ck_t hb, hc, ck_t hb8, hc8, e9, e11, e13, e15, l0, not_true, if_true, nI_1, mK_sI, mL_sI, mR_sI', mI_ne _ _ (Or.inl n1), mI_ne _ _ (Or.inl n2), mI_ne _ _ (Or.inl n3), mI_ne _ _ (Or.inl n4), mI_ne _ _ (Or.inl n5)]
    · have l0 : ¬ nI (x.1 12) ≤ 0 := nI_nle (by omega) (by omega)
      have v0 : x.2.1 2 = 0 := by
        by_cases h9 : eC A x = 9
        · exact c8 h9 ht
        · rw [c7 h9 hq, if_neg ht]
      rw [v0]
      simp only [f_X11_endings_b55, f_X11_endings_b110, f_X11_endings_b134, s, s2, r1, h23, h36, cc1, hw, ckT, bdS, zlS, ckA, ckI, tcL, if_false, ck_t hb, hc, ck_t hb8, hc8, e9, e11, e13, e15, l0, not_true, if_true, nI_1, mK_sI, mL_sI, mR_sI', mI_ne _ _ (Or.inl n1), mI_ne _ _ (Or.inl n2), mI_ne _ _ (Or.inl n3), mI_ne _ _ (Or.inl n4), mI_ne _ _ (Or.inl n5)]
  · have T1 := (h.2.1.putV mT_ok (q := 1) (j := x.1 8) (by omega) dd (x.2.1 2)).putN mT_ok (q := 2) (j := x.1 8) (by omega) dd 1
    have e0 : (mT.2.2 1).2 + x.1 8 = x.1 8 := Nat.zero_add _
    rw [e0] at T1
    have T2 := T1.ch (S := sRow (ρ k)) ((CH.put (sRow_at _ 11) (v := 101)).trans (CH.put (sRow_at _ 4) (v := nI (aS A 0)))) (fun o j z => by have := sRow_e z; omega)
    have hP : SamP A (zB (zN (zV A 1 (x.1 8) (x.2.1 2)) 2 (x.1 8) 1) k (eN (eN x 10 101) 4 (aS A 0))) := ⟨fun r _ _ => by
      show aN (zN (zV A 1 (x.1 8) (x.2.1 2)) 2 (x.1 8) 1) r = _
      rw [zN_ne _ _ _ (by omega)]
      rfl, by
      show aV (zV A 1 (x.1 8) (x.2.1 2)) 5 = _
      exact zV_ne _ _ _ (by decide)⟩
    have hVV : ∀ r, r ≠ 1 → aV (zB (zN (zV A 1 (x.1 8) (x.2.1 2)) 2 (x.1 8) 1) k (eN (eN x 10 101) 4 (aS A 0))) r = aV A r := fun r hr => by
      show aV (zV A 1 (x.1 8) (x.2.1 2)) r = _
      exact zV_ne _ _ _ hr
    have hNN : ∀ r, r ≠ 2 → aN (zB (zN (zV A 1 (x.1 8) (x.2.1 2)) 2 (x.1 8) 1) k (eN (eN x 10 101) 4 (aS A 0))) r = aN A r := fun r hr => by
      show aN (zN (zV A 1 (x.1 8) (x.2.1 2)) 2 (x.1 8) 1) r = _
      exact zN_ne _ _ _ hr
    refine h.nx (T2.cg (fun _ _ => rfl) (fun _ _ _ _ => rfl) (fun _ _ _ _ => rfl)) (h.2.2.2.1.upd (k := k) h.2.2.1 hn9 (by omega) g (fun o j z => by have := sBus_e z; omega) hP (Nat.le_refl _) (fun j _ hj => up1_ne _ _ hj) (fun _ => ?_)) g (fun o j z => ?_) hn10 hP (Nat.le_refl _) (fun j _ => rfl) rfl (hVV 6 (by decide)) (hVV 7 (by decide)) rfl rfl (fun z => ⟨z, rfl⟩) rfl (fun r hr => hNN r (by omega)) (hVV 8 (by decide))
    · have ey : aB (zB (zN (zV A 1 (x.1 8) (x.2.1 2)) 2 (x.1 8) 1) k (eN (eN x 10 101) 4 (aS A 0))) k = eN (eN x 10 101) 4 (aS A 0) := up1_eq _ _ _
      rw [ey, mI_up, mI_up, mI_row _ _ n3, mI_row _ _ n2]
      refine re.up hP (fun j hj => ?_) (fun i hi => ?_) rfl ?_
      · rw [up1_ne _ _ (by omega), up1_ne _ _ (by omega)]
      · rw [(eN_ _ _ _).1, up1_ne _ _ (by omega), (eN_ _ _ _).1, up1_ne _ _ (by omega)]
      · have hct : isCt (eC A x) = false := by
          have e2 := hd
          unfold hasD at e2
          unfold isCt isQn isLp
          simp only [Bool.or_eq_true, Bool.and_eq_true, decide_eq_true_eq, Bool.or_eq_false_iff, decide_eq_false_iff_not] at e2 ⊢
          omega
        have hm9 : isMm (eC A x) = true → eC A x = 9 := fun z => by
          have e2 := hd
          unfold hasD at e2
          unfold isMm at z
          simp only [Bool.or_eq_true, Bool.and_eq_true, decide_eq_true_eq] at e2 z
          omega
        refine ⟨rfl, fun a _ => w3 hq (by omega), fun z => absurd z (show ¬ (101 : Nat) = 120 by decide), fun _ => rfl, ?_, fun _ => w6 (Or.inl hct), fun a c _ => w14 a c (Or.inl ⟨hm9 a, by omega⟩), fun a _ c => w15 a (by omega) c, fun _ _ _ => e15, fun a => w16 a⟩
        rw [hq, if_pos rfl]
        show mI μ (b + ρ k) 13 = if eC A x = 9 then (if (101 : Nat) = 113 then 0 else nI (x.1 12)) else if (101 : Nat) = 113 ∨ (101 : Nat) = 120 then 0 else nI (x.1 12)
        rw [if_neg (show ¬ (101 : Nat) = 113 by decide), if_neg (show ¬ ((101 : Nat) = 113 ∨ (101 : Nat) = 120) by decide), ite_self]
        exact e13
    · have := sBus_e z
      unfold tabB tabM
      rw [Bool.or_eq_true]
      rcases this with z | z
      · exact Or.inr (decide_eq_true (by omega))
      · exact Or.inl (decide_eq_true (by omega))
theorem m_busL : ∀ (n : Nat) {A : Sx} {k w : Nat} {μ : Mm} {fu : Nat}, RM b A ρ μ → IV A → n + k = 17 → w ≤ 2 → n < fu → ∃ μ', f_X11_endings_b55 fu (b + 30) (nI w) (nI k) μ = some ((), μ') ∧ RM b (busL A n k w) ρ μ' ∧ CH b sMo μ μ'
  | 0, A, k, w, μ, fu, h, q, hn, hw, hf => by
    obtain ⟨fu, rfl⟩ : ∃ n, fu = n + 1 := ⟨fu - 1, by omega⟩
    have s := h.1
    unfold SM at s
    have hn9 : aS A 9 ≤ 16 := by have := q.1.2.1.1; have := q.1.1.2.1; omega
    have h23 : mI μ (b + 30) 23 = nI (aS A 9) := h.2.1.1 9 rfl
    have c1 : nI (aS A 9) ≤ nI k := nI_le (by omega) (by omega)
    exact ⟨μ, by simp only [f_X11_endings_b55, s, h23, c1, ckT, if_true], h, CH.refl0⟩
  | n + 1, A, k, w, μ, fu, h, q, hn, hw, hf => by
    obtain ⟨fu, rfl⟩ : ∃ n, fu = n + 1 := ⟨fu - 1, by omega⟩
    have s := h.1
    unfold SM at s
    have hn9 : aS A 9 ≤ 16 := by have := q.1.2.1.1; have := q.1.1.2.1; omega
    have h23 : mI μ (b + 30) 23 = nI (aS A 9) := h.2.1.1 9 rfl
    unfold busL
    by_cases hk : k < aS A 9
    · have c1 : ¬ nI (aS A 9) ≤ nI k := nI_ge (by omega) (by omega)
      by_cases hw2 : w < 2
      · rw [if_pos ⟨hk, hw2⟩]
        have c2 : ¬ 2 ≤ nI w := nI_ge (b := 2) (by omega) (by omega)
        obtain ⟨r1, r2, r3⟩ := h.2.2.1.1 k (by omega)
        have s2 := h.1.row ⟨r2, r3⟩
        have re := h.2.2.2.1 k hk
        have dy := (q.1.2.2.2.2.2.2.1 k hk)
        have w11 := re.d.1
        have sk := dy.s
        have hb := inbN (p := k) (n := 16) (by omega) (by omega)
        have hc := clN (show k < 100000 by omega)
        by_cases hs : (aB A k).1 10 = 98
        · rw [if_pos hs]
          obtain ⟨μ1, e1, h1, g1⟩ := m_bus1 (kc := fun _ _ _ _ => none) (fu := fu) h q.1 q.2 hk hs c2
          obtain ⟨μ2, e2, h2, g2⟩ := m_busL n (k := k + 1) (w := w + 1) (fu := fu) h1 (bus1_ib q.1 q.2 hk hs) (by omega) (by omega) (by omega)
          exact ⟨μ2, by rw [e1, nI_1, e2], h2, g1.trans g2⟩
        · rw [if_neg hs]
          have e11 : ¬ mI μ (b + ρ k) 11 = 98 := by rw [w11]; exact nIne (n := 98) (by omega) (by omega) hs
          obtain ⟨μ2, e2, h2, g2⟩ := m_busL n (k := k + 1) (w := w) (fu := fu) h q (by omega) hw (by omega)
          refine ⟨μ2, ?_, h2, g2⟩
          rw [← e2]
          simp only [f_X11_endings_b55, f_X11_endings_b134, s, s2, r1, h23, c1, c2, ckT, bdS, ckA, ckI, tcL, if_false, ck_t hb, hc, e11, not_false_eq_true, if_true, nI_1]
      · rw [if_neg (fun z => hw2 z.2)]
        have c2 : 2 ≤ nI w := nI_le (a := 2) (by omega) (by omega)
        exact ⟨μ, by simp only [f_X11_endings_b55, s, h23, c1, c2, ckT, if_true, if_false], h, CH.refl0⟩
    · rw [if_neg (fun z => hk z.1)]
      have c1 : nI (aS A 9) ≤ nI k := nI_le (by omega) (by omega)
      exact ⟨μ, by simp only [f_X11_endings_b55, s, h23, c1, ckT, if_true], h, CH.refl0⟩
theorem m_endings (h : RM b A ρ μ) (q : IV A) (t : TQ A) (h0 : aS A 0 < 1000) : ∃ μ', f_X11_endings (b + 30) μ = some ((), μ') ∧ RM b (endings A) ρ μ' ∧ CH b sMo μ μ' := by
  obtain ⟨μ1, e1, h1, g1⟩ := m_endL 17 (k := 0) (fu := 5000) h q t h0 rfl (by omega)
  obtain ⟨μ2, e2, h2, g2⟩ := m_busL 17 (k := 0) (w := 0) (fu := 5000) h1 (endL_iv 17 q).1 rfl (by omega) (by omega)
  refine ⟨μ2, ?_, h2, g1.trans g2⟩
  unfold f_X11_endings
  have e1' : f_X11_endings_b2 5000 (b + 30) 0 μ = f_X11_endings_b51 (b + 30) μ1 := e1
  rw [e1']
  unfold f_X11_endings_b51
  exact e2
end MEN6
