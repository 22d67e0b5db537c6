/-! the model: an entry begins -/
section MB2
variable {b : Nat} {A B C A' : Sx} {ρ : Nat → Nat} {μ μ' μ2 : Mm} {S : Nat → Nat → Bool}
theorem m_begRow {k : Nat} {y : Ent} (h : RM b A ρ μ) (n9 : aS A 9 ≤ 16) (n10 : aS A 10 ≤ 8) (hk : k < aS A 9) (g : CH b (sRow (ρ k)) μ μ') (hj : ∀ j, j = 0 ∨ j = 1 ∨ j = 2 ∨ j = 5 ∨ j = 7 ∨ j = 8 ∨ j = 9 ∨ j = 10 ∨ 17 ≤ j → mI μ' (b + ρ k) j = mI μ (b + ρ k) j) (hy : ∀ i, i = 0 ∨ i = 1 ∨ i = 2 ∨ i = 5 ∨ i = 6 ∨ i = 7 ∨ i = 8 ∨ i = 9 ∨ i = 13 → y.1 i = (aB A k).1 i) (h2 : y.2.2 = (aB A k).2.2) (hd : REd (eC A (aB A k)) y (mI μ' (b + ρ k))) : RM b (zB A k y) ρ μ' := by
  obtain ⟨r1, r2, r3⟩ := h.2.2.1.1 k (by omega)
  have eB : ∀ j, aB (zB A k y) j = if j = k then y else aB A j := fun j => rfl
  refine h.nx ((h.2.1.ch g (fun o j z => by have := sRow_e z; omega)).cg (fun _ _ => rfl) (fun _ _ _ _ => rfl) (fun _ _ _ _ => rfl)) (h.2.2.2.1.upd (k := k) h.2.2.1 n9 (by omega) g (fun o j z => Or.inl (sRow_e z)) ⟨fun _ _ _ => rfl, rfl⟩ (Nat.le_refl _) (fun j _ hj => by rw [eB, if_neg hj]) (fun _ => ?_)) g (fun o j z => ?_) n10 ⟨fun _ _ _ => rfl, rfl⟩ (Nat.le_refl _) (fun j _ => rfl) rfl rfl rfl rfl rfl (fun z => ⟨z, rfl⟩) rfl (fun r _ => rfl) rfl
  · rw [eB, if_pos rfl]
    exact (h.2.2.2.1 k hk).up ⟨fun _ _ _ => rfl, rfl⟩ hj hy h2 hd
  · have := sRow_e z
    unfold tabB
    rw [Bool.or_eq_true]
    exact Or.inr (decide_eq_true (by omega))
theorem bgW_s {x z : Ent} {d c : Nat} (hz : ∀ i, i ≠ 12 → i ≠ 14 → z.1 i = x.1 i) : ∀ i, i = 0 ∨ i = 1 ∨ i = 2 ∨ i = 5 ∨ i = 6 ∨ i = 7 ∨ i = 8 ∨ i = 9 ∨ i = 13 → (bgW z d c).1 i = x.1 i := fun i hi => by
  rw [(bgW_f z d c).1 i (by omega) (by omega) (by omega)]
  exact hz i (by omega) (by omega)
/-- all but the loads that find their word -/
theorem m_bgPlain {k d : Nat} (h : RM b A ρ μ) (q : IB A) (f : IF A) (gv : GV A) (hk : k < aS A 9) (hs : (aB A k).1 10 = 113) (h9 : eC A (aB A k) ≠ 9) : ∃ μ', f_X11_starts (b + 30) (b + ρ k) (nI d) μ = some ((), μ') ∧ RM b (zB A k (bgW (cmp A (aB A k)) d (aS A 0))) ρ μ' ∧ CH b sMo μ μ' := by
  obtain ⟨q1, q2, q3, q4, q5, q6, q7, q8, -⟩ := id q
  have n9 : aS A 9 ≤ 16 := by have := q2.1; have := q1.2.1; omega
  have n10 : aS A 10 ≤ 8 := by have := f.1; have := q1.1; omega
  obtain ⟨r1, r2, r3⟩ := h.2.2.1.1 k (by omega)
  have re := h.2.2.2.1 k hk
  obtain ⟨d1, d2, d3, d4, d5, d6, d7⟩ := q7 k hk
  have gk := gv k hk
  obtain ⟨w11, w3, w12, w4, w13, w6, w14, w15, w15b, w16⟩ := re.d
  have hq : isQd (eC A (aB A k)) = true := by
    cases h : isQd (eC A (aB A k)) with
    | true => rfl
    | false => have := d2 h; omega
  obtain ⟨c1, c2, c3, c4, c5⟩ := cmp_f A (aB A k)
  obtain ⟨b1, b2, b3, b4, b5⟩ := bgW_f (cmp A (aB A k)) d (aS A 0)
  have e1 := m_starts (d := d) h.2.1 h.1 ⟨r2, r3⟩
  obtain ⟨μ', hμ'⟩ : ∃ μ', μ' = sI (sI (sI μ (b + ρ k) 11 120) (b + ρ k) 3 (nI (aS A 0))) (b + ρ k) 12 (nI (aS A 0 + d)) := ⟨_, rfl⟩
  rw [← hμ'] at e1
  have g : CH b (sRow (ρ k)) μ μ' := by
    rw [hμ']
    exact ((CH.put (sRow_at _ _)).trans (CH.put (sRow_at _ _))).trans (CH.put (sRow_at _ _))
  have row : mI μ' (b + ρ k) = up1 (up1 (up1 (mI μ (b + ρ k)) 11 120) 3 (nI (aS A 0))) 12 (nI (aS A 0 + d)) := by rw [hμ', mI_up, mI_up, mI_up]
  refine ⟨μ', e1, m_begRow h n9 n10 hk g (fun j hj => ?_) (bgW_s c1) (by rw [b5]; exact c5.2.2.2) ?_, g.mo ⟨r2, r3⟩⟩
  · rw [row, up1_ne _ _ (by omega), up1_ne _ _ (by omega), up1_ne _ _ (by omega)]
  · unfold REd
    rw [b2, b3, b4, b5, row, hq]
    refine ⟨rfl, fun _ _ => rfl, fun _ => rfl, fun z => absurd z (by decide), ?_, fun z => ?_, fun _ _ z => ?_, fun z => absurd z h9, fun _ _ z => absurd z (by decide), fun z => absurd z h9⟩
    · rw [if_pos rfl, if_neg h9, if_pos (Or.inr rfl)]
      have w13' := w13
      rw [hq, if_pos rfl, if_neg h9, if_pos (Or.inl hs)] at w13'
      exact w13'
    · have hc := z.resolve_right (by decide)
      show mI μ (b + ρ k) 6 = _
      rw [w6 (Or.inl hc), gk hc, c4]
      exact (goV_nc hc).symm
    · rcases z with z | z
      · exact absurd z.1 h9
      · exact absurd z (by decide)
/-- a load without an address begins, with its trap -/
theorem m_bgTrap {k : Nat} (h : RM b A ρ μ) (q : IB A) (f : IF A) (gv : GV A) (hk : k < aS A 9) (hs : (aB A k).1 10 = 113) (h9 : eC A (aB A k) = 9) (ha : adok (eX A (aB A k) + eI A (aB A k)) = false) : ∃ μ', f_X11_loads (b + 30) (nI k) μ = some (1, μ') ∧ RM b (zB A k (bgW (cmp A (aB A k)) 1 (aS A 0))) ρ μ' ∧ CH b sMo μ μ' := by
  obtain ⟨q1, q2, q3, q4, q5, q6, q7, q8, -⟩ := id q
  have n9 : aS A 9 ≤ 16 := by have := q2.1; have := q1.2.1; omega
  have n10 : aS A 10 ≤ 8 := by have := f.1; have := q1.1; omega
  obtain ⟨r1, r2, r3⟩ := h.2.2.1.1 k (by omega)
  have re := h.2.2.2.1 k hk
  obtain ⟨d1, d2, d3, d4, d5, d6, d7⟩ := q7 k hk
  have gk := gv k hk
  have ab := q.ab hk
  have ho := q6 k hk
  have hp := q1.p ho.1
  obtain ⟨w11, w3, w12, w4, w13, w6, w14, w15, w15b, w16⟩ := re.d
  obtain ⟨c1, c2, c3, c4, c5, c6, c7, c8⟩ := cmp_f A (aB A k)
  obtain ⟨b1, b2, b3, b4, b5⟩ := bgW_f (cmp A (aB A k)) 1 (aS A 0)
  have t2 : (cmp A (aB A k)).1 12 = 2 := by
    rw [c2, h9]
    show (if adok (eX A (aB A k) + eI A (aB A k)) = true then 0 else 2) = 2
    rw [ha]
    rfl
  have g0 : CH b (sRow (ρ k)) μ (sI μ (b + ρ k) 13 2) := CH.put (sRow_at _ _)
  have S1 := h.1.ch g0
  have T1 := h.2.1.ch g0 (fun o j z => by have := sRow_e z; omega)
  have e1 := m_starts (d := 1) T1 S1 ⟨r2, r3⟩
  obtain ⟨μ', hμ'⟩ : ∃ μ', μ' = sI (sI (sI (sI μ (b + ρ k) 13 2) (b + ρ k) 11 120) (b + ρ k) 3 (nI (aS A 0))) (b + ρ k) 12 (nI (aS A 0 + 1)) := ⟨_, rfl⟩
  rw [← hμ'] at e1
  have g : CH b (sRow (ρ k)) μ μ' := by
    rw [hμ']
    exact ((g0.trans (CH.put (sRow_at _ _))).trans (CH.put (sRow_at _ _))).trans (CH.put (sRow_at _ _))
  have row : mI μ' (b + ρ k) = up1 (up1 (up1 (up1 (mI μ (b + ρ k)) 13 2) 11 120) 3 (nI (aS A 0))) 12 (nI (aS A 0 + 1)) := by rw [hμ', mI_up, mI_up, mI_up, mI_up]
  have s := h.1
  unfold SM at s
  have s2 := h.1.row ⟨r2, r3⟩
  have f7 : mI μ (b + ρ k) 7 = nI ((aB A k).1 6) := re.2.2.2.2.1
  have f0 : mI μ (b + ρ k) 0 = nI ((aB A k).1 0) := re.1
  have v6 := h.2.1.v1 ab.1
  have pn := (h.2.2.2.2.2.1 _ ho.1).2.2.2.2
  have had := m_isAd (eX A (aB A k) + eI A (aB A k))
  rw [ha] at had
  have had' : f_X11_isAddress (aV A 1 ((aB A k).1 6) + aV A 5 ((aB A k).1 0)) = some (bI false) := had
  refine ⟨μ', ?_, m_begRow h n9 n10 hk g (fun j hj => ?_) (bgW_s c1) (by rw [b5]; exact c8) ?_, g.mo ⟨r2, r3⟩⟩
  · have e1' : f_X11_starts (b + 30) (b + ρ k) 1 (sI μ (b + ρ k) 13 2) = some ((), μ') := e1
    simp only [f_X11_loads, s, s2, ckT, bdS, zlS, ckA, ckI, tcL, r1, f7, f0, v6, pn, ck_t (inbN (p := k) (n := 16) (by omega) (by omega)), clN (show k < 100000 by omega), ck_t (inbN (p := (aB A k).1 6) (n := 24) ab.1 (by omega)), clN (show (aB A k).1 6 < 100000 by omega), ck_t (inbN (p := (aB A k).1 0) (n := 64) hp.1 (by omega)), clN (show (aB A k).1 0 < 100000 by omega), had', bI, Bool.false_eq_true, if_false, not_true, cl_t e1']
  · rw [row, up1_ne _ _ (by omega), up1_ne _ _ (by omega), up1_ne _ _ (by omega), up1_ne _ _ (by omega)]
  · have b12 : (bgW (cmp A (aB A k)) 1 (aS A 0)).1 12 = 2 := by rw [b1 12 (by decide) (by decide) (by decide), t2]
    rw [h9] at w13 w6 w16 ⊢
    unfold REd
    rw [b2, b3, b4, b12, b5, row]
    refine ⟨rfl, fun _ _ => rfl, fun _ => rfl, fun z => absurd z (by decide), rfl, fun z => ?_, fun _ z => absurd z (by decide), fun _ _ z => ?_, fun _ _ z => absurd z (by decide), fun _ => ?_⟩
    · show mI μ (b + ρ k) 6 = _
      rw [w6 (Or.inl rfl), gk (by rw [h9]; rfl), c4, h9]
      exact (goV_nc rfl).symm
    · rw [c7, d6 hs] at z
      exact absurd rfl z
    · show mI μ (b + ρ k) 16 = _
      rw [w16 rfl, c7]
/-- stores that are older than a load: whether all have ended, the last with its address -/
def encO (o : Option Nat) : Int32 := match o with | none => -1 | some j => nI j
theorem m_ldScan {k r : Nat} {ad : Int32} (h : RM b A ρ μ) (q : IB A) (hk : k < aS A 9) : ∀ (m j fu : Nat), j + m = k → m < fu → f_X11_loads_b55 fu (b + 30) (nI k) r ad (encO (lstS A ad j)) (bI (!stOp A j)) (nI j) μ = f_X11_loads_b146 (b + 30) r ad (encO (lstS A ad k)) (bI (!stOp A k)) μ
  | 0, j, fu, hm, hf => by
    obtain ⟨fu, rfl⟩ : ∃ n, fu = n + 1 := ⟨fu - 1, by omega⟩
    have hj : j = k := by omega
    subst hj
    have c1 := Int32.le_refl (nI j)
    simp only [f_X11_loads_b55, c1, if_true]
  | m + 1, j, fu, hm, hf => by
    obtain ⟨fu, rfl⟩ : ∃ n, fu = n + 1 := ⟨fu - 1, by omega⟩
    have ih := m_ldScan (r := r) (ad := ad) h q hk m (j + 1) fu (by omega) (by omega)
    rw [← ih]
    obtain ⟨q1, q2, q3, q4, q5, q6, q7, q8, -⟩ := id q
    have n9 : aS A 9 ≤ 16 := by have := q2.1; have := q1.2.1; omega
    have s := h.1
    unfold SM at s
    have hj : j < aS A 9 := by omega
    have c1 : ¬ nI k ≤ nI j := nI_ge (by omega) (by omega)
    obtain ⟨r1, r2, r3⟩ := h.2.2.1.1 j (by omega)
    have s2 := h.1.row ⟨r2, r3⟩
    have re := h.2.2.2.1 j hj
    have ho := q6 j hj
    have dy := q7 j hj
    have hp := q1.p ho.1
    obtain ⟨w11, w3, w12, w4, w13, w6, w14, w15, w15b, w16⟩ := re.d
    have r13 := fun hs => row13 h q hj hs
    have hco : f_X11_codeOf (b + 30) (b + ρ j) μ = some (nI (eC A (aB A j))) := m_codeOf h.1 h.2.2.2.2.2.1 q1.2.2.2.2.1 s2.1 s2.2 re.1 ho.1
    have hcs := m_isSt (eC A (aB A j)) (by have : eC A (aB A j) = aN A 10 ((aB A j).1 0) := rfl; omega)
    have hst : stOp A (j + 1) = ((isSt (eC A (aB A j)) && decide ((aB A j).1 10 ≠ 101)) || stOp A j) := rfl
    have hls : lstS A ad (j + 1) = if isSt (eC A (aB A j)) ∧ (aB A j).1 10 = 101 ∧ (aB A j).1 12 = 0 ∧ (aB A j).2.1 1 = ad then some j else lstS A ad j := rfl
    rw [hst, hls]
    obtain ⟨x, hx⟩ : ∃ x, x = aB A j := ⟨_, rfl⟩
    rw [← hx] at re ho dy hp w11 w3 w12 w4 w13 w6 w14 w15 w15b w16 r13 hco hcs ⊢
    have hb := inbN (p := j) (n := 16) (by omega) (by omega)
    have hc := clN (show j < 100000 by omega)
    have ds := dy.s
    have n10 : ¬ (1 : Int32) = 0 := by decide
    have nn : ¬ ¬ (0 : Int32) = 0 := fun z => z rfl
    cases hS : isSt (eC A x)
    · rw [hS] at hcs
      rw [if_neg (fun z => Bool.false_ne_true z.1), Bool.false_and, Bool.false_or]
      simp only [f_X11_loads_b55, f_X11_loads_b140, s, c1, if_false, ckT, bdS, ckA, ck_t hb, hc, r1, hco, hcs, bI, Bool.false_eq_true, if_true, nI_1]
    · rw [hS] at hcs
      have hcc := isSt_c hS
      have hmm : isMm (eC A x) = true := by rcases hcc with e | e <;> rw [e] <;> rfl
      by_cases h101 : x.1 10 = 101
      · have e11 : ¬ ¬ mI μ (b + ρ j) 11 = 101 := by rw [w11, h101]; exact fun z => z rfl
        have st' : (true && decide (x.1 10 ≠ 101) || stOp A j) = stOp A j := by rw [decide_eq_false (fun z => z h101)]; rfl
        rw [st']
        obtain ⟨t1, -, t5⟩ := r13 h101
        have e13 : mI μ (b + ρ j) 13 = nI (x.1 12) := t1 (fun z => by omega)
        have key : ∀ s0 : Int32, f_X11_loads_b102 (f_X11_loads_b55 fu) (b + 30) (nI k) r ad (encO (lstS A ad j)) (nI j) (b + ρ j) s0 μ = f_X11_loads_b55 fu (b + 30) (nI k) r ad (encO (if true = true ∧ x.1 10 = 101 ∧ x.1 12 = 0 ∧ x.2.1 1 = ad then some j else lstS A ad j)) s0 (nI (j + 1)) μ := fun s0 => by
          by_cases ht : x.1 12 = 0
          · have e13' : ¬ ¬ mI μ (b + ρ j) 13 = 0 := by rw [e13, ht]; exact fun z => z rfl
            have e14 : mI μ (b + ρ j) 14 = x.2.1 1 := w14 hmm ht (Or.inr h101)
            by_cases ha : x.2.1 1 = ad
            · rw [if_pos ⟨rfl, h101, ht, ha⟩]
              have e14' : ¬ ¬ mI μ (b + ρ j) 14 = ad := by rw [e14, ha]; exact fun z => z rfl
              simp only [f_X11_loads_b102, f_X11_loads_b138, f_X11_loads_b140, s2, ckT, ckA, ckI, tcL, e11, e13', e14', if_false, nI_1]
              rfl
            · rw [if_neg (fun z => ha z.2.2.2)]
              have e14' : ¬ mI μ (b + ρ j) 14 = ad := by rw [e14]; exact ha
              simp only [f_X11_loads_b102, f_X11_loads_b136, f_X11_loads_b138, f_X11_loads_b140, s2, ckT, ckA, ckI, tcL, e11, e13', e14', if_false, not_false_eq_true, if_true, nI_1]
          · rw [if_neg (fun z => ht z.2.2.1)]
            have e13' : ¬ mI μ (b + ρ j) 13 = 0 := by rw [e13]; exact nIne (n := 0) (by omega) (by omega) ht
            simp only [f_X11_loads_b102, f_X11_loads_b136, f_X11_loads_b138, f_X11_loads_b140, s2, ckT, ckA, ckI, tcL, e11, e13', if_false, not_false_eq_true, if_true, nI_1]
        cases hO : stOp A j
        · have o1 : bI (!false) = 1 := rfl
          rw [o1]
          rw [← key 1]
          simp only [f_X11_loads_b55, s, s2, c1, if_false, ckT, bdS, ckA, ckI, tcL, ck_t hb, hc, r1, hco, hcs, bI, n10, e11, if_true]
        · have o1 : bI (!true) = 0 := rfl
          rw [o1]
          rw [← key 0]
          simp only [f_X11_loads_b55, f_X11_loads_b101, s, s2, c1, if_false, ckT, bdS, ckA, ckI, tcL, ck_t hb, hc, r1, hco, hcs, bI, n10, if_true]
      · have e11 : ¬ mI μ (b + ρ j) 11 = 101 := by rw [w11]; exact nIne (n := 101) (by omega) (by omega) h101
        have st' : (true && decide (x.1 10 ≠ 101) || stOp A j) = true := by rw [decide_eq_true h101]; rfl
        rw [st', if_neg (fun z => h101 z.2.1)]
        have o0 : bI (!true) = 0 := rfl
        rw [o0]
        cases hO : stOp A j
        · have o1 : bI (!false) = 1 := rfl
          rw [o1]
          simp only [f_X11_loads_b55, f_X11_loads_b101, f_X11_loads_b102, f_X11_loads_b136, f_X11_loads_b138, f_X11_loads_b140, s, s2, c1, if_false, ckT, bdS, ckA, ckI, tcL, ck_t hb, hc, r1, hco, hcs, bI, n10, e11, not_false_eq_true, if_true, nI_1]
        · rw [o0]
          simp only [f_X11_loads_b55, f_X11_loads_b101, f_X11_loads_b102, f_X11_loads_b136, f_X11_loads_b138, f_X11_loads_b140, s, s2, c1, if_false, ckT, bdS, ckA, ckI, tcL, ck_t hb, hc, r1, hco, hcs, bI, n10, e11, not_false_eq_true, if_true, nI_1]
end MB2
