/-! THE CLASS: answers, the entries -/
section CA2
variable {b z e sl : Nat} {m : Nat → Nat} {A A' A0 B : Sx} {G : Nat → Nat → Nat} {ar : Nat → Nat} {s : Nat} {μ μ' : Mm} {S : Nat → Nat → Bool}
theorem zcN : ∀ n, n < 200 → zc (nI n) = nI n := by decide +kernel
theorem c_waitL {l : Nat} (hC : SC b μ) (hl : l < 1000) : ∀ (r pre : List (Nat × Nat)) (fu : Nat), mI μ (b + 15) 4 = nI (pre ++ r).length → (pre ++ r).length ≤ 2 → (∀ w, w ∈ pre ++ r → w.1 < 16) → (∀ j, j < (pre ++ r).length → mI μ (b + 18) j = nI ((pre ++ r).getD j (0, 0)).1) → r.length < fu → f_X7_isWaitedFor_b2 fu (b + 15) (nI l) (nI pre.length) μ = some (bI (decide (l ∈ r.map (·.1))))
  | [], pre, fu, h4, hl2, hw, hr, hf => by
    obtain ⟨fu, rfl⟩ : ∃ n, fu = n + 1 := ⟨fu - 1, by omega⟩
    have s := hC
    unfold SC at s
    rw [List.append_nil] at h4
    have c1 : nI pre.length ≤ nI pre.length := Int32.le_refl _
    simp only [f_X7_isWaitedFor_b2, s, ckT, h4, c1, if_true]
    rfl
  | w :: r, pre, fu, h4, hl2, hw, hr, hf => by
    obtain ⟨fu, rfl⟩ : ∃ n, fu = n + 1 := ⟨fu - 1, by omega⟩
    have s := hC
    unfold SC at s
    have len : (pre ++ w :: r).length = pre.length + (r.length + 1) := by rw [List.length_append]; rfl
    have ap : (pre ++ [w]) ++ r = pre ++ w :: r := by rw [List.append_assoc]; rfl
    have pl : (pre ++ [w]).length = pre.length + 1 := by rw [List.length_append]; rfl
    have c1 : ¬ nI (pre ++ w :: r).length ≤ nI pre.length := nI_ge (by omega) (by omega)
    have w1 := hw w (List.mem_append_right _ List.mem_cons_self)
    have r1 := hr pre.length (by omega)
    have g0 : (pre ++ w :: r).getD pre.length (0, 0) = w := by simp
    rw [g0] at r1
    have ib := inbN (p := pre.length) (n := 2) (by omega) (by omega)
    have cl := clN (show pre.length < 100000 by omega)
    have ih := c_waitL hC hl r (pre ++ [w]) fu (by rw [ap]; exact h4) (by rw [ap]; exact hl2) (by rw [ap]; exact hw) (by rw [ap]; exact hr) (by have : (w :: r).length = r.length + 1 := rfl; omega)
    rw [pl] at ih
    by_cases e : w.1 = l
    · have c2 : ¬ ¬ nI w.1 = nI l := fun q => q (by rw [e])
      have : decide (l ∈ (w :: r).map (·.1)) = true := decide_eq_true (by rw [← e]; exact List.mem_cons_self)
      rw [this]
      simp only [f_X7_isWaitedFor_b2, s, ckT, h4, c1, if_false, bdS, ckA, ck_t ib, cl, r1, c2]
      rfl
    · have c2 : ¬ nI w.1 = nI l := nIne (by omega) (by omega) e
      have : decide (l ∈ (w :: r).map (·.1)) = decide (l ∈ r.map (·.1)) := by
        refine decide_eq_decide.mpr ?_
        rw [List.map_cons, List.mem_cons]
        exact ⟨fun q => q.resolve_left (fun y => e y.symm), Or.inr⟩
      rw [this, ← ih]
      simp only [f_X7_isWaitedFor_b2, s, ckT, h4, c1, if_false, bdS, ckA, ck_t ib, cl, r1, c2, not_false_eq_true, if_true, nI_1]
theorem c_isWaited {l : Nat} (h : FR b z A μ) (hl : l < 1000) (q1 : (aQ A).length ≤ 2) (q2 : ∀ w ∈ aQ A, w.1 < 16) : f_X7_isWaitedFor (b + 15) (nI l) μ = some (bI (decide (l ∈ (aQ A).map (·.1)))) := by
  have h5 := h.2.2.2.2.1
  exact c_waitL h.1 hl (aQ A) [] 5000 h5.1 q1 q2 (fun j hj => (h5.2 j hj).1) (by omega)
theorem wake_no {q : List (Nat × Nat)} {x : Ent} (h : ¬ (x.1 10 = 109 ∧ lineOf x ∈ q.map (·.1))) : wake A q x = x := if_neg h
/-- the loop over the entries -/
theorem c_ansL {q : List (Nat × Nat)} (hS : aS B = aS A) (hN : aN B = aN A) (hB : aB B = aB A) (qa : IB A) (t1 : (aQ B).length ≤ 2) (t2 : ∀ w ∈ aQ B, w.1 < 16) (hx : ∀ l, l ∈ (aQ A).map (·.1) → (l ∈ q.map (·.1) ↔ l ∉ (aQ B).map (·.1))) : ∀ (n i fu : Nat) (μ : Mm), i + n = aS A 9 → n < fu → FR b z B μ → HR b z (zBr B (fun j => if j < i then wake A q (aB A j) else aB A j)) (fun k => if k < i then aS A 0 + 2 else 0) G ar s μ → ∃ μ', f_X0_doAnswers_b13 fu (b + 1) (nI i) μ = some ((), μ') ∧ FR b z B μ' ∧ HR b z (zBr B (fun j => wake A q (aB A j))) (fun _ => aS A 0 + 2) G ar s μ' ∧ CK 0 0 μ μ'
  | 0, i, fu, μ, hi, hf, h, hh => by
    obtain ⟨fu, rfl⟩ : ∃ n, fu = n + 1 := ⟨fu - 1, by omega⟩
    have n9 : aS A 9 ≤ 16 := by have := qa.2.1.1; have := qa.1.2.1; omega
    have s0 := h.1
    unfold SC at s0
    have sz := c_sizeB h
    rw [hS] at sz
    have c1 : nI (aS A 9) ≤ nI i := nI_le (by omega) (by omega)
    refine ⟨μ, by simp only [f_X0_doAnswers_b13, s0, ckT, bdS, sz, c1, if_true], h, hh.cg SamP.refl0 rfl rfl rfl rfl (fun k hk => ?_) (fun _ _ => rfl) rfl (fun _ _ => rfl) rfl (fun k hk qq => by
      show aS A 0 + 2 = if k < i then aS A 0 + 2 else 0
      have hk2 : k < aS B 9 := hk
      rw [hS] at hk2
      rw [if_pos (by omega)]), CK.refl0⟩
    have hk2 : k < aS B 9 := hk
    rw [hS] at hk2
    show wake A q (aB A k) = if k < i then wake A q (aB A k) else aB A k
    rw [if_pos (by omega)]
  | n + 1, i, fu, μ, hi, hf, h, hh => by
    obtain ⟨fu, rfl⟩ : ∃ n, fu = n + 1 := ⟨fu - 1, by omega⟩
    have n9 : aS A 9 ≤ 16 := by have := qa.2.1.1; have := qa.1.2.1; omega
    have s0 := h.1
    unfold SC at s0
    have sz := c_sizeB h
    rw [hS] at sz
    have c1 : ¬ nI (aS A 9) ≤ nI i := nI_ge (by omega) (by omega)
    have hk : i < aS A 9 := by omega
    obtain ⟨x, hxx⟩ : ∃ x, x = aB A i := ⟨_, rfl⟩
    have S9 : aS (zBr B (fun j => if j < i then wake A q (aB A j) else aB A j)) 9 = aS A 9 := by show aS B 9 = _; rw [hS]
    have hC : FR b z (zBr B (fun j => if j < i then wake A q (aB A j) else aB A j)) μ := h.cgA rfl rfl rfl rfl
    have gb := c_getB hC hh (k := i) (by rw [S9]; exact hk) (by rw [S9]; omega)
    have re := hh.2.2.2.1 i (by rw [S9]; exact hk)
    have bi : aB (zBr B (fun j => if j < i then wake A q (aB A j) else aB A j)) i = x := by
      show (if i < i then wake A q (aB A i) else aB A i) = x
      rw [if_neg (Nat.lt_irrefl _), hxx]
    rw [bi, show (fun k => if k < i then aS A 0 + 2 else 0) i = 0 from if_neg (Nat.lt_irrefl _)] at re
    obtain ⟨k1, r0, r3, r4, k2, l2, hf1⟩ := re
    have dy := qa.2.2.2.2.2.2.1 i hk
    rw [← hxx] at dy
    have h5 : mI μ (G 1 i) 5 = nI (x.1 10) := hf1.2.2.2.2.1.resolve_right (fun w => by have := w.1; omega)
    have st : x.1 10 < 200 := by have := dy.1; omega
    have zc5 := zcN (x.1 10) st
    -- going on with nothing changed
    have same : ¬ (x.1 10 = 109 ∧ lineOf x ∈ q.map (·.1)) → f_X0_doAnswers_b13 (fu + 1) (b + 1) (nI i) μ = f_X0_doAnswers_b69 (f_X0_doAnswers_b13 fu) (b + 1) (nI i) μ → ∃ μ', f_X0_doAnswers_b13 (fu + 1) (b + 1) (nI i) μ = some ((), μ') ∧ FR b z B μ' ∧ HR b z (zBr B (fun j => wake A q (aB A j))) (fun _ => aS A 0 + 2) G ar s μ' ∧ CK 0 0 μ μ' := fun hno ee => by
      have h2 : HR b z (zBr B (fun j => if j < i + 1 then wake A q (aB A j) else aB A j)) (fun k => if k < i + 1 then aS A 0 + 2 else 0) G ar s μ := hh.cg SamP.refl0 rfl rfl rfl rfl (fun k _ => by
        show (if k < i + 1 then wake A q (aB A k) else aB A k) = if k < i then wake A q (aB A k) else aB A k
        by_cases e : k = i
        · subst e
          rw [if_pos (by omega), if_neg (by omega), ← hxx]
          exact wake_no hno
        · by_cases e2 : k < i
          · rw [if_pos (by omega), if_pos e2]
          · rw [if_neg (by omega), if_neg e2]) (fun _ _ => rfl) rfl (fun _ _ => rfl) rfl (fun k _ qq => by
        show (if k < i + 1 then aS A 0 + 2 else 0) = if k < i then aS A 0 + 2 else 0
        have q2 : (if k < i then aS A 0 + 2 else 0) ≠ 0 := qq
        by_cases e : k < i
        · rw [if_pos (by omega), if_pos e]
        · rw [if_neg e] at q2; exact absurd rfl q2)
      obtain ⟨μ', e1, g1, g2, g3⟩ := c_ansL hS hN hB qa t1 t2 hx n (i + 1) fu μ (by omega) (by omega) h h2
      exact ⟨μ', by rw [ee, ← e1]; simp only [f_X0_doAnswers_b69, nI_1], g1, g2, g3⟩
    by_cases e109 : x.1 10 = 109
    · obtain ⟨d1, d2, d3, d4⟩ := dy.2.2.2.1 e109
      have dcm := dy.2.2.2.2.2.2 (by omega)
      have ho := qa.2.2.2.2.2.1 i hk
      rw [← hxx] at ho
      have ad := (mm_ad qa.1 ho dcm (by rw [d1]; rfl) d2).1
      have f11 : mI μ (G 1 i) 11 = x.2.1 1 := (hf1.2.2.2.2.2.2.2.2.2.1 (Or.inr (Or.inr (by omega)))).1
      have dl : x.2.1 1 / 4 = nI (lineOf x) := by
        have := m_div4 (x.2.1 1).toNatClampNeg (adok_e ad).2
        rw [nI_tc ad] at this
        exact this
      have lo16 : lineOf x < 1000 := by
        have := (adok_e ad).2
        unfold lineOf
        omega
      have iw := c_isWaited h lo16 t1 t2
      have z109 : ¬ ¬ zc (mI μ (G 1 i) 5) = 109 := by rw [h5, zc5, e109]; exact fun w => w rfl
      have c40 : ¬ (4 : Int32) = 0 := by decide
      have hxl := hx _ d3
      by_cases el : lineOf x ∈ q.map (·.1)
      · have nw : decide (lineOf x ∈ (aQ B).map (·.1)) = false := decide_eq_false (hxl.mp el)
        rw [nw] at iw
        have b0 : ¬ ¬ bI false = 0 := fun w => w rfl
        obtain ⟨μ1, m1⟩ : ∃ μ1, μ1 = sI μ (G 1 i) 10 (nI (aS A 0)) := ⟨_, rfl⟩
        have ce : CE (G 1 i) μ μ1 := by rw [m1]; exact CE.put
        have i12 : mI μ (b + 1) 12 = nI (aS A 0) := by have := h.2.1.1 0 rfl; rw [hS] at this; exact this
        have hw : wake A q x = eN (eN x 10 120) 11 (aS A 0) := if_pos ⟨e109, el⟩
        have fp1 : ∀ k, mI μ1 (G 1 i + 1) k = mI μ (G 1 i + 1) k := fun k => by rw [m1, mI_row _ _ (by omega)]
        have ff : ∀ k, k ≠ 10 → mI μ1 (G 1 i) k = mI μ (G 1 i) k := fun k hk => by rw [m1, mI_ne _ _ (Or.inr hk)]
        have h2 : HR b z (zBr B (fun j => if j < i + 1 then wake A q (aB A j) else aB A j)) (fun k => if k < i + 1 then aS A 0 + 2 else 0) G ar s μ1 := by
          refine hh.ent (k0 := i) (y := wake A q x) (by rw [S9]; exact hk) (by show (if i < i then aS A 0 + 2 else 0) ≠ 1; rw [if_neg (Nat.lt_irrefl _)]; decide) ce (fun k => ?_) ?_ ?_ ?_ SamP.refl0 rfl rfl rfl rfl rfl rfl (fun _ _ => rfl) rfl (fun k _ hne qq => by
            show (if k < i + 1 then aS A 0 + 2 else 0) = if k < i then aS A 0 + 2 else 0
            have q2 : (if k < i then aS A 0 + 2 else 0) ≠ 0 := qq
            by_cases e : k < i
            · rw [if_pos (by omega), if_pos e]
            · rw [if_neg e] at q2; exact absurd rfl q2)
          · show (if k < i + 1 then wake A q (aB A k) else aB A k) = if k = i then wake A q x else if k < i then wake A q (aB A k) else aB A k
            by_cases e : k = i
            · subst e
              rw [if_pos (by omega), if_pos rfl, hxx]
            · by_cases e2 : k < i
              · rw [if_pos (by omega), if_neg e, if_pos e2]
              · rw [if_neg (by omega), if_neg e, if_neg e2]
          · rw [bi, hw]; rfl
          · rw [bi, hw]; rfl
          · rw [hw, show (if i < i + 1 then aS A 0 + 2 else 0) = aS A 0 + 2 from if_pos (by omega)]
            obtain ⟨a1, a2, a3, a4, a5, a6, a7, a8, a9, a10, a11, a12⟩ := hf1
            have ec : eC (zBr B (fun j => if j < i then wake A q (aB A j) else aB A j)) (eN (eN x 10 120) 11 (aS A 0)) = eC (zBr B (fun j => if j < i then wake A q (aB A j) else aB A j)) x := rfl
            unfold REf
            rw [ec]
            refine ⟨by rw [ff 1 (by decide)]; exact a1, by rw [ff 2 (by decide)]; exact a2, by rw [ff 16 (by decide)]; exact a3, by rw [fp1]; exact a4, Or.inr ⟨rfl, rfl, by rw [ff 5 (by decide), h5, e109]; rfl⟩, fun r => ?_, fun r hd => ?_, fun r => by rw [ff 8 (by decide)]; exact a8 r, fun _ => ?_, fun _ => ?_, ?_, fun w => by cases w⟩
            · rw [ff 6 (by decide), ff 7 (by decide), fp1]; exact a6 r
            · rw [ff 8 (by decide), ff 9 (by decide)]; exact a7 r hd
            · rw [m1, mI_at]; rfl
            · rw [ff 11 (by decide), ff 12 (by decide), ff 13 (by decide), ff 14 (by decide), ff 15 (by decide)]
              exact a10 (Or.inr (Or.inr (by omega)))
            · rw [fp1, a11, e109]
              show (if isQd (eC (zBr B (fun j => if j < i then wake A q (aB A j) else aB A j)) x) = true ∧ (109 : Nat) ≠ 113 then nI (x.1 3) else -1) = (if isQd (eC (zBr B (fun j => if j < i then wake A q (aB A j) else aB A j)) x) = true ∧ (120 : Nat) ≠ 113 then nI (x.1 3) else -1)
              simp
        have F1 : FR b z B μ1 := h.ce k1 k2 ce
        obtain ⟨μ', e1, g1, g2, g3⟩ := c_ansL hS hN hB qa t1 t2 hx n (i + 1) fu μ1 (by omega) (by omega) F1 h2
        refine ⟨μ', ?_, g1, g2, (ce.ck k1 k2).trans g3⟩
        rw [← e1]
        simp only [f_X0_doAnswers_b13, f_X0_doAnswers_b69, s0, ckT, bdS, sz, c1, if_false, gb, k1, z109, ck_t c40, f11, dl, iw, b0, i12, zlS, ← m1, nI_1]
      · have yw : decide (lineOf x ∈ (aQ B).map (·.1)) = true := decide_eq_true (Classical.not_not.mp (fun w => el (hxl.mpr w)))
        rw [yw] at iw
        have b1 : ¬ bI true = 0 := by decide
        refine same (fun w => el w.2) ?_
        simp only [f_X0_doAnswers_b13, s0, ckT, bdS, sz, c1, if_false, gb, k1, z109, ck_t c40, f11, dl, iw, b1, not_false_eq_true, if_true]
    · have z109 : ¬ zc (mI μ (G 1 i) 5) = 109 := by rw [h5, zc5]; exact nIne (n := 109) (by omega) (by omega) e109
      refine same (fun w => e109 w.1) ?_
      simp only [f_X0_doAnswers_b13, s0, ckT, bdS, sz, c1, if_false, gb, k1, z109, not_false_eq_true, if_true]
theorem c_answers (h : FR b z A μ) (hh : HR b z A (fun _ => 0) G ar s μ) (q : IV A) (t : TQ A) (h0 : aS A 0 < 1000) (w : WF μ) : ∃ μ', f_X0_doAnswers (b + 1) μ = some ((), μ') ∧ FR b z (answers A) μ' ∧ HR b z (answers A) (fun _ => aS A 0 + 2) G ar s μ' ∧ CK 0 0 μ μ' := by
  obtain ⟨μ1, e1, F1, H1, c1⟩ := c_comeIn h hh q t h0
  obtain ⟨qq, hqq⟩ : ∃ qq, qq = (aQ A).filter (fun w => w.2 == aS A 0) := ⟨_, rfl⟩
  obtain ⟨kp, hkp⟩ : ∃ kp, kp = (aQ A).filter (fun w => !(w.2 == aS A 0)) := ⟨_, rfl⟩
  rw [← hqq, ← hkp] at F1 H1
  obtain ⟨f1, f2, f3, f4, f5, f6, f7⟩ := comeIn_f qq A
  obtain ⟨qk1, qk2, qk3⟩ := q.1.2.2.1
  have hA : answers A = zBr (zQ (comeIn A qq) kp) (fun j => wake A qq (aB A j)) := by
    unfold answers
    rw [hqq, hkp]
  rw [hA]
  have n9 : aS A 9 ≤ 16 := by have := q.1.2.1.1; have := q.1.1.2.1; omega
  have iff : ∀ l, l ∈ (aQ A).map (·.1) → (l ∈ qq.map (·.1) ↔ l ∉ (aQ (zQ (comeIn A qq) kp)).map (·.1)) := fun l hl => by
    have eq : aQ (zQ (comeIn A qq) kp) = kp := rfl
    rw [eq, hqq, hkp]
    constructor
    · intro a c
      obtain ⟨u, u1, u2⟩ := List.mem_map.mp a
      obtain ⟨v, v1, v2⟩ := List.mem_map.mp c
      obtain ⟨u3, u4⟩ := List.mem_filter.mp u1
      obtain ⟨v3, v4⟩ := List.mem_filter.mp v1
      have nd := qk3
      have uv : u = v := by
        obtain ⟨iu, hiu, eu⟩ := List.mem_iff_getElem.mp u3
        obtain ⟨iv, hiv, ev⟩ := List.mem_iff_getElem.mp v3
        have : iu = iv := by
          refine (List.getElem_inj (xs := (aQ A).map (·.1)) (h₀ := by simpa using hiu) (h₁ := by simpa using hiv) nd).mp ?_
          rw [List.getElem_map, List.getElem_map, eu, ev, u2, v2]
        subst this
        rw [← eu, ← ev]
      rw [uv] at u4
      rw [u4] at v4
      cases v4
    · intro a
      obtain ⟨u, u1, u2⟩ := List.mem_map.mp hl
      by_cases e : (u.2 == aS A 0) = true
      · exact List.mem_map.mpr ⟨u, List.mem_filter.mpr ⟨u1, e⟩, u2⟩
      · exfalso
        refine a (List.mem_map.mpr ⟨u, List.mem_filter.mpr ⟨u1, ?_⟩, u2⟩)
        cases hz : (u.2 == aS A 0)
        · rfl
        · exact absurd hz e
  have sub : ∀ w ∈ kp, w ∈ aQ A := fun w hw => by
    rw [hkp] at hw
    exact (List.mem_filter.mp hw).1
  have lk : kp.length ≤ 2 := by
    rw [hkp]
    exact Nat.le_trans (List.length_filter_le _ _) qk1
  obtain ⟨μ2, e2, F2, H2, c2⟩ := c_ansL (A := A) (B := zQ (comeIn A qq) kp) (q := qq) f1 f2 f4 q.1 lk (fun w hw => qk2 w (sub w hw)) iff (aS A 9) 0 5000 μ1 (Nat.zero_add _) (by omega) F1 (H1.cg SamP.refl0 rfl rfl rfl rfl (fun k _ => by
    show (if k < 0 then wake A qq (aB A k) else aB A k) = aB (comeIn A qq) k
    rw [if_neg (Nat.not_lt_zero _), f4]) (fun _ _ => rfl) rfl (fun _ _ => rfl) rfl (fun _ _ w => absurd rfl w))
  refine ⟨μ2, ?_, F2.cgA rfl rfl rfl rfl, H2, c1.trans c2⟩
  have s0 := h.1
  unfold SC at s0
  have i12 : mI μ (b + 1) 12 = nI (aS A 0) := h.2.1.1 0 rfl
  have e2' : f_X0_doAnswers_b13 5000 (b + 1) 0 μ1 = some ((), μ2) := e2
  simp only [f_X0_doAnswers, s0, ckT, bdS, i12, cl_t e1, e2']
end CA2
