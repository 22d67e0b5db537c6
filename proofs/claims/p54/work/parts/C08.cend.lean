/-! those that wait for a line began in an earlier cycle -/
section CNW
variable {A B C : Sx} {c : Nat}
def NG (c : Nat) (A : Sx) : Prop := ∀ k, k < aS A 9 → (aB A k).1 10 = 109 → (aB A k).1 11 < c
theorem NG.to (h : NG c A) (hB : ∀ k, k < aS B 9 → (aB B k).1 10 = 109 → ∃ j, j < aS A 9 ∧ (aB A j).1 10 = 109 ∧ (aB B k).1 11 = (aB A j).1 11) : NG c B := fun k hk hs => by
  obtain ⟨j, j1, j2, j3⟩ := hB k hk hs
  rw [j3]
  exact h j j1 j2
theorem NG.same (h : NG c A) (h9 : aS B 9 ≤ aS A 9) (hB : ∀ k, k < aS B 9 → (aB B k).1 10 = 109 → aB B k = aB A k) : NG c B := h.to (fun k hk hs => ⟨k, by omega, by rw [← hB k hk hs]; exact hs, by rw [hB k hk hs]⟩)
theorem NG.go {n p : Nat} {t : List Nat} (h : NG c A) (hn : n ≤ aS A 9) : NG c (goOn (throwF A n) p t) := by
  obtain ⟨f1, f2, f3, f4, f5, f6, f7, f8⟩ := throwF_f A hn
  refine h.same (by rw [goOn_9, f2]; exact hn) (fun k _ _ => ?_)
  show aB (throwF A n) k = _
  rw [f6]
theorem ng_endOne {k : Nat} (h : NG c A) (hk : k < aS A 9) : NG c (endOne A k) := by
  unfold endOne
  split
  · have hS : aS (endDl A k) = aS A := by rw [endDl_eq]; rfl
    obtain ⟨y1, y2, y3, y4, y5, y6, y7⟩ := endY_f A k
    have h0 : NG c (endDl A k) := h.same (by rw [hS]; exact Nat.le_refl _) (fun j _ h113 => by
      have e : aB (endDl A k) j = if j = k then endY A k else aB A j := by rw [endDl_eq]; rfl
      rw [e] at h113 ⊢
      by_cases ej : j = k
      · rw [if_pos ej] at h113
        exfalso
        cases hd : hasD (eC A (aB A k)) with
        | true => rw [y4 hd] at h113; cases h113
        | false => rw [(y5 hd).1] at h113; cases h113
      · rw [if_neg ej])
    have h1 : NG c (endCt (endDl A k) k) ∧ k < aS (endCt (endDl A k) k) 9 := by
      unfold endCt
      dsimp only
      split
      · have h9 : aS (zS (endDl A k) 19 (aS (endDl A k) 19 + 1)) 9 = aS A 9 := by rw [zS_ne _ _ (by decide), hS]
        have h3 : NG c (zS (endDl A k) 19 (aS (endDl A k) 19 + 1)) := h0.same (by rw [h9, hS]; exact Nat.le_refl _) (fun _ _ _ => rfl)
        refine ⟨h3.go (by rw [h9]; omega), ?_⟩
        show k < aS (throwF (zS (endDl A k) 19 (aS (endDl A k) 19 + 1)) (k + 1)) 9
        rw [(throwF_f _ (by rw [h9]; omega)).2.1]
        exact Nat.lt_succ_self _
      · exact ⟨h0, by rw [hS]; exact hk⟩
    obtain ⟨h1, h2⟩ := h1
    unfold endSt
    dsimp only
    split
    · split
      · exact h1
      · rename_i j hj
        obtain ⟨j1, j2, -⟩ := findLd_s hj
        have h3 : NG c (zN (zS (endCt (endDl A k) k) 20 (aS (endCt (endDl A k) k) 20 + 1)) 5 ((aB (endCt (endDl A k) k) j).1 0 % 16) 1) := h1.same (by rw [(zN_ _ _ _ _).1, zS_ne _ _ (by decide)]; exact Nat.le_refl _) (fun _ _ _ => rfl)
        exact h3.go (by rw [(zN_ _ _ _ _).1, zS_ne _ _ (by decide)]; omega)
    · exact h1
  · exact h
theorem ng_bus1 {k : Nat} (h : NG c A) : NG c (bus1 A k) := h.same (Nat.le_refl _) (fun j _ hs => by
  have e : aB (bus1 A k) j = if j = k then eN (eN (aB A k) 10 101) 4 (aS A 0) else aB A j := rfl
  rw [e] at hs ⊢
  by_cases ej : j = k
  · rw [if_pos ej] at hs
    cases hs
  · rw [if_neg ej])
theorem ng_answers (h : NG c A) : NG c (answers A) := by
  obtain ⟨f1, f2, f3, f4, f5⟩ := answers_f A
  refine h.same (by rw [f1]; exact Nat.le_refl _) (fun k _ hs => ?_)
  rw [f4] at hs ⊢
  have hs2 : (wake A ((aQ A).filter (fun z => z.2 == aS A 0)) (aB A k)).1 10 = 109 := hs
  show wake A ((aQ A).filter (fun z => z.2 == aS A 0)) (aB A k) = aB A k
  unfold wake at hs2 ⊢
  split at hs2
  · cases hs2
  · rename_i hn
    rw [if_neg hn]
theorem ng_0 (h : aS A 9 = 0) : NG c A := fun k hk => by omega
theorem ng_ret1 (h : NG c A) (h9 : 0 < aS A 9) : NG c (ret1 A) := by
  have f := ret1_f A
  have e9 := f.2.2.1
  have eB := f.2.2.2.2.2.2.2.2.2.2.2.2.2.2.2.2.2.2.2.1
  refine h.to (fun k hk hs => ?_)
  rw [e9] at hk
  rw [eB] at hs ⊢
  exact ⟨k + 1, by omega, hs, rfl⟩
theorem ng_lose {i : Nat} (h : NG c A) : NG c (lose A i) := h.same (Nat.le_refl _) (fun _ _ _ => rfl)
theorem ng_ft1 (h : NG c A) : NG c (ft1 A) := by
  have f := ft1_f A
  exact h.same (by rw [f.1 9 (by decide) (by decide) (by decide) (by decide)]; exact Nat.le_refl _) (fun k _ _ => by rw [f.2.2.2.2.2.2.2.1])
theorem ng_rn1 (h : NG c A) (hl : (aL A 0).1 10 = 113) : NG c (rn1 A) := by
  have f := rn1_f A
  have e := rnE_f A
  refine h.to (fun k hk hs => ?_)
  rw [f.2.1] at hk
  rw [f.2.2.2.2.2.1] at hs ⊢
  by_cases ek : k = aS A 9
  · subst ek
    rw [up1_eq] at hs
    exfalso
    cases hq : isQd (eC A (aL A 0))
    · rw [(e.2.2.2.2.2.2.2 hq).1] at hs; cases hs
    · rw [(e.2.2.2.2.2.2.1 hq).1, hl] at hs; cases hs
  · rw [up1_ne _ _ ek] at hs ⊢
    exact ⟨k, by omega, hs, rfl⟩
theorem ng_put {k : Nat} {y : Ent} (h : NG c A) (h9 : aS C 9 = aS A 9) (hB : aB C = aB A) (hy : y.1 10 = 109 → y.1 11 < c) : NG c (zB C k y) := fun j hj hs => by
  have hj2 : j < aS C 9 := hj
  have e : aB (zB C k y) j = if j = k then y else aB A j := by
    show up1 (aB C) k y j = _
    rw [up1_if, hB]
  rw [e] at hs ⊢
  by_cases ej : j = k
  · rw [if_pos ej] at hs ⊢
    exact hy hs
  · rw [if_neg ej] at hs ⊢
    exact h j (by omega) hs
theorem ng_bg1 {k : Nat} (h : NG c A) (h0 : aS A 0 < c) (e : bg1 A k = some B) : NG c B := by
  unfold bg1 at e
  dsimp only at e
  have no : ∀ (x : Ent) (d cy : Nat), (bgW x d cy).1 10 = 109 → (bgW x d cy).1 11 < c := fun x d cy q => by rw [(bgW_f _ _ _).2.1] at q; cases q
  have yes : ∀ (x : Ent), (eN (bgW x 0 (aS A 0)) 10 109).1 10 = 109 → (eN (bgW x 0 (aS A 0)) 10 109).1 11 < c := fun x _ => by
    show aS A 0 + 0 < c
    omega
  split at e
  · unfold ldB at e
    dsimp only at e
    split at e
    · cases e
    · split at e
      · split at e
        · cases e
        · cases e
          exact ng_put h (zS_ne _ _ (by decide)) rfl (no _ _ _)
      · split at e
        · cases e
          exact ng_put h (zS_ne _ _ (by decide)) rfl (no _ _ _)
        · split at e
          · cases e
            exact ng_put h rfl rfl (yes _)
          · split at e
            · cases e
            · cases e
              exact ng_put (C := zS (zQ A _) 24 _) h (zS_ne _ _ (by decide)) rfl (yes _)
  · cases e
    exact ng_put h rfl rfl (no _ _ _)
theorem ng_endings (h : NG c A) : NG c (endings A) := busL_p (P := NG c) (fun h => ng_bus1 h) 17 (endL_p (P := NG c) (fun h hk => ng_endOne h hk) 17 h)
theorem ng_retires (h : NG c A) : NG c (retires A) := by
  unfold retires
  split
  · exact ng_0 intr_9
  · exact rtL_p (P := NG c) (fun h h9 => ng_ret1 h h9) (fun _ => ng_0 trap1_9) (fun h => ng_lose h) _ h
theorem ng_begins (q : IV A) (h : NG c A) (h0 : aS A 0 < c) : NG c (begins A) := (bgL_p (P := fun X => NG c X ∧ aS X 0 < c) (fun _ h _ _ e => ⟨ng_bg1 h.1 h.2 e, by rw [kp_bg1 e 0 rfl]; exact h.2⟩) 17 q ⟨h, h0⟩).1
theorem ng_rnL {n : Nat} (q : IV A) (h : NG c A) : NG c (rnL A n) := rnL_p (P := NG c) (fun q h h10 _ => ng_rn1 h ((q.2.2.2.2.1 0 (by omega)).2.2.1)) n q h
theorem ng_ftL {n : Nat} (h : NG c A) : NG c (ftL A n) := ftL_p (P := NG c) (fun h => ng_ft1 h) n h
/-- all that holds between cycles, with this -/
def IY (A : Sx) : Prop := IX A ∧ NG (aS A 0 + 1) A
theorem cycA_iy (q : IY A) (h1 : aS A 1 = 0) (h5 : aS A 0 < 500) : IY (cycA A) ∧ aS (cycA A) 0 = aS A 0 + 1 := by
  obtain ⟨qx, ng⟩ := q
  obtain ⟨c1, c2⟩ := cycA_ix qx h1 h5
  obtain ⟨⟨ga, pa⟩, ⟨ge, pe, e14, e1⟩, ⟨gr, pr⟩, gb, pb, b6⟩ := cyc_iv qx h1 h5
  have t0 : aS (tick A) 0 = aS A 0 + 1 := zS_at _ _ _
  have n1 : NG (aS A 0 + 2) (tick A) := fun k hk hs => by
    have hk2 : k < aS A 9 := by
      have : aS (tick A) 9 = aS A 9 := zS_ne _ _ (by decide)
      omega
    have := ng k hk2 hs
    show (aB A k).1 11 < _
    omega
  have n4 := ng_retires (ng_endings (ng_answers n1))
  obtain ⟨qe, ke⟩ := endL_iv 17 (k := 0) ga
  obtain ⟨qbu, kb⟩ := busL_iv 17 (k := 0) (w := 0) qe
  have kend : KP (answers (tick A)) (endings (answers (tick A))) := ke.trans kb
  have k0 : aS (retires (endings (answers (tick A)))) 0 = aS A 0 + 1 := by
    rw [(retires_iv ge e1).2.1 0 (by decide) (by decide) rfl, kend 0 rfl, (answers_f _).1, t0]
  have n5 := ng_begins gr n4 (by rw [k0]; omega)
  obtain ⟨C, hC⟩ : ∃ C, C = rnL (begins (retires (endings (answers (tick A))))) (aS (begins (retires (endings (answers (tick A))))) 16) := ⟨_, rfl⟩
  have hcyc : cycA A = ftL C (aS C 16) := by rw [hC]; rfl
  have n6 : NG (aS A 0 + 2) (cycA A) := by
    rw [hcyc, hC]
    exact ng_ftL (ng_rnL gb n5)
  exact ⟨⟨c1, by rw [c2]; exact n6⟩, c2⟩
end CNW
/-! THE CLASS: a delay's end -/
section CED
variable {b z e sl : Nat} {m : Nat → Nat} {A A' : Sx} {G : Nat → Nat → Nat} {ar : Nat → Nat} {s : Nat} {μ μ' : Mm} {S : Nat → Nat → Bool}
theorem c_endIn {a : Nat} {cy : Int32} (k1 : mK μ a = 104) (r4 : mR μ a 4 = some (a + 1)) (k2 : mK μ (a + 1) = 51) (l2 : mL μ (a + 1) = 5) : f_X3_endIn a cy μ = some ((), sI (sI μ a 5 101) (a + 1) 3 cy) := by
  simp only [f_X3_endIn, k1, ckT, zlS, mR_sI', r4, bdS, mK_sI, mL_sI, k2, l2, ckA, ckI, tcL]
def noL (m : Nat → Nat) (i : Nat) : Nat → Nat := fun k => if k = i then 0 else m k
theorem c_endDelay {i : Nat} (h : FR b z A μ) (hh : HR b z A m G ar s μ) (q : IB A) (hi : i < aS A 9) (hs : (aB A i).1 10 = 120) (hm1 : m i ≠ 1) : ∃ μ', f_X0_endDelay (b + 1) (G 1 i) μ = some ((), μ') ∧ FR b z (endDl A i) μ' ∧ HR b z (endDl A i) (noL m i) G ar s μ' ∧ CK 0 0 μ μ' := by
  obtain ⟨k1, r0, r3, r4, k2, l2, hf⟩ := hh.2.2.2.1 i hi
  obtain ⟨y1, y2, y3, y4, y5, y6, y7⟩ := endY_f A i
  have ho := q.2.2.2.2.2.1 i hi
  have dy := q.2.2.2.2.2.2.1 i hi
  have cm := dy.2.2.2.2.2.2 (by omega)
  have ins := hh.2.2.1 _ ho.1
  have hp := q.1.p ho.1
  have s0 := h.1
  unfold SC at s0
  have i12 : mI μ (b + 1) 12 = nI (aS A 0) := h.2.1.1 0 rfl
  obtain ⟨x, hx⟩ : ∃ x, x = aB A i := ⟨_, rfl⟩
  rw [← hx] at r0 hf y1 y2 y3 y4 y5 y6 y7 ho dy cm ins hp hs
  have hec : eC A x = aN A 10 (x.1 0) := rfl
  have hq : isQd (eC A x) = true := by
    cases hq : isQd (eC A x) with
    | true => rfl
    | false => have := dy.2.1 hq; omega
  have i1 : mI μ (G 0 (x.1 0)) 1 = nI (eC A x) := ins.2.2.1
  have hcb : eC A x < 22 := by rw [hec]; omega
  obtain ⟨a1, a2, a3, a4, a5, a6, a7, a8, a9, a10, a11, a12⟩ := hf
  obtain ⟨d11, d12, d13, d14, d15⟩ := a10 (Or.inr (Or.inr (by omega)))
  have nG0 : G 0 (x.1 0) ≠ G 1 i := fun w => by have := ins.1; rw [w, k1] at this; cases this
  -- the value
  obtain ⟨v, hv⟩ : ∃ v, v = (endY A i).2.1 2 := ⟨_, rfl⟩
  have e1 : ∃ μ1, f_X0_endDelay (b + 1) (G 1 i) μ = f_X0_endDelay_b43 (b + 1) (G 1 i) μ1 ∧ CE (G 1 i) μ μ1 ∧ mI μ1 (G 1 i) 13 = v ∧ (∀ k, k ≠ 13 → mI μ1 (G 1 i) k = mI μ (G 1 i) k) ∧ mI μ1 (G 1 i + 1) = mI μ (G 1 i + 1) := by
    by_cases c9 : eC A x = 9
    · have w9 : ¬ ¬ nI (eC A x) = 9 := by rw [c9]; exact fun w => w rfl
      by_cases g1 : x.2.1 3 = -1
      · have wg : ¬ ¬ mI μ (G 1 i) 16 = -1 := by rw [a3, g1]; exact fun w => w rfl
        by_cases t0 : x.1 12 = 0
        · have ad := (mm_ad q.1 ho cm (by rw [c9]; rfl) t0).1
          have isad := c_isAd (x.2.1 1)
          rw [ad] at isad
          have b1 : ¬ bI true = 0 := by decide
          have lt := (adok_e ad).2
          have tc := (adok_e ad).1
          have ib : inb (x.2.1 1) 64 := by rw [tc]; exact inbN (by omega) (by omega)
          have wv := h.2.1.c2 lt
          obtain ⟨μ1, m1⟩ : ∃ μ1, μ1 = sI μ (G 1 i) 13 (aV A 2 (x.2.1 1).toNatClampNeg) := ⟨_, rfl⟩
          refine ⟨μ1, ?_, by rw [m1]; exact CE.put, by rw [m1, mI_at, hv, y6 c9 g1 t0], fun k hk => by rw [m1, mI_ne _ _ (Or.inr hk)], by rw [m1, mI_row _ _ (by omega)]⟩
          simp only [f_X0_endDelay, k1, ckT, r0, bdS, ins.1, i1, w9, if_false, wg, d11, isad, b1, s0, ckA, ck_t ib, wv, zlS, ← m1]
        · have na : adok (x.2.1 1) = false := by
            have := cm.2.2.2.2.2.1
            rw [if_neg (fun w => t0 w.2)] at this
            rw [this]
            rfl
          have isad := c_isAd (x.2.1 1)
          rw [na] at isad
          have b0 : bI false = 0 := rfl
          refine ⟨μ, ?_, CE.refl0, by rw [d13, hv, y7 (fun w => t0 w.2.2)], fun _ _ => rfl, rfl⟩
          simp only [f_X0_endDelay, k1, ckT, r0, bdS, ins.1, i1, w9, if_false, wg, d11, isad, b0, if_true]
      · have wg : ¬ mI μ (G 1 i) 16 = -1 := by rw [a3]; exact g1
        refine ⟨μ, ?_, CE.refl0, by rw [d13, hv, y7 (fun w => g1 w.2.1)], fun _ _ => rfl, rfl⟩
        simp only [f_X0_endDelay, k1, ckT, r0, bdS, ins.1, i1, w9, if_false, wg, not_false_eq_true, if_true]
    · have w9 : ¬ nI (eC A x) = 9 := nIne (n := 9) (by omega) (by omega) c9
      refine ⟨μ, ?_, CE.refl0, by rw [d13, hv, y7 (fun w => c9 w.1)], fun _ _ => rfl, rfl⟩
      simp only [f_X0_endDelay, k1, ckT, r0, bdS, ins.1, i1, w9, not_false_eq_true, if_true]
  obtain ⟨μ1, e1, ce1, v13, vo, vp⟩ := e1
  have K1 : mK μ1 = mK μ := ce1.1
  have R1 : mR μ1 = mR μ := ce1.2.2.1
  have L1 : mL μ1 = mL μ := ce1.2.1
  have i1' : mI μ1 (G 0 (x.1 0)) 1 = nI (eC A x) := by
    rw [ce1.2.2.2.2.2.2 _ nG0 (fun w => by have := ins.1; rw [w, k2] at this; cases this)]
    exact i1
  have hd := c_hasD (μ := μ1) (by rw [K1]; exact ins.1) i1' hcb
  have i12' : mI μ1 (b + 1) 12 = nI (aS A 0) := by
    have k := h.1.fk (o := 1) (by decide) (by decide)
    rw [ce1.2.2.2.2.2.2 _ (fun w => by rw [w, k1] at k; cases k) (fun w => by rw [w, k2] at k; cases k)]
    exact i12
  -- its stage
  have e2 : ∃ μ2, f_X0_endDelay_b43 (b + 1) (G 1 i) μ1 = some ((), μ2) ∧ CE (G 1 i) μ1 μ2 ∧ mI μ2 (G 1 i) 5 = nI ((endY A i).1 10) ∧ (∀ k, k ≠ 5 → mI μ2 (G 1 i) k = mI μ1 (G 1 i) k) ∧ (∀ k, k ≠ 3 → mI μ2 (G 1 i + 1) k = mI μ1 (G 1 i + 1) k) ∧ ((endY A i).1 10 = 101 → mI μ2 (G 1 i + 1) 3 = nI ((endY A i).1 4)) := by
    cases hdd : hasD (eC A x)
    · rw [hdd] at hd
      have b0 : bI false = 0 := rfl
      have ei := c_endIn (μ := μ1) (a := G 1 i) (cy := nI (aS A 0)) (by rw [K1]; exact k1) (by rw [R1]; exact r4) (by rw [K1]; exact k2) (by rw [L1]; exact l2)
      refine ⟨sI (sI μ1 (G 1 i) 5 101) (G 1 i + 1) 3 (nI (aS A 0)), ?_, CE.put.trans CE.put1, ?_, fun k hk => ?_, fun k hk => ?_, fun _ => ?_⟩
      · simp only [f_X0_endDelay_b43, K1, k1, ckT, R1, r0, bdS, ins.1, hd, b0, if_true, s0, i12', cl_t ei]
      · rw [mI_row _ _ (by omega), mI_at, (y5 hdd).1]; rfl
      · rw [mI_row _ _ (by omega), mI_ne _ _ (Or.inr hk)]
      · rw [mI_ne _ _ (Or.inr hk), mI_row _ _ (by omega)]
      · rw [mI_at, endY_4 A i (by rw [← hx]; exact hdd)]
    · rw [hdd] at hd
      have b1 : ¬ bI true = 0 := by decide
      refine ⟨sI μ1 (G 1 i) 5 98, ?_, CE.put, ?_, fun k hk => ?_, fun k hk => ?_, fun w => ?_⟩
      · simp only [f_X0_endDelay_b43, K1, k1, ckT, R1, r0, bdS, ins.1, hd, b1, if_false, zlS]
      · rw [mI_at, y4 hdd]; rfl
      · rw [mI_ne _ _ (Or.inr hk)]
      · rw [mI_row _ _ (by omega)]
      · rw [y4 hdd] at w; cases w
  obtain ⟨μ2, e2, ce2, s5, so, sp, s3⟩ := e2
  have ce := ce1.trans ce2
  refine ⟨μ2, e1.trans e2, ?_, ?_, ce.ck k1 k2⟩
  · rw [endDl_eq]
    exact (h.ce k1 k2 ce).cgA rfl rfl rfl rfl
  · rw [endDl_eq]
    have fo : ∀ k, k ≠ 5 → k ≠ 13 → mI μ2 (G 1 i) k = mI μ (G 1 i) k := fun k a c => by rw [so k a, vo k c]
    have po : ∀ k, k ≠ 3 → mI μ2 (G 1 i + 1) k = mI μ (G 1 i + 1) k := fun k a => by rw [sp k a, vp]
    refine hh.ent (k0 := i) (y := endY A i) hi hm1 ce (fun k => rfl) (by rw [← hx]; exact y1 0 (by decide) (by decide)) (by rw [← hx]; exact y2) ?_ SamP.refl0 rfl rfl rfl rfl rfl rfl (fun _ _ => rfl) rfl (fun k _ hne hm => if_neg hne)
    have ec : eC A (endY A i) = eC A x := by unfold eC; rw [y1 0 (by decide) (by decide)]
    have y10 : (endY A i).1 10 ≠ 113 ∧ (endY A i).1 10 ≠ 120 ∧ (endY A i).1 10 ≠ 109 := by
      cases hdd : hasD (eC A x)
      · rw [(y5 hdd).1]; decide
      · rw [y4 hdd]; decide
    unfold REf
    rw [ec, y1 13 (by decide) (by decide), y1 5 (by decide) (by decide), y3 3 (by decide), y1 1 (by decide) (by decide), y1 6 (by decide) (by decide), y1 7 (by decide) (by decide), y1 2 (by decide) (by decide), y1 8 (by decide) (by decide), y1 9 (by decide) (by decide), y3 1 (by decide), y1 12 (by decide) (by decide), y3 0 (by decide), y1 14 (by decide) (by decide), y1 3 (by decide) (by decide)]
    refine ⟨by rw [fo 1 (by decide) (by decide)]; exact a1, by rw [fo 2 (by decide) (by decide)]; exact a2, by rw [fo 16 (by decide) (by decide)]; exact a3, by rw [po 0 (by decide)]; exact a4, Or.inl s5, fun r => ?_, fun r hd => ?_, fun r => by rw [fo 8 (by decide) (by decide)]; exact a8 r, fun w => by omega, fun _ => ?_, ?_, s3⟩
    · rw [fo 6 (by decide) (by decide), fo 7 (by decide) (by decide), po 1 (by decide)]; exact a6 r
    · rw [fo 8 (by decide) (by decide), fo 9 (by decide) (by decide)]; exact a7 r hd
    · rw [fo 11 (by decide) (by decide), fo 12 (by decide) (by decide), fo 14 (by decide) (by decide), fo 15 (by decide) (by decide), so 13 (by decide), v13]
      exact ⟨d11, d12, hv, d14, d15⟩
    · rw [po 2 (by decide), a11, if_pos ⟨hq, by omega⟩, if_pos ⟨hq, y10.1⟩]
end CED
