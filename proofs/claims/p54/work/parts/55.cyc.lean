/-! a cycle keeps it all -/
section CYC
variable {A B : Sx}
/-- the buffer's part and the front's -/
abbrev IV (A : Sx) : Prop := IB A ∧ IF A
/-- scalars that no step but its own changes -/
def kpI (i : Nat) : Bool := decide (i = 0 ∨ i = 2 ∨ i = 6 ∨ i = 8 ∨ i = 14 ∨ i = 15 ∨ i = 16 ∨ i = 17 ∨ i = 18)
def KP (A B : Sx) : Prop := ∀ i, kpI i = true → aS B i = aS A i
theorem KP.refl0 : KP A A := fun _ _ => rfl
theorem KP.trans {C : Sx} (h : KP A B) (g : KP B C) : KP A C := fun i hi => (g i hi).trans (h i hi)
theorem KP.zS0 {i n : Nat} (h : kpI i = false) : KP A (zS A i n) := fun j hj => zS_ne _ _ (fun e => by rw [e, h] at hj; cases hj)
theorem kp_throwF {n : Nat} (h : n ≤ aS A 9) : KP A (throwF A n) := fun i hi => by
  have hh : i = 0 ∨ i = 2 ∨ i = 6 ∨ i = 8 ∨ i = 14 ∨ i = 15 ∨ i = 16 ∨ i = 17 ∨ i = 18 := by unfold kpI at hi; exact of_decide_eq_true hi
  exact (throwF_f A h).1 i (by omega) (by omega) (by omega) (by omega)
theorem kp_goOn {p : Nat} {t : List Nat} : KP A (goOn A p t) := (KP.zS0 (i := 11) rfl).trans (KP.zS0 (i := 12) rfl)
theorem kp_zN {r k n : Nat} : KP A (zN A r k n) := fun _ _ => rfl
theorem kp_endOne {k : Nat} (hk : k < aS A 9) : KP A (endOne A k) := by
  unfold endOne
  split
  · have hS : aS (endDl A k) = aS A := by rw [endDl_eq]; rfl
    have h0 : KP A (endDl A k) := fun i _ => by rw [hS]
    have h1 : KP (endDl A k) (endCt (endDl A k) k) ∧ k < aS (endCt (endDl A k) k) 9 := by
      unfold endCt
      dsimp only
      split
      · have h9 : aS (zS (endDl A k) 19 (aS (endDl A k) 19 + 1)) 9 = aS A 9 := by rw [zS_ne _ _ (by decide), hS]
        refine ⟨(KP.zS0 (i := 19) rfl).trans ((kp_throwF (by rw [h9]; omega)).trans kp_goOn), ?_⟩
        show k < aS (throwF (zS (endDl A k) 19 (aS (endDl A k) 19 + 1)) (k + 1)) 9
        rw [(throwF_f _ (by rw [h9]; omega)).2.1]
        exact Nat.lt_succ_self _
      · exact ⟨KP.refl0, by rw [hS]; exact hk⟩
    refine h0.trans (h1.1.trans ?_)
    unfold endSt
    dsimp only
    split
    · split
      · exact KP.refl0
      · rename_i j hj
        obtain ⟨j1, j2, -⟩ := findLd_s hj
        exact (KP.zS0 (i := 20) rfl).trans (kp_zN.trans ((kp_throwF (by
          show j ≤ aS (zS (endCt (endDl A k) k) 20 (aS (endCt (endDl A k) k) 20 + 1)) 9
          rw [zS_ne _ _ (by decide)]
          omega)).trans kp_goOn))
    · exact KP.refl0
  · exact KP.refl0
theorem endL_iv : ∀ (n : Nat) {A : Sx} {k : Nat}, IV A → IV (endL A n k) ∧ KP A (endL A n k)
  | 0, _, _, q => ⟨q, KP.refl0⟩
  | n + 1, A, k, q => by
    unfold endL
    split
    · rename_i hk
      obtain ⟨h1, h2⟩ := endL_iv n (k := k + 1) (endOne_ib q.1 q.2 hk)
      exact ⟨h1, (kp_endOne hk).trans h2⟩
    · exact ⟨q, KP.refl0⟩
theorem busL_iv : ∀ (n : Nat) {A : Sx} {k w : Nat}, IV A → IV (busL A n k w) ∧ KP A (busL A n k w)
  | 0, _, _, _, q => ⟨q, KP.refl0⟩
  | n + 1, A, k, w, q => by
    unfold busL
    split
    · rename_i hk
      split
      · rename_i hs
        obtain ⟨h1, h2⟩ := busL_iv n (k := k + 1) (w := w + 1) (bus1_ib q.1 q.2 hk.1 hs)
        exact ⟨h1, fun i hi => h2 i hi⟩
      · exact busL_iv n q
    · exact ⟨q, KP.refl0⟩
theorem kp_bg1 {k : Nat} (h : bg1 A k = some B) : KP A B := by
  unfold bg1 at h
  dsimp only at h
  split at h
  · unfold ldB at h
    split at h
    · cases h
    · split at h
      · dsimp only at h
        split at h
        · cases h
        · cases h
          exact KP.zS0 (i := 22) rfl
      · split at h
        · cases h
          exact KP.zS0 (i := 23) rfl
        · split at h
          · cases h
            exact KP.refl0
          · split at h
            · cases h
            · cases h
              exact (KP.zS0 (i := 24) rfl : KP A _)
  · cases h
    exact KP.refl0
theorem bgL_iv : ∀ (n : Nat) {A : Sx} {u : Nat → Nat} {k : Nat}, IV A → IV (bgL A u n k) ∧ KP A (bgL A u n k)
  | 0, _, _, _, q => ⟨q, KP.refl0⟩
  | n + 1, A, u, k, q => by
    unfold bgL
    split
    · rename_i hk
      dsimp only
      split
      · rename_i hs
        split
        · rename_i B hB
          obtain ⟨h1, h2⟩ := bgL_iv n (u := up1 u (unit (eC A (aB A k))) (u (unit (eC A (aB A k))) - 1)) (k := k + 1) (bg1_ib q.1 q.2 hk hs.1 hs.2.2 hB)
          exact ⟨h1, (kp_bg1 hB).trans h2⟩
        · exact bgL_iv n q
      · exact bgL_iv n q
    · exact ⟨q, KP.refl0⟩
theorem rnL_iv : ∀ (n : Nat) {A : Sx}, IV A → IV (rnL A n) ∧ KP A (rnL A n)
  | 0, _, q => ⟨q, KP.refl0⟩
  | n + 1, A, q => by
    unfold rnL
    split
    · rename_i h
      obtain ⟨h1, h2⟩ := rnL_iv n (rn1_ib q.1 q.2 h.1 h.2)
      refine ⟨h1, KP.trans (fun i hi => ?_) h2⟩
      have hh : i = 0 ∨ i = 2 ∨ i = 6 ∨ i = 8 ∨ i = 14 ∨ i = 15 ∨ i = 16 ∨ i = 17 ∨ i = 18 := by unfold kpI at hi; exact of_decide_eq_true hi
      exact (rn1_f A).1 i (by omega) (by omega) (by omega)
    · exact ⟨q, KP.refl0⟩
theorem ftL_iv : ∀ (n : Nat) {A : Sx}, IV A → aS A 6 + n ≤ 2000 → IV (ftL A n) ∧ (∀ i, i ≠ 6 → kpI i = true → aS (ftL A n) i = aS A i) ∧ aS (ftL A n) 6 ≤ aS A 6 + n
  | 0, _, q, _ => ⟨q, fun _ _ _ => rfl, Nat.le_refl _⟩
  | n + 1, A, q, h => by
    have h12 := q.2.2.2.1
    unfold ftL
    split
    · exact ⟨q, fun _ _ _ => rfl, Nat.le_add_right _ _⟩
    · rename_i hc
      have q2 := ft1_ib q.1 q.2 (by omega) (by omega) (by omega) (by omega)
      have h6 : aS (ft1 A) 6 = aS A 6 + 1 := rfl
      have hk : ∀ i, i ≠ 6 → kpI i = true → aS (ft1 A) i = aS A i := fun i h6 hi => by
        have hh : i = 0 ∨ i = 2 ∨ i = 6 ∨ i = 8 ∨ i = 14 ∨ i = 15 ∨ i = 16 ∨ i = 17 ∨ i = 18 := by unfold kpI at hi; exact of_decide_eq_true hi
        exact (ft1_f A).1 i h6 (by omega) (by omega) (by omega)
      split
      · obtain ⟨h1, h2, h3⟩ := ftL_iv n q2 (by rw [h6]; omega)
        refine ⟨h1, fun i a b => (h2 i a b).trans (hk i a b), ?_⟩
        rw [h6] at h3
        omega
      · exact ⟨q2, hk, by rw [h6]; omega⟩
theorem kp_ret1 : ∀ i, i ≠ 14 → kpI i = true → aS (ret1 A) i = aS A i := fun i h hi => by
  have hh : i = 0 ∨ i = 2 ∨ i = 6 ∨ i = 8 ∨ i = 14 ∨ i = 15 ∨ i = 16 ∨ i = 17 ∨ i = 18 := by unfold kpI at hi; exact of_decide_eq_true hi
  exact (ret1_f A).1 i (by omega) (by omega) (by omega) (by omega) (by omega) (by omega) (by omega) (by omega) h
theorem kp_lose {j : Nat} : KP A (lose A j) := fun _ _ => rfl
theorem kp_trapIt {x : Ent} : KP A (trapIt A x) := by
  unfold trapIt
  dsimp only
  split
  · exact (kp_throwF (Nat.zero_le _)).trans ((KP.zS0 (i := 12) rfl).trans (KP.zS0 (i := 1) rfl : KP (zT (zS (throwF A 0) 12 1) []) _))
  · exact (kp_throwF (Nat.zero_le _)).trans ((KP.zS0 (i := 4) rfl).trans ((KP.zS0 (i := 3) rfl).trans ((KP.zS0 (i := 5) rfl).trans kp_goOn)))
theorem kp_trap1 {ret : Nat} : (∀ i, i ≠ 14 → kpI i = true → aS (trap1 A ret) i = aS A i) ∧ aS (trap1 A ret) 14 = aS A 14 + 1 := by
  have h : KP (tellE A (aB A 0) ((aB A 0).1 12)) (trap1 A ret) := by
    unfold trap1
    dsimp only
    split
    · exact kp_trapIt.trans kp_lose
    · exact kp_trapIt
  exact ⟨fun i h14 hi => (h i hi).trans ((tellE_f A (aB A 0) ((aB A 0).1 12)).1 i h14), (h 14 rfl).trans (tellE_f A (aB A 0) ((aB A 0).1 12)).2.1⟩
theorem rtL_iv : ∀ (n : Nat) {A : Sx} {ret : Nat}, IV A → IV (rtL A n ret) ∧ (∀ i, i ≠ 14 → kpI i = true → aS (rtL A n ret) i = aS A i) ∧ aS (rtL A n ret) 14 ≤ aS A 14 + n
  | 0, A, ret, q => by
    unfold rtL
    split
    · exact ⟨lose_ib q.1 q.2, fun _ _ _ => rfl, Nat.le_refl _⟩
    · exact ⟨q, fun _ _ _ => rfl, Nat.le_refl _⟩
  | n + 1, A, ret, q => by
    unfold rtL
    split
    · rename_i hl
      split
      · rename_i ht
        exact ⟨trap1_ib q.1 hl ht, kp_trap1.1, by rw [kp_trap1.2]; omega⟩
      · rename_i ht
        obtain ⟨h1, h2, h3⟩ := rtL_iv n (ret := ret + 1) (ret1_ib q.1 q.2 hl (by omega))
        refine ⟨h1, fun i a b => (h2 i a b).trans (kp_ret1 i a b), ?_⟩
        rw [(ret1_f A).2.1] at h3
        omega
    · split
      · exact ⟨lose_ib q.1 q.2, fun _ _ _ => rfl, Nat.le_add_right _ _⟩
      · exact ⟨q, fun _ _ _ => rfl, Nat.le_add_right _ _⟩
theorem retires_iv (q : IV A) (h1 : aS A 1 = 0) : IV (retires A) ∧ (∀ i, i ≠ 2 → i ≠ 14 → kpI i = true → aS (retires A) i = aS A i) ∧ aS (retires A) 14 ≤ aS A 14 + 4 := by
  unfold retires
  split
  · rename_i h
    refine ⟨intr_ib q.1 h1 h.2.2, fun i a b hi => ?_, ?_⟩
    · unfold intr
      dsimp only
      have hh : i = 0 ∨ i = 2 ∨ i = 6 ∨ i = 8 ∨ i = 14 ∨ i = 15 ∨ i = 16 ∨ i = 17 ∨ i = 18 := by unfold kpI at hi; exact of_decide_eq_true hi
      refine (kp_lose i hi).trans ((kp_goOn i hi).trans ((kp_throwF (Nat.zero_le _) i hi).trans ?_))
      rw [zS_ne _ _ (by omega), zS_ne _ _ (by omega), zS_ne _ _ (by omega), zS_ne _ _ (by omega)]
      exact zS_ne _ _ b
    · unfold intr
      dsimp only
      show aS (throwF (zS (zS (zS (zS (tell A 9 (aS A 5) 0 0 0 0 (-1)) 2 0) 3 1) 4 (aS A 5)) 5 (aV A 0 1).toNatClampNeg) 0) 14 ≤ aS A 14 + 4
      rw [(throwF_f _ (Nat.zero_le _)).1 14 (by decide) (by decide) (by decide) (by decide)]
      show aS A 14 + 1 ≤ aS A 14 + 4
      omega
  · obtain ⟨g1, g2, g3⟩ := rtL_iv (aS A 16) (ret := 0) q
    have := q.1.1.1.2
    exact ⟨g1, fun i _ b c => g2 i b c, by omega⟩
theorem tick_iv (q : IV A) : IV (tick A) := by
  have hSt : St A (tick A) := St.zS0 rfl
  exact ⟨hSt.ibe q.1 (Nat.le_refl _) rfl q.1.2.1.2.2.2.2.2.1 rfl rfl rfl, hSt.if_ ⟨rfl, rfl, rfl, rfl, rfl⟩ q.2 (fun _ _ => rfl)⟩
/-- what always holds, with the bounds that time gives -/
def IA (A : Sx) : Prop := IV A ∧ aS A 6 ≤ 4 * aS A 0 ∧ aS A 14 ≤ 4 * aS A 0
theorem cycA_ia (q : IA A) (h1 : aS A 1 = 0) (h500 : aS A 0 < 500) : IA (cycA A) ∧ aS (cycA A) 0 = aS A 0 + 1 := by
  obtain ⟨q0, b6, b14⟩ := q
  have t0 : aS (tick A) 0 = aS A 0 + 1 := zS_at _ _ _
  have tn : ∀ i, i ≠ 0 → aS (tick A) i = aS A i := fun i h => zS_ne _ _ h
  have qt := tick_iv q0
  have qa : IV (answers (tick A)) := answers_ib qt.1 qt.2
  have sa : aS (answers (tick A)) = aS (tick A) := (answers_f _).1
  obtain ⟨qe, ke⟩ := endL_iv 17 (k := 0) qa
  obtain ⟨qb, kb⟩ := busL_iv 17 (k := 0) (w := 0) qe
  have kend : KP (answers (tick A)) (endings (answers (tick A))) := ke.trans kb
  have hst : aS (endings (answers (tick A))) 1 = 0 := by
    have g1 : St (answers (tick A)) (answers (tick A)) := St.refl0
    have key : ∀ (n : Nat) (C : Sx) (k : Nat), aS (endL C n k) 1 = aS C 1 := by
      intro n
      induction n with
      | zero => intro C k; rfl
      | succ n ih =>
        intro C k
        unfold endL
        split
        · rename_i hk
          rw [ih]
          unfold endOne
          split
          · have hS : aS (endDl C k) = aS C := by rw [endDl_eq]; rfl
            have h9 : aS (zS (endDl C k) 19 (aS (endDl C k) 19 + 1)) 9 = aS C 9 := by rw [zS_ne _ _ (by decide), hS]
            have e1 : aS (endCt (endDl C k) k) 1 = aS C 1 := by
              unfold endCt
              dsimp only
              split
              · show aS (throwF (zS (endDl C k) 19 (aS (endDl C k) 19 + 1)) (k + 1)) 1 = _
                rw [(throwF_f _ (by rw [h9]; omega)).1 1 (by decide) (by decide) (by decide) (by decide), zS_ne _ _ (by decide), hS]
              · rw [hS]
            rw [← e1]
            unfold endSt
            dsimp only
            split
            · split
              · rfl
              · rename_i j hj
                obtain ⟨j1, j2, -⟩ := findLd_s hj
                show aS (throwF (zN (zS (endCt (endDl C k) k) 20 (aS (endCt (endDl C k) k) 20 + 1)) 5 ((aB (endCt (endDl C k) k) j).1 0 % 16) 1) j) 1 = _
                rw [(throwF_f _ (by
                  show j ≤ aS (zS (endCt (endDl C k) k) 20 (aS (endCt (endDl C k) k) 20 + 1)) 9
                  rw [zS_ne _ _ (by decide)]
                  omega)).1 1 (by decide) (by decide) (by decide) (by decide)]
                show aS (zS (endCt (endDl C k) k) 20 (aS (endCt (endDl C k) k) 20 + 1)) 1 = _
                exact zS_ne _ _ (by decide)
            · rfl
          · rfl
        · rfl
    have key2 : ∀ (n : Nat) (C : Sx) (k w : Nat), aS (busL C n k w) 1 = aS C 1 := by
      intro n
      induction n with
      | zero => intro C k w; rfl
      | succ n ih =>
        intro C k w
        unfold busL
        split
        · split
          · rw [ih]
            rfl
          · rw [ih]
        · rfl
    show aS (busL (endL (answers (tick A)) 17 0) 17 0 0) 1 = 0
    rw [key2, key, sa, tn 1 (by decide)]
    exact h1
  obtain ⟨qr, kr, kr14⟩ := retires_iv (A := endings (answers (tick A))) qb hst
  obtain ⟨qg, kg⟩ := bgL_iv 17 (u := u0 (retires (endings (answers (tick A))))) (k := 0) qr
  obtain ⟨qn, kn⟩ := rnL_iv (aS (begins (retires (endings (answers (tick A))))) 16) (A := begins (retires (endings (answers (tick A))))) qg
  obtain ⟨C, hC⟩ : ∃ C, C = rnL (begins (retires (endings (answers (tick A))))) (aS (begins (retires (endings (answers (tick A))))) 16) := ⟨_, rfl⟩
  have hcyc : cycA A = ftL C (aS C 16) := by rw [hC]; rfl
  rw [← hC] at qn kn
  have kc : ∀ i, i ≠ 2 → i ≠ 14 → kpI i = true → aS C i = aS (tick A) i := fun i a b c => by
    rw [kn i c, show aS (begins (retires (endings (answers (tick A))))) i = aS (retires (endings (answers (tick A)))) i from kg i c, kr i a b c, kend i c, sa]
  have c14 : aS C 14 ≤ aS A 14 + 4 := by
    rw [kn 14 rfl, show aS (begins (retires (endings (answers (tick A))))) 14 = aS (retires (endings (answers (tick A)))) 14 from kg 14 rfl]
    have : aS (endings (answers (tick A))) 14 = aS A 14 := by rw [kend 14 rfl, sa, tn 14 (by decide)]
    omega
  have c6 : aS C 6 = aS A 6 := by rw [kc 6 (by decide) (by decide) rfl, tn 6 (by decide)]
  have c16 := qn.1.1.1.2
  obtain ⟨qf, kf, kf6⟩ := ftL_iv (aS C 16) qn (by omega)
  rw [hcyc]
  have f0 : aS (ftL C (aS C 16)) 0 = aS A 0 + 1 := by rw [kf 0 (by decide) rfl, kc 0 (by decide) (by decide) rfl, t0]
  have f14 : aS (ftL C (aS C 16)) 14 = aS C 14 := kf 14 (by decide) rfl
  refine ⟨⟨qf, ?_, ?_⟩, f0⟩
  · rw [f0]
    omega
  · rw [f0, f14]
    omega
theorem runA_ia : ∀ (n : Nat) {A : Sx}, IA A → aS A 0 + n ≤ 500 → IA (runA A n) ∧ aS (runA A n) 0 ≤ aS A 0 + n
  | 0, _, q, _ => ⟨q, Nat.le_refl _⟩
  | n + 1, A, q, h => by
    unfold runA
    split
    · rename_i h1
      obtain ⟨g1, g2⟩ := cycA_ia q h1 (by omega)
      obtain ⟨k1, k2⟩ := runA_ia n g1 (by omega)
      exact ⟨k1, by omega⟩
    · exact ⟨q, Nat.le_add_right _ _⟩
end CYC
