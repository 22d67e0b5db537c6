/-! where an interrupt was told, there is a handler -/
section CHI
variable {A B C : Sx}
def HI (A : Sx) : Prop := ∀ e, e < aS A 14 → aN A 14 e = 9 → aV A 0 1 ≠ -1
/-- what it rests on -/
def HF (A B : Sx) : Prop := aS B 14 = aS A 14 ∧ aN B 14 = aN A 14 ∧ aV B 0 = aV A 0
theorem HF.hi (g : HF A B) (h : HI A) : HI B := fun e he hn => by
  rw [g.1] at he
  rw [g.2.1] at hn
  rw [g.2.2]
  exact h e he hn
theorem HF.refl0 : HF A A := ⟨rfl, rfl, rfl⟩
theorem HF.trans (g : HF A B) (f : HF B C) : HF A C := ⟨f.1.trans g.1, f.2.1.trans g.2.1, f.2.2.trans g.2.2⟩
theorem hf_S {i n : Nat} (h : i ≠ 14) : HF A (zS A i n) := ⟨zS_ne _ _ (fun t => h t.symm), rfl, rfl⟩
theorem hf_N {r k n : Nat} (h : r ≠ 14) : HF A (zN A r k n) := ⟨rfl, zN_ne _ _ _ (fun t => h t.symm), rfl⟩
theorem hf_V {r k : Nat} {v : Int32} (h : r ≠ 0) : HF A (zV A r k v) := ⟨rfl, rfl, zV_ne _ _ _ (fun t => h t.symm)⟩
theorem hf_B {k : Nat} {x : Ent} : HF A (zB A k x) := ⟨rfl, rfl, rfl⟩
theorem hf_T {t : List Nat} : HF A (zT A t) := ⟨rfl, rfl, rfl⟩
theorem hf_Q {t : List (Nat × Nat)} : HF A (zQ A t) := ⟨rfl, rfl, rfl⟩
theorem hf_goOn {p : Nat} {t : List Nat} : HF A (goOn A p t) := (hf_S (by decide)).trans ((hf_S (by decide)).trans hf_T)
theorem hf_throwF {n : Nat} (h : n ≤ aS A 9) : HF A (throwF A n) := by
  obtain ⟨t1, -, -, t4, t5, -⟩ := throwF_f A h
  exact ⟨t1 14 (by decide) (by decide) (by decide) (by decide), t4 14 (by decide) (by decide), by rw [t5]⟩
theorem hf_lose {i : Nat} : HF A (lose A i) := hf_N (by decide)
theorem hf_endDl {k : Nat} : HF A (endDl A k) := by
  unfold endDl
  dsimp only
  split
  · exact hf_B
  · exact hf_B
theorem endDl_9 {k : Nat} : aS (endDl A k) 9 = aS A 9 := by
  unfold endDl
  dsimp only
  split <;> rfl
theorem hf_endCt {k : Nat} (h : k < aS A 9) : HF A (endCt A k) := by
  unfold endCt
  dsimp only
  split
  · refine (hf_S (i := 19) (by decide)).trans ((hf_throwF ?_).trans hf_goOn)
    rw [zS_ne _ _ (by decide)]
    omega
  · exact HF.refl0
theorem hf_endSt {k : Nat} : HF A (endSt A k) := by
  unfold endSt
  dsimp only
  split
  · split
    · exact HF.refl0
    · rename_i j hj
      obtain ⟨j1, j2, -⟩ := findLd_s hj
      refine ((hf_S (i := 20) (by decide)).trans (hf_N (r := 5) (by decide))).trans ((hf_throwF ?_).trans hf_goOn)
      show j ≤ aS (zS A 20 (aS A 20 + 1)) 9
      rw [zS_ne _ _ (by decide)]
      omega
  · exact HF.refl0
theorem hf_endOne {k : Nat} (h : k < aS A 9) : HF A (endOne A k) := by
  unfold endOne
  split
  · exact (hf_endDl.trans (hf_endCt (by rw [endDl_9]; exact h))).trans hf_endSt
  · exact HF.refl0
theorem hf_bus1 {k : Nat} : HF A (bus1 A k) := (hf_V (r := 1) (by decide)).trans ((hf_N (r := 2) (by decide)).trans hf_B)
theorem hf_ldB {k : Nat} {x : Ent} (h : ldB A k x = some B) : HF A B := by
  unfold ldB at h
  split at h
  · cases h
  · split at h
    · dsimp only at h
      split at h
      · cases h
      · cases h
        exact (hf_S (by decide)).trans hf_B
    · split at h
      · cases h
        exact (hf_S (by decide)).trans hf_B
      · split at h
        · cases h
          exact hf_B
        · split at h
          · cases h
          · cases h
            exact hf_Q.trans ((hf_S (by decide)).trans hf_B)
theorem hf_bg1 {k : Nat} (h : bg1 A k = some B) : HF A B := by
  unfold bg1 at h
  dsimp only at h
  split at h
  · exact hf_ldB h
  · cases h
    exact hf_B
theorem hf_rn1 : HF A (rn1 A) := by
  obtain ⟨r1, -, -, r4, r5, -⟩ := rn1_f A
  exact ⟨r1 14 (by decide) (by decide) (by decide), r4 14 (by decide) (by decide) (by decide), r5 0 (by decide)⟩
theorem hf_ft1 : HF A (ft1 A) := by
  obtain ⟨r1, -, -, -, -, r6, r7, -⟩ := ft1_f A
  exact ⟨r1 14 (by decide) (by decide) (by decide) (by decide), by rw [r6], by rw [r7]⟩
theorem hf_answers : HF A (answers A) := by
  obtain ⟨r1, r2, r3, -⟩ := answers_f A
  exact ⟨by rw [r1], by rw [r2], r3 0 (by decide)⟩
theorem hf_settle {x : Ent} : HF A (settle A x) := by
  obtain ⟨r1, r2, r3, -⟩ := settle_f A x
  exact ⟨r1 14 (by decide), r2 14 (by decide) (by decide), by rw [r3]⟩
theorem hf_learn {x : Ent} : HF A (learn A x) := by
  obtain ⟨r1, r2, r3, -⟩ := learn_f A x
  exact ⟨by rw [r1], r2 14 (by decide), r3 0 (by decide)⟩
theorem hf_finR {x : Ent} : HF A (finR A x) := by
  obtain ⟨r1, r2, r3, -⟩ := finR_f A x
  exact ⟨r1 14 (by decide) (by decide) (by decide) (by decide) (by decide) (by decide), by rw [r2], r3 0 (by decide)⟩
theorem hi_tell {kd pl f r g ee : Nat} {bg : Int32} (h : HI A) (hk : kd = 9 → aV A 0 1 ≠ -1) : HI (tell A kd pl f r g ee bg) := fun e he hn => by
  have e14 : aN (tell A kd pl f r g ee bg) 14 e = if e = aS A 14 then kd else aN A 14 e := by
    unfold tell
    show aN (zN (zN (zN (zN (zN (zN A 14 (aS A 14) kd) 15 (aS A 14) pl) 20 (aS A 14) f) 21 (aS A 14) r) 22 (aS A 14) ee) 23 (aS A 14) g) 14 e = _
    rw [zN_ne _ _ _ (by decide), zN_ne _ _ _ (by decide), zN_ne _ _ _ (by decide), zN_ne _ _ _ (by decide), zN_ne _ _ _ (by decide)]
    show up2 (aN A) 14 (aS A 14) kd 14 e = _
    rw [up2_eq, up1_if]
  obtain ⟨-, t2, -, t4, -⟩ := tell_f A kd pl f r g ee bg
  rw [t2] at he
  rw [t4 0 (by decide)]
  rw [e14] at hn
  by_cases q : e = aS A 14
  · rw [if_pos q] at hn
    exact hk hn
  · rw [if_neg q] at hn
    exact h e (by omega) hn
theorem hi_ret1 (h : HI A) : HI (ret1 A) := by
  have h1 : HI (tellE A (aB A 0) 0) := hi_tell h (fun t => by cases t)
  have g : HF (tellE A (aB A 0) 0) (ret1 A) := by
    unfold ret1
    dsimp only
    refine HF.trans (B := zS (shiftB (tellE A (aB A 0) 0)) 5 ((aB A 0).2.1 0).toNatClampNeg) ?_ (hf_settle.trans (hf_learn.trans hf_finR))
    refine HF.trans (B := shiftB (tellE A (aB A 0) 0)) ?_ (hf_S (by decide))
    unfold shiftB
    exact HF.trans (B := zBr (tellE A (aB A 0) 0) _) ⟨rfl, rfl, rfl⟩ (hf_S (by decide))
  exact g.hi h1
theorem hf_trapIt {x : Ent} : HF A (trapIt A x) := by
  unfold trapIt
  dsimp only
  split
  · exact (hf_throwF (Nat.zero_le _)).trans ((hf_S (by decide)).trans (hf_T.trans (hf_S (by decide))))
  · exact (hf_throwF (Nat.zero_le _)).trans ((hf_S (by decide)).trans ((hf_S (by decide)).trans ((hf_S (by decide)).trans hf_goOn)))
theorem hi_trap1 {r : Nat} (h : HI A) (hk : (aB A 0).1 12 ≠ 9) : HI (trap1 A r) := by
  have h1 : HI (tellE A (aB A 0) ((aB A 0).1 12)) := hi_tell h (fun t => absurd t hk)
  unfold trap1
  dsimp only
  split
  · exact (hf_trapIt.trans hf_lose).hi h1
  · exact hf_trapIt.hi h1
theorem hi_rtL : ∀ (n : Nat) {A : Sx} {ret : Nat}, IV A → HI A → HI (rtL A n ret)
  | 0, A, ret, q, h => by
    unfold rtL
    split
    · exact hf_lose.hi h
    · exact h
  | n + 1, A, ret, q, h => by
    unfold rtL
    split
    · rename_i hl
      split
      · refine hi_trap1 h ?_
        obtain ⟨-, hk, hs⟩ := canLv_e hl
        have cm := (q.1.2.2.2.2.2.2.1 0 hk).2.2.2.2.2.2 (by rw [hs]; decide)
        rw [cm.2.2.1]
        split
        · decide
        · have := tpV_le (eC A (aB A 0)) (opX A (aB A 0)) (opY A (aB A 0)) (eI A (aB A 0))
          omega
      · rename_i ht
        have ht0 : (aB A 0).1 12 = 0 := by
          rcases Nat.eq_zero_or_pos ((aB A 0).1 12) with y | y
          · exact y
          · exact absurd (by omega) ht
        exact hi_rtL n (ret1_ib q.1 q.2 hl ht0) (hi_ret1 h)
    · split
      · exact hf_lose.hi h
      · exact h
theorem hi_retires (q : IV A) (h : HI A) : HI (retires A) := by
  unfold retires
  split
  · rename_i hc
    unfold intr
    dsimp only
    have h1 : HI (tell A 9 (aS A 5) 0 0 0 0 (-1)) := hi_tell h (fun _ => hc.2.2)
    have g : HF (tell A 9 (aS A 5) 0 0 0 0 (-1)) (zS (zS (zS (zS (tell A 9 (aS A 5) 0 0 0 0 (-1)) 2 0) 3 1) 4 (aS A 5)) 5 (aV A 0 1).toNatClampNeg) := (hf_S (by decide)).trans ((hf_S (by decide)).trans ((hf_S (by decide)).trans (hf_S (by decide))))
    exact ((g.trans (hf_throwF (Nat.zero_le _))).trans (hf_goOn.trans hf_lose)).hi h1
  · exact hi_rtL _ q h
theorem hi_cycA (q : IX A) (h1 : aS A 1 = 0) (h5 : aS A 0 < 500) (h : HI A) : HI (cycA A) := by
  obtain ⟨-, ⟨ge, -⟩, ⟨gr, -⟩, gb, -⟩ := cyc_iv q h1 h5
  have t1 : HI (tick A) := (hf_S (A := A) (i := 0) (by decide)).hi h
  have t2 : HI (answers (tick A)) := hf_answers.hi t1
  have t3 : HI (endings (answers (tick A))) := busL_p (P := HI) (fun h => hf_bus1.hi h) 17 (endL_p (P := HI) (fun h hk => (hf_endOne hk).hi h) 17 t2)
  have t4 := hi_retires ge t3
  have t5 : HI (begins (retires (endings (answers (tick A))))) := bgL_p (P := HI) (fun _ h _ _ e => (hf_bg1 e).hi h) 17 gr t4
  obtain ⟨C, hC⟩ : ∃ C, C = begins (retires (endings (answers (tick A)))) := ⟨_, rfl⟩
  rw [← hC] at t5 gb
  have t6 : HI (rnL C (aS C 16)) := rnL_p (P := HI) (fun _ h _ _ => hf_rn1.hi h) _ gb t5
  have hcyc : cycA A = ftL (rnL C (aS C 16)) (aS (rnL C (aS C 16)) 16) := by rw [hC]; rfl
  rw [hcyc]
  exact ftL_p (P := HI) (fun h => hf_ft1.hi h) _ t6
theorem hi_runA : ∀ (n : Nat) {A : Sx}, IX A → aS A 0 + n ≤ 500 → HI A → HI (runA A n)
  | 0, _, _, _, h => h
  | n + 1, A, q, h5, h => by
    have hr : runA A (n + 1) = if aS A 1 = 0 then runA (cycA A) n else A := rfl
    rw [hr]
    split
    · rename_i a1
      obtain ⟨q1, q0⟩ := cycA_ix q a1 (by omega)
      exact hi_runA n q1 (by omega) (hi_cycA q a1 (by omega) h)
    · exact h
end CHI
