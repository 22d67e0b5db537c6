/-! THE CLASS: inner registers, throwing away -/
section CIR
variable {b z e sl : Nat} {m : Nat → Nat} {A A' : Sx} {G : Nat → Nat → Nat} {ar : Nat → Nat} {s : Nat} {μ μ' : Mm} {S : Nat → Nat → Bool}
theorem RT.c1 (h : RT cT b A μ) {i : Nat} (hi : i < 24) : mI μ (b + 12) i = aV A 1 i := by
  have := h.2.2 1 i (by omega) (show i < 24 from hi)
  rw [show (cT.2.2 1).2 + i = i from Nat.zero_add i] at this
  exact this
theorem RT.c2 (h : RT cT b A μ) {i : Nat} (hi : i < 64) : mI μ (b + 27) i = aV A 2 i := by
  have := h.2.2 2 i (by omega) (show i < 64 from hi)
  rw [show (cT.2.2 2).2 + i = i from Nat.zero_add i] at this
  exact this
theorem RT.c3 (h : RT cT b A μ) {i : Nat} (hi : i < 8) : mI μ (b + 23) i = aV A 3 i := by
  have := h.2.2 3 i (by omega) (show i < 8 from hi)
  rw [show (cT.2.2 3).2 + i = i from Nat.zero_add i] at this
  exact this
theorem RT.c4 (h : RT cT b A μ) {i : Nat} (hi : i < 4) : mI μ (b + 16) i = aV A 4 i := by
  have := h.2.2 4 i (by omega) (show i < 4 from hi)
  rw [show (cT.2.2 4).2 + i = i from Nat.zero_add i] at this
  exact this
theorem c_valueOf {i : Nat} (S : SC b μ) (hT : RT cT b A μ) (hi : i < 24) : f_X5_valueOf (b + 9) (nI i) μ = some (aV A 1 i) := by
  have s := S
  unfold SC at s
  have c1 : ¬ nI i < 0 := nI_pos (by omega)
  have c2 : ¬ (24 : Int32) ≤ nI i := nI_ge (b := 24) (by omega) (by omega)
  simp only [f_X5_valueOf, c1, c2, if_false, s, ckT, bdS, ckA, ck_t (inbN (p := i) (n := 24) hi (by omega)), clN (show i < 100000 by omega), hT.c1 hi]
theorem c_hasValue {i : Nat} (S : SC b μ) (hT : RT cT b A μ) (hi : i < 24) (h1 : aN A 2 i ≤ 1) : f_X5_hasValue (b + 9) (nI i) μ = some (bI (decide (aN A 2 i = 1))) := by
  have s := S
  unfold SC at s
  have c1 : ¬ nI i < 0 := nI_pos (by omega)
  have c2 : ¬ (24 : Int32) ≤ nI i := nI_ge (b := 24) (by omega) (by omega)
  have hr : mI μ (b + 13) i = nI (aN A 2 i) := hT.2.1 2 i (by omega) hi
  have zz := zb1 h1
  by_cases q : aN A 2 i = 1
  · have e0 : ¬ zb (nI (aN A 2 i)) = 0 := by rw [zz]; omega
    rw [decide_eq_true q]
    simp only [f_X5_hasValue, c1, c2, if_false, s, ckT, bdS, ckA, ck_t (inbN (p := i) (n := 24) hi (by omega)), clN (show i < 100000 by omega), hr, e0]
    rfl
  · have e0 : zb (nI (aN A 2 i)) = 0 := by rw [zz]; omega
    rw [decide_eq_false q]
    simp only [f_X5_hasValue, c1, c2, if_false, s, ckT, bdS, ckA, ck_t (inbN (p := i) (n := 24) hi (by omega)), clN (show i < 100000 by omega), hr, e0, if_true]
    rfl
theorem c_write {i : Nat} {v : Int32} (S : SC b μ) (hi : i < 24) : f_X5_write (b + 9) (nI i) v μ = some ((), sI (sI μ (b + 12) i v) (b + 13) i 1) := by
  have s := S
  unfold SC at s
  have c1 : ¬ nI i < 0 := nI_pos (by omega)
  have c2 : ¬ (24 : Int32) ≤ nI i := nI_ge (b := 24) (by omega) (by omega)
  simp only [f_X5_write, c1, c2, if_false, s, ckT, bdS, ckA, zlS, mK_sI, mL_sI, mR_sI', ck_t (inbN (p := i) (n := 24) hi (by omega)), clN (show i < 100000 by omega)]
theorem c_putBehind {x : Int32} (S : SC b μ) (hT : RT cT b A μ) (h7 : aS A 7 < 24) : f_X5_putBehind (b + 9) x μ = some ((), sI (sI μ (b + 14) (aS A 7) x) (b + 9) 5 (nI (aS A 7 + 1))) := by
  have s := S
  unfold SC at s
  have q : mI μ (b + 9) 5 = nI (aS A 7) := hT.1 7 rfl
  have c2 : ¬ (24 : Int32) ≤ nI (aS A 7) := nI_ge (b := 24) (by omega) (by omega)
  have n1 : b + 9 ≠ b + 14 := by omega
  simp only [f_X5_putBehind, q, c2, if_false, s, ckT, bdS, ckA, zlS, mK_sI, mL_sI, mR_sI', mI_ne _ _ (Or.inl n1), ck_t (inbN (p := aS A 7) (n := 24) h7 (by omega)), clN (show aS A 7 < 100000 by omega), nI_1]
/-- what taking back changes -/
def sTb (o k : Nat) : Bool := decide (o = 10 ∨ o = 14 ∨ (o = 9 ∧ k = 5))
theorem c_takeBack {gP : Nat → Nat} {late : Nat} {x : Ent} {a : Nat} (S : SC b μ) (hT : RT cT b A μ) (h : REc A gP late true x a μ) (hi : INc A (x.1 0) (gP (x.1 0)) μ) (hd : aN A 11 (x.1 0) < 8) (h7 : aS A 7 < 24) (h8 : hasD (eC A x) = true → x.1 8 < 24) : ∃ μ', f_X5_takeBack (b + 9) a μ = some ((), μ') ∧ RT cT b (takeB A x) μ' ∧ CH b sTb μ μ' := by
  obtain ⟨k1, r0, -, -, k2, -, hf⟩ := h
  obtain ⟨-, -, -, -, -, -, f8, f8n, -⟩ := hf
  have s := S
  unfold SC at s
  cases hD : hasD (eC A x)
  · have e8 : mI μ a 8 = -1 := f8n (Or.inr hD)
    refine ⟨μ, by simp only [f_X5_takeBack, k1, ckT, e8, if_true], ?_, CH.refl0⟩
    unfold takeB
    rw [hD, if_neg Bool.false_ne_true]
    exact hT
  · obtain ⟨e8, e9⟩ := f8 rfl hD
    have ne : ¬ nI (x.1 8) = -1 := nI_m1 (by have := h8 hD; omega)
    have i2 : mI μ (gP (x.1 0)) 2 = nI (aN A 11 (x.1 0)) := hi.2.2.2.1
    have ki := hi.1
    obtain ⟨μ1, m1⟩ : ∃ μ1, μ1 = sI μ (b + 10) (aN A 11 (x.1 0)) (nI (x.1 9)) := ⟨_, rfl⟩
    have t1 : RT cT b (zN A 0 (aN A 11 (x.1 0)) (x.1 9)) μ1 := by rw [m1]; exact hT.putN cT_ok (q := 0) (by omega) hd (x.1 9)
    have S1 : SC b μ1 := by rw [m1]; exact S.cg rfl rfl rfl
    have na : a ≠ b + 10 := fun q => by rw [q] at k1; rw [show mK μ (b + 10) = 21 by simp only [s]] at k1; cases k1
    have e81 : mI μ1 a 8 = nI (x.1 8) := by rw [m1, mI_row _ _ na]; exact e8
    have pb := c_putBehind (x := nI (x.1 8)) S1 t1 h7
    refine ⟨sI (sI μ1 (b + 14) (aS A 7) (nI (x.1 8))) (b + 9) 5 (nI (aS A 7 + 1)), ?_, ?_, ?_⟩
    · have pb' : f_X5_putBehind (b + 9) (nI (x.1 8)) μ1 = some ((), sI (sI μ1 (b + 14) (aS A 7) (nI (x.1 8))) (b + 9) 5 (nI (aS A 7 + 1))) := pb
      simp only [f_X5_takeBack, k1, ckT, e8, ne, if_false, s, bdS, r0, ki, i2, ckA, ck_t (inbN (p := aN A 11 (x.1 0)) (n := 8) hd (by omega)), clN (show aN A 11 (x.1 0) < 100000 by omega), e9, zlS, ← m1, e81, cl_t pb']
    · unfold takeB
      rw [hD, if_pos rfl]
      exact (t1.putN cT_ok (q := 3) (j := aS A 7) (by omega) h7 (x.1 8)).putS cT_ok (i := 7) rfl (aS A 7 + 1)
    · rw [m1]
      exact ((CH.put (S := sTb) rfl).trans (CH.put rfl)).trans (CH.put rfl)
/-- the last one leaves the buffer -/
theorem HR.rmLast (h : HR b z A m G ar s μ) (hC : SC b μ) (w : WF μ) (h9 : 0 < aS A 9) (g : LF (b + 25) (ar 1) μ μ') (hK : mK μ' = mK μ) (hL : mL μ' = mL μ) (hR : mR μ' (b + 25) = mR μ (b + 25)) (hv : ∀ j, j < aS A 9 - 1 → mR μ' (ar 1) j = mR μ (ar 1) j) (hz : mL μ z = 0) : HR b z (zS A 9 (aS A 9 - 1)) m G ar s μ' := by
  have l1 := h.1 1 (by decide)
  have e26 : mK μ (ar 1) = 26 := l1.2.1
  have hs := g.ne (i := 1) hC (by decide) w (Or.inl e26)
  have nz : ar 1 ≠ z := fun q => by
    have := l1.2.2.1
    rw [q, hz] at this
    have e : nLs A 1 = aS A 9 := rfl
    omega
  have hl := h.lists hC (i := 1) (by decide) w g (Or.inl ⟨rfl, nz⟩)
  obtain ⟨h1, h2, h3, h4, h5, h6, h7, h8, h9'⟩ := h
  have S9 : aS (zS A 9 (aS A 9 - 1)) 9 = aS A 9 - 1 := zS_at _ _ _
  have Sn : ∀ i, i ≠ 9 → aS (zS A 9 (aS A 9 - 1)) i = aS A i := fun i hi => zS_ne _ _ hi
  have k20 := hC.fk (o := 20) (by decide) (by decide)
  have n20 : mR μ' (b + 20) 3 = mR μ (b + 20) 3 := by
    obtain ⟨g1, g2, g3, g4, -⟩ := g
    rw [g4 _ (w.lt (fxK_0 k20)) (by omega) (fun q => by rw [q, e26] at k20; cases k20)]
  refine ⟨fun i hi => ?_, h2, fun p hp => ?_, fun k hk => ?_, fun j hj => ?_, ?_, fun e he => ?_, by rw [n20]; exact h8, h9'.same hs⟩
  · by_cases e : i = 1
    · subst e
      refine ⟨by rw [show lo 1 = 25 from rfl, hR]; exact l1.1, by rw [hK]; exact e26, ?_, by rw [hL]; exact l1.2.2.2.1, by rw [hL]; exact l1.2.2.2.2.1, fun k hk => ?_⟩
      · rw [hL]
        show aS (zS A 9 (aS A 9 - 1)) 9 ≤ _
        rw [S9]
        have := l1.2.2.1
        have e : nLs A 1 = aS A 9 := rfl
        omega
      · have hk2 : k < aS (zS A 9 (aS A 9 - 1)) 9 := hk
        rw [S9] at hk2
        rw [hv k hk2]
        exact l1.2.2.2.2.2 k (show k < aS A 9 by omega)
    · have en : nLs (zS A 9 (aS A 9 - 1)) i = nLs A i := by
        have : i = 0 ∨ i = 2 ∨ i = 3 := by omega
        rcases this with rfl | rfl | rfl
        · exact Sn 15 (by decide)
        · exact Sn 10 (by decide)
        · exact Sn 14 (by decide)
      rw [en]
      exact hl i hi e
  · rw [Sn 15 (by decide)] at hp
    exact (h3 p hp).same hs
  · rw [S9] at hk
    exact (h4 k (by omega)).same hs
  · rw [Sn 10 (by decide)] at hj
    exact (h5 j hj).same hs
  · unfold ORc at h6 ⊢
    rw [S9, Sn 10 (by decide), Sn 14 (by decide)]
    exact ⟨fun i k a c => h6.1 i k a (by omega), h6.2.1, fun k j a c => h6.2.2.1 k j (by omega) c, fun e k a c d => h6.2.2.2.1 e k a (by omega) d, h6.2.2.2.2⟩
  · rw [Sn 14 (by decide)] at he
    exact (h7 e he).same hs
end CIR
