/-! both: how many inner registers -/
section CIN
variable {b z e sl : Nat} {m m' : Nat → Nat} {A A' B C D : Sx} {P : Pm} {G : Nat → Nat → Nat} {ar : Nat → Nat} {s : Nat} {ρ : Nat → Nat} {μ μ' μ2 : Mm} {S : Nat → Nat → Bool}
def inA (A : Sx) (n : Nat) : Sx := zS (zS (zNr A 3 (fun j => if j < n - 8 then j + 8 else aN A 3 j)) 7 (n - 8)) 8 n
theorem inA_S {n i : Nat} (h7 : i ≠ 7) (h8 : i ≠ 8) : aS (inA A n) i = aS A i := by
  unfold inA
  rw [zS_ne _ _ h8, zS_ne _ _ h7]
  rfl
theorem inA_7 {n : Nat} : aS (inA A n) 7 = n - 8 := by
  unfold inA
  rw [zS_ne _ _ (by decide), zS_at]
theorem inA_8 {n : Nat} : aS (inA A n) 8 = n := by
  unfold inA
  rw [zS_at]
theorem inA_N {n r : Nat} (h : r ≠ 3) : aN (inA A n) r = aN A r := up1_ne _ _ h
theorem inA_3 {n j : Nat} : aN (inA A n) 3 j = if j < n - 8 then j + 8 else aN A 3 j := rfl
theorem z0_inA {n : Nat} (h : Z0 A) (hn : 10 ≤ n ∧ n ≤ 24) : Z0 (inA A n) := by
  obtain ⟨cf, ss, n0, n2, n3, n4, v3, n6, n5, rest⟩ := h
  obtain ⟨s0, s1, s2, s3, s4, s5, s6, s9, s10, s11, s12, s14, s7⟩ := ss
  have es : ∀ i, i ≠ 7 → i ≠ 8 → aS (inA A n) i = aS A i := fun i a c => inA_S a c
  refine ⟨?_, ?_, ?_, ?_, fun j hj => ?_, ?_, v3, ?_, ?_, rest⟩
  · unfold CF at cf ⊢
    rw [es 16 (by decide) (by decide), es 17 (by decide) (by decide), es 18 (by decide) (by decide), es 15 (by decide) (by decide), inA_8, inA_N (r := 10) (by decide), inA_N (r := 11) (by decide), inA_N (r := 12) (by decide), inA_N (r := 13) (by decide)]
    exact ⟨cf.1, cf.2.1, cf.2.2.1, hn, cf.2.2.2.2⟩
  · rw [es 0 (by decide) (by decide), es 1 (by decide) (by decide), es 2 (by decide) (by decide), es 3 (by decide) (by decide), es 4 (by decide) (by decide), es 5 (by decide) (by decide), es 6 (by decide) (by decide), es 9 (by decide) (by decide), es 10 (by decide) (by decide), es 11 (by decide) (by decide), es 12 (by decide) (by decide), es 14 (by decide) (by decide), inA_7, inA_8]
    exact ⟨s0, s1, s2, s3, s4, s5, s6, s9, s10, s11, s12, s14, by omega⟩
  · rw [inA_N (r := 0) (by decide), inA_N (r := 1) (by decide), inA_N (r := 2) (by decide)]
    exact n0
  · rw [inA_N (r := 2) (by decide)]
    exact n2
  · rw [inA_7] at hj
    rw [inA_3, if_pos hj]
  · rw [inA_N (r := 4) (by decide)]
    exact n4
  · rw [inA_N (r := 6) (by decide)]
    exact n6
  · rw [inA_N (r := 5) (by decide)]
    exact n5
/-- what filling the line changes -/
def sFl (o k : Nat) : Bool := decide (o = 14 ∨ (o = 9 ∧ (k = 5 ∨ k = 6)))
theorem c_fillL {n : Nat} (hn : n ≤ 24) : ∀ (m j fu : Nat) (A : Sx) (μ : Mm), SC b μ → RT cT b A μ → aS A 7 = j → aS A 8 = n → j + m = n - 8 → 8 ≤ n → m < fu → ∃ (A' : Sx) (μ' : Mm), f_X5_fillLine_b13 fu (b + 9) (nI (j + 8)) μ = some ((), μ') ∧ RT cT b A' μ' ∧ CH b sFl μ μ' ∧ aS A' 7 = n - 8 ∧ (∀ i, i ≠ 7 → aS A' i = aS A i) ∧ (∀ r, r ≠ 3 → aN A' r = aN A r) ∧ (∀ i, aN A' 3 i = if j ≤ i ∧ i < n - 8 then i + 8 else aN A 3 i) ∧ aV A' = aV A
  | 0, j, fu, A, μ, S0, T, h7, h8, hm, n8, hf => by
    obtain ⟨fu, rfl⟩ : ∃ n, fu = n + 1 := ⟨fu - 1, by omega⟩
    have k0 := S0
    unfold SC at k0
    have i6 : mI μ (b + 9) 6 = nI n := by rw [← h8]; exact T.1 8 rfl
    have c1 : nI n ≤ nI (j + 8) := nI_le (by omega) (by omega)
    refine ⟨A, μ, ?_, T, CH.refl0, by omega, fun _ _ => rfl, fun _ _ => rfl, fun i => by rw [if_neg (by omega)], rfl⟩
    simp only [f_X5_fillLine_b13, k0, ckT, i6, c1, if_true]
  | m + 1, j, fu, A, μ, S0, T, h7, h8, hm, n8, hf => by
    obtain ⟨fu, rfl⟩ : ∃ n, fu = n + 1 := ⟨fu - 1, by omega⟩
    have k0 := S0
    unfold SC at k0
    have i6 : mI μ (b + 9) 6 = nI n := by rw [← h8]; exact T.1 8 rfl
    have c1 : ¬ nI n ≤ nI (j + 8) := nI_ge (by omega) (by omega)
    have pb := c_putBehind (x := nI (j + 8)) S0 T (by omega)
    rw [h7] at pb
    have T1 : RT cT b (zS (zN A 3 j (j + 8)) 7 (j + 1)) (sI (sI μ (b + 14) j (nI (j + 8))) (b + 9) 5 (nI (j + 1))) := (T.putN cT_ok (q := 3) (j := j) (by omega) (show j < 24 by omega) (j + 8)).putS cT_ok (i := 7) rfl (j + 1)
    have g1 : CH b sFl μ (sI (sI μ (b + 14) j (nI (j + 8))) (b + 9) 5 (nI (j + 1))) := (CH.put (by rfl)).trans (CH.put (by rfl))
    obtain ⟨A', μ', e1, t1, g2, x7, xs, xn, x3, xv⟩ := c_fillL hn m (j + 1) fu _ _ (S0.cg g1.1 g1.2.1 g1.2.2.1) T1 (zS_at _ _ _) (by rw [zS_ne _ _ (by decide)]; exact h8) (by omega) n8 (by omega)
    refine ⟨A', μ', ?_, t1, g1.trans g2, x7, fun i hi => ?_, fun r hr => ?_, fun i => ?_, xv⟩
    · rw [show j + 1 + 8 = j + 8 + 1 by omega] at e1
      simp only [f_X5_fillLine_b13, k0, ckT, i6, c1, if_false, cl_t pb, nI_1, e1]
    · rw [xs i hi, zS_ne _ _ hi]
      rfl
    · rw [xn r hr]
      exact up2_ne _ _ _ hr
    · rw [x3 i]
      have e3 : aN (zS (zN A 3 j (j + 8)) 7 (j + 1)) 3 i = if i = j then j + 8 else aN A 3 i := rfl
      rw [e3]
      by_cases q : i = j
      · rw [if_neg (by omega), if_pos q, if_pos (by omega), q]
      · by_cases q2 : j + 1 ≤ i ∧ i < n - 8
        · rw [if_pos q2, if_pos (by omega)]
        · rw [if_neg q2, if_neg q, if_neg (by omega)]
theorem c_fill {n : Nat} {x : Int32} (S0 : SC b μ) (T : RT cT b A μ) (hn : 10 ≤ n ∧ n ≤ 24) (hx : x = nI n) : ∃ μ', f_X5_fillLine (b + 9) x μ = some ((), μ') ∧ RT cT b (inA A n) μ' ∧ CH b sFl μ μ' := by
  have k0 := S0
  unfold SC at k0
  subst hx
  obtain ⟨μ1, m1⟩ : ∃ μ1, μ1 = sI (sI μ (b + 9) 6 (nI n)) (b + 9) 5 0 := ⟨_, rfl⟩
  have T1 : RT cT b (zS (zS A 8 n) 7 0) μ1 := by
    rw [m1]
    exact (T.putS cT_ok (i := 8) rfl n).putS cT_ok (i := 7) rfl 0
  have g1 : CH b sFl μ μ1 := by rw [m1]; exact (CH.put rfl).trans (CH.put rfl)
  obtain ⟨A', μ', e1, t1, g2, x7, xs, xn, x3, xv⟩ := c_fillL hn.2 (n - 8) 0 5000 _ _ (S0.cg g1.1 g1.2.1 g1.2.2.1) T1 (zS_at _ _ _) (by rw [zS_ne _ _ (by decide), zS_at]) (by omega) (by omega) (by omega)
  refine ⟨μ', ?_, t1.cg (fun i hi => ?_) (fun r k hr hk => ?_) (fun r k hr hk => ?_), g1.trans g2⟩
  · have e1' : f_X5_fillLine_b13 5000 (b + 9) 8 μ1 = some ((), μ') := e1
    simp only [f_X5_fillLine, k0, ckT, zlS, mK_sI, ← m1, e1']
  · by_cases i7 : i = 7
    · rw [i7, inA_7, x7]
    · by_cases i8 : i = 8
      · rw [i8, inA_8, xs 8 (by decide), zS_ne _ _ (by decide), zS_at]
      · rw [inA_S i7 i8, xs i i7, zS_ne _ _ i7, zS_ne _ _ i8]
  · by_cases r3 : r = 3
    · rw [r3, inA_3, x3]
      by_cases q : k < n - 8
      · rw [if_pos q, if_pos (by omega)]
      · rw [if_neg q, if_neg (by omega)]
        rfl
    · rw [inA_N r3, xn r r3]
      rfl
  · rw [xv]
    rfl
theorem le24 {x : Int32} (h1 : ¬ x < 10) (h2 : x ≤ 24) : ∃ n, 10 ≤ n ∧ n ≤ 24 ∧ x = nI n ∧ x.toNatClampNeg = n := by
  obtain ⟨n, n1, n4, e⟩ := i32r (lo := 10) (hi := 24) (by omega) (by omega) h1 h2
  exact ⟨n, n1, n4, e, by rw [e]; exact clN (by omega)⟩
theorem c_setInner {x : Int32} (h : FR b z A μ) (hh : HR b z A (fun _ => 0) G ar s μ) (h0 : aS A 0 ≤ 500) : ∃ (k : Nat) (A' : Sx) (μ' : Mm), k = kSet A (!decide (x < 10) && decide (x ≤ 24)) ∧ A' = (if k = 0 then inA A x.toNatClampNeg else A) ∧ (k = 0 → ∃ n, 10 ≤ n ∧ n ≤ 24 ∧ x = nI n ∧ x.toNatClampNeg = n) ∧ f_X10_setInner b x μ = some (oc k (nI (aS A 8)), μ') ∧ FR b z A' μ' ∧ HR b z A' (fun _ => 0) G ar s μ' ∧ CK 1 6 μ μ' := by
  have k0 := h.1
  unfold SC at k0
  have i12 : mI μ (b + 1) 12 = nI (aS A 0) := h.2.1.1 0 rfl
  have i96 : mI μ (b + 9) 6 = nI (aS A 8) := h.2.1.1 8 rfl
  by_cases x1 : x < 10
  · refine ⟨1, A, bump μ 6, ?_, rfl, fun y => (by cases y), ?_, h.bump, hh.bump, bump_ck⟩
    · rw [decide_eq_true x1]; rfl
    · simp only [f_X10_setInner, f_X10_setInner_b12, x1, if_true] <;> rfl
  · by_cases x4 : x ≤ 24
    · rw [decide_eq_false x1, decide_eq_true x4]
      by_cases a0 : aS A 0 = 0
      · have c0 : nI (aS A 0) ≤ 0 := by rw [a0]; decide
        obtain ⟨n, n1, n4, e, en⟩ := le24 x1 x4
        obtain ⟨μ1, e1, T1, g1⟩ := c_fill h.1 h.2.1 ⟨n1, n4⟩ e
        obtain ⟨F, H, c, -⟩ := c_step (A' := inA A n) (S := sFl) h hh T1 g1 (fun o k zz => by have := of_decide_eq_true zz; unfold okS; omega) ⟨fun r hr _ => inA_N (by omega), rfl⟩ (fun i hi => inA_S (by omega) (by omega)) rfl rfl rfl rfl (fun r hr => inA_N (by omega)) (fun r hr => rfl)
        refine ⟨0, inA A n, μ1, ?_, by rw [if_pos rfl, en], fun _ => ⟨n, n1, n4, e, en⟩, ?_, F, H, c.mono (by omega) (by omega)⟩
        · unfold kSet; rw [if_neg (by decide), if_pos a0]
        · simp only [f_X10_setInner, x1, x4, if_true, if_false, k0, ckT, bdS, i12, c0, cl_t e1, i96] <;> rfl
      · have c0 : ¬ nI (aS A 0) ≤ 0 := nI_nle (by omega) (by omega)
        refine ⟨2, A, bump μ 6, ?_, rfl, fun y => (by cases y), ?_, h.bump, hh.bump, bump_ck⟩
        · unfold kSet; rw [if_neg (by decide), if_neg a0]
        · simp only [f_X10_setInner, x1, x4, if_true, if_false, k0, ckT, bdS, i12, c0] <;> rfl
    · refine ⟨1, A, bump μ 6, ?_, rfl, fun y => (by cases y), ?_, h.bump, hh.bump, bump_ck⟩
      · rw [decide_eq_false x4, Bool.and_false]; rfl
      · simp only [f_X10_setInner, f_X10_setInner_b12, x1, x4, if_false] <;> rfl
/-! the model -/
end CIN
