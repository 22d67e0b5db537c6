/-! both: how many inner registers -/
section CIN
variable {b z e sl : Nat} {m m' : Nat → Nat} {A A' B C D : Sx} {P : Pm} {G : Nat → Nat → Nat} {ar : Nat → Nat} {s : Nat} {ρ : Nat → Nat} {μ μ' μ2 : Mm} {S : Nat → Nat → Bool}
def inA (A : Sx) (n : Nat) : Sx := zS (zS (zNr A 3 (fun j => if j < n - 8 then j + 8 else aN A 3 j)) 7 (n - 8)) 8 n
theorem inA_S {n i : Nat} (h7 : i ≠ 7) (h8 : i ≠ 8) : aS (inA A n) i = aS A i := by
  unfold inA
  rw [zS_ne _ _ h8, zS_ne _ _ h7]
  rfl
theorem inA_7 {n : Nat} : aS (inA A n) 7 = n - 8 := by
  unfold inA
  rw [zS_ne _ _ (by decide), zS_at]
theorem inA_8 {n : Nat} : aS (inA A n) 8 = n := by
  unfold inA
  rw [zS_at]
theorem inA_N {n r : Nat} (h : r ≠ 3) : aN (inA A n) r = aN A r := up1_ne _ _ h
theorem inA_3 {n j : Nat} : aN (inA A n) 3 j = if j < n - 8 then j + 8 else aN A 3 j := rfl
theorem z0_inA {n : Nat} (h : Z0 A) (hn : 10 ≤ n ∧ n ≤ 24) : Z0 (inA A n) := by
  obtain ⟨cf, ss, n0, n2, n3, n4, v3, n6, n5, rest⟩ := h
  obtain ⟨s0, s1, s2, s3, s4, s5, s6, s9, s10, s11, s12, s14, s7⟩ := ss
  have es : ∀ i, i ≠ 7 → i ≠ 8 → aS (inA A n) i = aS A i := fun i a c => inA_S a c
  refine ⟨?_, ?_, ?_, ?_, fun j hj => ?_, ?_, v3, ?_, ?_, rest⟩
  · unfold CF at cf ⊢
    rw [es 16 (by decide) (by decide), es 17 (by decide) (by decide), es 18 (by decide) (by decide), es 15 (by decide) (by decide), inA_8, inA_N (r := 10) (by decide), inA_N (r := 11) (by decide), inA_N (r := 12) (by decide), inA_N (r := 13) (by decide)]
    exact ⟨cf.1, cf.2.1, cf.2.2.1, hn, cf.2.2.2.2⟩
  · rw [es 0 (by decide) (by decide), es 1 (by decide) (by decide), es 2 (by decide) (by decide), es 3 (by decide) (by decide), es 4 (by decide) (by decide), es 5 (by decide) (by decide), es 6 (by decide) (by decide), es 9 (by decide) (by decide), es 10 (by decide) (by decide), es 11 (by decide) (by decide), es 12 (by decide) (by decide), es 14 (by decide) (by decide), inA_7, inA_8]
    exact ⟨s0, s1, s2, s3, s4, s5, s6, s9, s10, s11, s12, s14, by omega⟩
  · rw [inA_N (r := 0) (by decide), inA_N (r := 1) (by decide), inA_N (r := 2) (by decide)]
    exact n0
  · rw [inA_N (r := 2) (by decide)]
    exact n2
  · rw [inA_7] at hj
    rw [inA_3, if_pos hj]
  · rw [inA_N (r := 4) (by decide)]
    exact n4
  · rw [inA_N (r := 6) (by decide)]
    exact n6
  · rw [inA_N (r := 5) (by decide)]
    exact n5
/-- what filling the line changes -/
def sFl (o k : Nat) : Bool := decide (o = 14 ∨ (o = 9 ∧ (k = 5 ∨ k = 6)))
theorem c_fillL {n : Nat} (hn : n ≤ 24) : ∀ (m j fu : Nat) (A : Sx) (μ : Mm), SC b μ → RT cT b A μ → aS A 7 = j → aS A 8 = n → j + m = n - 8 → 8 ≤ n → m < fu → ∃ (A' : Sx) (μ' : Mm), f_X5_fillLine_b13 fu (b + 9) (nI (j + 8)) μ = some ((), μ') ∧ RT cT b A' μ' ∧ CH b sFl μ μ' ∧ aS A' 7 = n - 8 ∧ (∀ i, i ≠ 7 → aS A' i = aS A i) ∧ (∀ r, r ≠ 3 → aN A' r = aN A r) ∧ (∀ i, aN A' 3 i = if j ≤ i ∧ i < n - 8 then i + 8 else aN A 3 i) ∧ aV A' = aV A
  | 0, j, fu, A, μ, S0, T, h7, h8, hm, n8, hf => by
    obtain ⟨fu, rfl⟩ : ∃ n, fu = n + 1 := ⟨fu - 1, by omega⟩
    have k0 := S0
    unfold SC at k0
    have i6 : mI μ (b + 9) 6 = nI n := by rw [← h8]; exact T.1 8 rfl
    have c1 : nI n ≤ nI (j + 8) := nI_le (by omega) (by omega)
    refine ⟨A, μ, ?_, T, CH.refl0, by omega, fun _ _ => rfl, fun _ _ => rfl, fun i => by rw [if_neg (by omega)], rfl⟩
    simp only [f_X5_fillLine_b13, k0, ckT, i6, c1, if_true]
  | m + 1, j, fu, A, μ, S0, T, h7, h8, hm, n8, hf => by
    obtain ⟨fu, rfl⟩ : ∃ n, fu = n + 1 := ⟨fu - 1, by omega⟩
    have k0 := S0
    unfold SC at k0
    have i6 : mI μ (b + 9) 6 = nI n := by rw [← h8]; exact T.1 8 rfl
    have c1 : ¬ nI n ≤ nI (j + 8) := nI_ge (by omega) (by omega)
    have pb := c_putBehind (x := nI (j + 8)) S0 T (by omega)
    rw [h7] at pb
    have T1 : RT cT b (zS (zN A 3 j (j + 8)) 7 (j + 1)) (sI (sI μ (b + 14) j (nI (j + 8))) (b + 9) 5 (nI (j + 1))) := (T.putN cT_ok (q := 3) (j := j) (by omega) (show j < 24 by omega) (j + 8)).putS cT_ok (i := 7) rfl (j + 1)
    have g1 : CH b sFl μ (sI (sI μ (b + 14) j (nI (j + 8))) (b + 9) 5 (nI (j + 1))) := (CH.put (by rfl)).trans (CH.put (by rfl))
    obtain ⟨A', μ', e1, t1, g2, x7, xs, xn, x3, xv⟩ := c_fillL hn m (j + 1) fu _ _ (S0.cg g1.1 g1.2.1 g1.2.2.1) T1 (zS_at _ _ _) (by rw [zS_ne _ _ (by decide)]; exact h8) (by omega) n8 (by omega)
    refine ⟨A', μ', ?_, t1, g1.trans g2, x7, fun i hi => ?_, fun r hr => ?_, fun i => ?_, xv⟩
    · rw [show j + 1 + 8 = j + 8 + 1 by omega] at e1
      simp only [f_X5_fillLine_b13, k0, ckT, i6, c1, if_false, cl_t pb, nI_1, e1]
    · rw [xs i hi, zS_ne _ _ hi]
      rfl
    · rw [xn r hr]
      exact up2_ne _ _ _ hr
    · rw [x3 i]
      have e3 : aN (zS (zN A 3 j (j + 8)) 7 (j + 1)) 3 i = if i = j then j + 8 else aN A 3 i := rfl
      rw [e3]
      by_cases q : i = j
      · rw [if_neg (by omega), if_pos q, if_pos (by omega), q]
      · by_cases q2 : j + 1 ≤ i ∧ i < n - 8
        · rw [if_pos q2, if_pos (by omega)]
        · rw [if_neg q2, if_neg q, if_neg (by omega)]
theorem c_fill {n : Nat} {x : Int32} (S0 : SC b μ) (T : RT cT b A μ) (hn : 10 ≤ n ∧ n ≤ 24) (hx : x = nI n) : ∃ μ', f_X5_fillLine (b + 9) x μ = some ((), μ') ∧ RT cT b (inA A n) μ' ∧ CH b sFl μ μ' := by
  have k0 := S0
  unfold SC at k0
  subst hx
  obtain ⟨μ1, m1⟩ : ∃ μ1, μ1 = sI (sI μ (b + 9) 6 (nI n)) (b + 9) 5 0 := ⟨_, rfl⟩
  have T1 : RT cT b (zS (zS A 8 n) 7 0) μ1 := by
    rw [m1]
    exact (T.putS cT_ok (i := 8) rfl n).putS cT_ok (i := 7) rfl 0
  have g1 : CH b sFl μ μ1 := by rw [m1]; exact (CH.put rfl).trans (CH.put rfl)
  obtain ⟨A', μ', e1, t1, g2, x7, xs, xn, x3, xv⟩ := c_fillL hn.2 (n - 8) 0 5000 _ _ (S0.cg g1.1 g1.2.1 g1.2.2.1) T1 (zS_at _ _ _) (by rw [zS_ne _ _ (by decide), zS_at]) (by omega) (by omega) (by omega)
  refine ⟨μ', ?_, t1.cg (fun i hi => ?_) (fun r k hr hk => ?_) (fun r k hr hk => ?_), g1.trans g2⟩
  · have e1' : f_X5_fillLine_b13 5000 (b + 9) 8 μ1 = some ((), μ') := e1
    simp only [f_X5_fillLine, k0, ckT, zlS, mK_sI, ← m1, e1']
  · by_cases i7 : i = 7
    · rw [i7, inA_7, x7]
    · by_cases i8 : i = 8
      · rw [i8, inA_8, xs 8 (by decide), zS_ne _ _ (by decide), zS_at]
      · rw [inA_S i7 i8, xs i i7, zS_ne _ _ i7, zS_ne _ _ i8]
  · by_cases r3 : r = 3
    · rw [r3, inA_3, x3]
      by_cases q : k < n - 8
      · rw [if_pos q, if_pos (by omega)]
      · rw [if_neg q, if_neg (by omega)]
        rfl
    · rw [inA_N r3, xn r r3]
      rfl
  · rw [xv]
    rfl
theorem le24 {x : Int32} (h1 : ¬ x < 10) (h2 : x ≤ 24) : ∃ n, 10 ≤ n ∧ n ≤ 24 ∧ x = nI n ∧ x.toNatClampNeg = n := by
  obtain ⟨n, n1, n4, e⟩ := i32r (lo := 10) (hi := 24) (by omega) (by omega) h1 h2
  exact ⟨n, n1, n4, e, by rw [e]; exact clN (by omega)⟩
theorem c_setInner {x : Int32} (h : FR b z A μ) (hh : HR b z A (fun _ => 0) G ar s μ) (h0 : aS A 0 ≤ 500) : ∃ (k : Nat) (A' : Sx) (μ' : Mm), k = kSet A (!decide (x < 10) && decide (x ≤ 24)) ∧ A' = (if k = 0 then inA A x.toNatClampNeg else A) ∧ (k = 0 → ∃ n, 10 ≤ n ∧ n ≤ 24 ∧ x = nI n ∧ x.toNatClampNeg = n) ∧ f_X10_setInner b x μ = some (oc k (nI (aS A 8)), μ') ∧ FR b z A' μ' ∧ HR b z A' (fun _ => 0) G ar s μ' ∧ CK 1 6 μ μ' := by
  have k0 := h.1
  unfold SC at k0
  have i12 : mI μ (b + 1) 12 = nI (aS A 0) := h.2.1.1 0 rfl
  have i96 : mI μ (b + 9) 6 = nI (aS A 8) := h.2.1.1 8 rfl
  by_cases x1 : x < 10
  · refine ⟨1, A, bump μ 6, ?_, rfl, fun y => (by cases y), ?_, h.bump, hh.bump, bump_ck⟩
    · rw [decide_eq_true x1]; rfl
    · simp only [f_X10_setInner, f_X10_setInner_b12, x1, if_true] <;> rfl
  · by_cases x4 : x ≤ 24
    · rw [decide_eq_false x1, decide_eq_true x4]
      by_cases a0 : aS A 0 = 0
      · have c0 : nI (aS A 0) ≤ 0 := by rw [a0]; decide
        obtain ⟨n, n1, n4, e, en⟩ := le24 x1 x4
        obtain ⟨μ1, e1, T1, g1⟩ := c_fill h.1 h.2.1 ⟨n1, n4⟩ e
        obtain ⟨F, H, c, -⟩ := c_step (A' := inA A n) (S := sFl) h hh T1 g1 (fun o k zz => by have := of_decide_eq_true zz; unfold okS; omega) ⟨fun r hr _ => inA_N (by omega), rfl⟩ (fun i hi => inA_S (by omega) (by omega)) rfl rfl rfl rfl (fun r hr => inA_N (by omega)) (fun r hr => rfl)
        refine ⟨0, inA A n, μ1, ?_, by rw [if_pos rfl, en], fun _ => ⟨n, n1, n4, e, en⟩, ?_, F, H, c.mono (by omega) (by omega)⟩
        · unfold kSet; rw [if_neg (by decide), if_pos a0]
        · simp only [f_X10_setInner, x1, x4, if_true, if_false, k0, ckT, bdS, i12, c0, cl_t e1, i96] <;> rfl
      · have c0 : ¬ nI (aS A 0) ≤ 0 := nI_nle (by omega) (by omega)
        refine ⟨2, A, bump μ 6, ?_, rfl, fun y => (by cases y), ?_, h.bump, hh.bump, bump_ck⟩
        · unfold kSet; rw [if_neg (by decide), if_neg a0]
        · simp only [f_X10_setInner, x1, x4, if_true, if_false, k0, ckT, bdS, i12, c0] <;> rfl
    · refine ⟨1, A, bump μ 6, ?_, rfl, fun y => (by cases y), ?_, h.bump, hh.bump, bump_ck⟩
      · rw [decide_eq_false x4, Bool.and_false]; rfl
      · simp only [f_X10_setInner, f_X10_setInner_b12, x1, x4, if_false] <;> rfl
/-! the model -/
theorem m_layL {n : Nat} (hn : n ≤ 24) : ∀ (m j fu : Nat) (A : Sx) (μ : Mm), SM b μ → RT mT b A μ → aS A 7 = n - 8 → j + m = n - 8 → 8 ≤ n → m < fu → ∃ (A' : Sx) (μ' : Mm), f_X11_laysFree_b13 fu (b + 30) (nI j) μ = some ((), μ') ∧ RT mT b A' μ' ∧ CH b (fun o _ => o == 44) μ μ' ∧ (∀ i, aS A' i = aS A i) ∧ (∀ r, r ≠ 3 → aN A' r = aN A r) ∧ (∀ i, aN A' 3 i = if j ≤ i ∧ i < n - 8 then i + 8 else aN A 3 i) ∧ aV A' = aV A
  | 0, j, fu, A, μ, S0, T, h7, hm, n8, hf => by
    obtain ⟨fu, rfl⟩ : ∃ n, fu = n + 1 := ⟨fu - 1, by omega⟩
    have k0 := S0.1
    have i7 : mI μ (b + 30) 21 = nI (n - 8) := by rw [← h7]; exact T.1 7 rfl
    have c1 : nI (n - 8) ≤ nI j := nI_le (by omega) (by omega)
    refine ⟨A, μ, ?_, T, CH.refl0, fun _ => rfl, fun _ _ => rfl, fun i => by rw [if_neg (by omega)], rfl⟩
    simp only [f_X11_laysFree_b13, k0, ckT, i7, c1, if_true]
  | m + 1, j, fu, A, μ, S0, T, h7, hm, n8, hf => by
    obtain ⟨fu, rfl⟩ : ∃ n, fu = n + 1 := ⟨fu - 1, by omega⟩
    have k0 := S0
    unfold SM at k0
    have i7 : mI μ (b + 30) 21 = nI (n - 8) := by rw [← h7]; exact T.1 7 rfl
    have c1 : ¬ nI (n - 8) ≤ nI j := nI_ge (by omega) (by omega)
    have ib := inbN (p := j) (n := 24) (by omega) (by omega)
    have cj := clN (show j < 100000 by omega)
    have e8 : (8 : Int32) + nI j = nI (j + 8) := by
      rw [Int32.add_comm]
      exact nI_add _ _
    have T1 : RT mT b (zN A 3 j (j + 8)) (sI μ (b + 44) j (nI (j + 8))) := T.putN mT_ok (q := 3) (j := j) (by omega) (show j < 24 by omega) (j + 8)
    have g1 : CH b (fun o _ => o == 44) μ (sI μ (b + 44) j (nI (j + 8))) := CH.put (by rfl)
    obtain ⟨A', μ', e1, t1, g2, xs, xn, x3, xv⟩ := m_layL hn m (j + 1) fu _ _ (S0.ch g1) T1 h7 (by omega) n8 (by omega)
    refine ⟨A', μ', ?_, t1, g1.trans g2, fun i => ?_, fun r hr => ?_, fun i => ?_, xv⟩
    · simp only [f_X11_laysFree_b13, k0, ckT, i7, c1, if_false, bdS, ckA, ck_t ib, cj, zlS, e8, nI_1, e1]
    · rw [xs i]
      rfl
    · rw [xn r hr]
      exact up2_ne _ _ _ hr
    · rw [x3 i]
      have e3 : aN (zN A 3 j (j + 8)) 3 i = if i = j then j + 8 else aN A 3 i := rfl
      rw [e3]
      by_cases q : i = j
      · rw [if_neg (by omega), if_pos q, if_pos (by omega), q]
      · by_cases q2 : j + 1 ≤ i ∧ i < n - 8
        · rw [if_pos q2, if_pos (by omega)]
        · rw [if_neg q2, if_neg q, if_neg (by omega)]
theorem m_lay {n : Nat} (S0 : SM b μ) (T : RT mT b (zS A 8 n) μ) (hn : 10 ≤ n ∧ n ≤ 24) : ∃ μ', f_X11_laysFree (b + 30) μ = some ((), μ') ∧ RT mT b (inA A n) μ' ∧ CH b (fun o k => o == 44 || (o == 30 && k == 21)) μ μ' := by
  have k0 := S0.1
  have i9 : mI μ (b + 30) 9 = nI n := by
    have := T.1 8 rfl
    rw [zS_at] at this
    exact this
  have sb : nI n - 8 = nI (n - 8) := by
    obtain ⟨d, rfl⟩ : ∃ d, n = d + 8 := ⟨n - 8, by omega⟩
    rw [Nat.add_sub_cancel, ← nI_add]
    exact Int32.add_sub_cancel _ _
  obtain ⟨μ1, m1⟩ : ∃ μ1, μ1 = sI μ (b + 30) 21 (nI (n - 8)) := ⟨_, rfl⟩
  have T1 : RT mT b (zS (zS A 8 n) 7 (n - 8)) μ1 := by
    rw [m1]
    exact T.putS mT_ok (i := 7) rfl (n - 8)
  have g1 : CH b (fun o k => o == 44 || (o == 30 && k == 21)) μ μ1 := by rw [m1]; exact CH.put rfl
  obtain ⟨A', μ', e1, t1, g2, xs, xn, x3, xv⟩ := m_layL hn.2 (n - 8) 0 5000 _ _ (S0.ch g1) T1 (zS_at _ _ _) (by omega) (by omega) (by omega)
  refine ⟨μ', ?_, t1.cg (fun i hi => ?_) (fun r k hr hk => ?_) (fun r k hr hk => ?_), g1.trans (g2.mono (fun o k hz => by simp only [beq_iff_eq] at hz; simp [hz]))⟩
  · have e1' : f_X11_laysFree_b13 5000 (b + 30) 0 μ1 = some ((), μ') := e1
    simp only [f_X11_laysFree, k0, ckT, zlS, i9, sb, ← m1, e1']
  · rw [xs i]
    by_cases i7 : i = 7
    · rw [i7, inA_7, zS_at]
    · by_cases i8 : i = 8
      · rw [i8, inA_8, zS_ne _ _ (by decide), zS_at]
      · rw [inA_S i7 i8, zS_ne _ _ i7, zS_ne _ _ i8]
  · by_cases r3 : r = 3
    · rw [r3, inA_3, x3]
      by_cases q : k < n - 8
      · rw [if_pos q, if_pos (by omega)]
      · rw [if_neg q, if_neg (by omega)]
        rfl
    · rw [inA_N r3, xn r r3]
      rfl
  · rw [xv]
    rfl
theorem m_setInner {x : Int32} (h : RM b A ρ μ) (n9 : aS A 9 ≤ 16) (n10 : aS A 10 ≤ 8) (h0 : aS A 0 ≤ 500) : ∃ (k : Nat) (A' : Sx) (μ' : Mm), k = kSet A (!decide (x < 10) && decide (x ≤ 24)) ∧ A' = (if k = 0 then inA A x.toNatClampNeg else A) ∧ f_X11_setInner (b + 30) x μ = some (if k = 0 then nI (aS A 8) else 0, μ') ∧ RM b A' ρ μ' ∧ mI μ' (b + 30) 54 = nI k ∧ ML b 0 μ μ' := by
  have k0 := h.1.1
  have ir := m_inR x 10 24
  have cn := m_cannot (p := !decide (x < 10) && decide (x ≤ 24)) h h0
  obtain ⟨k, hk⟩ : ∃ k, k = kSet A (!decide (x < 10) && decide (x ≤ 24)) := ⟨_, rfl⟩
  rw [← hk] at cn
  obtain ⟨μ1, m1⟩ : ∃ μ1, μ1 = sI μ (b + 30) 54 (nI k) := ⟨_, rfl⟩
  have R1 : RM b A ρ μ1 := by rw [m1]; exact m_54 h n9 n10
  rw [← m1] at cn
  have k1 := R1.1.1
  have i8 : mI μ1 (b + 30) 9 = nI (aS A 8) := R1.2.1.1 8 rfl
  have e54 : mI μ1 (b + 30) 54 = nI k := by rw [m1]; exact mI_at _ _ _ _
  have l1 : ML b 0 μ μ1 := by rw [m1]; exact ML.put
  have b0 : bI false = 0 := rfl
  have b1 : ¬ bI true = 0 := by decide
  by_cases k00 : k = 0
  · rw [decide_eq_false (p := k ≠ 0) (fun y => y k00)] at cn
    have ok : ¬ x < 10 ∧ x ≤ 24 := by
      rw [k00] at hk
      unfold kSet at hk
      cases hb : (!decide (x < 10) && decide (x ≤ 24))
      · rw [hb, if_pos rfl] at hk; cases hk
      · simp only [Bool.and_eq_true, Bool.not_eq_true', decide_eq_false_iff_not, decide_eq_true_eq] at hb
        exact hb
    obtain ⟨n, n1, n4, e, en⟩ := le24 ok.1 ok.2
    obtain ⟨μ2, m2⟩ : ∃ μ2, μ2 = sI μ1 (b + 30) 9 x := ⟨_, rfl⟩
    have g2 : CH b (fun o k => o == 44 || (o == 30 && (k == 21 || k == 9))) μ1 μ2 := by rw [m2]; exact CH.put rfl
    have T2 : RT mT b (zS A 8 n) μ2 := by
      rw [m2, e]
      exact R1.2.1.putS mT_ok (i := 8) rfl n
    obtain ⟨μ3, e3, T3, g3⟩ := m_lay (R1.1.ch g2) T2 ⟨n1, n4⟩
    have g23 := g2.trans (g3.mono (fun o k hz => by
      simp only [Bool.or_eq_true, Bool.and_eq_true, beq_iff_eq] at hz
      rcases hz with hz | ⟨hz, hz2⟩ <;> simp [*]) : CH b (fun o k => o == 44 || (o == 30 && (k == 21 || k == 9))) μ2 μ3)
    have R3 : RM b (inA A n) ρ μ3 := R1.next T3 g23 (fun o k hz => by
      simp only [Bool.or_eq_true, Bool.and_eq_true, beq_iff_eq] at hz
      exact decide_eq_true (by omega)) n9 n10 ⟨fun r hr _ => inA_N (by omega), rfl⟩ (Nat.le_of_eq (inA_S (by decide) (by decide))) (fun _ _ => rfl) (Nat.le_of_eq (inA_S (by decide) (by decide))) (fun _ _ => rfl) (inA_S (by decide) (by decide)) rfl rfl rfl rfl (fun zz => ⟨by rw [← inA_S (A := A) (n := n) (i := 12) (by decide) (by decide)]; exact zz, inA_S (by decide) (by decide)⟩) (inA_S (by decide) (by decide)) (fun r hr => inA_N (by omega)) rfl
    have mk : ML b 0 μ1 μ3 := (g23.mono (S' := sMo) (fun o k hz => by
      simp only [Bool.or_eq_true, Bool.and_eq_true, beq_iff_eq] at hz
      exact decide_eq_true (by omega))).mk.ml
    refine ⟨k, inA A n, μ3, hk, by rw [if_pos k00, en], ?_, R3, ?_, l1.trans mk⟩
    · rw [if_pos k00]
      simp only [f_X11_setInner, ir, bdS, k0, ckT, cl_t cn, b0, if_true, k1, zlS, i8, ← m2, cl_t e3]
    · rw [g23.cell (o := 30) (k := 54) rfl]
      exact e54
  · rw [decide_eq_true (p := k ≠ 0) k00] at cn
    refine ⟨k, A, μ1, hk, by rw [if_neg k00], ?_, R1, e54, l1⟩
    rw [if_neg k00]
    simp only [f_X11_setInner, ir, bdS, k0, ckT, cl_t cn, b1, if_false]
end CIN
