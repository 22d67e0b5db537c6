/-! THE CLASS: retiring, its parts -/
section CRT
variable {b z e sl : Nat} {m m' : Nat → Nat} {A A' B : Sx} {P : Pm} {G : Nat → Nat → Nat} {ar : Nat → Nat} {s : Nat} {μ μ' μ2 : Mm} {S : Nat → Nat → Bool}
def okS (o k : Nat) : Prop := o < 30 ∧ o ≠ 24 ∧ ¬ (o = 6 ∨ o = 7 ∨ o = 8 ∨ o = 18 ∨ o = 19) ∧ ¬ (o = 15 ∧ k = 4) ∧ ¬ (o = 20 ∧ k = 4)
/-- a step in the fixed cells -/
theorem c_step (h : FR b z A μ) (hh : HR b z A m G ar s μ) (hT : RT cT b A' μ') (g : CH b S μ μ') (hS : ∀ o k, S o k = true → okS o k) (hP : SamP A A') (hs : ∀ i, i = 9 ∨ i = 10 ∨ i = 11 ∨ i = 12 ∨ i = 14 ∨ i = 15 → aS A' i = aS A i) (hB : aB A' = aB A) (hL : aL A' = aL A) (hTt : aT A' = aT A) (hQ : aQ A' = aQ A) (hE : ∀ r, r = 14 ∨ r = 15 ∨ r = 20 ∨ r = 21 ∨ r = 22 ∨ r = 23 → aN A' r = aN A r) (hV : ∀ r, r = 0 ∨ r = 6 ∨ r = 7 ∨ r = 8 → aV A' r = aV A r) : FR b z A' μ' ∧ HR b z A' m G ar s μ' ∧ CK 0 0 μ μ' ∧ H2 μ μ' := by
  have hS2 := fun (o k : Nat) (zz : S o k = true) => (⟨(hS o k zz).1, (hS o k zz).2.1⟩ : o < 30 ∧ o ≠ 24)
  exact ⟨h.ch hT g hS (by rw [hs 14 (by omega)]; exact plA_congr hP (hV 0 (by omega)) (hV 6 (by omega)) (hV 7 (by omega)) (hs 15 (by omega)) (fun i _ => by rw [hE 14 (by omega)])) hQ (fun q => ⟨by rw [← hs 12 (by omega)]; exact q, hs 11 (by omega)⟩), (hh.ch h.1 g hS2).cg hP (hs 15 (by omega)) (hs 9 (by omega)) (hs 10 (by omega)) (hs 14 (by omega)) (fun _ _ => by rw [hB]) (fun _ _ => by rw [hL]) hTt hE (hV 8 (by omega)) (fun _ _ _ => rfl), g.ck h.1 hS2, g.h2 h.1 hS2⟩
def sSe (o k : Nat) : Bool := decide (o = 11 ∨ o = 14 ∨ (o = 9 ∧ k = 5))
theorem c_settle {gP : Nat → Nat} {late : Nat} {x : Ent} {a : Nat} (S : SC b μ) (hT : RT cT b A μ) (h : REc A gP late true x a μ) (hi : INc A (x.1 0) (gP (x.1 0)) μ) (hd : aN A 11 (x.1 0) < 8) (h7 : hasD (eC A x) = true → aS A 7 < 24) (h8 : hasD (eC A x) = true → x.1 8 < 24) : ∃ μ', f_X5_settle (b + 9) a μ = some ((), μ') ∧ RT cT b (settle A x) μ' ∧ CH b sSe μ μ' := by
  obtain ⟨k1, r0, -, -, k2, -, hf⟩ := h
  obtain ⟨-, -, -, -, -, -, f8, f8n, -⟩ := hf
  have s := S
  unfold SC at s
  cases hD : hasD (eC A x)
  · have e8 : mI μ a 8 = -1 := f8n (Or.inr hD)
    refine ⟨μ, by simp only [f_X5_settle, k1, ckT, e8, if_true], ?_, CH.refl0⟩
    rw [settle_no hD]
    exact hT
  · obtain ⟨e8, e9⟩ := f8 rfl hD
    have ne : ¬ nI (x.1 8) = -1 := nI_m1 (by have := h8 hD; omega)
    have i2 : mI μ (gP (x.1 0)) 2 = nI (aN A 11 (x.1 0)) := hi.2.2.2.1
    have ki := hi.1
    have h24 := h8 hD
    obtain ⟨μ1, m1⟩ : ∃ μ1, μ1 = sI μ (b + 11) (aN A 11 (x.1 0)) (nI (x.1 8)) := ⟨_, rfl⟩
    have t1 : RT cT b (zN A 1 (aN A 11 (x.1 0)) (x.1 8)) μ1 := by rw [m1]; exact hT.putN cT_ok (q := 1) (by omega) hd (x.1 8)
    have S1 : SC b μ1 := by rw [m1]; exact S.cg rfl rfl rfl
    have na : a ≠ b + 11 := fun q => by rw [q] at k1; rw [show mK μ (b + 11) = 21 by simp only [s]] at k1; cases k1
    have e91 : mI μ1 a 9 = nI (x.1 9) := by rw [m1, mI_row _ _ na]; exact e9
    have pb := c_putBehind (x := nI (x.1 9)) S1 t1 (h7 hD)
    have pb' : f_X5_putBehind (b + 9) (nI (x.1 9)) μ1 = some ((), sI (sI μ1 (b + 14) (aS A 7) (nI (x.1 9))) (b + 9) 5 (nI (aS A 7 + 1))) := pb
    refine ⟨sI (sI μ1 (b + 14) (aS A 7) (nI (x.1 9))) (b + 9) 5 (nI (aS A 7 + 1)), ?_, ?_, ?_⟩
    · simp only [f_X5_settle, k1, ckT, e8, ne, if_false, s, bdS, r0, ki, i2, ckA, ck_t (inbN (p := aN A 11 (x.1 0)) (n := 8) hd (by omega)), clN (show aN A 11 (x.1 0) < 100000 by omega), zlS, ← m1, e91, cl_t pb']
    · unfold settle
      rw [hD, if_pos rfl]
      exact (t1.putN cT_ok (q := 3) (j := aS A 7) (by omega) (h7 hD) (x.1 9)).putS cT_ok (i := 7) rfl (aS A 7 + 1)
    · rw [m1]
      exact ((CH.put (S := sSe) rfl).trans (CH.put rfl)).trans (CH.put rfl)
def sLe (o _ : Nat) : Bool := decide (o = 22 ∨ o = 23)
theorem c_learn {gP : Nat → Nat} {late : Nat} {x : Ent} {a : Nat} (S : SC b μ) (hT : RT cT b A μ) (h : REc A gP late true x a μ) (hi : INc A (x.1 0) (gP (x.1 0)) μ) (hp : x.1 0 < 64) (hc : eC A x < 22) (h4 : ∀ k, k < 16 → aN A 4 k ≤ 3) (st : x.1 10 ≠ 113) (hso : x.1 14 ≤ 1) : ∃ μ', f_X4_learn (b + 20) a μ = some ((), μ') ∧ RT cT b (learn A x) μ' ∧ CH b sLe μ μ' := by
  obtain ⟨k1, r0, -, -, k2, -, hf⟩ := h
  obtain ⟨d11, d12, d13, d14, d15⟩ := hf.2.2.2.2.2.2.2.2.2.1 (Or.inr (Or.inr st))
  have s := S
  unfold SC at s
  have i1 : mI μ (gP (x.1 0)) 1 = nI (eC A x) := hi.2.2.1
  have i0 := hi.2.1
  have ki := hi.1
  have qn := c_isQn ki i1 hc
  have b0 : bI false = 0 := rfl
  have b1 : ¬ bI true = 0 := by decide
  cases hqn : isQn (eC A x)
  · rw [hqn] at qn
    by_cases h17 : eC A x = 17
    · have w17 : ¬ ¬ nI (eC A x) = 17 := by rw [h17]; exact fun q => q rfl
      have fm := c_fmod8 (x.1 0) hp
      have i8 := inbN (p := x.1 0 % 8) (n := 8) (by omega) (by omega)
      have c8 := clN (show x.1 0 % 8 < 100000 by omega)
      refine ⟨sI μ (b + 23) (x.1 0 % 8) (x.2.1 0), ?_, ?_, CH.put (by rfl)⟩
      · simp only [f_X4_learn, k1, ckT, r0, bdS, ki, qn, b0, if_true, i1, w17, if_false, s, i0, fm, ckA, ck_t i8, c8, d14, zlS]
      · unfold learn
        rw [hqn, if_neg Bool.false_ne_true, if_pos h17]
        have := hT.putV cT_ok (q := 3) (j := x.1 0 % 8) (by omega) (show x.1 0 % 8 < 8 by omega) (x.2.1 0)
        rw [show (cT.2.2 3).2 + x.1 0 % 8 = x.1 0 % 8 from Nat.zero_add _] at this
        exact this
    · have w17 : ¬ nI (eC A x) = 17 := nIne (n := 17) (by omega) (by omega) h17
      refine ⟨μ, ?_, ?_, CH.refl0⟩
      · simp only [f_X4_learn, k1, ckT, r0, bdS, ki, qn, b0, if_true, i1, w17, not_false_eq_true]
      · rw [learn_no hqn h17]
        exact hT
  · rw [hqn] at qn
    have fm := c_fmod16 (x.1 0) hp
    have i16 := inbN (p := x.1 0 % 16) (n := 16) (by omega) (by omega)
    have c16 := clN (show x.1 0 % 16 < 100000 by omega)
    have hv : mI μ (b + 22) (x.1 0 % 16) = nI (aN A 4 (x.1 0 % 16)) := hT.2.1 4 _ (by omega) (show x.1 0 % 16 < 16 by omega)
    have hv3 := h4 (x.1 0 % 16) (by omega)
    have zz := zb1 hso
    have z0 : (0 : Int32) = nI 0 := rfl
    obtain ⟨v, hvv⟩ : ∃ v, v = if x.1 14 = 1 then min 3 (aN A 4 (x.1 0 % 16) + 1) else aN A 4 (x.1 0 % 16) - 1 := ⟨_, rfl⟩
    refine ⟨sI μ (b + 22) (x.1 0 % 16) (nI v), ?_, ?_, CH.put (by rfl)⟩
    · by_cases so : x.1 14 = 1
      · have e0 : ¬ zb (nI (x.1 14)) = 0 := by rw [zz]; omega
        rw [if_pos so] at hvv
        have mm := m_min3 (aN A 4 (x.1 0 % 16)) (by omega)
        rw [← hvv] at mm
        simp only [f_X4_learn, f_X4_learn_b62, k1, ckT, r0, bdS, ki, qn, b1, if_false, i0, fm, s, d15, e0, ckA, ck_t i16, c16, hv, mm, zlS]
      · have e0 : zb (nI (x.1 14)) = 0 := by rw [zz]; omega
        rw [if_neg so] at hvv
        have mm := m_max3 (aN A 4 (x.1 0 % 16)) (by omega)
        rw [← hvv] at mm
        simp only [f_X4_learn, f_X4_learn_b62, k1, ckT, r0, bdS, ki, qn, b1, if_false, i0, fm, s, d15, e0, if_true, ckA, ck_t i16, c16, hv, mm, zlS]
    · unfold learn
      rw [hqn, if_pos rfl, ← hvv]
      exact hT.putN cT_ok (q := 4) (j := x.1 0 % 16) (by omega) (show x.1 0 % 16 < 16 by omega) v
/-- a lost cycle's reason -/
theorem c_idxL {c : Int32} (h1 : ∃ s, mR μ 0 1 = some s) : f_X10_indexOfReason c μ = some (if c = 105 then 0 else if c = 116 then 1 else if c = 102 then 2 else if c = 113 then 3 else if c = 120 then 4 else if c = 109 then 5 else if c = 98 then 6 else if c = 100 then 7 else -1) := by
  obtain ⟨st, hs⟩ := h1
  obtain ⟨n, hn⟩ : ∃ n, 5000 = n + 1 + 1 + 1 + 1 + 1 + 1 + 1 + 1 + 1 := ⟨4991, rfl⟩
  have z0 : zstr 0 = 105 := by decide
  have z1 : zstr 1 = 116 := by decide
  have z2 : zstr 2 = 102 := by decide
  have z3 : zstr 3 = 113 := by decide
  have z4 : zstr 4 = 120 := by decide
  have z5 : zstr 5 = 109 := by decide
  have z6 : zstr 6 = 98 := by decide
  have z7 : zstr 7 = 100 := by decide
  have a0 : (0 : Int32) + 1 = 1 := by decide
  have a1 : (1 : Int32) + 1 = 2 := by decide
  have a2 : (2 : Int32) + 1 = 3 := by decide
  have a3 : (3 : Int32) + 1 = 4 := by decide
  have a4 : (4 : Int32) + 1 = 5 := by decide
  have a5 : (5 : Int32) + 1 = 6 := by decide
  have a6 : (6 : Int32) + 1 = 7 := by decide
  have a7 : (7 : Int32) + 1 = 8 := by decide
  have c0 : ¬ (8 : Int32) ≤ 0 := by decide
  have c1 : ¬ (8 : Int32) ≤ 1 := by decide
  have c2 : ¬ (8 : Int32) ≤ 2 := by decide
  have c3 : ¬ (8 : Int32) ≤ 3 := by decide
  have c4 : ¬ (8 : Int32) ≤ 4 := by decide
  have c5 : ¬ (8 : Int32) ≤ 5 := by decide
  have c6 : ¬ (8 : Int32) ≤ 6 := by decide
  have c7 : ¬ (8 : Int32) ≤ 7 := by decide
  have c8 : (8 : Int32) ≤ 8 := by decide
  have i0 : inb 0 8 := by decide
  have i1 : inb 1 8 := by decide
  have i2 : inb 2 8 := by decide
  have i3 : inb 3 8 := by decide
  have i4 : inb 4 8 := by decide
  have i5 : inb 5 8 := by decide
  have i6 : inb 6 8 := by decide
  have i7 : inb 7 8 := by decide
  unfold f_X10_indexOfReason
  rw [hn]
  by_cases e0 : c = 105
  · subst e0
    simp only [f_X10_indexOfReason_b2, hs, bdS, c0, if_false, ck_t i0, z0, not_true, if_true]
  by_cases e1 : c = 116
  · subst e1
    have d0 : ¬ (105 : Int32) = 116 := by decide
    simp only [f_X10_indexOfReason_b2, hs, bdS, c0, c1, if_false, ck_t i0, ck_t i1, z0, z1, a0, d0, not_false_eq_true, not_true, if_true]
    rfl
  by_cases e2 : c = 102
  · subst e2
    have d0 : ¬ (105 : Int32) = 102 := by decide
    have d1 : ¬ (116 : Int32) = 102 := by decide
    simp only [f_X10_indexOfReason_b2, hs, bdS, c0, c1, c2, if_false, ck_t i0, ck_t i1, ck_t i2, z0, z1, z2, a0, a1, d0, d1, not_false_eq_true, not_true, if_true]
    rfl
  by_cases e3 : c = 113
  · subst e3
    have d0 : ¬ (105 : Int32) = 113 := by decide
    have d1 : ¬ (116 : Int32) = 113 := by decide
    have d2 : ¬ (102 : Int32) = 113 := by decide
    simp only [f_X10_indexOfReason_b2, hs, bdS, c0, c1, c2, c3, if_false, ck_t i0, ck_t i1, ck_t i2, ck_t i3, z0, z1, z2, z3, a0, a1, a2, d0, d1, d2, not_false_eq_true, not_true, if_true]
    rfl
  by_cases e4 : c = 120
  · subst e4
    have d0 : ¬ (105 : Int32) = 120 := by decide
    have d1 : ¬ (116 : Int32) = 120 := by decide
    have d2 : ¬ (102 : Int32) = 120 := by decide
    have d3 : ¬ (113 : Int32) = 120 := by decide
    simp only [f_X10_indexOfReason_b2, hs, bdS, c0, c1, c2, c3, c4, if_false, ck_t i0, ck_t i1, ck_t i2, ck_t i3, ck_t i4, z0, z1, z2, z3, z4, a0, a1, a2, a3, d0, d1, d2, d3, not_false_eq_true, not_true, if_true]
    rfl
  by_cases e5 : c = 109
  · subst e5
    have d0 : ¬ (105 : Int32) = 109 := by decide
    have d1 : ¬ (116 : Int32) = 109 := by decide
    have d2 : ¬ (102 : Int32) = 109 := by decide
    have d3 : ¬ (113 : Int32) = 109 := by decide
    have d4 : ¬ (120 : Int32) = 109 := by decide
    simp only [f_X10_indexOfReason_b2, hs, bdS, c0, c1, c2, c3, c4, c5, if_false, ck_t i0, ck_t i1, ck_t i2, ck_t i3, ck_t i4, ck_t i5, z0, z1, z2, z3, z4, z5, a0, a1, a2, a3, a4, d0, d1, d2, d3, d4, not_false_eq_true, not_true, if_true]
    rfl
  by_cases e6 : c = 98
  · subst e6
    have d0 : ¬ (105 : Int32) = 98 := by decide
    have d1 : ¬ (116 : Int32) = 98 := by decide
    have d2 : ¬ (102 : Int32) = 98 := by decide
    have d3 : ¬ (113 : Int32) = 98 := by decide
    have d4 : ¬ (120 : Int32) = 98 := by decide
    have d5 : ¬ (109 : Int32) = 98 := by decide
    simp only [f_X10_indexOfReason_b2, hs, bdS, c0, c1, c2, c3, c4, c5, c6, if_false, ck_t i0, ck_t i1, ck_t i2, ck_t i3, ck_t i4, ck_t i5, ck_t i6, z0, z1, z2, z3, z4, z5, z6, a0, a1, a2, a3, a4, a5, d0, d1, d2, d3, d4, d5, not_false_eq_true, not_true, if_true]
    rfl
  by_cases e7 : c = 100
  · subst e7
    have d0 : ¬ (105 : Int32) = 100 := by decide
    have d1 : ¬ (116 : Int32) = 100 := by decide
    have d2 : ¬ (102 : Int32) = 100 := by decide
    have d3 : ¬ (113 : Int32) = 100 := by decide
    have d4 : ¬ (120 : Int32) = 100 := by decide
    have d5 : ¬ (109 : Int32) = 100 := by decide
    have d6 : ¬ (98 : Int32) = 100 := by decide
    simp only [f_X10_indexOfReason_b2, hs, bdS, c0, c1, c2, c3, c4, c5, c6, c7, if_false, ck_t i0, ck_t i1, ck_t i2, ck_t i3, ck_t i4, ck_t i5, ck_t i6, ck_t i7, z0, z1, z2, z3, z4, z5, z6, z7, a0, a1, a2, a3, a4, a5, a6, d0, d1, d2, d3, d4, d5, d6, not_false_eq_true, not_true, if_true]
    rfl
  have d0 : ¬ (105 : Int32) = c := fun q => e0 q.symm
  have d1 : ¬ (116 : Int32) = c := fun q => e1 q.symm
  have d2 : ¬ (102 : Int32) = c := fun q => e2 q.symm
  have d3 : ¬ (113 : Int32) = c := fun q => e3 q.symm
  have d4 : ¬ (120 : Int32) = c := fun q => e4 q.symm
  have d5 : ¬ (109 : Int32) = c := fun q => e5 q.symm
  have d6 : ¬ (98 : Int32) = c := fun q => e6 q.symm
  have d7 : ¬ (100 : Int32) = c := fun q => e7 q.symm
  simp only [f_X10_indexOfReason_b2, hs, bdS, c0, c1, c2, c3, c4, c5, c6, c7, c8, if_false, ck_t i0, ck_t i1, ck_t i2, ck_t i3, ck_t i4, ck_t i5, ck_t i6, ck_t i7, z0, z1, z2, z3, z4, z5, z6, z7, a0, a1, a2, a3, a4, a5, a6, a7, d0, d1, d2, d3, d4, d5, d6, d7, not_false_eq_true, if_true, e0, e1, e2, e3, e4, e5, e6, e7]
theorem c_lose {c : Int32} {i : Nat} (h : FR b z A μ) (hh : HR b z A m G ar s μ) (hi : i < 8) (hc : f_X10_indexOfReason c μ = some (nI i)) : ∃ μ', f_X1_lose (b + 4) c μ = some ((), μ') ∧ FR b z (lose A i) μ' ∧ HR b z (lose A i) m G ar s μ' ∧ CK 0 0 μ μ' ∧ H2 μ μ' := by
  have k0 := h.1
  unfold SC at k0
  have ne : ¬ nI i = -1 := nI_m1 (by omega)
  have hb := inbN (p := i) (n := 8) hi (by omega)
  have hcl := clN (show i < 100000 by omega)
  have hv : mI μ (b + 5) i = nI (aN A 7 i) := h.2.1.2.1 7 i (by omega) hi
  obtain ⟨μ', m'⟩ : ∃ μ', μ' = sI μ (b + 5) i (nI (aN A 7 i + 1)) := ⟨_, rfl⟩
  have T : RT cT b (lose A i) μ' := by rw [m']; exact h.2.1.putN cT_ok (q := 7) (j := i) (by omega) hi _
  have g : CH b (fun o _ => o == 5) μ μ' := by rw [m']; exact CH.put rfl
  obtain ⟨F, H, c1, x1⟩ := c_step (S := fun o _ => o == 5) h hh T g (fun o k zz => by simp only [beq_iff_eq] at zz; unfold okS; omega) ⟨fun r _ _ => zN_ne _ _ _ (by omega), rfl⟩ (fun _ _ => rfl) rfl rfl rfl rfl (fun r hr => zN_ne _ _ _ (by omega)) (fun _ _ => rfl)
  exact ⟨μ', by simp only [f_X1_lose, hc, bdS, ne, if_false, k0, ckT, ckA, ck_t hb, hcl, hv, nI_1, zlS, ← m'], F, H, c1, x1⟩
theorem c_canLeave (h : FR b z A μ) (hh : HR b z A m G ar s μ) (q : IB A) (hm : ∀ k, k < aS A 9 → m k = 0) : f_X0_canLeave (b + 1) μ = some (bI (canLv A)) := by
  have k0 := h.1
  unfold SC at k0
  have n9 : aS A 9 ≤ 16 := by have := q.2.1.1; have := q.1.2.1; omega
  have i13 : mI μ (b + 1) 13 = nI (aS A 1) := h.2.1.1 1 rfl
  have bb := q.2.1.2.2.2.2.2.2.1
  have z1 := zb1 bb.1
  have em := c_empty h.k100.2.2.1 h.sz.2.1 (by omega)
  have b0 : bI false = 0 := rfl
  have b1 : ¬ bI true = 0 := by decide
  by_cases a1 : aS A 1 = 0
  · have w1 : ¬ ¬ zb (nI (aS A 1)) = 0 := by rw [z1]; exact fun w => w a1
    by_cases a9 : aS A 9 = 0
    · rw [decide_eq_true a9] at em
      have : canLv A = false := by unfold canLv; rw [a9]; simp
      rw [this]
      simp only [f_X0_canLeave, k0, ckT, i13, w1, if_false, bdS, em, b1]
      rfl
    · rw [decide_eq_false a9] at em
      have l2 : 0 < aS A 9 := by omega
      have gb : f_Jx4a65c_get_915e3 (b + 25) 0 μ = some (G 1 0) := c_getB h hh l2 (by omega)
      obtain ⟨k1, r0, -, -, k2, -, hf⟩ := hh.2.2.2.1 0 l2
      have f5 : mI μ (G 1 0) 5 = nI ((aB A 0).1 10) := hf.2.2.2.2.1.resolve_right (fun p => by have p1 := p.1; rw [hm 0 l2] at p1; omega)
      have dy := q.2.2.2.2.2.2.1 0 l2
      have st : (aB A 0).1 10 < 200 := by have := dy.1; omega
      have zz := zcN _ st
      rw [← f5] at zz
      by_cases h101 : (aB A 0).1 10 = 101
      · have w5 : zc (mI μ (G 1 0) 5) = 101 := by rw [zz, f5, h101]; rfl
        have ho := q.2.2.2.2.2.1 0 l2
        have ins := hh.2.2.1 _ ho.1
        have hp := q.1.p ho.1
        have i1 : mI μ (G 0 ((aB A 0).1 0)) 1 = nI (eC A (aB A 0)) := ins.2.2.1
        have hcb : eC A (aB A 0) < 22 := by have : eC A (aB A 0) = aN A 10 ((aB A 0).1 0) := rfl; omega
        have is := c_isSt ins.1 i1 hcb
        have d12 : mI μ (G 1 0) 12 = nI ((aB A 0).1 12) := (hf.2.2.2.2.2.2.2.2.2.1 (Or.inr (Or.inr (by omega)))).2.1
        have cm := dy.2.2.2.2.2.2 (by omega)
        have t5 : (aB A 0).1 12 ≤ 5 := by
          rw [cm.2.2.1]
          split
          · exact Nat.le_refl _
          · exact tpV_le _ _ _ _
        rw [canLv_t a1 l2 h101]
        cases hst : isSt (eC A (aB A 0))
        · rw [hst] at is
          simp only [f_X0_canLeave, f_X0_canLeave_b73, k0, ckT, i13, w1, if_false, bdS, em, b0, if_true, gb, k1, w5, r0, ins.1, is]
          rfl
        · rw [hst] at is
          by_cases t0 : (aB A 0).1 12 = 0
          · have w12 : ¬ ¬ nI ((aB A 0).1 12) = 0 := by rw [t0]; exact fun w => w rfl
            have ab := (q.ab l2).2
            have f7 : mI μ (G 1 0) 7 = nI ((aB A 0).1 7) := (hf.2.2.2.2.2.1 rfl).2.1
            have hv := c_hasValue h.1 h.2.1 ab (q.2.1.2.2.2.2.1 _ ab)
            by_cases rd : aN A 2 ((aB A 0).1 7) = 1
            · rw [decide_eq_true rd] at hv ⊢
              simp only [f_X0_canLeave, f_X0_canLeave_b73, k0, ckT, i13, w1, if_false, bdS, em, b0, if_true, gb, k1, w5, r0, ins.1, is, b1, d12, w12, f7, hv]
              simp
              rfl
            · rw [decide_eq_false rd] at hv ⊢
              rw [decide_eq_false (fun w => w t0)]
              simp only [f_X0_canLeave, f_X0_canLeave_b73, k0, ckT, i13, w1, if_false, bdS, em, b0, if_true, gb, k1, w5, r0, ins.1, is, b1, d12, w12, f7, hv]
              rfl
          · have w12 : ¬ nI ((aB A 0).1 12) = 0 := nIne (n := 0) (by omega) (by omega) t0
            rw [decide_eq_true t0]
            simp only [f_X0_canLeave, f_X0_canLeave_b73, k0, ckT, i13, w1, if_false, bdS, em, b0, if_true, gb, k1, w5, r0, ins.1, is, b1, d12, w12, not_false_eq_true]
            simp
            rfl
      · have w5 : ¬ zc (mI μ (G 1 0) 5) = 101 := by rw [zz, f5]; exact nIne (n := 101) (by omega) (by omega) h101
        have : canLv A = false := by unfold canLv; rw [decide_eq_false h101]; simp
        rw [this]
        simp only [f_X0_canLeave, k0, ckT, i13, w1, if_false, bdS, em, b0, if_true, gb, k1, w5]
  · have w1 : ¬ zb (nI (aS A 1)) = 0 := by rw [z1]; exact a1
    have : canLv A = false := by unfold canLv; rw [decide_eq_false a1]; simp
    rw [this]
    simp only [f_X0_canLeave, k0, ckT, i13, w1, not_false_eq_true, if_true]
    rfl
end CRT
