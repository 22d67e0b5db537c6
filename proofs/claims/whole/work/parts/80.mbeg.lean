/-! the model: beginnings, the small functions -/
section MBG
variable {b : Nat} {A B C A' : Sx} {ρ : Nat → Nat} {μ μ' μ2 : Mm} {S : Nat → Nat → Bool}
theorem m_in28 : ∀ c, c < 22 → f_X11_in (nI c) 2 8 = some (bI (decide (2 ≤ c) && decide (c ≤ 8))) := by decide +kernel
theorem m_in911 : ∀ c, c < 22 → f_X11_in (nI c) 9 11 = some (bI (isMm c)) := by decide +kernel
theorem m_op50 {r rb : Nat} {x3 : Int32} {p : Bool} (h : RT mT b A μ) (S0 : SM b μ) (hr : 46 ≤ r ∧ r < 62) (h8 : mI μ (b + r) 8 = nI rb) (hb : rb < 24) (r01 : aN A 2 rb ≤ 1) (hp : x3 = bI p) : (f_X11_hasOperands_b50 (b + 30) (b + r) x3 1 μ = some (bI (p && decide (aN A 2 rb = 1)))) ∧ f_X11_hasOperands_b50 (b + 30) (b + r) x3 0 μ = some (bI p) := by
  have s := S0
  unfold SM at s
  have sr := S0.row hr
  have hrd : mI μ (b + 43) rb = nI (aN A 2 rb) := h.2.1 2 _ (by omega) hb
  have zr := zb1 r01
  have n10 : ¬ (1 : Int32) = 0 := by decide
  have z00 : (0 : Int32) = 0 := rfl
  subst hp
  cases p
  · have b0 : bI false = 0 := rfl
    have b00 : ∀ q : Bool, bI (false && q) = 0 := fun q => rfl
    refine ⟨?_, ?_⟩
    · rw [b00, b0]
      simp only [f_X11_hasOperands_b50, if_true]
    · rw [b0]
      simp only [f_X11_hasOperands_b50, if_true]
  · have b1 : bI true = 1 := rfl
    refine ⟨?_, ?_⟩
    · rw [b1, Bool.true_and]
      by_cases e : aN A 2 rb = 1
      · have er : ¬ zb (nI (aN A 2 rb)) = 0 := by rw [zr]; omega
        rw [decide_eq_true e]
        simp only [f_X11_hasOperands_b50, f_X11_hasOperands_b73, n10, if_false, s, sr, ckT, bdS, ckA, ckI, tcL, h8, ck_t (inbN (p := rb) (n := 24) hb (by omega)), clN (show rb < 100000 by omega), hrd, er]
        rfl
      · have er : zb (nI (aN A 2 rb)) = 0 := by rw [zr]; omega
        rw [decide_eq_false e]
        simp only [f_X11_hasOperands_b50, f_X11_hasOperands_b73, n10, if_false, s, sr, ckT, bdS, ckA, ckI, tcL, h8, ck_t (inbN (p := rb) (n := 24) hb (by omega)), clN (show rb < 100000 by omega), hrd, er, if_true]
        rfl
    · rw [b1]
      simp only [f_X11_hasOperands_b50, f_X11_hasOperands_b73, n10, if_false, if_true]
theorem m_op22 {r rb c : Nat} {s0 : Int32} {p : Bool} (h : RT mT b A μ) (S0 : SM b μ) (hr : 46 ≤ r ∧ r < 62) (h8 : mI μ (b + r) 8 = nI rb) (hb : rb < 24) (r01 : aN A 2 rb ≤ 1) (hp : s0 = bI p) (hc : c < 22) : f_X11_hasOperands_b22 (b + 30) (b + r) (nI c) s0 μ = some (bI (p && (!nB c || decide (aN A 2 rb = 1)))) := by
  obtain ⟨o1, o2⟩ := m_op50 (x3 := s0) h S0 hr h8 hb r01 hp
  have i28 := m_in28 c hc
  have n10 : ¬ (1 : Int32) = 0 := by decide
  cases hn : (decide (2 ≤ c) && decide (c ≤ 8))
  · rw [hn] at i28
    by_cases h12 : c = 12
    · subst h12
      have d12 : (nI 12 = 12) = True := by decide
      have : (!nB 12 || decide (aN A 2 rb = 1)) = decide (aN A 2 rb = 1) := rfl
      rw [this, ← o1]
      simp only [f_X11_hasOperands_b22, f_X11_hasOperands_b45, i28, bdS, bI, Bool.false_eq_true, if_false, not_true, if_true, d12]
    · have n12 : ¬ nI c = 12 := nIne (n := 12) (by omega) (by omega) h12
      by_cases h13 : c = 13
      · subst h13
        have d13 : (nI 13 = 13) = True := by decide
        have d1312 : (nI 13 = 12) = False := by decide
        have : (!nB 13 || decide (aN A 2 rb = 1)) = decide (aN A 2 rb = 1) := rfl
        rw [this, ← o1]
        simp only [f_X11_hasOperands_b22, f_X11_hasOperands_b45, i28, bdS, bI, Bool.false_eq_true, if_false, not_true, if_true, d13, d1312]
      · have n13 : ¬ nI c = 13 := nIne (n := 13) (by omega) (by omega) h13
        have nb : nB c = false := by
          unfold nB isQn
          rw [hn, decide_eq_false h12, decide_eq_false h13]
          rfl
        have : (p && (!nB c || decide (aN A 2 rb = 1))) = p := by rw [nb]; simp
        rw [this, ← o2]
        simp only [f_X11_hasOperands_b22, i28, bdS, bI, Bool.false_eq_true, if_false, not_true, not_false_eq_true, if_true, n12, n13]
  · rw [hn] at i28
    have nb : nB c = true := by
      unfold nB
      rw [hn]
      rfl
    have : (p && (!nB c || decide (aN A 2 rb = 1))) = (p && decide (aN A 2 rb = 1)) := by rw [nb]; rfl
    rw [this, ← o1]
    simp only [f_X11_hasOperands_b22, f_X11_hasOperands_b45, i28, bdS, bI, if_true, n10, not_false_eq_true]
theorem m_hasOp {r ra rb c : Nat} (h : RT mT b A μ) (S0 : SM b μ) (hr : 46 ≤ r ∧ r < 62) (h7 : mI μ (b + r) 7 = nI ra) (h8 : mI μ (b + r) 8 = nI rb) (ha : ra < 24) (hb : rb < 24) (a01 : aN A 2 ra ≤ 1) (r01 : aN A 2 rb ≤ 1) (hc : c < 22) : f_X11_hasOperands (b + 30) (b + r) (nI c) μ = some (bI ((!nA c || decide (aN A 2 ra = 1)) && (!nB c || decide (aN A 2 rb = 1)))) := by
  have s := S0
  unfold SM at s
  have sr := S0.row hr
  have hrd : mI μ (b + 43) ra = nI (aN A 2 ra) := h.2.1 2 _ (by omega) ha
  have zr := zb1 a01
  by_cases h1 : c = 1
  · subst h1
    have d1 : nI 1 = 1 := rfl
    have o := m_op22 (s0 := 1) (p := true) (c := 1) h S0 hr h8 hb r01 rfl (by omega)
    have : (!nA 1 || decide (aN A 2 ra = 1)) = true := rfl
    rw [this, ← o]
    simp only [f_X11_hasOperands, f_X11_hasOperands_b17, d1, if_true]
  · have n1 : ¬ nI c = 1 := nIne (n := 1) (by omega) (by omega) h1
    have na : nA c = true := decide_eq_true h1
    have e : (!nA c || decide (aN A 2 ra = 1)) = decide (aN A 2 ra = 1) := by rw [na]; rfl
    rw [e]
    by_cases q : aN A 2 ra = 1
    · have er : ¬ zb (nI (aN A 2 ra)) = 0 := by rw [zr]; omega
      have o := m_op22 (s0 := 1) (p := true) (c := c) h S0 hr h8 hb r01 rfl hc
      rw [decide_eq_true q, ← o]
      simp only [f_X11_hasOperands, f_X11_hasOperands_b17, n1, if_false, s, sr, ckT, bdS, ckA, ckI, tcL, h7, ck_t (inbN (p := ra) (n := 24) ha (by omega)), clN (show ra < 100000 by omega), hrd, er]
    · have er : zb (nI (aN A 2 ra)) = 0 := by rw [zr]; omega
      have o := m_op22 (s0 := 0) (p := false) (c := c) h S0 hr h8 hb r01 rfl hc
      rw [decide_eq_false q, ← o]
      simp only [f_X11_hasOperands, f_X11_hasOperands_b17, n1, if_false, if_true, s, sr, ckT, bdS, ckA, ckI, tcL, h7, ck_t (inbN (p := ra) (n := 24) ha (by omega)), clN (show ra < 100000 by omega), hrd, er]
/-- starts: three cells of a row -/
theorem m_starts {r d : Nat} (h : RT mT b A μ) (S0 : SM b μ) (hr : 46 ≤ r ∧ r < 62) : f_X11_starts (b + 30) (b + r) (nI d) μ = some ((), sI (sI (sI μ (b + r) 11 120) (b + r) 3 (nI (aS A 0))) (b + r) 12 (nI (aS A 0 + d))) := by
  have s := S0
  unfold SM at s
  have sr := S0.row hr
  have h36 : mI μ (b + 30) 36 = nI (aS A 0) := h.1 0 rfl
  have n1 : b + 30 ≠ b + r := by omega
  simp only [f_X11_starts, s, sr, ckT, bdS, zlS, ckA, ckI, tcL, mK_sI, mL_sI, mR_sI', mI_ne _ _ (Or.inl n1), h36, nI_add]
/-- whether a line is asked for -/
theorem m_asked {l : Nat} (S0 : SM b μ) (hQ : QM b A μ) (hl : l < 1000) (q2 : (aQ A).length ≤ 2) (hz : ∀ z ∈ aQ A, z.1 < 16) : f_X11_isAskedFor (b + 30) (nI l) μ = some (bI (decide (l ∈ (aQ A).map (·.1)))) := by
  have s := S0
  unfold SM at s
  obtain ⟨n, hn⟩ : ∃ n, 5000 = n + 1 + 1 + 1 := ⟨4997, rfl⟩
  obtain ⟨h35, hk⟩ := hQ
  unfold f_X11_isAskedFor
  rw [hn]
  have z0 : (0 : Int32) + 1 = 1 := by decide
  have z1 : (1 : Int32) + 1 = 2 := by decide
  have n10 : ¬ (1 : Int32) = 0 := by decide
  have nn : ¬ ¬ (0 : Int32) = 0 := fun z => z rfl
  have zb0 : zb 0 = 0 := by decide
  have zb1' : zb 1 = 1 := by decide
  have l10 : ¬ (1 : Int32) ≤ 0 := by decide
  have l20 : ¬ (2 : Int32) ≤ 0 := by decide
  have l21 : ¬ (2 : Int32) ≤ 1 := by decide
  have l11 : (1 : Int32) ≤ 1 := by decide
  have l22 : (2 : Int32) ≤ 2 := by decide
  have l00 : (0 : Int32) ≤ 0 := by decide
  rcases hq : aQ A with _ | ⟨y, _ | ⟨y2, _ | ⟨y3, r⟩⟩⟩
  · rw [hq] at h35
    have h35' : mI μ (b + 30) 35 = 0 := h35
    simp only [f_X11_isAskedFor_b4, s, ckT, h35', l00, if_true, zb0]
    simp [bI]
  · rw [hq] at h35 hk hz
    have h35' : mI μ (b + 30) 35 = 1 := h35
    have k0 : mI μ (b + 76) 0 = nI y.1 := (hk 0 (by show 0 < 1; omega)).1
    have y16 := hz y (by simp)
    by_cases e : y.1 = l
    · have e1 : nI y.1 = nI l := by rw [e]
      simp only [f_X11_isAskedFor_b4, f_X11_isAskedFor_b31, f_X11_isAskedFor_b26, s, ckT, bdS, ckA, ckI, tcL, h35', l10, l11, z0, if_true, if_false, not_true, k0, e1, zb1']
      simp [bI, e]
    · have e1 : ¬ nI y.1 = nI l := nIne (by omega) (by omega) e
      simp only [f_X11_isAskedFor_b4, f_X11_isAskedFor_b31, f_X11_isAskedFor_b26, s, ckT, bdS, ckA, ckI, tcL, h35', l10, l11, z0, if_true, if_false, not_true, not_false_eq_true, k0, e1, zb0]
      simp [bI, Ne.symm e]
  · rw [hq] at h35 hk hz
    have h35' : mI μ (b + 30) 35 = 2 := h35
    have k0 : mI μ (b + 76) 0 = nI y.1 := (hk 0 (by show 0 < 2; omega)).1
    have k1 : mI μ (b + 76) 1 = nI y2.1 := (hk 1 (by show 1 < 2; omega)).1
    have y16 := hz y (by simp)
    have y216 := hz y2 (by simp)
    by_cases e : y.1 = l
    · have e1 : nI y.1 = nI l := by rw [e]
      simp only [f_X11_isAskedFor_b4, f_X11_isAskedFor_b31, f_X11_isAskedFor_b26, s, ckT, bdS, ckA, ckI, tcL, h35', l20, l21, l22, z0, z1, if_true, if_false, not_true, not_false_eq_true, n10, k0, e1, zb1']
      simp [bI, e]
    · have e1 : ¬ nI y.1 = nI l := nIne (by omega) (by omega) e
      by_cases e' : y2.1 = l
      · have e2 : nI y2.1 = nI l := by rw [e']
        simp only [f_X11_isAskedFor_b4, f_X11_isAskedFor_b31, f_X11_isAskedFor_b26, s, ckT, bdS, ckA, ckI, tcL, h35', l20, l21, l22, z0, z1, if_true, if_false, not_true, not_false_eq_true, n10, k0, k1, e1, e2, zb1']
        simp [bI, e']
      · have e2 : ¬ nI y2.1 = nI l := nIne (by omega) (by omega) e'
        simp only [f_X11_isAskedFor_b4, f_X11_isAskedFor_b31, f_X11_isAskedFor_b26, s, ckT, bdS, ckA, ckI, tcL, h35', l20, l21, l22, z0, z1, if_true, if_false, not_true, not_false_eq_true, n10, k0, k1, e1, e2, zb0]
        simp [bI, Ne.symm e, Ne.symm e']
  · rw [hq] at q2
    exfalso
    have : r.length + 1 + 1 + 1 ≤ 2 := q2
    omega
end MBG
