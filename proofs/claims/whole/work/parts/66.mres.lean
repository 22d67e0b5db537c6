section MRES
variable {b : Nat} {A A' : Sx} {ρ : Nat → Nat} {μ μ' : Mm} {S : Nat → Nat → Bool}
theorem RT.v1 (h : RT mT b A μ) {i : Nat} (hi : i < 24) : mI μ (b + 42) i = aV A 1 i := by
  have e : mI μ (b + 42) (0 + i) = aV A 1 i := h.2.2 1 i (by decide) hi
  rw [Nat.zero_add] at e
  exact e
theorem RT.v2 (h : RT mT b A μ) {i : Nat} (hi : i < 64) : mI μ (b + 39) i = aV A 2 i := by
  have e : mI μ (b + 39) (0 + i) = aV A 2 i := h.2.2 2 i (by decide) hi
  rw [Nat.zero_add] at e
  exact e
theorem RT.v3 (h : RT mT b A μ) {i : Nat} (hi : i < 8) : mI μ (b + 73) i = aV A 3 i := by
  have e : mI μ (b + 73) (0 + i) = aV A 3 i := h.2.2 3 i (by decide) hi
  rw [Nat.zero_add] at e
  exact e
theorem RT.v4 (h : RT mT b A μ) {i : Nat} (hi : i < 4) : mI μ (b + 75) i = aV A 4 i := by
  have e : mI μ (b + 75) (0 + i) = aV A 4 i := h.2.2 4 i (by decide) hi
  rw [Nat.zero_add] at e
  exact e
/-- what an entry of the buffer reads: its registers' numbers are there -/
theorem IB.ab (q : IB A) {k : Nat} (hk : k < aS A 9) : (aB A k).1 6 < 24 ∧ (aB A k).1 7 < 24 := by
  obtain ⟨q1, q2, q3, q4, q5, q6, -⟩ := q
  obtain ⟨g1, g2, -⟩ := q5.2 k hk
  have p := q1.p (q6 k hk).1
  have i := q1.2.2.2.1
  have h1 := q4.map_lt (n := k) (by omega) p.2.2.2.1
  have h2 := q4.map_lt (n := k) (by omega) p.2.2.2.2.1
  omega
theorem IB.dd (q : IB A) {k : Nat} (hk : k < aS A 9) (hd : hasD (eC A (aB A k)) = true) : (aB A k).1 8 < 24 := by
  obtain ⟨q1, q2, q3, q4, q5, q6, -⟩ := q
  have i := q1.2.2.2.1
  have := q4.dst hk hd
  omega
theorem m_result1 (S : SM b μ) (hT : RT mT b A μ) (P : PM b A μ) (hnp : aS A 15 ≤ 64) {r p ra rb : Nat} (hk : mK μ r = 11) (hl : mL μ r = 28) (h0 : mI μ r 0 = nI p) (hp : p < aS A 15) (h7 : mI μ r 7 = nI ra) (h8 : mI μ r 8 = nI rb) (ha : ra < 24) (hb : rb < 24) (hc : 1 ≤ aN A 10 p ∧ aN A 10 p ≤ 8) : f_X11_result (b + 30) r μ = some (rsV (aN A 10 p) p (aV A 1 ra) (aV A 1 rb) (aV A 5 p)) := by
  have s := S
  unfold SM at s
  have hco := m_codeOf S P hnp hk hl h0 hp
  have hv := hT.v1 ha
  have hv2 := hT.v1 hb
  have pn := (P p hp).2.2.2.2
  have hcc : aN A 10 p = 1 ∨ aN A 10 p = 2 ∨ aN A 10 p = 3 ∨ aN A 10 p = 4 ∨ aN A 10 p = 5 ∨ aN A 10 p = 6 ∨ aN A 10 p = 7 ∨ aN A 10 p = 8 := by omega
  rcases hcc with e | e | e | e | e | e | e | e <;> rw [e] at hco ⊢
  · have hne : ¬ ((Int32.toInt (nI 1)) < 1 ∨ 8 < (Int32.toInt (nI 1))) := by decide
    simp only [f_X11_result, s, hk, hl, h0, h7, h8, hv, hv2, pn, ckT, bdS, ckA, ckI, tcL, ck_t (inbN (p := ra) (n := 24) ha (by omega)), ck_t (inbN (p := rb) (n := 24) hb (by omega)), ck_t (inbN (p := p) (n := 64) (by omega) (by omega)), clN (show ra < 100000 by omega), clN (show rb < 100000 by omega), clN (show p < 100000 by omega), hco, hne, show (nI 1 = 1) = True by decide, if_true, if_false]
    simp [rsV]
  · have hne : ¬ ((Int32.toInt (nI 2)) < 1 ∨ 8 < (Int32.toInt (nI 2))) := by decide
    simp only [f_X11_result, s, hk, hl, h0, h7, h8, hv, hv2, pn, ckT, bdS, ckA, ckI, tcL, ck_t (inbN (p := ra) (n := 24) ha (by omega)), ck_t (inbN (p := rb) (n := 24) hb (by omega)), ck_t (inbN (p := p) (n := 64) (by omega) (by omega)), clN (show ra < 100000 by omega), clN (show rb < 100000 by omega), clN (show p < 100000 by omega), hco, hne, show (nI 2 = 1) = False by decide, show (nI 2 = 2) = True by decide, if_true, if_false]
    simp [rsV]
  · have hne : ¬ ((Int32.toInt (nI 3)) < 1 ∨ 8 < (Int32.toInt (nI 3))) := by decide
    simp only [f_X11_result, s, hk, hl, h0, h7, h8, hv, hv2, pn, ckT, bdS, ckA, ckI, tcL, ck_t (inbN (p := ra) (n := 24) ha (by omega)), ck_t (inbN (p := rb) (n := 24) hb (by omega)), ck_t (inbN (p := p) (n := 64) (by omega) (by omega)), clN (show ra < 100000 by omega), clN (show rb < 100000 by omega), clN (show p < 100000 by omega), hco, hne, show (nI 3 = 1) = False by decide, show (nI 3 = 2) = False by decide, show (nI 3 = 3) = True by decide, if_true, if_false]
    simp [rsV]
  · have hne : ¬ ((Int32.toInt (nI 4)) < 1 ∨ 8 < (Int32.toInt (nI 4))) := by decide
    simp only [f_X11_result, s, hk, hl, h0, h7, h8, hv, hv2, pn, ckT, bdS, ckA, ckI, tcL, ck_t (inbN (p := ra) (n := 24) ha (by omega)), ck_t (inbN (p := rb) (n := 24) hb (by omega)), ck_t (inbN (p := p) (n := 64) (by omega) (by omega)), clN (show ra < 100000 by omega), clN (show rb < 100000 by omega), clN (show p < 100000 by omega), hco, hne, show (nI 4 = 1) = False by decide, show (nI 4 = 2) = False by decide, show (nI 4 = 3) = False by decide, show (nI 4 = 4) = True by decide, if_true, if_false]
    simp [rsV]
  · have hne : ¬ ((Int32.toInt (nI 5)) < 1 ∨ 8 < (Int32.toInt (nI 5))) := by decide
    by_cases hy : aV A 1 rb = 0
    · simp only [f_X11_result, s, hk, hl, h0, h7, h8, hv, hv2, pn, ckT, bdS, ckA, ckI, tcL, ck_t (inbN (p := ra) (n := 24) ha (by omega)), ck_t (inbN (p := rb) (n := 24) hb (by omega)), ck_t (inbN (p := p) (n := 64) (by omega) (by omega)), clN (show ra < 100000 by omega), clN (show rb < 100000 by omega), clN (show p < 100000 by omega), hco, hne, show (nI 5 = 1) = False by decide, show (nI 5 = 2) = False by decide, show (nI 5 = 3) = False by decide, show (nI 5 = 4) = False by decide, show (nI 5 = 5) = True by decide, if_true, if_false, hy, not_true]
      simp [rsV]
    · simp only [f_X11_result, s, hk, hl, h0, h7, h8, hv, hv2, pn, ckT, bdS, ckA, ckI, tcL, ck_t (inbN (p := ra) (n := 24) ha (by omega)), ck_t (inbN (p := rb) (n := 24) hb (by omega)), ck_t (inbN (p := p) (n := 64) (by omega) (by omega)), clN (show ra < 100000 by omega), clN (show rb < 100000 by omega), clN (show p < 100000 by omega), hco, hne, show (nI 5 = 1) = False by decide, show (nI 5 = 2) = False by decide, show (nI 5 = 3) = False by decide, show (nI 5 = 4) = False by decide, show (nI 5 = 5) = True by decide, if_true, if_false, hy, not_false_eq_true]
      simp [rsV, hy]
  · have hne : ¬ ((Int32.toInt (nI 6)) < 1 ∨ 8 < (Int32.toInt (nI 6))) := by decide
    simp only [f_X11_result, s, hk, hl, h0, h7, h8, hv, hv2, pn, ckT, bdS, ckA, ckI, tcL, ck_t (inbN (p := ra) (n := 24) ha (by omega)), ck_t (inbN (p := rb) (n := 24) hb (by omega)), ck_t (inbN (p := p) (n := 64) (by omega) (by omega)), clN (show ra < 100000 by omega), clN (show rb < 100000 by omega), clN (show p < 100000 by omega), hco, hne, show (nI 6 = 1) = False by decide, show (nI 6 = 2) = False by decide, show (nI 6 = 3) = False by decide, show (nI 6 = 4) = False by decide, show (nI 6 = 5) = False by decide, show (nI 6 = 6) = True by decide, if_true, if_false]
    simp [rsV]
  · have hne : ¬ ((Int32.toInt (nI 7)) < 1 ∨ 8 < (Int32.toInt (nI 7))) := by decide
    simp only [f_X11_result, s, hk, hl, h0, h7, h8, hv, hv2, pn, ckT, bdS, ckA, ckI, tcL, ck_t (inbN (p := ra) (n := 24) ha (by omega)), ck_t (inbN (p := rb) (n := 24) hb (by omega)), ck_t (inbN (p := p) (n := 64) (by omega) (by omega)), clN (show ra < 100000 by omega), clN (show rb < 100000 by omega), clN (show p < 100000 by omega), hco, hne, show (nI 7 = 1) = False by decide, show (nI 7 = 2) = False by decide, show (nI 7 = 3) = False by decide, show (nI 7 = 4) = False by decide, show (nI 7 = 5) = False by decide, show (nI 7 = 6) = False by decide, show (nI 7 = 7) = True by decide, if_true, if_false]
    simp [rsV]
  · have hne : ¬ ((Int32.toInt (nI 8)) < 1 ∨ 8 < (Int32.toInt (nI 8))) := by decide
    simp only [f_X11_result, s, hk, hl, h0, h7, h8, hv, hv2, pn, ckT, bdS, ckA, ckI, tcL, ck_t (inbN (p := ra) (n := 24) ha (by omega)), ck_t (inbN (p := rb) (n := 24) hb (by omega)), ck_t (inbN (p := p) (n := 64) (by omega) (by omega)), clN (show ra < 100000 by omega), clN (show rb < 100000 by omega), clN (show p < 100000 by omega), hco, hne, show (nI 8 = 1) = False by decide, show (nI 8 = 2) = False by decide, show (nI 8 = 3) = False by decide, show (nI 8 = 4) = False by decide, show (nI 8 = 5) = False by decide, show (nI 8 = 6) = False by decide, show (nI 8 = 7) = False by decide, show (nI 8 = 8) = True by decide, if_true, if_false]
    by_cases hy : aV A 1 rb ≤ aV A 1 ra
    · rw [if_pos hy]
      simp [rsV, Int32.not_lt.mpr hy]
    · rw [if_neg hy]
      simp [rsV, Int32.not_le.mp hy]
theorem m_result9 (S : SM b μ) (hT : RT mT b A μ) (P : PM b A μ) (hnp : aS A 15 ≤ 64) {r p ra rb t : Nat} {v ad g : Int32} (hk : mK μ r = 11) (hl : mL μ r = 28) (h0 : mI μ r 0 = nI p) (hp : p < aS A 15) (h7 : mI μ r 7 = nI ra) (h8 : mI μ r 8 = nI rb) (ha : ra < 24) (hb : rb < 24) (hc : aN A 10 p = 9) (h13 : mI μ r 13 = nI t) (ht : t ≤ 5) (h16 : mI μ r 16 = g) (h15 : g ≠ -1 → mI μ r 15 = v) (h14 : t = 0 → mI μ r 14 = ad) (had : t = 0 → adok ad = true) (hvv : t = 0 → g = -1 → v = aV A 2 ad.toNatClampNeg) (hv0 : t ≠ 0 → v = 0) : f_X11_result (b + 30) r μ = some v := by
  have s := S
  unfold SM at s
  have hco := m_codeOf S P hnp hk hl h0 hp
  rw [hc] at hco
  have hv := hT.v1 ha
  have hv2 := hT.v1 hb
  have pn := (P p hp).2.2.2.2
  have hne : ((Int32.toInt (nI 9)) < 1 ∨ 8 < (Int32.toInt (nI 9))) := by decide
  by_cases t0 : t = 0
  · subst t0
    have e1 := h14 rfl
    obtain ⟨a1, a2⟩ := adok_e (had rfl)
    by_cases g0 : g = -1
    · have e2 := hvv rfl g0
      rw [g0] at h16
      have hw := hT.v2 a2
      have hi : inb ad 64 := ⟨by rw [a1]; exact nI_pos' (by omega), a2⟩
      simp only [f_X11_result, s, hk, hl, h0, h7, h8, hv, hv2, pn, ckT, bdS, ckA, ckI, tcL, ck_t (inbN (p := ra) (n := 24) ha (by omega)), ck_t (inbN (p := rb) (n := 24) hb (by omega)), ck_t (inbN (p := p) (n := 64) (by omega) (by omega)), clN (show ra < 100000 by omega), clN (show rb < 100000 by omega), clN (show p < 100000 by omega), hco, hne, if_true, h13, h16, e1, ck_t hi, show (nI 0 ≤ 0) = True by decide, hw, e2]
    · have e2 := h15 g0
      simp only [f_X11_result, s, hk, hl, h0, h7, h8, hv, hv2, pn, ckT, bdS, ckA, ckI, tcL, ck_t (inbN (p := ra) (n := 24) ha (by omega)), ck_t (inbN (p := rb) (n := 24) hb (by omega)), ck_t (inbN (p := p) (n := 64) (by omega) (by omega)), clN (show ra < 100000 by omega), clN (show rb < 100000 by omega), clN (show p < 100000 by omega), hco, hne, if_true, h13, h16, show (nI 0 ≤ 0) = True by decide, g0, if_false, e2]
  · have e3 : ¬ nI t ≤ 0 := nI_nle (by omega) (by omega)
    simp only [f_X11_result, s, hk, hl, h0, h7, h8, hv, hv2, pn, ckT, bdS, ckA, ckI, tcL, ck_t (inbN (p := ra) (n := 24) ha (by omega)), ck_t (inbN (p := rb) (n := 24) hb (by omega)), ck_t (inbN (p := p) (n := 64) (by omega) (by omega)), clN (show ra < 100000 by omega), clN (show rb < 100000 by omega), clN (show p < 100000 by omega), hco, hne, if_true, h13, e3, if_false, hv0 t0]
end MRES
