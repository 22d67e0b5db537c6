/-! both: the buffer's, the queue's room; an interrupt -/
section CAQ
variable {b z e sl : Nat} {m m' : Nat → Nat} {A A' B C D : Sx} {P : Pm} {G : Nat → Nat → Nat} {ar : Nat → Nat} {s : Nat} {ρ : Nat → Nat} {μ μ' μ2 : Mm} {S : Nat → Nat → Bool}
theorem c_setQ {x : Int32} (h : FR b z A μ) (hh : HR b z A (fun _ => 0) G ar s μ) (h0 : aS A 0 ≤ 500) : ∃ (k : Nat) (A' : Sx) (μ' : Mm), k = kSet A (!decide (x < 2) && decide (x ≤ 8)) ∧ A' = (if k = 0 then zS A 18 x.toNatClampNeg else A) ∧ (k = 0 → ∃ n, 2 ≤ n ∧ n ≤ 8 ∧ x = nI n ∧ x.toNatClampNeg = n) ∧ f_X10_setQueue b x μ = some (oc k (nI (aS A 18)), μ') ∧ FR b z A' μ' ∧ HR b z A' (fun _ => 0) G ar s μ' ∧ CK 1 6 μ μ' := by
  have k0 := h.1
  unfold SC at k0
  have i12 : mI μ (b + 1) 12 = nI (aS A 0) := h.2.1.1 0 rfl
  have i30 : mI μ (b + 3) 2 = nI (aS A 18) := h.2.1.1 18 rfl
  by_cases x1 : x < 2
  · refine ⟨1, A, bump μ 6, ?_, rfl, fun y => (by cases y), ?_, h.bump, hh.bump, bump_ck⟩
    · rw [decide_eq_true x1]; rfl
    · simp only [f_X10_setQueue, f_X10_setQueue_b11, x1, if_true] <;> rfl
  · by_cases x4 : x ≤ 8
    · rw [decide_eq_false x1, decide_eq_true x4]
      by_cases a0 : aS A 0 = 0
      · have c0 : nI (aS A 0) ≤ 0 := by rw [a0]; decide
        obtain ⟨n, n1, n4, e⟩ := i32r (lo := 2) (hi := 8) (by omega) (by omega) x1 x4
        have en : x.toNatClampNeg = n := by rw [e]; exact clN (by omega)
        obtain ⟨F, H, c, -⟩ := c_put (i := 18) (n := n) h hh rfl (by decide) rfl
        rw [show sI μ (b + 3) 2 (nI n) = sI μ (b + 3) 2 x from by rw [e]] at F H c
        refine ⟨0, zS A 18 n, sI μ (b + 3) 2 x, ?_, by rw [if_pos rfl, en], fun _ => ⟨n, n1, n4, e, en⟩, ?_, F, H, c.mono (by omega) (by omega)⟩
        · unfold kSet; rw [if_neg (by decide), if_pos a0]
        · simp only [f_X10_setQueue, x1, x4, if_true, if_false, k0, ckT, bdS, i12, c0, i30, zlS] <;> rfl
      · have c0 : ¬ nI (aS A 0) ≤ 0 := nI_nle (by omega) (by omega)
        refine ⟨2, A, bump μ 6, ?_, rfl, fun y => (by cases y), ?_, h.bump, hh.bump, bump_ck⟩
        · unfold kSet; rw [if_neg (by decide), if_neg a0]
        · simp only [f_X10_setQueue, x1, x4, if_true, if_false, k0, ckT, bdS, i12, c0] <;> rfl
    · refine ⟨1, A, bump μ 6, ?_, rfl, fun y => (by cases y), ?_, h.bump, hh.bump, bump_ck⟩
      · rw [decide_eq_false x4, Bool.and_false]; rfl
      · simp only [f_X10_setQueue, f_X10_setQueue_b11, x1, x4, if_false] <;> rfl
theorem m_setB {x : Int32} (h : RM b A ρ μ) (n9 : aS A 9 ≤ 16) (n10 : aS A 10 ≤ 8) (h0 : aS A 0 ≤ 500) : ∃ (k : Nat) (A' : Sx) (μ' : Mm), k = kSet A (!decide (x < 4) && decide (x ≤ 16)) ∧ A' = (if k = 0 then zS A 17 x.toNatClampNeg else A) ∧ f_X11_setBuffer (b + 30) x μ = some (if k = 0 then nI (aS A 17) else 0, μ') ∧ RM b A' ρ μ' ∧ mI μ' (b + 30) 54 = nI k ∧ ML b 0 μ μ' := by
  have k0 := h.1.1
  have ir := m_inR x 4 16
  have cn := m_cannot (p := !decide (x < 4) && decide (x ≤ 16)) h h0
  obtain ⟨k, hk⟩ : ∃ k, k = kSet A (!decide (x < 4) && decide (x ≤ 16)) := ⟨_, rfl⟩
  rw [← hk] at cn
  obtain ⟨μ1, m1⟩ : ∃ μ1, μ1 = sI μ (b + 30) 54 (nI k) := ⟨_, rfl⟩
  have R1 : RM b A ρ μ1 := by rw [m1]; exact m_54 h n9 n10
  rw [← m1] at cn
  have k1 := R1.1.1
  have i16 : mI μ1 (b + 30) 7 = nI (aS A 17) := R1.2.1.1 17 rfl
  have e54 : mI μ1 (b + 30) 54 = nI k := by rw [m1]; exact mI_at _ _ _ _
  have l1 : ML b 0 μ μ1 := by rw [m1]; exact ML.put
  have b0 : bI false = 0 := rfl
  have b1 : ¬ bI true = 0 := by decide
  by_cases k00 : k = 0
  · rw [decide_eq_false (p := k ≠ 0) (fun y => y k00)] at cn
    have ok : ¬ x < 4 ∧ x ≤ 16 := by
      rw [k00] at hk
      unfold kSet at hk
      cases hb : (!decide (x < 4) && decide (x ≤ 16))
      · rw [hb, if_pos rfl] at hk; cases hk
      · simp only [Bool.and_eq_true, Bool.not_eq_true', decide_eq_false_iff_not, decide_eq_true_eq] at hb
        exact hb
    obtain ⟨n, n1, n4, e⟩ := i32r (lo := 4) (hi := 16) (by omega) (by omega) ok.1 ok.2
    have en : x.toNatClampNeg = n := by rw [e]; exact clN (by omega)
    obtain ⟨R2, -⟩ := m_put (i := 17) (n := n) R1 n9 n10 rfl (by decide)
    have R2' : RM b (zS A 17 n) ρ (sI μ1 (b + 30) 7 x) := by rw [e]; exact R2
    refine ⟨k, zS A 17 n, sI μ1 (b + 30) 7 x, hk, by rw [if_pos k00, en], ?_, R2', by rw [mI_ne _ _ (Or.inr (by decide))]; exact e54, l1.trans ML.put⟩
    rw [if_pos k00]
    simp only [f_X11_setBuffer, ir, bdS, k0, ckT, cl_t cn, b0, if_true, k1, zlS, i16]
  · rw [decide_eq_true (p := k ≠ 0) k00] at cn
    refine ⟨k, A, μ1, hk, by rw [if_neg k00], ?_, R1, e54, l1⟩
    rw [if_neg k00]
    simp only [f_X11_setBuffer, ir, bdS, k0, ckT, cl_t cn, b1, if_false]
theorem m_setQ {x : Int32} (h : RM b A ρ μ) (n9 : aS A 9 ≤ 16) (n10 : aS A 10 ≤ 8) (h0 : aS A 0 ≤ 500) : ∃ (k : Nat) (A' : Sx) (μ' : Mm), k = kSet A (!decide (x < 2) && decide (x ≤ 8)) ∧ A' = (if k = 0 then zS A 18 x.toNatClampNeg else A) ∧ f_X11_setQueue (b + 30) x μ = some (if k = 0 then nI (aS A 18) else 0, μ') ∧ RM b A' ρ μ' ∧ mI μ' (b + 30) 54 = nI k ∧ ML b 0 μ μ' := by
  have k0 := h.1.1
  have ir := m_inR x 2 8
  have cn := m_cannot (p := !decide (x < 2) && decide (x ≤ 8)) h h0
  obtain ⟨k, hk⟩ : ∃ k, k = kSet A (!decide (x < 2) && decide (x ≤ 8)) := ⟨_, rfl⟩
  rw [← hk] at cn
  obtain ⟨μ1, m1⟩ : ∃ μ1, μ1 = sI μ (b + 30) 54 (nI k) := ⟨_, rfl⟩
  have R1 : RM b A ρ μ1 := by rw [m1]; exact m_54 h n9 n10
  rw [← m1] at cn
  have k1 := R1.1.1
  have i16 : mI μ1 (b + 30) 8 = nI (aS A 18) := R1.2.1.1 18 rfl
  have e54 : mI μ1 (b + 30) 54 = nI k := by rw [m1]; exact mI_at _ _ _ _
  have l1 : ML b 0 μ μ1 := by rw [m1]; exact ML.put
  have b0 : bI false = 0 := rfl
  have b1 : ¬ bI true = 0 := by decide
  by_cases k00 : k = 0
  · rw [decide_eq_false (p := k ≠ 0) (fun y => y k00)] at cn
    have ok : ¬ x < 2 ∧ x ≤ 8 := by
      rw [k00] at hk
      unfold kSet at hk
      cases hb : (!decide (x < 2) && decide (x ≤ 8))
      · rw [hb, if_pos rfl] at hk; cases hk
      · simp only [Bool.and_eq_true, Bool.not_eq_true', decide_eq_false_iff_not, decide_eq_true_eq] at hb
        exact hb
    obtain ⟨n, n1, n4, e⟩ := i32r (lo := 2) (hi := 8) (by omega) (by omega) ok.1 ok.2
    have en : x.toNatClampNeg = n := by rw [e]; exact clN (by omega)
    obtain ⟨R2, -⟩ := m_put (i := 18) (n := n) R1 n9 n10 rfl (by decide)
    have R2' : RM b (zS A 18 n) ρ (sI μ1 (b + 30) 8 x) := by rw [e]; exact R2
    refine ⟨k, zS A 18 n, sI μ1 (b + 30) 8 x, hk, by rw [if_pos k00, en], ?_, R2', by rw [mI_ne _ _ (Or.inr (by decide))]; exact e54, l1.trans ML.put⟩
    rw [if_pos k00]
    simp only [f_X11_setQueue, ir, bdS, k0, ckT, cl_t cn, b0, if_true, k1, zlS, i16]
  · rw [decide_eq_true (p := k ≠ 0) k00] at cn
    refine ⟨k, A, μ1, hk, by rw [if_neg k00], ?_, R1, e54, l1⟩
    rw [if_neg k00]
    simp only [f_X11_setQueue, ir, bdS, k0, ckT, cl_t cn, b1, if_false]
theorem m_interrupt (h : RM b A ρ μ) (n9 : aS A 9 ≤ 16) (n10 : aS A 10 ≤ 8) (h2 : aS A 2 ≤ 1) : ∃ μ', f_X11_interrupt (b + 30) μ = some (nI (aS A 2), μ') ∧ RM b (zS A 2 1) ρ μ' ∧ mI μ' (b + 30) 54 = 0 ∧ ML b 0 μ μ' := by
  have k0 := h.1.1
  obtain ⟨μ1, m1⟩ : ∃ μ1, μ1 = sI μ (b + 30) 54 0 := ⟨_, rfl⟩
  have R1 : RM b A ρ μ1 := by rw [m1]; exact m_54 h n9 n10
  have k1 := R1.1.1
  have i38 : mI μ1 (b + 30) 38 = nI (aS A 2) := R1.2.1.1 2 rfl
  obtain ⟨R2, -⟩ := m_put (i := 2) (n := 1) R1 n9 n10 rfl (by decide)
  have l1 : ML b 0 μ μ1 := by rw [m1]; exact ML.put
  have ez : zb (nI (aS A 2)) = nI (aS A 2) := by
    have : aS A 2 = 0 ∨ aS A 2 = 1 := by omega
    rcases this with y | y <;> rw [y] <;> rfl
  refine ⟨sI μ1 (b + 30) 38 1, ?_, R2, by rw [mI_ne _ _ (Or.inr (by decide)), m1, mI_at], l1.trans ML.put⟩
  simp only [f_X11_interrupt, k0, ckT, zlS, ← m1, i38, ez]
end CAQ
