/-! the model: rows that are asked for -/
section MGR
variable {b : Nat} {A A' : Sx} {ρ : Nat → Nat} {μ μ' : Mm} {x : Int32}
theorem m_ixN {n : Nat} {l : Int32} (e : l = nI n - 1) (hn : n < 100000) : f_X11_in x 0 l = some (bI (ix x n)) := by rw [e]; exact m_ix hn
theorem m_counter (h : RM b A ρ μ) : f_X11_counter (b + 30) x μ = some (if k01 (ix x 16) = 0 then (nI (aN A 4 x.toNatClampNeg)) else 0, sI μ (b + 30) 54 (nI (k01 (ix x 16)))) := by
  have k0 := h.1
  unfold SM at k0
  have b0 : bI false = 0 := rfl
  have b1 : ¬ bI true = 0 := by decide
  have c10 : ¬ (1 : Int32) ≤ 0 := by decide
  have c00 : (0 : Int32) ≤ 0 := by decide
  have ir := m_ixN (x := x) (n := 16) (l := 15) (by decide) (by omega)
  cases hx : ix x 16
  · rw [hx] at ir
    simp only [f_X11_counter, f_X11_counter_b16, ir, bdS, b0, if_true, k0, ckT, zlS, mK_sI, mI_at, c10, if_false]
    rfl
  · rw [hx] at ir
    obtain ⟨i, hi, e1, e2⟩ := ix_e hx (by omega)
    have ib : inb x 16 := by rw [e1]; exact inbN (by omega) (by omega)
    have v : ∀ {v : Int32}, mI (sI μ (b + 30) 54 v) (b + 72) i = nI (aN A 4 i) := fun {v} => by rw [mI_row _ _ (by omega)]; exact h.2.1.2.1 4 i (by decide) hi
    rw [e2]
    simp only [f_X11_counter, f_X11_counter_b16, ir, bdS, b1, if_false, k0, ckT, zlS, mK_sI, mL_sI, mR_sI', mI_at, c00, if_true, ckA, ck_t ib, e2, v]
    rfl
theorem m_lineAt (h : RM b A ρ μ) : f_X11_lineAt (b + 30) x μ = some (if k01 (ix x 4) = 0 then (aV A 4 x.toNatClampNeg) else 0, sI μ (b + 30) 54 (nI (k01 (ix x 4)))) := by
  have k0 := h.1
  unfold SM at k0
  have b0 : bI false = 0 := rfl
  have b1 : ¬ bI true = 0 := by decide
  have c10 : ¬ (1 : Int32) ≤ 0 := by decide
  have c00 : (0 : Int32) ≤ 0 := by decide
  have ir := m_ixN (x := x) (n := 4) (l := 3) (by decide) (by omega)
  cases hx : ix x 4
  · rw [hx] at ir
    simp only [f_X11_lineAt, f_X11_lineAt_b15, ir, bdS, b0, if_true, k0, ckT, zlS, mK_sI, mI_at, c10, if_false]
    rfl
  · rw [hx] at ir
    obtain ⟨i, hi, e1, e2⟩ := ix_e hx (by omega)
    have ib : inb x 4 := by rw [e1]; exact inbN (by omega) (by omega)
    have v : ∀ {v : Int32}, mI (sI μ (b + 30) 54 v) (b + 75) i = aV A 4 i := fun {v} => by rw [mI_row _ _ (by omega)]; exact by have := h.2.1.2.2 4 i (by decide) hi; rw [show (mT.2.2 4).2 + i = i from Nat.zero_add _] at this; exact this
    rw [e2]
    simp only [f_X11_lineAt, f_X11_lineAt_b15, ir, bdS, b1, if_false, k0, ckT, zlS, mK_sI, mL_sI, mR_sI', mI_at, c00, if_true, ckA, ck_t ib, e2, v]
    rfl
theorem m_inner (h : RM b A ρ μ) : f_X11_inner (b + 30) x μ = some (if k01 (rok x) = 0 then (nI (aN A 0 x.toNatClampNeg)) else 0, sI μ (b + 30) 54 (nI (k01 (rok x)))) := by
  have k0 := h.1
  unfold SM at k0
  have b0 : bI false = 0 := rfl
  have b1 : ¬ bI true = 0 := by decide
  have c10 : ¬ (1 : Int32) ≤ 0 := by decide
  have c00 : (0 : Int32) ≤ 0 := by decide
  have ir := m_in7 x
  cases hx : rok x
  · rw [hx] at ir
    simp only [f_X11_inner, f_X11_inner_b16, ir, bdS, b0, if_true, k0, ckT, zlS, mK_sI, mI_at, c10, if_false]
    rfl
  · rw [hx] at ir
    obtain ⟨e1, hi⟩ := rok_e hx
    obtain ⟨i, e2⟩ : ∃ i, x.toNatClampNeg = i := ⟨_, rfl⟩
    rw [e2] at e1 hi
    have ib : inb x 8 := by rw [e1]; exact inbN (by omega) (by omega)
    have v : ∀ {v : Int32}, mI (sI μ (b + 30) 54 v) (b + 40) i = nI (aN A 0 i) := fun {v} => by rw [mI_row _ _ (by omega)]; exact h.2.1.2.1 0 i (by decide) hi
    rw [e2]
    simp only [f_X11_inner, f_X11_inner_b16, ir, bdS, b1, if_false, k0, ckT, zlS, mK_sI, mL_sI, mR_sI', mI_at, c00, if_true, ckA, ck_t ib, e2, v]
    rfl
theorem m_word (h : RM b A ρ μ) : f_X11_word (b + 30) x μ = some (if k01 (adok x) = 0 then (aV A 2 x.toNatClampNeg) else 0, sI μ (b + 30) 54 (nI (k01 (adok x)))) := by
  have k0 := h.1
  unfold SM at k0
  have b0 : bI false = 0 := rfl
  have b1 : ¬ bI true = 0 := by decide
  have c10 : ¬ (1 : Int32) ≤ 0 := by decide
  have c00 : (0 : Int32) ≤ 0 := by decide
  have ir := m_isAd x
  cases hx : adok x
  · rw [hx] at ir
    simp only [f_X11_word, f_X11_word_b13, ir, bdS, b0, if_true, k0, ckT, zlS, mK_sI, mI_at, c10, if_false]
    rfl
  · rw [hx] at ir
    obtain ⟨e1, hi⟩ := adok_e hx
    obtain ⟨i, e2⟩ : ∃ i, x.toNatClampNeg = i := ⟨_, rfl⟩
    rw [e2] at e1 hi
    have ib : inb x 64 := by rw [e1]; exact inbN (by omega) (by omega)
    have v : ∀ {v : Int32}, mI (sI μ (b + 30) 54 v) (b + 39) i = aV A 2 i := fun {v} => by rw [mI_row _ _ (by omega)]; exact by have := h.2.1.2.2 2 i (by decide) hi; rw [show (mT.2.2 2).2 + i = i from Nat.zero_add _] at this; exact this
    rw [e2]
    simp only [f_X11_word, f_X11_word_b13, ir, bdS, b1, if_false, k0, ckT, zlS, mK_sI, mL_sI, mR_sI', mI_at, c00, if_true, ckA, ck_t ib, e2, v]
    rfl
theorem m_innerAnew (h : RM b A ρ μ) : f_X11_innerAnew (b + 30) x μ = some (if k01 (rok x) = 0 then nI (aN A 0 x.toNatClampNeg) else 0, sI μ (b + 30) 54 (nI (k01 (rok x)))) := by
  have k0 := h.1.1
  simp only [f_X11_innerAnew, k0, ckT, cl_t (m_inner h)]
theorem m_register (h : RM b A ρ μ) (h1 : ∀ r, r < 8 → aN A 1 r < 24) : f_X11_register (b + 30) x μ = some (if k01 (rok x) = 0 then aV A 1 (aN A 1 x.toNatClampNeg) else 0, sI μ (b + 30) 54 (nI (k01 (rok x)))) := by
  have k0 := h.1
  unfold SM at k0
  have b0 : bI false = 0 := rfl
  have b1 : ¬ bI true = 0 := by decide
  have c10 : ¬ (1 : Int32) ≤ 0 := by decide
  have c00 : (0 : Int32) ≤ 0 := by decide
  have ir := m_in7 x
  cases hx : rok x
  · rw [hx] at ir
    simp only [f_X11_register, f_X11_register_b16, ir, bdS, b0, if_true, k0, ckT, zlS, mK_sI, mI_at, c10, if_false]
    rfl
  · rw [hx] at ir
    obtain ⟨e1, hi⟩ := rok_e hx
    obtain ⟨i, e2⟩ : ∃ i, x.toNatClampNeg = i := ⟨_, rfl⟩
    rw [e2] at e1 hi ⊢
    have ib : inb x 8 := by rw [e1]; exact inbN hi (by omega)
    have v : ∀ {v : Int32}, mI (sI μ (b + 30) 54 v) (b + 41) i = nI (aN A 1 i) := fun {v} => by rw [mI_row _ _ (by omega)]; exact h.2.1.2.1 1 i (by decide) hi
    have l24 := h1 i hi
    have ib2 : inb (nI (aN A 1 i)) 24 := inbN l24 (by omega)
    have c2 := clN (show aN A 1 i < 100000 by omega)
    have v2 : ∀ {v : Int32}, mI (sI μ (b + 30) 54 v) (b + 42) (aN A 1 i) = aV A 1 (aN A 1 i) := fun {v} => by
      rw [mI_row _ _ (by omega)]
      have := h.2.1.2.2 1 (aN A 1 i) (by decide) l24
      rw [show (mT.2.2 1).2 + aN A 1 i = aN A 1 i from Nat.zero_add _] at this
      exact this
    simp only [f_X11_register, f_X11_register_b16, ir, bdS, b1, if_false, k0, ckT, zlS, mK_sI, mL_sI, mR_sI', mI_at, c00, if_true, ckA, ck_t ib, e2, v, ck_t ib2, c2, v2]
    rfl
theorem m_isMarked (h : RM b A ρ μ) (h5 : ∀ k, k < 16 → aN A 5 k ≤ 1) : f_X11_isMarked (b + 30) x μ = some (if k01 (ix x 16) = 0 then nI (aN A 5 x.toNatClampNeg) else 0, sI μ (b + 30) 54 (nI (k01 (ix x 16)))) := by
  have k0 := h.1
  unfold SM at k0
  have b0 : bI false = 0 := rfl
  have b1 : ¬ bI true = 0 := by decide
  have c10 : ¬ (1 : Int32) = 0 := by decide
  have c00 : ¬ ¬ (0 : Int32) = 0 := fun t => t rfl
  have ir := m_ixN (x := x) (n := 16) (l := 15) (by decide) (by omega)
  cases hx : ix x 16
  · rw [hx] at ir
    simp only [f_X11_isMarked, f_X11_isMarked_b16, ir, bdS, b0, if_true, k0, ckT, zlS, mK_sI, mI_at, c10, not_false_eq_true]
    rfl
  · rw [hx] at ir
    obtain ⟨i, hi, e1, e2⟩ := ix_e hx (by omega)
    have ib : inb x 16 := by rw [e1]; exact inbN hi (by omega)
    have v : ∀ {v : Int32}, mI (sI μ (b + 30) 54 v) (b + 74) i = nI (aN A 5 i) := fun {v} => by rw [mI_row _ _ (by omega)]; exact h.2.1.2.1 5 i (by decide) hi
    have zv := zb1 (h5 i hi)
    rw [e2]
    by_cases a1 : aN A 5 i = 0
    · have z0 : zb (nI (aN A 5 i)) = 0 := by rw [zv]; exact a1
      simp only [f_X11_isMarked, f_X11_isMarked_b16, ir, bdS, b1, if_false, k0, ckT, zlS, mK_sI, mL_sI, mR_sI', mI_at, c00, ckA, ck_t ib, e2, v, z0, if_true]
      rw [a1]
      rfl
    · have z0 : ¬ zb (nI (aN A 5 i)) = 0 := by rw [zv]; exact a1
      have a1' : aN A 5 i = 1 := by have := h5 i hi; omega
      simp only [f_X11_isMarked, f_X11_isMarked_b16, ir, bdS, b1, if_false, k0, ckT, zlS, mK_sI, mL_sI, mR_sI', mI_at, c00, ckA, ck_t ib, e2, v, z0]
      rw [a1']
      rfl
theorem m_freeAt (h : RM b A ρ μ) (h7 : aS A 7 ≤ 24) : f_X11_freeAt (b + 30) x μ = some (if k01 (ix x (aS A 7)) = 0 then nI (aN A 3 x.toNatClampNeg) else 0, sI μ (b + 30) 54 (nI (k01 (ix x (aS A 7))))) := by
  have k0 := h.1
  unfold SM at k0
  have b0 : bI false = 0 := rfl
  have b1 : ¬ bI true = 0 := by decide
  have c10 : ¬ (1 : Int32) ≤ 0 := by decide
  have c00 : (0 : Int32) ≤ 0 := by decide
  have i7 : mI μ (b + 30) 21 = nI (aS A 7) := h.2.1.1 7 rfl
  have ir := m_ix (x := x) (n := aS A 7) (by omega)
  cases hx : ix x (aS A 7)
  · rw [hx] at ir
    simp only [f_X11_freeAt, f_X11_freeAt_b20, i7, ir, bdS, b0, if_true, k0, ckT, zlS, mK_sI, mI_at, c10, if_false]
    rfl
  · rw [hx] at ir
    obtain ⟨i, hi, e1, e2⟩ := ix_e hx (by omega)
    have ib : inb x 24 := by rw [e1]; exact inbN (by omega) (by omega)
    have v : ∀ {v : Int32}, mI (sI μ (b + 30) 54 v) (b + 44) i = nI (aN A 3 i) := fun {v} => by rw [mI_row _ _ (by omega)]; exact h.2.1.2.1 3 i (by decide) (show i < 24 by omega)
    rw [e2]
    simp only [f_X11_freeAt, f_X11_freeAt_b20, i7, ir, bdS, b1, if_false, k0, ckT, zlS, mK_sI, mL_sI, mR_sI', mI_at, c00, if_true, ckA, ck_t ib, e2, v]
    rfl
theorem m_bufG (h : RM b A ρ μ) (n9 : aS A 9 ≤ 16) (hs : ∀ k, k < aS A 9 → (aB A k).1 10 < 200) : f_X11_bufferAt (b + 30) x μ = some (if k01 (ix x (aS A 9)) = 0 then nI ((aB A x.toNatClampNeg).1 0) else 0, sI μ (b + 30) 54 (nI (k01 (ix x (aS A 9))))) ∧ f_X11_stageAt (b + 30) x μ = some (if k01 (ix x (aS A 9)) = 0 then nI ((aB A x.toNatClampNeg).1 10) else 32, sI μ (b + 30) 54 (nI (k01 (ix x (aS A 9))))) := by
  have k0 := h.1
  unfold SM at k0
  have b0 : bI false = 0 := rfl
  have b1 : ¬ bI true = 0 := by decide
  have c10 : ¬ (1 : Int32) ≤ 0 := by decide
  have c00 : (0 : Int32) ≤ 0 := by decide
  have i9 : mI μ (b + 30) 23 = nI (aS A 9) := h.2.1.1 9 rfl
  have ir := m_ix (x := x) (n := aS A 9) (by omega)
  cases hx : ix x (aS A 9)
  · rw [hx] at ir
    refine ⟨?_, ?_⟩
    · simp only [f_X11_bufferAt, f_X11_bufferAt_b20, i9, ir, bdS, b0, if_true, k0, ckT, zlS, mK_sI, mI_at, c10, if_false]
      rfl
    · simp only [f_X11_stageAt, f_X11_stageAt_b20, i9, ir, bdS, b0, if_true, k0, ckT, zlS, mK_sI, mI_at, c10, if_false]
      rfl
  · rw [hx] at ir
    obtain ⟨i, hi, e1, e2⟩ := ix_e hx (by omega)
    have ib : inb x 16 := by rw [e1]; exact inbN (by omega) (by omega)
    obtain ⟨r1, r2, r3⟩ := h.2.2.1.1 i (by omega)
    obtain ⟨kr, lr⟩ := h.1.row ⟨r2, r3⟩
    have ne : b + ρ i ≠ b + 30 := by omega
    have v0 : ∀ {v : Int32}, mI (sI μ (b + 30) 54 v) (b + ρ i) 0 = nI ((aB A i).1 0) := fun {v} => by rw [mI_row _ _ ne]; exact (h.2.2.2.1 i hi).1
    have v11 : ∀ {v : Int32}, mI (sI μ (b + 30) 54 v) (b + ρ i) 11 = nI ((aB A i).1 10) := fun {v} => by rw [mI_row _ _ ne]; exact (h.2.2.2.1 i hi).2.2.2.2.2.2.2.1
    have zv := zcN _ (hs i hi)
    rw [e2]
    refine ⟨?_, ?_⟩
    · simp only [f_X11_bufferAt, f_X11_bufferAt_b20, i9, ir, bdS, b1, if_false, k0, ckT, zlS, mK_sI, mL_sI, mR_sI', mI_at, c00, if_true, ckA, ck_t ib, e2, r1, kr, lr, ckI, tcL, v0]
      rfl
    · simp only [f_X11_stageAt, f_X11_stageAt_b20, i9, ir, bdS, b1, if_false, k0, ckT, zlS, mK_sI, mL_sI, mR_sI', mI_at, c00, if_true, ckA, ck_t ib, e2, r1, kr, lr, ckI, tcL, v11, zv]
      rfl
theorem m_isReady (h : RM b A ρ μ) (n8 : aS A 8 ≤ 24) (h2 : ∀ k, k < 24 → aN A 2 k ≤ 1) : f_X11_isReady (b + 30) x μ = some (if k01 (ix x (aS A 8)) = 0 then bI (decide (aN A 2 x.toNatClampNeg = 1)) else 0, sI μ (b + 30) 54 (nI (k01 (ix x (aS A 8))))) := by
  have k0 := h.1
  unfold SM at k0
  have ne := m_noInner (x := x) h (by omega)
  have b0 : bI false = 0 := rfl
  have b1 : ¬ bI true = 0 := by decide
  have nn : ¬ ¬ (0 : Int32) = 0 := fun t => t rfl
  cases hx : ix x (aS A 8)
  · rw [hx] at ne
    have ne' : f_X11_noInner (b + 30) x μ = some (bI true, sI μ (b + 30) 54 (nI (k01 false))) := ne
    simp only [f_X11_isReady, k0, ckT, cl_t ne', b1, not_false_eq_true, if_true]
    rfl
  · rw [hx] at ne
    have ne' : f_X11_noInner (b + 30) x μ = some (bI false, sI μ (b + 30) 54 (nI (k01 true))) := ne
    obtain ⟨i, hi, e1, e2⟩ := ix_e hx (by omega)
    have ib : inb x 24 := by rw [e1]; exact inbN (by omega) (by omega)
    have v : ∀ {v : Int32}, mI (sI μ (b + 30) 54 v) (b + 43) i = nI (aN A 2 i) := fun {v} => by rw [mI_row _ _ (by omega)]; exact h.2.1.2.1 2 i (by decide) (show i < 24 by omega)
    have zv := zb1 (h2 i (by omega))
    rw [e2]
    by_cases a1 : aN A 2 i = 0
    · have z0 : zb (nI (aN A 2 i)) = 0 := by rw [zv]; exact a1
      have d0 : decide (aN A 2 i = 1) = false := decide_eq_false (by omega)
      rw [d0]
      simp only [f_X11_isReady, cl_t ne', b0, nn, if_false, k0, ckT, mR_sI', mK_sI, mL_sI, bdS, ckA, ck_t ib, e2, v, z0, if_true]
      rfl
    · have z0 : ¬ zb (nI (aN A 2 i)) = 0 := by rw [zv]; exact a1
      have d0 : decide (aN A 2 i = 1) = true := decide_eq_true (by have := h2 i (by omega); omega)
      rw [d0]
      simp only [f_X11_isReady, cl_t ne', b0, nn, if_false, k0, ckT, mR_sI', mK_sI, mL_sI, bdS, ckA, ck_t ib, e2, v, z0]
      rfl
theorem m_returnAt (h : RM b A ρ μ) (t4 : (aT A).length ≤ 4) : f_X11_returnAt (b + 30) x μ = some (if k01 (ix x (aT A).length) = 0 then nI ((aT A).getD ((aT A).length - 1 - x.toNatClampNeg) 0) else 0, sI μ (b + 30) 54 (nI (k01 (ix x (aT A).length)))) := by
  have k0 := h.1
  unfold SM at k0
  obtain ⟨t0, ts⟩ := h.2.2.2.2.2.2.2.2.1
  have b0 : bI false = 0 := rfl
  have b1 : ¬ bI true = 0 := by decide
  have c10 : ¬ (1 : Int32) ≤ 0 := by decide
  have c00 : (0 : Int32) ≤ 0 := by decide
  have v0 : ∀ {v : Int32}, mI (sI μ (b + 30) 54 v) (b + 71) 0 = nI (aT A).length := fun {v} => by rw [mI_row _ _ (by omega)]; exact t0
  have ir := m_ix (x := x) (n := (aT A).length) (by omega)
  cases hx : ix x (aT A).length
  · rw [hx] at ir
    simp only [f_X11_returnAt, f_X11_returnAt_b22, k0, ckT, bdS, ckA, ckI, tcL, t0, ir, b0, if_true, zlS, mK_sI, mI_at, c10, if_false]
    rfl
  · rw [hx] at ir
    obtain ⟨i, hi, e1, e2⟩ := ix_e hx (by omega)
    obtain ⟨d, hd⟩ : ∃ d, (aT A).length = d + 1 + i := ⟨(aT A).length - 1 - i, by omega⟩
    have sb : nI (aT A).length - x = nI (d + 1) := by
      rw [e1, hd, ← nI_add]
      exact Int32.add_sub_cancel _ _
    have ib : inb (nI (d + 1)) 5 := inbN (by omega) (by omega)
    have cd := clN (show d + 1 < 100000 by omega)
    have v : ∀ {v : Int32}, mI (sI μ (b + 30) 54 v) (b + 71) (d + 1) = nI ((aT A).getD d 0) := fun {v} => by
      rw [mI_row _ _ (by omega)]
      have := ts d (by omega)
      rw [show 0 + 1 + d = d + 1 by omega] at this
      exact this
    rw [e2, show (aT A).length - 1 - i = d by omega]
    simp only [f_X11_returnAt, f_X11_returnAt_b22, k0, ckT, bdS, ckA, ckI, tcL, t0, ir, b1, if_false, zlS, mK_sI, mL_sI, mR_sI', mI_at, c00, if_true, v0, sb, ck_t ib, cd, v]
    rfl
theorem m_reason (x : Int32) : f_X11_reason x = some (rI x) := by
  by_cases hr : Int32.toInt x < 98 ∨ 120 < Int32.toInt x
  · have e : rI x = -1 := by
      unfold rI
      repeat (rw [if_neg (fun e => by rw [e] at hr; revert hr; decide)])
    unfold f_X11_reason
    rw [if_pos hr, e]
  · have key : ∀ n, n < 121 → 98 ≤ n → f_X11_reason (nI n) = some (rI (nI n)) := by decide +kernel
    have h0 : ¬ x < 0 := fun q => by
      rw [Int32.lt_iff_toInt_lt, show (0 : Int32).toInt = 0 by decide] at q
      omega
    obtain ⟨j, hj, e⟩ := nI_of h0
    rw [e] at hr ⊢
    rw [nI_toInt hj] at hr
    exact key j (by omega) (by omega)
theorem m_lost (h : RM b A ρ μ) : f_X11_lost (b + 30) x μ = some (if k01 (decide (rI x ≠ -1)) = 0 then nI (aN A 7 (rI x).toNatClampNeg) else 0, sI μ (b + 30) 54 (nI (k01 (decide (rI x ≠ -1))))) := by
  have k0 := h.1
  unfold SM at k0
  have ir := m_reason x
  have c10 : ¬ (1 : Int32) ≤ 0 := by decide
  have c00 : (0 : Int32) ≤ 0 := by decide
  rcases rI_e x with e | ⟨n, hn, e1, e2⟩
  · rw [e] at ir
    have nn : ¬ ¬ (-1 : Int32) = -1 := fun t => t rfl
    have dd : decide (rI x ≠ -1) = false := decide_eq_false (fun t => t e)
    rw [dd]
    simp only [f_X11_lost, f_X11_lost_b14, ir, bdS, nn, if_false, k0, ckT, zlS, mK_sI, mI_at, c10]
    rfl
  · have n1 : ¬ rI x = -1 := by rw [e1]; exact nI_m1 (by omega)
    have dd : decide (rI x ≠ -1) = true := decide_eq_true n1
    have ib : inb (rI x) 8 := by rw [e1]; exact inbN hn (by omega)
    have v : ∀ {v : Int32}, mI (sI μ (b + 30) 54 v) (b + 81) n = nI (aN A 7 n) := fun {v} => by rw [mI_row _ _ (by omega)]; exact h.2.1.2.1 7 n (by decide) hn
    rw [dd, e2]
    simp only [f_X11_lost, f_X11_lost_b14, ir, bdS, n1, not_false_eq_true, if_true, k0, ckT, zlS, mK_sI, mL_sI, mR_sI', mI_at, c00, ckA, ck_t ib, e2, v]
    rfl
theorem m_ends (h : RM b A ρ μ) : f_X11_ends_ (b + 30) μ = some (nI (aS A 14), sI μ (b + 30) 54 0) := by
  have k0 := h.1.1
  have i : mI (sI μ (b + 30) 54 0) (b + 30) 46 = nI (aS A 14) := by rw [mI_ne _ _ (Or.inr (by decide))]; exact h.2.1.1 14 rfl
  simp only [f_X11_ends_, k0, ckT, zlS, i]
theorem m_returns (h : RM b A ρ μ) : f_X11_returns (b + 30) μ = some (nI (aT A).length, sI μ (b + 30) 54 0) := by
  have k0 := h.1
  unfold SM at k0
  have v0 : ∀ {v : Int32}, mI (sI μ (b + 30) 54 v) (b + 71) 0 = nI (aT A).length := fun {v} => by rw [mI_row _ _ (by omega)]; exact h.2.2.2.2.2.2.2.2.1.1
  simp only [f_X11_returns, k0, ckT, zlS, mK_sI, mL_sI, mR_sI', bdS, ckA, ckI, tcL, v0]
theorem m_fetching (h : RM b A ρ μ) (h12 : aS A 12 ≤ 1) : f_X11_fetching (b + 30) μ = some (if aS A 12 = 0 then nI (aS A 11) else 0, sI μ (b + 30) 54 (nI (if aS A 12 = 0 then 0 else 1))) := by
  have k0 := h.1.1
  have i5 : mI μ (b + 30) 27 = nI (aS A 12) := h.2.1.1 12 rfl
  have z5 := zb1 h12
  have c10 : ¬ (1 : Int32) ≤ 0 := by decide
  have c00 : (0 : Int32) ≤ 0 := by decide
  by_cases e : aS A 12 = 0
  · have w : zb (nI (aS A 12)) = 0 := by rw [z5]; exact e
    have i4 : ∀ {v : Int32}, mI (sI μ (b + 30) 54 v) (b + 30) 26 = nI (aS A 11) := fun {v} => by rw [mI_ne _ _ (Or.inr (by decide))]; exact h.2.2.2.2.2.2.2.2.2.1 e
    rw [if_pos e, if_pos e]
    simp only [f_X11_fetching, f_X11_fetching_b13, k0, ckT, i5, w, if_true, zlS, mK_sI, mI_at, c00, i4]
    rfl
  · have w : ¬ zb (nI (aS A 12)) = 0 := by rw [z5]; exact e
    rw [if_neg e, if_neg e]
    simp only [f_X11_fetching, f_X11_fetching_b13, k0, ckT, i5, w, if_false, zlS, mK_sI, mI_at, c10]
    rfl
theorem m_true (h : RM b A ρ μ) : f_X11_isSame (b + 30) μ = some (1, sI μ (b + 30) 54 0) ∧ f_X11_isWhole (b + 30) μ = some (1, sI μ (b + 30) 54 0) := by
  have k0 := h.1.1
  refine ⟨?_, ?_⟩
  · simp only [f_X11_isSame, k0, ckT, zlS]
  · simp only [f_X11_isWhole, k0, ckT, zlS]
theorem m_thrown {v : Int32} (h : mK μ (b + 30) = 112) (e : mI μ (b + 30) 54 = v) : f_X11_thrown (b + 30) μ = some v := by
  simp only [f_X11_thrown, h, ckT, e]
end MGR
