/-! the class: rows that are asked for -/
section CGR
variable {b z : Nat} {m : Nat → Nat} {A A' : Sx} {ρ : Nat → Nat} {G : Nat → Nat → Nat} {ar : Nat → Nat} {s : Nat} {μ μ' : Mm} {x : Int32}
theorem ix_if {α : Type} {n : Nat} {E T : α} : (if x < 0 then E else if x < nI n then T else E) = if ix x n = true then T else E := by
  unfold ix
  by_cases h1 : x < 0
  · rw [if_pos h1, decide_eq_true h1]
    rfl
  · rw [if_neg h1, decide_eq_false h1]
    by_cases h2 : x < nI n
    · rw [if_pos h2, decide_eq_true h2]
      rfl
    · rw [if_neg h2, decide_eq_false h2]
      rfl
theorem c_counter (h : FR b z A μ) : f_X10_counter b x μ = some (gA (k01 (ix x 16)) (nI (aN A 4 x.toNatClampNeg)) "java/lang/IllegalArgumentException" μ) := by
  have k0 := h.1
  unfold SC at k0
  unfold f_X10_counter
  change (if x < 0 then _ else if x < nI 16 then _ else _) = _
  rw [ix_if]
  cases hx : ix x 16
  · rfl
  · rw [if_pos rfl]
    obtain ⟨i, hi, e1, e2⟩ := ix_e hx (by omega)
    have ib : inb x 16 := by rw [e1]; exact inbN hi (by omega)
    have v : mI μ (b + 22) i = nI (aN A 4 i) := h.2.1.2.1 4 i (by decide) hi
    simp only [k0, ckT, bdS, ckA, ck_t ib, e2, v]
    rfl
theorem c_lineAt (h : FR b z A μ) : f_X10_lineAt b x μ = some (gA (k01 (ix x 4)) (aV A 4 x.toNatClampNeg) "java/lang/IllegalArgumentException" μ) := by
  have k0 := h.1
  unfold SC at k0
  unfold f_X10_lineAt
  change (if x < 0 then _ else if x < nI 4 then _ else _) = _
  rw [ix_if]
  cases hx : ix x 4
  · rfl
  · rw [if_pos rfl]
    obtain ⟨i, hi, e1, e2⟩ := ix_e hx (by omega)
    have ib : inb x 4 := by rw [e1]; exact inbN hi (by omega)
    have v : mI μ (b + 16) i = aV A 4 i := h.2.1.c4 hi
    simp only [k0, ckT, bdS, ckA, ck_t ib, e2, v]
    rfl
theorem c_isMarked (h : FR b z A μ) (h5 : ∀ k, k < 16 → aN A 5 k ≤ 1) : f_X10_isMarked b x μ = some (gA (k01 (ix x 16)) (nI (aN A 5 x.toNatClampNeg)) "java/lang/IllegalArgumentException" μ) := by
  have k0 := h.1
  unfold SC at k0
  unfold f_X10_isMarked
  change (if x < 0 then _ else if x < nI 16 then _ else _) = _
  rw [ix_if]
  cases hx : ix x 16
  · rfl
  · rw [if_pos rfl]
    obtain ⟨i, hi, e1, e2⟩ := ix_e hx (by omega)
    have ib : inb x 16 := by rw [e1]; exact inbN hi (by omega)
    have v : mI μ (b + 28) i = nI (aN A 5 i) := h.2.1.2.1 5 i (by decide) hi
    have zv := zb_id (h5 i hi)
    simp only [k0, ckT, bdS, ckA, ck_t ib, e2, v, zv]
    rfl
theorem c_freeAt (h : FR b z A μ) (h7 : aS A 7 ≤ 24) : f_X10_freeAt b x μ = some (gA (k01 (ix x (aS A 7))) (nI (aN A 3 x.toNatClampNeg)) "java/lang/IndexOutOfBoundsException" μ) := by
  have k0 := h.1
  unfold SC at k0
  have i7 : mI μ (b + 9) 5 = nI (aS A 7) := h.2.1.1 7 rfl
  simp only [f_X10_freeAt, k0, ckT, bdS, i7]
  rw [ix_if]
  cases hx : ix x (aS A 7)
  · rfl
  · rw [if_pos rfl]
    obtain ⟨i, hi, e1, e2⟩ := ix_e hx (by omega)
    have ib : inb x 24 := by rw [e1]; exact inbN (by omega) (by omega)
    have v : mI μ (b + 14) i = nI (aN A 3 i) := h.2.1.2.1 3 i (by decide) (show i < 24 by omega)
    simp only [ckA, ck_t ib, e2, v]
    rfl
theorem c_bufferAt (h : FR b z A μ) (hh : HR b z A (fun _ => 0) G ar s μ) (n9 : aS A 9 ≤ 16) (ho : ∀ k, k < aS A 9 → (aB A k).1 0 < aS A 15) : f_X10_bufferAt b x μ = some (gA (k01 (ix x (aS A 9))) (nI ((aB A x.toNatClampNeg).1 0)) "java/lang/IndexOutOfBoundsException" μ) := by
  have k0 := h.1
  unfold SC at k0
  have sz := c_sizeB h
  simp only [f_X10_bufferAt, k0, ckT, bdS, sz]
  rw [ix_if]
  cases hx : ix x (aS A 9)
  · rfl
  · rw [if_pos rfl]
    obtain ⟨i, hi, e1, e2⟩ := ix_e hx (by omega)
    have gt := c_getB h hh hi (by omega)
    rw [← e1] at gt
    obtain ⟨q1, q2, -⟩ := hh.2.2.2.1 i hi
    obtain ⟨p1, p2, -⟩ := hh.2.2.1 _ (ho i hi)
    rw [e2]
    simp only [gt, q1, q2, ckT, bdS, p1, p2]
    rfl
theorem c_stageAt (h : FR b z A μ) (hh : HR b z A (fun _ => 0) G ar s μ) (n9 : aS A 9 ≤ 16) (hs : ∀ k, k < aS A 9 → (aB A k).1 10 < 200) : f_X10_stageAt b x μ = some (gA (k01 (ix x (aS A 9))) (nI ((aB A x.toNatClampNeg).1 10)) "java/lang/IndexOutOfBoundsException" μ) := by
  have k0 := h.1
  unfold SC at k0
  have sz := c_sizeB h
  simp only [f_X10_stageAt, k0, ckT, bdS, sz]
  rw [ix_if]
  cases hx : ix x (aS A 9)
  · rfl
  · rw [if_pos rfl]
    obtain ⟨i, hi, e1, e2⟩ := ix_e hx (by omega)
    have gt := c_getB h hh hi (by omega)
    rw [← e1] at gt
    obtain ⟨q1, -, -, -, -, -, qf⟩ := hh.2.2.2.1 i hi
    have i5 : mI μ (G 1 i) 5 = nI ((aB A i).1 10) := by
      rcases qf.2.2.2.2.1 with y | y
      · exact y
      · have y1 : 0 = (aB A i).1 11 + 2 := y.1
        omega
    have zv := zcN _ (hs i hi)
    rw [e2]
    simp only [gt, q1, ckT, bdS, i5, zv]
    rfl
theorem c_returnAt (h : FR b z A μ) (hh : HR b z A m G ar s μ) (t4 : (aT A).length ≤ 4) : f_X10_returnAt b x μ = some (gA (k01 (ix x (aT A).length)) (nI ((aT A).getD ((aT A).length - 1 - x.toNatClampNeg) 0)) "java/lang/IndexOutOfBoundsException" μ) := by
  have k0 := h.1
  unfold SC at k0
  have s3 := hh.2.2.2.2.2.2.2.1
  obtain ⟨ks, ls, vs⟩ := hh.2.2.2.2.2.2.2.2
  simp only [f_X10_returnAt, k0, ckT, bdS, s3, ks, ckA, ls]
  rw [ix_if]
  cases hx : ix x (aT A).length
  · rfl
  · rw [if_pos rfl]
    obtain ⟨i, hi, e1, e2⟩ := ix_e hx (by omega)
    obtain ⟨d, hd⟩ : ∃ d, (aT A).length = d + 1 + i := ⟨(aT A).length - 1 - i, by omega⟩
    have sb : nI (aT A).length - 1 - x = nI d := by
      rw [e1, hd, show d + 1 + i = d + i + 1 by omega, nI_pred, ← nI_add]
      exact Int32.add_sub_cancel _ _
    have ib : inb (nI d) (aT A).length := inbN (by omega) (by omega)
    have cd := clN (show d < 100000 by omega)
    have v := vs d (by omega)
    rw [e2, show (aT A).length - 1 - i = d by omega]
    simp only [sb, ck_t ib, cd, v]
    rfl
theorem c_inner (h : FR b z A μ) : f_X10_inner b x μ = some (gA (k01 (rok x)) (nI (aN A 0 x.toNatClampNeg)) "java/lang/IllegalArgumentException" μ) := by
  have k0 := h.1
  unfold SC at k0
  have isa := c_isReg x
  have b0 : bI false = 0 := rfl
  have b1 : ¬ bI true = 0 := by decide
  have nn : ¬ ¬ (0 : Int32) = 0 := fun t => t rfl
  cases hx : rok x
  · rw [hx] at isa
    simp only [f_X10_inner, isa, bdS, b0, nn, if_false]
    rfl
  · rw [hx] at isa
    obtain ⟨e1, hi⟩ := rok_e hx
    obtain ⟨i, e2⟩ : ∃ i, x.toNatClampNeg = i := ⟨_, rfl⟩
    rw [e2] at e1 hi ⊢
    have ib : inb x 8 := by rw [e1]; exact inbN hi (by omega)
    have v : mI μ (b + 10) i = nI (aN A 0 i) := h.2.1.2.1 0 i (by decide) hi
    simp only [f_X10_inner, isa, bdS, b1, not_false_eq_true, if_true, k0, ckT, ckA, ck_t ib, e2, v]
    rfl
theorem c_register (h : FR b z A μ) (h1 : ∀ r, r < 8 → aN A 1 r < 24) : f_X10_register b x μ = some (gA (k01 (rok x)) (aV A 1 (aN A 1 x.toNatClampNeg)) "java/lang/IllegalArgumentException" μ) := by
  have k0 := h.1
  unfold SC at k0
  have isa := c_isReg x
  have b0 : bI false = 0 := rfl
  have b1 : ¬ bI true = 0 := by decide
  have nn : ¬ ¬ (0 : Int32) = 0 := fun t => t rfl
  cases hx : rok x
  · rw [hx] at isa
    simp only [f_X10_register, isa, bdS, b0, nn, if_false]
    rfl
  · rw [hx] at isa
    obtain ⟨e1, hi⟩ := rok_e hx
    obtain ⟨i, e2⟩ : ∃ i, x.toNatClampNeg = i := ⟨_, rfl⟩
    rw [e2] at e1 hi ⊢
    have ib : inb x 8 := by rw [e1]; exact inbN hi (by omega)
    have v : mI μ (b + 11) i = nI (aN A 1 i) := h.2.1.2.1 1 i (by decide) hi
    have vo := c_valueOf h.1 h.2.1 (h1 i hi)
    simp only [f_X10_register, isa, bdS, b1, not_false_eq_true, if_true, k0, ckT, ckA, ck_t ib, e2, v, vo]
    rfl
theorem c_registerByPlain (h : FR b z A μ) : f_X10_registerByPlain b x μ = some (gA (k01 (rok x)) ((plA A (aS A 14)).1 (x.toNatClampNeg)) "java/lang/IllegalArgumentException" μ) := by
  have k0 := h.1
  unfold SC at k0
  have isa := c_isReg x
  have b0 : bI false = 0 := rfl
  have b1 : ¬ bI true = 0 := by decide
  have nn : ¬ ¬ (0 : Int32) = 0 := fun t => t rfl
  cases hx : rok x
  · rw [hx] at isa
    simp only [f_X10_registerByPlain, isa, bdS, b0, nn, if_false]
    rfl
  · rw [hx] at isa
    obtain ⟨e1, hi⟩ := rok_e hx
    obtain ⟨i, e2⟩ : ∃ i, x.toNatClampNeg = i := ⟨_, rfl⟩
    rw [e2] at e1 hi ⊢
    have ib : inb x 8 := by rw [e1]; exact inbN hi (by omega)
    have v : mI μ (b + 7) i = (plA A (aS A 14)).1 i := h.2.2.2.1.1 i hi
    simp only [f_X10_registerByPlain, isa, bdS, b1, not_false_eq_true, if_true, k0, ckT, ckA, ck_t ib, e2, v]
    rfl
theorem c_word (h : FR b z A μ) : f_X10_word b x μ = some (gA (k01 (adok x)) (aV A 2 x.toNatClampNeg) "java/lang/IllegalArgumentException" μ) := by
  have k0 := h.1
  unfold SC at k0
  have isa := c_isAd x
  have b0 : bI false = 0 := rfl
  have b1 : ¬ bI true = 0 := by decide
  have nn : ¬ ¬ (0 : Int32) = 0 := fun t => t rfl
  cases hx : adok x
  · rw [hx] at isa
    simp only [f_X10_word, isa, bdS, b0, nn, if_false]
    rfl
  · rw [hx] at isa
    obtain ⟨e1, hi⟩ := adok_e hx
    obtain ⟨i, e2⟩ : ∃ i, x.toNatClampNeg = i := ⟨_, rfl⟩
    rw [e2] at e1 hi ⊢
    have ib : inb x 64 := by rw [e1]; exact inbN hi (by omega)
    have v : mI μ (b + 27) i = aV A 2 i := h.2.1.c2 hi
    simp only [f_X10_word, isa, bdS, b1, not_false_eq_true, if_true, k0, ckT, ckA, ck_t ib, e2, v]
    rfl
theorem c_wordByPlain (h : FR b z A μ) : f_X10_wordByPlain b x μ = some (gA (k01 (adok x)) ((plA A (aS A 14)).2.1 (x.toNatClampNeg)) "java/lang/IllegalArgumentException" μ) := by
  have k0 := h.1
  unfold SC at k0
  have isa := c_isAd x
  have b0 : bI false = 0 := rfl
  have b1 : ¬ bI true = 0 := by decide
  have nn : ¬ ¬ (0 : Int32) = 0 := fun t => t rfl
  cases hx : adok x
  · rw [hx] at isa
    simp only [f_X10_wordByPlain, isa, bdS, b0, nn, if_false]
    rfl
  · rw [hx] at isa
    obtain ⟨e1, hi⟩ := adok_e hx
    obtain ⟨i, e2⟩ : ∃ i, x.toNatClampNeg = i := ⟨_, rfl⟩
    rw [e2] at e1 hi ⊢
    have ib : inb x 64 := by rw [e1]; exact inbN hi (by omega)
    have v : mI μ (b + 8) i = (plA A (aS A 14)).2.1 i := h.2.2.2.1.2.1 i hi
    simp only [f_X10_wordByPlain, isa, bdS, b1, not_false_eq_true, if_true, k0, ckT, ckA, ck_t ib, e2, v]
    rfl
theorem c_isReady (h : FR b z A μ) (n8 : aS A 8 ≤ 24) (h2 : ∀ k, k < 24 → aN A 2 k ≤ 1) : f_X10_isReady b x μ = some (gA (k01 (ix x (aS A 8))) (bI (decide (aN A 2 x.toNatClampNeg = 1))) "java/lang/IndexOutOfBoundsException" μ) := by
  have k0 := h.1
  unfold SC at k0
  have ie := c_isInner (x := x) h
  have b0 : bI false = 0 := rfl
  have b1 : ¬ bI true = 0 := by decide
  have nn : ¬ ¬ (0 : Int32) = 0 := fun t => t rfl
  cases hx : ix x (aS A 8)
  · rw [hx] at ie
    simp only [f_X10_isReady, k0, ckT, ie, bdS, b0, nn, if_false]
    rfl
  · rw [hx] at ie
    obtain ⟨i, hi, e1, e2⟩ := ix_e hx (by omega)
    have hv := c_hasValue h.1 h.2.1 (show i < 24 by omega) (h2 i (by omega))
    rw [← e1] at hv
    rw [e2]
    simp only [f_X10_isReady, k0, ckT, ie, bdS, b1, not_false_eq_true, if_true, hv, ck_t (bI_zb _)]
    rfl
def rI (c : Int32) : Int32 := if c = 105 then 0 else if c = 116 then 1 else if c = 102 then 2 else if c = 113 then 3 else if c = 120 then 4 else if c = 109 then 5 else if c = 98 then 6 else if c = 100 then 7 else -1
theorem rI_e (c : Int32) : rI c = -1 ∨ ∃ n, n < 8 ∧ rI c = nI n ∧ (rI c).toNatClampNeg = n := by
  unfold rI
  repeat (split; · exact Or.inr (by first | exact ⟨0, by decide, by decide, by decide⟩ | exact ⟨1, by decide, by decide, by decide⟩ | exact ⟨2, by decide, by decide, by decide⟩ | exact ⟨3, by decide, by decide, by decide⟩ | exact ⟨4, by decide, by decide, by decide⟩ | exact ⟨5, by decide, by decide, by decide⟩ | exact ⟨6, by decide, by decide, by decide⟩ | exact ⟨7, by decide, by decide, by decide⟩))
  exact Or.inl rfl
theorem c_lost (h : FR b z A μ) : f_X10_lost b x μ = some (gA (k01 (decide (rI x ≠ -1))) (nI (aN A 7 (rI x).toNatClampNeg)) "java/lang/IllegalArgumentException" μ) := by
  have k0 := h.1
  unfold SC at k0
  have il : f_X10_indexOfReason x μ = some (rI x) := c_idxL h.2.2.1.2.1
  rcases rI_e x with e | ⟨n, hn, e1, e2⟩
  · rw [e] at il
    have nn : ¬ ¬ (-1 : Int32) = -1 := fun t => t rfl
    have dd : decide (rI x ≠ -1) = false := decide_eq_false (fun t => t e)
    rw [dd]
    simp only [f_X10_lost, il, bdS, nn, if_false]
    rfl
  · have n1 : ¬ rI x = -1 := by rw [e1]; exact nI_m1 (by omega)
    have dd : decide (rI x ≠ -1) = true := decide_eq_true n1
    have ib : inb (rI x) 8 := by rw [e1]; exact inbN hn (by omega)
    have v : mI μ (b + 5) n = nI (aN A 7 n) := h.2.1.2.1 7 n (by decide) hn
    rw [dd, e2]
    simp only [f_X10_lost, il, bdS, n1, not_false_eq_true, if_true, k0, ckT, ckA, ck_t ib, e2, v]
    rfl
end CGR
