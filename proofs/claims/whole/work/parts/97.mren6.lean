/-! the model: renaming, a row is filled -/
section MR6
variable {b : Nat} {A B : Sx} {ρ : Nat → Nat} {μ μ' : Mm} {S : Nat → Nat → Bool}
theorem RT.row3 {f : Nat → Nat} (h : RT mT b B μ) (g : CH b (sRow 44) μ μ') (hv : ∀ k, k < 24 → mI μ' (b + 44) k = nI (f k)) : RT mT b (zNr B 3 f) μ' := by
  refine ⟨fun i hi => ?_, fun r k hr hk => ?_, fun r k hr hk => ?_⟩
  · have b1 : ∀ i, i < 25 → scI i = true → (mT.1 i).1 ≠ 44 := by decide +kernel
    rw [g.row2 (b1 i (scI_lt hi) hi)]
    exact h.1 i hi
  · by_cases e : r = 3
    · subst e
      show mI μ' (b + 44) k = nI (up1 (aN B) 3 f 3 k)
      rw [up1_eq]
      exact hv k hk
    · have b2 : ∀ i, i < 8 → i ≠ 3 → mT.2.1 i ≠ 44 := by decide +kernel
      rw [g.row2 (b2 r hr e)]
      show _ = nI (up1 (aN B) 3 f r k)
      rw [up1_ne _ _ e]
      exact h.2.1 r k hr hk
  · have b3 : ∀ i, i < 5 → (mT.2.2 i).1 ≠ 44 := by decide +kernel
    rw [g.row2 (b3 r hr)]
    exact h.2.2 r k hr hk
theorem RT.rowR {r : Nat} (h : RT mT b B μ) (g : CH b (sRow r) μ μ') (hr : 46 ≤ r ∧ r < 71) : RT mT b B μ' := h.ch g (fun o k z => by
  have := sRow_e z
  omega)
theorem RLm.to28 {x : Ent} {f f' : Nat → Int32} (h : RLm A x f) (hf : ∀ k, k < 28 → f' k = f k) (ht : x.2.2.length ≤ 4) : RLm A x f' := by
  obtain ⟨h0, h1, h5, h17, h23, h18⟩ := h
  refine ⟨(hf 0 (by omega)).trans h0, (hf 1 (by omega)).trans h1, (hf 5 (by omega)).trans h5, (hf 17 (by omega)).trans h17, ⟨(hf 23 (by omega)).trans h23.1, fun i hi => (hf _ (by omega)).trans (h23.2 i hi)⟩, fun a c => ⟨(hf 18 (by omega)).trans (h18 a c).1, fun i hi => (hf _ (by omega)).trans ((h18 a c).2 i hi)⟩⟩
/-- the first numbers of a renamed row -/
def rnF (F : Nat → Int32) (cyc va vb g t : Int32) : Nat → Int32 := up1 (up1 (up1 (up1 (up1 (up1 (up1 F 2 cyc) 7 va) 8 vb) 16 (-1)) 14 (-1)) 6 g) 13 t
theorem m_rnA {r p : Nat} {x1 : Int32} {k2 : Nat → Int32 → Mm → Option (Unit × Mm)} (S : SM b μ) (hT : RT mT b B μ) (P : PM b A μ) (c : CF A) (hr : 46 ≤ r ∧ r < 62) (h0 : mI μ (b + r) 0 = nI p) (hp : p < aS A 15) : ∃ μ', f_X11_renames_b144 k2 (b + 30) x1 (b + r) μ = (bd (f_X11_hasD (nI (aN A 10 p))) fun y105 => if y105 = 0 then f_X11_renames_b393 k2 (b + 30) x1 (b + r) (nI (aN A 10 p)) μ' else ck (mK μ' (b + 30) = 112) <| bd (mR μ' (b + 30) 20) fun p109 => ck (isA 1 (mK μ' p109)) <| ck (inb 0 (mL μ' p109)) <| ck (isA 1 (mK μ' (b + r))) <| ck (inb 9 (mL μ' (b + r))) <| zl (sI μ' (b + r) (Int32.toNatClampNeg 9) (mI μ' p109 (Int32.toNatClampNeg 0))) fun μ115 => zl (sI μ115 (b + 30) 21 ((mI μ115 (b + 30) 21) - 1)) fun μ118 => f_X11_renames_b280 k2 5000 (b + 30) x1 (b + r) (nI p) (nI (aN A 10 p)) 0 μ118) ∧ CH b (sRow r) μ μ' ∧ mI μ' (b + r) = rnF (mI μ (b + r)) (nI (aS B 0)) (nI (aN B 0 (aN A 12 p))) (nI (aN B 0 (aN A 13 p))) (if aN A 10 p = 14 ∨ aN A 10 p = 15 then aV A 5 p else nI (p + 1)) (if aN A 10 p = 20 then 4 else 0) := by
  have s := S
  unfold SM at s
  have s2 := S.row hr
  obtain ⟨p10, p11, p12, p13, p5⟩ := P p hp
  have cp := c.p hp
  obtain ⟨cd, hcd⟩ : ∃ cd, cd = aN A 10 p := ⟨_, rfl⟩
  rw [← hcd] at p10 cp ⊢
  have h36 : mI μ (b + 30) 36 = nI (aS B 0) := hT.1 0 rfl
  have hma : mI μ (b + 40) (aN A 12 p) = nI (aN B 0 (aN A 12 p)) := hT.2.1 0 _ (by omega) cp.2.2.2.1
  have hmb : mI μ (b + 40) (aN A 13 p) = nI (aN B 0 (aN A 13 p)) := hT.2.1 0 _ (by omega) cp.2.2.2.2.1
  have ip := inbN (p := p) (n := 64) cp.1 (by omega)
  have cl := clN (show p < 100000 by omega)
  have ia := inbN (p := aN A 12 p) (n := 8) cp.2.2.2.1 (by omega)
  have ca := clN (show aN A 12 p < 100000 by omega)
  have ib := inbN (p := aN A 13 p) (n := 8) cp.2.2.2.2.1 (by omega)
  have cb := clN (show aN A 13 p < 100000 by omega)
  have n30 : b + 30 ≠ b + r := by omega
  have n33 : b + 33 ≠ b + r := by omega
  have n34 : b + 34 ≠ b + r := by omega
  have n35 : b + 35 ≠ b + r := by omega
  have n40 : b + 40 ≠ b + r := by omega
  have key : ∀ (g t : Int32), ∃ μ', μ' = sI (sI (sI (sI (sI (sI (sI μ (b + r) 2 (nI (aS B 0))) (b + r) 7 (nI (aN B 0 (aN A 12 p)))) (b + r) 8 (nI (aN B 0 (aN A 13 p)))) (b + r) 16 (-1)) (b + r) 14 (-1)) (b + r) 6 g) (b + r) 13 t ∧ CH b (sRow r) μ μ' ∧ mI μ' (b + r) = rnF (mI μ (b + r)) (nI (aS B 0)) (nI (aN B 0 (aN A 12 p))) (nI (aN B 0 (aN A 13 p))) g t := fun g t => by
    refine ⟨_, rfl, ?_, ?_⟩
    · exact (((((CH.putR.trans CH.putR).trans CH.putR).trans CH.putR).trans CH.putR).trans CH.putR).trans CH.putR
    · unfold rnF
      simp only [mI_up]
  obtain ⟨μ', e, g1, g2⟩ := key (if cd = 14 ∨ cd = 15 then aV A 5 p else nI (p + 1)) (if cd = 20 then 4 else 0)
  refine ⟨μ', ?_, g1, g2⟩
  have s' := S.ch g1
  unfold SM at s'
  have s2' := (S.ch g1).row hr
  have r30 : mI μ' (b + 30) = mI μ (b + 30) := g1.row2 (show 30 ≠ r by omega)
  by_cases d14 : cd = 14
  · have w14 : nI cd = 14 := by rw [d14]; rfl
    have w20 : ¬ (14 : Int32) = 20 := by decide
    rw [if_pos (Or.inl d14), if_neg (show ¬ cd = 20 by omega)] at e
    simp only [f_X11_renames_b144, f_X11_renames_b220, f_X11_renames_b232, f_X11_renames_b248, s, s2, s', s2', r30, ckT, bdS, zlS, ckA, ckI, tcL, h0, h36, ck_t ip, cl, p10, p12, p13, p5, ck_t ia, ca, ck_t ib, cb, hma, hmb, mK_sI, mL_sI, mR_sI', mI_ne _ _ (Or.inl n30), mI_ne _ _ (Or.inl n33), mI_ne _ _ (Or.inl n34), mI_ne _ _ (Or.inl n35), mI_ne _ _ (Or.inl n40), w14, w20, if_true, not_false_eq_true, ← e]
  by_cases d15 : cd = 15
  · have w15 : nI cd = 15 := by rw [d15]; rfl
    have w14 : ¬ (15 : Int32) = 14 := by decide
    have w20 : ¬ (15 : Int32) = 20 := by decide
    have wn : ¬ ¬ (15 : Int32) = 15 := fun z => z rfl
    rw [if_pos (Or.inr d15), if_neg (show ¬ cd = 20 by omega)] at e
    simp only [f_X11_renames_b144, f_X11_renames_b220, f_X11_renames_b232, f_X11_renames_b248, s, s2, s', s2', r30, ckT, bdS, zlS, ckA, ckI, tcL, h0, h36, ck_t ip, cl, p10, p12, p13, p5, ck_t ia, ca, ck_t ib, cb, hma, hmb, mK_sI, mL_sI, mR_sI', mI_ne _ _ (Or.inl n30), mI_ne _ _ (Or.inl n33), mI_ne _ _ (Or.inl n34), mI_ne _ _ (Or.inl n35), mI_ne _ _ (Or.inl n40), w15, w14, wn, w20, not_true, if_true, if_false, not_false_eq_true, ← e]
  have w14 : ¬ nI cd = 14 := nIne (n := 14) (by omega) (by omega) d14
  have w15 : ¬ nI cd = 15 := nIne (n := 15) (by omega) (by omega) d15
  rw [if_neg (show ¬ (cd = 14 ∨ cd = 15) by omega)] at e
  by_cases d20 : cd = 20
  · have w20 : ¬ ¬ nI cd = 20 := by rw [d20]; exact fun z => z rfl
    rw [if_pos d20] at e
    simp only [f_X11_renames_b144, f_X11_renames_b220, f_X11_renames_b232, f_X11_renames_b248, s, s2, s', s2', r30, ckT, bdS, zlS, ckA, ckI, tcL, h0, h36, ck_t ip, cl, p10, p12, p13, p5, ck_t ia, ca, ck_t ib, cb, hma, hmb, mK_sI, mL_sI, mR_sI', mI_ne _ _ (Or.inl n30), mI_ne _ _ (Or.inl n33), mI_ne _ _ (Or.inl n34), mI_ne _ _ (Or.inl n35), mI_ne _ _ (Or.inl n40), w15, w14, w20, nI_1, if_true, if_false, not_false_eq_true, ← e]
  · have w20 : ¬ nI cd = 20 := nIne (n := 20) (by omega) (by omega) d20
    rw [if_neg d20] at e
    simp only [f_X11_renames_b144, f_X11_renames_b220, f_X11_renames_b232, f_X11_renames_b248, s, s2, s', s2', r30, ckT, bdS, zlS, ckA, ckI, tcL, h0, h36, ck_t ip, cl, p10, p12, p13, p5, ck_t ia, ca, ck_t ib, cb, hma, hmb, mK_sI, mL_sI, mR_sI', mI_ne _ _ (Or.inl n30), mI_ne _ _ (Or.inl n33), mI_ne _ _ (Or.inl n34), mI_ne _ _ (Or.inl n35), mI_ne _ _ (Or.inl n40), w15, w14, w20, nI_1, if_true, if_false, not_false_eq_true, ← e]
theorem m_rnT {r c : Nat} {x1 : Int32} {k2 : Nat → Int32 → Mm → Option (Unit × Mm)} (S : SM b μ) (hr : 46 ≤ r ∧ r < 62) (hc : c < 22) : f_X11_renames_b393 k2 (b + 30) x1 (b + r) (nI c) μ = k2 (b + 30) (x1 + 1) (sI (sI μ (b + r) 11 (if isQd c = true then 113 else 101)) (b + r) 4 (mI μ (b + 30) 36)) := by
  have s := S.1
  have s2 := S.row hr
  have hq := m_isQ c hc
  have n30 : b + 30 ≠ b + r := by omega
  have n10 : ¬ (1 : Int32) = 0 := by decide
  have o0 : bI false = 0 := rfl
  have o1 : bI true = 1 := rfl
  cases hd : isQd c <;> rw [hd] at hq
  · rw [if_neg Bool.false_ne_true]
    simp only [f_X11_renames_b393, f_X11_renames_b411, hq, bdS, o0, if_true, s, s2, ckT, zlS, ckA, ckI, tcL, mK_sI, mL_sI, mI_ne _ _ (Or.inl n30)]
  · rw [if_pos rfl]
    simp only [f_X11_renames_b393, f_X11_renames_b411, hq, bdS, o1, n10, if_false, s, s2, ckT, zlS, ckA, ckI, tcL, mK_sI, mL_sI, mI_ne _ _ (Or.inl n30)]
/-- what renaming changes behind the line's shift -/
def sRm (r o k : Nat) : Bool := decide ((o = 30 ∧ k ≠ 26 ∧ k ≠ 35 ∧ k ≠ 54) ∨ (38 ≤ o ∧ o ≤ 44) ∨ o = r)
/-- with a register to be given: behind the line's going on -/
theorem m_rnD {r p c g d : Nat} {x1 : Int32} {k2 : Nat → Int32 → Mm → Option (Unit × Mm)} (S : SM b μ) (hT : RT mT b B μ) (hp : p < 64) (h11 : mI μ (b + 32) p = nI d) (hd : d < 8) (hr : 46 ≤ r ∧ r < 62) (h9 : mI μ (b + r) 9 = nI g) (hg : g < 24) (hc : c < 22) : ∃ μ', f_X11_renames_b311 k2 (b + 30) x1 (b + r) (nI p) (nI c) μ = f_X11_renames_b393 k2 (b + 30) x1 (b + r) (nI c) μ' ∧ CH b (sRm r) μ μ' ∧ mI μ' (b + r) = up1 (mI μ (b + r)) 10 (nI (aN B 0 d)) ∧ RT mT b (zV (zN (zN B 0 d g) 2 g (if c = 15 then 1 else 0)) 1 g (if c = 15 then nI (p + 1) else aV B 1 g)) μ' := by
  have s := S
  unfold SM at s
  have s2 := S.row hr
  have ip := inbN (p := p) (n := 64) hp (by omega)
  have cl := clN (show p < 100000 by omega)
  have id_ := inbN (p := d) (n := 8) hd (by omega)
  have cd := clN (show d < 100000 by omega)
  have ig := inbN (p := g) (n := 24) hg (by omega)
  have cg := clN (show g < 100000 by omega)
  have hm : mI μ (b + 40) d = nI (aN B 0 d) := hT.2.1 0 _ (by omega) hd
  have hv : mI μ (b + 42) g = aV B 1 g := hT.v1 hg
  have n1 : b + 32 ≠ b + r := by omega
  have n3 : b + 32 ≠ b + 40 := by omega
  have n5 : b + r ≠ b + 40 := by omega
  have n6 : b + r ≠ b + 43 := by omega
  have n7 : b + 42 ≠ b + r := by omega
  have n8 : b + 42 ≠ b + 40 := by omega
  have n9 : b + 42 ≠ b + 43 := by omega
  have n910 : (9 : Nat) ≠ 10 := by decide
  obtain ⟨rd, hrd⟩ : ∃ rd, rd = if c = 15 then 1 else 0 := ⟨_, rfl⟩
  obtain ⟨v, hvv⟩ : ∃ v, v = if c = 15 then nI (p + 1) else aV B 1 g := ⟨_, rfl⟩
  obtain ⟨μ', e⟩ : ∃ μ', μ' = sI (sI (sI (sI μ (b + r) 10 (nI (aN B 0 d))) (b + 40) d (nI g)) (b + 43) g (nI rd)) (b + 42) g v := ⟨_, rfl⟩
  refine ⟨μ', ?_, ?_, ?_, ?_⟩
  · by_cases d15 : c = 15
    · have w15 : ¬ ¬ nI c = 15 := by rw [d15]; exact fun z => z rfl
      rw [if_pos d15] at hrd hvv
      rw [hrd, hvv] at e
      have e2 : μ' = sI (sI (sI (sI μ (b + r) 10 (nI (aN B 0 d))) (b + 40) d (nI g)) (b + 43) g 1) (b + 42) g (nI (p + 1)) := e
      simp only [f_X11_renames_b311, f_X11_renames_b361, f_X11_renames_b392, s, s2, ckT, bdS, zlS, ckA, ckI, tcL, ck_t ip, cl, h11, ck_t id_, cd, hm, h9, ck_t ig, cg, mK_sI, mL_sI, mR_sI', mI_ne _ _ (Or.inl n1), mI_ne _ _ (Or.inl n3), mI_ne _ _ (Or.inl n5), mI_ne _ _ (Or.inl n6), mI_ne _ _ (Or.inr n910), w15, if_false, nI_1, ← e2]
    · have w15 : ¬ nI c = 15 := nIne (n := 15) (by omega) (by omega) d15
      rw [if_neg d15] at hrd hvv
      rw [hrd, hvv] at e
      have e2 : μ' = sI (sI (sI (sI μ (b + r) 10 (nI (aN B 0 d))) (b + 40) d (nI g)) (b + 43) g 0) (b + 42) g (aV B 1 g) := e
      simp only [f_X11_renames_b311, f_X11_renames_b361, f_X11_renames_b392, s, s2, ckT, bdS, zlS, ckA, ckI, tcL, ck_t ip, cl, h11, ck_t id_, cd, hm, hv, h9, ck_t ig, cg, mK_sI, mL_sI, mR_sI', mI_ne _ _ (Or.inl n1), mI_ne _ _ (Or.inl n3), mI_ne _ _ (Or.inl n5), mI_ne _ _ (Or.inl n6), mI_ne _ _ (Or.inl n7), mI_ne _ _ (Or.inl n8), mI_ne _ _ (Or.inl n9), mI_ne _ _ (Or.inr n910), w15, if_true, not_false_eq_true, nI_1, ← e2]
  · rw [e]
    exact (((CH.put (decide_eq_true (by omega))).trans (CH.put (decide_eq_true (by omega)))).trans (CH.put (decide_eq_true (by omega)))).trans (CH.put (decide_eq_true (by omega)))
  · rw [e, mI_row _ _ (by omega), mI_row _ _ (by omega), mI_row _ _ (by omega), mI_up]
  · rw [← hrd, ← hvv, e]
    have h1 : RT mT b B (sI μ (b + r) 10 (nI (aN B 0 d))) := hT.off _ (offM (by omega) _)
    have h2 := ((h1.putN mT_ok (q := 0) (j := d) (by omega) hd g).putN mT_ok (q := 2) (j := g) (by omega) hg rd).putV mT_ok (q := 1) (j := g) (by omega) hg v
    have e3 : (mT.2.2 1).2 + g = g := Nat.zero_add _
    rw [e3] at h2
    exact h2
end MR6
