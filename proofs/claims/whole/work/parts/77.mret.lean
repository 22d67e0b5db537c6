/-! the model: the oldest one retires -/
section MRE
variable {b : Nat} {A B C A' : Sx} {ρ : Nat → Nat} {μ μ' μ2 : Mm} {S : Nat → Nat → Bool}
theorem settle_no {x : Ent} (h : hasD (eC C x) = false) : settle C x = C := by
  unfold settle
  rw [h]
  rfl
theorem learn_no {x : Ent} (h : isQn (eC C x) = false) (h2 : eC C x ≠ 17) : learn C x = C := by
  unfold learn
  rw [h, if_neg Bool.false_ne_true, if_neg h2]
theorem finR_no {x : Ent} (h : isSt (eC C x) = false) (h2 : eC C x ≠ 18) (h3 : eC C x ≠ 21) : finR C x = C := by
  unfold finR
  rw [h, if_neg Bool.false_ne_true, if_neg h2, if_neg h3]
theorem tell_shift (A : Sx) (x : Ent) : shiftB (tellE A x 0) = tellE (shiftB A) x 0 := by
  refine Prod.ext (funext fun i => ?_) rfl
  show up1 (up1 A.1 14 (aS A 14 + 1)) 9 (aS (tellE A x 0) 9 - 1) i = up1 (up1 A.1 9 (aS A 9 - 1)) 14 (aS (shiftB A) 14 + 1) i
  rw [(tellE_f A x 0).1 9 (by decide), show aS (shiftB A) 14 = aS A 14 from zS_ne _ _ (by decide)]
  simp only [up1_if]
  by_cases h : i = 9
  · subst h; rfl
  · simp only [if_neg h]
theorem m_max3 : ∀ v, v < 4 → f_J9_max_7cf53 0 (nI v - 1) = some (nI (v - 1)) := by decide +kernel
theorem m_min3 : ∀ v, v < 4 → f_J9_min_7cf53 3 (nI v + 1) = some (nI (min 3 (v + 1))) := by decide +kernel
/-- the last of it: whether it stops -/
theorem m_tail {c : Nat} (h : RM b C ρ μ) (n9 : aS C 9 ≤ 16) (n10 : aS C 10 ≤ 8) (h1 : aS C 1 = 0) (hc : c < 22) (h18 : c ≠ 18) : ∃ μ', f_X11_retire_b296 (b + 30) (nI c) μ = some ((), μ') ∧ RM b C ρ μ' ∧ CH b sMo μ μ' := by
  obtain ⟨g1, g2⟩ := m_put (i := 1) (n := 0) h n9 n10 rfl (by decide)
  rw [zS_self C h1] at g1
  have n18 : ¬ nI c = 18 := nIne (n := 18) (by omega) (by omega) h18
  have z0 : zb 0 = 0 := by decide
  exact ⟨_, by simp only [f_X11_retire_b296, f_X11_retire_b308, n18, not_false_eq_true, if_true, h.1.1, ckT, z0, zlS]; rfl, g1, g2⟩
theorem m_tail2 {c r0 p : Nat} (h : RM b C ρ μ) (n9 : aS C 9 ≤ 16) (n10 : aS C 10 ≤ 8) (h1 : aS C 1 = 0) (hc : c < 22) (h18 : c ≠ 18) (h17 : c ≠ 17) (h21 : c ≠ 21) : ∃ μ', f_X11_retire_b250 (b + 30) r0 (nI p) (nI c) μ = some ((), μ') ∧ RM b C ρ μ' ∧ CH b sMo μ μ' := by
  obtain ⟨μ', e, g⟩ := m_tail h n9 n10 h1 hc h18
  have n17 : ¬ nI c = 17 := nIne (n := 17) (by omega) (by omega) h17
  have n21 : ¬ nI c = 21 := nIne (n := 21) (by omega) (by omega) h21
  exact ⟨μ', by simp only [f_X11_retire_b250, f_X11_retire_b269, n17, n21, not_false_eq_true, if_true, e], g⟩
theorem m_tail3 {c r0 p : Nat} (h : RM b C ρ μ) (n9 : aS C 9 ≤ 16) (n10 : aS C 10 ≤ 8) (h1 : aS C 1 = 0) (hc : c < 22) (h18 : c ≠ 18) (h17 : c ≠ 17) (h21 : c ≠ 21) (h12 : c ≠ 12) (h13 : c ≠ 13) (hd : hasD c = false) : ∃ μ', f_X11_retire_b92 (b + 30) r0 (nI p) (nI c) μ = some ((), μ') ∧ RM b C ρ μ' ∧ CH b sMo μ μ' := by
  obtain ⟨μ', e, g⟩ := m_tail2 (r0 := r0) (p := p) h n9 n10 h1 hc h18 h17 h21
  have n12 : ¬ nI c = 12 := nIne (n := 12) (by omega) (by omega) h12
  have n13 : ¬ nI c = 13 := nIne (n := 13) (by omega) (by omega) h13
  have hcd := m_hasD c hc
  rw [hd] at hcd
  exact ⟨μ', by simp only [f_X11_retire_b92, f_X11_retire_b137, hcd, bdS, bI, Bool.false_eq_true, n12, n13, not_false_eq_true, if_true, if_false, e], g⟩
theorem m_store {ad : Nat} {v : Int32} (h : RM b C ρ μ) (n9 : aS C 9 ≤ 16) (n10 : aS C 10 ≤ 8) (ha : ad < 64) : RM b (zV C 2 ad v) ρ (sI μ (b + 39) ad v) := by
  have T := h.2.1.putV mT_ok (q := 2) (j := ad) (by omega) ha v
  have e0 : (mT.2.2 2).2 + ad = ad := Nat.zero_add _
  rw [e0] at T
  refine h.next (S := fun o _ => o == 39) T (CH.put rfl) (fun o k z => ?_) n9 n10 ⟨fun _ _ _ => rfl, zV_ne _ _ _ (by decide)⟩ (Nat.le_refl _) (fun _ _ => rfl) (Nat.le_refl _) (fun _ _ => rfl) rfl (zV_ne _ _ _ (by decide)) (zV_ne _ _ _ (by decide)) rfl rfl (fun z => ⟨z, rfl⟩) rfl (fun _ _ => rfl) (zV_ne _ _ _ (by decide))
  simp only [beq_iff_eq] at z
  exact decide_eq_true (by omega)
theorem m_count {r0 p c : Nat} {so : Bool} (h : RM b C ρ μ) (hp : p < 64) (hv : aN C 4 (p % 16) ≤ 3) : f_X11_retire_b204 (b + 30) r0 (nI p) (nI c) (bI so) μ = f_X11_retire_b250 (b + 30) r0 (nI p) (nI c) (sI μ (b + 72) (p % 16) (nI (if so = true then min 3 (aN C 4 (p % 16) + 1) else aN C 4 (p % 16) - 1))) := by
  have s := h.1
  unfold SM at s
  have i : mI μ (b + 72) (p % 16) = nI (aN C 4 (p % 16)) := h.2.1.2.1 4 _ (by omega) (Nat.mod_lt _ (by decide))
  have hb := inbN (p := p % 16) (n := 16) (Nat.mod_lt _ (by decide)) (by omega)
  have hc := clN (show p % 16 < 100000 by omega)
  have h16 : ∀ x : Option (Unit × Mm), ck (¬ (16 : Int32) = 0) x = x := fun x => if_pos (by decide)
  have m1 := m_max3 _ (show aN C 4 (p % 16) < 4 by omega)
  have m2 := m_min3 _ (show aN C 4 (p % 16) < 4 by omega)
  have n10 : ¬ (1 : Int32) = 0 := by decide
  cases so
  · simp only [f_X11_retire_b204, f_X11_retire_b249, s, ckT, bdS, zlS, ckA, h16, m_mod16 p hp, ck_t hb, hc, i, m1, bI, Bool.false_eq_true, if_true, if_false]
  · simp only [f_X11_retire_b204, f_X11_retire_b249, s, ckT, bdS, zlS, ckA, h16, m_mod16 p hp, ck_t hb, hc, i, m2, bI, n10, if_true, if_false]
/-- what retires, after its end is told and its place set -/
theorem m_retC {r0 : Nat} {x : Ent} (h : RM b C ρ μ) (c : CF C) (n9 : aS C 9 ≤ 16) (n10 : aS C 10 ≤ 8) (h1 : aS C 1 = 0) (hr : 46 ≤ r0 ∧ r0 < 62) (re : REm C x (mI μ (b + r0))) (ho : x.1 0 < aS C 15) (hs : x.1 10 = 101) (ht : x.1 12 = 0) (h6 : x.1 6 < 24) (h7 : x.1 7 < 24) (h8 : hasD (eC C x) = true → x.1 8 < 24 ∧ aS C 7 < 24) (had : isMm (eC C x) = true → adok (x.2.1 1) = true) (h4 : ∀ k, k < 16 → aN C 4 k ≤ 3)
    (h5 : isQn (eC C x) = true → x.1 14 = (if soV (eC C x) (eX C x) (eY C x) = true then 1 else 0)) : ∃ μ', (if ¬ nI (eC C x) = 10 then f_X11_retire_b50 (b + 30) (b + r0) (nI (x.1 0)) (nI (eC C x)) μ else f_X11_retire_b50 (b + 30) (b + r0) (nI (x.1 0)) (nI (eC C x)) (sI μ (b + 39) (x.2.1 1).toNatClampNeg (eY C x))) = some ((), μ') ∧ RM b (finR (learn (settle C x) x) x) ρ μ' ∧ CH b sMo μ μ' := by
  have s := h.1
  unfold SM at s
  have sr := h.1.row hr
  have hp := c.p ho
  obtain ⟨cc, hcc⟩ : ∃ cc, cc = eC C x := ⟨_, rfl⟩
  have c22 : cc < 22 := by
    have : eC C x = aN C 10 (x.1 0) := rfl
    omega
  have fne : ∀ j : Nat, j < 100000 → cc ≠ j → ¬ nI cc = nI j := fun j hj hn => nIne (by omega) hj hn
  obtain ⟨w11, w3, w12, w4, w13, w6, w14, w15, w15b, w16⟩ := re.d
  have f7 : mI μ (b + r0) 7 = nI (x.1 6) := re.2.2.2.2.1
  have f8 : mI μ (b + r0) 8 = nI (x.1 7) := re.2.2.2.2.2.1
  have f6 : mI μ (b + r0) 6 = x.2.1 0 := w6 (Or.inr hs)
  have v6 := h.2.1.v1 h6
  have v7 := h.2.1.v1 h7
  have hb6 := inbN (p := x.1 6) (n := 24) h6 (by omega)
  have hc6 := clN (show x.1 6 < 100000 by omega)
  have hb7 := inbN (p := x.1 7) (n := 24) h7 (by omega)
  have hc7 := clN (show x.1 7 < 100000 by omega)
  rw [← hcc] at w14 had h8 h5 ⊢
  by_cases q10 : cc = 10
  · -- a word is stored
    subst q10
    rw [if_neg (show ¬ ¬ nI 10 = 10 from fun z => z rfl)]
    obtain ⟨a1, a2⟩ := adok_e (had rfl)
    have hh := m_store (v := eY C x) h n9 n10 a2
    obtain ⟨μ2, e2, h2, g2⟩ := m_tail3 (r0 := b + r0) (p := x.1 0) (c := 10) hh n9 n10 h1 (by omega) (by omega) (by omega) (by omega) (by omega) (by omega) rfl
    refine ⟨μ2, ?_, ?_, (CH.put (o := 39) rfl).trans g2⟩
    · have n11 : ¬ nI 10 = 11 := by decide
      simp only [f_X11_retire_b50, n11, not_false_eq_true, if_true, e2]
    · rw [settle_no (by rw [← hcc]; rfl), learn_no (by rw [← hcc]; rfl) (by rw [← hcc]; decide)]
      unfold finR
      rw [← hcc, if_pos (show isSt 10 = true from rfl)]
      exact h2
  rw [if_pos (show ¬ nI cc = 10 from fne 10 (by omega) q10)]
  by_cases q11 : cc = 11
  · subst q11
    obtain ⟨a1, a2⟩ := adok_e (had rfl)
    have f14 : mI μ (b + r0) 14 = x.2.1 1 := w14 rfl ht (Or.inr hs)
    have hw := h.2.1.v2 a2
    have hh := m_store (v := chW 11 (aV C 2 (x.2.1 1).toNatClampNeg) (eY C x)) h n9 n10 a2
    obtain ⟨μ2, e2, h2, g2⟩ := m_tail3 (r0 := b + r0) (p := x.1 0) (c := 11) hh n9 n10 h1 (by omega) (by omega) (by omega) (by omega) (by omega) (by omega) rfl
    refine ⟨μ2, ?_, ?_, (CH.put (o := 39) rfl).trans g2⟩
    · have n11 : nI 11 = 11 := rfl
      have n11' : ¬ ¬ nI 11 = 11 := fun z => z rfl
      have hi : inb (x.2.1 1) 64 := ⟨by rw [a1]; exact nI_pos' (by omega), a2⟩
      have ey : eY C x = aV C 1 (x.1 7) := rfl
      have ch : chW 11 (aV C 2 (x.2.1 1).toNatClampNeg) (aV C 1 (x.1 7)) = (aV C 2 (x.2.1 1).toNatClampNeg &&& (-65536)) ||| (aV C 1 (x.1 7) &&& 65535) := rfl
      rw [← e2, ey, ch]
      simp only [f_X11_retire_b50, n11', if_false, s, sr, ckT, bdS, zlS, ckA, ckI, tcL, f14, f8, hw, v7, ck_t hi, ck_t hb7, hc7]
    · rw [settle_no (by rw [← hcc]; rfl), learn_no (by rw [← hcc]; rfl) (by rw [← hcc]; decide)]
      unfold finR
      rw [← hcc, if_pos (show isSt 11 = true from rfl)]
      exact h2
  have n11 : ¬ nI cc = 11 := fne 11 (by omega) q11
  have e50 : f_X11_retire_b50 (b + 30) (b + r0) (nI (x.1 0)) (nI cc) μ = f_X11_retire_b92 (b + 30) (b + r0) (nI (x.1 0)) (nI cc) μ := by
    simp only [f_X11_retire_b50, n11, not_false_eq_true, if_true]
  rw [e50]
  have hst : isSt (eC C x) = false := by
    rw [← hcc]
    unfold isSt
    simp [q10, q11]
  cases hd : hasD cc with
  | true =>
    obtain ⟨d8, d7⟩ := h8 hd
    have hq9 : mI μ (b + r0) 9 = nI (x.1 8) ∧ mI μ (b + r0) 10 = nI (x.1 9) := re.2.2.2.2.2.2.2.2.2.2.1 (by rw [← hcc]; exact hd)
    have hq : cc ≠ 12 ∧ cc ≠ 13 ∧ cc ≠ 17 ∧ cc ≠ 18 ∧ cc ≠ 21 := by
      refine ⟨?_, ?_, ?_, ?_, ?_⟩ <;> (intro z; rw [z] at hd; cases hd)
    have pd := (h.2.2.2.2.2.1 _ ho).2.1
    have hed : eD C x < 8 := hp.2.2.1
    have h21 : mI μ (b + 30) 21 = nI (aS C 7) := h.2.1.1 7 rfl
    have hD : settle C x = zS (zN (zN C 1 (eD C x) (x.1 8)) 3 (aS C 7) (x.1 9)) 7 (aS C 7 + 1) := by
      unfold settle
      rw [← hcc, hd, if_pos rfl]
    have n1 : b + r0 ≠ b + 41 := by omega
    have n2 : b + r0 ≠ b + 44 := by omega
    have n3 : b + 30 ≠ b + 41 := by omega
    have n4 : b + 30 ≠ b + 44 := by omega
    have hh : RM b (zS (zN (zN C 1 (eD C x) (x.1 8)) 3 (aS C 7) (x.1 9)) 7 (aS C 7 + 1)) ρ (sI (sI (sI μ (b + 41) (eD C x) (nI (x.1 8))) (b + 44) (aS C 7) (nI (x.1 9))) (b + 30) 21 (nI (aS C 7 + 1))) := by
      refine h.next (S := fun o k => o == 41 || o == 44 || (o == 30 && k == 21)) (((h.2.1.putN mT_ok (q := 1) (j := eD C x) (by omega) hp.2.2.1 (x.1 8)).putN mT_ok (q := 3) (j := aS C 7) (by omega) d7 (x.1 9)).putS mT_ok (i := 7) rfl (aS C 7 + 1)) (((CH.put rfl).trans (CH.put rfl)).trans (CH.put rfl)) (fun o k z => ?_) n9 n10 ⟨fun r h1 h2 => ?_, rfl⟩ ?_ (fun _ _ => rfl) ?_ (fun _ _ => rfl) ?_ rfl rfl rfl rfl (fun z => ?_) ?_ (fun r hr => ?_) rfl
      · simp only [Bool.and_eq_true, Bool.or_eq_true, beq_iff_eq] at z
        exact decide_eq_true (by omega)
      · rw [(zS_ _ _ _).2.1, zN_ne _ _ _ (by omega), zN_ne _ _ _ (by omega)]
      · rw [zS_ne _ _ (by decide)]; exact Nat.le_refl _
      · rw [zS_ne _ _ (by decide)]; exact Nat.le_refl _
      · rw [zS_ne _ _ (by decide)]; rfl
      · rw [zS_ne _ _ (by decide)] at z ⊢; exact ⟨z, rfl⟩
      · rw [zS_ne _ _ (by decide)]; rfl
      · rw [(zS_ _ _ _).2.1, zN_ne _ _ _ (by omega), zN_ne _ _ _ (by omega)]
    obtain ⟨μ2, e2, h2, g2⟩ := m_tail2 (r0 := b + r0) (p := x.1 0) (c := cc) hh (by rw [zS_ne _ _ (by decide)]; exact n9) (by rw [zS_ne _ _ (by decide)]; exact n10) (by rw [zS_ne _ _ (by decide)]; exact h1) c22 hq.2.2.2.1 hq.2.2.1 hq.2.2.2.2
    refine ⟨μ2, ?_, ?_, (((CH.put (o := 41) rfl).trans (CH.put (o := 44) rfl)).trans (CH.put (o := 30) rfl)).trans g2⟩
    · have hcd := m_hasD cc c22
      rw [hd] at hcd
      have n12 : ¬ nI cc = 12 := fne 12 (by omega) hq.1
      have n13 : ¬ nI cc = 13 := fne 13 (by omega) hq.2.1
      have n10' : ¬ (1 : Int32) = 0 := by decide
      have pd' : mI μ (b + 32) (x.1 0) = nI (eD C x) := pd
      rw [← e2]
      simp only [f_X11_retire_b92, f_X11_retire_b137, s, sr, hcd, ckT, bdS, zlS, ckA, ckI, tcL, bI, n10', n12, n13, not_false_eq_true, if_true, if_false, pd', hq9, h21, nI_1, mK_sI, mL_sI, mR_sI', mI_ne _ _ (Or.inl n1), mI_ne _ _ (Or.inl n2), mI_ne _ _ (Or.inl n3), mI_ne _ _ (Or.inl n4), ck_t (inbN (p := x.1 0) (n := 64) hp.1 (by omega)), clN (show x.1 0 < 100000 by omega), ck_t (inbN (p := eD C x) (n := 8) hed (by omega)), clN (show eD C x < 100000 by omega), ck_t (inbN (p := aS C 7) (n := 24) d7 (by omega)), clN (show aS C 7 < 100000 by omega)]
    · have ec : eC (settle C x) x = cc := by rw [hD, hcc]; rfl
      rw [learn_no (by rw [ec]; unfold isQn; simp [hq.1, hq.2.1]) (by rw [ec]; exact hq.2.2.1), finR_no (by rw [ec, hcc]; exact hst) (by rw [ec]; exact hq.2.2.2.1) (by rw [ec]; exact hq.2.2.2.2), hD]
      exact h2
  | false =>
    rw [settle_no (by rw [← hcc]; exact hd)]
    have hcd := m_hasD cc c22
    rw [hd] at hcd
    have e92 : f_X11_retire_b92 (b + 30) (b + r0) (nI (x.1 0)) (nI cc) μ = f_X11_retire_b137 (b + 30) (b + r0) (nI (x.1 0)) (nI cc) μ := by
      simp only [f_X11_retire_b92, hcd, bdS, bI, Bool.false_eq_true, if_true, if_false]
    rw [e92]
    by_cases hq : isQn cc = true
    · -- a branch: its counter
      have q1213 : cc = 12 ∨ cc = 13 := by
        unfold isQn at hq
        simpa using hq
      have sx := h5 hq
      obtain ⟨so, hso⟩ : ∃ so, so = soV cc (eX C x) (eY C x) := ⟨_, rfl⟩
      rw [← hso] at sx
      have e137 : f_X11_retire_b137 (b + 30) (b + r0) (nI (x.1 0)) (nI cc) μ = f_X11_retire_b204 (b + 30) (b + r0) (nI (x.1 0)) (nI cc) (bI so) μ := by
        have ex : eX C x = aV C 1 (x.1 6) := rfl
        have ey : eY C x = aV C 1 (x.1 7) := rfl
        rcases q1213 with e | e
        · have d12 : (nI 12 = 12) = True := by decide
          have so2 : so = decide (aV C 1 (x.1 6) = aV C 1 (x.1 7)) := by rw [hso, e]; rfl
          rw [e, so2]
          by_cases q : aV C 1 (x.1 6) = aV C 1 (x.1 7)
          · rw [decide_eq_true q]
            simp only [f_X11_retire_b137, f_X11_retire_b149, d12, if_true, if_false, not_true, s, sr, ckT, bdS, ckA, ckI, tcL, f7, f8, ck_t hb6, hc6, ck_t hb7, hc7, v6, v7, q]
            rfl
          · rw [decide_eq_false q]
            simp only [f_X11_retire_b137, f_X11_retire_b149, d12, if_true, if_false, not_true, not_false_eq_true, s, sr, ckT, bdS, ckA, ckI, tcL, f7, f8, ck_t hb6, hc6, ck_t hb7, hc7, v6, v7, q]
            rfl
        · have d12 : (nI 13 = 12) = False := by decide
          have d13 : (nI 13 = 13) = True := by decide
          have so2 : so = decide (aV C 1 (x.1 6) < aV C 1 (x.1 7)) := by rw [hso, e]; rfl
          rw [e, so2]
          by_cases q : aV C 1 (x.1 7) ≤ aV C 1 (x.1 6)
          · rw [decide_eq_false (Int32.not_lt.mpr q)]
            simp only [f_X11_retire_b137, f_X11_retire_b149, d12, d13, if_true, if_false, not_true, not_false_eq_true, s, sr, ckT, bdS, ckA, ckI, tcL, f7, f8, ck_t hb6, hc6, ck_t hb7, hc7, v6, v7, q]
            rfl
          · rw [decide_eq_true (Int32.not_le.mp q)]
            simp only [f_X11_retire_b137, f_X11_retire_b149, d12, d13, if_true, if_false, not_true, not_false_eq_true, s, sr, ckT, bdS, ckA, ckI, tcL, f7, f8, ck_t hb6, hc6, ck_t hb7, hc7, v6, v7, q]
            rfl
      have hh : RM b (zN C 4 (x.1 0 % 16) (if so = true then min 3 (aN C 4 (x.1 0 % 16) + 1) else aN C 4 (x.1 0 % 16) - 1)) ρ (sI μ (b + 72) (x.1 0 % 16) (nI (if so = true then min 3 (aN C 4 (x.1 0 % 16) + 1) else aN C 4 (x.1 0 % 16) - 1))) := by
        refine h.next (S := fun o _ => o == 72) (h.2.1.putN mT_ok (q := 4) (j := x.1 0 % 16) (by omega) (Nat.mod_lt _ (by decide)) _) (CH.put rfl) (fun o k z => ?_) n9 n10 ⟨fun r h1 h2 => zN_ne _ _ _ (by omega), rfl⟩ (Nat.le_refl _) (fun _ _ => rfl) (Nat.le_refl _) (fun _ _ => rfl) rfl rfl rfl rfl rfl (fun z => ⟨z, rfl⟩) rfl (fun r hr => zN_ne _ _ _ (by omega)) rfl
        simp only [beq_iff_eq] at z
        exact decide_eq_true (by omega)
      obtain ⟨μ2, e2, h2, g2⟩ := m_tail2 (r0 := b + r0) (p := x.1 0) (c := cc) hh n9 n10 h1 c22 (by omega) (by omega) (by omega)
      refine ⟨μ2, by rw [e137, m_count h hp.1 (h4 _ (Nat.mod_lt _ (by decide))), e2], ?_, (CH.put (o := 72) rfl).trans g2⟩
      have eL : learn C x = zN C 4 (x.1 0 % 16) (if so = true then min 3 (aN C 4 (x.1 0 % 16) + 1) else aN C 4 (x.1 0 % 16) - 1) := by
        unfold learn
        rw [← hcc, if_pos hq]
        congr 1
        cases so
        · rw [if_neg (by rw [sx]; decide), if_neg Bool.false_ne_true]
        · rw [if_pos (by rw [sx]; rfl), if_pos rfl]
      rw [eL, finR_no]
      · exact h2
      · exact hst
      · show eC C x ≠ 18
        rw [← hcc]
        omega
      · show eC C x ≠ 21
        rw [← hcc]
        omega
    · have nq : isQn cc = false := by
        cases hz : isQn cc with
        | false => rfl
        | true => exact absurd hz hq
      have q12 : cc ≠ 12 := fun z => by rw [z] at nq; cases nq
      have q13 : cc ≠ 13 := fun z => by rw [z] at nq; cases nq
      have n12 : ¬ nI cc = 12 := fne 12 (by omega) q12
      have n13 : ¬ nI cc = 13 := fne 13 (by omega) q13
      have e137 : f_X11_retire_b137 (b + 30) (b + r0) (nI (x.1 0)) (nI cc) μ = f_X11_retire_b250 (b + 30) (b + r0) (nI (x.1 0)) (nI cc) μ := by
        simp only [f_X11_retire_b137, n12, n13, if_false, if_true, not_false_eq_true]
      rw [e137]
      by_cases q17 : cc = 17
      · subst q17
        have hh : RM b (zV C 3 (x.1 0 % 8) (x.2.1 0)) ρ (sI μ (b + 73) (x.1 0 % 8) (x.2.1 0)) := by
          have T := h.2.1.putV mT_ok (q := 3) (j := x.1 0 % 8) (by omega) (show x.1 0 % 8 < 8 from Nat.mod_lt _ (by decide)) (x.2.1 0)
          have e0 : (mT.2.2 3).2 + x.1 0 % 8 = x.1 0 % 8 := Nat.zero_add _
          rw [e0] at T
          refine h.next (S := fun o _ => o == 73) T (CH.put rfl) (fun o k z => ?_) n9 n10 ⟨fun _ _ _ => rfl, zV_ne _ _ _ (by decide)⟩ (Nat.le_refl _) (fun _ _ => rfl) (Nat.le_refl _) (fun _ _ => rfl) rfl (zV_ne _ _ _ (by decide)) (zV_ne _ _ _ (by decide)) rfl rfl (fun z => ⟨z, rfl⟩) rfl (fun _ _ => rfl) (zV_ne _ _ _ (by decide))
          simp only [beq_iff_eq] at z
          exact decide_eq_true (by omega)
        obtain ⟨μ2, e2, h2, g2⟩ := m_tail (c := 17) hh n9 n10 h1 (by omega) (by omega)
        refine ⟨μ2, ?_, ?_, (CH.put (o := 73) rfl).trans g2⟩
        · have d17 : ¬ ¬ nI 17 = 17 := fun z => z rfl
          have d21 : ¬ nI 17 = 21 := by decide
          have h8' : ∀ x : Option (Unit × Mm), ck (¬ (8 : Int32) = 0) x = x := fun x => if_pos (by decide)
          simp only [f_X11_retire_b250, f_X11_retire_b269, d17, d21, if_false, not_false_eq_true, if_true, s, sr, ckT, bdS, zlS, ckA, ckI, tcL, h8', f6, m_mod8 _ hp.1, ck_t (inbN (p := x.1 0 % 8) (n := 8) (Nat.mod_lt _ (by decide)) (by omega)), clN (show x.1 0 % 8 < 100000 by omega), e2]
        · have eL : learn C x = zV C 3 (x.1 0 % 8) (x.2.1 0) := by
            unfold learn
            rw [← hcc, if_neg (by decide), if_pos rfl]
          rw [eL, finR_no]
          · exact h2
          · exact hst
          · show eC C x ≠ 18
            rw [← hcc]
            decide
          · show eC C x ≠ 21
            rw [← hcc]
            decide
      · rw [learn_no (by rw [← hcc]; exact nq) (by rw [← hcc]; exact q17)]
        by_cases q21 : cc = 21
        · subst q21
          have h40 : mI μ (b + 30) 40 = nI (aS C 4) := h.2.1.1 4 rfl
          obtain ⟨p1, u1⟩ := m_put (i := 3) (n := 0) h n9 n10 rfl (by decide)
          obtain ⟨p2, u2⟩ := m_put (i := 5) (n := aS C 4) p1 (by rw [zS_ne _ _ (by decide)]; exact n9) (by rw [zS_ne _ _ (by decide)]; exact n10) rfl (by decide)
          obtain ⟨μ3, e3, h3, g3⟩ := m_goesOn (p := aS C 4) p2 (by rw [zS_ne _ _ (by decide), zS_ne _ _ (by decide)]; exact n9)
          have ef : finR C x = zS (zS (zS (zS (zS C 3 0) 5 (aS C 4)) 11 (aS C 4)) 12 0) 10 0 := by
            unfold finR
            rw [← hcc, hcc, hst, if_neg Bool.false_ne_true, ← hcc, if_neg (by decide), if_pos rfl]
            refine Prod.ext (funext fun i => ?_) rfl
            show up1 (up1 (up1 (up1 (up1 C.1 3 0) 5 (aS C 4)) 10 0) 11 (aS C 4)) 12 0 i = up1 (up1 (up1 (up1 (up1 C.1 3 0) 5 (aS C 4)) 11 (aS C 4)) 12 0) 10 0 i
            simp only [up1_if]
            by_cases h10 : i = 10
            · subst h10; rfl
            · simp only [if_neg h10]
          rw [ef]
          obtain ⟨μ4, e4, h4', g4⟩ := m_tail (c := 21) h3 (by rw [zS_ne _ _ (by decide), zS_ne _ _ (by decide), zS_ne _ _ (by decide), zS_ne _ _ (by decide), zS_ne _ _ (by decide)]; exact n9) (by rw [zS_at]; omega) (by rw [zS_ne _ _ (by decide), zS_ne _ _ (by decide), zS_ne _ _ (by decide), zS_ne _ _ (by decide), zS_ne _ _ (by decide)]; exact h1) (by omega) (by omega)
          refine ⟨μ4, ?_, h4', u1.trans (u2.trans ((g3.mono fun o k hh => ?_).trans g4))⟩
          · have d17 : ¬ nI 21 = 17 := by decide
            have d21 : ¬ ¬ nI 21 = 21 := fun z => z rfl
            have e3' : f_X11_goesOn (b + 30) (nI (aS C 4)) (sI (sI μ (b + 30) 39 0) (b + 30) 41 (nI (aS C 4))) = some ((), μ3) := e3
            simp only [f_X11_retire_b250, f_X11_retire_b269, d17, d21, if_false, not_false_eq_true, if_true, s, ckT, bdS, zlS, mK_sI, mI_ne _ _ (Or.inr (show (40 : Nat) ≠ 39 by decide)), mI_ne _ _ (Or.inr (show (40 : Nat) ≠ 41 by decide)), h40, cl_t e3', e4]
          · unfold sGo at hh
            simp only [Bool.and_eq_true, Bool.or_eq_true, beq_iff_eq] at hh
            exact decide_eq_true (by omega)
        · by_cases q18 : cc = 18
          · subst q18
            obtain ⟨p1, u1⟩ := m_put (i := 1) (n := 1) h n9 n10 rfl (by decide)
            refine ⟨_, ?_, ?_, u1⟩
            · have d17 : ¬ nI 18 = 17 := by decide
              have d21 : ¬ nI 18 = 21 := by decide
              have d18 : ¬ ¬ nI 18 = 18 := fun z => z rfl
              have z1 : zb 1 = 1 := by decide
              simp only [f_X11_retire_b250, f_X11_retire_b269, f_X11_retire_b296, f_X11_retire_b308, d17, d21, d18, if_false, not_false_eq_true, if_true, s, ckT, z1, zlS]
              rfl
            · have ef : finR C x = zS C 1 1 := by
                unfold finR
                rw [hst, if_neg Bool.false_ne_true, ← hcc, if_pos rfl]
              rw [ef]
              exact p1
          · rw [finR_no hst (by rw [← hcc]; exact q18) (by rw [← hcc]; exact q21)]
            exact m_tail2 (r0 := b + r0) (p := x.1 0) h n9 n10 h1 c22 q18 q17 q21
end MRE
