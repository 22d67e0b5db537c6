/-! the class is made -/
section ICL
variable {b z s2 : Nat} {μ0 μ μ' : Mm} {Q : Mm → Prop}
def yc1 : XM := xN xO 111 0
def yc2 : XM := xN (yc1) 101 0
def yc3 : XM := xN (yc2) 100 0
def yc4 : XM := xR (xI yc3 2 0 0) 2 1 1000
def yc5 : XM := xN (xR (yc4) 1 0 2) 110 0
def yc6 : XM := xI (xI (xI (xI (xI (yc5) 3 0 2) 3 1 8) 3 2 4) 3 3 ((-1))) 3 4 ((-1))
theorem i_X9_init_3 (h0 : 0 < b) (hz : mR μ0 0 0 = some z) (hs2 : mR μ0 0 2 = some s2) : RU b z yc5 (0 + 1 + 18 + 3 + 5) μ0 (fun μ => f_X9_init (b + 3) μ) (AM b z yc6 (0 + 1 + 18 + 3 + 5) μ0) := by
  unfold f_X9_init
  refine ru_k 3 110 (by decide) (by decide) ?_
  refine ru_sI 3 0 (by decide) ?_
  refine ru_sI 3 1 (by decide) ?_
  refine ru_sI 3 2 (by decide) ?_
  refine ru_sI 3 3 (by decide) ?_
  refine ru_sI 3 4 (by decide) ?_
  exact ru_end (fun _ h => h)
def yc7 : XM := xN (xR (yc6) 1 1 3) 102 0
def yc8 : XM := xI (xI (xI (xI (xI (xI (xR (xN (yc7) 21 8) 4 0 5) 4 1 0) 4 2 0) 4 3 0) 4 4 0) 4 5 0) 4 6 0
theorem i_X1_init_4 (h0 : 0 < b) (hz : mR μ0 0 0 = some z) (hs2 : mR μ0 0 2 = some s2) : RU b z yc7 (0 + 1 + 18 + 3 + 5 + 7) μ0 (fun μ => f_X1_init (b + 4) μ) (AM b z yc8 (0 + 1 + 18 + 3 + 5 + 7 + 8) μ0) := by
  unfold f_X1_init
  refine ru_bd h0 hs2 ?_
  refine ru_ck (by decide) ?_
  refine ru_nw 5 8 8 rfl (by decide) (by decide) ?_
  refine ru_k 4 102 (by decide) (by decide) ?_
  refine ru_sR 4 0 5 (by decide) (by decide) ?_
  refine ru_sI 4 1 (by decide) ?_
  refine ru_sI 4 2 (by decide) ?_
  refine ru_sI 4 3 (by decide) ?_
  refine ru_sI 4 4 (by decide) ?_
  refine ru_sI 4 5 (by decide) ?_
  refine ru_sI 4 6 (by decide) ?_
  exact ru_end (fun _ h => h)
def yc9 : XM := xN (xR (yc8) 1 2 4) 109 0
def yc10 : XM := xI (xI (xI (xR (xN (xR (xN (yc9) 21 8) 6 0 7) 21 64) 6 1 8) 6 2 0) 6 3 0) 6 4 0
theorem i_X8_init_6 (h0 : 0 < b) (hz : mR μ0 0 0 = some z) (hs2 : mR μ0 0 2 = some s2) : RU b z yc9 (0 + 1 + 18 + 3 + 5 + 7 + 8 + 5) μ0 (fun μ => f_X8_init (b + 6) μ) (AM b z yc10 (0 + 1 + 18 + 3 + 5 + 7 + 8 + 5 + 8 + 64) μ0) := by
  unfold f_X8_init
  refine ru_ck (by decide) ?_
  refine ru_nw 7 8 8 rfl (by decide) (by decide) ?_
  refine ru_k 6 109 (by decide) (by decide) ?_
  refine ru_sR 6 0 7 (by decide) (by decide) ?_
  refine ru_ck (by decide) ?_
  refine ru_nw 8 64 64 rfl (by decide) (by decide) ?_
  refine ru_k 6 109 (by decide) (by decide) ?_
  refine ru_sR 6 1 8 (by decide) (by decide) ?_
  refine ru_sI 6 2 (by decide) ?_
  refine ru_sI 6 3 (by decide) ?_
  refine ru_sI 6 4 (by decide) ?_
  exact ru_end (fun _ h => h)
def yc11 : XM := xN (xR (yc10) 1 3 6) 106 0
def yc12 : XM := xI (xI (xR (xN (xR (xN (xR (xN (xR (xN (xR (xN (yc11) 21 8) 9 0 10) 21 8) 9 1 11) 21 24) 9 2 12) 22 24) 9 3 13) 21 24) 9 4 14) 9 5 0) 9 6 0
def yc13 : XM := (fun J => xW yc12 (fun o k => (o == 10 || o == 11 || o == 13) && decide (k < J)) (fun o k => if o = 10 then nI k else if o = 11 then nI k else if o = 13 then 1 else 0)) 8
def yc14 : XM := (fun J => xI (xW (xI (xI yc13 9 6 16) 9 5 0) (fun o k => o == 14 && decide (k < J)) (fun _ k => nI (k + 8))) 9 5 (nI J)) 8
theorem i_fill (h0 : 0 < b) (hz : mR μ0 0 0 = some z) (hs2 : mR μ0 0 2 = some s2) : RU b z yc13 (0 + 1 + 18 + 3 + 5 + 7 + 8 + 5 + 8 + 64 + 7 + 8 + 8 + 24 + 24 + 24) μ0 (fun μ => f_X5_fillLine (b + 9) 16 μ) (AM b z yc14 (0 + 1 + 18 + 3 + 5 + 7 + 8 + 5 + 8 + 64 + 7 + 8 + 8 + 24 + 24 + 24) μ0) := by
  unfold f_X5_fillLine
  refine ru_k 9 106 (by decide) (by decide) ?_
  refine ru_sI 9 6 (by decide) ?_
  refine ru_sI 9 5 (by decide) ?_
  have e08 : (8 : Int32) = 0 + 8 := by decide
  rw [e08]
  refine ru_loop (L := fun fu x μ => f_X5_fillLine_b13 fu (b + 9) (x + 8) μ) (K := fun μ => some ((), μ)) 8 (by omega) (fun J => xI (xW (xI (xI yc13 9 6 16) 9 5 0) (fun o k => o == 14 && decide (k < J)) (fun _ k => nI (k + 8))) 9 5 (nI J)) (fun μ h => h.cg rfl (fun o k => ?_) (fun _ _ => rfl)) (fun j fu μ hj h => ?_) (fun fu μ h => ?_) (ru_end (fun _ h => h))
  · show up2 (xI yc13 9 6 16).2.1 9 5 0 o k = up2 (fun o k => if (o == 14 && decide (k < 0)) = true then nI (k + 8) else up2 (xI yc13 9 6 16).2.1 9 5 0 o k) 9 5 (nI 0) o k
    by_cases e : o = 9
    · subst e
      rw [up2_eq, up2_eq, up1_if, up1_if]
      by_cases e2 : k = 5
      · rw [if_pos e2, if_pos e2]
        rfl
      · rw [if_neg e2, if_neg e2, up2_eq, up1_ne _ _ e2]
        rfl
    · rw [up2_ne _ _ _ e, up2_ne _ _ _ e]
      have : (o == 14 && decide (k < 0)) = false := by simp
      rw [this, if_neg Bool.false_ne_true, up2_ne _ _ _ e]
  · have ko : mK μ (b + 9) = 106 := h.k 106 (show 9 < yc13.1.length by decide) (show (yc13.1.getD 9 (0, 0)).1 = 106 by decide)
    have r4 : mR μ (b + 9) 4 = some (b + 14) := h.r 14 (by decide) (show 9 < yc13.1.length by decide) (show yc13.2.2 9 4 = some 14 by decide +kernel)
    have k14 : mK μ (b + 14) = 21 := h.k 21 (show 14 < yc13.1.length by decide) (show (yc13.1.getD 14 (0, 0)).1 = 21 by decide)
    have l14 : mL μ (b + 14) = 24 := h.l 24 (show 14 < yc13.1.length by decide) (show (yc13.1.getD 14 (0, 0)).2 = 24 by decide)
    have i5 : mI μ (b + 9) 5 = nI j := h.i (nI j) (show 9 < yc13.1.length by decide) (by rfl)
    have i6 : mI μ (b + 9) 6 = 16 := h.i 16 (show 9 < yc13.1.length by decide) (by rfl)
    have ib := inbN (p := j) (n := 24) (by omega) (by omega)
    have cj := clN (show j < 100000 by omega)
    have e8 : nI j + 8 = nI (j + 8) := nI_add _ _
    have e81 : nI (j + 1) + 8 = nI (j + 1 + 8) := nI_add _ _
    have c1 : ¬ (16 : Int32) ≤ nI (j + 8) := nI_ge (b := 16) (by omega) (by omega)
    have c2 : ¬ (24 : Int32) ≤ nI j := nI_ge (b := 24) (by omega) (by omega)
    have n9 : b + 9 ≠ b + 14 := by omega
    have g := (h.pI (o := 14) (k := j) (v := nI (j + 8)) (show 14 < yc13.1.length by decide)).pI (o := 9) (k := 5) (v := nI (j + 1)) (show 9 < yc13.1.length by decide)
    refine ⟨sI (sI μ (b + 14) j (nI (j + 8))) (b + 9) 5 (nI (j + 1)), g.cg rfl (fun o k => ?_) (fun _ _ => rfl), ?_⟩
    · obtain ⟨W, hW⟩ : ∃ W : Nat → Nat → Int32, W = (xI (xI yc13 9 6 16) 9 5 0).2.1 := ⟨_, rfl⟩
      show up2 (up2 (up2 (fun o k => if (o == 14 && decide (k < j)) = true then nI (k + 8) else (xI (xI yc13 9 6 16) 9 5 0).2.1 o k) 9 5 (nI j)) 14 j (nI (j + 8))) 9 5 (nI (j + 1)) o k = up2 (fun o k => if (o == 14 && decide (k < j + 1)) = true then nI (k + 8) else (xI (xI yc13 9 6 16) 9 5 0).2.1 o k) 9 5 (nI (j + 1)) o k
      rw [← hW]
      by_cases e : o = 9
      · subst e
        rw [up2_eq, up2_eq, up1_if, up1_if]
        by_cases e2 : k = 5
        · rw [if_pos e2, if_pos e2]
        · rw [if_neg e2, if_neg e2, up2_ne _ _ _ (by decide), up2_eq, up1_ne _ _ e2]
          rfl
      · rw [up2_ne _ _ _ e, up2_ne _ _ _ e]
        by_cases e3 : o = 14
        · subst e3
          rw [up2_eq, up1_if, up2_ne _ _ _ e]
          by_cases e2 : k = j
          · rw [if_pos e2, if_pos (by simp; omega), e2]
          · rw [if_neg e2]
            show (if (14 == 14 && decide (k < j)) = true then nI (k + 8) else W 14 k) = if (14 == 14 && decide (k < j + 1)) = true then nI (k + 8) else W 14 k
            by_cases l : k < j
            · rw [if_pos (by simp [l]), if_pos (by simp; omega)]
            · rw [if_neg (by simp [l]), if_neg (by simp; omega)]
        · rw [up2_ne _ _ _ e3, up2_ne _ _ _ e]
          show (if (o == 14 && decide (k < j)) = true then nI (k + 8) else W o k) = if (o == 14 && decide (k < j + 1)) = true then nI (k + 8) else W o k
          rw [if_neg (by simp [e3]), if_neg (by simp [e3])]
    · simp only [f_X5_fillLine_b13, f_X5_putBehind, ko, ckT, i6, e8, c1, if_false, i5, c2, bdS, r4, k14, l14, ckA, ck_t ib, cj, zlS, mI_ne _ _ (Or.inl n9), nI_1, clS, e81]
  · have ko : mK μ (b + 9) = 106 := h.k 106 (show 9 < yc13.1.length by decide) (show (yc13.1.getD 9 (0, 0)).1 = 106 by decide)
    have i6 : mI μ (b + 9) 6 = 16 := h.i 16 (show 9 < yc13.1.length by decide) (by rfl)
    have c1 : (16 : Int32) ≤ nI 8 + 8 := by decide
    simp only [f_X5_fillLine_b13, ko, ckT, i6, c1, if_true]
theorem i_X5_init_b89_9 (h0 : 0 < b) (hz : mR μ0 0 0 = some z) (hs2 : mR μ0 0 2 = some s2) : RU b z yc13 (0 + 1 + 18 + 3 + 5 + 7 + 8 + 5 + 8 + 64 + 7 + 8 + 8 + 24 + 24 + 24) μ0 (fun μ => f_X5_init_b89 (b + 9) μ) (AM b z yc14 (0 + 1 + 18 + 3 + 5 + 7 + 8 + 5 + 8 + 64 + 7 + 8 + 8 + 24 + 24 + 24) μ0) := by
  unfold f_X5_init_b89
  refine ru_k 9 106 (by decide) (by decide) ?_
  refine ru_cl (Y := yc14) (t' := 0 + 1 + 18 + 3 + 5 + 7 + 8 + 5 + 8 + 64 + 7 + 8 + 8 + 24 + 24 + 24) (i_fill h0 hz hs2) ?_
  exact ru_end (fun _ h => h)
theorem i_X5_init_b56_9 (h0 : 0 < b) (hz : mR μ0 0 0 = some z) (hs2 : mR μ0 0 2 = some s2) : RU b z yc12 (0 + 1 + 18 + 3 + 5 + 7 + 8 + 5 + 8 + 64 + 7 + 8 + 8 + 24 + 24 + 24) μ0 (fun μ => f_X5_init_b56 5000 (b + 9) 0 μ) (AM b z yc14 (0 + 1 + 18 + 3 + 5 + 7 + 8 + 5 + 8 + 64 + 7 + 8 + 8 + 24 + 24 + 24) μ0) := by
  refine ru_loop (L := fun fu x μ => f_X5_init_b56 fu (b + 9) x μ) (K := fun μ => f_X5_init_b89 (b + 9) μ) 8 (by omega) (fun J => xW yc12 (fun o k => (o == 10 || o == 11 || o == 13) && decide (k < J)) (fun o k => if o = 10 then nI k else if o = 11 then nI k else if o = 13 then 1 else 0)) (fun μ h => h.w0 (fun o k => by simp)) (fun j fu μ hj h => ?_) (fun fu μ h => ?_) ?_
  · have ko : mK μ (b + 9) = 106 := h.k 106 (show 9 < yc12.1.length by decide) (show (yc12.1.getD 9 (0, 0)).1 = 106 by decide)
    have r10 : mR μ (b + 9) 0 = some (b + 10) := h.r 10 (by decide) (show 9 < yc12.1.length by decide) (show yc12.2.2 9 0 = some 10 by decide +kernel)
    have k10 : mK μ (b + 10) = 21 := h.k 21 (show 10 < yc12.1.length by decide) (show (yc12.1.getD 10 (0, 0)).1 = 21 by decide)
    have l10 : mL μ (b + 10) = 8 := h.l 8 (show 10 < yc12.1.length by decide) (show (yc12.1.getD 10 (0, 0)).2 = 8 by decide)
    have i10 := inbN (p := j) (n := 8) (by omega) (by omega)
    have r11 : mR μ (b + 9) 1 = some (b + 11) := h.r 11 (by decide) (show 9 < yc12.1.length by decide) (show yc12.2.2 9 1 = some 11 by decide +kernel)
    have k11 : mK μ (b + 11) = 21 := h.k 21 (show 11 < yc12.1.length by decide) (show (yc12.1.getD 11 (0, 0)).1 = 21 by decide)
    have l11 : mL μ (b + 11) = 8 := h.l 8 (show 11 < yc12.1.length by decide) (show (yc12.1.getD 11 (0, 0)).2 = 8 by decide)
    have i11 := inbN (p := j) (n := 8) (by omega) (by omega)
    have r13 : mR μ (b + 9) 3 = some (b + 13) := h.r 13 (by decide) (show 9 < yc12.1.length by decide) (show yc12.2.2 9 3 = some 13 by decide +kernel)
    have k13 : mK μ (b + 13) = 22 := h.k 22 (show 13 < yc12.1.length by decide) (show (yc12.1.getD 13 (0, 0)).1 = 22 by decide)
    have l13 : mL μ (b + 13) = 24 := h.l 24 (show 13 < yc12.1.length by decide) (show (yc12.1.getD 13 (0, 0)).2 = 24 by decide)
    have i13 := inbN (p := j) (n := 24) (by omega) (by omega)
    have cj := clN (show j < 100000 by omega)
    have c1 : ¬ (8 : Int32) ≤ nI j := nI_ge (b := 8) (by omega) (by omega)
    refine ⟨(sI (sI (sI μ (b + 10) j (nI j)) (b + 11) j (nI j)) (b + 13) j (1)), (((h.pW (o := 10) (j := j) (w := nI j) (show 10 < yc12.1.length by decide) (by rfl)).pW (o := 11) (j := j) (w := nI j) (show 11 < yc12.1.length by decide) (by rfl)).pW (o := 13) (j := j) (w := 1) (show 13 < yc12.1.length by decide) (by rfl)).wS (fun o k => ?_), ?_⟩
    · rw [Bool.eq_iff_iff]
      simp only [Bool.and_eq_true, Bool.or_eq_true, decide_eq_true_eq, beq_iff_eq]
      omega
    · simp only [f_X5_init_b56, c1, if_false, ko, r10, k10, l10, ck_t i10, r11, k11, l11, ck_t i11, r13, k13, l13, ck_t i13, ckT, bdS, ckA, cj, zlS, mK_sI, mL_sI, mR_sI', nI_1]
  · have c1 : (8 : Int32) ≤ nI 8 := by decide
    simp only [f_X5_init_b56, c1, if_true]
  · exact (i_X5_init_b89_9 h0 hz hs2)
theorem i_X5_init_9 (h0 : 0 < b) (hz : mR μ0 0 0 = some z) (hs2 : mR μ0 0 2 = some s2) : RU b z yc11 (0 + 1 + 18 + 3 + 5 + 7 + 8 + 5 + 8 + 64 + 7) μ0 (fun μ => f_X5_init (b + 9) μ) (AM b z yc14 (0 + 1 + 18 + 3 + 5 + 7 + 8 + 5 + 8 + 64 + 7 + 8 + 8 + 24 + 24 + 24) μ0) := by
  unfold f_X5_init
  refine ru_ck (by decide) ?_
  refine ru_nw 10 8 8 rfl (by decide) (by decide) ?_
  refine ru_k 9 106 (by decide) (by decide) ?_
  refine ru_sR 9 0 10 (by decide) (by decide) ?_
  refine ru_ck (by decide) ?_
  refine ru_nw 11 8 8 rfl (by decide) (by decide) ?_
  refine ru_k 9 106 (by decide) (by decide) ?_
  refine ru_sR 9 1 11 (by decide) (by decide) ?_
  refine ru_ck (by decide) ?_
  refine ru_nw 12 24 24 rfl (by decide) (by decide) ?_
  refine ru_k 9 106 (by decide) (by decide) ?_
  refine ru_sR 9 2 12 (by decide) (by decide) ?_
  refine ru_ck (by decide) ?_
  refine ru_nw 13 24 24 rfl (by decide) (by decide) ?_
  refine ru_k 9 106 (by decide) (by decide) ?_
  refine ru_sR 9 3 13 (by decide) (by decide) ?_
  refine ru_ck (by decide) ?_
  refine ru_nw 14 24 24 rfl (by decide) (by decide) ?_
  refine ru_k 9 106 (by decide) (by decide) ?_
  refine ru_sR 9 4 14 (by decide) (by decide) ?_
  refine ru_sI 9 5 (by decide) ?_
  refine ru_sI 9 6 (by decide) ?_
  exact (i_X5_init_b56_9 h0 hz hs2)
def yc15 : XM := xN (xR (yc14) 1 4 9) 108 0
def yc16 : XM := xI (xR (xN (xR (xN (xR (xN (xR (xN (yc15) 21 4) 15 0 16) 21 16) 15 1 17) 21 2) 15 2 18) 21 2) 15 3 19) 15 4 0
def yc17 : XM := (fun J => xW yc16 (fun o k => (o == 16) && decide (k < J)) (fun o k => if o = 16 then -1 else 0)) 4
def yc18 : XM := (fun J => xW yc17 (fun o k => (o == 17) && decide (k < J)) (fun o k => if o = 17 then 6 else 0)) 16
theorem i_X7_init_b60_15 (h0 : 0 < b) (hz : mR μ0 0 0 = some z) (hs2 : mR μ0 0 2 = some s2) : RU b z yc17 (0 + 1 + 18 + 3 + 5 + 7 + 8 + 5 + 8 + 64 + 7 + 8 + 8 + 24 + 24 + 24 + 5 + 4 + 16 + 2 + 2) μ0 (fun μ => f_X7_init_b60 5000 (b + 15) 0 μ) (AM b z yc18 (0 + 1 + 18 + 3 + 5 + 7 + 8 + 5 + 8 + 64 + 7 + 8 + 8 + 24 + 24 + 24 + 5 + 4 + 16 + 2 + 2) μ0) := by
  refine ru_loop (L := fun fu x μ => f_X7_init_b60 fu (b + 15) x μ) (K := fun μ => some ((), μ)) 16 (by omega) (fun J => xW yc17 (fun o k => (o == 17) && decide (k < J)) (fun o k => if o = 17 then 6 else 0)) (fun μ h => h.w0 (fun o k => by simp)) (fun j fu μ hj h => ?_) (fun fu μ h => ?_) ?_
  · have ko : mK μ (b + 15) = 108 := h.k 108 (show 15 < yc17.1.length by decide) (show (yc17.1.getD 15 (0, 0)).1 = 108 by decide)
    have r17 : mR μ (b + 15) 1 = some (b + 17) := h.r 17 (by decide) (show 15 < yc17.1.length by decide) (show yc17.2.2 15 1 = some 17 by decide +kernel)
    have k17 : mK μ (b + 17) = 21 := h.k 21 (show 17 < yc17.1.length by decide) (show (yc17.1.getD 17 (0, 0)).1 = 21 by decide)
    have l17 : mL μ (b + 17) = 16 := h.l 16 (show 17 < yc17.1.length by decide) (show (yc17.1.getD 17 (0, 0)).2 = 16 by decide)
    have i17 := inbN (p := j) (n := 16) (by omega) (by omega)
    have cj := clN (show j < 100000 by omega)
    have c1 : ¬ (16 : Int32) ≤ nI j := nI_ge (b := 16) (by omega) (by omega)
    refine ⟨(sI μ (b + 17) j (6)), (h.pW (o := 17) (j := j) (w := 6) (show 17 < yc17.1.length by decide) (by rfl)).wS (fun o k => ?_), ?_⟩
    · rw [Bool.eq_iff_iff]
      simp only [Bool.and_eq_true, Bool.or_eq_true, decide_eq_true_eq, beq_iff_eq]
      omega
    · simp only [f_X7_init_b60, c1, if_false, ko, r17, k17, l17, ck_t i17, ckT, bdS, ckA, cj, zlS, mK_sI, mL_sI, mR_sI', nI_1]
  · have c1 : (16 : Int32) ≤ nI 16 := by decide
    simp only [f_X7_init_b60, c1, if_true]
  · exact ru_end (fun _ h => h)
theorem i_X7_init_b58_15 (h0 : 0 < b) (hz : mR μ0 0 0 = some z) (hs2 : mR μ0 0 2 = some s2) : RU b z yc17 (0 + 1 + 18 + 3 + 5 + 7 + 8 + 5 + 8 + 64 + 7 + 8 + 8 + 24 + 24 + 24 + 5 + 4 + 16 + 2 + 2) μ0 (fun μ => f_X7_init_b58 (b + 15) μ) (AM b z yc18 (0 + 1 + 18 + 3 + 5 + 7 + 8 + 5 + 8 + 64 + 7 + 8 + 8 + 24 + 24 + 24 + 5 + 4 + 16 + 2 + 2) μ0) := by
  unfold f_X7_init_b58
  exact (i_X7_init_b60_15 h0 hz hs2)
theorem i_X7_init_b40_15 (h0 : 0 < b) (hz : mR μ0 0 0 = some z) (hs2 : mR μ0 0 2 = some s2) : RU b z yc16 (0 + 1 + 18 + 3 + 5 + 7 + 8 + 5 + 8 + 64 + 7 + 8 + 8 + 24 + 24 + 24 + 5 + 4 + 16 + 2 + 2) μ0 (fun μ => f_X7_init_b40 5000 (b + 15) 0 μ) (AM b z yc18 (0 + 1 + 18 + 3 + 5 + 7 + 8 + 5 + 8 + 64 + 7 + 8 + 8 + 24 + 24 + 24 + 5 + 4 + 16 + 2 + 2) μ0) := by
  refine ru_loop (L := fun fu x μ => f_X7_init_b40 fu (b + 15) x μ) (K := fun μ => f_X7_init_b58 (b + 15) μ) 4 (by omega) (fun J => xW yc16 (fun o k => (o == 16) && decide (k < J)) (fun o k => if o = 16 then -1 else 0)) (fun μ h => h.w0 (fun o k => by simp)) (fun j fu μ hj h => ?_) (fun fu μ h => ?_) ?_
  · have ko : mK μ (b + 15) = 108 := h.k 108 (show 15 < yc16.1.length by decide) (show (yc16.1.getD 15 (0, 0)).1 = 108 by decide)
    have r16 : mR μ (b + 15) 0 = some (b + 16) := h.r 16 (by decide) (show 15 < yc16.1.length by decide) (show yc16.2.2 15 0 = some 16 by decide +kernel)
    have k16 : mK μ (b + 16) = 21 := h.k 21 (show 16 < yc16.1.length by decide) (show (yc16.1.getD 16 (0, 0)).1 = 21 by decide)
    have l16 : mL μ (b + 16) = 4 := h.l 4 (show 16 < yc16.1.length by decide) (show (yc16.1.getD 16 (0, 0)).2 = 4 by decide)
    have i16 := inbN (p := j) (n := 4) (by omega) (by omega)
    have cj := clN (show j < 100000 by omega)
    have c1 : ¬ (4 : Int32) ≤ nI j := nI_ge (b := 4) (by omega) (by omega)
    refine ⟨(sI μ (b + 16) j (-1)), (h.pW (o := 16) (j := j) (w := -1) (show 16 < yc16.1.length by decide) (by rfl)).wS (fun o k => ?_), ?_⟩
    · rw [Bool.eq_iff_iff]
      simp only [Bool.and_eq_true, Bool.or_eq_true, decide_eq_true_eq, beq_iff_eq]
      omega
    · simp only [f_X7_init_b40, c1, if_false, ko, r16, k16, l16, ck_t i16, ckT, bdS, ckA, cj, zlS, mK_sI, mL_sI, mR_sI', nI_1]
  · have c1 : (4 : Int32) ≤ nI 4 := by decide
    simp only [f_X7_init_b40, c1, if_true]
  · exact (i_X7_init_b58_15 h0 hz hs2)
theorem i_X7_init_15 (h0 : 0 < b) (hz : mR μ0 0 0 = some z) (hs2 : mR μ0 0 2 = some s2) : RU b z yc15 (0 + 1 + 18 + 3 + 5 + 7 + 8 + 5 + 8 + 64 + 7 + 8 + 8 + 24 + 24 + 24 + 5) μ0 (fun μ => f_X7_init (b + 15) μ) (AM b z yc18 (0 + 1 + 18 + 3 + 5 + 7 + 8 + 5 + 8 + 64 + 7 + 8 + 8 + 24 + 24 + 24 + 5 + 4 + 16 + 2 + 2) μ0) := by
  unfold f_X7_init
  refine ru_ck (by decide) ?_
  refine ru_nw 16 4 4 rfl (by decide) (by decide) ?_
  refine ru_k 15 108 (by decide) (by decide) ?_
  refine ru_sR 15 0 16 (by decide) (by decide) ?_
  refine ru_ck (by decide) ?_
  refine ru_nw 17 16 16 rfl (by decide) (by decide) ?_
  refine ru_k 15 108 (by decide) (by decide) ?_
  refine ru_sR 15 1 17 (by decide) (by decide) ?_
  refine ru_ck (by decide) ?_
  refine ru_nw 18 2 2 rfl (by decide) (by decide) ?_
  refine ru_k 15 108 (by decide) (by decide) ?_
  refine ru_sR 15 2 18 (by decide) (by decide) ?_
  refine ru_ck (by decide) ?_
  refine ru_nw 19 2 2 rfl (by decide) (by decide) ?_
  refine ru_k 15 108 (by decide) (by decide) ?_
  refine ru_sR 15 3 19 (by decide) (by decide) ?_
  refine ru_sI 15 4 (by decide) ?_
  exact (i_X7_init_b40_15 h0 hz hs2)
def yc19 : XM := xN (xR (yc18) 1 5 15) 105 0
def yc20 : XM := xN (yc19) 100 0
def yc21 : XM := xR (xI yc20 21 0 0) 21 1 1000
def yc22 : XM := xI (xI (xI (xR (xN (xR (xN (xR (xN (xR (yc21) 20 0 21) 21 16) 20 1 22) 21 8) 20 2 23) 41 0) 20 3 24) 20 4 0) 20 5 0) 20 6 0
def yc23 : XM := (fun J => xW yc22 (fun o k => (o == 22) && decide (k < J)) (fun o k => if o = 22 then 1 else 0)) 16
def yc24 : XM := (fun J => xW yc23 (fun o k => (o == 23) && decide (k < J)) (fun o k => if o = 23 then -1 else 0)) 8
theorem i_X4_init_b76_20 (h0 : 0 < b) (hz : mR μ0 0 0 = some z) (hs2 : mR μ0 0 2 = some s2) : RU b z yc23 (0 + 1 + 18 + 3 + 5 + 7 + 8 + 5 + 8 + 64 + 7 + 8 + 8 + 24 + 24 + 24 + 5 + 4 + 16 + 2 + 2 + 7 + 3 + 16 + 8 + 0) μ0 (fun μ => f_X4_init_b76 5000 (b + 20) 0 μ) (AM b z yc24 (0 + 1 + 18 + 3 + 5 + 7 + 8 + 5 + 8 + 64 + 7 + 8 + 8 + 24 + 24 + 24 + 5 + 4 + 16 + 2 + 2 + 7 + 3 + 16 + 8 + 0) μ0) := by
  refine ru_loop (L := fun fu x μ => f_X4_init_b76 fu (b + 20) x μ) (K := fun μ => some ((), μ)) 8 (by omega) (fun J => xW yc23 (fun o k => (o == 23) && decide (k < J)) (fun o k => if o = 23 then -1 else 0)) (fun μ h => h.w0 (fun o k => by simp)) (fun j fu μ hj h => ?_) (fun fu μ h => ?_) ?_
  · have ko : mK μ (b + 20) = 105 := h.k 105 (show 20 < yc23.1.length by decide) (show (yc23.1.getD 20 (0, 0)).1 = 105 by decide)
    have r23 : mR μ (b + 20) 2 = some (b + 23) := h.r 23 (by decide) (show 20 < yc23.1.length by decide) (show yc23.2.2 20 2 = some 23 by decide +kernel)
    have k23 : mK μ (b + 23) = 21 := h.k 21 (show 23 < yc23.1.length by decide) (show (yc23.1.getD 23 (0, 0)).1 = 21 by decide)
    have l23 : mL μ (b + 23) = 8 := h.l 8 (show 23 < yc23.1.length by decide) (show (yc23.1.getD 23 (0, 0)).2 = 8 by decide)
    have i23 := inbN (p := j) (n := 8) (by omega) (by omega)
    have cj := clN (show j < 100000 by omega)
    have c1 : ¬ (8 : Int32) ≤ nI j := nI_ge (b := 8) (by omega) (by omega)
    refine ⟨(sI μ (b + 23) j (-1)), (h.pW (o := 23) (j := j) (w := -1) (show 23 < yc23.1.length by decide) (by rfl)).wS (fun o k => ?_), ?_⟩
    · rw [Bool.eq_iff_iff]
      simp only [Bool.and_eq_true, Bool.or_eq_true, decide_eq_true_eq, beq_iff_eq]
      omega
    · simp only [f_X4_init_b76, c1, if_false, ko, r23, k23, l23, ck_t i23, ckT, bdS, ckA, cj, zlS, mK_sI, mL_sI, mR_sI', nI_1]
  · have c1 : (8 : Int32) ≤ nI 8 := by decide
    simp only [f_X4_init_b76, c1, if_true]
  · exact ru_end (fun _ h => h)
theorem i_X4_init_b74_20 (h0 : 0 < b) (hz : mR μ0 0 0 = some z) (hs2 : mR μ0 0 2 = some s2) : RU b z yc23 (0 + 1 + 18 + 3 + 5 + 7 + 8 + 5 + 8 + 64 + 7 + 8 + 8 + 24 + 24 + 24 + 5 + 4 + 16 + 2 + 2 + 7 + 3 + 16 + 8 + 0) μ0 (fun μ => f_X4_init_b74 (b + 20) μ) (AM b z yc24 (0 + 1 + 18 + 3 + 5 + 7 + 8 + 5 + 8 + 64 + 7 + 8 + 8 + 24 + 24 + 24 + 5 + 4 + 16 + 2 + 2 + 7 + 3 + 16 + 8 + 0) μ0) := by
  unfold f_X4_init_b74
  exact (i_X4_init_b76_20 h0 hz hs2)
theorem i_X4_init_b55_20 (h0 : 0 < b) (hz : mR μ0 0 0 = some z) (hs2 : mR μ0 0 2 = some s2) : RU b z yc22 (0 + 1 + 18 + 3 + 5 + 7 + 8 + 5 + 8 + 64 + 7 + 8 + 8 + 24 + 24 + 24 + 5 + 4 + 16 + 2 + 2 + 7 + 3 + 16 + 8 + 0) μ0 (fun μ => f_X4_init_b55 5000 (b + 20) 0 μ) (AM b z yc24 (0 + 1 + 18 + 3 + 5 + 7 + 8 + 5 + 8 + 64 + 7 + 8 + 8 + 24 + 24 + 24 + 5 + 4 + 16 + 2 + 2 + 7 + 3 + 16 + 8 + 0) μ0) := by
  refine ru_loop (L := fun fu x μ => f_X4_init_b55 fu (b + 20) x μ) (K := fun μ => f_X4_init_b74 (b + 20) μ) 16 (by omega) (fun J => xW yc22 (fun o k => (o == 22) && decide (k < J)) (fun o k => if o = 22 then 1 else 0)) (fun μ h => h.w0 (fun o k => by simp)) (fun j fu μ hj h => ?_) (fun fu μ h => ?_) ?_
  · have ko : mK μ (b + 20) = 105 := h.k 105 (show 20 < yc22.1.length by decide) (show (yc22.1.getD 20 (0, 0)).1 = 105 by decide)
    have r22 : mR μ (b + 20) 1 = some (b + 22) := h.r 22 (by decide) (show 20 < yc22.1.length by decide) (show yc22.2.2 20 1 = some 22 by decide +kernel)
    have k22 : mK μ (b + 22) = 21 := h.k 21 (show 22 < yc22.1.length by decide) (show (yc22.1.getD 22 (0, 0)).1 = 21 by decide)
    have l22 : mL μ (b + 22) = 16 := h.l 16 (show 22 < yc22.1.length by decide) (show (yc22.1.getD 22 (0, 0)).2 = 16 by decide)
    have i22 := inbN (p := j) (n := 16) (by omega) (by omega)
    have cj := clN (show j < 100000 by omega)
    have c1 : ¬ (16 : Int32) ≤ nI j := nI_ge (b := 16) (by omega) (by omega)
    refine ⟨(sI μ (b + 22) j (1)), (h.pW (o := 22) (j := j) (w := 1) (show 22 < yc22.1.length by decide) (by rfl)).wS (fun o k => ?_), ?_⟩
    · rw [Bool.eq_iff_iff]
      simp only [Bool.and_eq_true, Bool.or_eq_true, decide_eq_true_eq, beq_iff_eq]
      omega
    · simp only [f_X4_init_b55, c1, if_false, ko, r22, k22, l22, ck_t i22, ckT, bdS, ckA, cj, zlS, mK_sI, mL_sI, mR_sI', nI_1]
  · have c1 : (16 : Int32) ≤ nI 16 := by decide
    simp only [f_X4_init_b55, c1, if_true]
  · exact (i_X4_init_b74_20 h0 hz hs2)
theorem i_X4_init_20 (h0 : 0 < b) (hz : mR μ0 0 0 = some z) (hs2 : mR μ0 0 2 = some s2) : RU b z yc19 (0 + 1 + 18 + 3 + 5 + 7 + 8 + 5 + 8 + 64 + 7 + 8 + 8 + 24 + 24 + 24 + 5 + 4 + 16 + 2 + 2 + 7) μ0 (fun μ => f_X4_init (b + 20) μ) (AM b z yc24 (0 + 1 + 18 + 3 + 5 + 7 + 8 + 5 + 8 + 64 + 7 + 8 + 8 + 24 + 24 + 24 + 5 + 4 + 16 + 2 + 2 + 7 + 3 + 16 + 8 + 0) μ0) := by
  unfold f_X4_init
  refine ru_nw 21 0 3 rfl (by decide) (by decide) ?_
  refine ru_cl (Y := yc21) (t' := 0 + 1 + 18 + 3 + 5 + 7 + 8 + 5 + 8 + 64 + 7 + 8 + 8 + 24 + 24 + 24 + 5 + 4 + 16 + 2 + 2 + 7 + 3) (i_list 21 h0 hz (by decide) (by decide)) ?_
  refine ru_k 20 105 (by decide) (by decide) ?_
  refine ru_sR 20 0 21 (by decide) (by decide) ?_
  refine ru_ck (by decide) ?_
  refine ru_nw 22 16 16 rfl (by decide) (by decide) ?_
  refine ru_k 20 105 (by decide) (by decide) ?_
  refine ru_sR 20 1 22 (by decide) (by decide) ?_
  refine ru_ck (by decide) ?_
  refine ru_nw 23 8 8 rfl (by decide) (by decide) ?_
  refine ru_k 20 105 (by decide) (by decide) ?_
  refine ru_sR 20 2 23 (by decide) (by decide) ?_
  refine ru_ck (by decide) ?_
  refine ru_nw 24 0 0 rfl (by decide) (by decide) ?_
  refine ru_k 20 105 (by decide) (by decide) ?_
  refine ru_sR 20 3 24 (by decide) (by decide) ?_
  refine ru_sI 20 4 (by decide) ?_
  refine ru_sI 20 5 (by decide) ?_
  refine ru_sI 20 6 (by decide) ?_
  exact (i_X4_init_b55_20 h0 hz hs2)
def yc25 : XM := xN (xR (yc24) 1 6 20) 100 0
def yc26 : XM := xR (xI yc25 25 0 0) 25 1 1000
def yc27 : XM := xN (xR (yc26) 1 7 25) 100 0
def yc28 : XM := xR (xI yc27 26 0 0) 26 1 1000
def yc29 : XM := xI (xI (xI (xI (xI (xI (xR (xN (xR (xN (xR (xN (xR (yc28) 1 8 26) 21 64) 1 9 27) 22 16) 1 10 28) 21 4) 1 11 29) 1 12 0) 1 13 0) 1 14 0) 1 15 0) 1 16 0) 1 17 0
theorem i_X0_init_1 (h0 : 0 < b) (hz : mR μ0 0 0 = some z) (hs2 : mR μ0 0 2 = some s2) : RU b z yc2 (0 + 1 + 18) μ0 (fun μ => f_X0_init (b + 1) μ) (AM b z yc29 (0 + 1 + 18 + 3 + 5 + 7 + 8 + 5 + 8 + 64 + 7 + 8 + 8 + 24 + 24 + 24 + 5 + 4 + 16 + 2 + 2 + 7 + 3 + 16 + 8 + 0 + 3 + 3 + 64 + 16 + 4) μ0) := by
  unfold f_X0_init
  refine ru_nw 2 0 3 rfl (by decide) (by decide) ?_
  refine ru_cl (Y := yc4) (t' := 0 + 1 + 18 + 3) (i_list 2 h0 hz (by decide) (by decide)) ?_
  refine ru_k 1 101 (by decide) (by decide) ?_
  refine ru_sR 1 0 2 (by decide) (by decide) ?_
  refine ru_nw 3 0 5 rfl (by decide) (by decide) ?_
  refine ru_cl (Y := yc6) (t' := 0 + 1 + 18 + 3 + 5) (i_X9_init_3 h0 hz hs2) ?_
  refine ru_k 1 101 (by decide) (by decide) ?_
  refine ru_sR 1 1 3 (by decide) (by decide) ?_
  refine ru_nw 4 0 7 rfl (by decide) (by decide) ?_
  refine ru_cl (Y := yc8) (t' := 0 + 1 + 18 + 3 + 5 + 7 + 8) (i_X1_init_4 h0 hz hs2) ?_
  refine ru_k 1 101 (by decide) (by decide) ?_
  refine ru_sR 1 2 4 (by decide) (by decide) ?_
  refine ru_nw 6 0 5 rfl (by decide) (by decide) ?_
  refine ru_cl (Y := yc10) (t' := 0 + 1 + 18 + 3 + 5 + 7 + 8 + 5 + 8 + 64) (i_X8_init_6 h0 hz hs2) ?_
  refine ru_k 1 101 (by decide) (by decide) ?_
  refine ru_sR 1 3 6 (by decide) (by decide) ?_
  refine ru_nw 9 0 7 rfl (by decide) (by decide) ?_
  refine ru_cl (Y := yc14) (t' := 0 + 1 + 18 + 3 + 5 + 7 + 8 + 5 + 8 + 64 + 7 + 8 + 8 + 24 + 24 + 24) (i_X5_init_9 h0 hz hs2) ?_
  refine ru_k 1 101 (by decide) (by decide) ?_
  refine ru_sR 1 4 9 (by decide) (by decide) ?_
  refine ru_nw 15 0 5 rfl (by decide) (by decide) ?_
  refine ru_cl (Y := yc18) (t' := 0 + 1 + 18 + 3 + 5 + 7 + 8 + 5 + 8 + 64 + 7 + 8 + 8 + 24 + 24 + 24 + 5 + 4 + 16 + 2 + 2) (i_X7_init_15 h0 hz hs2) ?_
  refine ru_k 1 101 (by decide) (by decide) ?_
  refine ru_sR 1 5 15 (by decide) (by decide) ?_
  refine ru_nw 20 0 7 rfl (by decide) (by decide) ?_
  refine ru_cl (Y := yc24) (t' := 0 + 1 + 18 + 3 + 5 + 7 + 8 + 5 + 8 + 64 + 7 + 8 + 8 + 24 + 24 + 24 + 5 + 4 + 16 + 2 + 2 + 7 + 3 + 16 + 8 + 0) (i_X4_init_20 h0 hz hs2) ?_
  refine ru_k 1 101 (by decide) (by decide) ?_
  refine ru_sR 1 6 20 (by decide) (by decide) ?_
  refine ru_nw 25 0 3 rfl (by decide) (by decide) ?_
  refine ru_cl (Y := yc26) (t' := 0 + 1 + 18 + 3 + 5 + 7 + 8 + 5 + 8 + 64 + 7 + 8 + 8 + 24 + 24 + 24 + 5 + 4 + 16 + 2 + 2 + 7 + 3 + 16 + 8 + 0 + 3) (i_list 25 h0 hz (by decide) (by decide)) ?_
  refine ru_k 1 101 (by decide) (by decide) ?_
  refine ru_sR 1 7 25 (by decide) (by decide) ?_
  refine ru_nw 26 0 3 rfl (by decide) (by decide) ?_
  refine ru_cl (Y := yc28) (t' := 0 + 1 + 18 + 3 + 5 + 7 + 8 + 5 + 8 + 64 + 7 + 8 + 8 + 24 + 24 + 24 + 5 + 4 + 16 + 2 + 2 + 7 + 3 + 16 + 8 + 0 + 3 + 3) (i_list 26 h0 hz (by decide) (by decide)) ?_
  refine ru_k 1 101 (by decide) (by decide) ?_
  refine ru_sR 1 8 26 (by decide) (by decide) ?_
  refine ru_ck (by decide) ?_
  refine ru_nw 27 64 64 rfl (by decide) (by decide) ?_
  refine ru_k 1 101 (by decide) (by decide) ?_
  refine ru_sR 1 9 27 (by decide) (by decide) ?_
  refine ru_ck (by decide) ?_
  refine ru_nw 28 16 16 rfl (by decide) (by decide) ?_
  refine ru_k 1 101 (by decide) (by decide) ?_
  refine ru_sR 1 10 28 (by decide) (by decide) ?_
  unfold f_X0_init_b119
  refine ru_ck (by decide) ?_
  refine ru_nw 29 4 4 rfl (by decide) (by decide) ?_
  refine ru_k 1 101 (by decide) (by decide) ?_
  refine ru_sR 1 11 29 (by decide) (by decide) ?_
  refine ru_sI 1 12 (by decide) ?_
  refine ru_sI 1 13 (by decide) ?_
  refine ru_sI 1 14 (by decide) ?_
  refine ru_sI 1 15 (by decide) ?_
  refine ru_sI 1 16 (by decide) ?_
  refine ru_sI 1 17 (by decide) ?_
  exact ru_end (fun _ h => h)
def yc30 : XM := xR (yc29) 0 0 1
theorem i_X10_init_0 (h0 : 0 < b) (hz : mR μ0 0 0 = some z) (hs2 : mR μ0 0 2 = some s2) : RU b z yc1 (0 + 1) μ0 (fun μ => f_X10_init (b + 0) μ) (AM b z yc30 (0 + 1 + 18 + 3 + 5 + 7 + 8 + 5 + 8 + 64 + 7 + 8 + 8 + 24 + 24 + 24 + 5 + 4 + 16 + 2 + 2 + 7 + 3 + 16 + 8 + 0 + 3 + 3 + 64 + 16 + 4) μ0) := by
  unfold f_X10_init
  refine ru_nw 1 0 18 rfl (by decide) (by decide) ?_
  refine ru_cl (Y := yc29) (t' := 0 + 1 + 18 + 3 + 5 + 7 + 8 + 5 + 8 + 64 + 7 + 8 + 8 + 24 + 24 + 24 + 5 + 4 + 16 + 2 + 2 + 7 + 3 + 16 + 8 + 0 + 3 + 3 + 64 + 16 + 4) (i_X0_init_1 h0 hz hs2) ?_
  refine ru_k 0 111 (by decide) (by decide) ?_
  refine ru_sR 0 0 1 (by decide) (by decide) ?_
  exact ru_end (fun _ h => h)
end ICL
