/-! the model is made -/
section IMO
variable {b z s2 : Nat} {μ0 μ μ' : Mm} {Q : Mm → Prop}
def ym1 : XM := xN yc30 112 0
def ym2 : XM := xR (xN (xR (xN (xR (xN (xR (xN (xR (xN (xR (xN (xR (xN (xR (xN (xR (xN (xR (xN (xR (xN (xR (xN (xR (xN (xR (xM (xR (xM (xR (xN (xR (xN (xR (xN (xR (xN (xR (xN (xR (xN (xR (xN (xR (xN (xR (xN (xI (xI (xI (xI (xI (xI (xR (xN (xR (xN (xR (xN (xR (xN (xR (xN (ym1) 11 64) 30 0 31) 11 64) 30 1 32) 11 64) 30 2 33) 11 64) 30 3 34) 11 64) 30 4 35) 30 6 2) 30 7 8) 30 8 4) 30 9 16) 30 10 ((-1))) 30 11 ((-1))) 11 8) 30 12 36) 11 64) 30 13 37) 11 16) 30 14 38) 11 64) 30 15 39) 11 8) 30 16 40) 11 8) 30 17 41) 11 24) 30 18 42) 12 24) 30 19 43) 11 24) 30 20 44) 15 11 16 28) 30 22 45) 15 11 8 28) 30 24 62) 11 5) 30 28 71) 11 16) 30 29 72) 11 8) 30 30 73) 12 16) 30 31 74) 11 4) 30 32 75) 11 2) 30 33 76) 11 2) 30 34 77) 11 2004) 30 43 78) 11 2004) 30 44 79) 15 2004) 30 45 80) 11 8) 30 47 81) 11 8) 30 55 82) 11 64) 30 56 83
def ym3 : XM := (fun J => xW ym2 (fun o k => (o == 38 || o == 72) && decide (k < J)) (fun o k => if o = 38 then 6 else if o = 72 then 1 else 0)) 16
def ym4 : XM := (fun J => xW ym3 (fun o k => (o == 73) && decide (k < J)) (fun o k => if o = 73 then -1 else 0)) 8
def ym5 : XM := (fun J => xW ym4 (fun o k => (o == 75) && decide (k < J)) (fun o k => if o = 75 then -1 else 0)) 4
def ym6 : XM := (fun J => xW ym5 (fun o k => (o == 40 || o == 41 || o == 43) && decide (k < J)) (fun o k => if o = 40 then nI k else if o = 41 then nI k else if o = 43 then 1 else 0)) 8
def ym7 : XM := (fun J => xW (xI ym6 30 21 8) (fun o k => o == 44 && decide (k < J)) (fun _ k => nI (k + 8))) 8
set_option maxRecDepth 100000 in
theorem i_lays : RU b z ym6 (367 + 61 + 64 + 64 + 64 + 64 + 64 + 8 + 64 + 16 + 64 + 8 + 8 + 24 + 24 + 24 + (16 + 16 * 28) + (8 + 8 * 28) + 5 + 16 + 8 + 16 + 4 + 2 + 2 + 2004 + 2004 + 2004 + 8 + 8 + 64) μ0 (fun μ => f_X11_laysFree (b + 30) μ) (AM b z ym7 (367 + 61 + 64 + 64 + 64 + 64 + 64 + 8 + 64 + 16 + 64 + 8 + 8 + 24 + 24 + 24 + (16 + 16 * 28) + (8 + 8 * 28) + 5 + 16 + 8 + 16 + 4 + 2 + 2 + 2004 + 2004 + 2004 + 8 + 8 + 64) μ0) := by
  have key : RU b z ym6 (367 + 61 + 64 + 64 + 64 + 64 + 64 + 8 + 64 + 16 + 64 + 8 + 8 + 24 + 24 + 24 + (16 + 16 * 28) + (8 + 8 * 28) + 5 + 16 + 8 + 16 + 4 + 2 + 2 + 2004 + 2004 + 2004 + 8 + 8 + 64) μ0 (fun μ => zl (sI μ (b + 30) 21 8) fun μ' => f_X11_laysFree_b13 5000 (b + 30) 0 μ') (AM b z ym7 (367 + 61 + 64 + 64 + 64 + 64 + 64 + 8 + 64 + 16 + 64 + 8 + 8 + 24 + 24 + 24 + (16 + 16 * 28) + (8 + 8 * 28) + 5 + 16 + 8 + 16 + 4 + 2 + 2 + 2004 + 2004 + 2004 + 8 + 8 + 64) μ0) := by
    refine ru_sI 30 21 (by decide) ?_
    refine ru_loop (L := fun fu x μ => f_X11_laysFree_b13 fu (b + 30) x μ) (K := fun μ => some ((), μ)) 8 (by omega) (fun J => xW (xI ym6 30 21 8) (fun o k => o == 44 && decide (k < J)) (fun _ k => nI (k + 8))) (fun μ h => h.w0 (fun o k => by simp)) (fun j fu μ hj h => ?_) (fun fu μ h => ?_) (ru_end (fun _ h => h))
    · have ko : mK μ (b + 30) = 112 := h.k 112 (show 30 < ym6.1.length by decide) (show (ym6.1.getD 30 (0, 0)).1 = 112 by decide)
      have r4 : mR μ (b + 30) 20 = some (b + 44) := h.r 44 (by decide) (show 30 < ym6.1.length by decide) (show ym6.2.2 30 20 = some 44 by decide +kernel)
      have k44 : mK μ (b + 44) = 11 := h.k 11 (show 44 < ym6.1.length by decide) (show (ym6.1.getD 44 (0, 0)).1 = 11 by decide)
      have l44 : mL μ (b + 44) = 24 := h.l 24 (show 44 < ym6.1.length by decide) (show (ym6.1.getD 44 (0, 0)).2 = 24 by decide)
      have i21 : mI μ (b + 30) 21 = 8 := h.i 8 (show 30 < ym6.1.length by decide) (by rfl)
      have ib := inbN (p := j) (n := 24) (by omega) (by omega)
      have cj := clN (show j < 100000 by omega)
      have e8 : 8 + nI j = nI (j + 8) := by rw [Int32.add_comm]; exact nI_add _ _
      have c1 : ¬ (8 : Int32) ≤ nI j := nI_ge (b := 8) (by omega) (by omega)
      refine ⟨sI μ (b + 44) j (nI (j + 8)), (h.pW (o := 44) (j := j) (w := nI (j + 8)) (show 44 < ym6.1.length by decide) (by rfl)).wS (fun o k => ?_), ?_⟩
      · rw [Bool.eq_iff_iff]
        simp only [Bool.and_eq_true, Bool.or_eq_true, decide_eq_true_eq, beq_iff_eq]
        omega
      · simp only [f_X11_laysFree_b13, ko, ckT, i21, c1, if_false, r4, bdS, k44, l44, ckA, ck_t ib, cj, zlS, e8, nI_1]
    · have ko : mK μ (b + 30) = 112 := h.k 112 (show 30 < ym6.1.length by decide) (show (ym6.1.getD 30 (0, 0)).1 = 112 by decide)
      have i21 : mI μ (b + 30) 21 = 8 := h.i 8 (show 30 < ym6.1.length by decide) (by rfl)
      have c1 : (8 : Int32) ≤ nI 8 := by decide
      simp only [f_X11_laysFree_b13, ko, ckT, i21, c1, if_true]
  intro μ h
  have ko : mK μ (b + 30) = 112 := h.k 112 (show 30 < ym6.1.length by decide) (show (ym6.1.getD 30 (0, 0)).1 = 112 by decide)
  have i9 : mI μ (b + 30) 9 = 16 := h.i 16 (show 30 < ym6.1.length by decide) (by rfl)
  have e : (16 : Int32) - 8 = 8 := by decide
  obtain ⟨μ', e1, q⟩ := key μ h
  refine ⟨μ', ?_, q⟩
  rw [← e1]
  simp only [f_X11_laysFree, ko, ckT, i9, e]
set_option maxRecDepth 100000 in
theorem i_X11_init_b381_30 : RU b z ym6 (367 + 61 + 64 + 64 + 64 + 64 + 64 + 8 + 64 + 16 + 64 + 8 + 8 + 24 + 24 + 24 + (16 + 16 * 28) + (8 + 8 * 28) + 5 + 16 + 8 + 16 + 4 + 2 + 2 + 2004 + 2004 + 2004 + 8 + 8 + 64) μ0 (fun μ => f_X11_init_b381 (b + 30) μ) (AM b z ym7 (367 + 61 + 64 + 64 + 64 + 64 + 64 + 8 + 64 + 16 + 64 + 8 + 8 + 24 + 24 + 24 + (16 + 16 * 28) + (8 + 8 * 28) + 5 + 16 + 8 + 16 + 4 + 2 + 2 + 2004 + 2004 + 2004 + 8 + 8 + 64) μ0) := by
  unfold f_X11_init_b381
  refine ru_k 30 112 (by decide) (by decide) ?_
  refine ru_cl (Y := ym7) (t' := 367 + 61 + 64 + 64 + 64 + 64 + 64 + 8 + 64 + 16 + 64 + 8 + 8 + 24 + 24 + 24 + (16 + 16 * 28) + (8 + 8 * 28) + 5 + 16 + 8 + 16 + 4 + 2 + 2 + 2004 + 2004 + 2004 + 8 + 8 + 64) (i_lays ) ?_
  exact ru_end (fun _ h => h)
set_option maxRecDepth 100000 in
theorem i_X11_init_b348_30 : RU b z ym5 (367 + 61 + 64 + 64 + 64 + 64 + 64 + 8 + 64 + 16 + 64 + 8 + 8 + 24 + 24 + 24 + (16 + 16 * 28) + (8 + 8 * 28) + 5 + 16 + 8 + 16 + 4 + 2 + 2 + 2004 + 2004 + 2004 + 8 + 8 + 64) μ0 (fun μ => f_X11_init_b348 5000 (b + 30) 0 μ) (AM b z ym7 (367 + 61 + 64 + 64 + 64 + 64 + 64 + 8 + 64 + 16 + 64 + 8 + 8 + 24 + 24 + 24 + (16 + 16 * 28) + (8 + 8 * 28) + 5 + 16 + 8 + 16 + 4 + 2 + 2 + 2004 + 2004 + 2004 + 8 + 8 + 64) μ0) := by
  refine ru_loop (L := fun fu x μ => f_X11_init_b348 fu (b + 30) x μ) (K := fun μ => f_X11_init_b381 (b + 30) μ) 8 (by omega) (fun J => xW ym5 (fun o k => (o == 40 || o == 41 || o == 43) && decide (k < J)) (fun o k => if o = 40 then nI k else if o = 41 then nI k else if o = 43 then 1 else 0)) (fun μ h => h.w0 (fun o k => by simp)) (fun j fu μ hj h => ?_) (fun fu μ h => ?_) ?_
  · have ko : mK μ (b + 30) = 112 := h.k 112 (show 30 < ym5.1.length by decide) (show (ym5.1.getD 30 (0, 0)).1 = 112 by decide)
    have r40 : mR μ (b + 30) 16 = some (b + 40) := h.r 40 (by decide) (show 30 < ym5.1.length by decide) (show ym5.2.2 30 16 = some 40 by decide +kernel)
    have k40 : mK μ (b + 40) = 11 := h.k 11 (show 40 < ym5.1.length by decide) (show (ym5.1.getD 40 (0, 0)).1 = 11 by decide)
    have l40 : mL μ (b + 40) = 8 := h.l 8 (show 40 < ym5.1.length by decide) (show (ym5.1.getD 40 (0, 0)).2 = 8 by decide)
    have i40 := inbN (p := j) (n := 8) (by omega) (by omega)
    have r41 : mR μ (b + 30) 17 = some (b + 41) := h.r 41 (by decide) (show 30 < ym5.1.length by decide) (show ym5.2.2 30 17 = some 41 by decide +kernel)
    have k41 : mK μ (b + 41) = 11 := h.k 11 (show 41 < ym5.1.length by decide) (show (ym5.1.getD 41 (0, 0)).1 = 11 by decide)
    have l41 : mL μ (b + 41) = 8 := h.l 8 (show 41 < ym5.1.length by decide) (show (ym5.1.getD 41 (0, 0)).2 = 8 by decide)
    have i41 := inbN (p := j) (n := 8) (by omega) (by omega)
    have r43 : mR μ (b + 30) 19 = some (b + 43) := h.r 43 (by decide) (show 30 < ym5.1.length by decide) (show ym5.2.2 30 19 = some 43 by decide +kernel)
    have k43 : mK μ (b + 43) = 12 := h.k 12 (show 43 < ym5.1.length by decide) (show (ym5.1.getD 43 (0, 0)).1 = 12 by decide)
    have l43 : mL μ (b + 43) = 24 := h.l 24 (show 43 < ym5.1.length by decide) (show (ym5.1.getD 43 (0, 0)).2 = 24 by decide)
    have i43 := inbN (p := j) (n := 24) (by omega) (by omega)
    have cj := clN (show j < 100000 by omega)
    have c1 : ¬ (8 : Int32) ≤ nI j := nI_ge (b := 8) (by omega) (by omega)
    refine ⟨(sI (sI (sI μ (b + 40) j (nI j)) (b + 41) j (nI j)) (b + 43) j (1)), (((h.pW (o := 40) (j := j) (w := nI j) (show 40 < ym5.1.length by decide) (by rfl)).pW (o := 41) (j := j) (w := nI j) (show 41 < ym5.1.length by decide) (by rfl)).pW (o := 43) (j := j) (w := 1) (show 43 < ym5.1.length by decide) (by rfl)).wS (fun o k => ?_), ?_⟩
    · rw [Bool.eq_iff_iff]
      simp only [Bool.and_eq_true, Bool.or_eq_true, decide_eq_true_eq, beq_iff_eq]
      omega
    · simp only [f_X11_init_b348, c1, if_false, ko, r40, k40, l40, ck_t i40, r41, k41, l41, ck_t i41, r43, k43, l43, ck_t i43, ckT, bdS, ckA, cj, zlS, mK_sI, mL_sI, mR_sI', nI_1]
  · have c1 : (8 : Int32) ≤ nI 8 := by decide
    simp only [f_X11_init_b348, c1, if_true]
  · exact (i_X11_init_b381_30 )
set_option maxRecDepth 100000 in
theorem i_X11_init_b346_30 : RU b z ym5 (367 + 61 + 64 + 64 + 64 + 64 + 64 + 8 + 64 + 16 + 64 + 8 + 8 + 24 + 24 + 24 + (16 + 16 * 28) + (8 + 8 * 28) + 5 + 16 + 8 + 16 + 4 + 2 + 2 + 2004 + 2004 + 2004 + 8 + 8 + 64) μ0 (fun μ => f_X11_init_b346 (b + 30) μ) (AM b z ym7 (367 + 61 + 64 + 64 + 64 + 64 + 64 + 8 + 64 + 16 + 64 + 8 + 8 + 24 + 24 + 24 + (16 + 16 * 28) + (8 + 8 * 28) + 5 + 16 + 8 + 16 + 4 + 2 + 2 + 2004 + 2004 + 2004 + 8 + 8 + 64) μ0) := by
  unfold f_X11_init_b346
  exact (i_X11_init_b348_30 )
set_option maxRecDepth 100000 in
theorem i_X11_init_b328_30 : RU b z ym4 (367 + 61 + 64 + 64 + 64 + 64 + 64 + 8 + 64 + 16 + 64 + 8 + 8 + 24 + 24 + 24 + (16 + 16 * 28) + (8 + 8 * 28) + 5 + 16 + 8 + 16 + 4 + 2 + 2 + 2004 + 2004 + 2004 + 8 + 8 + 64) μ0 (fun μ => f_X11_init_b328 5000 (b + 30) 0 μ) (AM b z ym7 (367 + 61 + 64 + 64 + 64 + 64 + 64 + 8 + 64 + 16 + 64 + 8 + 8 + 24 + 24 + 24 + (16 + 16 * 28) + (8 + 8 * 28) + 5 + 16 + 8 + 16 + 4 + 2 + 2 + 2004 + 2004 + 2004 + 8 + 8 + 64) μ0) := by
  refine ru_loop (L := fun fu x μ => f_X11_init_b328 fu (b + 30) x μ) (K := fun μ => f_X11_init_b346 (b + 30) μ) 4 (by omega) (fun J => xW ym4 (fun o k => (o == 75) && decide (k < J)) (fun o k => if o = 75 then -1 else 0)) (fun μ h => h.w0 (fun o k => by simp)) (fun j fu μ hj h => ?_) (fun fu μ h => ?_) ?_
  · have ko : mK μ (b + 30) = 112 := h.k 112 (show 30 < ym4.1.length by decide) (show (ym4.1.getD 30 (0, 0)).1 = 112 by decide)
    have r75 : mR μ (b + 30) 32 = some (b + 75) := h.r 75 (by decide) (show 30 < ym4.1.length by decide) (show ym4.2.2 30 32 = some 75 by decide +kernel)
    have k75 : mK μ (b + 75) = 11 := h.k 11 (show 75 < ym4.1.length by decide) (show (ym4.1.getD 75 (0, 0)).1 = 11 by decide)
    have l75 : mL μ (b + 75) = 4 := h.l 4 (show 75 < ym4.1.length by decide) (show (ym4.1.getD 75 (0, 0)).2 = 4 by decide)
    have i75 := inbN (p := j) (n := 4) (by omega) (by omega)
    have cj := clN (show j < 100000 by omega)
    have c1 : ¬ (4 : Int32) ≤ nI j := nI_ge (b := 4) (by omega) (by omega)
    refine ⟨(sI μ (b + 75) j (-1)), (h.pW (o := 75) (j := j) (w := -1) (show 75 < ym4.1.length by decide) (by rfl)).wS (fun o k => ?_), ?_⟩
    · rw [Bool.eq_iff_iff]
      simp only [Bool.and_eq_true, Bool.or_eq_true, decide_eq_true_eq, beq_iff_eq]
      omega
    · simp only [f_X11_init_b328, c1, if_false, ko, r75, k75, l75, ck_t i75, ckT, bdS, ckA, cj, zlS, mK_sI, mL_sI, mR_sI', nI_1]
  · have c1 : (4 : Int32) ≤ nI 4 := by decide
    simp only [f_X11_init_b328, c1, if_true]
  · exact (i_X11_init_b346_30 )
set_option maxRecDepth 100000 in
theorem i_X11_init_b326_30 : RU b z ym4 (367 + 61 + 64 + 64 + 64 + 64 + 64 + 8 + 64 + 16 + 64 + 8 + 8 + 24 + 24 + 24 + (16 + 16 * 28) + (8 + 8 * 28) + 5 + 16 + 8 + 16 + 4 + 2 + 2 + 2004 + 2004 + 2004 + 8 + 8 + 64) μ0 (fun μ => f_X11_init_b326 (b + 30) μ) (AM b z ym7 (367 + 61 + 64 + 64 + 64 + 64 + 64 + 8 + 64 + 16 + 64 + 8 + 8 + 24 + 24 + 24 + (16 + 16 * 28) + (8 + 8 * 28) + 5 + 16 + 8 + 16 + 4 + 2 + 2 + 2004 + 2004 + 2004 + 8 + 8 + 64) μ0) := by
  unfold f_X11_init_b326
  exact (i_X11_init_b328_30 )
set_option maxRecDepth 100000 in
theorem i_X11_init_b307_30 : RU b z ym3 (367 + 61 + 64 + 64 + 64 + 64 + 64 + 8 + 64 + 16 + 64 + 8 + 8 + 24 + 24 + 24 + (16 + 16 * 28) + (8 + 8 * 28) + 5 + 16 + 8 + 16 + 4 + 2 + 2 + 2004 + 2004 + 2004 + 8 + 8 + 64) μ0 (fun μ => f_X11_init_b307 5000 (b + 30) 0 μ) (AM b z ym7 (367 + 61 + 64 + 64 + 64 + 64 + 64 + 8 + 64 + 16 + 64 + 8 + 8 + 24 + 24 + 24 + (16 + 16 * 28) + (8 + 8 * 28) + 5 + 16 + 8 + 16 + 4 + 2 + 2 + 2004 + 2004 + 2004 + 8 + 8 + 64) μ0) := by
  refine ru_loop (L := fun fu x μ => f_X11_init_b307 fu (b + 30) x μ) (K := fun μ => f_X11_init_b326 (b + 30) μ) 8 (by omega) (fun J => xW ym3 (fun o k => (o == 73) && decide (k < J)) (fun o k => if o = 73 then -1 else 0)) (fun μ h => h.w0 (fun o k => by simp)) (fun j fu μ hj h => ?_) (fun fu μ h => ?_) ?_
  · have ko : mK μ (b + 30) = 112 := h.k 112 (show 30 < ym3.1.length by decide) (show (ym3.1.getD 30 (0, 0)).1 = 112 by decide)
    have r73 : mR μ (b + 30) 30 = some (b + 73) := h.r 73 (by decide) (show 30 < ym3.1.length by decide) (show ym3.2.2 30 30 = some 73 by decide +kernel)
    have k73 : mK μ (b + 73) = 11 := h.k 11 (show 73 < ym3.1.length by decide) (show (ym3.1.getD 73 (0, 0)).1 = 11 by decide)
    have l73 : mL μ (b + 73) = 8 := h.l 8 (show 73 < ym3.1.length by decide) (show (ym3.1.getD 73 (0, 0)).2 = 8 by decide)
    have i73 := inbN (p := j) (n := 8) (by omega) (by omega)
    have cj := clN (show j < 100000 by omega)
    have c1 : ¬ (8 : Int32) ≤ nI j := nI_ge (b := 8) (by omega) (by omega)
    refine ⟨(sI μ (b + 73) j (-1)), (h.pW (o := 73) (j := j) (w := -1) (show 73 < ym3.1.length by decide) (by rfl)).wS (fun o k => ?_), ?_⟩
    · rw [Bool.eq_iff_iff]
      simp only [Bool.and_eq_true, Bool.or_eq_true, decide_eq_true_eq, beq_iff_eq]
      omega
    · simp only [f_X11_init_b307, c1, if_false, ko, r73, k73, l73, ck_t i73, ckT, bdS, ckA, cj, zlS, mK_sI, mL_sI, mR_sI', nI_1]
  · have c1 : (8 : Int32) ≤ nI 8 := by decide
    simp only [f_X11_init_b307, c1, if_true]
  · exact (i_X11_init_b326_30 )
set_option maxRecDepth 100000 in
theorem i_X11_init_b305_30 : RU b z ym3 (367 + 61 + 64 + 64 + 64 + 64 + 64 + 8 + 64 + 16 + 64 + 8 + 8 + 24 + 24 + 24 + (16 + 16 * 28) + (8 + 8 * 28) + 5 + 16 + 8 + 16 + 4 + 2 + 2 + 2004 + 2004 + 2004 + 8 + 8 + 64) μ0 (fun μ => f_X11_init_b305 (b + 30) μ) (AM b z ym7 (367 + 61 + 64 + 64 + 64 + 64 + 64 + 8 + 64 + 16 + 64 + 8 + 8 + 24 + 24 + 24 + (16 + 16 * 28) + (8 + 8 * 28) + 5 + 16 + 8 + 16 + 4 + 2 + 2 + 2004 + 2004 + 2004 + 8 + 8 + 64) μ0) := by
  unfold f_X11_init_b305
  exact (i_X11_init_b307_30 )
set_option maxRecDepth 100000 in
theorem i_X11_init_b278_30 : RU b z ym2 (367 + 61 + 64 + 64 + 64 + 64 + 64 + 8 + 64 + 16 + 64 + 8 + 8 + 24 + 24 + 24 + (16 + 16 * 28) + (8 + 8 * 28) + 5 + 16 + 8 + 16 + 4 + 2 + 2 + 2004 + 2004 + 2004 + 8 + 8 + 64) μ0 (fun μ => f_X11_init_b278 5000 (b + 30) 0 μ) (AM b z ym7 (367 + 61 + 64 + 64 + 64 + 64 + 64 + 8 + 64 + 16 + 64 + 8 + 8 + 24 + 24 + 24 + (16 + 16 * 28) + (8 + 8 * 28) + 5 + 16 + 8 + 16 + 4 + 2 + 2 + 2004 + 2004 + 2004 + 8 + 8 + 64) μ0) := by
  refine ru_loop (L := fun fu x μ => f_X11_init_b278 fu (b + 30) x μ) (K := fun μ => f_X11_init_b305 (b + 30) μ) 16 (by omega) (fun J => xW ym2 (fun o k => (o == 38 || o == 72) && decide (k < J)) (fun o k => if o = 38 then 6 else if o = 72 then 1 else 0)) (fun μ h => h.w0 (fun o k => by simp)) (fun j fu μ hj h => ?_) (fun fu μ h => ?_) ?_
  · have ko : mK μ (b + 30) = 112 := h.k 112 (show 30 < ym2.1.length by decide) (show (ym2.1.getD 30 (0, 0)).1 = 112 by decide)
    have r38 : mR μ (b + 30) 14 = some (b + 38) := h.r 38 (by decide) (show 30 < ym2.1.length by decide) (show ym2.2.2 30 14 = some 38 by decide +kernel)
    have k38 : mK μ (b + 38) = 11 := h.k 11 (show 38 < ym2.1.length by decide) (show (ym2.1.getD 38 (0, 0)).1 = 11 by decide)
    have l38 : mL μ (b + 38) = 16 := h.l 16 (show 38 < ym2.1.length by decide) (show (ym2.1.getD 38 (0, 0)).2 = 16 by decide)
    have i38 := inbN (p := j) (n := 16) (by omega) (by omega)
    have r72 : mR μ (b + 30) 29 = some (b + 72) := h.r 72 (by decide) (show 30 < ym2.1.length by decide) (show ym2.2.2 30 29 = some 72 by decide +kernel)
    have k72 : mK μ (b + 72) = 11 := h.k 11 (show 72 < ym2.1.length by decide) (show (ym2.1.getD 72 (0, 0)).1 = 11 by decide)
    have l72 : mL μ (b + 72) = 16 := h.l 16 (show 72 < ym2.1.length by decide) (show (ym2.1.getD 72 (0, 0)).2 = 16 by decide)
    have i72 := inbN (p := j) (n := 16) (by omega) (by omega)
    have cj := clN (show j < 100000 by omega)
    have c1 : ¬ (16 : Int32) ≤ nI j := nI_ge (b := 16) (by omega) (by omega)
    refine ⟨(sI (sI μ (b + 38) j (6)) (b + 72) j (1)), ((h.pW (o := 38) (j := j) (w := 6) (show 38 < ym2.1.length by decide) (by rfl)).pW (o := 72) (j := j) (w := 1) (show 72 < ym2.1.length by decide) (by rfl)).wS (fun o k => ?_), ?_⟩
    · rw [Bool.eq_iff_iff]
      simp only [Bool.and_eq_true, Bool.or_eq_true, decide_eq_true_eq, beq_iff_eq]
      omega
    · simp only [f_X11_init_b278, c1, if_false, ko, r38, k38, l38, ck_t i38, r72, k72, l72, ck_t i72, ckT, bdS, ckA, cj, zlS, mK_sI, mL_sI, mR_sI', nI_1]
  · have c1 : (16 : Int32) ≤ nI 16 := by decide
    simp only [f_X11_init_b278, c1, if_true]
  · exact (i_X11_init_b305_30 )
set_option maxRecDepth 100000 in
theorem i_X11_init_30 : RU b z ym1 (367 + 61) μ0 (fun μ => f_X11_init (b + 30) μ) (AM b z ym7 (367 + 61 + 64 + 64 + 64 + 64 + 64 + 8 + 64 + 16 + 64 + 8 + 8 + 24 + 24 + 24 + (16 + 16 * 28) + (8 + 8 * 28) + 5 + 16 + 8 + 16 + 4 + 2 + 2 + 2004 + 2004 + 2004 + 8 + 8 + 64) μ0) := by
  unfold f_X11_init
  refine ru_ck (by decide) ?_
  refine ru_nw 31 64 64 rfl (by decide) (by decide) ?_
  refine ru_k 30 112 (by decide) (by decide) ?_
  refine ru_sR 30 0 31 (by decide) (by decide) ?_
  refine ru_ck (by decide) ?_
  refine ru_nw 32 64 64 rfl (by decide) (by decide) ?_
  refine ru_k 30 112 (by decide) (by decide) ?_
  refine ru_sR 30 1 32 (by decide) (by decide) ?_
  refine ru_ck (by decide) ?_
  refine ru_nw 33 64 64 rfl (by decide) (by decide) ?_
  refine ru_k 30 112 (by decide) (by decide) ?_
  refine ru_sR 30 2 33 (by decide) (by decide) ?_
  refine ru_ck (by decide) ?_
  refine ru_nw 34 64 64 rfl (by decide) (by decide) ?_
  refine ru_k 30 112 (by decide) (by decide) ?_
  refine ru_sR 30 3 34 (by decide) (by decide) ?_
  refine ru_ck (by decide) ?_
  refine ru_nw 35 64 64 rfl (by decide) (by decide) ?_
  refine ru_k 30 112 (by decide) (by decide) ?_
  refine ru_sR 30 4 35 (by decide) (by decide) ?_
  refine ru_sI 30 6 (by decide) ?_
  refine ru_sI 30 7 (by decide) ?_
  refine ru_sI 30 8 (by decide) ?_
  refine ru_sI 30 9 (by decide) ?_
  refine ru_sI 30 10 (by decide) ?_
  refine ru_sI 30 11 (by decide) ?_
  refine ru_ck (by decide) ?_
  refine ru_nw 36 8 8 rfl (by decide) (by decide) ?_
  refine ru_k 30 112 (by decide) (by decide) ?_
  refine ru_sR 30 12 36 (by decide) (by decide) ?_
  refine ru_ck (by decide) ?_
  refine ru_nw 37 64 64 rfl (by decide) (by decide) ?_
  refine ru_k 30 112 (by decide) (by decide) ?_
  refine ru_sR 30 13 37 (by decide) (by decide) ?_
  refine ru_ck (by decide) ?_
  refine ru_nw 38 16 16 rfl (by decide) (by decide) ?_
  refine ru_k 30 112 (by decide) (by decide) ?_
  refine ru_sR 30 14 38 (by decide) (by decide) ?_
  refine ru_ck (by decide) ?_
  refine ru_nw 39 64 64 rfl (by decide) (by decide) ?_
  refine ru_k 30 112 (by decide) (by decide) ?_
  refine ru_sR 30 15 39 (by decide) (by decide) ?_
  refine ru_ck (by decide) ?_
  refine ru_nw 40 8 8 rfl (by decide) (by decide) ?_
  refine ru_k 30 112 (by decide) (by decide) ?_
  refine ru_sR 30 16 40 (by decide) (by decide) ?_
  refine ru_ck (by decide) ?_
  refine ru_nw 41 8 8 rfl (by decide) (by decide) ?_
  refine ru_k 30 112 (by decide) (by decide) ?_
  refine ru_sR 30 17 41 (by decide) (by decide) ?_
  unfold f_X11_init_b124
  refine ru_ck (by decide) ?_
  refine ru_nw 42 24 24 rfl (by decide) (by decide) ?_
  refine ru_k 30 112 (by decide) (by decide) ?_
  refine ru_sR 30 18 42 (by decide) (by decide) ?_
  refine ru_ck (by decide) ?_
  refine ru_nw 43 24 24 rfl (by decide) (by decide) ?_
  refine ru_k 30 112 (by decide) (by decide) ?_
  refine ru_sR 30 19 43 (by decide) (by decide) ?_
  refine ru_ck (by decide) ?_
  refine ru_nw 44 24 24 rfl (by decide) (by decide) ?_
  refine ru_k 30 112 (by decide) (by decide) ?_
  refine ru_sR 30 20 44 (by decide) (by decide) ?_
  refine ru_ck (by decide) ?_
  refine ru_ck (by decide) ?_
  refine ru_nwM 45 16 28 rfl (by decide) (by decide) (by decide) (fun t' ht => ?_)
  subst ht
  refine ru_k 30 112 (by decide) (by decide) ?_
  refine ru_sR 30 22 45 (by decide) (by decide) ?_
  refine ru_ck (by decide) ?_
  refine ru_ck (by decide) ?_
  refine ru_nwM 62 8 28 rfl (by decide) (by decide) (by decide) (fun t' ht => ?_)
  subst ht
  refine ru_k 30 112 (by decide) (by decide) ?_
  refine ru_sR 30 24 62 (by decide) (by decide) ?_
  refine ru_ck (by decide) ?_
  refine ru_nw 71 5 5 rfl (by decide) (by decide) ?_
  refine ru_k 30 112 (by decide) (by decide) ?_
  refine ru_sR 30 28 71 (by decide) (by decide) ?_
  refine ru_ck (by decide) ?_
  refine ru_nw 72 16 16 rfl (by decide) (by decide) ?_
  refine ru_k 30 112 (by decide) (by decide) ?_
  refine ru_sR 30 29 72 (by decide) (by decide) ?_
  refine ru_ck (by decide) ?_
  refine ru_nw 73 8 8 rfl (by decide) (by decide) ?_
  refine ru_k 30 112 (by decide) (by decide) ?_
  refine ru_sR 30 30 73 (by decide) (by decide) ?_
  refine ru_ck (by decide) ?_
  refine ru_nw 74 16 16 rfl (by decide) (by decide) ?_
  refine ru_k 30 112 (by decide) (by decide) ?_
  refine ru_sR 30 31 74 (by decide) (by decide) ?_
  refine ru_ck (by decide) ?_
  refine ru_nw 75 4 4 rfl (by decide) (by decide) ?_
  refine ru_k 30 112 (by decide) (by decide) ?_
  refine ru_sR 30 32 75 (by decide) (by decide) ?_
  refine ru_ck (by decide) ?_
  refine ru_nw 76 2 2 rfl (by decide) (by decide) ?_
  refine ru_k 30 112 (by decide) (by decide) ?_
  refine ru_sR 30 33 76 (by decide) (by decide) ?_
  refine ru_ck (by decide) ?_
  refine ru_nw 77 2 2 rfl (by decide) (by decide) ?_
  refine ru_k 30 112 (by decide) (by decide) ?_
  refine ru_sR 30 34 77 (by decide) (by decide) ?_
  refine ru_ck (by decide) ?_
  refine ru_nw 78 2004 2004 rfl (by decide) (by decide) ?_
  refine ru_k 30 112 (by decide) (by decide) ?_
  refine ru_sR 30 43 78 (by decide) (by decide) ?_
  refine ru_ck (by decide) ?_
  refine ru_nw 79 2004 2004 rfl (by decide) (by decide) ?_
  refine ru_k 30 112 (by decide) (by decide) ?_
  refine ru_sR 30 44 79 (by decide) (by decide) ?_
  refine ru_ck (by decide) ?_
  refine ru_nw 80 2004 2004 rfl (by decide) (by decide) ?_
  refine ru_k 30 112 (by decide) (by decide) ?_
  refine ru_sR 30 45 80 (by decide) (by decide) ?_
  unfold f_X11_init_b252
  refine ru_ck (by decide) ?_
  refine ru_nw 81 8 8 rfl (by decide) (by decide) ?_
  refine ru_k 30 112 (by decide) (by decide) ?_
  refine ru_sR 30 47 81 (by decide) (by decide) ?_
  refine ru_ck (by decide) ?_
  refine ru_nw 82 8 8 rfl (by decide) (by decide) ?_
  refine ru_k 30 112 (by decide) (by decide) ?_
  refine ru_sR 30 55 82 (by decide) (by decide) ?_
  refine ru_ck (by decide) ?_
  refine ru_nw 83 64 64 rfl (by decide) (by decide) ?_
  refine ru_k 30 112 (by decide) (by decide) ?_
  refine ru_sR 30 56 83 (by decide) (by decide) ?_
  exact (i_X11_init_b278_30 )
end IMO
