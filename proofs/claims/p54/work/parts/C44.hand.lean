/-! the class: handlers -/
section CHN
variable {b z e sl : Nat} {m m' : Nat → Nat} {A A' B C D : Sx} {P : Pm} {G : Nat → Nat → Nat} {ar : Nat → Nat} {s : Nat} {ρ : Nat → Nat} {μ μ' μ2 : Mm} {S : Nat → Nat → Bool}
def okH (x : Int32) : Bool := decide (x = -1) || adok x
theorem okH_e {x : Int32} (h : okH x = true) : x = -1 ∨ adok x = true := by
  unfold okH at h
  simp only [Bool.or_eq_true, decide_eq_true_eq] at h
  exact h
theorem okH_r (x : Int32) : (!decide (x < -1) && decide (x ≤ 63)) = okH x := by
  unfold okH adok
  have c1 : (-1 : Int32).toInt = -1 := by decide
  have c2 : (63 : Int32).toInt = 63 := by decide
  have c3 : (0 : Int32).toInt = 0 := by decide
  have c4 : (64 : Int32).toInt = 64 := by decide
  have e1 : (x = -1) ↔ x.toInt = -1 := by rw [← c1]; exact Int32.toInt_inj.symm
  rw [Bool.eq_iff_iff]
  simp only [Bool.and_eq_true, Bool.or_eq_true, Bool.not_eq_true', decide_eq_false_iff_not, decide_eq_true_eq, Int32.lt_iff_toInt_lt, Int32.le_iff_toInt_le, e1, c1, c2, c3, c4]
  omega
theorem c_isHand (x : Int32) : f_X10_isHandler x = some (bI (okH x)) := by
  unfold f_X10_isHandler f_X10_isHandler_b12 okH
  rw [c_isPl]
  by_cases h : x = -1
  · rw [if_pos h, decide_eq_true h]
    rfl
  · rw [if_neg h, decide_eq_false h]
    cases adok x <;> rfl
theorem c_setHand {x y : Int32} (h : FR b z A μ) (hh : HR b z A (fun _ => 0) G ar s μ) (h0 : aS A 0 ≤ 500) (h14 : aS A 0 = 0 → aS A 14 = 0) : ∃ (A' : Sx) (μ' : Mm), A' = (if kSet A (okH x && okH y) = 0 then zV (zV A 0 0 x) 0 1 y else A) ∧ f_X10_setHandlers b x y μ = some (oc (kSet A (okH x && okH y)) (64 * aV A 0 0 + aV A 0 1), μ') ∧ FR b z A' μ' ∧ HR b z A' (fun _ => 0) G ar s μ' ∧ CK 1 6 μ μ' := by
  have k0 := h.1
  unfold SC at k0
  have i12 : mI μ (b + 1) 12 = nI (aS A 0) := h.2.1.1 0 rfl
  have i33 : mI μ (b + 3) 3 = aV A 0 0 := h.2.1.2.2 0 0 (by decide) (by decide)
  have i34 : mI μ (b + 3) 4 = aV A 0 1 := h.2.1.2.2 0 1 (by decide) (by decide)
  have cx := c_isHand x
  have cy := c_isHand y
  have b0 : bI false = 0 := rfl
  have b1 : ¬ bI true = 0 := by decide
  have nn : ¬ ¬ (0 : Int32) = 0 := fun t => t rfl
  have no : kSet A (okH x && okH y) = 1 → f_X10_setHandlers b x y μ = f_X10_setHandlers_b14 μ → ∃ (A' : Sx) (μ' : Mm), A' = (if kSet A (okH x && okH y) = 0 then zV (zV A 0 0 x) 0 1 y else A) ∧ f_X10_setHandlers b x y μ = some (oc (kSet A (okH x && okH y)) (64 * aV A 0 0 + aV A 0 1), μ') ∧ FR b z A' μ' ∧ HR b z A' (fun _ => 0) G ar s μ' ∧ CK 1 6 μ μ' := fun hk ee => by
    rw [hk]
    exact ⟨A, bump μ 6, rfl, ee, h.bump, hh.bump, bump_ck⟩
  cases hx : okH x
  · rw [hx] at cx no
    refine no rfl ?_
    simp only [f_X10_setHandlers, cx, bdS, b0, if_true]
  · cases hy : okH y
    · rw [hx, hy] at no
      rw [hx] at cx
      rw [hy] at cy
      refine no rfl ?_
      simp only [f_X10_setHandlers, cx, cy, bdS, b1, b0, nn, if_false, not_true]
    · rw [hx] at cx
      rw [hy] at cy
      by_cases a0 : aS A 0 = 0
      · have hk : kSet A (true && true) = 0 := by unfold kSet; rw [if_neg (by decide), if_pos a0]
        have c0 : nI (aS A 0) ≤ 0 := by rw [a0]; decide
        obtain ⟨μ', m'⟩ : ∃ μ', μ' = sI (sI μ (b + 3) 3 x) (b + 3) 4 y := ⟨_, rfl⟩
        have T : RT cT b (zV (zV A 0 0 x) 0 1 y) μ' := by
          have t1 := h.2.1.putV cT_ok (q := 0) (j := 0) (by omega) (show 0 < 2 by omega) x
          have t2 := t1.putV cT_ok (q := 0) (j := 1) (by omega) (show 1 < 2 by omega) y
          rw [m']
          exact t2
        have g : CH b (fun o k => o == 3 && (k == 3 || k == 4)) μ μ' := by rw [m']; exact (CH.put rfl).trans (CH.put rfl)
        have sF : ∀ o k, (fun o k => o == 3 && (k == 3 || k == 4)) o k = true → okS o k := fun o k zz => by
          simp only [Bool.and_eq_true, Bool.or_eq_true, beq_iff_eq] at zz
          unfold okS
          omega
        have sF2 : ∀ o k, (fun o k => o == 3 && (k == 3 || k == 4)) o k = true → o < 30 ∧ o ≠ 24 := fun o k zz => ⟨(sF o k zz).1, (sF o k zz).2.1⟩
        have ev : ∀ r, r ≠ 0 → aV (zV (zV A 0 0 x) 0 1 y) r = aV A r := fun r hr => by rw [zV_ne _ _ _ hr, zV_ne _ _ _ hr]
        have pe : plA (zV (zV A 0 0 x) 0 1 y) (aS (zV (zV A 0 0 x) 0 1 y) 14) = plA A (aS A 14) := by
          show plA (zV (zV A 0 0 x) 0 1 y) (aS A 14) = _
          rw [h14 a0]
          rfl
        have F := h.ch T g sF pe rfl (fun t => ⟨t, rfl⟩)
        have H := (hh.ch h.1 g sF2).cg (A' := zV (zV A 0 0 x) 0 1 y) (m' := fun _ => 0) ⟨fun _ _ _ => rfl, ev 5 (by decide)⟩ rfl rfl rfl rfl (fun _ _ => rfl) (fun _ _ => rfl) rfl (fun _ _ => rfl) (ev 8 (by decide)) (fun _ _ _ => rfl)
        rw [hk]
        refine ⟨_, μ', if_pos rfl |>.symm, ?_, F, H, (g.ck h.1 sF2).mono (by omega) (by omega)⟩
        simp only [f_X10_setHandlers, cx, cy, bdS, b1, if_false, not_false_eq_true, if_true, k0, ckT, i12, c0, zlS, mR_sI', mK_sI, i33, i34, ← m']
        rfl
      · have hk : kSet A (true && true) = 2 := by unfold kSet; rw [if_neg (by decide), if_neg a0]
        have c0 : ¬ nI (aS A 0) ≤ 0 := nI_nle (by omega) (by omega)
        rw [hk]
        refine ⟨A, bump μ 6, rfl, ?_, h.bump, hh.bump, bump_ck⟩
        simp only [f_X10_setHandlers, cx, cy, bdS, b1, if_false, not_false_eq_true, if_true, k0, ckT, i12, c0]
        rfl
end CHN
