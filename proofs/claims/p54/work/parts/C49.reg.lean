/-! the class: a register is set -/
section CRG
variable {b z e sl : Nat} {m m' : Nat → Nat} {A A' B C D : Sx} {P : Pm} {G : Nat → Nat → Nat} {ar : Nat → Nat} {s : Nat} {μ μ' μ2 : Mm} {S : Nat → Nat → Bool}
theorem c_putReg {a : Nat} {v : Int32} (h : FR b z A μ) (hh : HR b z A (fun _ => 0) G ar s μ) (h14 : aS A 14 = 0) (ha : a < 8) : FR b z (zV (zV A 1 a v) 6 a v) (sI (sI μ (b + 7) a v) (b + 12) a v) ∧ HR b z (zV (zV A 1 a v) 6 a v) (fun _ => 0) G ar s (sI (sI μ (b + 7) a v) (b + 12) a v) ∧ CK 0 0 μ (sI (sI μ (b + 7) a v) (b + 12) a v) := by
  rw [zV_comm (by decide)]
  obtain ⟨μ1, m1⟩ : ∃ μ1, μ1 = sI μ (b + 7) a v := ⟨_, rfl⟩
  have hx : FRx b z A (plA A 0) μ := by
    have := h.x
    rw [h14] at this
    exact this
  have g1 : CH b sPl μ μ1 := by rw [m1]; exact CH.put (by rfl)
  have sfx : ∀ o k, sPl o k = true → o < 30 ∧ o ≠ 24 := fun o k zz => by
    have := of_decide_eq_true zz
    omega
  obtain ⟨p1, p2, p3, p4, p5⟩ := hx.2.2.2.1
  have q1 : PQm b (plA (zV A 6 a v) 0) μ1 := by
    refine ⟨fun r hr => ?_, fun k hk => ?_, ?_, ?_, ?_⟩
    · rw [m1, mI_up, up1_if]
      show _ = up1 (aV A 6) a v r
      rw [up1_if, p1 r hr]
      rfl
    · rw [m1, mI_row _ _ (by omega)]; exact p2 k hk
    · rw [m1, mI_row _ _ (by omega)]; exact p3
    · rw [m1, mI_row _ _ (by omega)]; exact p4
    · rw [m1, mI_row _ _ (by omega)]; exact p5
  obtain ⟨f1, f2, f3, f4, f5, f6⟩ := hx.pl g1 q1
  have F1 : FR b z (zV A 6 a v) μ1 := by
    refine FRx.r (P := plA (zV A 6 a v) 0) ⟨f1, f2.cg (fun _ _ => rfl) (fun _ _ _ _ => rfl) (fun r k hr _ => ?_), f3, f4, f5, f6⟩ ?_
    · rw [zV_ne _ _ _ (by omega)]
    · show plA (zV A 6 a v) (aS A 14) = _
      rw [h14]
  have H1 : HR b z (zV A 6 a v) (fun _ => 0) G ar s μ1 := (hh.ch h.1 g1 sfx).cg ⟨fun _ _ _ => rfl, zV_ne _ _ _ (by decide)⟩ rfl rfl rfl rfl (fun _ _ => rfl) (fun _ _ => rfl) rfl (fun _ _ => rfl) (zV_ne _ _ _ (by decide)) (fun _ _ _ => rfl)
  have c1 := g1.ck h.1 sfx
  have T := F1.2.1.putV cT_ok (q := 1) (j := a) (by omega) (show a < 24 by omega) v
  rw [show (cT.2.2 1).2 + a = a from Nat.zero_add _] at T
  obtain ⟨F2, H2', c2, -⟩ := c_step (A' := zV (zV A 6 a v) 1 a v) (S := fun o _ => o == 12) F1 H1 T (CH.put rfl) (fun o k zz => by simp only [beq_iff_eq] at zz; unfold okS; omega) ⟨fun _ _ _ => rfl, zV_ne _ _ _ (by decide)⟩ (fun _ _ => rfl) rfl rfl rfl rfl (fun _ _ => rfl) (fun r hr => zV_ne _ _ _ (by omega))
  rw [← m1]
  exact ⟨F2, H2', c1.trans c2⟩
theorem c_setReg {x v : Int32} (h : FR b z A μ) (hh : HR b z A (fun _ => 0) G ar s μ) (h0 : aS A 0 ≤ 500) (h14 : aS A 0 = 0 → aS A 14 = 0 ∧ ∀ a, a < 8 → aV A 1 a = aV A 6 a) : ∃ (A' : Sx) (μ' : Mm), A' = (if kSet A (rok x) = 0 then zV (zV A 1 x.toNatClampNeg v) 6 x.toNatClampNeg v else A) ∧ f_X10_setRegister b x v μ = some (oc (kSet A (rok x)) (aV A 1 x.toNatClampNeg), μ') ∧ FR b z A' μ' ∧ HR b z A' (fun _ => 0) G ar s μ' ∧ CK 1 6 μ μ' := by
  have k0 := h.1
  unfold SC at k0
  have i12 : mI μ (b + 1) 12 = nI (aS A 0) := h.2.1.1 0 rfl
  have isa := c_isReg x
  have nn : ¬ ¬ (0 : Int32) = 0 := fun t => t rfl
  have b0 : bI false = 0 := rfl
  have b1 : ¬ bI true = 0 := by decide
  cases hx : rok x
  · rw [hx] at isa
    have hk : kSet A false = 1 := rfl
    rw [hk]
    refine ⟨A, bump μ 6, rfl, ?_, h.bump, hh.bump, bump_ck⟩
    simp only [f_X10_setRegister, isa, bdS, b0, nn, not_true, if_false]
    rfl
  · rw [hx] at isa
    obtain ⟨e, a8⟩ := rok_e hx
    obtain ⟨a, ha⟩ : ∃ a, a = x.toNatClampNeg := ⟨_, rfl⟩
    rw [← ha] at e a8 ⊢
    by_cases a0 : aS A 0 = 0
    · have hk : kSet A true = 0 := by unfold kSet; rw [if_neg (by decide), if_pos a0]
      have c0 : nI (aS A 0) ≤ 0 := by rw [a0]; decide
      obtain ⟨e14, eq⟩ := h14 a0
      obtain ⟨F, H, c⟩ := c_putReg (a := a) (v := v) h hh e14 a8
      have ix : inb x 8 := by rw [e]; exact inbN a8 (by omega)
      have ix24 : inb x 24 := by rw [e]; exact inbN (by omega) (by omega)
      have iw : mI μ (b + 7) a = aV A 1 a := by
        rw [h.2.2.2.1.1 a a8, e14, eq a a8]
        rfl
      rw [hk]
      refine ⟨_, sI (sI μ (b + 7) a v) (b + 12) a v, (if_pos rfl).symm, ?_, F, H, c.mono (by omega) (by omega)⟩
      simp only [f_X10_setRegister, isa, bdS, b1, not_false_eq_true, if_true, k0, ckT, i12, c0, ckA, ck_t ix, ck_t ix24, ← ha, zlS, mR_sI', mK_sI, mL_sI, iw]
      rfl
    · have hk : kSet A true = 2 := by unfold kSet; rw [if_neg (by decide), if_neg a0]
      have c0 : ¬ nI (aS A 0) ≤ 0 := nI_nle (by omega) (by omega)
      rw [hk]
      refine ⟨A, bump μ 6, rfl, ?_, h.bump, hh.bump, bump_ck⟩
      simp only [f_X10_setRegister, isa, bdS, b1, not_false_eq_true, if_true, k0, ckT, i12, c0, if_false]
      rfl
end CRG
