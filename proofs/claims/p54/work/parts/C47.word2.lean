/-! the class: setWord, setRegister -/
section CWE
variable {b z e sl : Nat} {m m' : Nat → Nat} {A A' B C D : Sx} {P : Pm} {G : Nat → Nat → Nat} {ar : Nat → Nat} {s : Nat} {μ μ' μ2 : Mm} {S : Nat → Nat → Bool}
theorem c_setWord {x v : Int32} (h : FR b z A μ) (hh : HR b z A (fun _ => 0) G ar s μ) (h0 : aS A 0 ≤ 500) (h14 : aS A 0 = 0 → aS A 14 = 0 ∧ ∀ a, a < 64 → aV A 2 a = aV A 7 a) : ∃ (A' : Sx) (μ' : Mm), A' = (if kSet A (adok x) = 0 then zV (zV A 2 x.toNatClampNeg v) 7 x.toNatClampNeg v else A) ∧ f_X10_setWord b x v μ = some (oc (kSet A (adok x)) (aV A 2 x.toNatClampNeg), μ') ∧ FR b z A' μ' ∧ HR b z A' (fun _ => 0) G ar s μ' ∧ CK 1 6 μ μ' := by
  have k0 := h.1
  unfold SC at k0
  have i12 : mI μ (b + 1) 12 = nI (aS A 0) := h.2.1.1 0 rfl
  have isa := c_isAd x
  have nn : ¬ ¬ (0 : Int32) = 0 := fun t => t rfl
  have b0 : bI false = 0 := rfl
  have b1 : ¬ bI true = 0 := by decide
  cases hx : adok x
  · rw [hx] at isa
    have hk : kSet A false = 1 := rfl
    rw [hk]
    refine ⟨A, bump μ 6, rfl, ?_, h.bump, hh.bump, bump_ck⟩
    simp only [f_X10_setWord, isa, bdS, b0, nn, not_true, if_false]
    rfl
  · rw [hx] at isa
    obtain ⟨e, a64⟩ := adok_e hx
    obtain ⟨a, ha⟩ : ∃ a, a = x.toNatClampNeg := ⟨_, rfl⟩
    rw [← ha] at e a64 ⊢
    by_cases a0 : aS A 0 = 0
    · have hk : kSet A true = 0 := by unfold kSet; rw [if_neg (by decide), if_pos a0]
      have c0 : nI (aS A 0) ≤ 0 := by rw [a0]; decide
      obtain ⟨F, H, c⟩ := c_putWord (a := a) (v := v) h hh (h14 a0).1 a64
      have ix : inb x 64 := by rw [e]; exact inbN a64 (by omega)
      have iw : mI μ (b + 27) a = aV A 2 a := h.2.1.c2 a64
      rw [hk]
      refine ⟨_, sI (sI μ (b + 8) a v) (b + 27) a v, (if_pos rfl).symm, ?_, F, H, c.mono (by omega) (by omega)⟩
      simp only [f_X10_setWord, isa, bdS, b1, not_false_eq_true, if_true, k0, ckT, i12, c0, ckA, ck_t ix, ← ha, zlS, mR_sI', mK_sI, mL_sI, iw]
      rfl
    · have hk : kSet A true = 2 := by unfold kSet; rw [if_neg (by decide), if_neg a0]
      have c0 : ¬ nI (aS A 0) ≤ 0 := nI_nle (by omega) (by omega)
      rw [hk]
      refine ⟨A, bump μ 6, rfl, ?_, h.bump, hh.bump, bump_ck⟩
      simp only [f_X10_setWord, isa, bdS, b1, not_false_eq_true, if_true, k0, ckT, i12, c0, if_false]
      rfl
end CWE
