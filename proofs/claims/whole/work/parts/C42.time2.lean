/-! the model: a line's time -/
section MAT
variable {b : Nat} {A A' : Sx} {ρ : Nat → Nat} {μ μ' μ2 : Mm} {S : Nat → Nat → Bool}
theorem ML.putO {o k : Nat} {v : Int32} (h1 : 30 ≤ o) (h2 : o < 84) : ML b 0 μ (sI μ (b + o) k v) := ⟨fun w => w, Nat.le_refl _, Nat.le_refl _, Nat.le_refl _, fun a _ hb => ⟨rfl, rfl, mI_row _ _ (by omega), rfl, rfl⟩⟩
theorem m_setTime {x y : Int32} (h : RM b A ρ μ) (n9 : aS A 9 ≤ 16) (n10 : aS A 10 ≤ 8) : ∃ (A' : Sx) (μ' : Mm), A' = (if kTm x y = 0 then zN A 6 x.toNatClampNeg y.toNatClampNeg else A) ∧ f_X11_setTime (b + 30) x y μ = some (if kTm x y = 0 then nI (aN A 6 x.toNatClampNeg) else 0, μ') ∧ RM b A' ρ μ' ∧ mI μ' (b + 30) 54 = nI (kTm x y) ∧ ML b 0 μ μ' := by
  have s := h.1
  unfold SM at s
  have i1 := m_inR x 0 15
  have i2 := m_inR y 1 30
  have b0 : bI false = 0 := rfl
  have b1 : ¬ bI true = 0 := by decide
  have c10 : ¬ (1 : Int32) ≤ 0 := by decide
  have c00 : (0 : Int32) ≤ 0 := by decide
  have no : kTm x y = 1 → f_X11_setTime (b + 30) x y μ = f_X11_setTime_b25 (b + 30) x y (b + 30) μ → ∃ (A' : Sx) (μ' : Mm), A' = (if kTm x y = 0 then zN A 6 x.toNatClampNeg y.toNatClampNeg else A) ∧ f_X11_setTime (b + 30) x y μ = some (if kTm x y = 0 then nI (aN A 6 x.toNatClampNeg) else 0, μ') ∧ RM b A' ρ μ' ∧ mI μ' (b + 30) 54 = nI (kTm x y) ∧ ML b 0 μ μ' := fun hk ee => by
    rw [hk]
    refine ⟨A, sI μ (b + 30) 54 1, rfl, ?_, m_54 h n9 n10, mI_at _ _ _ _, ML.put⟩
    rw [ee]
    simp only [f_X11_setTime_b25, f_X11_setTime_b26, s, ckT, zlS, mK_sI, mI_at, c10, if_false]
    rfl
  cases h1 : (!decide (x < 0) && decide (x ≤ 15))
  · rw [h1] at i1
    refine no (by unfold kTm; rw [h1]; rfl) ?_
    simp only [f_X11_setTime, i1, bdS, b0, if_true]
  · rw [h1] at i1
    cases h2 : (!decide (y < 1) && decide (y ≤ 30))
    · rw [h2] at i2
      refine no (by unfold kTm; rw [h1, h2]; rfl) ?_
      simp only [f_X11_setTime, i1, i2, bdS, b1, b0, if_false, if_true]
    · rw [h2] at i2
      have hk : kTm x y = 0 := by unfold kTm; rw [h1, h2]; rfl
      obtain ⟨l, n, l16, n1, n30, e1, e2, e3, e4⟩ := kTm_0 hk
      obtain ⟨μ1, m1⟩ : ∃ μ1, μ1 = sI μ (b + 30) 54 0 := ⟨_, rfl⟩
      have R1 : RM b A ρ μ1 := by rw [m1]; exact m_54 h n9 n10
      have s1 := R1.1
      unfold SM at s1
      have T := R1.2.1.putN mT_ok (q := 6) (j := l) (by omega) l16 n
      have R2 : RM b (zN A 6 l n) ρ (sI μ1 (b + 38) l (nI n)) := R1.next (S := fun o _ => o == 38) T (CH.put (by simp)) (fun o k z => by
        simp only [beq_iff_eq] at z
        exact decide_eq_true (by omega)) n9 n10 ⟨fun r _ _ => zN_ne _ _ _ (by omega), rfl⟩ (Nat.le_refl _) (fun _ _ => rfl) (Nat.le_refl _) (fun _ _ => rfl) rfl rfl rfl rfl rfl (fun z => ⟨z, rfl⟩) rfl (fun r hr => zN_ne _ _ _ (by omega)) rfl
      rw [show sI μ1 (b + 38) l (nI n) = sI μ1 (b + 38) l y from by rw [e2]] at R2
      have i38 : mI μ1 (b + 38) l = nI (aN A 6 l) := R1.2.1.2.1 6 l (by omega) l16
      have il : inb x 16 := by rw [e1]; exact inbN l16 (by omega)
      have l1 : ML b 0 μ μ1 := by rw [m1]; exact ML.put
      have e54 : mI μ1 (b + 30) 54 = 0 := by rw [m1]; exact mI_at _ _ _ _
      rw [hk]
      refine ⟨zN A 6 l n, sI μ1 (b + 38) l y, by rw [if_pos rfl, e3, e4], ?_, R2, by rw [mI_row _ _ (by omega)]; exact e54, l1.trans (ML.putO (by omega) (by omega))⟩
      rw [if_pos rfl, e3]
      simp only [f_X11_setTime, f_X11_setTime_b26, i1, i2, bdS, b1, if_false, s, ckT, zlS, ← m1, s1, e54, c00, if_true, ckA, ckI, tcL, ck_t il, e3, i38]
end MAT
