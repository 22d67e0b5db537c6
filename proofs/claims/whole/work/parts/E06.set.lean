/-! the setters of the pair -/
section OPSET
variable {b z : Nat} {A : Sx} {μ : Mm}
theorem AI.z0 {B : Sx} (h : Z0 B) : AI B := by
  have s14 : aS B 14 = 0 := h.2.1.2.2.2.2.2.2.2.2.2.2.2.1
  have s0 : aS B 0 = 0 := h.2.1.1
  exact ⟨z0_iy h, fun e he => absurd he (by rw [s14]; exact Nat.not_lt_zero _), fun _ => h, by omega⟩
theorem AI.set {k : Nat} {A' B : Sx} (ai : AI A) (k0 : k = 0 → aS A 0 = 0) (eA : A' = if k = 0 then B else A) (zB : k = 0 → Z0 A → Z0 B) : AI A' ∧ PhC A' = PhC A ∧ PhS A' = PhS A := by
  by_cases hk : k = 0
  · rw [if_pos hk] at eA
    subst eA
    have zA := ai.2.2.1 (k0 hk)
    have zb := zB hk zA
    have e0 : aS A' 0 = aS A 0 := by rw [zb.2.1.1, zA.2.1.1]
    have e1 : aS A' 1 = aS A 1 := by rw [zb.2.1.2.1, zA.2.1.2.1]
    exact ⟨AI.z0 zb, PhC.eq e0 e1, PhS.eq e0 e1⟩
  · rw [if_neg hk] at eA
    subst eA
    exact ⟨ai, rfl, rfl⟩
theorem op_setWidth {x1 : Int32} (h : JV b z A μ) (w : WF μ) : OPB b z [exIAE, exISE] (fun μ => f_X10_setWidth b x1 μ) (fun μ => f_X11_setWidth (b + 30) x1 μ) A μ := by
  obtain ⟨⟨fr, ⟨G, ar, s, hr⟩, hm, oc9, hz⟩, ai⟩ := id h
  obtain ⟨k, A', μ1, ek, eA, en, ef, fr', hr', ck⟩ := c_setW (x := x1) fr hr ai.2.2.2
  have kl : k ≤ 2 := by rw [ek]; exact kSet_le _ _
  obtain ⟨ai', pc, ps⟩ := ai.set (fun q => (kSet_0 (ek.symm.trans q)).2) eA (fun q zA => by
    obtain ⟨n, g1, g2, g3, g4⟩ := en q
    exact (by rw [g4]; exact z0_S zA (Or.inl ⟨rfl, g1, g2⟩)))
  refine OPB.of (e2 := 0) h w kl (by rw [← oc_r kl]; exact ef) fr' hr' ck ai' (by omega) (by omega) fun μ2 ρ r w2 n2 => ?_
  obtain ⟨k2, A2, μ3, ek2, eA2, eg, r', e54, ml⟩ := m_setW (x := x1) r ai.n9 ai.n10 ai.2.2.2
  obtain rfl : k2 = k := ek2.trans ek.symm
  obtain rfl : A2 = A' := eA2.trans eA.symm
  exact ⟨_, ρ, μ3, eg, fun q => if_pos q, r', e54, ml⟩
theorem op_setBuffer {x1 : Int32} (h : JV b z A μ) (w : WF μ) : OPB b z [exIAE, exISE] (fun μ => f_X10_setBuffer b x1 μ) (fun μ => f_X11_setBuffer (b + 30) x1 μ) A μ := by
  obtain ⟨⟨fr, ⟨G, ar, s, hr⟩, hm, oc9, hz⟩, ai⟩ := id h
  obtain ⟨k, A', μ1, ek, eA, en, ef, fr', hr', ck⟩ := c_setB (x := x1) fr hr ai.2.2.2
  have kl : k ≤ 2 := by rw [ek]; exact kSet_le _ _
  obtain ⟨ai', pc, ps⟩ := ai.set (fun q => (kSet_0 (ek.symm.trans q)).2) eA (fun q zA => by
    obtain ⟨n, g1, g2, g3, g4⟩ := en q
    exact (by rw [g4]; exact z0_S zA (Or.inr (Or.inl ⟨rfl, g1, g2⟩))))
  refine OPB.of (e2 := 0) h w kl (by rw [← oc_r kl]; exact ef) fr' hr' ck ai' (by omega) (by omega) fun μ2 ρ r w2 n2 => ?_
  obtain ⟨k2, A2, μ3, ek2, eA2, eg, r', e54, ml⟩ := m_setB (x := x1) r ai.n9 ai.n10 ai.2.2.2
  obtain rfl : k2 = k := ek2.trans ek.symm
  obtain rfl : A2 = A' := eA2.trans eA.symm
  exact ⟨_, ρ, μ3, eg, fun q => if_pos q, r', e54, ml⟩
theorem op_setQueue {x1 : Int32} (h : JV b z A μ) (w : WF μ) : OPB b z [exIAE, exISE] (fun μ => f_X10_setQueue b x1 μ) (fun μ => f_X11_setQueue (b + 30) x1 μ) A μ := by
  obtain ⟨⟨fr, ⟨G, ar, s, hr⟩, hm, oc9, hz⟩, ai⟩ := id h
  obtain ⟨k, A', μ1, ek, eA, en, ef, fr', hr', ck⟩ := c_setQ (x := x1) fr hr ai.2.2.2
  have kl : k ≤ 2 := by rw [ek]; exact kSet_le _ _
  obtain ⟨ai', pc, ps⟩ := ai.set (fun q => (kSet_0 (ek.symm.trans q)).2) eA (fun q zA => by
    obtain ⟨n, g1, g2, g3, g4⟩ := en q
    exact (by rw [g4]; exact z0_S zA (Or.inr (Or.inr (Or.inl ⟨rfl, g1, g2⟩)))))
  refine OPB.of (e2 := 0) h w kl (by rw [← oc_r kl]; exact ef) fr' hr' ck ai' (by omega) (by omega) fun μ2 ρ r w2 n2 => ?_
  obtain ⟨k2, A2, μ3, ek2, eA2, eg, r', e54, ml⟩ := m_setQ (x := x1) r ai.n9 ai.n10 ai.2.2.2
  obtain rfl : k2 = k := ek2.trans ek.symm
  obtain rfl : A2 = A' := eA2.trans eA.symm
  exact ⟨_, ρ, μ3, eg, fun q => if_pos q, r', e54, ml⟩
theorem op_setInner {x1 : Int32} (h : JV b z A μ) (w : WF μ) : OPB b z [exIAE, exISE] (fun μ => f_X10_setInner b x1 μ) (fun μ => f_X11_setInner (b + 30) x1 μ) A μ := by
  obtain ⟨⟨fr, ⟨G, ar, s, hr⟩, hm, oc9, hz⟩, ai⟩ := id h
  obtain ⟨k, A', μ1, ek, eA, en, ef, fr', hr', ck⟩ := c_setInner (x := x1) fr hr ai.2.2.2
  have kl : k ≤ 2 := by rw [ek]; exact kSet_le _ _
  obtain ⟨ai', pc, ps⟩ := ai.set (fun q => (kSet_0 (ek.symm.trans q)).2) eA (fun q zA => by
    obtain ⟨n, g1, g2, g3, g4⟩ := en q
    exact (by rw [g4]; exact z0_inA zA ⟨g1, g2⟩))
  refine OPB.of (e2 := 0) h w kl (by rw [← oc_r kl]; exact ef) fr' hr' ck ai' (by omega) (by omega) fun μ2 ρ r w2 n2 => ?_
  obtain ⟨k2, A2, μ3, ek2, eA2, eg, r', e54, ml⟩ := m_setInner (x := x1) r ai.n9 ai.n10 ai.2.2.2
  obtain rfl : k2 = k := ek2.trans ek.symm
  obtain rfl : A2 = A' := eA2.trans eA.symm
  exact ⟨_, ρ, μ3, eg, fun q => if_pos q, r', e54, ml⟩
theorem op_setRegister {x1 x2 : Int32} (h : JV b z A μ) (w : WF μ) : OPB b z [exIAE, exISE] (fun μ => f_X10_setRegister b x1 x2 μ) (fun μ => f_X11_setRegister (b + 30) x1 x2 μ) A μ := by
  obtain ⟨⟨fr, ⟨G, ar, s, hr⟩, hm, oc9, hz⟩, ai⟩ := id h
  obtain ⟨A', μ1, eA, ef, fr', hr', ck⟩ := c_setReg (x := x1) (v := x2) fr hr ai.2.2.2 (fun q => ⟨(ai.z14 q).2.2, (ai.2.2.1 q).2.2.2.2.2.2.2.2.2.2.2.1⟩)
  have kl : kSet A (rok x1) ≤ 2 := kSet_le _ _
  obtain ⟨ai', pc, ps⟩ := ai.set (fun q => (kSet_0 q).2) eA (fun q zA => z0_reg zA)
  refine OPB.of (e2 := 0) h w kl (by rw [← oc_r kl]; exact ef) fr' hr' ck ai' (by omega) (by omega) fun μ2 ρ r w2 n2 => ?_
  obtain ⟨A2, μ3, eA2, eg, r', e54, ml⟩ := m_setReg (x := x1) (v := x2) r ai.n9 ai.n10 ai.2.2.2
  obtain rfl : A2 = A' := eA2.trans eA.symm
  exact ⟨_, ρ, μ3, eg, fun q => if_pos q, r', e54, ml⟩
theorem op_setWord {x1 x2 : Int32} (h : JV b z A μ) (w : WF μ) : OPB b z [exIAE, exISE] (fun μ => f_X10_setWord b x1 x2 μ) (fun μ => f_X11_setWord (b + 30) x1 x2 μ) A μ := by
  obtain ⟨⟨fr, ⟨G, ar, s, hr⟩, hm, oc9, hz⟩, ai⟩ := id h
  obtain ⟨A', μ1, eA, ef, fr', hr', ck⟩ := c_setWord (x := x1) (v := x2) fr hr ai.2.2.2 (fun q => ⟨(ai.z14 q).2.2, (ai.2.2.1 q).2.2.2.2.2.2.2.2.2.2.2.2⟩)
  have kl : kSet A (adok x1) ≤ 2 := kSet_le _ _
  obtain ⟨ai', pc, ps⟩ := ai.set (fun q => (kSet_0 q).2) eA (fun q zA => z0_word zA)
  refine OPB.of (e2 := 0) h w kl (by rw [← oc_r kl]; exact ef) fr' hr' ck ai' (by omega) (by omega) fun μ2 ρ r w2 n2 => ?_
  obtain ⟨A2, μ3, eA2, eg, r', e54, ml⟩ := m_setWord (x := x1) (v := x2) r ai.n9 ai.n10 ai.2.2.2
  obtain rfl : A2 = A' := eA2.trans eA.symm
  exact ⟨_, ρ, μ3, eg, fun q => if_pos q, r', e54, ml⟩
theorem op_setHandlers {x1 x2 : Int32} (h : JV b z A μ) (w : WF μ) : OPB b z [exIAE, exISE] (fun μ => f_X10_setHandlers b x1 x2 μ) (fun μ => f_X11_setHandlers (b + 30) x1 x2 μ) A μ := by
  obtain ⟨⟨fr, ⟨G, ar, s, hr⟩, hm, oc9, hz⟩, ai⟩ := id h
  obtain ⟨A', μ1, eA, ef, fr', hr', ck⟩ := c_setHand (x := x1) (y := x2) fr hr ai.2.2.2 (fun q => (ai.z14 q).2.2)
  have kl : kSet A (okH x1 && okH x2) ≤ 2 := kSet_le _ _
  obtain ⟨ai', pc, ps⟩ := ai.set (fun q => (kSet_0 q).2) eA (fun q zA => by
    have hp := (kSet_0 q).1
    simp only [Bool.and_eq_true] at hp
    refine z0_hand zA ?_ ?_
    · have := hp.1; unfold okH at this; simpa using this
    · have := hp.2; unfold okH at this; simpa using this)
  refine OPB.of (e2 := 0) h w kl (by rw [← oc_r kl]; exact ef) fr' hr' ck ai' (by omega) (by omega) fun μ2 ρ r w2 n2 => ?_
  obtain ⟨A2, μ3, eA2, eg, r', e54, ml⟩ := m_setHand (x := x1) (y := x2) r ai.n9 ai.n10 ai.2.2.2
  obtain rfl : A2 = A' := eA2.trans eA.symm
  exact ⟨_, ρ, μ3, eg, fun q => if_pos q, r', e54, ml⟩
theorem op_setTime {x1 x2 : Int32} (h : JV b z A μ) (w : WF μ) : OPB b z [exIAE] (fun μ => f_X10_setTime b x1 x2 μ) (fun μ => f_X11_setTime (b + 30) x1 x2 μ) A μ := by
  obtain ⟨⟨fr, ⟨G, ar, s, hr⟩, hm, oc9, hz⟩, ai⟩ := id h
  obtain ⟨A', μ1, eA, ef, fr', hr', ck⟩ := c_setTime (x := x1) (y := x2) fr hr
  have kl : kTm x1 x2 ≤ 1 := by unfold kTm; split <;> decide
  have fin : AI A' ∧ PhC A' = PhC A ∧ PhS A' = PhS A := by
    by_cases hk : kTm x1 x2 = 0
    · rw [if_pos hk] at eA
      subst eA
      obtain ⟨l9, n9, t1, t2, t3, t4, t5, t6, t7⟩ := kTm_0 hk
      refine ⟨⟨iy_time ai.1 (by omega), HF.hi ⟨rfl, ?_, rfl⟩ ai.2.1, fun q => z0_time (ai.2.2.1 q) (by omega), ai.2.2.2⟩, rfl, rfl⟩
      exact zN_ne (r := 6) (j := 14) _ _ _ (by decide)
    · rw [if_neg hk] at eA
      subst eA
      exact ⟨ai, rfl, rfl⟩
  obtain ⟨ai', pc, ps⟩ := fin
  refine OPB.of (e2 := 0) h w kl (by rw [ef]; have : kTm x1 x2 = 0 ∨ kTm x1 x2 = 1 := by omega
                                     rcases this with q | q <;> rw [q] <;> rfl) fr' hr' ck ai' (by omega) (by omega) fun μ2 ρ r w2 n2 => ?_
  obtain ⟨A2, μ3, eA2, eg, r', e54, ml⟩ := m_setTime (x := x1) (y := x2) r ai.n9 ai.n10
  obtain rfl : A2 = A' := eA2.trans eA.symm
  exact ⟨_, ρ, μ3, eg, fun q => if_pos q, r', e54, ml⟩
theorem kAdd_le (p : Bool) : kAdd A p ≤ 2 := by
  unfold kAdd
  split
  · decide
  · split <;> decide
theorem kAdd_0 {p : Bool} (h : kAdd A p = 0) : p = true ∧ aS A 0 = 0 ∧ aS A 15 < 64 := by
  unfold kAdd at h
  split at h
  · cases h
  · rename_i hp
    split at h
    · rename_i h0
      exact ⟨by simpa using hp, h0⟩
    · cases h
theorem op_add {x1 x2 x3 x4 x5 : Int32} (h : JV b z A μ) (w : WF μ) : OPB b z [exIAE, exISE] (fun μ => f_X10_add b x1 x2 x3 x4 x5 μ) (fun μ => f_X11_add (b + 30) x1 x2 x3 x4 x5 μ) A μ := by
  obtain ⟨⟨fr, ⟨G, ar, s, hr⟩, hm, oc9, hz⟩, ai⟩ := id h
  obtain ⟨A', G', ar', μ1, eA, ef, fr', hr', ck⟩ := c_addI (x1 := x1) (x2 := x2) (x3 := x3) (x4 := x4) (x5 := x5) fr hr w ai.2.2.2 ai.n15 ai.z14
  have kl : kAdd A (okC x1 x2 x3 x4 x5) ≤ 2 := kAdd_le _
  obtain ⟨ai', pc, ps⟩ := ai.set (fun q => (kAdd_0 q).2.1) eA (fun q zA => by
    obtain ⟨q1, q2, q3⟩ := kAdd_0 q
    obtain ⟨⟨-, e1⟩, ⟨-, e2⟩, ⟨-, e3⟩, ⟨-, e4⟩, e5⟩ := okC_e q1
    exact z0_add zA q3 e1 e2 e3 e4 e5)
  refine OPB.of (e2 := 0) h w kl (by rw [← oc_r kl]; exact ef) fr' hr' ck ai' (by omega) (by omega) fun μ2 ρ r w2 n2 => ?_
  obtain ⟨A2, μ3, eA2, eg, r', e54, ml⟩ := m_addI (x1 := x1) (x2 := x2) (x3 := x3) (x4 := x4) (x5 := x5) r ai.n9 ai.n10 ai.2.2.2 ai.n15 ai.z14
  obtain rfl : A2 = A' := eA2.trans eA.symm
  exact ⟨_, ρ, μ3, eg, fun q => if_pos q, r', e54, ml⟩
theorem runA_c : ∀ (n : Nat) {A : Sx}, IA A → aS A 0 + n ≤ 500 → aS A 0 ≤ aS (runA A n) 0 ∧ aS (runA A n) 0 ≤ aS A 0 + n ∧ (aS (runA A n) 1 = 0 → aS (runA A n) 0 = aS A 0 + n)
  | 0, _, _, _ => ⟨Nat.le_refl _, Nat.le_refl _, fun _ => rfl⟩
  | n + 1, A, q, h => by
    have hr : runA A (n + 1) = if aS A 1 = 0 then runA (cycA A) n else A := rfl
    rw [hr]
    split
    · rename_i h1
      obtain ⟨g1, g2⟩ := cycA_ia q h1 (by omega)
      obtain ⟨k1, k2, k3⟩ := runA_c n g1 (by omega)
      exact ⟨by omega, by omega, fun z => by have := k3 z; omega⟩
    · rename_i h1
      exact ⟨Nat.le_refl _, Nat.le_add_right _ _, fun z => absurd z h1⟩
theorem kRun_le (x : Int32) : kRun A x ≤ 2 := by
  unfold kRun
  split
  · decide
  · split <;> decide
theorem op_run {x1 : Int32} (h : JV b z A μ) (w : WF μ) (hN : b + 86 ≤ mN μ) : OPB b z [exIAE, exISE] (fun μ => f_X10_run b x1 μ) (fun μ => f_X11_run (b + 30) x1 μ) A μ := by
  obtain ⟨⟨fr, ⟨G, ar, s, hr⟩, hm, oc9, hz⟩, ai⟩ := id h
  obtain ⟨A', G', ar', s', μ1, eA, ef, fr', hr', ck, iy'⟩ := c_run (x := x1) fr hr w ai.1 ai.2.2.2
  have kl : kRun A x1 ≤ 2 := kRun_le _
  have fin : AI A' ∧ (if kRun A x1 = 0 then 30 * x1.toNatClampNeg else 1) + (if kRun A x1 = 0 then 4 * x1.toNatClampNeg else 0) + PhC A' ≤ 4 + PhC A ∧ (if kRun A x1 = 0 then 13000 * x1.toNatClampNeg else 6) + 5 * (if kRun A x1 = 0 then 4 * x1.toNatClampNeg else 0) + PhS A' ≤ 220 + PhS A := by
    by_cases hk : kRun A x1 = 0
    · rw [if_pos hk] at eA
      rw [if_pos hk, if_pos hk, if_pos hk]
      obtain ⟨a1, n, n1, n2, -, n3, n4⟩ := kRun_0 hk ai.2.2.2
      rw [n3] at eA ⊢
      subst eA
      obtain ⟨r1, r2, r3⟩ := runA_c n ai.1.1.1 n4
      have r4 : aS A 0 + 1 ≤ aS (runA A n) 0 := by
        obtain ⟨m, rfl⟩ : ∃ m, n = m + 1 := ⟨n - 1, by omega⟩
        have hr : runA A (m + 1) = if aS A 1 = 0 then runA (cycA A) m else A := rfl
        rw [hr, if_pos a1]
        obtain ⟨g1, g2⟩ := cycA_ia ai.1.1.1 a1 (by omega)
        have := (runA_c m g1 (by omega)).1
        omega
      refine ⟨⟨iy', hi_runA n ai.1.1 n4 ai.2.1, fun q => by omega, by omega⟩, ?_, ?_⟩
      · unfold PhC
        rw [if_pos a1]
        split
        · rename_i q
          have := r3 q
          omega
        · omega
      · unfold PhS
        rw [if_pos a1]
        split
        · rename_i q
          have := r3 q
          omega
        · omega
    · rw [if_neg hk] at eA
      rw [if_neg hk, if_neg hk, if_neg hk]
      subst eA
      exact ⟨ai, by omega, by omega⟩
  obtain ⟨ai', pc, ps⟩ := fin
  refine OPB.of (e2 := if kRun A x1 = 0 then 4 * x1.toNatClampNeg else 0) h w kl (by rw [← oc_r kl]; exact ef) fr' hr' ck ai' pc ps fun μ2 ρ r w2 n2 => ?_
  obtain ⟨A2, ρ2, μ3, eA2, eg, r', e54, ml⟩ := m_run (x := x1) r w2 n2 ai.1.1 ai.2.2.2
  obtain rfl : A2 = A' := eA2.trans eA.symm
  exact ⟨_, ρ2, μ3, eg, fun q => if_pos q, r', e54, ml⟩
end OPSET
