section MTH2
variable {b : Nat} {A A' : Sx} {ρ : Nat → Nat} {μ μ' : Mm} {S : Nat → Nat → Bool}
theorem REm.cg {x : Ent} {f : Nat → Int32} (h : REm A x f) (hP : SamP A A') : REm A' x f := by
  unfold REm at h ⊢
  rw [(hP.c (x := x) rfl).1]
  exact h
theorem RLm.cg {x : Ent} {f : Nat → Int32} (h : RLm A x f) (hP : SamP A A') : RLm A' x f := by
  unfold RLm at h ⊢
  rw [(hP.c (x := x) rfl).1]
  exact h
/-- cells that the model's table has, and no other part reads -/
def tabM (o k : Nat) : Bool := decide ((o = 30 ∧ k ≠ 26 ∧ k ≠ 35) ∨ (38 ≤ o ∧ o ≤ 44) ∨ (72 ≤ o ∧ o ≤ 75) ∨ o = 81)
theorem tabM_f (hS : ∀ o k, S o k = true → tabM o k = true) {o k : Nat} (h : ¬ ((o = 30 ∧ k ≠ 26 ∧ k ≠ 35) ∨ (38 ≤ o ∧ o ≤ 44) ∨ (72 ≤ o ∧ o ≤ 75) ∨ o = 81)) : S o k = false := by
  cases hz : S o k with
  | false => rfl
  | true => exact absurd (of_decide_eq_true (hS o k hz)) h
/-- a step in the model's table: the other parts stay -/
theorem RM.next (h : RM b A ρ μ) (hT : RT mT b A' μ') (g : CH b S μ μ') (hS : ∀ o k, S o k = true → tabM o k = true) (n9 : aS A 9 ≤ 16) (n10 : aS A 10 ≤ 8) (hP : SamP A A') (h9 : aS A' 9 ≤ aS A 9) (hB : ∀ k, k < aS A' 9 → aB A' k = aB A k) (h10 : aS A' 10 ≤ aS A 10) (hL : ∀ k, k < aS A' 10 → aL A' k = aL A k) (h15 : aS A' 15 = aS A 15) (hv6 : aV A' 6 = aV A 6) (hv7 : aV A' 7 = aV A 7) (hQ : aQ A' = aQ A) (hTt : aT A' = aT A) (hF : aS A' 12 = 0 → aS A 12 = 0 ∧ aS A' 11 = aS A 11)
    (h14 : aS A' 14 = aS A 14) (hN : ∀ r, 14 ≤ r → aN A' r = aN A r) (hv8 : aV A' 8 = aV A 8) : RM b A' ρ μ' := by
  obtain ⟨r1, r2, r3, r4, r5, r6, r7, r8, r9, r10, r11⟩ := h
  refine ⟨r1.ch g, hT, r3.ch g, fun k hk => ?_, fun k hk => ?_, fun p hp => ?_, ?_, ?_, ?_, fun q => ?_, fun e he => ?_⟩
  · rw [hB k hk]
    exact ((r4.ch n9 r3 g (fun o k a c => tabM_f hS (by omega))) k (by omega)).cg hP
  · rw [hL k hk]
    exact ((r5.ch n10 g (fun o k a c => tabM_f hS (by omega))) k (by omega)).cg hP
  · rw [hP.1 10 (by omega) (by omega), hP.1 11 (by omega) (by omega), hP.1 12 (by omega) (by omega), hP.1 13 (by omega) (by omega), hP.2]
    exact (r6.ch g (fun o k a c => tabM_f hS (by omega))) p (by omega)
  · unfold KM
    rw [hv6, hv7]
    exact r7.ch g (fun o k a c => tabM_f hS (by omega))
  · unfold QM
    rw [hQ]
    exact r8.ch g (tabM_f hS (by omega)) (fun o k a c => tabM_f hS (by omega))
  · unfold TM
    rw [hTt]
    exact r9.ch g (fun k => tabM_f hS (by omega))
  · obtain ⟨q1, q2⟩ := hF q
    rw [q2]
    exact (r10.ch g (tabM_f hS (by omega))) q1
  · rw [hN 14 (by omega), hN 15 (by omega), hN 20 (by omega), hN 21 (by omega), hN 22 (by omega), hN 23 (by omega), hv8]
    exact (r11.ch g (fun o k a c => tabM_f hS (by omega)) (fun o k z => by
      have := of_decide_eq_true (hS o k z)
      omega)) e (by omega)
theorem m1_lt {n : Nat} (h : n < 100000) : nI n + (-1) < nI n := by
  refine Int32.lt_iff_toInt_lt.mpr ?_
  rcases n with _ | n
  · decide
  · rw [pk_m1, nI_toInt (by omega), nI_toInt (by omega)]
    omega
theorem m_throwsL {at_ N : Nat} (hN : N ≤ 16) : ∀ (m : Nat) {A : Sx} {μ : Mm} {n : Nat}, m < n → SM b μ → RT mT b (zS A 9 N) μ → Rho b ρ μ → BM b A ρ μ → PM b A μ → IBz A → aS A 9 = at_ + m → at_ + m ≤ N →
    ∃ μ', f_X11_throwsFrom_b7 n (b + 30) (nI at_) (nI (at_ + m) + (-1)) μ = some ((), μ') ∧ RT mT b (throwN A m) μ' ∧ CH b sThr μ μ'
  | 0, A, μ, n + 1, _, S, hT, hR, hB, hP, hz, h9, hN2 => by
    have s := S
    unfold SM at s
    have hmin : f_J9_min_7cf53 (nI N) (nI at_) = some (nI at_) := by
      unfold f_J9_min_7cf53
      by_cases e : nI N ≤ nI at_
      · have e2 : N = at_ := by
          have := (nI_leI (by omega) (by omega)).mp e
          omega
        simp only [e2, Int32.lt_irrefl, Int32.le_refl, if_true, if_false]
        try rfl
        try (split <;> rfl)
      · have e3 := Int32.not_le.mp e
        simp only [e, e3, if_true, if_false]
        try rfl
    have h23 : mI μ (b + 30) 23 = nI N := by
      have := hT.1 9 rfl
      rw [zS_at] at this
      exact this
    refine ⟨sI μ (b + 30) 23 (nI at_), ?_, ?_, CH.put rfl⟩
    · simp only [f_X11_throwsFrom_b7, Nat.add_zero, m1_lt (show at_ < 100000 by omega), if_true, f_X11_throwsFrom_b86, s, ckT, h23, hmin, bdS, zlS]
    · have h1 := hT.putS mT_ok (i := 9) rfl at_
      rw [zS_zS, zS_self A (by omega)] at h1
      exact h1
  | m + 1, A, μ, n + 1, hn, S, hT, hR, hB, hP, hz, h9, hN2 => by
    obtain ⟨μ1, e1, hT1, g1⟩ := m_thrStep S hT hR hB hP hz h9 hN hN2 n
    obtain ⟨t1, t2, t3, t4, t5, -⟩ := throw1_f A
    have hPs := throw1_P A
    have n9 : aS (throw1 A) 9 = at_ + m := by rw [t2, h9]; rfl
    have hB1 : BM b (throw1 A) ρ μ1 := fun k hk => by
      rw [t5]
      exact ((hB.ch (by omega) hR g1 (fun o j a c => by
        unfold sThr
        simp
        omega)) k (by omega)).cg hPs
    have hP1 : PM b (throw1 A) μ1 := fun p hp => by
      rw [t1 15 (by decide) (by decide) (by decide)] at hp
      rw [hPs.1 10 (by omega) (by omega), hPs.1 11 (by omega) (by omega), hPs.1 12 (by omega) (by omega), hPs.1 13 (by omega) (by omega), hPs.2]
      exact (hP.ch g1 (fun o j a c => by
        unfold sThr
        simp
        omega)) p hp
    obtain ⟨μ2, e2, hT2, g2⟩ := m_throwsL hN m (n := n) (by omega) (S.ch g1) hT1 (hR.ch g1) hB1 hP1 (hz.thr1 (by omega)) n9 (by omega)
    refine ⟨μ2, ?_, hT2, g1.trans g2⟩
    rw [show nI (at_ + (m + 1)) + (-1) = nI (at_ + m) from pk_m1 _, e1]
    exact e2
theorem m_throws {at_ : Nat} (h : RM b A ρ μ) (hz : IBz A) (n10 : aS A 10 ≤ 8) (hat : at_ ≤ aS A 9) : ∃ μ', f_X11_throwsFrom (b + 30) (nI at_) μ = some ((), μ') ∧ RM b (throwN A (aS A 9 - at_)) ρ μ' ∧ CH b sThr μ μ' := by
  have s := h.1
  unfold SM at s
  have n9 : aS A 9 ≤ 16 := by
    have := hz.2.1.1
    have := hz.1.2.1
    omega
  have h23 : mI μ (b + 30) 23 = nI (aS A 9) := h.2.1.1 9 rfl
  obtain ⟨μ', e, hT, g⟩ := m_throwsL (b := b) (at_ := at_) (N := aS A 9) n9 (aS A 9 - at_) (A := A) (n := 5000) (by omega) h.1 (by rw [zS_self A rfl]; exact h.2.1) h.2.2.1 h.2.2.2.1 h.2.2.2.2.2.1 hz (by omega) (by omega)
  obtain ⟨t1, t2, t3, t4, t5, t6, t7, t8, -⟩ := throwN_f (aS A 9 - at_) A
  refine ⟨μ', ?_, h.next hT g (fun o k z => ?_) n9 n10 ⟨fun r a c => t3 r (by omega) (by omega), by rw [t4]⟩ (by rw [t2]; omega) (fun k _ => by rw [t5]) (by rw [t1 10 (by decide) (by decide) (by decide)]; exact Nat.le_refl _) (fun k _ => by rw [t6]) (t1 15 (by decide) (by decide) (by decide)) (by rw [t4]) (by rw [t4]) t8 t7 (fun q => ⟨by rw [← t1 12 (by decide) (by decide) (by decide)]; exact q, t1 11 (by decide) (by decide) (by decide)⟩) (t1 14 (by decide) (by decide) (by decide)) (fun r hr => t3 r (by omega) (by omega)) (by rw [t4]), g⟩
  · have e2 : nI (aS A 9) - 1 = nI (at_ + (aS A 9 - at_)) + (-1) := by
      rw [show at_ + (aS A 9 - at_) = aS A 9 by omega]
      exact Int32.sub_eq_add_neg _ _
    simp only [f_X11_throwsFrom, s, ckT, h23, e2]
    exact e
  · unfold sThr at z
    simp only [Bool.or_eq_true, Bool.and_eq_true, beq_iff_eq] at z
    exact decide_eq_true (by omega)
end MTH2
