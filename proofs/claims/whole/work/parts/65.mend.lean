/-! the model: endings -/
section MEND
variable {b : Nat} {A A' : Sx} {ρ : Nat → Nat} {μ μ' : Mm} {S : Nat → Nat → Bool}
def tabB (o k : Nat) : Bool := tabM o k || decide (46 ≤ o ∧ o ≤ 61)
theorem tabB_f (hS : ∀ o k, S o k = true → tabB o k = true) {o k : Nat} (h : ¬ ((o = 30 ∧ k ≠ 26 ∧ k ≠ 35) ∨ (38 ≤ o ∧ o ≤ 44) ∨ (72 ≤ o ∧ o ≤ 75) ∨ o = 81 ∨ (46 ≤ o ∧ o ≤ 61))) : S o k = false := by
  cases hz : S o k with
  | false => rfl
  | true =>
    have := hS o k hz
    unfold tabB tabM at this
    simp only [Bool.or_eq_true, decide_eq_true_eq] at this
    omega
/-- a step in the model's table and its buffer's rows: the other parts stay -/
theorem RM.nx (h : RM b A ρ μ) (hT : RT mT b A' μ') (hBM : BM b A' ρ μ') (g : CH b S μ μ') (hS : ∀ o k, S o k = true → tabB o k = true) (n10 : aS A 10 ≤ 8) (hP : SamP A A') (h10 : aS A' 10 ≤ aS A 10) (hL : ∀ k, k < aS A' 10 → aL A' k = aL A k) (h15 : aS A' 15 = aS A 15) (hv6 : aV A' 6 = aV A 6) (hv7 : aV A' 7 = aV A 7) (hQ : aQ A' = aQ A) (hTt : aT A' = aT A) (hF : aS A' 12 = 0 → aS A 12 = 0 ∧ aS A' 11 = aS A 11)
    (h14 : aS A' 14 = aS A 14) (hN : ∀ r, 14 ≤ r → aN A' r = aN A r) (hv8 : aV A' 8 = aV A 8) : RM b A' ρ μ' := by
  obtain ⟨r1, r2, r3, r4, r5, r6, r7, r8, r9, r10, r11⟩ := h
  refine ⟨r1.ch g, hT, r3.ch g, hBM, fun k hk => ?_, fun p hp => ?_, ?_, ?_, ?_, fun q => ?_, fun e he => ?_⟩
  · rw [hL k hk]
    exact ((r5.ch n10 g (fun o k a c => tabB_f hS (by omega))) k (by omega)).cg hP
  · rw [hP.1 10 (by omega) (by omega), hP.1 11 (by omega) (by omega), hP.1 12 (by omega) (by omega), hP.1 13 (by omega) (by omega), hP.2]
    exact (r6.ch g (fun o k a c => tabB_f hS (by omega))) p (by omega)
  · unfold KM
    rw [hv6, hv7]
    exact r7.ch g (fun o k a c => tabB_f hS (by omega))
  · unfold QM
    rw [hQ]
    exact r8.ch g (tabB_f hS (by omega)) (fun o k a c => tabB_f hS (by omega))
  · unfold TM
    rw [hTt]
    exact r9.ch g (fun k => tabB_f hS (by omega))
  · obtain ⟨q1, q2⟩ := hF q
    rw [q2]
    exact (r10.ch g (tabB_f hS (by omega))) q1
  · rw [hN 14 (by omega), hN 15 (by omega), hN 20 (by omega), hN 21 (by omega), hN 22 (by omega), hN 23 (by omega), hv8]
    exact (r11.ch g (fun o k a c => tabB_f hS (by omega)) (fun o k z => by
      have := hS o k z
      unfold tabB tabM at this
      simp only [Bool.or_eq_true, decide_eq_true_eq] at this
      omega)) e (by omega)
theorem BM.upd {k : Nat} (h : BM b A ρ μ) (hr : Rho b ρ μ) (n9 : aS A 9 ≤ 16) (hk0 : k < 16) (g : CH b S μ μ') (hS : ∀ o j, S o j = true → o = ρ k ∨ o < 46 ∨ 61 < o) (hP : SamP A A') (h9 : aS A' 9 ≤ aS A 9) (hB : ∀ j, j < aS A' 9 → j ≠ k → aB A' j = aB A j) (hk : k < aS A' 9 → REm A' (aB A' k) (mI μ' (b + ρ k))) : BM b A' ρ μ' := fun j hj => by
  by_cases e : j = k
  · subst e
    exact hk hj
  · rw [hB j hj e]
    obtain ⟨-, r2, r3⟩ := hr.1 j (by omega)
    have hne : ρ j ≠ ρ k := by
      rcases Nat.lt_trichotomy j k with q | q | q
      · exact hr.2.1 j k q hk0
      · exact absurd q e
      · exact Ne.symm (hr.2.1 k j q (by omega))
    rw [g.row (o := ρ j) (fun i => by
      cases hz : S (ρ j) i with
      | false => rfl
      | true =>
        have := hS _ _ hz
        omega)]
    exact (h j (by omega)).cg hP
theorem SM.row (S : SM b μ) {o : Nat} (h : 46 ≤ o ∧ o < 62) : mK μ (b + o) = 11 ∧ mL μ (b + o) = 28 := by
  unfold SM at S
  have := S.2.2.2.2.2.2.2.2.2.2.2.2.2.2.2.2.2.2.2.2.2.2.2.2.2.2.2.2.2.2.2.2.2.2.2.2.2.2.2.2.2.2.2.2.2.2.2.2.2.2.2.2.2.2.2.2.2.2.2.2.2.2.2.2.2.2.2.2.2.2.2.2.2.2.2.2.2.2.2.2.2.2.2.2.2.2.2.2 (o - 46) (by omega) (by omega)
  rw [show 46 + (o - 46) = o by omega] at this
  exact this
theorem SM.lrow (S : SM b μ) {o : Nat} (h : 63 ≤ o ∧ o < 71) : mK μ (b + o) = 11 ∧ mL μ (b + o) = 28 := by
  unfold SM at S
  have := S.2.2.2.2.2.2.2.2.2.2.2.2.2.2.2.2.2.2.2.2.2.2.2.2.2.2.2.2.2.2.2.2.2.2.2.2.2.2.2.2.2.2.2.2.2.2.2.2.2.2.2.2.2.2.2.2.2.2.2.2.2.2.2.2.2.2.2.2.2.2.2.2.2.2.2.2.2.2.2.2.2.2.2.2.2.2.2.2 (o - 46) (by omega) (by omega)
  rw [show 46 + (o - 46) = o by omega] at this
  exact this
/-- goesOn -/
def sGo (o k : Nat) : Bool := o == 30 && (k == 25 || k == 26 || k == 27)
theorem m_goesOn {p : Nat} (h : RM b A ρ μ) (n9 : aS A 9 ≤ 16) : ∃ μ', f_X11_goesOn (b + 30) (nI p) μ = some ((), μ') ∧ RM b (zS (zS (zS A 11 p) 12 0) 10 0) ρ μ' ∧ CH b sGo μ μ' := by
  have s := h.1
  unfold SM at s
  have g : CH b sGo μ (sI (sI (sI μ (b + 30) 26 (nI p)) (b + 30) 27 0) (b + 30) 25 0) := ((CH.put rfl).trans (CH.put rfl)).trans (CH.put rfl)
  refine ⟨_, by simp only [f_X11_goesOn, s, ckT, zlS, mK_sI], ?_, g⟩
  obtain ⟨r1, r2, r3, r4, r5, r6, r7, r8, r9, r10, r11⟩ := h
  have fs : ∀ {o k : Nat}, ¬ (o = 30 ∧ (k = 25 ∨ k = 26 ∨ k = 27)) → sGo o k = false := fun {o k} hn => by
    cases hz : sGo o k with
    | false => rfl
    | true =>
      unfold sGo at hz
      simp only [Bool.and_eq_true, Bool.or_eq_true, beq_iff_eq] at hz
      omega
  have hT : RT mT b (zS (zS (zS A 11 p) 12 0) 10 0) (sI (sI (sI μ (b + 30) 26 (nI p)) (b + 30) 27 0) (b + 30) 25 0) := by
    have t0 : RT mT b (zS A 11 p) (sI μ (b + 30) 26 (nI p)) := (r2.off (o := 30) (k := 26) (nI p) (by decide +kernel)).cg (fun i hi => zS_ne _ _ (fun z => by rw [z] at hi; cases hi)) (fun _ _ _ _ => rfl) (fun _ _ _ _ => rfl)
    exact (t0.putS mT_ok (i := 12) rfl 0).putS mT_ok (i := 10) rfl 0
  refine ⟨r1.ch g, hT, r3.ch g, r4.ch n9 r3 g (fun o k _ _ => fs (by omega)), fun j hj => absurd hj (Nat.not_lt_zero _), r6.ch g (fun o k _ _ => fs (by omega)), r7.ch g (fun o k _ _ => fs (by omega)), r8.ch g (fs (by omega)) (fun o k _ _ => fs (by omega)), r9.ch g (fun k => fs (by omega)), fun _ => ?_, r11.ch g (fun o k _ _ => fs (by omega)) (fun o k z => ?_)⟩
  · rw [mI_ne _ _ (Or.inr (by decide)), mI_ne _ _ (Or.inr (by decide)), mI_at]
    rfl
  · unfold sGo at z
    simp only [Bool.and_eq_true, beq_iff_eq] at z
    omega
/-- stackAs: the stack as a row has it -/
def sSt (o _ : Nat) : Bool := o == 71
theorem m_stackAs {r o : Nat} {x : Int32} (h : RM b A ρ μ) (n9 : aS A 9 ≤ 16) (n10 : aS A 10 ≤ 8) {t : List Nat} (hr : 46 ≤ r ∧ r < 62) (hx : x = nI o) (ho : o ≤ 23) (ht : STk (mI μ (b + r)) o t) (hl : t.length ≤ 4) : ∃ μ', f_X11_stackAs (b + 30) (b + r) x μ = some ((), μ') ∧ RM b (zT A t) ρ μ' ∧ CH b sSt μ μ' := by
  subst hx
  have key : ∀ (m i : Nat) (ν : Mm) (n : Nat), m + i = 5 → m < n → SM b ν → CH b sSt μ ν → (∀ j, j < i → mI ν (b + 71) j = mI μ (b + r) (o + j)) → ∃ ν', f_X11_stackAs_b2 n (b + 30) (b + r) (nI o) (nI i) ν = some ((), ν') ∧ CH b sSt μ ν' ∧ ∀ j, j < 5 → mI ν' (b + 71) j = mI μ (b + r) (o + j) := by
    intro m
    induction m with
    | zero =>
      intro i ν n hi hn S0 g hj
      obtain ⟨n', rfl⟩ : ∃ n', n = n' + 1 := ⟨n - 1, by omega⟩
      have i5 : i = 5 := by omega
      subst i5
      exact ⟨ν, by simp only [f_X11_stackAs_b2, show (4 : Int32) < nI 5 by decide, if_true], g, hj⟩
    | succ m ih =>
      intro i ν n hi hn S0 g hj
      obtain ⟨n', rfl⟩ : ∃ n', n = n' + 1 := ⟨n - 1, by omega⟩
      have s := S0
      unfold SM at s
      have s2 := S0.row hr
      have c1 : ¬ (4 : Int32) < nI i := nI_nlt (b := i) (a := 4) (by omega) (by omega)
      have g1 : mI ν (b + r) (o + i) = mI μ (b + r) (o + i) := g.cell (by unfold sSt; simp; omega)
      obtain ⟨ν', e1, e2, e3⟩ := ih (i + 1) (sI ν (b + 71) i (mI μ (b + r) (o + i))) n' (by omega) (by omega) (S0.ch (CH.put (S := sSt) rfl)) (g.trans (CH.put rfl)) (fun j hjl => by
        by_cases e : j = i
        · rw [e, mI_at]
        · rw [mI_ne _ _ (Or.inr e)]
          exact hj j (by omega))
      refine ⟨ν', ?_, e2, e3⟩
      rw [← e1]
      simp only [f_X11_stackAs_b2, c1, if_false, s, s2, ckT, bdS, zlS, ckA, nI_add, nI_1, ck_t (inbN (p := i) (n := 5) (by omega) (by omega)), ck_t (inbN (p := o + i) (n := 28) (by omega) (by omega)), clN (show i < 100000 by omega), clN (show o + i < 100000 by omega), g1]
  obtain ⟨μ', e1, g, e3⟩ := key 5 0 μ 5000 rfl (by omega) h.1 CH.refl0 (fun j hj => absurd hj (Nat.not_lt_zero _))
  refine ⟨μ', e1, ?_, g⟩
  obtain ⟨r1, r2, r3, r4, r5, r6, r7, r8, r9, r10, r11⟩ := h
  have fs : ∀ {o k : Nat}, o ≠ 71 → sSt o k = false := fun {o k} hn => by
    unfold sSt
    simp [hn]
  refine ⟨r1.ch g, ?_, r3.ch g, r4.ch n9 r3 g (fun o k _ _ => fs (by omega)), r5.ch n10 g (fun o k _ _ => fs (by omega)), r6.ch g (fun o k _ _ => fs (by omega)), r7.ch g (fun o k _ _ => fs (by omega)), r8.ch g (fs (by omega)) (fun o k _ _ => fs (by omega)), ?_, r10.ch g (fs (by omega)), r11.ch g (fun o k _ _ => fs (by omega)) (fun o k z => ?_)⟩
  · refine r2.keep (fun o2 k2 h2 => g.cell ?_)
    refine fs (fun z => ?_)
    rw [z] at h2
    have : ∀ k, offT mT 71 k = true := fun k => by
      unfold offT
      simp only [Bool.and_eq_true, List.all_eq_true, List.mem_range, Bool.or_eq_true, Bool.not_eq_true', decide_eq_false_iff_not, Bool.and_eq_false_iff]
      refine ⟨⟨fun i hi => ?_, ?_⟩, ?_⟩
      · right
        intro z
        have : ∀ i, i < 25 → (mT.1 i).1 ≠ 71 := by decide +kernel
        exact this i hi (by rw [z])
      · have : ∀ i, i < 8 → mT.2.1 i ≠ 71 := by decide +kernel
        exact this
      · have : ∀ i, i < 5 → (mT.2.2 i).1 ≠ 71 := by decide +kernel
        exact fun i hi => Or.inl (Or.inl (this i hi))
    rw [this] at h2
    cases h2
  · have hlen : (aT (zT A t)) = t := rfl
    unfold TM
    rw [hlen]
    refine ⟨?_, fun i hi => ?_⟩
    · rw [e3 0 (by omega)]
      exact ht.1
    · rw [show 0 + 1 + i = i + 1 by omega, e3 (i + 1) (by omega), show o + (i + 1) = o + 1 + i by omega]
      exact ht.2 i hi
  · unfold sSt at z
    simp only [beq_iff_eq] at z
    omega
end MEND
