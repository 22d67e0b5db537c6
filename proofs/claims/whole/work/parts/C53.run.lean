/-! both: a run -/
section CRN
variable {b z e sl : Nat} {m m' : Nat → Nat} {A A' B C D : Sx} {P : Pm} {G : Nat → Nat → Nat} {ar : Nat → Nat} {s : Nat} {ρ : Nat → Nat} {μ μ' μ2 : Mm} {S : Nat → Nat → Bool}
def okR (A : Sx) (x : Int32) : Bool := (!decide (x < 1) && decide (x ≤ 60)) && decide (nI (aS A 0) + x ≤ 500)
def kRun (A : Sx) (x : Int32) : Nat := if okR A x = false then 1 else if aS A 1 = 0 then 0 else 2
theorem okR_e {x : Int32} (h : okR A x = true) (h0 : aS A 0 ≤ 500) : ∃ n, 1 ≤ n ∧ n ≤ 60 ∧ x = nI n ∧ x.toNatClampNeg = n ∧ aS A 0 + n ≤ 500 := by
  unfold okR at h
  simp only [Bool.and_eq_true, Bool.not_eq_true', decide_eq_false_iff_not, decide_eq_true_eq] at h
  obtain ⟨⟨x1, x60⟩, x5⟩ := h
  obtain ⟨n, n1, n2, e⟩ := i32r (lo := 1) (hi := 60) (by omega) (by omega) x1 x60
  refine ⟨n, n1, n2, e, by rw [e]; exact clN (by omega), ?_⟩
  rw [e, nI_add] at x5
  rcases Nat.lt_or_ge 500 (aS A 0 + n) with q | q
  · exact absurd x5 (nI_ge (a := 500) q (by omega))
  · exact q
theorem kRun_0 {x : Int32} (h : kRun A x = 0) (h0 : aS A 0 ≤ 500) : aS A 1 = 0 ∧ ∃ n, 1 ≤ n ∧ n ≤ 60 ∧ x = nI n ∧ x.toNatClampNeg = n ∧ aS A 0 + n ≤ 500 := by
  unfold kRun at h
  split at h
  · cases h
  · rename_i c
    have ok : okR A x = true := by
      cases hb : okR A x
      · exact absurd hb c
      · rfl
    split at h
    · rename_i c2
      exact ⟨c2, okR_e ok h0⟩
    · cases h
theorem c_run {x : Int32} (h : FR b z A μ) (hh : HR b z A (fun _ => 0) G ar s μ) (w : WF μ) (q : IY A) (h0 : aS A 0 ≤ 500) : ∃ (A' : Sx) (G' : Nat → Nat → Nat) (ar' : Nat → Nat) (s' : Nat) (μ' : Mm), A' = (if kRun A x = 0 then runA A x.toNatClampNeg else A) ∧ f_X10_run b x μ = some (oc (kRun A x) (nI (aS A' 14) - nI (aS A 14)), μ') ∧ FR b z A' μ' ∧ HR b z A' (fun _ => 0) G' ar' s' μ' ∧ CK (if kRun A x = 0 then 30 * x.toNatClampNeg else 1) (if kRun A x = 0 then 13000 * x.toNatClampNeg else 6) μ μ' ∧ IY A' := by
  have k0 := h.1
  unfold SC at k0
  have i12 : mI μ (b + 1) 12 = nI (aS A 0) := h.2.1.1 0 rfl
  have i13 : mI μ (b + 1) 13 = nI (aS A 1) := h.2.1.1 1 rfl
  have z1 := zb1 q.1.1.1.1.2.1.2.2.2.2.2.2.1.1
  have sz := c_size h.k100.2.2.2 h.sz.2.2.2
  have no : ∀ kk, (kk = 1 ∨ kk = 2) → kRun A x = kk → f_X10_run b x μ = some (oc kk (nI (aS A 14) - nI (aS A 14)), bump μ 6) → ∃ (A' : Sx) (G' : Nat → Nat → Nat) (ar' : Nat → Nat) (s' : Nat) (μ' : Mm), A' = (if kRun A x = 0 then runA A x.toNatClampNeg else A) ∧ f_X10_run b x μ = some (oc (kRun A x) (nI (aS A' 14) - nI (aS A 14)), μ') ∧ FR b z A' μ' ∧ HR b z A' (fun _ => 0) G' ar' s' μ' ∧ CK (if kRun A x = 0 then 30 * x.toNatClampNeg else 1) (if kRun A x = 0 then 13000 * x.toNatClampNeg else 6) μ μ' ∧ IY A' := fun kk h12 hk ee => by
    have hk0 : ¬ kk = 0 := by omega
    rw [hk]
    exact ⟨A, G, ar, s, bump μ 6, by rw [if_neg hk0], ee, h.bump, hh.bump, by rw [if_neg hk0, if_neg hk0]; exact bump_ck, q⟩
  by_cases x1 : x < 1
  · refine no 1 (Or.inl rfl) (by unfold kRun okR; rw [decide_eq_true x1]; rfl) ?_
    simp only [f_X10_run, f_X10_run_b26, x1, if_true]
    rfl
  by_cases x60 : 60 < x
  · refine no 1 (Or.inl rfl) (by unfold kRun okR; rw [decide_eq_false (Int32.not_le.mpr x60), Bool.and_false]; rfl) ?_
    simp only [f_X10_run, f_X10_run_b26, x1, if_false, x60, if_true]
    rfl
  by_cases x5 : nI (aS A 0) + x ≤ 500
  · have ok : okR A x = true := by unfold okR; rw [decide_eq_false x1, decide_eq_true (Int32.not_lt.mp x60), decide_eq_true x5]; rfl
    by_cases a1 : aS A 1 = 0
    · have c13 : zb (nI (aS A 1)) = 0 := by rw [z1]; exact a1
      have hk : kRun A x = 0 := by unfold kRun; rw [ok, if_neg (by decide), if_pos a1]
      obtain ⟨n, n1, n60, e, en, n5⟩ := okR_e ok h0
      obtain ⟨G', ar', s', μ', e1, F, H, c, q'⟩ := c_runL (N := n) (had := aS A 14) n60 n (i := 0) (fu := 5000) h hh w q (Nat.zero_add _) n5 (by omega)
      rw [hk]
      refine ⟨runA A n, G', ar', s', μ', by rw [if_pos rfl, en], ?_, F, H, by rw [if_pos rfl, if_pos rfl, en]; exact c, q'⟩
      have e1' : f_X10_run_b65 5000 b x (nI (aS A 14)) 0 μ = some (.inl (nI (aS (runA A n) 14) - nI (aS A 14)), μ') := by rw [e]; exact e1
      simp only [f_X10_run, x1, if_false, x60, k0, ckT, bdS, i12, x5, if_true, i13, c13, sz, e1']
      rfl
    · have c13 : ¬ zb (nI (aS A 1)) = 0 := by rw [z1]; exact a1
      refine no 2 (Or.inr rfl) (by unfold kRun; rw [ok, if_neg (by decide), if_neg a1]) ?_
      simp only [f_X10_run, x1, if_false, x60, k0, ckT, bdS, i12, x5, if_true, i13, c13]
      rfl
  · refine no 1 (Or.inl rfl) (by unfold kRun okR; rw [decide_eq_false x5, Bool.and_false]; rfl) ?_
    simp only [f_X10_run, f_X10_run_b26, x1, if_false, x60, k0, ckT, bdS, i12, x5]
    rfl
theorem m_run {x : Int32} (h : RM b A ρ μ) (w : WF μ) (hN : b + 86 ≤ mN μ) (q : IX A) (h0 : aS A 0 ≤ 500) : ∃ (A' : Sx) (ρ' : Nat → Nat) (μ' : Mm), A' = (if kRun A x = 0 then runA A x.toNatClampNeg else A) ∧ f_X11_run (b + 30) x μ = some (if kRun A x = 0 then nI (aS A' 14) - nI (aS A 14) else 0, μ') ∧ RM b A' ρ' μ' ∧ mI μ' (b + 30) 54 = nI (kRun A x) ∧ ML b (if kRun A x = 0 then 4 * x.toNatClampNeg else 0) μ μ' := by
  have n9 : aS A 9 ≤ 16 := by have := q.1.1.1.2.1.1; have := q.1.1.1.1.2.1; omega
  have n10 : aS A 10 ≤ 8 := by have := q.1.1.2.1; have := q.1.1.1.1.1; omega
  have k0 := h.1.1
  have i36 : mI μ (b + 30) 36 = nI (aS A 0) := h.2.1.1 0 rfl
  have i37 : mI μ (b + 30) 37 = nI (aS A 1) := h.2.1.1 1 rfl
  have z1 := zb1 q.1.1.1.2.1.2.2.2.2.2.2.1.1
  have ir := m_inR x 1 60
  have b0 : bI false = 0 := rfl
  have b1 : ¬ bI true = 0 := by decide
  have run39 : f_X11_run (b + 30) x μ = f_X11_run_b39 (b + 30) x (nI (kRun A x)) (b + 30) μ := by
    cases h1 : (!decide (x < 1) && decide (x ≤ 60))
    · rw [h1] at ir
      have hk : kRun A x = 1 := by unfold kRun okR; rw [h1]; rfl
      rw [hk]
      simp only [f_X11_run, f_X11_run_b23, ir, bdS, b0, if_true]
      rfl
    · rw [h1] at ir
      by_cases x5 : nI (aS A 0) + x ≤ 500
      · have ok : okR A x = true := by unfold okR; rw [h1, decide_eq_true x5]; rfl
        by_cases a1 : aS A 1 = 0
        · have c13 : zb (nI (aS A 1)) = 0 := by rw [z1]; exact a1
          have hk : kRun A x = 0 := by unfold kRun; rw [ok, if_neg (by decide), if_pos a1]
          rw [hk]
          simp only [f_X11_run, ir, bdS, b1, if_false, k0, ckT, i36, x5, if_true, i37, c13]
          rfl
        · have c13 : ¬ zb (nI (aS A 1)) = 0 := by rw [z1]; exact a1
          have hk : kRun A x = 2 := by unfold kRun; rw [ok, if_neg (by decide), if_neg a1]
          rw [hk]
          simp only [f_X11_run, ir, bdS, b1, if_false, k0, ckT, i36, x5, if_true, i37, c13]
          rfl
      · have hk : kRun A x = 1 := by unfold kRun okR; rw [decide_eq_false x5, Bool.and_false]; rfl
        rw [hk]
        simp only [f_X11_run, f_X11_run_b23, ir, bdS, b1, if_false, k0, ckT, i36, x5]
        rfl
  rw [run39]
  obtain ⟨k, hk⟩ : ∃ k, k = kRun A x := ⟨_, rfl⟩
  rw [← hk]
  obtain ⟨μ1, m1⟩ : ∃ μ1, μ1 = sI μ (b + 30) 54 (nI k) := ⟨_, rfl⟩
  have R1 : RM b A ρ μ1 := by rw [m1]; exact m_54 h n9 n10
  have k1 := R1.1.1
  have e54 : mI μ1 (b + 30) 54 = nI k := by rw [m1]; exact mI_at _ _ _ _
  have i46 : mI μ1 (b + 30) 46 = nI (aS A 14) := R1.2.1.1 14 rfl
  have l1 : ML b 0 μ μ1 := by rw [m1]; exact ML.put
  have w1 : WF μ1 := l1.1 w
  by_cases k00 : k = 0
  · obtain ⟨a1, n, n1, n60, e, en, n5⟩ := kRun_0 (A := A) (x := x) (by rw [← hk]; exact k00) h0
    obtain ⟨ρ', μ', e1, R, mk⟩ := m_runL (N := n) (had := aS A 14) n60 n (i := 0) (fu := 5000) R1 w1 (by rw [m1]; exact hN) q (by rw [e54, k00]; rfl) (Nat.zero_add _) n5 (by omega)
    refine ⟨runA A n, ρ', μ', by rw [if_pos k00, en], ?_, R, ?_, ?_⟩
    · rw [if_pos k00]
      have e1' : f_X11_run_b49 5000 (b + 30) x (nI (aS A 14)) 0 μ1 = some (nI (aS (runA A n) 14) - nI (aS A 14), μ') := by rw [e]; exact e1
      simp only [f_X11_run_b39, k0, ckT, zlS, ← m1, k1, i46, e1']
    · rw [mk.2.2.2.2.2]
      exact e54
    · rw [if_pos k00, en]
      have := l1.trans mk.ml
      rw [Nat.zero_add] at this
      exact this
  · have k2 : k ≤ 2 := by
      rw [hk]
      unfold kRun
      split
      · decide
      · split <;> decide
    have c54 : ¬ nI k = 0 := nI_ne0 (by omega) (by omega)
    refine ⟨A, ρ, μ1, by rw [if_neg k00], ?_, R1, e54, by rw [if_neg k00]; exact l1⟩
    rw [if_neg k00]
    have sub0 : nI (aS A 14) - nI (aS A 14) = 0 := Int32.sub_self _
    obtain ⟨fu, hfu⟩ : ∃ n, 5000 = n + 1 := ⟨4999, rfl⟩
    have e49 : f_X11_run_b49 5000 (b + 30) x (nI (aS A 14)) 0 μ1 = some (0, μ1) := by
      rw [hfu]
      by_cases xs : x ≤ 0
      · simp only [f_X11_run_b49, f_X11_run_b78, xs, if_true, k1, ckT, i46, sub0]
      · simp only [f_X11_run_b49, f_X11_run_b78, xs, if_false, k1, ckT, e54, c54, not_false_eq_true, if_true, i46, sub0]
    simp only [f_X11_run_b39, k0, ckT, zlS, ← m1, k1, i46, e49]
end CRN
