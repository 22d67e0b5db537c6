/-! both: a run -/
section CRN
variable {b z e sl : Nat} {m m' : Nat → Nat} {A A' B C D : Sx} {P : Pm} {G : Nat → Nat → Nat} {ar : Nat → Nat} {s : Nat} {ρ : Nat → Nat} {μ μ' μ2 : Mm} {S : Nat → Nat → Bool}
def okR (A : Sx) (x : Int32) : Bool := (!decide (x < 1) && decide (x ≤ 60)) && decide (nI (aS A 0) + x ≤ 500)
def kRun (A : Sx) (x : Int32) : Nat := if okR A x = false then 1 else if aS A 1 = 0 then 0 else 2
theorem okR_e {x : Int32} (h : okR A x = true) (h0 : aS A 0 ≤ 500) : ∃ n, 1 ≤ n ∧ n ≤ 60 ∧ x = nI n ∧ x.toNatClampNeg = n ∧ aS A 0 + n ≤ 500 := by
  unfold okR at h
  simp only [Bool.and_eq_true, Bool.not_eq_true', decide_eq_false_iff_not, decide_eq_true_eq] at h
  obtain ⟨⟨x1, x60⟩, x5⟩ := h
  obtain ⟨n, n1, n2, e⟩ := i32r (lo := 1) (hi := 60) (by omega) (by omega) x1 x60
  refine ⟨n, n1, n2, e, by rw [e]; exact clN (by omega), ?_⟩
  rw [e, nI_add] at x5
  rcases Nat.lt_or_ge 500 (aS A 0 + n) with q | q
  · exact absurd x5 (nI_ge (a := 500) q (by omega))
  · exact q
theorem kRun_0 {x : Int32} (h : kRun A x = 0) (h0 : aS A 0 ≤ 500) : aS A 1 = 0 ∧ ∃ n, 1 ≤ n ∧ n ≤ 60 ∧ x = nI n ∧ x.toNatClampNeg = n ∧ aS A 0 + n ≤ 500 := by
  unfold kRun at h
  split at h
  · cases h
  · rename_i c
    have ok : okR A x = true := by
      cases hb : okR A x
      · exact absurd hb c
      · rfl
    split at h
    · rename_i c2
      exact ⟨c2, okR_e ok h0⟩
    · cases h
theorem c_run {x : Int32} (h : FR b z A μ) (hh : HR b z A (fun _ => 0) G ar s μ) (w : WF μ) (q : IY A) (h0 : aS A 0 ≤ 500) : ∃ (A' : Sx) (G' : Nat → Nat → Nat) (ar' : Nat → Nat) (s' : Nat) (μ' : Mm), A' = (if kRun A x = 0 then runA A x.toNatClampNeg else A) ∧ f_X10_run b x μ = some (oc (kRun A x) (nI (aS A' 14) - nI (aS A 14)), μ') ∧ FR b z A' μ' ∧ HR b z A' (fun _ => 0) G' ar' s' μ' ∧ CK (if kRun A x = 0 then 30 * x.toNatClampNeg else 1) (if kRun A x = 0 then 13000 * x.toNatClampNeg else 6) μ μ' ∧ IY A' := by
  have k0 := h.1
  unfold SC at k0
  have i12 : mI μ (b + 1) 12 = nI (aS A 0) := h.2.1.1 0 rfl
  have i13 : mI μ (b + 1) 13 = nI (aS A 1) := h.2.1.1 1 rfl
  have z1 := zb1 q.1.1.1.1.2.1.2.2.2.2.2.2.1.1
  have sz := c_size h.k100.2.2.2 h.sz.2.2.2
  have no : ∀ kk, (kk = 1 ∨ kk = 2) → kRun A x = kk → f_X10_run b x μ = some (oc kk (nI (aS A 14) - nI (aS A 14)), bump μ 6) → ∃ (A' : Sx) (G' : Nat → Nat → Nat) (ar' : Nat → Nat) (s' : Nat) (μ' : Mm), A' = (if kRun A x = 0 then runA A x.toNatClampNeg else A) ∧ f_X10_run b x μ = some (oc (kRun A x) (nI (aS A' 14) - nI (aS A 14)), μ') ∧ FR b z A' μ' ∧ HR b z A' (fun _ => 0) G' ar' s' μ' ∧ CK (if kRun A x = 0 then 30 * x.toNatClampNeg else 1) (if kRun A x = 0 then 13000 * x.toNatClampNeg else 6) μ μ' ∧ IY A' := fun kk h12 hk ee => by
    have hk0 : ¬ kk = 0 := by omega
    rw [hk]
    exact ⟨A, G, ar, s, bump μ 6, by rw [if_neg hk0], ee, h.bump, hh.bump, by rw [if_neg hk0, if_neg hk0]; exact bump_ck, q⟩
  by_cases x1 : x < 1
  · refine no 1 (Or.inl rfl) (by unfold kRun okR; rw [decide_eq_true x1]; rfl) ?_
    simp only [f_X10_run, f_X10_run_b26, x1, if_true]
    rfl
  by_cases x60 : 60 < x
  · refine no 1 (Or.inl rfl) (by unfold kRun okR; rw [decide_eq_false (Int32.not_le.mpr x60), Bool.and_false]; rfl) ?_
    simp only [f_X10_run, f_X10_run_b26, x1, if_false, x60, if_true]
    rfl
  by_cases x5 : nI (aS A 0) + x ≤ 500
  · have ok : okR A x = true := by unfold okR; rw [decide_eq_false x1, decide_eq_true (Int32.not_lt.mp x60), decide_eq_true x5]; rfl
    by_cases a1 : aS A 1 = 0
    · have c13 : zb (nI (aS A 1)) = 0 := by rw [z1]; exact a1
      have hk : kRun A x = 0 := by unfold kRun; rw [ok, if_neg (by decide), if_pos a1]
      obtain ⟨n, n1, n60, e, en, n5⟩ := okR_e ok h0
      obtain ⟨G', ar', s', μ', e1, F, H, c, q'⟩ := c_runL (N := n) (had := aS A 14) n60 n (i := 0) (fu := 5000) h hh w q (Nat.zero_add _) n5 (by omega)
      rw [hk]
      refine ⟨runA A n, G', ar', s', μ', by rw [if_pos rfl, en], ?_, F, H, by rw [if_pos rfl, if_pos rfl, en]; exact c, q'⟩
      have e1' : f_X10_run_b65 5000 b x (nI (aS A 14)) 0 μ = some (.inl (nI (aS (runA A n) 14) - nI (aS A 14)), μ') := by rw [e]; exact e1
      simp only [f_X10_run, x1, if_false, x60, k0, ckT, bdS, i12, x5, if_true, i13, c13, sz, e1']
      rfl
    · have c13 : ¬ zb (nI (aS A 1)) = 0 := by rw [z1]; exact a1
      refine no 2 (Or.inr rfl) (by unfold kRun; rw [ok, if_neg (by decide), if_neg a1]) ?_
      simp only [f_X10_run, x1, if_false, x60, k0, ckT, bdS, i12, x5, if_true, i13, c13]
      rfl
  · refine no 1 (Or.inl rfl) (by unfold kRun okR; rw [decide_eq_false x5, Bool.and_false]; rfl) ?_
    simp only [f_X10_run, f_X10_run_b26, x1, if_false, x60, k0, ckT, bdS, i12, x5]
    rfl
end CRN
