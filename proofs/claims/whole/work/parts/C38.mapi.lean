/-! THE MODEL: what is set from without -/
section MAP
variable {b : Nat} {A A' : Sx} {ρ : Nat → Nat} {μ μ' μ2 : Mm} {S : Nat → Nat → Bool}
/-- what the model's steps keep, `thrown` aside -/
def ML (b e : Nat) (μ μ' : Mm) : Prop := (WF μ → WF μ') ∧ mN μ ≤ mN μ' ∧ mN μ' ≤ mN μ + e ∧ mS μ' ≤ mS μ + 5 * e ∧ ∀ a, a < mN μ → a < b + 30 ∨ b + 84 ≤ a → mK μ' a = mK μ a ∧ mL μ' a = mL μ a ∧ mI μ' a = mI μ a ∧ mR μ' a = mR μ a ∧ mJ μ' a = mJ μ a
theorem MK.ml {e : Nat} (h : MK b e μ μ') : ML b e μ μ' := ⟨h.1, h.2.1, h.2.2.1, h.2.2.2.1, h.2.2.2.2.1⟩
theorem ML.trans {e e2 : Nat} (h : ML b e μ μ') (g : ML b e2 μ' μ2) : ML b (e + e2) μ μ2 := by
  obtain ⟨h1, h2, h3, h4, h5⟩ := h
  obtain ⟨g1, g2, g3, g4, g5⟩ := g
  refine ⟨fun w => g1 (h1 w), by omega, by omega, by omega, fun a ha hb => ?_⟩
  obtain ⟨x1, x2, x3, x4, x5⟩ := h5 a ha hb
  obtain ⟨y1, y2, y3, y4, y5⟩ := g5 a (by omega) hb
  exact ⟨y1.trans x1, y2.trans x2, y3.trans x3, y4.trans x4, y5.trans x5⟩
theorem ML.refl0 : ML b 0 μ μ := ⟨fun w => w, Nat.le_refl _, Nat.le_refl _, Nat.le_refl _, fun _ _ _ => ⟨rfl, rfl, rfl, rfl, rfl⟩⟩
theorem ML.put {k : Nat} {v : Int32} : ML b 0 μ (sI μ (b + 30) k v) := ⟨fun w => w, Nat.le_refl _, Nat.le_refl _, Nat.le_refl _, fun a _ hb => ⟨rfl, rfl, mI_row _ _ (by omega), rfl, rfl⟩⟩
theorem m_54 {v : Int32} (h : RM b A ρ μ) (n9 : aS A 9 ≤ 16) (n10 : aS A 10 ≤ 8) : RM b A ρ (sI μ (b + 30) 54 v) := h.next (S := fun o k => o == 30 && k == 54) (h.2.1.off (o := 30) (k := 54) _ (by decide +kernel)) (CH.put (by simp)) (fun o k z => by
  simp only [Bool.and_eq_true, beq_iff_eq] at z
  exact decide_eq_true (by omega)) n9 n10 SamP.refl0 (Nat.le_refl _) (fun _ _ => rfl) (Nat.le_refl _) (fun _ _ => rfl) rfl rfl rfl rfl rfl (fun z => ⟨z, rfl⟩) rfl (fun _ _ => rfl) rfl
theorem m_cannot {p : Bool} (h : RM b A ρ μ) (h0 : aS A 0 ≤ 500) : f_X11_cannot (b + 30) (bI p) μ = some (bI (decide (kSet A p ≠ 0)), sI μ (b + 30) 54 (nI (kSet A p))) := by
  have k0 := h.1.1
  have h36 : mI μ (b + 30) 36 = nI (aS A 0) := h.2.1.1 0 rfl
  have c10 : ¬ (1 : Int32) ≤ 0 := by decide
  have c20 : ¬ (2 : Int32) ≤ 0 := by decide
  have c00 : (0 : Int32) ≤ 0 := by decide
  have b0 : bI false = 0 := rfl
  have nn : ¬ ¬ (0 : Int32) = 0 := fun y => y rfl
  have n1 : ¬ bI true = 0 := by decide
  cases p
  · have e : kSet A false = 1 := rfl
    rw [e]
    simp only [f_X11_cannot, f_X11_cannot_b21, b0, nn, if_false, k0, ckT, zlS, mK_sI, mI_at, c10]
    rfl
  · by_cases a0 : aS A 0 = 0
    · have e : kSet A true = 0 := by unfold kSet; rw [if_neg (by decide), if_pos a0]
      have c : nI (aS A 0) ≤ 0 := by rw [a0]; decide
      rw [e]
      simp only [f_X11_cannot, f_X11_cannot_b21, n1, not_false_eq_true, if_true, k0, ckT, h36, c, zlS, mK_sI, mI_at, c00]
      rfl
    · have e : kSet A true = 2 := by unfold kSet; rw [if_neg (by decide), if_neg a0]
      have c : ¬ nI (aS A 0) ≤ 0 := nI_nle (by omega) (by omega)
      rw [e]
      simp only [f_X11_cannot, f_X11_cannot_b21, n1, not_false_eq_true, if_true, k0, ckT, h36, c, if_false, zlS, mK_sI, mI_at, c20]
      rfl
theorem m_inR (x lo hi : Int32) : f_X11_in x lo hi = some (bI (!decide (x < lo) && decide (x ≤ hi))) := by
  unfold f_X11_in
  by_cases h1 : x < lo
  · rw [if_pos h1, decide_eq_true h1]
    rfl
  · rw [if_neg h1, decide_eq_false h1]
    by_cases h2 : hi < x
    · rw [if_pos h2, decide_eq_false (Int32.not_le.mpr h2)]
      rfl
    · rw [if_neg h2, decide_eq_true (Int32.not_lt.mp h2)]
      rfl
theorem m_setW {x : Int32} (h : RM b A ρ μ) (n9 : aS A 9 ≤ 16) (n10 : aS A 10 ≤ 8) (h0 : aS A 0 ≤ 500) : ∃ (k : Nat) (A' : Sx) (μ' : Mm), k = kSet A (!decide (x < 1) && decide (x ≤ 4)) ∧ A' = (if k = 0 then zS A 16 x.toNatClampNeg else A) ∧ f_X11_setWidth (b + 30) x μ = some (if k = 0 then nI (aS A 16) else 0, μ') ∧ RM b A' ρ μ' ∧ mI μ' (b + 30) 54 = nI k ∧ ML b 0 μ μ' := by
  have k0 := h.1.1
  have ir := m_inR x 1 4
  have cn := m_cannot (p := !decide (x < 1) && decide (x ≤ 4)) h h0
  obtain ⟨k, hk⟩ : ∃ k, k = kSet A (!decide (x < 1) && decide (x ≤ 4)) := ⟨_, rfl⟩
  rw [← hk] at cn
  obtain ⟨μ1, m1⟩ : ∃ μ1, μ1 = sI μ (b + 30) 54 (nI k) := ⟨_, rfl⟩
  have R1 : RM b A ρ μ1 := by rw [m1]; exact m_54 h n9 n10
  rw [← m1] at cn
  have k1 := R1.1.1
  have i16 : mI μ1 (b + 30) 6 = nI (aS A 16) := R1.2.1.1 16 rfl
  have e54 : mI μ1 (b + 30) 54 = nI k := by rw [m1]; exact mI_at _ _ _ _
  have l1 : ML b 0 μ μ1 := by rw [m1]; exact ML.put
  have b0 : bI false = 0 := rfl
  have b1 : ¬ bI true = 0 := by decide
  by_cases k00 : k = 0
  · rw [decide_eq_false (p := k ≠ 0) (fun y => y k00)] at cn
    have ok : ¬ x < 1 ∧ x ≤ 4 := by
      rw [k00] at hk
      unfold kSet at hk
      cases hb : (!decide (x < 1) && decide (x ≤ 4))
      · rw [hb, if_pos rfl] at hk; cases hk
      · simp only [Bool.and_eq_true, Bool.not_eq_true', decide_eq_false_iff_not, decide_eq_true_eq] at hb
        exact hb
    obtain ⟨n, n1, n4, e⟩ := i32r (lo := 1) (hi := 4) (by omega) (by omega) ok.1 ok.2
    have en : x.toNatClampNeg = n := by rw [e]; exact clN (by omega)
    obtain ⟨R2, -⟩ := m_put (i := 16) (n := n) R1 n9 n10 rfl (by decide)
    have R2' : RM b (zS A 16 n) ρ (sI μ1 (b + 30) 6 x) := by rw [e]; exact R2
    refine ⟨k, zS A 16 n, sI μ1 (b + 30) 6 x, hk, by rw [if_pos k00, en], ?_, R2', by rw [mI_ne _ _ (Or.inr (by decide))]; exact e54, l1.trans ML.put⟩
    rw [if_pos k00]
    simp only [f_X11_setWidth, ir, bdS, k0, ckT, cl_t cn, b0, if_true, k1, zlS, i16]
  · rw [decide_eq_true (p := k ≠ 0) k00] at cn
    refine ⟨k, A, μ1, hk, by rw [if_neg k00], ?_, R1, e54, l1⟩
    rw [if_neg k00]
    simp only [f_X11_setWidth, ir, bdS, k0, ckT, cl_t cn, b1, if_false]
end MAP
