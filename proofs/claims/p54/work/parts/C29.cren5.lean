/-! THE CLASS: a cycle's renaming, whole -/
section CRS
variable {b z e sl : Nat} {m m' : Nat → Nat} {A A' B C D : Sx} {P : Pm} {G : Nat → Nat → Nat} {ar : Nat → Nat} {s : Nat} {μ μ' μ2 : Mm} {S : Nat → Nat → Bool}
theorem c_getL {k : Nat} (h : FR b z A μ) (hh : HR b z A m G ar s μ) (hk : k < aS A 10) (h9 : aS A 10 < 100) : f_Jx4a65c_get_915e3 (b + 21) (nI k) μ = some (G 2 k) := by
  have l1 := hh.1 2 (by decide)
  exact c_get h.k100.2.1 h.sz.2.2.1 (by omega) l1.1 l1.2.1 l1.2.2.1 hk (l1.2.2.2.2.2 k hk)
theorem c_rnL : ∀ (n : Nat) {A : Sx} {G : Nat → Nat → Nat} {ar : Nat → Nat} {μ : Mm} {v fu : Nat}, FR b z A μ → HR b z A (fun _ => 0) G ar s μ → WF μ → IV A → v + n = aS A 16 → n < fu → ∃ (G' : Nat → Nat → Nat) (ar' : Nat → Nat) (μ' : Mm), f_X0_doRenaming_b2 fu (b + 1) (nI v) μ = some ((), μ') ∧ FR b z (rnL A n) μ' ∧ HR b z (rnL A n) (fun _ => 0) G' ar' s μ' ∧ CK n (40 * n) μ μ'
  | 0, A, G, ar, μ, v, fu, h, hh, w, q, hv, hf => by
    obtain ⟨fu, rfl⟩ : ∃ n, fu = n + 1 := ⟨fu - 1, by omega⟩
    have hw := q.1.1.1
    have k0 := h.1
    unfold SC at k0
    have i30 : mI μ (b + 3) 0 = nI (aS A 16) := h.2.1.1 16 rfl
    have c1 : nI (aS A 16) ≤ nI v := nI_le (by omega) (by omega)
    exact ⟨G, ar, μ, by simp only [f_X0_doRenaming_b2, k0, ckT, bdS, i30, c1, if_true], h, hh, CK.refl0⟩
  | n + 1, A, G, ar, μ, v, fu, h, hh, w, q, hv, hf => by
    obtain ⟨fu, rfl⟩ : ∃ n, fu = n + 1 := ⟨fu - 1, by omega⟩
    have hw := q.1.1.1
    have hn10 : aS A 10 ≤ 8 := by have := q.2.1; omega
    have k0 := h.1
    unfold SC at k0
    have i30 : mI μ (b + 3) 0 = nI (aS A 16) := h.2.1.1 16 rfl
    have c1 : ¬ nI (aS A 16) ≤ nI v := nI_ge (by omega) (by omega)
    have em := c_empty h.k100.2.1 h.sz.2.2.1 (by omega)
    have b0 : bI false = 0 := rfl
    have b1 : ¬ bI true = 0 := by decide
    have nn : ¬ ¬ (0 : Int32) = 0 := fun y => y rfl
    have hrn : rnL A (n + 1) = if aS A 10 ≠ 0 ∧ canRn A (eC A (aL A 0)) = true then rnL (rn1 A) n else A := rfl
    by_cases h10 : aS A 10 = 0
    · rw [decide_eq_true h10] at em
      rw [hrn, if_neg (fun y => y.1 h10)]
      exact ⟨G, ar, μ, by simp only [f_X0_doRenaming_b2, k0, ckT, bdS, i30, c1, if_false, em, b1, not_false_eq_true, if_true], h, hh, CK.refl0.mono (by omega) (by omega)⟩
    · rw [decide_eq_false h10] at em
      have gl : f_Jx4a65c_get_915e3 (b + 21) 0 μ = some (G 2 0) := c_getL h hh (k := 0) (by omega) (by omega)
      have re := hh.2.2.2.2.1 0 (by omega)
      have l := q.2.2.2.2.1 0 (by omega)
      have ins := hh.2.2.1 _ l.1.1
      have hp := q.1.1.p l.1.1
      have hec : eC A (aL A 0) = aN A 10 ((aL A 0).1 0) := rfl
      have cr := c_canRn h hh q.1 ins.1 ins.2.2.1 (show aN A 10 ((aL A 0).1 0) < 22 by omega)
      rw [← hec] at cr
      have k1 := re.1
      have r0 := re.2.1
      cases hc : canRn A (eC A (aL A 0)) with
      | false =>
        rw [hc] at cr
        rw [hrn, hc, if_neg (fun y => by cases y.2)]
        exact ⟨G, ar, μ, by simp only [f_X0_doRenaming_b2, k0, ckT, bdS, i30, c1, if_false, em, b0, nn, gl, k1, r0, cr, not_true], h, hh, CK.refl0.mono (by omega) (by omega)⟩
      | true =>
        rw [hc] at cr
        rw [hrn, hc, if_pos ⟨h10, rfl⟩]
        obtain ⟨G1, ar1, x, μ1, μ2, e1, k101, e2, F2, H2', c2⟩ := c_rn1 h hh w q h10 hc
        obtain ⟨G3, ar3, μ3, e3, F3, H3, c3⟩ := c_rnL n (v := v + 1) (fu := fu) F2 H2' (c2.1 w) (rn1_ib q.1 q.2 h10 hc) (by rw [(rn1_f A).1 16 (by decide) (by decide) (by decide)]; omega) (by omega)
        refine ⟨G3, ar3, μ3, ?_, F3, H3, (c2.trans c3).mono (by omega) (by omega)⟩
        simp only [f_X0_doRenaming_b2, k0, ckT, bdS, i30, c1, if_false, em, b0, nn, gl, k1, r0, cr, b1, not_false_eq_true, if_true, cl_t e1, k101, cl_t e2, nI_1]
        exact e3
theorem c_renames (h : FR b z A μ) (hh : HR b z A (fun _ => 0) G ar s μ) (w : WF μ) (q : IV A) : ∃ (G' : Nat → Nat → Nat) (ar' : Nat → Nat) (μ' : Mm), f_X0_doRenaming (b + 1) μ = some ((), μ') ∧ FR b z (rnL A (aS A 16)) μ' ∧ HR b z (rnL A (aS A 16)) (fun _ => 0) G' ar' s μ' ∧ CK 4 160 μ μ' := by
  have hw := q.1.1.1
  obtain ⟨G', ar', μ', e, F, H, c⟩ := c_rnL (aS A 16) (v := 0) (fu := 5000) h hh w q (Nat.zero_add _) (by omega)
  exact ⟨G', ar', μ', e, F, H, c.mono (by omega) (by omega)⟩
end CRS
