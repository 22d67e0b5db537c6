/-! the model: a cycle's beginnings, all of them -/
section MB6
variable {b : Nat} {A B C A' : Sx} {ρ : Nat → Nat} {μ μ' μ2 : Mm} {S : Nat → Nat → Bool}
theorem m_bgL : ∀ (n : Nat) {A : Sx} {k fu c0 c1 c3 : Nat} {u : Nat → Nat} {μ : Mm}, RM b A ρ μ → IV A → GV A → UC A u c0 c1 c3 → n + k = 17 → n < fu → ∃ μ', f_X11_begins_b9 fu (b + 30) (nI c0) (nI c1) (nI c3) (nI k) μ = some ((), μ') ∧ RM b (bgL A u n k) ρ μ' ∧ GV (bgL A u n k) ∧ CH b sMo μ μ'
  | 0, A, k, fu, c0, c1, c3, u, μ, h, q, gv, hu, hn, hf => by
    obtain ⟨fu, rfl⟩ : ∃ n, fu = n + 1 := ⟨fu - 1, by omega⟩
    have hn9 : aS A 9 ≤ 16 := by have := q.1.2.1.1; have := q.1.1.2.1; omega
    have k0 := h.1.1
    have h23 : mI μ (b + 30) 23 = nI (aS A 9) := h.2.1.1 9 rfl
    have c1' : nI (aS A 9) ≤ nI k := nI_le (by omega) (by omega)
    exact ⟨μ, by simp only [f_X11_begins_b9, k0, ckT, h23, c1', if_true], h, gv, CH.refl0⟩
  | n + 1, A, k, fu, c0, c1, c3, u, μ, h, q, gv, hu, hn, hf => by
    obtain ⟨fu, rfl⟩ : ∃ n, fu = n + 1 := ⟨fu - 1, by omega⟩
    have hn9 : aS A 9 ≤ 16 := by have := q.1.2.1.1; have := q.1.1.2.1; omega
    by_cases hk : k < aS A 9
    · obtain ⟨B, u', d0, d1, d3, μ1, e1, e2, hB, qB, gB, uB, -, -, g1⟩ := m_bgStep (fu := fu) h q gv hk hu
      obtain ⟨μ2, e3, h3, g3, g4⟩ := m_bgL n (k := k + 1) (fu := fu) hB qB gB uB (by omega) (by omega)
      rw [e1]
      exact ⟨μ2, by rw [e2, e3], h3, g3, g1.trans g4⟩
    · have k0 := h.1.1
      have h23 : mI μ (b + 30) 23 = nI (aS A 9) := h.2.1.1 9 rfl
      have c1' : nI (aS A 9) ≤ nI k := nI_le (by omega) (by omega)
      have e : bgL A u (n + 1) k = A := if_neg hk
      rw [e]
      exact ⟨μ, by simp only [f_X11_begins_b9, k0, ckT, h23, c1', if_true], h, gv, CH.refl0⟩
theorem m_begins (h : RM b A ρ μ) (q : IV A) (gv : GV A) : ∃ μ', f_X11_begins (b + 30) μ = some ((), μ') ∧ RM b (begins A) ρ μ' ∧ GV (begins A) ∧ CH b sMo μ μ' := by
  obtain ⟨μ1, e1, h1, g1, g2⟩ := m_bgL 17 (k := 0) (fu := 5000) (u := u0 A) (c0 := 0) (c1 := 0) (c3 := 0) h q gv ⟨⟨by omega, rfl⟩, rfl, rfl, rfl⟩ rfl (by omega)
  exact ⟨μ1, e1, h1, g1, g2⟩
end MB6
