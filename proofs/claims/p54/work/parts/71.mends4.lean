/-! the model: a store's delay ends; all endings -/
section MEN5
variable {b : Nat} {A B A' : Sx} {ρ : Nat → Nat} {μ μ' : Mm} {S : Nat → Nat → Bool}
theorem m_mod16 : ∀ p, p < 64 → nI p - nI p / 16 * 16 = nI (p % 16) := by decide +kernel
theorem m_mod8 : ∀ p, p < 64 → nI p - nI p / 8 * 8 = nI (p % 8) := by decide +kernel
theorem m_mod4 : ∀ p, p < 64 → nI p - nI p / 4 * 4 = nI (p % 4) := by decide +kernel
theorem m_div4 : ∀ p, p < 64 → nI p / 4 = nI (p / 4) := by decide +kernel
theorem nI_tc {x : Int32} (h : adok x = true) : nI x.toNatClampNeg = x := (adok_e h).1.symm
/-- what the endings of stores look for -/
theorem wl_hw {k : Nat} (q : IB A) (hk : k < aS A 9) (hs : (aB A k).1 10 = 120) (hst : isSt (eC A (aB A k)) = true) {a : Int32} (ha : adok a = true) : ∀ i, k < i → i < aS A 9 → eC A (aB A i) = 9 → (aB A i).1 10 ≠ 113 → (aB A i).1 10 < 1000 ∧ (aB A i).1 12 ≤ 5 ∧ ((aB A i).1 12 ≠ 0 → (aB A i).2.1 1 ≠ a) ∧ ((aB A i).1 12 = 0 → (aB A i).2.1 3 ≠ nI ((aB A k).1 13)) := by
  intro i hki hi h9 h113
  obtain ⟨q1, q2, q3, q4, q5, q6, q7, q8, q9, q10, -⟩ := id q
  obtain ⟨d1, d2, d3, d4, d5, d6, d7⟩ := q7 i hi
  obtain ⟨c1, c2, c3, c4, c5, c6, -⟩ := d7 h113
  rw [if_neg (fun z => by rw [h9] at z; cases z.1)] at c3
  refine ⟨by omega, by rw [c3]; exact tpV_le _ _ _ _, fun ht e => ?_, fun ht e => ?_⟩
  · rw [c6, if_neg (fun z => ht z.2)] at e
    rw [← e] at ha
    cases ha
  · have n1 := q10.2.1 k hk
    rcases q8 i hi h9 h113 ht with ⟨l1, -⟩ | ⟨g, l1, l2, l3⟩
    · rw [l1] at e
      exact nI_m1 (g := (aB A k).1 13) (by have := q10.2.2; omega) e.symm
    · rw [l1] at e
      have eg := nIj (by have := q10.2.2; omega) (by have := q10.2.2; omega) e
      rcases l3 with ⟨j, j1, j2, j3, -⟩ | ⟨j1, -⟩
      · rcases Nat.lt_trichotomy j k with w | w | w
        · have := q10.1 j k w hk
          omega
        · subst w
          have := j3.2.1
          omega
        · have := q10.1 k j w (by omega)
          omega
      · have := j1 k hk
        omega
end MEN5
