section MRES
variable {b : Nat} {A A' : Sx} {ρ : Nat → Nat} {μ μ' : Mm} {S : Nat → Nat → Bool}
theorem RT.v1 (h : RT mT b A μ) {i : Nat} (hi : i < 24) : mI μ (b + 42) i = aV A 1 i := by
  have e : mI μ (b + 42) (0 + i) = aV A 1 i := h.2.2 1 i (by decide) hi
  rw [Nat.zero_add] at e
  exact e
theorem RT.v2 (h : RT mT b A μ) {i : Nat} (hi : i < 64) : mI μ (b + 39) i = aV A 2 i := by
  have e : mI μ (b + 39) (0 + i) = aV A 2 i := h.2.2 2 i (by decide) hi
  rw [Nat.zero_add] at e
  exact e
theorem RT.v3 (h : RT mT b A μ) {i : Nat} (hi : i < 8) : mI μ (b + 73) i = aV A 3 i := by
  have e : mI μ (b + 73) (0 + i) = aV A 3 i := h.2.2 3 i (by decide) hi
  rw [Nat.zero_add] at e
  exact e
theorem RT.v4 (h : RT mT b A μ) {i : Nat} (hi : i < 4) : mI μ (b + 75) i = aV A 4 i := by
  have e : mI μ (b + 75) (0 + i) = aV A 4 i := h.2.2 4 i (by decide) hi
  rw [Nat.zero_add] at e
  exact e
/-- what an entry of the buffer reads: its registers' numbers are there -/
theorem IB.ab (q : IB A) {k : Nat} (hk : k < aS A 9) : (aB A k).1 6 < 24 ∧ (aB A k).1 7 < 24 := by
  obtain ⟨q1, q2, q3, q4, q5, q6, -⟩ := q
  obtain ⟨g1, g2, -⟩ := q5.2 k hk
  have p := q1.p (q6 k hk).1
  have i := q1.2.2.2.1
  have h1 := q4.map_lt (n := k) (by omega) p.2.2.2.1
  have h2 := q4.map_lt (n := k) (by omega) p.2.2.2.2.1
  omega
theorem IB.dd (q : IB A) {k : Nat} (hk : k < aS A 9) (hd : hasD (eC A (aB A k)) = true) : (aB A k).1 8 < 24 := by
  obtain ⟨q1, q2, q3, q4, q5, q6, -⟩ := q
  have i := q1.2.2.2.1
  have := q4.dst hk hd
  omega
end MRES
