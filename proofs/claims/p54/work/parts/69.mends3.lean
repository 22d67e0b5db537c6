/-! the model: an entry's delay ends -/
section MEN4
variable {b : Nat} {A B A' : Sx} {ρ : Nat → Nat} {μ μ' : Mm} {S : Nat → Nat → Bool}
theorem endY_4 (A : Sx) (k : Nat) (h : hasD (eC A (aB A k)) = false) : (endY A k).1 4 = aS A 0 := by
  unfold endY
  dsimp only
  rw [h]
  rfl
theorem IB.endz {k : Nat} (q : IB A) (hk : k < aS A 9) (hs : (aB A k).1 10 = 120) : IBz (endDl A k) := (endDl_ib (n := 0) q hk hs (Nat.zero_le _) (fun _ _ i _ h2 => absurd h2 (Nat.not_lt_zero _)) (fun _ _ _ => Nat.zero_le _)).z
theorem isCt_c {c : Nat} (h : isCt c = true) : c = 12 ∨ c = 13 ∨ c = 16 ∨ c = 17 := by
  unfold isCt isQn isLp at h
  simp only [Bool.or_eq_true, decide_eq_true_eq] at h
  omega
theorem isSt_c {c : Nat} (h : isSt c = true) : c = 10 ∨ c = 11 := by
  unfold isSt at h
  simp only [Bool.or_eq_true, decide_eq_true_eq] at h
  omega
end MEN4
