/-! both are made: the beginning -/
section FIN
variable {b z t : Nat} {μ0 μ μ' : Mm}
/-- the beginning -/
def A0 : Sx := (fun i => if i = 7 then 8 else if i = 8 then 16 else if i = 16 then 2 else if i = 17 then 8 else if i = 18 then 4 else 0,
  fun r k => if r = 0 then k else if r = 1 then k else if r = 2 then (if k < 8 then 1 else 0) else if r = 3 then (if k < 8 then k + 8 else 0) else if r = 4 then 1 else if r = 6 then 6 else 0,
  fun r _ => if r = 0 then -1 else if r = 3 then -1 else if r = 4 then -1 else 0, fun _ => (fun _ => 0, fun _ => 0, []), fun _ => (fun _ => 0, fun _ => 0, []), [], [])
theorem z0_A0 : Z0 A0 := by
  unfold Z0 CF
  refine ⟨⟨by decide, by decide, by decide, by decide, by decide, fun p hp => absurd hp (Nat.not_lt_zero _), fun k hk => Or.inl rfl⟩, by decide, fun r hr => ⟨rfl, rfl, if_pos hr⟩, fun k _ => ?_, fun j hj => if_pos hj, fun _ _ => rfl, fun _ _ => rfl, fun _ _ => ⟨show 1 ≤ 6 by decide, show 6 ≤ 30 by decide⟩, fun _ _ => rfl, rfl, rfl, fun _ _ => rfl, fun _ _ => rfl⟩
  show (if k < 8 then 1 else 0) ≤ 1
  split <;> decide
set_option maxRecDepth 100000 in
theorem fin_SC (h : AM b z yc30 t μ0 μ) : SC b μ := by
  unfold SC
  exact ⟨h.k (o := 0) 111 (by decide +kernel) (by decide +kernel), h.k (o := 1) 101 (by decide +kernel) (by decide +kernel), h.k (o := 2) 100 (by decide +kernel) (by decide +kernel), h.k (o := 3) 110 (by decide +kernel) (by decide +kernel), h.k (o := 4) 102 (by decide +kernel) (by decide +kernel), h.k (o := 6) 109 (by decide +kernel) (by decide +kernel), h.k (o := 9) 106 (by decide +kernel) (by decide +kernel), h.k (o := 15) 108 (by decide +kernel) (by decide +kernel), h.k (o := 20) 105 (by decide +kernel) (by decide +kernel), h.k (o := 21) 100 (by decide +kernel) (by decide +kernel), h.k (o := 25) 100 (by decide +kernel) (by decide +kernel), h.k (o := 26) 100 (by decide +kernel) (by decide +kernel), h.r (o := 0) (k := 0) 1 (by decide) (by decide +kernel) (by decide +kernel), h.r (o := 1) (k := 0) 2 (by decide) (by decide +kernel) (by decide +kernel), h.r (o := 1) (k := 1) 3 (by decide) (by decide +kernel) (by decide +kernel), h.r (o := 1) (k := 2) 4 (by decide) (by decide +kernel) (by decide +kernel), h.r (o := 1) (k := 3) 6 (by decide) (by decide +kernel) (by decide +kernel), h.r (o := 1) (k := 4) 9 (by decide) (by decide +kernel) (by decide +kernel), h.r (o := 1) (k := 5) 15 (by decide) (by decide +kernel) (by decide +kernel), h.r (o := 1) (k := 6) 20 (by decide) (by decide +kernel) (by decide +kernel), h.r (o := 1) (k := 7) 25 (by decide) (by decide +kernel) (by decide +kernel), h.r (o := 1) (k := 8) 26 (by decide) (by decide +kernel) (by decide +kernel), h.r (o := 1) (k := 9) 27 (by decide) (by decide +kernel) (by decide +kernel), h.r (o := 1) (k := 10) 28 (by decide) (by decide +kernel) (by decide +kernel), h.r (o := 1) (k := 11) 29 (by decide) (by decide +kernel) (by decide +kernel), h.r (o := 4) (k := 0) 5 (by decide) (by decide +kernel) (by decide +kernel), h.r (o := 6) (k := 0) 7 (by decide) (by decide +kernel) (by decide +kernel), h.r (o := 6) (k := 1) 8 (by decide) (by decide +kernel) (by decide +kernel), h.r (o := 9) (k := 0) 10 (by decide) (by decide +kernel) (by decide +kernel), h.r (o := 9) (k := 1) 11 (by decide) (by decide +kernel) (by decide +kernel), h.r (o := 9) (k := 2) 12 (by decide) (by decide +kernel) (by decide +kernel), h.r (o := 9) (k := 3) 13 (by decide) (by decide +kernel) (by decide +kernel), h.r (o := 9) (k := 4) 14 (by decide) (by decide +kernel) (by decide +kernel), h.r (o := 15) (k := 0) 16 (by decide) (by decide +kernel) (by decide +kernel), h.r (o := 15) (k := 1) 17 (by decide) (by decide +kernel) (by decide +kernel), h.r (o := 15) (k := 2) 18 (by decide) (by decide +kernel) (by decide +kernel), h.r (o := 15) (k := 3) 19 (by decide) (by decide +kernel) (by decide +kernel), h.r (o := 20) (k := 0) 21 (by decide) (by decide +kernel) (by decide +kernel), h.r (o := 20) (k := 1) 22 (by decide) (by decide +kernel) (by decide +kernel), h.r (o := 20) (k := 2) 23 (by decide) (by decide +kernel) (by decide +kernel), h.k (o := 5) 21 (by decide +kernel) (by decide +kernel), h.l (o := 5) 8 (by decide +kernel) (by decide +kernel), h.k (o := 7) 21 (by decide +kernel) (by decide +kernel), h.l (o := 7) 8 (by decide +kernel) (by decide +kernel), h.k (o := 8) 21 (by decide +kernel) (by decide +kernel), h.l (o := 8) 64 (by decide +kernel) (by decide +kernel), h.k (o := 10) 21 (by decide +kernel) (by decide +kernel), h.l (o := 10) 8 (by decide +kernel) (by decide +kernel), h.k (o := 11) 21 (by decide +kernel) (by decide +kernel), h.l (o := 11) 8 (by decide +kernel) (by decide +kernel), h.k (o := 12) 21 (by decide +kernel) (by decide +kernel), h.l (o := 12) 24 (by decide +kernel) (by decide +kernel), h.k (o := 13) 22 (by decide +kernel) (by decide +kernel), h.l (o := 13) 24 (by decide +kernel) (by decide +kernel), h.k (o := 14) 21 (by decide +kernel) (by decide +kernel), h.l (o := 14) 24 (by decide +kernel) (by decide +kernel), h.k (o := 16) 21 (by decide +kernel) (by decide +kernel), h.l (o := 16) 4 (by decide +kernel) (by decide +kernel), h.k (o := 17) 21 (by decide +kernel) (by decide +kernel), h.l (o := 17) 16 (by decide +kernel) (by decide +kernel), h.k (o := 18) 21 (by decide +kernel) (by decide +kernel), h.l (o := 18) 2 (by decide +kernel) (by decide +kernel), h.k (o := 19) 21 (by decide +kernel) (by decide +kernel), h.l (o := 19) 2 (by decide +kernel) (by decide +kernel), h.k (o := 22) 21 (by decide +kernel) (by decide +kernel), h.l (o := 22) 16 (by decide +kernel) (by decide +kernel), h.k (o := 23) 21 (by decide +kernel) (by decide +kernel), h.l (o := 23) 8 (by decide +kernel) (by decide +kernel), h.k (o := 27) 21 (by decide +kernel) (by decide +kernel), h.l (o := 27) 64 (by decide +kernel) (by decide +kernel), h.k (o := 28) 22 (by decide +kernel) (by decide +kernel), h.l (o := 28) 16 (by decide +kernel) (by decide +kernel), h.k (o := 29) 21 (by decide +kernel) (by decide +kernel), h.l (o := 29) 4 (by decide +kernel) (by decide +kernel)⟩
theorem fin_T {T : Tb} (h : AM b z yc30 t μ0 μ) (c1 : ∀ i, i < 25 → scI i = true → (T.1 i).1 < yc30.1.length ∧ yc30.2.1 (T.1 i).1 (T.1 i).2 = nI (aS A0 i)) (c2 : ∀ r, r < 8 → T.2.1 r < yc30.1.length ∧ ∀ k, k < nLen r → yc30.2.1 (T.2.1 r) k = nI (aN A0 r k)) (c3 : ∀ r, r < 5 → (T.2.2 r).1 < yc30.1.length ∧ ∀ k, k < vLen r → yc30.2.1 (T.2.2 r).1 ((T.2.2 r).2 + k) = aV A0 r k) : RT T b A0 μ := by
  refine ⟨fun i hi => ?_, fun r k hr hk => ?_, fun r k hr hk => ?_⟩
  · obtain ⟨d1, d2⟩ := c1 i (scI_lt hi) hi
    exact h.i _ d1 d2
  · exact h.i _ (c2 r hr).1 ((c2 r hr).2 k hk)
  · exact h.i _ (c3 r hr).1 ((c3 r hr).2 k hk)
theorem fin_cT (h : AM b z yc30 t μ0 μ) : RT cT b A0 μ := fin_T h (by decide +kernel) (by decide +kernel) (by decide +kernel)
theorem fin_all (h : AM b z yc30 t μ0 μ) (st : ST z μ0) (hz : z < b) (h0 : 0 < b) : FR b z A0 μ ∧ HR b z A0 (fun _ => 0) (fun _ _ => 0) (fun _ => z) (b + 24) μ ∧ WF μ := by
  have ln : yc30.1.length = 30 := by decide +kernel
  have iz : ∀ o k, o < 30 → yc30.2.1 o k = 0 → mI μ (b + o) k = 0 := fun o k ho hv => h.i 0 (by rw [ln]; exact ho) hv
  obtain ⟨f1, f2, f3, f4, f5⟩ := h.2.1 0 h0
  obtain ⟨g1, g2, -, -, -⟩ := h.2.1 z hz
  have st' : ST z μ := by
    obtain ⟨s1, s2, s3, s4, s5, s6, s7⟩ := st
    unfold ST
    rw [f4, f1, g1, g2]
    exact ⟨s1, s2, s3, s4, s5, s6, s7⟩
  refine ⟨⟨fin_SC h, fin_cT h, st', ⟨fun r hr => ?_, fun a ha => ?_, ?_, ?_, ?_⟩, ⟨?_, fun k hk => absurd hk (Nat.not_lt_zero k)⟩, fun _ => ?_⟩, ⟨fun i hi => ?_, fun _ _ _ _ _ _ => rfl, fun p hp => absurd hp (Nat.not_lt_zero _), fun k hk => absurd hk (Nat.not_lt_zero _), fun k hk => absurd hk (Nat.not_lt_zero _), ?_, fun e he => absurd he (Nat.not_lt_zero _), ?_, ?_, ?_, fun i hi => absurd hi (Nat.not_lt_zero i)⟩, fun a ha => ?_⟩
  · have c : ∀ r, r < 8 → yc30.2.1 7 r = 0 := by decide +kernel
    exact iz 7 r (by decide) (c r hr)
  · have c : ∀ r, r < 64 → yc30.2.1 8 r = 0 := by decide +kernel
    exact iz 8 a (by decide) (c a ha)
  · exact iz 6 2 (by decide) (by decide +kernel)
  · exact iz 6 3 (by decide) (by decide +kernel)
  · exact iz 6 4 (by decide) (by decide +kernel)
  · exact iz 15 4 (by decide) (by decide +kernel)
  · exact iz 20 4 (by decide) (by decide +kernel)
  · have c : ∀ i, i < 4 → lo i < yc30.1.length ∧ yc30.2.2 (lo i) 1 = some 1000 := by decide +kernel
    obtain ⟨d1, d2⟩ := c i hi
    exact ⟨h.rz d1 d2, by rw [g1]; exact st.2.2.2.2.2.1, Nat.le_trans (Nat.le_of_eq (by
      have : i = 0 ∨ i = 1 ∨ i = 2 ∨ i = 3 := by omega
      rcases this with rfl | rfl | rfl | rfl <;> rfl)) (Nat.zero_le _), by rw [g2, st.2.2.2.2.2.2]; decide, fun _ => rfl, fun k hk => absurd hk (by
      have : i = 0 ∨ i = 1 ∨ i = 2 ∨ i = 3 := by omega
      rcases this with rfl | rfl | rfl | rfl <;> exact Nat.not_lt_zero _)⟩
  · exact ⟨fun i k _ hk => absurd hk (Nat.not_lt_zero _), fun i k _ hk => absurd hk (Nat.not_lt_zero _), fun i k hi _ => absurd hi (Nat.not_lt_zero _), fun i k hi _ => absurd hi (Nat.not_lt_zero _), fun i k hi _ => absurd hi (Nat.not_lt_zero _)⟩
  · exact h.r 24 (by decide) (by decide +kernel) (by decide +kernel)
  · exact h.k 41 (by decide +kernel) (by decide +kernel)
  · exact h.l 0 (by decide +kernel) (by decide +kernel)
  · exact h.2.2.2.2 a (by rw [← h.1.1]; exact ha)
end FIN
