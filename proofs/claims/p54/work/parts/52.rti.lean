/-! the oldest one leaves; traps, interrupts -/
/-- of the buffer, when all of it is thrown away -/
def IBz (A : Sx) : Prop :=
  CF A ∧ BD A ∧ QK A ∧ PT A ∧ MC A ∧ (∀ k, k < aS A 9 → okE A (aB A k)) ∧ NB A ∧ (∀ r, r < 8 → aN A 2 (aN A 1 r) = 1) ∧ (∀ k, k < aS A 9 → isAl (eC A (aB A k)) = true → aS A 9 = 1) ∧ (∀ k, k < aS A 9 → isEf (eC A (aB A k)) = true → k + 1 = aS A 9)
section RETI
variable {A B : Sx}
theorem IBp.z {n : Nat} (q : IBp A n) : IBz A := by
  obtain ⟨q1, q2, q3, q4, q5, q6, q7, q8, q9, q10, q11, q12, q13, q14, q15⟩ := q
  exact ⟨q1, q2, q3, q4, q5, q6, q10, q13, q14, q15⟩
theorem IBz.thr1 (q : IBz A) (hn : 0 < aS A 9) : IBz (throw1 A) := by
  obtain ⟨q1, q2, q3, q4, q5, q6, q10, q13, q14, q15⟩ := q
  have hP := throw1_P A
  obtain ⟨f1, f2, f3, f4, f5, f6, f7, f8, f9, f10, f11⟩ := throw1_f A
  have hpl : ∀ e, plA (throw1 A) e = plA A e := fun e => plA_congr hP (by rw [f4]) (by rw [f4]) (by rw [f4]) (f1 15 (by decide) (by decide) (by decide)) (fun i _ => by rw [f3 14 (by decide) (by decide)])
  have hma : ∀ m, ∀ r, r < 8 → mapAt (throw1 A) m r = mapAt A m r := fun m => mapAt_congr hP (fun r _ => by rw [f3 1 (by decide) (by decide)]) (fun k _ => by rw [f5]; exact ⟨rfl, rfl⟩)
  have hcd : ∀ i m, cntD (throw1 A) i m = cntD A i m := fun i m => cntD_congr hP (fun k _ => by rw [f5]; exact ⟨rfl, rfl⟩)
  have ec : ∀ x : Ent, eC (throw1 A) x = eC A x ∧ eD (throw1 A) x = eD A x ∧ eI (throw1 A) x = eI A x := fun x => hP.c rfl
  obtain ⟨m, hm⟩ : ∃ m, aS A 9 = m + 1 := ⟨aS A 9 - 1, by omega⟩
  have hm1 : aS A 9 - 1 = m := by omega
  rw [hm1] at f2 f10 f11
  obtain ⟨-, -, -, -, -, hpr, -⟩ := id q1
  refine ⟨?_, ?_, ?_, ?_, ?_, ?_, ?_, ?_, ?_, ?_⟩
  · unfold CF at q1 ⊢
    rw [f1 16 (by decide) (by decide) (by decide), f1 17 (by decide) (by decide) (by decide), f1 18 (by decide) (by decide) (by decide), f1 8 (by decide) (by decide) (by decide), f1 15 (by decide) (by decide) (by decide), f3 10 (by decide) (by decide), f3 11 (by decide) (by decide), f3 12 (by decide) (by decide), f3 13 (by decide) (by decide), f4]
    exact q1
  · unfold BD at q2 ⊢
    rw [f2, f1 17 (by decide) (by decide) (by decide), f3 4 (by decide) (by decide), f4, f3 6 (by decide) (by decide), f3 2 (by decide) (by decide), f3 5 (by decide) (by decide), f1 1 (by decide) (by decide) (by decide), f1 2 (by decide) (by decide) (by decide), f1 3 (by decide) (by decide) (by decide), f1 5 (by decide) (by decide) (by decide), f1 4 (by decide) (by decide) (by decide)]
    exact ⟨by omega, q2.2⟩
  · unfold QK at q3 ⊢
    rw [f8]
    exact q3
  · intro i
    have h0 := q4 i
    rw [hcd, f3 1 (by decide) (by decide), f1 8 (by decide) (by decide) (by decide), f2]
    rw [hm] at h0
    have h1 : cntD A i (m + 1) = (if hasD (eC A (aB A m)) = true ∧ (aB A m).1 8 = i then 1 else 0) + cntD A i m := rfl
    cases hd : hasD (eC A (aB A m))
    · obtain ⟨g1, g2, g3⟩ := f11 hd
      rw [g1, g3]
      rw [hd] at h1
      simp at h1
      omega
    · obtain ⟨g1, g2, g3⟩ := f10 hd
      rw [g1, g3]
      rw [hd] at h1
      simp only [true_and] at h1
      have h2 : cnt (up1 (aN A 3) (aS A 7) ((aB A m).1 8)) i (aS A 7 + 1) = (if (aB A m).1 8 = i then 1 else 0) + cnt (aN A 3) i (aS A 7) := by
        show (if up1 (aN A 3) (aS A 7) ((aB A m).1 8) (aS A 7) = i then 1 else 0) + cnt (up1 (aN A 3) (aS A 7) ((aB A m).1 8)) i (aS A 7) = _
        rw [up1_eq, cnt_congr (g := aN A 3) (fun k hk => up1_ne _ _ (by omega))]
      omega
  · refine ⟨fun r hr => ?_, fun k hk => ?_⟩
    · rw [f2, hma _ r hr]
      have h0 := q5.1 r hr
      rw [hm] at h0
      have h1 : mapAt A (m + 1) = if hasD (eC A (aB A m)) = true then up1 (mapAt A m) (eD A (aB A m)) ((aB A m).1 8) else mapAt A m := rfl
      rw [h1] at h0
      cases hd : hasD (eC A (aB A m))
      · rw [(f11 hd).2.1]
        rw [hd] at h0
        exact h0
      · rw [(f10 hd).2.1, up1_if]
        rw [hd, if_pos rfl, up1_if] at h0
        split
        · rename_i e
          rw [e]
          exact (q5.2 m (by omega)).2.2 hd
        · rename_i e
          rw [if_neg e] at h0
          exact h0
    · rw [f2] at hk
      obtain ⟨p1, p2, p3, p4, -⟩ := hpr _ (q6 k (by omega)).1
      obtain ⟨g1, g2, g3⟩ := q5.2 k (by omega)
      rw [f5, f3 12 (by decide) (by decide), f3 13 (by decide) (by decide), (ec _).1, (ec _).2.1, hma _ _ p3, hma _ _ p4]
      refine ⟨g1, g2, fun hd => ?_⟩
      rw [hma _ _ (show eD A (aB A k) < 8 from p2)]
      exact g3 hd
  · intro k hk
    rw [f2] at hk
    have h0 := q6 k (by omega)
    unfold okE at h0 ⊢
    rw [f5, (ec _).1, (ec _).2.2, f1 15 (by decide) (by decide) (by decide)]
    exact h0
  · refine ⟨fun j k hjk hk => ?_, fun k hk => ?_, ?_⟩
    · rw [f2] at hk
      rw [f5]
      exact q10.1 j k hjk (by omega)
    · rw [f2] at hk
      rw [f5, f1 6 (by decide) (by decide) (by decide)]
      exact q10.2.1 k (by omega)
    · rw [f1 6 (by decide) (by decide) (by decide)]
      exact q10.2.2
  · intro r hr
    rw [f3 2 (by decide) (by decide), f3 1 (by decide) (by decide)]
    exact q13 r hr
  · intro k hk ha
    rw [f2] at hk
    rw [f5, (ec _).1] at ha
    have := q14 k (by omega) ha
    omega
  · intro k hk ha
    rw [f2] at hk
    rw [f5, (ec _).1] at ha
    have := q15 k (by omega) ha
    omega
theorem IBz.thrN (m : Nat) : ∀ {A : Sx}, IBz A → m ≤ aS A 9 → IBz (throwN A m) := by
  induction m with
  | zero => intro A q _; exact q
  | succ m ih =>
    intro A q h
    exact ih (q.thr1 (by omega)) (by rw [(throw1_f A).2.1]; omega)
/-- where nothing of it changes -/
theorem IBz.cg (q : IBz A) (hS : ∀ i, (i = 6 ∨ i = 7 ∨ i = 8 ∨ i = 9 ∨ i = 15 ∨ i = 16 ∨ i = 17 ∨ i = 18) → aS B i = aS A i) (hN : ∀ r, r < 14 → r ≠ 7 → aN B r = aN A r) (hV : ∀ r, (r = 0 ∨ r = 3 ∨ r = 5) → aV B r = aV A r) (hB : aB B = aB A) (hQ : aQ B = aQ A) (hb : (aS B 1 ≤ 1 ∧ aS B 2 ≤ 1 ∧ aS B 3 ≤ 1) ∧ aS B 5 ≤ 64 ∧ aS B 4 ≤ 64) : IBz B := by
  obtain ⟨q1, q2, q3, q4, q5, q6, q10, q13, q14, q15⟩ := q
  have hP : SamP A B := ⟨fun r h1 h2 => hN r h2 (by omega), hV 5 (by omega)⟩
  have ec : ∀ x : Ent, eC B x = eC A x ∧ eD B x = eD A x ∧ eI B x = eI A x := fun x => hP.c rfl
  have hma : ∀ m r, r < 8 → mapAt B m r = mapAt A m r := fun m => mapAt_congr hP (fun r _ => by rw [hN 1 (by decide) (by decide)]) (fun k _ => by rw [hB]; exact ⟨rfl, rfl⟩)
  have s9 := hS 9 (by omega)
  refine ⟨?_, ?_, ?_, fun i => ?_, ⟨fun r hr => ?_, fun k hk => ?_⟩, fun k hk => ?_, ⟨fun j k hjk hk => ?_, fun k hk => ?_, ?_⟩, fun r hr => ?_, fun k hk ha => ?_, fun k hk ha => ?_⟩
  · unfold CF at q1 ⊢
    rw [hS 16 (by omega), hS 17 (by omega), hS 18 (by omega), hS 8 (by omega), hS 15 (by omega), hN 10 (by decide) (by decide), hN 11 (by decide) (by decide), hN 12 (by decide) (by decide), hN 13 (by decide) (by decide), hV 5 (by omega), hV 0 (by omega)]
    exact q1
  · unfold BD at q2 ⊢
    rw [s9, hS 17 (by omega), hN 4 (by decide) (by decide), hV 3 (by omega), hN 6 (by decide) (by decide), hN 2 (by decide) (by decide), hN 5 (by decide) (by decide)]
    obtain ⟨b1, b2, b3, b4, b5, b6, b7⟩ := q2
    exact ⟨b1, b2, b3, b4, b5, b6, hb⟩
  · unfold QK at q3 ⊢
    rw [hQ]
    exact q3
  · rw [hN 1 (by decide) (by decide), hN 3 (by decide) (by decide), s9, hS 7 (by omega), hS 8 (by omega), cntD_congr hP (fun k _ => by rw [hB]; exact ⟨rfl, rfl⟩)]
    exact q4 i
  · rw [hN 0 (by decide) (by decide), s9, hma _ r hr]
    exact q5.1 r hr
  · rw [s9] at hk
    obtain ⟨g1, g2, g3⟩ := q5.2 k hk
    have p := q1.p (q6 k hk).1
    rw [hB, hN 12 (by decide) (by decide), hN 13 (by decide) (by decide), (ec _).1, (ec _).2.1, hma _ _ p.2.2.2.1, hma _ _ p.2.2.2.2.1]
    refine ⟨g1, g2, fun hd => ?_⟩
    rw [hma _ _ (show eD A (aB A k) < 8 from p.2.2.1)]
    exact g3 hd
  · rw [s9] at hk
    have h0 := q6 k hk
    unfold okE at h0 ⊢
    rw [hB, (ec _).1, (ec _).2.2, hS 15 (by omega)]
    exact h0
  · rw [s9] at hk
    rw [hB]
    exact q10.1 j k hjk hk
  · rw [s9] at hk
    rw [hB, hS 6 (by omega)]
    exact q10.2.1 k hk
  · rw [hS 6 (by omega)]
    exact q10.2.2
  · rw [hN 2 (by decide) (by decide), hN 1 (by decide) (by decide)]
    exact q13 r hr
  · rw [s9] at hk ⊢
    rw [hB, (ec _).1] at ha
    exact q14 k hk ha
  · rw [s9] at hk ⊢
    rw [hB, (ec _).1] at ha
    exact q15 k hk ha
theorem IBz.ib (q : IBz A) (h9 : aS A 9 = 0) (h1 : PL A) (h2 : EN A) : IB A := by
  obtain ⟨q1, q2, q3, q4, q5, q6, q10, q13, q14, q15⟩ := q
  unfold IB
  rw [h9]
  exact ⟨q1, q2, q3, q4, q5, q6, fun k hk => absurd hk (Nat.not_lt_zero _), fun k hk => absurd hk (Nat.not_lt_zero _), fun k hk => absurd hk (Nat.not_lt_zero _), q10, h1, h2, q13, q14, q15⟩
/-- the ends told, one more -/
theorem EN.more (h : EN A) (h0 : aS A 1 ≠ 1) (hP : SamP A B) (h15 : aS B 15 = aS A 15) (hv0 : aV B 0 = aV A 0) (hv6 : aV B 6 = aV A 6) (hv7 : aV B 7 = aV A 7) {kd pl : Nat} (e14 : aS B 14 = aS A 14 + 1) (n14 : aN B 14 = up1 (aN A 14) (aS A 14) kd) (n15 : aN B 15 = up1 (aN A 15) (aS A 14) pl) (g1 : pl = (plA A (aS A 14)).2.2 0) (g2 : nI kd = plK A (plA A (aS A 14)) kd) (g3 : kd ≤ 9) (g4 : kd ≠ 9 → (aN A 10 pl = 18 ∨ (kd ≠ 0 ∧ ((plA A (aS A 14)).2.2 1 ≠ 0 ∨ aV A 0 0 = -1))) → aS B 1 = 1) : EN B ∧ plA B (aS B 14) = plN A (plA A (aS A 14)) kd := by
  have hpl : ∀ e, e ≤ aS A 14 → plA B e = plA A e := fun e he => plA_congr hP hv0 hv6 hv7 h15 (fun i hi => by rw [n14, up1_ne _ _ (by omega)])
  have hN : ∀ (P : Pm) (k : Nat), plN B P k = plN A P k := fun P k => by
    unfold plN plT plD
    rw [hP.1 10 (by omega) (by omega), hP.1 11 (by omega) (by omega), hP.1 12 (by omega) (by omega), hP.1 13 (by omega) (by omega), hP.2, hv0, h15]
  refine ⟨fun e he => ?_, ?_⟩
  · rw [e14] at he ⊢
    rw [n14, n15, up1_if, up1_if, hpl e (by omega), plK_congr hP h15, hP.1 10 (by omega) (by omega), hv0]
    split
    · rename_i ee
      subst ee
      exact ⟨g1, g2, g3, fun a b => ⟨g4 a b, rfl⟩⟩
    · obtain ⟨a, b, c, d⟩ := h e (by omega)
      exact ⟨a, b, c, fun x y => absurd (d x y).1 h0⟩
  · rw [e14]
    show plN B (plA B (aS A 14)) (aN B 14 (aS A 14)) = _
    rw [hpl _ (Nat.le_refl _), n14, up1_eq, hN]
end RETI
