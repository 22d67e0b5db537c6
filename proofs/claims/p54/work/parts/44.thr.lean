/-! throwing away, going on -/
theorem zS_at (A : Sx) (i n : Nat) : aS (zS A i n) i = n := up1_eq (aS A) i n
theorem zS_ne (A : Sx) {i j : Nat} (n : Nat) (h : j ≠ i) : aS (zS A i n) j = aS A j := up1_ne (aS A) n h
section THR
variable {A B : Sx}
theorem DY.eq {x : Ent} (h : DY A x) (hP : SamP A B) (h3 : aS B 3 = aS A 3) (h2 : aN B 2 = aN A 2) (h1 : aV B 1 = aV A 1) (hq : aQ B = aQ A) : DY B x :=
  h.same hP h3 (fun q _ => by rw [hq]; exact q) (fun q => by rw [h2, h1]; exact ⟨q, rfl⟩) (fun q => by rw [h2, h1]; exact ⟨q, rfl⟩) (fun _ => by rw [h2, h1]; exact ⟨rfl, fun _ => rfl⟩)
theorem suc_eq (hP : SamP A B) (x : Ent) : suc B x = suc A x := by
  obtain ⟨e1, -⟩ := hP.c (x := x) (y := x) rfl
  unfold suc
  rw [e1]
theorem LD.eq {k : Nat} (h : LD A k) (hn : aS A 6 ≤ 2000) (hP : SamP A B) (h2 : aN B 2 = aN A 2) (h1 : aV B 1 = aV A 1) (hw : aV B 2 = aV A 2) (hb : aB B = aB A) (h6 : aS A 6 ≤ aS B 6) (h9 : aS B 9 ≤ aS A 9) : LD B k := by
  obtain ⟨e1, -⟩ := hP.c (x := aB A k) (y := aB A k) rfl
  unfold LD at h ⊢
  rw [hb, e1]
  intro c1 c2 c3
  have h0 := h c1 c2 c3
  refine h0.to hn hP rfl rfl (fun j _ => by rw [hb]; exact ⟨rfl, rfl, rfl⟩) (fun j _ => ?_) (fun j _ q => by rw [h2, h1]; exact ⟨q, rfl⟩) hw h6 h9 (fun j _ => by rw [hb]) (fun _ => rfl) (fun q q2 => ?_)
  · exact ES.iff hP (by rw [hb]) (fun _ => by rw [hb]; exact ⟨Iff.rfl, fun _ => ⟨rfl, rfl⟩⟩) _
  · rcases h0 with ⟨-, -, a3⟩ | ⟨g, a1, a2, -⟩
    · exact a3 q2
    · exact absurd (a1.symm.trans q) (nI_m1 (by omega))
/-- where nothing of the buffer changes -/
theorem St.ibe {n : Nat} (h : St A B) (q : IBp A n) (hn : n ≤ aS A 9) (h2 : aN B 2 = aN A 2) (h5 : ∀ k, k < 16 → aN B 5 k ≤ 1) (h1 : aV B 1 = aV A 1) (hb : aB B = aB A) (hq : aQ B = aQ A) : IBp B n := by
  obtain ⟨q1, q2, q3, q4, q5, q6, q7, q8, q9, q10, q11, q12, q13, q14, q15⟩ := id q
  refine h.ibp q (Nat.le_refl _) hn (fun k hk => by rw [h2]; exact q2.2.2.2.2.1 k hk) h5 ?_ (fun k hk => ?_) (fun k hk => ?_) (fun k _ => ?_) (fun r hr => ?_)
  · unfold QK at q3 ⊢
    rw [hq]
    exact q3
  · rw [hb]
    exact (q7 k hk).eq h.P (h.S 3) h2 h1 hq
  · exact (q8 k hk).eq q10.2.2 h.P h2 h1 (h.V 2) hb (by rw [h.S 6]; exact Nat.le_refl _) (by rw [h.S 9]; exact Nat.le_refl _)
  · rw [hb]
    exact suc_eq h.P _
  · rw [h2, h1]
    exact ⟨q13 r hr, rfl⟩
theorem St.zS0 {i n : Nat} (hi : stI i = false) : St A (zS A i n) := ⟨fun j hj => up1_ne _ _ (fun e => by rw [e, hi] at hj; cases hj), fun _ _ _ _ => rfl, fun _ _ _ => rfl, fun _ _ => ⟨fun _ _ => rfl, rfl⟩⟩
theorem St.zT0 {t : List Nat} : St A (zT A t) := ⟨fun _ _ => rfl, fun _ _ _ _ => rfl, fun _ _ _ => rfl, fun _ _ => ⟨fun _ _ => rfl, rfl⟩⟩
theorem St.zQ0 {t : List (Nat × Nat)} : St A (zQ A t) := ⟨fun _ _ => rfl, fun _ _ _ _ => rfl, fun _ _ _ => rfl, fun _ _ => ⟨fun _ _ => rfl, rfl⟩⟩
theorem St.zN0 {r k n : Nat} (hr : r = 2 ∨ r = 5 ∨ r = 7) : St A (zN A r k n) := ⟨fun _ _ => rfl, fun j h2 h5 h7 => up2_ne _ _ _ (by omega), fun _ _ _ => rfl, fun _ _ => ⟨fun _ _ => rfl, rfl⟩⟩
theorem St.zV0 {r k : Nat} {v : Int32} (hr : r = 1 ∨ r = 4) : St A (zV A r k v) := ⟨fun _ _ => rfl, fun _ _ _ _ => rfl, fun j h1 h4 => up2_ne _ _ _ (by omega), fun _ _ => ⟨fun _ _ => rfl, rfl⟩⟩
theorem St.zB0 {k : Nat} {y : Ent} (h : ∀ i, (i = 0 ∨ i = 5 ∨ i = 6 ∨ i = 7 ∨ i = 8 ∨ i = 9 ∨ i = 13) → y.1 i = (aB A k).1 i) (h2 : y.2.2 = (aB A k).2.2) : St A (zB A k y) := by
  refine ⟨fun _ _ => rfl, fun _ _ _ _ => rfl, fun _ _ _ => rfl, fun j _ => ?_⟩
  rw [(zB_ A k y).2.2.2.1, up1_if]
  split
  · rename_i e
    rw [e]
    exact ⟨h, h2⟩
  · exact ⟨fun _ _ => rfl, rfl⟩
/-- what a throw changes -/
theorem throw1_f (A : Sx) : (∀ i, i ≠ 7 → i ≠ 9 → i ≠ 21 → aS (throw1 A) i = aS A i) ∧ aS (throw1 A) 9 = aS A 9 - 1 ∧ (∀ r, r ≠ 0 → r ≠ 3 → aN (throw1 A) r = aN A r) ∧ aV (throw1 A) = aV A ∧ aB (throw1 A) = aB A ∧ aL (throw1 A) = aL A ∧ aT (throw1 A) = aT A ∧ aQ (throw1 A) = aQ A ∧ aS (throw1 A) 21 = aS A 21 + 1 ∧
    (hasD (eC A (aB A (aS A 9 - 1))) = true → aS (throw1 A) 7 = aS A 7 + 1 ∧ aN (throw1 A) 0 = up1 (aN A 0) (eD A (aB A (aS A 9 - 1))) ((aB A (aS A 9 - 1)).1 9) ∧ aN (throw1 A) 3 = up1 (aN A 3) (aS A 7) ((aB A (aS A 9 - 1)).1 8)) ∧
    (hasD (eC A (aB A (aS A 9 - 1))) = false → aS (throw1 A) 7 = aS A 7 ∧ aN (throw1 A) 0 = aN A 0 ∧ aN (throw1 A) 3 = aN A 3) := by
  unfold throw1 takeB
  cases hd : hasD (eC A (aB A (aS A 9 - 1)))
  · refine ⟨fun i h1 h2 h3 => ?_, rfl, fun r h1 h2 => rfl, rfl, rfl, rfl, rfl, rfl, rfl, fun h => (by cases h), fun _ => ⟨rfl, rfl, rfl⟩⟩
    simp [zS_, up1_if, h2, h3]
  · refine ⟨fun i h1 h2 h3 => ?_, rfl, fun r h1 h2 => ?_, rfl, rfl, rfl, rfl, rfl, rfl, fun _ => ⟨rfl, rfl, rfl⟩, fun h => by cases h⟩
    · simp [zS_, zN_, up1_if, h1, h2, h3]
    · simp [zS_, zN_, up2_if, h1, h2]
theorem throw1_P (A : Sx) : SamP A (throw1 A) := ⟨fun r h1 h2 => (throw1_f A).2.2.1 r (by omega) (by omega), by rw [(throw1_f A).2.2.2.1]⟩
theorem IBp.thr1 {n : Nat} (q : IBp A n) (hn : n < aS A 9) : IBp (throw1 A) n := by
  obtain ⟨q1, q2, q3, q4, q5, q6, q7, q8, q9, q10, q11, q12, q13, q14, q15⟩ := q
  have hP := throw1_P A
  obtain ⟨f1, f2, f3, f4, f5, f6, f7, f8, f9, f10, f11⟩ := throw1_f A
  have hpl : ∀ e, plA (throw1 A) e = plA A e := fun e => plA_congr hP (by rw [f4]) (by rw [f4]) (by rw [f4]) (f1 15 (by decide) (by decide) (by decide)) (fun i _ => by rw [f3 14 (by decide) (by decide)])
  have hma : ∀ m, ∀ r, r < 8 → mapAt (throw1 A) m r = mapAt A m r := fun m => mapAt_congr hP (fun r _ => by rw [f3 1 (by decide) (by decide)]) (fun k _ => by rw [f5]; exact ⟨rfl, rfl⟩)
  have hcd : ∀ i m, cntD (throw1 A) i m = cntD A i m := fun i m => cntD_congr hP (fun k _ => by rw [f5]; exact ⟨rfl, rfl⟩)
  have ec : ∀ x : Ent, eC (throw1 A) x = eC A x ∧ eD (throw1 A) x = eD A x ∧ eI (throw1 A) x = eI A x := fun x => hP.c rfl
  obtain ⟨m, hm⟩ : ∃ m, aS A 9 = m + 1 := ⟨aS A 9 - 1, by omega⟩
  have hm1 : aS A 9 - 1 = m := by omega
  rw [hm1] at f2 f10 f11
  obtain ⟨-, -, -, -, -, hpr, -⟩ := id q1
  refine ⟨?_, ?_, ?_, ?_, ?_, ?_, ?_, ?_, ?_, ?_, ?_, ?_, ?_, ?_, ?_⟩
  · unfold CF at q1 ⊢
    rw [f1 16 (by decide) (by decide) (by decide), f1 17 (by decide) (by decide) (by decide), f1 18 (by decide) (by decide) (by decide), f1 8 (by decide) (by decide) (by decide), f1 15 (by decide) (by decide) (by decide), f3 10 (by decide) (by decide), f3 11 (by decide) (by decide), f3 12 (by decide) (by decide), f3 13 (by decide) (by decide), f4]
    exact q1
  · unfold BD at q2 ⊢
    rw [f2, f1 17 (by decide) (by decide) (by decide), f3 4 (by decide) (by decide), f4, f3 6 (by decide) (by decide), f3 2 (by decide) (by decide), f3 5 (by decide) (by decide), f1 1 (by decide) (by decide) (by decide), f1 2 (by decide) (by decide) (by decide), f1 3 (by decide) (by decide) (by decide), f1 5 (by decide) (by decide) (by decide), f1 4 (by decide) (by decide) (by decide)]
    exact ⟨by omega, q2.2⟩
  · unfold QK at q3 ⊢
    rw [f8]
    exact q3
  · intro i
    have h0 := q4 i
    rw [hcd, f3 1 (by decide) (by decide), f1 8 (by decide) (by decide) (by decide), f2]
    rw [hm] at h0
    have h1 : cntD A i (m + 1) = (if hasD (eC A (aB A m)) = true ∧ (aB A m).1 8 = i then 1 else 0) + cntD A i m := rfl
    cases hd : hasD (eC A (aB A m))
    · obtain ⟨g1, g2, g3⟩ := f11 hd
      rw [g1, g3]
      rw [hd] at h1
      simp at h1
      omega
    · obtain ⟨g1, g2, g3⟩ := f10 hd
      rw [g1, g3]
      rw [hd] at h1
      simp only [true_and] at h1
      have h2 : cnt (up1 (aN A 3) (aS A 7) ((aB A m).1 8)) i (aS A 7 + 1) = (if (aB A m).1 8 = i then 1 else 0) + cnt (aN A 3) i (aS A 7) := by
        show (if up1 (aN A 3) (aS A 7) ((aB A m).1 8) (aS A 7) = i then 1 else 0) + cnt (up1 (aN A 3) (aS A 7) ((aB A m).1 8)) i (aS A 7) = _
        rw [up1_eq, cnt_congr (g := aN A 3) (fun k hk => up1_ne _ _ (by omega))]
      omega
  · refine ⟨fun r hr => ?_, fun k hk => ?_⟩
    · rw [f2, hma _ r hr]
      have h0 := q5.1 r hr
      rw [hm] at h0
      have h1 : mapAt A (m + 1) = if hasD (eC A (aB A m)) = true then up1 (mapAt A m) (eD A (aB A m)) ((aB A m).1 8) else mapAt A m := rfl
      rw [h1] at h0
      cases hd : hasD (eC A (aB A m))
      · rw [(f11 hd).2.1]
        rw [hd] at h0
        exact h0
      · rw [(f10 hd).2.1, up1_if]
        rw [hd, if_pos rfl, up1_if] at h0
        split
        · rename_i e
          rw [e]
          exact (q5.2 m (by omega)).2.2 hd
        · rename_i e
          rw [if_neg e] at h0
          exact h0
    · rw [f2] at hk
      obtain ⟨p1, p2, p3, p4, -⟩ := hpr _ (q6 k (by omega)).1
      obtain ⟨g1, g2, g3⟩ := q5.2 k (by omega)
      rw [f5, f3 12 (by decide) (by decide), f3 13 (by decide) (by decide), (ec _).1, (ec _).2.1, hma _ _ p3, hma _ _ p4]
      refine ⟨g1, g2, fun hd => ?_⟩
      rw [hma _ _ (show eD A (aB A k) < 8 from p2)]
      exact g3 hd
  · intro k hk
    rw [f2] at hk
    have h0 := q6 k (by omega)
    unfold okE at h0 ⊢
    rw [f5, (ec _).1, (ec _).2.2, f1 15 (by decide) (by decide) (by decide)]
    exact h0
  · intro k hk
    rw [f5]
    exact (q7 k hk).eq hP (f1 3 (by decide) (by decide) (by decide)) (f3 2 (by decide) (by decide)) (by rw [f4]) f8
  · intro k hk
    exact (q8 k hk).eq q10.2.2 hP (f3 2 (by decide) (by decide)) (by rw [f4]) (by rw [f4]) f5 (by rw [f1 6 (by decide) (by decide) (by decide)]; exact Nat.le_refl _) (by omega)
  · intro k hk
    rw [f5, q9 k hk]
    unfold prd
    rw [f1 5 (by decide) (by decide) (by decide), f5, suc_eq hP]
  · refine ⟨fun j k hjk hk => ?_, fun k hk => ?_, ?_⟩
    · rw [f2] at hk
      rw [f5]
      exact q10.1 j k hjk (by omega)
    · rw [f2] at hk
      rw [f5, f1 6 (by decide) (by decide) (by decide)]
      exact q10.2.1 k (by omega)
    · rw [f1 6 (by decide) (by decide) (by decide)]
      exact q10.2.2
  · unfold PL at q11 ⊢
    rw [f1 14 (by decide) (by decide) (by decide), hpl, f4, f3 1 (by decide) (by decide), f1 5 (by decide) (by decide) (by decide), f1 3 (by decide) (by decide) (by decide), f1 4 (by decide) (by decide) (by decide)]
    exact q11
  · intro e he
    rw [f1 14 (by decide) (by decide) (by decide)] at he
    rw [f3 15 (by decide) (by decide), f3 14 (by decide) (by decide), hpl, plK_congr hP (f1 15 (by decide) (by decide) (by decide)), f3 10 (by decide) (by decide), f4, f1 1 (by decide) (by decide) (by decide), f1 14 (by decide) (by decide) (by decide)]
    exact q12 e he
  · intro r hr
    rw [f3 2 (by decide) (by decide), f3 1 (by decide) (by decide)]
    exact q13 r hr
  · intro k hk ha
    rw [f2] at hk
    rw [f5, (ec _).1] at ha
    have := q14 k (by omega) ha
    omega
  · intro k hk ha
    rw [f2] at hk
    rw [f5, (ec _).1] at ha
    have := q15 k (by omega) ha
    omega
/-- what throwing m away changes, and what not -/
theorem throwN_f (m : Nat) : ∀ A : Sx, (∀ i, i ≠ 7 → i ≠ 9 → i ≠ 21 → aS (throwN A m) i = aS A i) ∧ aS (throwN A m) 9 = aS A 9 - m ∧ (∀ r, r ≠ 0 → r ≠ 3 → aN (throwN A m) r = aN A r) ∧ aV (throwN A m) = aV A ∧ aB (throwN A m) = aB A ∧ aL (throwN A m) = aL A ∧ aT (throwN A m) = aT A ∧ aQ (throwN A m) = aQ A ∧ aS (throwN A m) 21 = aS A 21 + m := by
  induction m with
  | zero => intro A; exact ⟨fun _ _ _ _ => rfl, rfl, fun _ _ _ => rfl, rfl, rfl, rfl, rfl, rfl, rfl⟩
  | succ m ih =>
    intro A
    obtain ⟨f1, f2, f3, f4, f5, f6, f7, f8, f9, -⟩ := throw1_f A
    obtain ⟨g1, g2, g3, g4, g5, g6, g7, g8, g9⟩ := ih (throw1 A)
    refine ⟨fun i a b c => (g1 i a b c).trans (f1 i a b c), ?_, fun r a b => (g3 r a b).trans (f3 r a b), g4.trans f4, g5.trans f5, g6.trans f6, g7.trans f7, g8.trans f8, ?_⟩
    · show aS (throwN (throw1 A) m) 9 = _
      rw [g2, f2]
      omega
    · show aS (throwN (throw1 A) m) 21 = _
      rw [g9, f9]
      omega
theorem IBp.thrN {n : Nat} (m : Nat) : ∀ {A : Sx}, IBp A n → n + m ≤ aS A 9 → IBp (throwN A m) n := by
  induction m with
  | zero => intro A q _; exact q
  | succ m ih =>
    intro A q h
    exact ih (q.thr1 (by omega)) (by rw [(throw1_f A).2.1]; omega)
theorem throwF_f (A : Sx) {n : Nat} (hn : n ≤ aS A 9) : (∀ i, i ≠ 7 → i ≠ 9 → i ≠ 21 → i ≠ 10 → aS (throwF A n) i = aS A i) ∧ aS (throwF A n) 9 = n ∧ aS (throwF A n) 10 = 0 ∧ (∀ r, r ≠ 0 → r ≠ 3 → aN (throwF A n) r = aN A r) ∧ aV (throwF A n) = aV A ∧ aB (throwF A n) = aB A ∧ aT (throwF A n) = aT A ∧ aQ (throwF A n) = aQ A := by
  obtain ⟨g1, g2, g3, g4, g5, g6, g7, g8, g9⟩ := throwN_f (aS A 9 - n) (zS A 10 0)
  refine ⟨fun i a b c d => (g1 i a b c).trans (zS_ne A 0 d), ?_, (g1 10 (by decide) (by decide) (by decide)).trans (zS_at A 10 0), g3, g4, g5, g7, g8⟩
  have h9 : aS (zS A 10 0) 9 = aS A 9 := zS_ne A 0 (by decide)
  have e : aS (throwF A n) 9 = aS (zS A 10 0) 9 - (aS A 9 - n) := g2
  rw [e, h9]
  omega
end THR
