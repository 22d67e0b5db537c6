section FTI
variable {A B : Sx}
/-- one more number is given -/
theorem IB.num (q : IB A) (h : aS A 6 + 1 ≤ 2000) : IB (zS A 6 (aS A 6 + 1)) := by
  obtain ⟨q1, q2, q3, q4, q5, q6, q7, q8, q9, q10, q11, q12, q13, q14, q15⟩ := q
  refine ⟨q1, q2, q3, fun i => ?_, ⟨fun r hr => ?_, fun k hk => ?_⟩, q6, q7, fun k hk => ?_, q9, ⟨q10.1, fun k hk => ?_, ?_⟩, ?_, fun e he => ?_, q13, q14, q15⟩
  · have h0 := q4 i
    have h1 : cntD (zS A 6 (aS A 6 + 1)) i (aS A 9) = cntD A i (aS A 9) := cntD_congr (A := A) (B := zS A 6 (aS A 6 + 1)) ⟨fun _ _ _ => rfl, rfl⟩ (fun _ _ => ⟨rfl, rfl⟩)
    show cnt (aN A 1) i 8 + cntD (zS A 6 (aS A 6 + 1)) i (aS A 9) + cnt (aN A 3) i (aS A 7) = if i < aS A 8 then 1 else 0
    rw [h1]
    exact h0
  · exact (q5.1 r hr).trans (mapAt_congr (A := zS A 6 (aS A 6 + 1)) (B := A) ⟨fun _ _ _ => rfl, rfl⟩ (fun _ _ => rfl) (fun _ _ => ⟨rfl, rfl⟩) r hr)
  · have hm : ∀ r, r < 8 → mapAt A k r = mapAt (zS A 6 (aS A 6 + 1)) k r := mapAt_congr (A := zS A 6 (aS A 6 + 1)) (B := A) ⟨fun _ _ _ => rfl, rfl⟩ (fun _ _ => rfl) (fun _ _ => ⟨rfl, rfl⟩)
    obtain ⟨g1, g2, g3⟩ := q5.2 k hk
    have p := q1.p (q6 k hk).1
    exact ⟨g1.trans (hm _ p.2.2.2.1), g2.trans (hm _ p.2.2.2.2.1), fun hd => (g3 hd).trans (hm _ p.2.2.1)⟩
  · exact (q8 k hk).eq q10.2.2 ⟨fun _ _ _ => rfl, rfl⟩ rfl rfl rfl rfl (by rw [zS_at]; omega) (Nat.le_refl _)
  · rw [zS_at]
    exact Nat.lt_succ_of_lt (q10.2.1 k hk)
  · rw [zS_at]
    exact h
  · have : ∀ e, plA (zS A 6 (aS A 6 + 1)) e = plA A e := fun e => plA_congr (A := A) (B := zS A 6 (aS A 6 + 1)) ⟨fun _ _ _ => rfl, rfl⟩ rfl rfl rfl rfl (fun _ _ => rfl)
    unfold PL
    rw [show aS (zS A 6 (aS A 6 + 1)) 14 = aS A 14 from rfl, this]
    exact q11
  · have : ∀ e, plA (zS A 6 (aS A 6 + 1)) e = plA A e := fun e => plA_congr (A := A) (B := zS A 6 (aS A 6 + 1)) ⟨fun _ _ _ => rfl, rfl⟩ rfl rfl rfl rfl (fun _ _ => rfl)
    rw [this]
    exact q12 e he
theorem okT_push {t : List Nat} {p : Nat} (h : okT t) (hp : p ≤ 64) : okT (pushT t p) := by
  unfold pushT
  refine ⟨?_, fun x hx => ?_⟩
  · rw [List.length_append, List.length_singleton]
    split
    · omega
    · rw [List.length_drop]
      have := h.1
      omega
  · rcases List.mem_append.mp hx with g | g
    · split at g
      · exact h.2 x g
      · exact h.2 x (List.mem_of_mem_drop g)
    · rw [List.mem_singleton.mp g]
      exact hp
theorem okT_pop {t : List Nat} (h : okT t) : okT t.dropLast := ⟨by rw [List.length_dropLast]; have := h.1; omega, fun x hx => h.2 x (List.dropLast_subset t hx)⟩
theorem last_le : ∀ (t : List Nat) (d : Nat), d ≤ 64 → (∀ x ∈ t, x ≤ 64) → t.getLastD d ≤ 64
  | [], d, h, _ => h
  | a :: t, d, _, h2 => by
    rw [List.getLastD_cons]
    exact last_le t a (h2 a List.mem_cons_self) (fun x hx => h2 x (List.mem_cons_of_mem _ hx))
theorem okT_last {t : List Nat} (h : okT t) : t.getLastD 0 ≤ 64 := last_le t 0 (Nat.zero_le _) h.2
theorem guess_ok (q1 : CF A) (hb : BD A) (ht : okT (aT A)) {p : Nat} (hp : p < aS A 15) : (guessA A p).1 ≤ 64 ∧ okT (guessA A p).2 ∧ (isCt (aN A 10 p) = false → nI (guessA A p).1 = goV (aN A 10 p) p 0 0 (aV A 5 p)) := by
  obtain ⟨p1, p2, -, -, -, p6⟩ := q1.p hp
  have hn : 12 ≤ aN A 10 p → aN A 10 p ≤ 15 → (aV A 5 p).toNatClampNeg ≤ 64 ∧ aV A 5 p = nI (aV A 5 p).toNatClampNeg := fun a b => by
    obtain ⟨e1, e2⟩ := adok_e (p6 a b)
    exact ⟨by omega, e1⟩
  unfold guessA
  dsimp only
  split
  · rename_i h
    have h2 : aN A 10 p = 12 ∨ aN A 10 p = 13 := by simpa [isQn] using h
    refine ⟨?_, ht, fun z => ?_⟩
    · show (if _ then _ else _) ≤ 64
      split
      · exact (hn (by omega) (by omega)).1
      · exact (by omega : p + 1 ≤ 64)
    · unfold isCt at z
      rw [h] at z
      cases z
  · rename_i hq
    have hq2 : isQn (aN A 10 p) = false := by simpa using hq
    split
    · rename_i h
      refine ⟨(hn (by omega) (by omega)).1, ht, fun _ => ?_⟩
      unfold goV
      rw [hq2, h]
      exact (hn (by omega) (by omega)).2.symm
    · split
      · rename_i h
        refine ⟨(hn (by omega) (by omega)).1, okT_push ht (by omega), fun _ => ?_⟩
        unfold goV
        rw [hq2, h]
        exact (hn (by omega) (by omega)).2.symm
      · split
        · rename_i h
          refine ⟨?_, ?_, fun z => ?_⟩
          · split
            · show p + 1 ≤ 64
              omega
            · exact okT_last ht
          · split
            · exact ht
            · exact okT_pop ht
          · rw [h] at z
            cases z
        · split
          · rename_i h
            refine ⟨?_, ht, fun z => ?_⟩
            · show (if _ then _ else _) ≤ 64
              split
              · exact (by omega : p + 1 ≤ 64)
              · rename_i hne
                rcases hb.2.2.1 (p % 8) (Nat.mod_lt _ (by decide)) with z | z
                · exact absurd z hne
                · have := (adok_e z).2
                  omega
            · rw [h] at z
              cases z
          · rename_i h14 h15 h16 h17
            refine ⟨by show p + 1 ≤ 64; omega, ht, fun z => ?_⟩
            unfold goV
            have hl : isLp (aN A 10 p) = false := by
              unfold isLp
              simp [h16, h17]
            rw [hq2, hl]
            rw [if_neg Bool.false_ne_true, if_neg Bool.false_ne_true, if_neg (by omega)]
theorem ft1_f (A : Sx) : (∀ i, i ≠ 6 → i ≠ 10 → i ≠ 11 → i ≠ 12 → aS (ft1 A) i = aS A i) ∧ aS (ft1 A) 6 = aS A 6 + 1 ∧ aS (ft1 A) 10 = aS A 10 + 1 ∧ aS (ft1 A) 11 = (guessA A (aS A 11)).1 ∧ aS (ft1 A) 12 = (if isEf (aN A 10 (aS A 11)) then 1 else 0) ∧ aN (ft1 A) = aN A ∧ aV (ft1 A) = aV A ∧ aB (ft1 A) = aB A ∧ aL (ft1 A) = up1 (aL A) (aS A 10) (newE A (aS A 11) (guessA A (aS A 11)).1 (guessA A (aS A 11)).2) ∧ aT (ft1 A) = (guessA A (aS A 11)).2 ∧ aQ (ft1 A) = aQ A := by
  refine ⟨fun i h1 h2 h3 h4 => ?_, rfl, rfl, rfl, rfl, rfl, rfl, rfl, rfl, rfl, rfl⟩
  unfold ft1
  simp [zS_, zT_, zL_, up1_if, h1, h2, h3, h4]
theorem ft1_ib (q : IB A) (f : IF A) (hn : aS A 6 + 1 ≤ 2000) (h12 : aS A 12 = 0) (hl : aS A 10 < 2 * aS A 16) (hp : aS A 11 < aS A 15) : IB (ft1 A) ∧ IF (ft1 A) := by
  obtain ⟨r1, r2, r3, r4, r5, r6, r7, r8, r9, r10, r11⟩ := ft1_f A
  have hSt : St (zS A 6 (aS A 6 + 1)) (ft1 A) := by
    refine ⟨fun i hi => ?_, fun r _ _ _ => by rw [r6]; rfl, fun r _ _ => by rw [r7]; rfl, fun k _ => ?_⟩
    · by_cases e : i = 6
      · rw [e, r2, zS_at]
      · rw [zS_ne _ _ e]
        refine r1 i e (fun z => ?_) (fun z => ?_) (fun z => ?_) <;> (rw [z] at hi; cases hi)
    · rw [r8]
      exact ⟨fun _ _ => rfl, rfl⟩
  have q9 := q.num hn
  have hpr : ∀ n, prd (ft1 A) n = prd A n := fun n => by
    have hP : SamP A (ft1 A) := ⟨fun r _ _ => by rw [r6], by rw [r7]⟩
    unfold prd
    rw [r1 5 (by decide) (by decide) (by decide) (by decide), r8, suc_eq hP]
  have ec : ∀ x : Ent, eC (ft1 A) x = eC A x ∧ eI (ft1 A) x = eI A x := fun x => by unfold eC eI; rw [r6, r7]; exact ⟨rfl, rfl⟩
  constructor
  · have := hSt.ibe q9 (Nat.le_refl _) (by rw [r6]; rfl) (fun k hk => by rw [r6]; exact q.2.1.2.2.2.2.2.1 k hk) (by rw [r7]; rfl) r8 r11
    unfold IB
    rw [hSt.S 9]
    exact this
  · obtain ⟨f1, f2, f3, f4, f5, f6, f7, f8, f9, f10, f11, f12, f13⟩ := id f
    obtain ⟨g1, g2, g3⟩ := guess_ok q.1 q.2.1 f2 hp
    have eL : ∀ j, aL (ft1 A) j = if j = aS A 10 then newE A (aS A 11) (guessA A (aS A 11)).1 (guessA A (aS A 11)).2 else aL A j := fun j => by rw [r9]; rfl
    unfold IF
    rw [r3, r1 16 (by decide) (by decide) (by decide) (by decide), r10, r2, r1 9 (by decide) (by decide) (by decide) (by decide), r1 1 (by decide) (by decide) (by decide) (by decide), r4, r8, hpr]
    refine ⟨by omega, g2, ?_, fun j hj => ?_, fun i j hij hj => ?_, fun k j hk hj => ?_, fun _ => ?_, fun j hj => ?_, fun _ => ?_, fun _ => g1, fun k hk he => ?_, fun j hj he => ?_, fun h => ?_⟩
    · rw [r5]
      split <;> omega
    · rw [eL]
      split
      · have en : eC A (newE A (aS A 11) (guessA A (aS A 11)).1 (guessA A (aS A 11)).2) = aN A 10 (aS A 11) := rfl
        refine ⟨⟨?_, g1, g2, fun z => ?_⟩, Nat.lt_succ_self _, rfl, rfl, rfl, rfl, rfl, ?_⟩
        · rw [r1 15 (by decide) (by decide) (by decide) (by decide)]
          exact hp
        · rw [(ec _).1] at z ⊢
          rw [(ec _).2]
          exact g3 z
        · rw [(ec _).1, (ec _).2]
          rfl
      · obtain ⟨m1, m2, m3⟩ := f4 j (by omega)
        rw [(ec _).1, (ec _).2]
        refine ⟨?_, Nat.lt_succ_of_lt m2, m3⟩
        unfold okE at m1 ⊢
        rw [(ec _).1, (ec _).2, r1 15 (by decide) (by decide) (by decide) (by decide)]
        exact m1
    · rw [eL i, eL j, if_neg (show ¬ i = aS A 10 by omega)]
      split
      · exact (f4 i (by omega)).2.1
      · exact f5 i j hij (by omega)
    · rw [eL j]
      split
      · exact q.2.2.2.2.2.2.2.2.2.1.2.1 k hk
      · exact f6 k j hk (by omega)
    · rw [eL]
      split
      · rename_i e
        show aS A 11 = _
        rw [f9 h12, if_pos e.symm]
      · exact f7 (by omega)
    · rw [eL, eL, if_neg (show ¬ j = aS A 10 by omega)]
      split
      · rename_i e
        show aS A 11 = _
        rw [f9 h12, if_neg (by omega), show aS A 10 - 1 = j by omega]
      · exact f8 j (by omega)
    · rw [if_neg (by omega), Nat.add_sub_cancel, eL, if_pos rfl]
      rfl
    · rw [(ec _).1] at he
      have := (f11 k hk he).2
      omega
    · rw [(ec _).1, eL] at he
      split at he
      · rename_i e
        refine ⟨by omega, ?_⟩
        rw [r5]
        have h9 : isEf (aN A 10 (aS A 11)) = true := he
        rw [h9]
        rfl
      · have := (f12 j (by omega) he).2
        omega
    · have := (f13 h).2.2
      omega
end FTI
