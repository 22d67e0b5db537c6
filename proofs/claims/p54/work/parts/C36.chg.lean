/-! an interrupt wanted, a line's time: what always holds stays -/
section CHG
variable {A B : Sx}
def chg (A : Sx) (x : Nat) (f : Nat → Nat) : Sx := (up1 A.1 2 x, up1 A.2.1 6 f, A.2.2)
theorem chg_S {x : Nat} {f : Nat → Nat} {i : Nat} (h : i ≠ 2) : aS (chg A x f) i = aS A i := up1_ne _ _ h
theorem chg_N {x : Nat} {f : Nat → Nat} {i : Nat} (h : i ≠ 6) : aN (chg A x f) i = aN A i := up1_ne _ _ h
theorem chg_P {x : Nat} {f : Nat → Nat} : SamP A (chg A x f) := ⟨fun _ _ _ => chg_N (by omega), rfl⟩
theorem chg_pl {x : Nat} {f : Nat → Nat} (e : Nat) : plA (chg A x f) e = plA A e := plA_congr (A := A) (B := chg A x f) chg_P rfl rfl rfl (chg_S (by decide)) (fun _ _ => by rw [chg_N (by decide)])
theorem chg_iv {x : Nat} {f : Nat → Nat} (q : IV A) (hx : x ≤ 1) (hf : ∀ k, k < 16 → 1 ≤ f k ∧ f k ≤ 30) : IV (chg A x f) := by
  obtain ⟨⟨q1, q2, q3, q4, q5, q6, q7, q8, q9, q10, q11, q12, q13, q14, q15⟩, p⟩ := q
  have S9 : aS (chg A x f) 9 = aS A 9 := rfl
  have mp : ∀ k r, mapAt (chg A x f) k r = mapAt A k r := fun k => by
    induction k with
    | zero => intro r; rfl
    | succ k ih =>
      intro r
      show (if hasD (eC A (aB A k)) = true then up1 (mapAt (chg A x f) k) (eD A (aB A k)) ((aB A k).1 8) else mapAt (chg A x f) k) r = (if hasD (eC A (aB A k)) = true then up1 (mapAt A k) (eD A (aB A k)) ((aB A k).1 8) else mapAt A k) r
      rw [show mapAt (chg A x f) k = mapAt A k from funext ih]
  have cd : ∀ i k, cntD (chg A x f) i k = cntD A i k := fun i k => by
    induction k with
    | zero => rfl
    | succ k ih =>
      show (if hasD (eC A (aB A k)) = true ∧ (aB A k).1 8 = i then 1 else 0) + cntD (chg A x f) i k = (if hasD (eC A (aB A k)) = true ∧ (aB A k).1 8 = i then 1 else 0) + cntD A i k
      rw [ih]
  refine ⟨⟨q1, ⟨q2.1, q2.2.1, q2.2.2.1, hf, q2.2.2.2.2.1, q2.2.2.2.2.2.1, ⟨q2.2.2.2.2.2.2.1.1, hx, q2.2.2.2.2.2.2.1.2.2⟩, q2.2.2.2.2.2.2.2⟩, q3, fun i => ?_, ⟨fun r hr => ?_, fun k hk => ?_⟩, q6, q7, q8, q9, q10, ?_, ?_, q13, q14, q15⟩, p⟩
  · rw [cd]
    exact q4 i
  · rw [mp]
    exact q5.1 r hr
  · rw [mp, mp, mp]
    exact q5.2 k hk
  · unfold PL at q11 ⊢
    rw [chg_pl]
    exact q11
  · intro e he
    have := q12 e he
    rw [chg_pl]
    exact this
theorem chg_iy {x : Nat} {f : Nat → Nat} (q : IY A) (hx : x ≤ 1) (hf : ∀ k, k < 16 → 1 ≤ f k ∧ f k ≤ 30) : IY (chg A x f) := by
  obtain ⟨⟨⟨q1, q2, q3⟩, t, g, qb, q5⟩, ng⟩ := q
  have cq : ∀ k, cntQ (chg A x f) k = cntQ A k := fun k => by
    induction k with
    | zero => rfl
    | succ k ih =>
      show (if (aB A k).1 10 = 113 then 1 else 0) + cntQ (chg A x f) k = (if (aB A k).1 10 = 113 then 1 else 0) + cntQ A k
      rw [ih]
  refine ⟨⟨⟨chg_iv q1 hx hf, q2, q3⟩, t, g, ?_, q5⟩, ng⟩
  unfold QB at qb ⊢
  rw [cq]
  exact qb
theorem chg_intr (A : Sx) (n : Nat) : zS A 2 n = chg A n (aN A 6) := by
  refine Prod.ext rfl (Prod.ext (funext fun r => ?_) rfl)
  show A.2.1 r = up1 A.2.1 6 (A.2.1 6) r
  rw [up1_if]
  by_cases e : r = 6
  · rw [if_pos e, e]
  · rw [if_neg e]
theorem chg_time (A : Sx) (l n : Nat) : zN A 6 l n = chg A (aS A 2) (up1 (aN A 6) l n) := by
  refine Prod.ext (funext fun i => ?_) (Prod.ext (funext fun r => ?_) rfl)
  · show A.1 i = up1 A.1 2 (A.1 2) i
    rw [up1_if]
    by_cases e : i = 2
    · rw [if_pos e, e]
    · rw [if_neg e]
  · show up2 A.2.1 6 l n r = up1 A.2.1 6 (up1 (A.2.1 6) l n) r
    rfl
theorem iy_intr (q : IY A) : IY (zS A 2 1) := by
  rw [chg_intr]
  exact chg_iy q (by decide) q.1.1.1.1.2.1.2.2.2.1
theorem iy_time {l n : Nat} (q : IY A) (hn : 1 ≤ n ∧ n ≤ 30) : IY (zN A 6 l n) := by
  rw [chg_time]
  refine chg_iy q q.1.1.1.1.2.1.2.2.2.2.2.2.1.2.1 (fun k hk => ?_)
  rw [up1_if]
  split
  · exact hn
  · exact q.1.1.1.1.2.1.2.2.2.1 k hk
end CHG
