/-! the model: answers -/
section MAN
variable {b : Nat} {A B A' : Sx} {ρ : Nat → Nat} {μ μ' : Mm} {S : Nat → Nat → Bool}
def ans1 (A : Sx) (z : Nat × Nat) (q : List (Nat × Nat)) : Sx := zBr (zQ (zV A 4 (z.1 % 4) (nI z.1)) q) (fun k => wake A [z] (aB A k))
def ansF (A : Sx) (pre : List (Nat × Nat)) : List (Nat × Nat) → Sx
  | [] => A
  | z :: r => if z.2 = aS A 0 then ansF (ans1 A z (pre ++ r)) pre r else ansF A (pre ++ [z]) r
theorem wake_nil (A : Sx) (x : Ent) : wake A [] x = x := by
  unfold wake
  simp
theorem wake_cons (A : Sx) (z : Nat × Nat) (l : List (Nat × Nat)) (x : Ent) : wake A l (wake A [z] x) = wake A (z :: l) x := by
  by_cases h : x.1 10 = 109 ∧ lineOf x = z.1
  · have e1 : wake A [z] x = eN (eN x 10 120) 11 (aS A 0) := if_pos ⟨h.1, by rw [h.2]; simp⟩
    have e2 : wake A (z :: l) x = eN (eN x 10 120) 11 (aS A 0) := if_pos ⟨h.1, by rw [h.2]; simp⟩
    rw [e1, e2]
    exact if_neg (fun q => by
      have : (120 : Nat) = 109 := q.1
      omega)
  · have e1 : wake A [z] x = x := if_neg (fun q => h ⟨q.1, by
      have := q.2
      simpa using this⟩)
    rw [e1]
    unfold wake
    by_cases h2 : x.1 10 = 109 ∧ lineOf x ∈ l.map (·.1)
    · rw [if_pos h2, if_pos ⟨h2.1, List.mem_cons_of_mem _ h2.2⟩]
    · rw [if_neg h2, if_neg (fun q => by
        rcases List.mem_cons.mp q.2 with w | w
        · exact h ⟨q.1, w⟩
        · exact h2 ⟨q.1, w⟩)]
theorem comeIn_z (q : List (Nat × Nat)) (f : Nat → Ent) : ∀ (l : List (Nat × Nat)) (A : Sx), comeIn (zBr (zQ A q) f) l = zBr (zQ (comeIn A l) q) f
  | [], _ => rfl
  | z :: l, A => comeIn_z q f l (zV A 4 (z.1 % 4) (nI z.1))
theorem ansF_eq : ∀ (r : List (Nat × Nat)) (A : Sx) (pre : List (Nat × Nat)), aQ A = pre ++ r → ansF A pre r = zBr (zQ (comeIn A (r.filter (fun z => z.2 == aS A 0))) (pre ++ r.filter (fun z => !(z.2 == aS A 0)))) (fun k => wake A (r.filter (fun z => z.2 == aS A 0)) (aB A k))
  | [], A, pre, h => by
    show A = zBr (zQ A (pre ++ [])) (fun k => wake A [] (aB A k))
    have e : (fun k => wake A [] (aB A k)) = aB A := funext fun k => wake_nil _ _
    rw [e, ← h]
    rfl
  | z :: r, A, pre, h => by
    unfold ansF
    by_cases hz : z.2 = aS A 0
    · have e0 : aS (ans1 A z (pre ++ r)) = aS A := rfl
      rw [if_pos hz, ansF_eq r (ans1 A z (pre ++ r)) pre rfl, List.filter_cons_of_pos (by simpa using hz), List.filter_cons_of_neg (by simpa using hz), e0]
      have e1 : comeIn (ans1 A z (pre ++ r)) (r.filter (fun z => z.2 == aS A 0)) = zBr (zQ (comeIn A (z :: r.filter (fun z => z.2 == aS A 0))) (pre ++ r)) (fun k => wake A [z] (aB A k)) := comeIn_z _ _ _ _
      rw [e1]
      have e2 : (fun k => wake (ans1 A z (pre ++ r)) (r.filter (fun z => z.2 == aS A 0)) (aB (ans1 A z (pre ++ r)) k)) = (fun k => wake A (z :: r.filter (fun z => z.2 == aS A 0)) (aB A k)) := funext fun k => by
        rw [← wake_cons]
        rfl
      rw [e2]
      rfl
    · rw [if_neg hz, ansF_eq r A (pre ++ [z]) (by rw [h, List.append_assoc]; rfl), List.filter_cons_of_neg (by simpa using hz), List.filter_cons_of_pos (by simpa using hz), List.append_assoc]
      rfl
theorem ansF_answers (A : Sx) : ansF A [] (aQ A) = answers A := ansF_eq (aQ A) A [] rfl
def JA (A : Sx) : Prop := ∀ k, k < aS A 9 → (aB A k).1 10 < 1000 ∧ ((aB A k).1 10 = 109 → eC A (aB A k) = 9 ∧ (aB A k).1 12 = 0 ∧ adok ((aB A k).2.1 1) = true)
theorem IB.ja (q : IB A) : JA A := fun k hk => by
  obtain ⟨q1, q2, q3, q4, q5, q6, q7, -⟩ := q
  have d := q7 k hk
  refine ⟨d.s, fun h => ?_⟩
  obtain ⟨d1, d2, d3, d4, d5, d6, d7⟩ := d
  obtain ⟨a1, a2, -⟩ := d4 h
  refine ⟨a1, a2, ?_⟩
  exact (mm_ad q1 (q6 k hk) (d7 (by omega)) (by rw [a1]; rfl) a2).1
theorem wake_s (A : Sx) (q : List (Nat × Nat)) (x : Ent) (h : x.1 10 < 1000) : (wake A q x).1 10 < 1000 := by
  unfold wake
  split
  · exact (by decide : (120 : Nat) < 1000)
  · exact h
def wk (A : Sx) (z : Nat × Nat) (m : Nat) : Sx := zBr A (fun j => if j < m then wake A [z] (aB A j) else aB A j)
theorem wk_same {z : Nat × Nat} {k : Nat} (h : wake A [z] (aB A k) = aB A k) : wk A z (k + 1) = wk A z k := by
  have e : (fun j => if j < k + 1 then wake A [z] (aB A j) else aB A j) = (fun j => if j < k then wake A [z] (aB A j) else aB A j) := funext fun j => by
    by_cases h1 : j < k
    · rw [if_pos h1, if_pos (by omega)]
    · rw [if_neg h1]
      by_cases h2 : j = k
      · rw [h2, if_pos (by omega), h]
      · rw [if_neg (by omega)]
  unfold wk
  rw [e]
theorem wk_0 (A : Sx) (z : Nat × Nat) : wk A z 0 = A := by
  have e : (fun j => if j < 0 then wake A [z] (aB A j) else aB A j) = aB A := funext fun j => if_neg (Nat.not_lt_zero _)
  unfold wk
  rw [e]
  rfl
def sAn (o k : Nat) : Bool := decide (o = 75 ∨ (o = 30 ∧ k = 35) ∨ o = 76 ∨ o = 77)
theorem sAn_f {o k : Nat} (h : ¬ (o = 75 ∨ (o = 30 ∧ k = 35) ∨ o = 76 ∨ o = 77)) : sAn o k = false := decide_eq_false h
theorem pm1 (i : Nat) : nI i + (-1) + 1 = nI i := by
  rw [Int32.add_assoc]
  exact Int32.add_zero _
end MAN
