/-! the model: going on, throwing away -/
theorem zS_comm (A : Sx) {i j : Nat} (m n : Nat) (h : i ≠ j) : zS (zS A i m) j n = zS (zS A j n) i m := by
  refine Prod.ext (funext fun k => ?_) rfl
  show up1 (up1 A.1 i m) j n k = up1 (up1 A.1 j n) i m k
  simp only [up1_if]
  split
  · rename_i e
    rw [if_neg (by omega)]
  · rfl
theorem zS_self (A : Sx) {i n : Nat} (h : aS A i = n) : zS A i n = A := by
  refine Prod.ext (funext fun k => ?_) rfl
  show up1 A.1 i n k = A.1 k
  rw [up1_if]
  split
  · rename_i e
    rw [e]
    exact h.symm
  · rfl
theorem zS_zS (A : Sx) (i m n : Nat) : zS (zS A i m) i n = zS A i n := by
  refine Prod.ext (funext fun k => ?_) rfl
  show up1 (up1 A.1 i m) i n k = up1 A.1 i n k
  simp only [up1_if]
  split <;> rfl
theorem throw1_zS (A : Sx) {i : Nat} (n : Nat) (h7 : i ≠ 7) (h9 : i ≠ 9) (h21 : i ≠ 21) : throw1 (zS A i n) = zS (throw1 A) i n := by
  have e9 : aS (zS A i n) 9 = aS A 9 := zS_ne _ _ (Ne.symm h9)
  have e21 : aS (zS A i n) 21 = aS A 21 := zS_ne _ _ (Ne.symm h21)
  have e7 : aS (zS A i n) 7 = aS A 7 := zS_ne _ _ (Ne.symm h7)
  unfold throw1 takeB
  dsimp only
  rw [e9, e21, e7]
  have hB : aB (zS A i n) = aB A := rfl
  rw [hB]
  have hc : ∀ x : Ent, eC (zS A i n) x = eC A x ∧ eD (zS A i n) x = eD A x := fun x => ⟨rfl, rfl⟩
  rw [(hc _).1, (hc _).2]
  split
  · rw [zS_comm _ _ _ h21.symm.symm |>.symm, zS_comm _ _ _ (Ne.symm h9), zS_comm _ _ _ (Ne.symm h7)]
    rfl
  · rw [← zS_comm _ _ _ h21, ← zS_comm _ _ _ h9]
theorem throwN_zS {i : Nat} (n : Nat) (h7 : i ≠ 7) (h9 : i ≠ 9) (h21 : i ≠ 21) : ∀ (m : Nat) (A : Sx), throwN (zS A i n) m = zS (throwN A m) i n
  | 0, _ => rfl
  | m + 1, A => by
    show throwN (throw1 (zS A i n)) m = zS (throwN (throw1 A) m) i n
    rw [throw1_zS A n h7 h9 h21]
    exact throwN_zS n h7 h9 h21 m _
theorem throw1_zT (A : Sx) (t : List Nat) : throw1 (zT A t) = zT (throw1 A) t := by
  unfold throw1 takeB
  dsimp only
  have hc : ∀ x : Ent, eC (zT A t) x = eC A x ∧ eD (zT A t) x = eD A x := fun x => ⟨rfl, rfl⟩
  have hB : aB (zT A t) = aB A := rfl
  have hS : aS (zT A t) = aS A := rfl
  rw [hB, hS, (hc _).1, (hc _).2]
  split <;> rfl
theorem throwN_zT (t : List Nat) : ∀ (m : Nat) (A : Sx), throwN (zT A t) m = zT (throwN A m) t
  | 0, _ => rfl
  | m + 1, A => by
    show throwN (throw1 (zT A t)) m = zT (throwN (throw1 A) m) t
    rw [throw1_zT]
    exact throwN_zT t m _
section MTHR
variable {b : Nat} {A : Sx} {ρ : Nat → Nat} {μ : Mm}
/-- what throwing away changes in memory -/
def sThr (o k : Nat) : Bool := o == 40 || o == 44 || (o == 30 && (k == 21 || k == 23 || k == 50))
end MTHR
