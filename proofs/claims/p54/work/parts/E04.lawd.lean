/-! the share isn't -1; what is known at each turn of the law -/
theorem rr_sign (f : FP.Core.Fmt) (s : Bool) (n d : Nat) (e : Int) : FP.Core.roundRatio f s n d e = .inf s ∨ ∃ c q, FP.Core.roundRatio f s n d e = .fin s c q ∧ (n = 0 → c = 0) := by
  unfold FP.Core.roundRatio
  split
  · exact Or.inr ⟨0, _, rfl, fun _ => rfl⟩
  · rename_i h0
    unfold FP.Core.roundAt FP.Core.settle
    split
    · unfold FP.Core.bound
      split
      · exact Or.inr ⟨_, _, rfl, fun t => absurd t h0⟩
      · exact Or.inl rfl
    · unfold FP.Core.bound
      split
      · exact Or.inr ⟨_, _, rfl, fun t => absurd t h0⟩
      · exact Or.inl rfl
theorem cmp_ne {x y : Int} (hx : 0 ≤ x) (hy : y < 0) : compare x y ≠ .eq := by
  intro h
  have e : compare x y = if x < y then Ordering.lt else if x = y then Ordering.eq else Ordering.gt := rfl
  rw [e, if_neg (by omega), if_neg (by omega)] at h
  cases h
theorem ord_ne {s : Bool} {c : Nat} {q : Int} (h : s = false ∨ c = 0) : FP.Core.order (.fin s c q) (.fin true 8388608 (-23)) ≠ some .eq := by
  show some (compare (FP.Core.signed s (FP.Core.inUnits c q (min q (-23)))) (FP.Core.signed true (FP.Core.inUnits 8388608 (-23) (min q (-23))))) ≠ some .eq
  have h1 : (0 : Int) ≤ FP.Core.signed s (FP.Core.inUnits c q (min q (-23))) := by
    rcases h with rfl | rfl
    · show (0 : Int) ≤ ((FP.Core.inUnits c q (min q (-23)) : Nat) : Int)
      omega
    · have e : FP.Core.inUnits 0 q (min q (-23)) = 0 := Nat.zero_mul _
      rw [e]
      cases s <;> decide
  have h2 : FP.Core.signed true (FP.Core.inUnits 8388608 (-23) (min q (-23))) < 0 := by
    have p : 0 < FP.Core.inUnits 8388608 (-23) (min q (-23)) := Nat.mul_pos (by decide) (Nat.two_pow_pos _)
    show -((FP.Core.inUnits 8388608 (-23) (min q (-23)) : Nat) : Int) < 0
    omega
  intro t
  exact cmp_ne h1 h2 (Option.some.inj t)
theorem sh_ne {A : Sx} (h0 : 0 < aS A 0) (h5 : aS A 0 ≤ 500) (h14 : aS A 14 ≤ 2004) : FP.fcmp (shV A) 3212836864 ≠ some .eq := by
  have fa : FP.Core.FInt (nI (aS A 14)).toInt (FP.Core.i2f (nI (aS A 14))) := FP.Core.i2f_int (by rw [nI_toInt (by omega)]; show aS A 14 ≤ 2 ^ 24; omega)
  have fc : FP.Core.FInt (nI (aS A 0)).toInt (FP.Core.i2f (nI (aS A 0))) := FP.Core.i2f_int (by rw [nI_toInt (by omega)]; show aS A 0 ≤ 2 ^ 24; omega)
  unfold FP.Core.FInt at fa fc
  have e : FP.Core.val32 (shV A) = FP.Core.quotient FP.Core.b32 (FP.Core.val32 (FP.Core.i2f (nI (aS A 14)))) (FP.Core.val32 (FP.Core.i2f (nI (aS A 0)))) := FP.Core.val32_fdiv _ _
  have v1 : FP.Core.val32 3212836864 = .fin true 8388608 (-23) := by decide +kernel
  show FP.Core.order (FP.Core.val32 (shV A)) (FP.Core.val32 3212836864) ≠ some .eq
  rw [e, v1]
  rw [nI_toInt (by omega)] at fa fc
  cases va : FP.Core.val32 (FP.Core.i2f (nI (aS A 14))) with
  | nan => rw [va] at fa; exact fa.elim
  | inf s => rw [va] at fa; exact fa.elim
  | fin s1 c1 q1 =>
    cases vc : FP.Core.val32 (FP.Core.i2f (nI (aS A 0))) with
    | nan => rw [vc] at fc; exact fc.elim
    | inf s => rw [vc] at fc; exact fc.elim
    | fin s2 c2 q2 =>
      rw [vc] at fc
      rw [va] at fa
      have h1 : FP.Core.signed s2 (c2 * 2 ^ q2.toNat) = (aS A 0 : Int) * ((2 ^ (-q2).toNat : Nat) : Int) := fc
      have h3 : (0 : Int) < (aS A 0 : Int) * ((2 ^ (-q2).toNat : Nat) : Int) := Int.mul_pos (by omega) (by exact_mod_cast Nat.two_pow_pos _)
      have hc : c2 ≠ 0 := fun t => by
        rw [t, Nat.zero_mul] at h1
        have h2 : FP.Core.signed s2 0 = 0 := by cases s2 <;> rfl
        rw [h2] at h1
        omega
      have hs2 : s2 = false := by
        cases s2 with
        | false => rfl
        | true =>
          have h2 : -((c2 * 2 ^ q2.toNat : Nat) : Int) = (aS A 0 : Int) * ((2 ^ (-q2).toNat : Nat) : Int) := h1
          omega
      have hs1 : s1 = false ∨ c1 = 0 := by
        cases s1 with
        | false => exact Or.inl rfl
        | true =>
          have h2 : -((c1 * 2 ^ q1.toNat : Nat) : Int) = (aS A 14 : Int) * ((2 ^ (-q1).toNat : Nat) : Int) := fa
          have h4 : (0 : Int) ≤ (aS A 14 : Int) * ((2 ^ (-q1).toNat : Nat) : Int) := Int.mul_nonneg (by omega) (Int.natCast_nonneg _)
          have h6 : c1 * 2 ^ q1.toNat = 0 := by omega
          rcases Nat.mul_eq_zero.mp h6 with q | q
          · exact Or.inr q
          · exact absurd q (Nat.pos_iff_ne_zero.mp (Nat.two_pow_pos _))
      subst hs2
      show FP.Core.order (if c2 = 0 then _ else FP.Core.roundRatio FP.Core.b32 (s1 != false) c1 c2 (q1 - q2)) _ ≠ _
      rw [if_neg hc]
      have es : (s1 != false) = s1 := by cases s1 <;> rfl
      rw [es]
      rcases rr_sign FP.Core.b32 s1 c1 c2 (q1 - q2) with r | ⟨c, q, r, rc⟩
      · rw [r]
        cases s1 <;> decide
      · rw [r]
        exact ord_ne (hs1.imp id rc)
theorem cmpV_ne {o : Option Ordering} (h : o ≠ some .eq) : ¬ Op.cmpValue o .l = 0 := by
  cases o with
  | none => decide
  | some x =>
    cases x with
    | lt => decide
    | eq => exact absurd rfl h
    | gt => decide
theorem cmpV_self : Op.cmpValue (FP.fcmp 3212836864 3212836864) .l = 0 := by decide +kernel
theorem lg_cmp_self (x : Int64) : lg_cmp x x = 0 := by
  unfold lg_cmp
  have n9 : ¬ x > x := fun q => by rw [gt_iff_lt, Int64.lt_iff_toInt_lt] at q; omega
  rw [if_neg n9, if_pos rfl]
/-! the law -/
/-- what the start gives, the law's two texts with it -/
def Gok3 (l : Launch) (G : Gt) : Prop := Gok2 l G ∧ (vk_R "ReorderiumLaw" 235 "dbqih" (G.2.2.2 4) G.1 ∧ ∃ q2, TxG G tx5 5 (G.2.2.2 4) q2) ∧ (vk_R "ReorderiumLaw" 258 "kplq" (G.2.2.2 5) G.1 ∧ ∃ q2, TxG G tx4 4 (G.2.2.2 5) q2)
def mL_law : MD := (cL_law, RL, yL_law, 20, ret, 15, 580)
/-- ahead of the first cycle no register and no word is below 0 -/
def RV (A : Sx) : Prop := aS A 0 = 0 → (∀ r, r < 8 → 0 ≤ aV A 1 r) ∧ ∀ a, a < 64 → 0 ≤ aV A 2 a
/-- what the law's own numbers say of the state -/
def LA (pg : Nat) (be : Bool) (inn : Nat) (A : Sx) : Prop := aS A 15 = pg ∧ aS A 8 = inn ∧ (be = false → aS A 2 = 0) ∧ RV A
def L0 (b q0 k inn : Nat) (be : Bool) (steps pg : Nat) : List (Nat × Value) := [(6, .int (nI k)), (5, .int (nI inn)), (4, .int (bI be)), (3, .int (nI steps)), (2, .int (nI pg)), (1, .ref b), (0, .ref q0)]
def LT (its : Int32) (bf : Int64) (wa : Bool) (b q0 k inn : Nat) (be : Bool) (steps pg : Nat) : List (Nat × Value) := [(12, .int its), (10, .long bf), (9, .int (bI wa)), (6, .int (nI k)), (5, .int (nI inn)), (4, .int (bI be)), (3, .int (nI steps)), (2, .int (nI pg)), (1, .ref b), (0, .ref q0)]
def LMi (fi : Bool) (kind : Nat) (bf : Int64) (wa : Bool) (w b q0 k inn : Nat) (be : Bool) (steps pg : Nat) : List (Nat × Value) := [(14, .int (bI fi)), (13, .int (nI kind)), (12, .int 0), (10, .long bf), (9, .int (bI wa)), (8, .int (nI w)), (6, .int (nI k)), (5, .int (nI inn)), (4, .int (bI be)), (3, .int (nI steps)), (2, .int (nI pg)), (1, .ref b), (0, .ref q0)]
theorem bI_t : bI true = 1 := rfl
theorem bI_f : bI false = 0 := rfl
theorem m3_ne {x : Int32} (h : 0 ≤ x) : ¬ x = -2000000003 := fun e => by
  rw [e] at h
  exact absurd h (by decide)
theorem m2_lt {x : Int32} (h : 0 ≤ x) : ¬ x < -2000000000 := by
  rw [Int32.lt_iff_toInt_lt, show (-2000000000 : Int32).toInt = -2000000000 by decide]
  have := i0le.mp h
  omega
theorem exv_oc0 (v : Int32) : exv (oc 0 v) = v := rfl
theorem exv_oc1 (v : Int32) : exv (oc 1 v) = -2000000002 := exv_IAE
theorem exv_oc2 (v : Int32) : exv (oc 2 v) = -2000000003 := exv_ISE
theorem zVv_at (A : Sx) (r k : Nat) (v : Int32) : aV (zV A r k v) r k = v := (congrFun (up2_eq (aV A) r k v) k).trans (up1_eq _ _ _)
theorem zVv_nk (A : Sx) {r k j : Nat} (v : Int32) (h : j ≠ k) : aV (zV A r k v) r j = aV A r j := (congrFun (up2_eq (aV A) r k v) j).trans (up1_ne _ _ h)
theorem addP_V {A : Sx} {c d a b q : Nat} {v : Int32} (h : q ≠ 5) : aV (addP A c d a b v) q = aV A q := zV_ne (zN (zN (zN (zN A 10 (aS A 15) c) 11 (aS A 15) d) 12 (aS A 15) a) 13 (aS A 15) b) _ _ h
