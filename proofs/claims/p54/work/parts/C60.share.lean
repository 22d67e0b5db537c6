/-! both: the share -/
section SHR
variable {b z : Nat} {m : Nat → Nat} {A A' : Sx} {ρ : Nat → Nat} {G : Nat → Nat → Nat} {ar : Nat → Nat} {s : Nat} {μ μ' : Mm} {x y : Int32}
theorem nan32 {x : UInt32} (h : FP.Core.val32 x ≠ FP.Core.Datum.nan) : nanF x := by
  have e1 : FP.Core.b32.tails = 8388608 := by decide
  have e2 : FP.Core.b32.exps = 256 := by decide
  unfold FP.Core.val32 FP.Core.decode FP.Core.fieldE FP.Core.fieldT at h
  rw [e1, e2] at h
  show x &&& 0x7fffffff ≤ 0x7f800000
  rw [UInt32.le_iff_toNat_le, UInt32.toNat_and, show (0x7fffffff : UInt32).toNat = 2 ^ 31 - 1 by decide, show (0x7f800000 : UInt32).toNat = 2139095040 by decide, Nat.and_two_pow_sub_one_eq_mod]
  obtain ⟨n, hn⟩ : ∃ n, n = x.toNat := ⟨_, rfl⟩
  rw [← hn] at h ⊢
  rcases Nat.lt_or_ge 2139095040 (n % 2 ^ 31) with q | q
  · exfalso
    rw [if_pos (by omega), if_neg (by omega)] at h
    exact h rfl
  · exact q
theorem nan64 {x : UInt64} (h : FP.Core.val64 x ≠ FP.Core.Datum.nan) : vf_n64 x := by
  have e1 : FP.Core.b64.tails = 4503599627370496 := by decide
  have e2 : FP.Core.b64.exps = 2048 := by decide
  unfold FP.Core.val64 FP.Core.decode FP.Core.fieldE FP.Core.fieldT at h
  rw [e1, e2] at h
  show x &&& 0x7fffffffffffffff ≤ 0x7ff0000000000000
  rw [UInt64.le_iff_toNat_le, UInt64.toNat_and, show (0x7fffffffffffffff : UInt64).toNat = 2 ^ 63 - 1 by decide, show (0x7ff0000000000000 : UInt64).toNat = 9218868437227405312 by decide, Nat.and_two_pow_sub_one_eq_mod]
  obtain ⟨n, hn⟩ : ∃ n, n = x.toNat := ⟨_, rfl⟩
  rw [← hn] at h ⊢
  rcases Nat.lt_or_ge 9218868437227405312 (n % 2 ^ 63) with q | q
  · exfalso
    rw [if_pos (by omega), if_neg (by omega)] at h
    exact h rfl
  · exact q
theorem rr_nan (f : FP.Core.Fmt) (s : Bool) (n d : Nat) (e : Int) : FP.Core.roundRatio f s n d e ≠ FP.Core.Datum.nan := by
  unfold FP.Core.roundRatio
  split
  · exact fun t => by cases t
  · unfold FP.Core.roundAt FP.Core.settle
    split
    · unfold FP.Core.bound
      split <;> exact fun t => by cases t
    · unfold FP.Core.bound
      split <;> exact fun t => by cases t
/-- what the share is -/
def shV (A : Sx) : UInt32 := FP.fdiv (FP.i2f (nI (aS A 14))) (FP.i2f (nI (aS A 0)))
theorem sh_val (h0 : 0 < aS A 0) (h5 : aS A 0 ≤ 500) (h14 : aS A 14 ≤ 2004) : FP.Core.val32 (shV A) ≠ FP.Core.Datum.nan := by
  have fa : FP.Core.FInt (nI (aS A 14)).toInt (FP.Core.i2f (nI (aS A 14))) := FP.Core.i2f_int (by rw [nI_toInt (by omega)]; show aS A 14 ≤ 2 ^ 24; omega)
  have fc : FP.Core.FInt (nI (aS A 0)).toInt (FP.Core.i2f (nI (aS A 0))) := FP.Core.i2f_int (by rw [nI_toInt (by omega)]; show aS A 0 ≤ 2 ^ 24; omega)
  unfold FP.Core.FInt at fa fc
  have e : FP.Core.val32 (shV A) = FP.Core.quotient FP.Core.b32 (FP.Core.val32 (FP.Core.i2f (nI (aS A 14)))) (FP.Core.val32 (FP.Core.i2f (nI (aS A 0)))) := FP.Core.val32_fdiv _ _
  rw [e]
  rw [nI_toInt (by omega)] at fa fc
  cases va : FP.Core.val32 (FP.Core.i2f (nI (aS A 14))) with
  | nan => rw [va] at fa; exact fa.elim
  | inf s => rw [va] at fa; exact fa.elim
  | fin s1 c1 q1 =>
    cases vc : FP.Core.val32 (FP.Core.i2f (nI (aS A 0))) with
    | nan => rw [vc] at fc; exact fc.elim
    | inf s => rw [vc] at fc; exact fc.elim
    | fin s2 c2 q2 =>
      rw [vc] at fc
      have hc : c2 ≠ 0 := fun t => by
        have h1 : FP.Core.signed s2 (c2 * 2 ^ q2.toNat) = (aS A 0 : Int) * ((2 ^ (-q2).toNat : Nat) : Int) := fc
        rw [t, Nat.zero_mul] at h1
        have h2 : FP.Core.signed s2 0 = 0 := by cases s2 <;> rfl
        rw [h2] at h1
        have h3 : (0 : Int) < (aS A 0 : Int) * ((2 ^ (-q2).toNat : Nat) : Int) := Int.mul_pos (by omega) (by exact_mod_cast Nat.two_pow_pos _)
        omega
      show (if c2 = 0 then _ else FP.Core.roundRatio FP.Core.b32 _ c1 c2 _) ≠ _
      rw [if_neg hc]
      exact rr_nan _ _ _ _ _
theorem sh_nan (h0 : 0 < aS A 0) (h5 : aS A 0 ≤ 500) (h14 : aS A 14 ≤ 2004) : nanF (shV A) := nan32 (sh_val h0 h5 h14)
theorem f2d_nan {f : UInt32} (h : FP.Core.val32 f ≠ FP.Core.Datum.nan) : FP.Core.val64 (FP.f2d f) ≠ FP.Core.Datum.nan := by
  have e : FP.f2d f = FP.Core.f2d f := by
    unfold FP.f2d
    rw [if_neg (fun t => h ((FP.Core.fIsNaN_iff f).mp t))]
  rw [e, FP.Core.val64_f2d]
  cases hv : FP.Core.val32 f with
  | nan => exact absurd hv h
  | inf s => exact fun t => by cases t
  | fin s c q => exact rr_nan _ _ _ _ _
theorem c_share (h : FR b z A μ) (h5 : aS A 0 ≤ 500) (h14 : aS A 14 ≤ 2004) : (aS A 0 ≠ 0 → f_X10_share b μ = some (.inl (shV A), μ)) ∧ (aS A 0 = 0 → f_X10_share b μ = some (.inr "java/util/NoSuchElementException", bump μ 6)) := by
  have k0 := h.1
  unfold SC at k0
  have i12 : mI μ (b + 1) 12 = nI (aS A 0) := h.2.1.1 0 rfl
  have sz := c_size h.k100.2.2.2 h.sz.2.2.2
  refine ⟨fun a0 => ?_, fun a0 => ?_⟩
  · have c0 : ¬ nI (aS A 0) = 0 := nI_ne0 (by omega) (by omega)
    have nn : nanF (FP.fdiv (FP.i2f (nI (aS A 14))) (FP.i2f (nI (aS A 0)))) := sh_nan (by omega) h5 h14
    simp only [f_X10_share, k0, ckT, bdS, i12, c0, not_false_eq_true, if_true, sz, ck_t not_true, nn, if_false]
    rfl
  · have c0 : ¬ ¬ nI (aS A 0) = 0 := fun t => t (by rw [a0]; rfl)
    simp only [f_X10_share, k0, ckT, bdS, i12, c0, if_false]
end SHR
