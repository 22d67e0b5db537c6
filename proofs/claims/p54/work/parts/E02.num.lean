/-! numbers of the law -/
theorem bm32 {n : Int} (h1 : -2147483648 ≤ n) (h2 : n < 2147483648) : n.bmod (2 ^ 32) = n := Int.bmod_eq_of_le (by omega) (by omega)
theorem i0le {x : Int32} : 0 ≤ x ↔ 0 ≤ x.toInt := by rw [Int32.le_iff_toInt_le, Int32.toInt_zero]
theorem i32_remE (x y : Int32) : (x - (x / y) * y).toInt = x.toInt.tmod y.toInt := by
  have a := (x % y).toInt_lt
  have b := (x % y).le_toInt
  rw [Int32.toInt_mod] at a b
  rw [Int32.toInt_sub, Int32.toInt_mul, Int32.toInt_div, Int.bmod_mul_bmod, Int.sub_bmod_bmod, Int.mul_comm, ← Int.tmod_def]
  exact bm32 (by omega) (by omega)
theorem nI_div {a b : Nat} {y : Int32} (hy : y = nI b) (ha : a < 2 ^ 31) (hb : b < 2 ^ 31) : nI a / y = nI (a / b) := by
  have hq : a / b ≤ a := Nat.div_le_self _ _
  apply Int32.toInt_inj.mp
  rw [hy, Int32.toInt_div, nI_toInt ha, nI_toInt hb, nI_toInt (by omega), ← Int.ofNat_tdiv a b]
  generalize a / b = q at hq
  exact bm32 (by omega) (by omega)
theorem nI_mod {a b : Nat} {y : Int32} (hy : y = nI b) (ha : a < 2 ^ 31) (hb : b < 2 ^ 31) : nI a - nI a / y * y = nI (a % b) := by
  have hq : a % b ≤ a := Nat.mod_le _ _
  apply Int32.toInt_inj.mp
  rw [i32_remE, hy, nI_toInt ha, nI_toInt hb, nI_toInt (by omega)]
  exact (Int.ofNat_tmod a b).symm
theorem nI_addL {a b : Nat} {y : Int32} (hy : y = nI b) : nI a + y = nI (a + b) := by rw [hy, nI_add]
theorem nI_addR {a b : Nat} {y : Int32} (hy : y = nI b) : y + nI a = nI (b + a) := by rw [hy, nI_add]
theorem nI_sub {a b : Nat} {y : Int32} (hy : y = nI b) (h : b ≤ a) : nI a - y = nI (a - b) := by
  have e : nI a = nI (a - b) + nI b := by rw [nI_add, Nat.sub_add_cancel h]
  rw [e, hy]
  exact Int32.add_sub_cancel _ _
/-- what some answers -/
theorem some_e (x : Int32) {n : Nat} {y : Int32} (hy : y = nI n) (h0 : 0 < n) (hn : n < 2 ^ 30) : ∃ v, v < n ∧ f_L_some x y = some (nI v) := by
  have hy0 : ¬ y = 0 := by rw [hy]; exact nI_ne0 h0 (by omega)
  have hr := i32_remE x y
  have e0 : (0 : Int) < (n : Int) := by omega
  rw [hy, nI_toInt (by omega)] at hr
  rw [← hy] at hr
  have b1 : x.toInt.tmod n < n := Int.tmod_lt_of_pos _ e0
  have b2 : -(n : Int) < x.toInt.tmod n := by
    have h1 := Int.tmod_lt_of_pos (-x.toInt) e0
    rw [Int.neg_tmod] at h1
    omega
  obtain ⟨r, hr9⟩ : ∃ r, r = x - x / y * y := ⟨_, rfl⟩
  rw [← hr9] at hr
  unfold f_L_some
  rw [ck_t hy0, ← hr9]
  by_cases hc : 0 ≤ r
  · rw [if_pos hc]
    have h9 : 0 ≤ r.toInt := i0le.mp hc
    refine ⟨r.toInt.toNat, by omega, ?_⟩
    congr 1
    apply Int32.toInt_inj.mp
    rw [nI_toInt (by omega)]
    omega
  · rw [if_neg hc]
    have h9 : ¬ 0 ≤ r.toInt := fun q => hc (i0le.mpr q)
    refine ⟨(r.toInt + n).toNat, by omega, ?_⟩
    congr 1
    apply Int32.toInt_inj.mp
    rw [nI_toInt (by omega), Int32.toInt_add, hy, nI_toInt (by omega), bm32 (by omega) (by omega)]
    omega
/-! what drawn gives -/
def TD (μ0 : Mm) (o : Option (Nat × Mm)) : Prop := ∃ a μ' x0 x1 x2 x3 x4, o = some (a, μ') ∧ NF μ0 μ' ∧ mN μ' = mN μ0 + 2 ∧ mS μ' = mS μ0 + 29 ∧ IV5 μ' a x0 x1 x2 x3 x4 ∧ okC x0 x1 x2 x3 x4 = true
def DR (μ0 μ : Mm) : Prop := mK μ (mN μ0) = 31 ∧ mL μ (mN μ0) = 24 ∧ mN μ = mN μ0 + 1 ∧ mS μ = mS μ0 + 24 ∧ NF μ0 μ ∧ ∀ j, ∃ c, c ≤ 21 ∧ mI μ (mN μ0) j = nI c
section DRW
variable {μ0 μ : Mm}
theorem TD.ck {c : Prop} [Decidable c] {x : Option (Nat × Mm)} (hc : c) (h : TD μ0 x) : TD μ0 (ck c x) := by rw [ck_t hc]; exact h
theorem TD.zl {α : Type} {e : α} {k : α → Option (Nat × Mm)} (h : TD μ0 (k e)) : TD μ0 (zl e k) := h
theorem DR.init : DR μ0 (nw μ0 31 (Int32.toNatClampNeg 24) (Int32.toNatClampNeg 24)) := by
  have e : Int32.toNatClampNeg 24 = 24 := by decide
  rw [e]
  refine ⟨nw_K _ _ _ _, nw_L _ _ _ _, rfl, rfl, NF.new, fun j => ⟨0, by decide, ?_⟩⟩
  rw [nw_I]
  rfl
theorem DR.put {k : Nat} {v : Int32} (h : DR μ0 μ) (hv : ∃ c, c ≤ 21 ∧ v = nI c) : DR μ0 (sI μ (mN μ0) k v) := by
  obtain ⟨h1, h2, h3, h4, h5, h6⟩ := h
  refine ⟨h1, h2, h3, h4, h5.putI (N := 0) (Nat.le_refl _), fun j => ?_⟩
  rw [mI_i]
  split
  · exact hv
  · exact h6 j
theorem DR.st {i : Int32} {v : Int32} {K : Mm → Option (Nat × Mm)} {j c : Nat} (h : DR μ0 μ) (hi : i = nI j) (hj : j < 24) (hc : c ≤ 21) (hv : v = nI c) (k : ∀ μ', DR μ0 μ' → TD μ0 (K μ')) : TD μ0 (ck (inb i (mL μ (mN μ0))) (zl (sI μ (mN μ0) (Int32.toNatClampNeg i) v) K)) := by
  refine TD.ck ?_ (TD.zl (k _ (h.put ⟨c, hc, hv⟩)))
  rw [h.2.1, hi]
  exact inbN hj (by omega)
theorem adok_near (y : Int32) : ∃ r v, f_J9_min_7cf53 63 y = some r ∧ f_J9_max_7cf53 0 r = some v ∧ adok v = true := by
  unfold f_J9_min_7cf53
  have b0 : adok 0 = true := by decide
  have b63 : adok 63 = true := by decide
  split
  · rename_i h
    refine ⟨y, ?_⟩
    unfold f_J9_max_7cf53
    split
    · rename_i h2
      refine ⟨y, rfl, rfl, ?_⟩
      unfold adok
      simp only [Bool.and_eq_true, decide_eq_true_eq]
      rw [Int32.lt_iff_toInt_lt] at h h2
      rw [Int32.le_iff_toInt_le, Int32.lt_iff_toInt_lt]
      rw [show (63 : Int32).toInt = 63 by decide] at h
      rw [show (64 : Int32).toInt = 64 by decide]
      omega
    · exact ⟨0, rfl, rfl, b0⟩
  · refine ⟨63, ?_⟩
    unfold f_J9_max_7cf53
    split
    · exact ⟨63, rfl, rfl, b63⟩
    · exact ⟨0, rfl, rfl, b0⟩
theorem okC_of {c i j k : Nat} {x : Int32} (hc : c ≤ 21) (hi : i < 4) (hj : j < 4) (hk : k < 4) (hx : 12 ≤ c → c ≤ 15 → adok x = true) : okC (nI c) (nI i) (nI j) (nI k) x = true := by
  have r4 : ∀ i, i < 4 → rok (nI i) = true := by decide
  have c1 : ∀ c, c ≤ 21 → (!decide (nI c < 0) && decide (nI c ≤ 21)) = true := by decide
  have c2 : ∀ c, c ≤ 21 → (12 ≤ c ∧ c ≤ 15) ∨ (!(!decide (nI c < 12) && decide (nI c ≤ 15))) = true := by decide
  unfold okC
  rw [c1 c hc, r4 i hi, r4 j hj, r4 k hk]
  rcases c2 c hc with ⟨q1, q2⟩ | q
  · rw [hx q1 q2]
    simp
  · rw [q]
    rfl
theorem td_246 {u c : Nat} {x : Int32} (h : DR μ0 μ) (hu : u < 2 ^ 31) (hc : c ≤ 21) (hx : 12 ≤ c → c ≤ 15 → adok x = true) : TD μ0 (f_L_drawn_b246 (nI u) (nI c) x μ) := by
  obtain ⟨h1, h2, h3, h4, h5, h6⟩ := h
  have e5 : Int32.toNatClampNeg 5 = 5 := by decide
  have n0 : Int32.toNatClampNeg 0 = 0 := by decide
  have n1 : Int32.toNatClampNeg 1 = 1 := by decide
  have n2 : Int32.toNatClampNeg 2 = 2 := by decide
  have n3 : Int32.toNatClampNeg 3 = 3 := by decide
  have n4 : Int32.toNatClampNeg 4 = 4 := by decide
  have m4 : nI u - nI u / 4 * 4 = nI (u % 4) := nI_mod (by decide) hu (by decide)
  have d4 : nI u / 4 = nI (u / 4) := nI_div (by decide) hu (by decide)
  have d16 : nI u / 16 = nI (u / 16) := nI_div (by decide) hu (by decide)
  have l4 : u / 4 ≤ u := Nat.div_le_self _ _
  have l16 : u / 16 ≤ u := Nat.div_le_self _ _
  have m44 : nI (u / 4) - nI (u / 4) / 4 * 4 = nI (u / 4 % 4) := nI_mod (by decide) (by omega) (by decide)
  have m164 : nI (u / 16) - nI (u / 16) / 4 * 4 = nI (u / 16 % 4) := nI_mod (by decide) (by omega) (by decide)
  have g : NF μ (nw μ 31 5 5) := NF.new
  have hL : mL (nw μ 31 5 5) (mN μ) = 5 := nw_L _ _ _ _
  have hK : mK (nw μ 31 5 5) (mN μ) = 31 := nw_K _ _ _ _
  obtain ⟨μ1, hm1⟩ : ∃ μ1, μ1 = nw μ 31 5 5 := ⟨_, rfl⟩
  have gN : mN μ1 = mN μ + 1 := by rw [hm1]; rfl
  have gS : mS μ1 = mS μ + 5 := by rw [hm1]; rfl
  unfold f_L_drawn_b246
  rw [d4] at m4
  simp only [m4, d4, d16, m44, m164, n0, n1, n2, n3, n4, e5]
  rw [← hm1] at g hL hK
  refine TD.ck (by decide) (TD.zl (TD.zl ?_))
  rw [← hm1]
  refine TD.ck (by rw [hL]; exact inbN (p := 0) (by decide) (by decide)) (TD.zl (TD.ck (by decide) ?_))
  refine TD.ck (by rw [mL_sI, hL]; exact inbN (p := 1) (by decide) (by decide)) (TD.zl (TD.ck (by decide) (TD.ck (by decide) ?_)))
  refine TD.ck (by rw [mL_sI, mL_sI, hL]; exact inbN (p := 2) (by decide) (by decide)) (TD.zl (TD.ck (by decide) (TD.ck (by decide) ?_)))
  refine TD.ck (by rw [mL_sI, mL_sI, mL_sI, hL]; exact inbN (p := 3) (by decide) (by decide)) (TD.zl ?_)
  refine TD.ck (by rw [mL_sI, mL_sI, mL_sI, mL_sI, hL]; exact inbN (p := 4) (by decide) (by decide)) (TD.zl ?_)
  refine ⟨_, _, nI c, nI (u % 4), nI (u / 4 % 4), nI (u / 16 % 4), x, rfl, h5.trans (((((g.putI (N := 0) (Nat.le_refl _)).putI (N := 0) (Nat.le_refl _)).putI (N := 0) (Nat.le_refl _)).putI (N := 0) (Nat.le_refl _)).putI (N := 0) (Nat.le_refl _)), ?_, ?_, ⟨hK, hL, ?_, ?_, ?_, ?_, ?_⟩, okC_of hc (Nat.mod_lt _ (by decide)) (Nat.mod_lt _ (by decide)) (Nat.mod_lt _ (by decide)) hx⟩
  · show mN μ1 = _
    omega
  · show mS μ1 = _
    omega
  · rw [mI_ne _ _ (Or.inr (by decide)), mI_ne _ _ (Or.inr (by decide)), mI_ne _ _ (Or.inr (by decide)), mI_ne _ _ (Or.inr (by decide)), mI_at]
  · rw [mI_ne _ _ (Or.inr (by decide)), mI_ne _ _ (Or.inr (by decide)), mI_ne _ _ (Or.inr (by decide)), mI_at]
  · rw [mI_ne _ _ (Or.inr (by decide)), mI_ne _ _ (Or.inr (by decide)), mI_at]
  · rw [mI_ne _ _ (Or.inr (by decide)), mI_at]
  · rw [mI_at]
theorem td_215 {u c : Nat} {x y z : Int32} (h : DR μ0 μ) (hu : u < 2 ^ 31) (hc : c ≤ 21) : TD μ0 (f_L_drawn_b215 (nI u) (nI c) x y z 63 μ) := by
  obtain ⟨r, v, e1, e2, e3⟩ := adok_near (z - y)
  have c11 : ∀ c, c ≤ 21 → (nI c ≤ 11 ↔ c ≤ 11) := by decide
  have c16 : ∀ c, c ≤ 21 → (16 ≤ nI c ↔ 16 ≤ c) := by decide
  unfold f_L_drawn_b215
  rw [bd_t e1]
  split
  · rename_i q
    exact td_246 h hu hc fun q1 q2 => by
      have := (c11 c hc).mp q
      omega
  · split
    · rename_i q
      exact td_246 h hu hc fun q1 q2 => by
        have := (c16 c hc).mp q
        omega
    · rw [bd_t e2]
      exact td_246 h hu hc fun _ _ => e3
theorem td_169 {u c : Nat} {x : Int32} (h : DR μ0 μ) (hu : u < 2 ^ 31) (hc : c ≤ 21) : TD μ0 (f_L_drawn_b169 x (nI u) (nI c) μ) := by
  have key : ∀ s : Int32, TD μ0 (f_L_drawn_b192 x (nI u) (nI c) s μ) := fun s => by
    unfold f_L_drawn_b192
    refine TD.ck (by decide) (TD.ck (by decide) (TD.ck (by decide) ?_))
    split
    · exact td_215 h hu hc
    · exact td_215 h hu hc
  unfold f_L_drawn_b169
  refine TD.ck (by decide) ?_
  split
  · exact TD.ck (by decide) (TD.ck (by decide) (key _))
  · exact TD.ck (by decide) (TD.ck (by decide) (key _))
theorem td_142 {w u : Nat} {x : Int32} (h : DR μ0 μ) (hw : w < 2 ^ 31) (hu : u < 2 ^ 31) : TD μ0 (f_L_drawn_b142 (nI w) x (nI u) (mN μ0) μ) := by
  have m24 : nI w - nI w / 24 * 24 = nI (w % 24) := nI_mod (by decide) hw (by decide)
  have l24 : w % 24 < 24 := Nat.mod_lt _ (by decide)
  have hb : inb (nI (w % 24)) (mL μ (mN μ0)) := by rw [h.2.1]; exact inbN l24 (by omega)
  have hk : isA 1 (mK μ (mN μ0)) := by rw [h.1]; decide
  have k163 : TD μ0 (f_L_drawn_b163 (nI w) x (nI u) (mN μ0) μ) := by
    unfold f_L_drawn_b163
    rw [m24]
    refine TD.ck (by decide) (TD.ck hk (TD.ck hb ?_))
    obtain ⟨c, hc, e⟩ := h.2.2.2.2.2 (Int32.toNatClampNeg (nI (w % 24)))
    rw [e]
    exact td_169 h hu hc
  unfold f_L_drawn_b142
  rw [m24]
  refine TD.ck (by decide) (TD.ck hk (TD.ck hb ?_))
  split
  · exact k163
  · refine TD.ck (by decide) ?_
    split
    · exact k163
    · exact td_169 (c := 2) h hu (by decide)
theorem td_drawn {w : Nat} {x : Int32} (hw : w < 2 ^ 31) : TD μ0 (f_L_drawn (nI w) x μ0) := by
  have hq : w / 24 ≤ w := Nat.div_le_self _ _
  unfold f_L_drawn
  refine TD.ck (by decide) (TD.ck (by decide) (TD.zl (TD.zl ?_)))
  have d0 : DR μ0 (nw μ0 31 (Int32.toNatClampNeg 24) (Int32.toNatClampNeg 24)) := DR.init
  refine d0.st (j := 0) (c := 1) (by decide) (by decide) (by decide) (by decide) fun μ1 d1 => ?_
  refine d1.st (j := 1) (c := 1) (by decide) (by decide) (by decide) (by decide) fun μ2 d2 => ?_
  refine d2.st (j := 2) (c := 2) (by decide) (by decide) (by decide) (by decide) fun μ3 d3 => ?_
  refine d3.st (j := 3) (c := 3) (by decide) (by decide) (by decide) (by decide) fun μ4 d4 => ?_
  refine d4.st (j := 4) (c := 4) (by decide) (by decide) (by decide) (by decide) fun μ5 d5 => ?_
  refine d5.st (j := 5) (c := 5) (by decide) (by decide) (by decide) (by decide) fun μ6 d6 => ?_
  refine d6.st (j := 6) (c := 6) (by decide) (by decide) (by decide) (by decide) fun μ7 d7 => ?_
  refine d7.st (j := 7) (c := 7) (by decide) (by decide) (by decide) (by decide) fun μ8 d8 => ?_
  refine d8.st (j := 8) (c := 8) (by decide) (by decide) (by decide) (by decide) fun μ9 d9 => ?_
  refine d9.st (j := 9) (c := 9) (by decide) (by decide) (by decide) (by decide) fun μ10 d10 => ?_
  refine d10.st (j := 10) (c := 9) (by decide) (by decide) (by decide) (by decide) fun μ11 d11 => ?_
  refine d11.st (j := 11) (c := 10) (by decide) (by decide) (by decide) (by decide) fun μ12 d12 => ?_
  refine d12.st (j := 12) (c := 10) (by decide) (by decide) (by decide) (by decide) fun μ13 d13 => ?_
  refine d13.st (j := 13) (c := 11) (by decide) (by decide) (by decide) (by decide) fun μ14 d14 => ?_
  refine d14.st (j := 14) (c := 12) (by decide) (by decide) (by decide) (by decide) fun μ15 d15 => ?_
  refine d15.st (j := 15) (c := 13) (by decide) (by decide) (by decide) (by decide) fun μ16 d16 => ?_
  refine d16.st (j := 16) (c := 14) (by decide) (by decide) (by decide) (by decide) fun μ17 d17 => ?_
  refine d17.st (j := 17) (c := 15) (by decide) (by decide) (by decide) (by decide) fun μ18 d18 => ?_
  refine d18.st (j := 18) (c := 16) (by decide) (by decide) (by decide) (by decide) fun μ19 d19 => ?_
  refine d19.st (j := 19) (c := 17) (by decide) (by decide) (by decide) (by decide) fun μ20 d20 => ?_
  refine d20.st (j := 20) (c := 18) (by decide) (by decide) (by decide) (by decide) fun μ21 d21 => ?_
  refine d21.st (j := 21) (c := 19) (by decide) (by decide) (by decide) (by decide) fun μ22 d22 => ?_
  refine d22.st (j := 22) (c := 20) (by decide) (by decide) (by decide) (by decide) fun μ23 d23 => ?_
  refine d23.st (j := 23) (c := 21) (by decide) (by decide) (by decide) (by decide) fun μ24 d24 => ?_
  rw [nI_div (b := 24) (by decide) hw (by decide)]
  exact td_142 d24 hw (by omega)
end DRW
