/-! THE CLASS: lists -/
section CLS
variable {μ μ' : Mm}
/-- what an operation on the list l with the row e' leaves -/
def LF0 (l e' : Nat) (μ μ' : Mm) : Prop :=
  (∀ a, a < mN μ → mK μ' a = mK μ a ∧ mL μ' a = mL μ a ∧ mJ μ' a = mJ μ a) ∧ (∀ a, a < mN μ → a ≠ l → mI μ' a = mI μ a) ∧ (∀ k, k ≠ 0 → k ≠ 2 → mI μ' l k = mI μ l k) ∧ (∀ a, a < mN μ → a ≠ l → a ≠ e' → mR μ' a = mR μ a) ∧ (∀ k, k ≠ 1 → mR μ' l k = mR μ l k) ∧ (WF μ → WF μ') ∧ mN μ ≤ mN μ'
/-- .. and an empty row isn't written -/
def LF (l e' : Nat) (μ μ' : Mm) : Prop :=
  (∀ a, a < mN μ → mK μ' a = mK μ a ∧ mL μ' a = mL μ a ∧ mJ μ' a = mJ μ a ∧ (mL μ a = 0 → a ≠ l → mR μ' a = mR μ a)) ∧ (∀ a, a < mN μ → a ≠ l → mI μ' a = mI μ a) ∧ (∀ k, k ≠ 0 → k ≠ 2 → mI μ' l k = mI μ l k) ∧ (∀ a, a < mN μ → a ≠ l → a ≠ e' → mR μ' a = mR μ a) ∧ (∀ k, k ≠ 1 → mR μ' l k = mR μ l k) ∧ (WF μ → WF μ') ∧ mN μ ≤ mN μ'
theorem LF.of0 {l e' : Nat} {μ μ' : Mm} (h : LF0 l e' μ μ') (hx : e' < mN μ → mL μ e' = 0 → mR μ' e' = mR μ e') : LF l e' μ μ' := by
  refine ⟨fun a ha => ⟨(h.1 a ha).1, (h.1 a ha).2.1, (h.1 a ha).2.2, fun hl hne => ?_⟩, h.2⟩
  by_cases q : a = e'
  · rw [q] at ha hl ⊢
    exact hx ha hl
  · exact h.2.2.2.1 a ha hne q
theorem c_size {l n : Nat} (k : mK μ l = 100) (h : mI μ l 2 = nI n) : f_Jx4a65c_size_8abf5 l μ = some (nI n) := by
  simp only [f_Jx4a65c_size_8abf5, k, ckT, h]
theorem c_empty {l n : Nat} (k : mK μ l = 100) (h : mI μ l 2 = nI n) (hn : n < 5000) : f_Jx4a65c_isEmpty_aae02 l μ = some (bI (decide (n = 0))) := by
  by_cases e : n = 0
  · have e2 : ¬ ¬ nI n = 0 := by rw [e]; exact fun z => z rfl
    rw [decide_eq_true e]
    simp only [f_Jx4a65c_isEmpty_aae02, k, ckT, h, e2, if_false]
    rfl
  · have e2 : ¬ nI n = 0 := nIne (n := 0) (by omega) (by omega) e
    rw [decide_eq_false e]
    simp only [f_Jx4a65c_isEmpty_aae02, k, ckT, h, e2, not_false_eq_true, if_true]
    rfl
theorem c_chk {i n : Nat} (hi : i < n) (hn : n < 5000) : f_J15_checkIndex_7cf53 (nI i) (nI n) = some (nI i) := by
  have c1 : ¬ nI i < 0 := nI_pos (by omega)
  have c2 : nI i < nI n := nI_lt hi (by omega)
  simp only [f_J15_checkIndex_7cf53, f_J3_checkIndex_8e157_n2, c1, c2, if_false, if_true, bdS]
theorem ck56 {α : Type} (x : Option α) : (ck (isA56 26) x = x) ∧ (ck (isA1256 26) x = x) ∧ (ck (isA 6 26) x = x) := ⟨if_pos (by decide), if_pos (by decide), if_pos (by decide)⟩
theorem c_get {l n e i x : Nat} (k : mK μ l = 100) (h : mI μ l 2 = nI n) (hn : n < 5000) (he : mR μ l 1 = some e) (ke : mK μ e = 26) (hl : n ≤ mL μ e) (hi : i < n) (hx : mR μ e i = some x) : f_Jx4a65c_get_915e3 l (nI i) μ = some x := by
  have c := c_chk hi hn
  have ib : inb (nI i) (mL μ e) := ⟨nI_pos' (by omega), by rw [nI_clamp (by omega)]; omega⟩
  have cl := clN (show i < 100000 by omega)
  simp only [f_Jx4a65c_get_915e3, f_Jx4a65c_elementData_915e3, k, ckT, h, c, bdS, he, ke, ck56, ck_t ib, cl, hx]
/-- one more -/
theorem c_add11 {l e n a : Nat} {ν : Mm} (hl : mK ν l = 100) (ke : mK ν e = 26) (hn : n < mL ν e) (hn2 : n < 5000) (ha : 100 ≤ mK ν a) : f_Jx4a65c_add_72be8_b11 l a e (nI n) ν = some ((), sI (sR ν e n (some a)) l 2 (nI (n + 1))) := by
  have ib : inb (nI n) (mL ν e) := ⟨nI_pos' (by omega), by rw [nI_clamp (by omega)]; omega⟩
  have cl := clN (show n < 100000 by omega)
  simp only [f_Jx4a65c_add_72be8_b11, ke, ck56, ck_t ib, cl, ck_t (show isO (mK ν a) from ha), zlS, mK_sR, hl, ckT, nI_1]
theorem nI_shr2 : ∀ a, a < 56 → ∀ c, c < 56 → nI (56 * a + c) >>> (1 &&& 31) = nI ((56 * a + c) / 2) := by decide +kernel
theorem nI_shr (n : Nat) (h : n < 3001) : nI n >>> (1 &&& 31) = nI (n / 2) := by
  have := nI_shr2 (n / 56) (by omega) (n % 56) (by omega)
  rw [show 56 * (n / 56) + n % 56 = n by omega] at this
  exact this
theorem c_newLen {n : Nat} (h0 : 0 < n) (hn : n < 3001) : f_J8_newLength_cabcc (nI n) 1 (nI (n / 2)) = some (nI (n + max 1 (n / 2))) := by
  have e1 : f_J9_max_7cf53 1 (nI (n / 2)) = some (nI (max 1 (n / 2))) := by
    unfold f_J9_max_7cf53
    by_cases h : (1 : Int32) < nI (n / 2)
    · have h2 : 1 < n / 2 := (nI_ltI (a := 1) (by omega) (by omega)).mp h
      rw [if_pos h, Nat.max_eq_right (by omega)]
    · have h2 : ¬ 1 < n / 2 := fun z => h ((nI_ltI (a := 1) (by omega) (by omega)).mpr z)
      rw [if_neg h, Nat.max_eq_left (by omega)]
      rfl
  have c1 : ¬ nI (n + max 1 (n / 2)) ≤ 0 := nI_nle (by omega) (by omega)
  have c2 : ¬ (2147483639 : Int32) < nI (n + max 1 (n / 2)) := nI_nlt (a := 2147483639) (by omega) (by omega)
  simp only [f_J8_newLength_cabcc, e1, bdS, nI_add, c1, c2, if_false]
theorem c_add {z c l e n a : Nat} (w : WF μ) (s0 : mR μ 0 0 = some z) (s3 : mR μ 0 3 = some c) (k0 : mK μ 0 < 100) (k : mK μ l = 100) (h : mI μ l 2 = nI n) (hn : n < 2500) (he : mR μ l 1 = some e) (ke : mK μ e = 26) (hl : n ≤ mL μ e) (hm : mL μ e < 50000) (hz : mL μ e = 0 → e = z) (hel : ∀ i, i < n → ∃ y, mR μ e i = some y ∧ 100 ≤ mK μ y) (ha : 100 ≤ mK μ a) :
    ∃ μ' e', f_Jx4a65c_add_9ea2d l a μ = some (1, μ') ∧ LF l e' μ μ' ∧ mR μ' l 1 = some e' ∧ mK μ' e' = 26 ∧ n + 1 ≤ mL μ' e' ∧ mL μ' e' < max (mL μ e + 1) (2 * n + 11) ∧ (∀ i, i < n → mR μ' e' i = mR μ e i) ∧ mR μ' e' n = some a ∧ mI μ' l 2 = nI (n + 1) ∧ (e' = e ∧ mN μ' = mN μ ∧ mS μ' = mS μ ∨ e' = mN μ ∧ mN μ' = mN μ + 1 ∧ mS μ' ≤ mS μ + (n + n / 2 + 11)) := by
  have kl : mK μ l ≠ 0 := by rw [k]; decide
  have ll : l < mN μ := by
    rcases Nat.lt_or_ge l (mN μ) with q | q
    · exact q
    · exact absurd (w l q) kl
  have el : e < mN μ := by
    rcases Nat.lt_or_ge e (mN μ) with q | q
    · exact q
    · rw [w e q] at ke; cases ke
  have al : a < mN μ := by
    rcases Nat.lt_or_ge a (mN μ) with q | q
    · exact q
    · rw [w a q] at ha; omega
  have nel : e ≠ l := fun q => by rw [q, k] at ke; cases ke
  have l0 : l ≠ 0 := fun q => by rw [q] at k; omega
  obtain ⟨μ1, m1⟩ : ∃ μ1, μ1 = sI μ l 0 (mI μ l 0 + 1) := ⟨_, rfl⟩
  have K1 : mK μ1 = mK μ := by rw [m1]; rfl
  have L1 : mL μ1 = mL μ := by rw [m1]; rfl
  have R1 : mR μ1 = mR μ := by rw [m1]; rfl
  have J1 : mJ μ1 = mJ μ := by rw [m1]; rfl
  have N1 : mN μ1 = mN μ := by rw [m1]; rfl
  have S1 : mS μ1 = mS μ := by rw [m1]; rfl
  have I1 : ∀ b, b ≠ l → mI μ1 b = mI μ b := fun b hb => by rw [m1, mI_row _ _ hb]
  have I1l : ∀ j, j ≠ 0 → mI μ1 l j = mI μ l j := fun j hj => by rw [m1, mI_ne _ _ (Or.inr hj)]
  have base : f_Jx4a65c_add_9ea2d l a μ = cl (f_Jx4a65c_add_72be8 l a e (nI n) μ1) fun _ μ9 => some (1, μ9) := by
    have q2 : mI μ1 l 2 = nI n := by rw [I1l 2 (by decide)]; exact h
    simp only [f_Jx4a65c_add_9ea2d, k, ckT, zlS, ← m1, R1, he, bdS, q2]
  by_cases hlt : n < mL μ e
  · have c1 : ¬ nI n = nI (mL μ e) := nIne (by omega) (by omega) (by omega)
    have e11 := c_add11 (ν := μ1) (l := l) (e := e) (n := n) (a := a) (by rw [K1]; exact k) (by rw [K1]; exact ke) (by rw [L1]; exact hlt) (by omega) (by rw [K1]; exact ha)
    have e7 : f_Jx4a65c_add_72be8 l a e (nI n) μ1 = some ((), sI (sR μ1 e n (some a)) l 2 (nI (n + 1))) := by
      rw [← e11]
      simp only [f_Jx4a65c_add_72be8, K1, ke, ck56, L1, c1, not_false_eq_true, if_true]
    refine ⟨sI (sR μ1 e n (some a)) l 2 (nI (n + 1)), e, by rw [base, cl_t e7], LF.of0 ⟨fun b _ => ⟨by rw [← K1]; rfl, by rw [← L1]; rfl, by rw [← J1]; rfl⟩, fun b _ hb => ?_, fun j j0 j2 => ?_, fun b _ h1 h2 => ?_, fun j _ => ?_, fun _ b hb => ?_, ?_⟩ (fun _ q => by omega), ?_, ?_, ?_, ?_, fun i hi => ?_, ?_, mI_at _ _ _ _, Or.inl ⟨rfl, by rw [← N1]; rfl, by rw [← S1]; rfl⟩⟩
    · rw [mI_row _ _ hb, mI_sR', I1 b hb]
    · rw [mI_ne _ _ (Or.inr j2), mI_sR', I1l j j0]
    · rw [mR_sI', mR_row _ _ h2, R1]
    · rw [mR_sI', mR_row _ _ nel.symm, R1]
    · show mK μ1 b = 0
      rw [K1]
      exact w b (by rw [← N1]; exact hb)
    · rw [← N1]
      exact Nat.le_refl _
    · rw [mR_sI', mR_row _ _ nel.symm, R1]
      exact he
    · show mK μ1 e = 26
      rw [K1]; exact ke
    · show n + 1 ≤ mL μ1 e
      rw [L1]; omega
    · show mL μ1 e < _
      rw [L1]; omega
    · rw [mR_sI', mR_ne _ _ (Or.inr (by omega)), R1]
    · rw [mR_sI', mR_at]
  · have hle : mL μ e = n := by omega
    have c1 : ¬ ¬ nI n = nI (mL μ e) := by rw [hle]; exact fun q => q rfl
    obtain ⟨N, hN⟩ : ∃ N, N = mN μ := ⟨_, rfl⟩
    -- the row made anew, with its first ones
    obtain ⟨cap, hcap⟩ : ∃ cap, cap = if n = 0 then 10 else n + max 1 (n / 2) := ⟨_, rfl⟩
    have hc1 : n + 1 ≤ cap ∧ cap < 2 * n + 11 ∧ cap ≤ n + n / 2 + 11 ∧ cap < 5000 := by rw [hcap]; split <;> omega
    obtain ⟨μ4, m4⟩ : ∃ μ4, μ4 = sR (if n = 0 then nw μ1 26 cap cap else cpy (nw μ1 26 cap cap) e 0 N 0 (nI n)) l 1 (some N) := ⟨_, rfl⟩
    have smc : smn (nI cap) := ⟨nI_pos' (by omega), by rw [nI_clamp (by omega)]; omega⟩
    have clc := clN (show cap < 100000 by omega)
    have nlN : l ≠ N := by omega
    have neN : e ≠ N := by omega
    have z0N : (0 : Nat) ≠ N := by omega
    have K1N : mN μ1 = N := by rw [N1, hN]
    have kN : ∀ b, b ≠ N → mK (nw μ1 26 cap cap) b = mK μ b := fun b hb => by rw [nwK _ _ _ _ (by rw [K1N]; exact hb), K1]
    have lN : ∀ b, b ≠ N → mL (nw μ1 26 cap cap) b = mL μ b := fun b hb => by rw [nwL _ _ _ _ (by rw [K1N]; exact hb), L1]
    have rN : ∀ b, b ≠ N → mR (nw μ1 26 cap cap) b = mR μ b := fun b hb => by rw [nwR _ _ _ _ (by rw [K1N]; exact hb), R1]
    have iN : ∀ b, b ≠ N → mI (nw μ1 26 cap cap) b = mI μ1 b := fun b hb => nwI _ _ _ _ (by rw [K1N]; exact hb)
    have jN : ∀ b, b ≠ N → mJ (nw μ1 26 cap cap) b = mJ μ b := fun b hb => by rw [nwJ _ _ _ _ (by rw [K1N]; exact hb), J1]
    have kNN : mK (nw μ1 26 cap cap) N = 26 := by rw [← K1N]; exact nwKa _ _ _ _
    have lNN : mL (nw μ1 26 cap cap) N = cap := by rw [← K1N]; exact nwLa _ _ _ _
    have inn : ¬ n = 0 → (nI n).toNatClampNeg = n := fun _ => clN (by omega)
    have z32 : (0 : Int32).toNatClampNeg = 0 := by decide
    have grow : f_Jx4a65c_grow_d5877 l μ1 = some (N, μ4) := by
      have q2 : mI μ1 l 2 = nI n := by rw [I1l 2 (by decide)]; exact h
      have K1l : mK μ1 l = 100 := by rw [K1]; exact k
      have K1e : mK μ1 e = 26 := by rw [K1]; exact ke
      have L1e : mL μ1 e = n := by rw [L1]; exact hle
      by_cases hn0 : n = 0
      · have p0 : ¬ (0 : Int32) < nI n := by rw [hn0]; decide
        have ez : e = z := hz (by omega)
        subst ez
        have mx : f_J9_max_7cf53 10 (nI (n + 1)) = some 10 := by rw [hn0]; decide
        rw [if_pos hn0] at hcap m4
        have mx2 : some (10 : Int32) = some (nI cap) := by rw [hcap]; rfl
        rw [mx2] at mx
        simp only [f_Jx4a65c_grow_d5877, f_Jx4a65c_grow_92f84, K1l, ckT, q2, nI_1, R1, he, bdS, K1e, ck56, L1e, p0, if_false, s0, if_true, mx, ck_t smc, zlS, K1N, clc, kN l nlN, k, ← m4, clS]
      · have p0 : (0 : Int32) < nI n := nI_lt (a := 0) (by omega) (by omega)
        have e1' : nI (n + 1) - nI n = 1 := by
          rw [← nI_1, Int32.add_comm, Int32.add_sub_cancel]
        have hs := nI_shr n (by omega)
        have nl := c_newLen (n := n) (by omega) (by omega)
        rw [if_neg hn0] at hcap m4
        rw [← hcap] at nl
        have mn : f_J9_min_7cf53 (nI n) (nI cap) = some (nI n) := by
          unfold f_J9_min_7cf53
          rw [if_neg (nI_nlt (by omega) (by omega))]
        have cp : cpok (nw μ1 26 cap cap) e 0 N 0 (nI n) := by
          refine ⟨⟨by decide, by decide, nI_pos' (by omega)⟩, ?_, ?_, ?_, ?_⟩
          · rw [z32, inn hn0, lN e neN, hle]; omega
          · rw [z32, inn hn0, lNN]; omega
          · rw [z32, inn hn0]
            unfold cpel
            rw [List.all_eq_true]
            intro i hi
            have hi2 := List.mem_range.mp hi
            obtain ⟨y, y1, y2⟩ := hel i hi2
            have yN : y ≠ N := fun q => by
              rw [q, hN] at y2
              rw [w (mN μ) (Nat.le_refl _)] at y2
              omega
            rw [rN e neN, Nat.zero_add, y1]
            show decide (100 ≤ mK (nw μ1 26 cap cap) y) = true
            rw [kN y yN]
            exact decide_eq_true y2
          · rw [lNN]; omega
        have kce : ∀ (A : Mm) , mK (cpy A e 0 N 0 (nI n)) = mK A := fun _ => rfl
        simp only [f_Jx4a65c_grow_d5877, f_Jx4a65c_grow_92f84, f_Jx4a65c_grow_92f84_b20, f_J7_copyOf_1904c, f_J7_copyOf_6403c, K1l, ckT, q2, nI_1, R1, he, bdS, K1e, ck56, L1e, p0, if_true, e1', hs, nl, s3, not_true, if_false, ck_t smc, zlS, K1N, clc, kN e neN, ke, lN e neN, hle, mn, ck_t cp, clS, kce, kN l nlN, k, ← m4]
    have K4 : ∀ b, b ≠ N → mK μ4 b = mK μ b := fun b hb => by
      rw [m4]
      show mK (if n = 0 then _ else _) b = _
      split
      · exact kN b hb
      · exact kN b hb
    have K4N : mK μ4 N = 26 := by
      rw [m4]
      show mK (if n = 0 then _ else _) N = _
      split
      · exact kNN
      · exact kNN
    have L4 : ∀ b, b ≠ N → mL μ4 b = mL μ b := fun b hb => by
      rw [m4]
      show mL (if n = 0 then _ else _) b = _
      split
      · exact lN b hb
      · exact lN b hb
    have L4N : mL μ4 N = cap := by
      rw [m4]
      show mL (if n = 0 then _ else _) N = _
      split
      · exact lNN
      · exact lNN
    have J4 : ∀ b, b ≠ N → mJ μ4 b = mJ μ b := fun b hb => by
      rw [m4]
      show mJ (if n = 0 then _ else _) b = _
      split
      · exact jN b hb
      · exact jN b hb
    have I4 : ∀ b, b ≠ N → mI μ4 b = mI μ1 b := fun b hb => by
      rw [m4]
      show mI (if n = 0 then _ else _) b = _
      split
      · exact iN b hb
      · exact iN b hb
    have R4 : ∀ b, b ≠ N → b ≠ l → mR μ4 b = mR μ b := fun b hb hb2 => by
      rw [m4, mR_row _ _ hb2]
      split
      · exact rN b hb
      · show up1 (mR (nw μ1 26 cap cap)) N _ b = _
        rw [up1_ne _ _ hb]
        exact rN b hb
    have R4l : ∀ j, j ≠ 1 → mR μ4 l j = mR μ l j := fun j hj => by
      rw [m4, mR_ne _ _ (Or.inr hj)]
      split
      · rw [rN l nlN]
      · show up1 (mR (nw μ1 26 cap cap)) N _ l j = _
        rw [up1_ne _ _ nlN, rN l nlN]
    have R4N : ∀ i, i < n → mR μ4 N i = mR μ e i := fun i hi => by
      rw [m4, mR_row _ _ nlN.symm, if_neg (by omega)]
      show up1 (mR (nw μ1 26 cap cap)) N _ N i = _
      rw [up1_eq, z32, inn (by omega), pk_cpy_in (by omega) (by omega), rN e neN, Nat.zero_add]
      rfl
    have N4 : mN μ4 = N + 1 := by
      rw [m4]
      show mN (if n = 0 then _ else _) = _
      split <;> (show mN μ1 + 1 = _; rw [K1N])
    have S4 : mS μ4 = mS μ + cap := by
      rw [m4]
      show mS (if n = 0 then _ else _) = _
      split <;> (show mS μ1 + cap = _; rw [S1])
    have e11 := c_add11 (ν := μ4) (l := l) (e := N) (n := n) (a := a) (by rw [K4 l nlN]; exact k) K4N (by rw [L4N]; omega) (by omega) (by rw [K4 a (by omega)]; exact ha)
    have e7 : f_Jx4a65c_add_72be8 l a e (nI n) μ1 = some ((), sI (sR μ4 N n (some a)) l 2 (nI (n + 1))) := by
      rw [← e11]
      have K1l : mK μ1 l = 100 := by rw [K1]; exact k
      simp only [f_Jx4a65c_add_72be8, K1, ke, ck56, L1, c1, if_false, k, ckT, cl_t grow]
    refine ⟨sI (sR μ4 N n (some a)) l 2 (nI (n + 1)), N, by rw [base, cl_t e7], LF.of0 ⟨fun b hb => ⟨K4 b (by omega), L4 b (by omega), J4 b (by omega)⟩, fun b hb h1 => ?_, fun j j0 j2 => ?_, fun b hb h1 h2 => ?_, fun j hj => ?_, fun _ b hb => ?_, ?_⟩ (fun q _ => by omega), ?_, K4N, ?_, ?_, fun i hi => ?_, ?_, mI_at _ _ _ _, Or.inr ⟨hN, ?_, ?_⟩⟩
    · rw [mI_row _ _ h1, mI_sR', I4 b (by omega), I1 b h1]
    · rw [mI_ne _ _ (Or.inr j2), mI_sR', I4 l nlN, I1l j j0]
    · rw [mR_sI', mR_row _ _ h2, R4 b h2 h1]
    · rw [mR_sI', mR_row _ _ nlN, R4l j hj]
    · have hb2 : N + 1 ≤ b := by rw [← N4]; exact hb
      show mK μ4 b = 0
      rw [K4 b (by omega)]
      exact w b (by omega)
    · show mN μ ≤ mN μ4
      rw [N4]; omega
    · rw [mR_sI', mR_row _ _ nlN, m4, mR_at]
    · show n + 1 ≤ mL μ4 N
      rw [L4N]; omega
    · show mL μ4 N < _
      rw [L4N]; omega
    · rw [mR_sI', mR_ne _ _ (Or.inr (by omega)), R4N i hi]
    · rw [mR_sI', mR_at]
    · show mN μ4 = _
      rw [N4, hN]
    · show mS μ4 ≤ _
      rw [S4]; omega
/-- one less -/
theorem c_rem {l e n i x : Nat} (k : mK μ l = 100) (h : mI μ l 2 = nI n) (hn : n < 2500) (he : mR μ l 1 = some e) (ke : mK μ e = 26) (hl : n ≤ mL μ e) (hi : i < n) (hx : mR μ e i = some x) (hel : ∀ i, i < n → ∃ y, mR μ e i = some y ∧ 100 ≤ mK μ y) : ∃ μ', f_Jx4a65c_remove_915e3 l (nI i) μ = some (x, μ') ∧ LF l e μ μ' ∧ mN μ' = mN μ ∧ mS μ' = mS μ ∧ mK μ' = mK μ ∧ mL μ' = mL μ ∧ mR μ' l = mR μ l ∧ mI μ' l 2 = nI (n - 1) ∧ ∀ j, j < n - 1 → mR μ' e j = mR μ e (if j < i then j else j + 1) := by
  have nel : e ≠ l := fun q => by rw [q, k] at ke; cases ke
  have c := c_chk hi (by omega)
  have ib : inb (nI i) (mL μ e) := ⟨nI_pos' (by omega), by rw [nI_clamp (by omega)]; omega⟩
  have cl := clN (show i < 100000 by omega)
  obtain ⟨m, rfl⟩ : ∃ m, n = m + 1 := ⟨n - 1, by omega⟩
  have hm : m + 1 - 1 = m := rfl
  rw [hm]
  have ibm : inb (nI m) (mL μ e) := ⟨nI_pos' (by omega), by rw [nI_clamp (by omega)]; omega⟩
  have clm := clN (show m < 100000 by omega)
  obtain ⟨μ1, m1⟩ : ∃ μ1, μ1 = sI μ l 0 (mI μ l 0 + 1) := ⟨_, rfl⟩
  have R1 : mR μ1 = mR μ := by rw [m1]; rfl
  have K1 : mK μ1 = mK μ := by rw [m1]; rfl
  have L1 : mL μ1 = mL μ := by rw [m1]; rfl
  have q2 : mI μ1 l 2 = nI (m + 1) := by rw [m1, mI_ne _ _ (Or.inr (by decide))]; exact h
  -- behind the copy
  obtain ⟨μ2, m2, g2⟩ : ∃ μ2, (μ2 = if i = m then μ1 else cpy μ1 e (nI (i + 1)) e (nI i) (nI (m - i))) ∧ (f_Jx4a65c_fastRemove_b59b0 l e (nI i) μ = f_Jx4a65c_fastRemove_b59b0_b34 l e (nI m) μ2) := by
    refine ⟨_, rfl, ?_⟩
    by_cases e1 : i = m
    · have c1 : nI m ≤ nI i := by rw [e1]; exact Int32.le_refl _
      rw [if_pos e1]
      simp only [f_Jx4a65c_fastRemove_b59b0, k, ckT, zlS, ← m1, q2, nI_pred, c1, if_true]
    · have c1 : ¬ nI m ≤ nI i := nI_ge (by omega) (by omega)
      have sb : nI m - nI i = nI (m - i) := by
        obtain ⟨d, hd⟩ : ∃ d, m = d + i := ⟨m - i, by omega⟩
        rw [hd, ← nI_add, Int32.add_sub_cancel, Nat.add_sub_cancel]
      have cp : cpok μ1 e (nI (i + 1)) e (nI i) (nI (m - i)) := by
        refine ⟨⟨nI_pos' (by omega), nI_pos' (by omega), nI_pos' (by omega)⟩, ?_, ?_, ?_, ?_⟩
        · rw [clN (show i + 1 < 100000 by omega), clN (show m - i < 100000 by omega), L1]; omega
        · rw [cl, clN (show m - i < 100000 by omega), L1]; omega
        · rw [clN (show i + 1 < 100000 by omega), clN (show m - i < 100000 by omega)]
          unfold cpel
          rw [List.all_eq_true]
          intro j hj
          have hj2 := List.mem_range.mp hj
          obtain ⟨y, y1, y2⟩ := hel (i + 1 + j) (by omega)
          rw [R1, y1]
          show decide (100 ≤ mK μ1 y) = true
          rw [K1]
          exact decide_eq_true y2
        · rw [L1]; omega
      rw [if_neg e1]
      simp only [f_Jx4a65c_fastRemove_b59b0, k, ckT, zlS, ← m1, q2, nI_pred, c1, if_false, K1, ke, ck56, sb, nI_1, ck_t cp]
  have K2 : mK μ2 = mK μ := by
    rw [m2, ← K1]
    split <;> rfl
  have L2 : mL μ2 = mL μ := by
    rw [m2, ← L1]
    split <;> rfl
  have I2 : mI μ2 = mI μ1 := by
    rw [m2]
    split <;> rfl
  have J2 : mJ μ2 = mJ μ := by
    have : mJ μ1 = mJ μ := by rw [m1]; rfl
    rw [m2, ← this]
    split <;> rfl
  have N2 : mN μ2 = mN μ := by
    have : mN μ1 = mN μ := by rw [m1]; rfl
    rw [m2, ← this]
    split <;> rfl
  have S2 : mS μ2 = mS μ := by
    have : mS μ1 = mS μ := by rw [m1]; rfl
    rw [m2, ← this]
    split <;> rfl
  have R2 : ∀ b, b ≠ e → mR μ2 b = mR μ b := fun b hb => by
    rw [m2]
    split
    · rw [R1]
    · show up1 (mR μ1) e _ b = _
      rw [up1_ne _ _ hb, R1]
  have R2e : ∀ j, j < m → mR μ2 e j = mR μ e (if j < i then j else j + 1) := fun j hj => by
    rw [m2]
    split
    · rw [R1, if_pos (by omega)]
    · show up1 (mR μ1) e _ e j = _
      rw [up1_eq, clN (show i + 1 < 100000 by omega), cl, clN (show m - i < 100000 by omega), R1]
      by_cases e2 : j < i
      · rw [if_pos e2, pk_cpy_out (by omega)]
      · rw [if_neg e2, pk_cpy_in (by omega) (by omega), show i + 1 + (j - i) = j + 1 by omega]
  have e34 : f_Jx4a65c_fastRemove_b59b0_b34 l e (nI m) μ2 = some ((), sR (sI μ2 l 2 (nI m)) e m none) := by
    simp only [f_Jx4a65c_fastRemove_b59b0_b34, K2, k, ckT, zlS, mK_sI, mL_sI, ke, ck56, L2, ck_t ibm, clm]
  refine ⟨sR (sI μ2 l 2 (nI m)) e m none, ?_, LF.of0 ⟨fun b _ => ⟨by rw [← K2]; rfl, by rw [← L2]; rfl, by rw [← J2]; rfl⟩, fun b _ hb => ?_, fun j j0 j2 => ?_, fun b _ _ hb => ?_, fun j _ => ?_, fun w b hb => ?_, ?_⟩ (fun _ q => by omega), by rw [← N2]; rfl, by rw [← S2]; rfl, by rw [← K2]; rfl, by rw [← L2]; rfl, ?_, ?_, fun j hj => ?_⟩
  · simp only [f_Jx4a65c_remove_915e3, k, ckT, h, c, bdS, he, ke, ck56, ck_t ib, cl, hx, g2, cl_t e34]
  · rw [mI_sR', mI_row _ _ hb, I2, m1, mI_row _ _ hb]
  · rw [mI_sR', mI_ne _ _ (Or.inr j2), I2, m1, mI_ne _ _ (Or.inr j0)]
  · rw [mR_row _ _ hb, mR_sI', R2 b hb]
  · rw [mR_row _ _ nel.symm, mR_sI', R2 l nel.symm]
  · show mK μ2 b = 0
    rw [K2]
    exact w b (by rw [← N2]; exact hb)
  · rw [← N2]; exact Nat.le_refl _
  · rw [mR_row _ _ nel.symm, mR_sI', R2 l nel.symm]
  · rw [mI_sR', mI_at]
  · rw [mR_ne _ _ (Or.inr (by omega)), mR_sI', R2e j hj]
/-- none any more -/
theorem c_clearL {e n : Nat} : ∀ (m j fu : Nat) (ν : Mm), j + m = n → m < fu → n < 2500 → mK ν e = 26 → n ≤ mL ν e → ∃ ν', f_Jx4a65c_clear_da8c8_b27 fu e (nI n) (nI j) ν = some ((), ν') ∧ mK ν' = mK ν ∧ mL ν' = mL ν ∧ mI ν' = mI ν ∧ mJ ν' = mJ ν ∧ mN ν' = mN ν ∧ mS ν' = mS ν ∧ (∀ b, b ≠ e → mR ν' b = mR ν b) ∧ (n = 0 → mR ν' = mR ν)
  | 0, j, fu, ν, hm, hf, hn, ke, hl => by
    obtain ⟨fu, rfl⟩ : ∃ n, fu = n + 1 := ⟨fu - 1, by omega⟩
    have c1 : nI n ≤ nI j := nI_le (by omega) (by omega)
    exact ⟨ν, by simp only [f_Jx4a65c_clear_da8c8_b27, c1, if_true], rfl, rfl, rfl, rfl, rfl, rfl, fun _ _ => rfl, fun _ => rfl⟩
  | m + 1, j, fu, ν, hm, hf, hn, ke, hl => by
    obtain ⟨fu, rfl⟩ : ∃ n, fu = n + 1 := ⟨fu - 1, by omega⟩
    have c1 : ¬ nI n ≤ nI j := nI_ge (by omega) (by omega)
    have ib : inb (nI j) (mL ν e) := ⟨nI_pos' (by omega), by rw [nI_clamp (by omega)]; omega⟩
    have cl := clN (show j < 100000 by omega)
    obtain ⟨ν', e1, k1, k2, k3, k4, k5, k6, k7, -⟩ := c_clearL (e := e) (n := n) m (j + 1) fu (sR ν e j none) (by omega) (by omega) hn ke hl
    refine ⟨ν', ?_, k1, k2, k3, k4, k5, k6, fun b hb => by rw [k7 b hb, mR_row _ _ hb], fun q => by omega⟩
    rw [← e1]
    simp only [f_Jx4a65c_clear_da8c8_b27, c1, if_false, ke, ck56, ck_t ib, cl, zlS, nI_1]
theorem c_clear {l e n : Nat} (k : mK μ l = 100) (h : mI μ l 2 = nI n) (hn : n < 2500) (he : mR μ l 1 = some e) (ke : mK μ e = 26) (hl : n ≤ mL μ e) : ∃ μ', f_Jx4a65c_clear_da8c8 l μ = some ((), μ') ∧ LF l e μ μ' ∧ mN μ' = mN μ ∧ mS μ' = mS μ ∧ mK μ' = mK μ ∧ mL μ' = mL μ ∧ mR μ' l = mR μ l ∧ mI μ' l 2 = 0 := by
  have nel : e ≠ l := fun q => by rw [q, k] at ke; cases ke
  obtain ⟨μ1, m1⟩ : ∃ μ1, μ1 = sI (sI μ l 0 (mI μ l 0 + 1)) l 2 0 := ⟨_, rfl⟩
  obtain ⟨ν', e1, k1, k2, k3, k4, k5, k6, k7, k8⟩ := c_clearL (e := e) (n := n) n 0 5000 μ1 (by omega) (by omega) hn (by rw [m1]; exact ke) (by rw [m1]; exact hl)
  have K1 : mK μ1 = mK μ := by rw [m1]; rfl
  have L1 : mL μ1 = mL μ := by rw [m1]; rfl
  have J1 : mJ μ1 = mJ μ := by rw [m1]; rfl
  have N1 : mN μ1 = mN μ := by rw [m1]; rfl
  have S1 : mS μ1 = mS μ := by rw [m1]; rfl
  have R1 : mR μ1 = mR μ := by rw [m1]; rfl
  refine ⟨ν', ?_, LF.of0 ⟨fun b _ => ⟨by rw [k1, K1], by rw [k2, L1], by rw [k4, J1]⟩, fun b _ hb => ?_, fun j j0 j2 => ?_, fun b _ _ hb => by rw [k7 b hb, R1], fun j _ => by rw [k7 l nel.symm, R1], fun w b hb => ?_, by rw [k5, N1]; exact Nat.le_refl _⟩ (fun _ q => by rw [k8 (by omega), R1]), by rw [k5, N1], by rw [k6, S1], by rw [k1, K1], by rw [k2, L1], by rw [k7 l nel.symm, R1], by rw [k3, m1, mI_at]⟩
  · have q2 : mI (sI μ l 0 (mI μ l 0 + 1)) l 2 = nI n := by rw [mI_ne _ _ (Or.inr (by decide))]; exact h
    have q1 : mR (sI μ l 0 (mI μ l 0 + 1)) l 1 = some e := he
    have e1' : f_Jx4a65c_clear_da8c8_b27 5000 e (nI n) 0 μ1 = some ((), ν') := e1
    simp only [f_Jx4a65c_clear_da8c8, k, ckT, zlS, q1, bdS, q2, ← m1, e1']
  · rw [k3, m1, mI_row _ _ hb, mI_row _ _ hb]
  · rw [k3, m1, mI_ne _ _ (Or.inr j2), mI_ne _ _ (Or.inr j0)]
  · rw [k1, K1]
    exact w b (by rw [k5, N1] at hb; exact hb)
end CLS
