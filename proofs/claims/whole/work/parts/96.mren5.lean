/-! the model: renaming, the loops over rows -/
section MR5
variable {b : Nat} {A B : Sx} {ρ : Nat → Nat} {μ μ' : Mm} {S : Nat → Nat → Bool}
theorem CH.row2 {r : Nat} (g : CH b (sRow r) μ μ') {o : Nat} (h : o ≠ r) : mI μ' (b + o) = mI μ (b + o) := g.row (fun k => by
  cases hz : sRow r o k with
  | false => rfl
  | true => exact absurd (sRow_e hz) h)
theorem CH.putR {r k : Nat} {v : Int32} : CH b (sRow r) μ (sI μ (b + r) k v) := CH.put (sRow_at r k)
/-- a row of the line is copied into a row of the buffer -/
theorem m_cp59 {r : Nat} {x1 : Int32} {k2 : Nat → Int32 → Mm → Option (Unit × Mm)} (hr : 46 ≤ r ∧ r < 62) : ∀ (m j fu : Nat) (μ : Mm), j + m = 28 → m < fu → SM b μ → mR μ (b + 62) 0 = some (b + 63) → ∃ μ', f_X11_renames_b59 k2 fu (b + 30) x1 (b + r) (nI j) μ = f_X11_renames_b82 k2 (b + 30) x1 (b + r) μ' ∧ CH b (sRow r) μ μ' ∧ ∀ k, k < 28 → mI μ' (b + r) k = if j ≤ k then mI μ (b + 63) k else mI μ (b + r) k
  | 0, j, fu, μ, hm, hf, S, h0 => by
    obtain ⟨fu, rfl⟩ : ∃ n, fu = n + 1 := ⟨fu - 1, by omega⟩
    have c1 : (28 : Int32) ≤ nI j := nI_le (a := 28) (by omega) (by omega)
    refine ⟨μ, by simp only [f_X11_renames_b59, c1, if_true], CH.refl0, fun k hk => by rw [if_neg (by omega)]⟩
  | m + 1, j, fu, μ, hm, hf, S, h0 => by
    obtain ⟨fu, rfl⟩ : ∃ n, fu = n + 1 := ⟨fu - 1, by omega⟩
    have s := S
    unfold SM at s
    have s2 := S.row hr
    have s3 := S.lrow (o := 63) (by omega)
    have c1 : ¬ (28 : Int32) ≤ nI j := nI_ge (b := 28) (by omega) (by omega)
    have hb := inbN (p := j) (n := 28) (by omega) (by omega)
    have hc := clN (show j < 100000 by omega)
    have i0 : inb 0 8 := by decide
    obtain ⟨μ1, h1⟩ : ∃ μ1, μ1 = sI μ (b + r) j (mI μ (b + 63) j) := ⟨_, rfl⟩
    have g1 : CH b (sRow r) μ μ1 := by rw [h1]; exact CH.putR
    obtain ⟨μ', e, g, hv⟩ := m_cp59 (x1 := x1) (k2 := k2) hr m (j + 1) fu μ1 (by omega) (by omega) (S.ch g1) (by rw [g1.2.2.1]; exact h0)
    refine ⟨μ', ?_, g1.trans g, fun k hk => ?_⟩
    · rw [← e]
      simp only [f_X11_renames_b59, c1, if_false, s, s2, s3, ckT, bdS, zlS, ckA, tcL, ck_t i0, h0, ck_t hb, hc, nI_1, ← h1]
    · rw [hv k hk, g1.row2 (show 63 ≠ r by omega), h1, mI_up, up1_if]
      by_cases e1 : k = j
      · subst e1
        rw [if_neg (by omega), if_pos rfl, if_pos (by omega)]
      · rw [if_neg e1]
        by_cases e2 : j ≤ k
        · rw [if_pos (by omega), if_pos e2]
        · rw [if_neg (by omega), if_neg e2]
/-- a row of the line takes the next one's numbers -/
theorem m_cp105 {i a2 : Nat} {x1 : Int32} {k2 : Nat → Int32 → Mm → Option (Unit × Mm)} {k94 : Nat → Int32 → Nat → Int32 → Mm → Option (Unit × Mm)} (hi : i + 1 < 8) : ∀ (m j fu : Nat) (μ : Mm), j + m = 28 → m < fu → SM b μ → (∀ k, k < 8 → mR μ (b + 62) k = some (b + (63 + k))) → ∃ μ', f_X11_renames_b105 k2 k94 fu (b + 30) x1 a2 (nI i) (nI j) μ = k94 (b + 30) x1 a2 (nI (i + 1)) μ' ∧ CH b (sRow (63 + i)) μ μ' ∧ ∀ k, k < 28 → mI μ' (b + (63 + i)) k = if j ≤ k then mI μ (b + (63 + (i + 1))) k else mI μ (b + (63 + i)) k
  | 0, j, fu, μ, hm, hf, S, h0 => by
    obtain ⟨fu, rfl⟩ : ∃ n, fu = n + 1 := ⟨fu - 1, by omega⟩
    have c1 : (28 : Int32) ≤ nI j := nI_le (a := 28) (by omega) (by omega)
    refine ⟨μ, by simp only [f_X11_renames_b105, f_X11_renames_b138, c1, if_true, nI_1], CH.refl0, fun k hk => by rw [if_neg (by omega)]⟩
  | m + 1, j, fu, μ, hm, hf, S, h0 => by
    obtain ⟨fu, rfl⟩ : ∃ n, fu = n + 1 := ⟨fu - 1, by omega⟩
    have s := S
    unfold SM at s
    have s2 := S.lrow (o := 63 + i) (by omega)
    have s3 := S.lrow (o := 63 + (i + 1)) (by omega)
    have c1 : ¬ (28 : Int32) ≤ nI j := nI_ge (b := 28) (by omega) (by omega)
    have hb := inbN (p := j) (n := 28) (by omega) (by omega)
    have hc := clN (show j < 100000 by omega)
    have hb1 := inbN (p := i) (n := 8) (by omega) (by omega)
    have hc1 := clN (show i < 100000 by omega)
    have hb2 := inbN (p := i + 1) (n := 8) (by omega) (by omega)
    have hc2 := clN (show i + 1 < 100000 by omega)
    have r1 := h0 i (by omega)
    have r2 := h0 (i + 1) (by omega)
    obtain ⟨μ1, h1⟩ : ∃ μ1, μ1 = sI μ (b + (63 + i)) j (mI μ (b + (63 + (i + 1))) j) := ⟨_, rfl⟩
    have g1 : CH b (sRow (63 + i)) μ μ1 := by rw [h1]; exact CH.putR
    obtain ⟨μ', e, g, hv⟩ := m_cp105 (x1 := x1) (k2 := k2) (k94 := k94) (a2 := a2) hi m (j + 1) fu μ1 (by omega) (by omega) (S.ch g1) (by rw [g1.2.2.1]; exact h0)
    refine ⟨μ', ?_, g1.trans g, fun k hk => ?_⟩
    · rw [← e]
      simp only [f_X11_renames_b105, c1, if_false, s, s2, s3, ckT, bdS, zlS, ckA, nI_1, ck_t hb, ck_t hb1, ck_t hb2, hc, hc1, hc2, r1, r2, ← h1]
    · rw [hv k hk, g1.row2 (show 63 + (i + 1) ≠ 63 + i by omega), h1, mI_up, up1_if]
      by_cases e1 : k = j
      · subst e1
        rw [if_neg (by omega), if_pos rfl, if_pos (by omega)]
      · rw [if_neg e1]
        by_cases e2 : j ≤ k
        · rw [if_pos (by omega), if_pos e2]
        · rw [if_neg (by omega), if_neg e2]
/-- the line's rows -/
def sLn (o _ : Nat) : Bool := decide (63 ≤ o ∧ o ≤ 70)
theorem m_sh94 {a2 N : Nat} {x1 : Int32} {k2 : Nat → Int32 → Mm → Option (Unit × Mm)} (hN : N ≤ 7) : ∀ (m i fu : Nat) (μ : Mm), i + m = N → m < fu → SM b μ → (∀ k, k < 8 → mR μ (b + 62) k = some (b + (63 + k))) → mI μ (b + 30) 25 = nI N → ∃ μ', f_X11_renames_b94 k2 fu (b + 30) x1 a2 (nI i) μ = f_X11_renames_b144 k2 (b + 30) x1 a2 μ' ∧ CH b sLn μ μ' ∧ (∀ j, j < i → mI μ' (b + (63 + j)) = mI μ (b + (63 + j))) ∧ ∀ j k, i ≤ j → j < N → k < 28 → mI μ' (b + (63 + j)) k = mI μ (b + (63 + (j + 1))) k
  | 0, i, fu, μ, hm, hf, S, h0, h25 => by
    obtain ⟨fu, rfl⟩ : ∃ n, fu = n + 1 := ⟨fu - 1, by omega⟩
    have k0 := S.1
    have c1 : nI N ≤ nI i := nI_le (by omega) (by omega)
    exact ⟨μ, by simp only [f_X11_renames_b94, k0, ckT, h25, c1, if_true], CH.refl0, fun _ _ => rfl, fun j k h1 h2 _ => by omega⟩
  | m + 1, i, fu, μ, hm, hf, S, h0, h25 => by
    obtain ⟨fu, rfl⟩ : ∃ n, fu = n + 1 := ⟨fu - 1, by omega⟩
    have k0 := S.1
    have c1 : ¬ nI N ≤ nI i := nI_ge (by omega) (by omega)
    obtain ⟨μ1, e1, g1, v1⟩ := m_cp105 (x1 := x1) (k2 := k2) (k94 := f_X11_renames_b94 k2 fu) (a2 := a2) (i := i) (by omega) 28 0 5000 μ rfl (by omega) S h0
    obtain ⟨μ', e, g, w, hv⟩ := m_sh94 (x1 := x1) (k2 := k2) (a2 := a2) hN m (i + 1) fu μ1 (by omega) (by omega) (S.ch g1) (by rw [g1.2.2.1]; exact h0) (by rw [g1.row2 (show 30 ≠ 63 + i by omega)]; exact h25)
    refine ⟨μ', ?_, (g1.mono fun o k z => ?_).trans g, fun j hj => ?_, fun j k h1 h2 h3 => ?_⟩
    · rw [← e, ← e1]
      simp only [f_X11_renames_b94, k0, ckT, h25, c1, if_false]
      rfl
    · have := sRow_e z
      exact decide_eq_true (by omega)
    · rw [w j (by omega), g1.row2 (show 63 + j ≠ 63 + i by omega)]
    · by_cases e2 : j = i
      · subst e2
        rw [w j (by omega), v1 k h3, if_pos (Nat.zero_le _)]
      · rw [hv j k (by omega) h2 h3, g1.row2 (show 63 + (j + 1) ≠ 63 + i by omega)]
/-- the free line goes on by one -/
theorem m_fr280 {a2 n : Nat} {x1 x3 x4 : Int32} {k2 : Nat → Int32 → Mm → Option (Unit × Mm)} (hn : n < 24) : ∀ (m j fu : Nat) (μ : Mm), j + m = n → m < fu → SM b μ → mI μ (b + 30) 21 = nI n → ∃ μ', f_X11_renames_b280 k2 fu (b + 30) x1 a2 x3 x4 (nI j) μ = f_X11_renames_b311 k2 (b + 30) x1 a2 x3 x4 μ' ∧ CH b (sRow 44) μ μ' ∧ ∀ k, mI μ' (b + 44) k = if j ≤ k ∧ k < n then mI μ (b + 44) (k + 1) else mI μ (b + 44) k
  | 0, j, fu, μ, hm, hf, S, h21 => by
    obtain ⟨fu, rfl⟩ : ∃ n, fu = n + 1 := ⟨fu - 1, by omega⟩
    have k0 := S.1
    have c1 : nI n ≤ nI j := nI_le (by omega) (by omega)
    exact ⟨μ, by simp only [f_X11_renames_b280, k0, ckT, h21, c1, if_true], CH.refl0, fun k => by rw [if_neg (by omega)]⟩
  | m + 1, j, fu, μ, hm, hf, S, h21 => by
    obtain ⟨fu, rfl⟩ : ∃ n, fu = n + 1 := ⟨fu - 1, by omega⟩
    have s := S
    unfold SM at s
    have c1 : ¬ nI n ≤ nI j := nI_ge (by omega) (by omega)
    have hb := inbN (p := j) (n := 24) (by omega) (by omega)
    have hc := clN (show j < 100000 by omega)
    have hb2 := inbN (p := j + 1) (n := 24) (by omega) (by omega)
    have hc2 := clN (show j + 1 < 100000 by omega)
    obtain ⟨μ1, h1⟩ : ∃ μ1, μ1 = sI μ (b + 44) j (mI μ (b + 44) (j + 1)) := ⟨_, rfl⟩
    have g1 : CH b (sRow 44) μ μ1 := by rw [h1]; exact CH.putR
    obtain ⟨μ', e, g, hv⟩ := m_fr280 (x1 := x1) (x3 := x3) (x4 := x4) (k2 := k2) (a2 := a2) hn m (j + 1) fu μ1 (by omega) (by omega) (S.ch g1) (by rw [g1.row2 (show 30 ≠ 44 by decide)]; exact h21)
    refine ⟨μ', ?_, g1.trans g, fun k => ?_⟩
    · rw [← e]
      simp only [f_X11_renames_b280, c1, if_false, s, ckT, bdS, zlS, ckA, h21, nI_1, ck_t hb, ck_t hb2, hc, hc2, ← h1]
    · rw [hv k, h1, mI_up]
      simp only [up1_if]
      by_cases e1 : k = j
      · subst e1
        rw [if_neg (by omega), if_pos rfl, if_pos (by omega)]
      · by_cases e2 : j + 1 ≤ k ∧ k < n
        · rw [if_pos e2, if_neg (by omega), if_pos (by omega)]
        · rw [if_neg e2, if_neg e1, if_neg (by omega)]
end MR5
