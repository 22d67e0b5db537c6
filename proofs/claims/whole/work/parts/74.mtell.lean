/-! the model: frames, the oldest one leaves the buffer, ends are told -/
section MTE
variable {b : Nat} {A B A' : Sx} {ρ : Nat → Nat} {μ μ' μ2 : Mm} {S : Nat → Nat → Bool}
theorem SM.cg2 (h : SM b μ) (hK : ∀ o, o < 86 → mK μ' (b + o) = mK μ (b + o)) (hL : ∀ o, o < 86 → mL μ' (b + o) = mL μ (b + o)) (hR : mR μ' (b + 30) = mR μ (b + 30)) : SM b μ' := by
  unfold SM at h ⊢
  rw [hR]
  simp only [hK 30 (by decide), hL 30 (by decide), hK 31 (by decide), hL 31 (by decide), hK 32 (by decide), hL 32 (by decide), hK 33 (by decide), hL 33 (by decide), hK 34 (by decide), hL 34 (by decide), hK 35 (by decide), hL 35 (by decide), hK 36 (by decide), hL 36 (by decide), hK 37 (by decide), hL 37 (by decide), hK 38 (by decide), hL 38 (by decide), hK 39 (by decide), hL 39 (by decide), hK 40 (by decide), hL 40 (by decide), hK 41 (by decide), hL 41 (by decide), hK 42 (by decide), hL 42 (by decide), hK 43 (by decide), hL 43 (by decide), hK 44 (by decide), hL 44 (by decide), hK 45 (by decide), hL 45 (by decide), hK 62 (by decide), hL 62 (by decide), hK 71 (by decide), hL 71 (by decide), hK 72 (by decide), hL 72 (by decide), hK 73 (by decide), hL 73 (by decide), hK 74 (by decide), hL 74 (by decide), hK 75 (by decide), hL 75 (by decide), hK 76 (by decide), hL 76 (by decide), hK 77 (by decide), hL 77 (by decide), hK 78 (by decide), hL 78 (by decide), hK 79 (by decide), hL 79 (by decide), hK 80 (by decide), hL 80 (by decide), hK 81 (by decide), hL 81 (by decide), hK 82 (by decide), hL 82 (by decide), hK 83 (by decide), hL 83 (by decide)]
  obtain ⟨c0, c1, c2, c3, c4, c5, c6, c7, c8, c9, c10, c11, c12, c13, c14, c15, c16, c17, c18, c19, c20, c21, c22, c23, c24, c25, c26, c27, c28, c29, c30, c31, c32, c33, c34, c35, c36, c37, c38, c39, c40, c41, c42, c43, c44, c45, c46, c47, c48, c49, c50, c51, c52, c53, c54, c55, c56, c57, c58, c59, c60, c61, c62, c63, c64, c65, c66, c67, c68, c69, c70, c71, c72, c73, c74, c75, c76, c77, c78, c79, c80, c81, c82, c83, c84, c85, c86, c87, hl⟩ := h
  refine ⟨c0, c1, c2, c3, c4, c5, c6, c7, c8, c9, c10, c11, c12, c13, c14, c15, c16, c17, c18, c19, c20, c21, c22, c23, c24, c25, c26, c27, c28, c29, c30, c31, c32, c33, c34, c35, c36, c37, c38, c39, c40, c41, c42, c43, c44, c45, c46, c47, c48, c49, c50, c51, c52, c53, c54, c55, c56, c57, c58, c59, c60, c61, c62, c63, c64, c65, c66, c67, c68, c69, c70, c71, c72, c73, c74, c75, c76, c77, c78, c79, c80, c81, c82, c83, c84, c85, c86, c87, fun k h1 h2 => ?_⟩
  rw [hK _ (by omega), hL _ (by omega)]
  exact hl k h1 h2
/-- the model stays where nothing of its own changes -/
theorem RM.fr (h : RM b A ρ μ) (hn9 : aS A 9 ≤ 16) (hn10 : aS A 10 ≤ 8) (hf : ∀ a, (b + 30 ≤ a ∧ a < b + 84) ∨ mK μ a = 71 → mK μ' a = mK μ a ∧ mL μ' a = mL μ a ∧ mI μ' a = mI μ a ∧ mR μ' a = mR μ a) : RM b A ρ μ' := by
  have ho : ∀ o, 30 ≤ o → o < 84 → mK μ' (b + o) = mK μ (b + o) ∧ mL μ' (b + o) = mL μ (b + o) ∧ mI μ' (b + o) = mI μ (b + o) ∧ mR μ' (b + o) = mR μ (b + o) := fun o h1 h2 => hf (b + o) (Or.inl ⟨by omega, by omega⟩)
  obtain ⟨r1, r2, r3, r4, r5, r6, r7, r8, r9, r10, r11⟩ := h
  refine ⟨?_, r2.keep (fun o k hz => ?_), ?_, fun k hk => ?_, fun k hk => ?_, fun p hp => ?_, ?_, ?_, ?_, fun z => ?_, fun e he => ?_⟩
  · unfold SM at r1 ⊢
    rw [(ho 30 (by omega) (by omega)).2.2.2]
    simp only [(ho 30 (by decide) (by decide)).1, (ho 30 (by decide) (by decide)).2.1, (ho 31 (by decide) (by decide)).1, (ho 31 (by decide) (by decide)).2.1, (ho 32 (by decide) (by decide)).1, (ho 32 (by decide) (by decide)).2.1, (ho 33 (by decide) (by decide)).1, (ho 33 (by decide) (by decide)).2.1, (ho 34 (by decide) (by decide)).1, (ho 34 (by decide) (by decide)).2.1, (ho 35 (by decide) (by decide)).1, (ho 35 (by decide) (by decide)).2.1, (ho 36 (by decide) (by decide)).1, (ho 36 (by decide) (by decide)).2.1, (ho 37 (by decide) (by decide)).1, (ho 37 (by decide) (by decide)).2.1, (ho 38 (by decide) (by decide)).1, (ho 38 (by decide) (by decide)).2.1, (ho 39 (by decide) (by decide)).1, (ho 39 (by decide) (by decide)).2.1, (ho 40 (by decide) (by decide)).1, (ho 40 (by decide) (by decide)).2.1, (ho 41 (by decide) (by decide)).1, (ho 41 (by decide) (by decide)).2.1, (ho 42 (by decide) (by decide)).1, (ho 42 (by decide) (by decide)).2.1, (ho 43 (by decide) (by decide)).1, (ho 43 (by decide) (by decide)).2.1, (ho 44 (by decide) (by decide)).1, (ho 44 (by decide) (by decide)).2.1, (ho 45 (by decide) (by decide)).1, (ho 45 (by decide) (by decide)).2.1, (ho 62 (by decide) (by decide)).1, (ho 62 (by decide) (by decide)).2.1, (ho 71 (by decide) (by decide)).1, (ho 71 (by decide) (by decide)).2.1, (ho 72 (by decide) (by decide)).1, (ho 72 (by decide) (by decide)).2.1, (ho 73 (by decide) (by decide)).1, (ho 73 (by decide) (by decide)).2.1, (ho 74 (by decide) (by decide)).1, (ho 74 (by decide) (by decide)).2.1, (ho 75 (by decide) (by decide)).1, (ho 75 (by decide) (by decide)).2.1, (ho 76 (by decide) (by decide)).1, (ho 76 (by decide) (by decide)).2.1, (ho 77 (by decide) (by decide)).1, (ho 77 (by decide) (by decide)).2.1, (ho 78 (by decide) (by decide)).1, (ho 78 (by decide) (by decide)).2.1, (ho 79 (by decide) (by decide)).1, (ho 79 (by decide) (by decide)).2.1, (ho 80 (by decide) (by decide)).1, (ho 80 (by decide) (by decide)).2.1, (ho 81 (by decide) (by decide)).1, (ho 81 (by decide) (by decide)).2.1, (ho 82 (by decide) (by decide)).1, (ho 82 (by decide) (by decide)).2.1, (ho 83 (by decide) (by decide)).1, (ho 83 (by decide) (by decide)).2.1]
    obtain ⟨c0, c1, c2, c3, c4, c5, c6, c7, c8, c9, c10, c11, c12, c13, c14, c15, c16, c17, c18, c19, c20, c21, c22, c23, c24, c25, c26, c27, c28, c29, c30, c31, c32, c33, c34, c35, c36, c37, c38, c39, c40, c41, c42, c43, c44, c45, c46, c47, c48, c49, c50, c51, c52, c53, c54, c55, c56, c57, c58, c59, c60, c61, c62, c63, c64, c65, c66, c67, c68, c69, c70, c71, c72, c73, c74, c75, c76, c77, c78, c79, c80, c81, c82, c83, c84, c85, c86, c87, hl⟩ := r1
    refine ⟨c0, c1, c2, c3, c4, c5, c6, c7, c8, c9, c10, c11, c12, c13, c14, c15, c16, c17, c18, c19, c20, c21, c22, c23, c24, c25, c26, c27, c28, c29, c30, c31, c32, c33, c34, c35, c36, c37, c38, c39, c40, c41, c42, c43, c44, c45, c46, c47, c48, c49, c50, c51, c52, c53, c54, c55, c56, c57, c58, c59, c60, c61, c62, c63, c64, c65, c66, c67, c68, c69, c70, c71, c72, c73, c74, c75, c76, c77, c78, c79, c80, c81, c82, c83, c84, c85, c86, c87, fun k h1 h2 => ?_⟩
    rw [(ho (46 + k) (by omega) (by omega)).1, (ho (46 + k) (by omega) (by omega)).2.1]
    exact hl k h1 h2
  · by_cases h3 : 30 ≤ o ∧ o < 84
    · rw [(ho o h3.1 h3.2).2.2.1]
    · rw [offM (by omega)] at hz
      cases hz
  · unfold Rho at r3 ⊢
    rw [(ho 45 (by omega) (by omega)).2.2.2, (ho 62 (by omega) (by omega)).2.2.2]
    exact r3
  · obtain ⟨-, q2, q3⟩ := r3.1 k (by omega)
    rw [(ho (ρ k) (by omega) (by omega)).2.2.1]
    exact r4 k hk
  · rw [(ho (63 + k) (by omega) (by omega)).2.2.1]
    exact r5 k hk
  · rw [(ho 31 (by omega) (by omega)).2.2.1, (ho 32 (by omega) (by omega)).2.2.1, (ho 33 (by omega) (by omega)).2.2.1, (ho 34 (by omega) (by omega)).2.2.1, (ho 35 (by omega) (by omega)).2.2.1]
    exact r6 p hp
  · unfold KM at r7 ⊢
    rw [(ho 36 (by omega) (by omega)).2.2.1, (ho 37 (by omega) (by omega)).2.2.1]
    exact r7
  · unfold QM at r8 ⊢
    rw [(ho 30 (by omega) (by omega)).2.2.1, (ho 76 (by omega) (by omega)).2.2.1, (ho 77 (by omega) (by omega)).2.2.1]
    exact r8
  · unfold TM at r9 ⊢
    rw [(ho 71 (by omega) (by omega)).2.2.1]
    exact r9
  · rw [(ho 30 (by omega) (by omega)).2.2.1]
    exact r10 z
  · obtain ⟨e1, e2, e3⟩ := r11 e he
    rw [(ho 78 (by omega) (by omega)).2.2.1, (ho 79 (by omega) (by omega)).2.2.1, (ho 80 (by omega) (by omega)).2.2.2]
    refine ⟨e1, e2, fun z => ?_⟩
    obtain ⟨l, l1, l2, l3, l4, l5⟩ := e3 z
    obtain ⟨g1, g2, g3, -⟩ := hf l (Or.inr l2)
    refine ⟨l, l1, by rw [g1]; exact l2, by rw [g2]; exact l3, l4, ?_⟩
    rw [g3]
    exact l5
/-- no kinds behind the end -/
def WF (μ : Mm) : Prop := ∀ a, mN μ ≤ a → mK μ a = 0
/-- what the model's steps keep, with e ends told at most -/
def MK (b e : Nat) (μ μ' : Mm) : Prop := (WF μ → WF μ') ∧ mN μ ≤ mN μ' ∧ mN μ' ≤ mN μ + e ∧ mS μ' ≤ mS μ + 5 * e ∧ (∀ a, a < mN μ → a < b + 30 ∨ b + 84 ≤ a → mK μ' a = mK μ a ∧ mL μ' a = mL μ a ∧ mI μ' a = mI μ a ∧ mR μ' a = mR μ a ∧ mJ μ' a = mJ μ a) ∧ mI μ' (b + 30) 54 = mI μ (b + 30) 54
theorem CH.mk (g : CH b sMo μ μ') : MK b 0 μ μ' := by
  obtain ⟨g1, g2, g3, g4, g5, g6, g7⟩ := g
  refine ⟨fun w a h => ?_, by omega, by omega, by omega, fun a _ h => ⟨by rw [g1], by rw [g2], funext fun k => g7 a k fun o e => decide_eq_false (by omega), by rw [g3], by rw [g4]⟩, g7 _ _ fun o e => decide_eq_false (by omega)⟩
  rw [g1]
  exact w a (by omega)
theorem MK.trans {e1 e2 : Nat} (h : MK b e1 μ μ') (g : MK b e2 μ' μ2) : MK b (e1 + e2) μ μ2 := by
  obtain ⟨h1, h2, h3, h4, h5, h6⟩ := h
  obtain ⟨g1, g2, g3, g4, g5, g6⟩ := g
  refine ⟨fun w => g1 (h1 w), by omega, by omega, by omega, fun a ha hb => ?_, g6.trans h6⟩
  obtain ⟨x1, x2, x3, x4, x5⟩ := h5 a ha hb
  obtain ⟨y1, y2, y3, y4, y5⟩ := g5 a (by omega) hb
  exact ⟨y1.trans x1, y2.trans x2, y3.trans x3, y4.trans x4, y5.trans x5⟩
theorem MK.mono {e1 e2 : Nat} (h : MK b e1 μ μ') (he : e1 ≤ e2) : MK b e2 μ μ' := ⟨h.1, h.2.1, by have := h.2.2.1; omega, by have := h.2.2.2.1; omega, h.2.2.2.2⟩
/-! the oldest one leaves -/
def rot (ρ : Nat → Nat) (n : Nat) : Nat → Nat := fun k => if k < n then ρ (k + 1) else if k = n then ρ 0 else ρ k
theorem m_lvL {n r0 : Nat} (hn : n < 16) : ∀ (m j fu : Nat) (ν : Mm), m + j = n → m < fu → SM b ν → mI ν (b + 30) 23 = nI n → (∀ k, k < 16 → mR ν (b + 45) k = some (b + (if k < j then ρ (k + 1) else ρ k))) → (∀ k, k < 16 → 46 ≤ ρ k ∧ ρ k < 62) → 46 ≤ r0 ∧ r0 < 62 → ∃ ν', f_X11_leaves_b19 fu (b + 30) (b + r0) (nI j) ν = some ((), ν') ∧ mK ν' = mK ν ∧ mL ν' = mL ν ∧ mI ν' = mI ν ∧ mJ ν' = mJ ν ∧ mN ν' = mN ν ∧ mS ν' = mS ν ∧ (∀ a, a ≠ b + 45 → mR ν' a = mR ν a) ∧ ∀ k, k < 16 → mR ν' (b + 45) k = some (b + (if k < n then ρ (k + 1) else if k = n then r0 else ρ k))
  | 0, j, fu, ν, hm, hf, S0, h23, hR, hρ, hr0 => by
    obtain ⟨fu, rfl⟩ : ∃ n, fu = n + 1 := ⟨fu - 1, by omega⟩
    have s := S0
    unfold SM at s
    have sr := S0.row hr0
    have c1 : nI n ≤ nI j := nI_le (by omega) (by omega)
    refine ⟨sR ν (b + 45) n (some (b + r0)), ?_, rfl, rfl, rfl, rfl, rfl, rfl, fun a ha => mR_row _ _ ha, fun k hk => ?_⟩
    · simp only [f_X11_leaves_b19, f_X11_leaves_b47, s, sr, h23, c1, ckT, bdS, zlS, ckA, if_true, ck_t (inbN (p := n) (n := 16) (by omega) (by omega)), clN (show n < 100000 by omega)]
    · rw [mR_r]
      by_cases e : k = n
      · rw [if_pos ⟨rfl, e⟩, if_neg (by omega), if_pos e]
      · rw [if_neg (fun z => e z.2), if_neg e, hR k hk]
        have : j = n := by omega
        rw [this]
  | m + 1, j, fu, ν, hm, hf, S0, h23, hR, hρ, hr0 => by
    obtain ⟨fu, rfl⟩ : ∃ n, fu = n + 1 := ⟨fu - 1, by omega⟩
    have s := S0
    unfold SM at s
    have c1 : ¬ nI n ≤ nI j := nI_ge (by omega) (by omega)
    have hj1 := hR (j + 1) (by omega)
    rw [if_neg (by omega)] at hj1
    have sr := S0.row (hρ (j + 1) (by omega))
    obtain ⟨ν', e1, k1, k2, k3, k4, k5, k6, k7, k8⟩ := m_lvL hn m (j + 1) fu (sR ν (b + 45) j (some (b + ρ (j + 1)))) (by omega) (by omega) (S0.cg rfl rfl (mR_row _ _ (by omega))) h23 (fun k hk => by
      rw [mR_r]
      by_cases e : k = j
      · rw [if_pos ⟨rfl, e⟩, if_pos (by omega), e]
      · rw [if_neg (fun z => e z.2), hR k hk]
        by_cases e2 : k < j
        · rw [if_pos e2, if_pos (by omega)]
        · rw [if_neg e2, if_neg (by omega)]) hρ hr0
    refine ⟨ν', ?_, k1, k2, k3, k4, k5, k6, fun a ha => (k7 a ha).trans (mR_row _ _ ha), k8⟩
    rw [← e1]
    simp only [f_X11_leaves_b19, s, sr, h23, c1, ckT, bdS, zlS, ckA, if_false, nI_1, hj1, ck_t (inbN (p := j + 1) (n := 16) (by omega) (by omega)), clN (show j + 1 < 100000 by omega), ck_t (inbN (p := j) (n := 16) (by omega) (by omega)), clN (show j < 100000 by omega)]
theorem m_leaves (h : RM b A ρ μ) (hn9 : aS A 9 ≤ 16) (hn10 : aS A 10 ≤ 8) (h0 : 0 < aS A 9) : ∃ μ', f_X11_leaves (b + 30) μ = some ((), μ') ∧ RM b (shiftB A) (rot ρ (aS A 9 - 1)) μ' ∧ MK b 0 μ μ' ∧ mN μ' = mN μ ∧ (∀ o, 46 ≤ o → o < 62 → mI μ' (b + o) = mI μ (b + o)) := by
  obtain ⟨n, hn⟩ : ∃ n, aS A 9 = n + 1 := ⟨aS A 9 - 1, by omega⟩
  have hn1 : aS A 9 - 1 = n := by omega
  have s := h.1
  unfold SM at s
  have h23 : mI μ (b + 30) 23 = nI (aS A 9) := h.2.1.1 9 rfl
  obtain ⟨r1, r2, r3, r4, r5, r6, r7, r8, r9, r10, r11⟩ := h
  obtain ⟨ρ1, ρ2, ρ3⟩ := r3.1 0 (by omega)
  obtain ⟨μ1, hμ1⟩ : ∃ μ1, μ1 = sI μ (b + 30) 23 (nI n) := ⟨_, rfl⟩
  have S1 : SM b μ1 := by rw [hμ1]; exact r1.cg rfl rfl rfl
  have g1 : CH b (fun o k => o == 30 && k == 23) μ μ1 := by rw [hμ1]; exact CH.put rfl
  obtain ⟨μ2, e2, k1, k2, k3, k4, k5, k6, k7, k8⟩ := m_lvL (b := b) (ρ := ρ) (n := n) (r0 := ρ 0) (by omega) n 0 5000 μ1 (by omega) (by omega) S1 (by rw [hμ1, mI_at]) (fun k hk => by rw [if_neg (by omega), hμ1]; exact (r3.1 k hk).1) (fun k hk => (r3.1 k hk).2) ⟨ρ2, ρ3⟩
  have mi : ∀ o, o ≠ 30 → mI μ2 (b + o) = mI μ (b + o) := fun o ho => by rw [k3, hμ1, mI_row _ _ (by omega)]
  have m30 : mI μ2 (b + 30) = up1 (mI μ (b + 30)) 23 (nI n) := by rw [k3, hμ1, mI_up]
  have mr : ∀ o, o ≠ 45 → mR μ2 (b + o) = mR μ (b + o) := fun o ho => by rw [k7 _ (by omega), hμ1]; rfl
  have mk : mK μ2 = mK μ := by rw [k1, hμ1]; rfl
  have ml : mL μ2 = mL μ := by rw [k2, hμ1]; rfl
  have far : ∀ a, b + 86 ≤ a → mI μ2 a = mI μ a := fun a ha => by rw [k3, hμ1, mI_row _ _ (by omega)]
  refine ⟨μ2, ?_, ⟨r1.cg mk ml (mr 30 (by decide)), ?_, ⟨fun k hk => ?_, fun j k hjk hk => ?_, fun k hk => ?_⟩, fun k hk => ?_, fun j hj => ?_, fun p hp => ?_, ?_, ?_, ?_, fun z => ?_, fun e he => ?_⟩, ⟨fun w a ha => ?_, ?_, ?_, ?_, fun a ha hb => ?_, by rw [m30, up1_ne _ _ (by decide)]⟩, ?_, fun o h1 h2 => mi o (by omega)⟩
  · have p1 : nI (aS A 9) - 1 = nI n := by rw [hn]; exact nI_pred _
    have i016 : inb 0 16 := by decide
    have m0 : mR μ1 (b + 45) 0 = some (b + ρ 0) := by rw [hμ1]; exact ρ1
    have s1 := S1
    unfold SM at s1
    have e2' : f_X11_leaves_b19 5000 (b + 30) (b + ρ 0) 0 μ1 = some ((), μ2) := e2
    rw [← e2']
    simp only [f_X11_leaves, s, h23, p1, ckT, bdS, zlS, ckA, ← hμ1, s1, m0, tcL, ck_t i016]
  · have T := r2.putS mT_ok (i := 9) rfl (aS A 9 - 1)
    refine (T.keep (fun o k _ => ?_)).cg (fun i _ => rfl) (fun _ _ _ _ => rfl) (fun _ _ _ _ => rfl)
    rw [k3, hμ1, hn1]
    rfl
  · rw [k8 k hk]
    unfold rot
    rw [hn1]
    by_cases q : k < n
    · rw [if_pos q]
      exact ⟨rfl, (r3.1 (k + 1) (by omega)).2⟩
    · rw [if_neg q]
      by_cases q2 : k = n
      · rw [if_pos q2]
        exact ⟨rfl, ρ2, ρ3⟩
      · rw [if_neg q2]
        exact ⟨rfl, (r3.1 k hk).2⟩
  · have inj : ∀ a c, a < 16 → c < 16 → a ≠ c → ρ a ≠ ρ c := fun a c ha hc hac => by
      rcases Nat.lt_or_ge a c with q | q
      · exact r3.2.1 a c q hc
      · exact Ne.symm (r3.2.1 c a (by omega) ha)
    unfold rot
    rw [hn1]
    by_cases q : k < n
    · rw [if_pos q, if_pos (show j < n by omega)]
      exact inj _ _ (by omega) (by omega) (by omega)
    · rw [if_neg q]
      by_cases q2 : k = n
      · rw [if_pos q2, if_pos (show j < n by omega)]
        exact inj _ _ (by omega) (by omega) (by omega)
      · rw [if_neg q2]
        by_cases q3 : j < n
        · rw [if_pos q3]
          exact inj _ _ (by omega) (by omega) (by omega)
        · rw [if_neg q3]
          by_cases q4 : j = n
          · rw [if_pos q4]
            exact inj _ _ (by omega) (by omega) (by omega)
          · rw [if_neg q4]
            exact inj _ _ (by omega) (by omega) (by omega)
  · rw [mr 62 (by decide)]
    exact r3.2.2 k hk
  · have hk2 : k < n := by
      have e : aS (shiftB A) 9 = aS A 9 - 1 := zS_at _ _ _
      rw [e] at hk
      omega
    have e1 : rot ρ (aS A 9 - 1) k = ρ (k + 1) := by
      unfold rot
      rw [hn1, if_pos hk2]
    rw [e1, mi _ (by have := (r3.1 (k + 1) (by omega)).2; omega)]
    exact r4 (k + 1) (by omega)
  · rw [mi _ (by omega)]
    exact r5 j hj
  · rw [mi 31 (by decide), mi 32 (by decide), mi 33 (by decide), mi 34 (by decide), mi 35 (by decide)]
    exact r6 p hp
  · unfold KM at r7 ⊢
    rw [mi 36 (by decide), mi 37 (by decide)]
    exact r7
  · unfold QM at r8 ⊢
    rw [m30, up1_ne _ _ (by decide), mi 76 (by decide), mi 77 (by decide)]
    exact r8
  · unfold TM at r9 ⊢
    rw [mi 71 (by decide)]
    exact r9
  · rw [m30, up1_ne _ _ (by decide)]
    exact r10 z
  · obtain ⟨e1, e2, e3⟩ := r11 e he
    rw [mi 78 (by decide), mi 79 (by decide), mr 80 (by decide), mk, ml]
    refine ⟨e1, e2, fun z => ?_⟩
    obtain ⟨l, l1, l2, l3, l4, l5⟩ := e3 z
    refine ⟨l, l1, l2, l3, l4, ?_⟩
    rw [far l l4]
    exact l5
  · rw [mk]
    exact w a (by rw [k5, hμ1] at ha; exact ha)
  · rw [k5, hμ1]
    exact Nat.le_refl _
  · rw [k5, hμ1]
    exact Nat.le_refl _
  · rw [k6, hμ1]
    exact Nat.le_refl _
  · refine ⟨by rw [mk], by rw [ml], by rw [k3, hμ1, mI_row _ _ (by omega)], by rw [k7 _ (by omega), hμ1]; rfl, by rw [k4, hμ1]; rfl⟩
  · rw [k5, hμ1]
    rfl
end MTE
