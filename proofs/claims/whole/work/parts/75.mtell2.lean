/-! the model: ends are told, cycles are lost -/
section MT2
variable {b : Nat} {A B A' : Sx} {ρ : Nat → Nat} {μ μ' μ2 : Mm} {S : Nat → Nat → Bool}
theorem nwKa (μ : Mm) (κ l s : Nat) : mK (nw μ κ l s) (mN μ) = κ := up1_eq _ _ _
theorem nwLa (μ : Mm) (κ l s : Nat) : mL (nw μ κ l s) (mN μ) = l := up1_eq _ _ _
theorem m_loses {c : Int32} {i : Nat} (h : RM b A ρ μ) (n9 : aS A 9 ≤ 16) (n10 : aS A 10 ≤ 8) (hr : f_X11_reason c = some (nI i)) (hi : i < 8) : ∃ μ', f_X11_loses (b + 30) c μ = some ((), μ') ∧ RM b (lose A i) ρ μ' ∧ CH b sMo μ μ' := by
  have s := h.1
  unfold SM at s
  have e81 : mI μ (b + 81) i = nI (aN A 7 i) := h.2.1.2.1 7 i (by omega) hi
  have ne : ¬ nI i = -1 := nI_m1 (by omega)
  have hb := inbN (p := i) (n := 8) hi (by omega)
  have hc := clN (show i < 100000 by omega)
  refine ⟨sI μ (b + 81) i (nI (aN A 7 i + 1)), ?_, ?_, CH.put rfl⟩
  · simp only [f_X11_loses, hr, bdS, ne, if_false, s, ckT, ckA, ck_t hb, hc, e81, nI_1, zlS]
  · refine h.next (S := fun o _ => o == 81) (h.2.1.putN mT_ok (q := 7) (j := i) (by omega) hi _) (CH.put rfl) (fun o j z => ?_) n9 n10 ⟨fun r h1 h2 => zN_ne _ _ _ (by omega), rfl⟩ (Nat.le_refl _) (fun _ _ => rfl) (Nat.le_refl _) (fun _ _ => rfl) rfl rfl rfl rfl rfl (fun z => ⟨z, rfl⟩) rfl (fun r hr => zN_ne _ _ _ (by omega)) rfl
    simp only [beq_iff_eq] at z
    exact decide_eq_true (by omega)
/-- an end without an entry -/
def sTe (o k : Nat) : Bool := decide ((o = 30 ∧ k = 46) ∨ o = 78 ∨ o = 79)
theorem m_tell9 {p : Nat} (h : RM b A ρ μ) (n9 : aS A 9 ≤ 16) (n10 : aS A 10 ≤ 8) (h14 : aS A 14 < 2004) : ∃ μ', f_X11_tellsEnd_n2 (b + 30) (nI 9) (nI p) μ = some ((), μ') ∧ RM b (tell A 9 p 0 0 0 0 (-1)) ρ μ' ∧ CH b sMo μ μ' := by
  have s := h.1
  unfold SM at s
  obtain ⟨e, he⟩ : ∃ e, e = aS A 14 := ⟨_, rfl⟩
  have h46 : mI μ (b + 30) 46 = nI e := by rw [he]; exact h.2.1.1 14 rfl
  have hb := inbN (p := e) (n := 2004) (by omega) (by omega)
  have hc := clN (show e < 100000 by omega)
  have n1 : b + 30 ≠ b + 78 := by omega
  have n2 : b + 30 ≠ b + 79 := by omega
  obtain ⟨μ1, hμ1⟩ : ∃ μ1, μ1 = sI (sI (sI μ (b + 78) e (nI 9)) (b + 79) e (nI p)) (b + 30) 46 (nI (e + 1)) := ⟨_, rfl⟩
  have g : CH b sTe μ μ1 := by
    rw [hμ1]
    exact ((CH.put rfl).trans (CH.put rfl)).trans (CH.put rfl)
  have fs : ∀ {o k : Nat}, ¬ ((o = 30 ∧ k = 46) ∨ o = 78 ∨ o = 79) → sTe o k = false := fun h => decide_eq_false h
  refine ⟨μ1, ?_, ?_, g.mono fun o k z => ?_⟩
  · rw [hμ1]
    simp only [f_X11_tellsEnd_n2, f_X11_tellsEnd_n2_b82, s, h46, ckT, bdS, zlS, ckA, ck_t hb, hc, nI_1, mK_sI, mL_sI, mR_sI', mI_ne _ _ (Or.inl n1), mI_ne _ _ (Or.inl n2)]
  · obtain ⟨r1, r2, r3, r4, r5, r6, r7, r8, r9, r10, r11⟩ := h
    have hS : ∀ i, i ≠ 14 → aS (tell A 9 p 0 0 0 0 (-1)) i = aS A i := fun i hi => by
      unfold tell
      exact zS_ne _ _ hi
    refine ⟨r1.ch g, ?_, r3.ch g, fun k hk => ?_, fun k hk => ?_, fun q hq => ?_, ?_, ?_, r9.ch g (fun k => fs (by omega)), fun z => ?_, fun e2 he2 => ?_⟩
    · have T0 : RT mT b A (sI (sI μ (b + 78) e (nI 9)) (b + 79) e (nI p)) := (r2.off (o := 78) _ (offM (by omega) _)).off (o := 79) _ (offM (by omega) _)
      rw [hμ1]
      refine (T0.putS mT_ok (i := 14) rfl (e + 1)).cg (fun i _ => ?_) (fun r k hr _ => ?_) (fun r k hr _ => ?_)
      · rw [he]
        rfl
      · have : aN (tell A 9 p 0 0 0 0 (-1)) r = aN A r := by
          unfold tell
          show aN (zN (zN (zN (zN (zN (zN A 14 _ 9) 15 _ p) 20 _ 0) 21 _ 0) 22 _ 0) 23 _ 0) r = _
          rw [zN_ne _ _ _ (by omega), zN_ne _ _ _ (by omega), zN_ne _ _ _ (by omega), zN_ne _ _ _ (by omega), zN_ne _ _ _ (by omega), zN_ne _ _ _ (by omega)]
        rw [this]
        rfl
      · have : aV (tell A 9 p 0 0 0 0 (-1)) r = aV A r := up2_ne _ _ _ (by omega)
        rw [this]
        rfl
    · exact (r4.ch n9 r3 g (fun o k _ _ => fs (by omega))) k (by rw [hS 9 (by decide)] at hk; exact hk)
    · exact (r5.ch n10 g (fun o k _ _ => fs (by omega))) k (by rw [hS 10 (by decide)] at hk; exact hk)
    · exact (r6.ch g (fun o k _ _ => fs (by omega))) q (by rw [hS 15 (by decide)] at hq; exact hq)
    · exact r7.ch g (fun o k _ _ => fs (by omega))
    · exact r8.ch g (fs (by omega)) (fun o k _ _ => fs (by omega))
    · have z1 : aS A 12 = 0 := by rw [← hS 12 (by decide)]; exact z
      rw [hS 11 (by decide)]
      exact (r10.ch g (fs (by omega))) z1
    · have he3 : e2 < e + 1 := by
        have : aS (tell A 9 p 0 0 0 0 (-1)) 14 = aS A 14 + 1 := by
          unfold tell
          exact zS_at _ _ _
        rw [this] at he2
        omega
      have m78 : mI μ1 (b + 78) = up1 (mI μ (b + 78)) e (nI 9) := by rw [hμ1, mI_row _ _ (by omega), mI_row _ _ (by omega), mI_up]
      have m79 : mI μ1 (b + 79) = up1 (mI μ (b + 79)) e (nI p) := by rw [hμ1, mI_row _ _ (by omega), mI_up, mI_row _ _ (by omega)]
      have a14 : aN (tell A 9 p 0 0 0 0 (-1)) 14 = up1 (aN A 14) e 9 := by rw [he]; rfl
      have a15 : aN (tell A 9 p 0 0 0 0 (-1)) 15 = up1 (aN A 15) e p := by rw [he]; rfl
      have a20 : aN (tell A 9 p 0 0 0 0 (-1)) 20 = up1 (aN A 20) e 0 := by rw [he]; rfl
      have a21 : aN (tell A 9 p 0 0 0 0 (-1)) 21 = up1 (aN A 21) e 0 := by rw [he]; rfl
      have a22 : aN (tell A 9 p 0 0 0 0 (-1)) 22 = up1 (aN A 22) e 0 := by rw [he]; rfl
      have a23 : aN (tell A 9 p 0 0 0 0 (-1)) 23 = up1 (aN A 23) e 0 := by rw [he]; rfl
      have a8 : aV (tell A 9 p 0 0 0 0 (-1)) 8 = up1 (aV A 8) e (-1) := by rw [he]; rfl
      rw [m78, m79, a14, a15, a20, a21, a22, a23, a8]
      by_cases q : e2 = e
      · subst q
        rw [up1_eq, up1_eq, up1_eq, up1_eq]
        exact ⟨rfl, rfl, fun z => absurd rfl z⟩
      · simp only [up1_ne _ _ q]
        obtain ⟨f1, f2, f3⟩ := r11 e2 (by omega)
        refine ⟨f1, f2, fun z => ?_⟩
        obtain ⟨l, l1, l2, l3, l4, l5⟩ := f3 z
        refine ⟨l, by rw [g.2.2.1]; exact l1, by rw [g.1]; exact l2, by rw [g.2.1]; exact l3, l4, ?_⟩
        rw [g.far (fun o k z => by have := of_decide_eq_true z; omega) l4]
        exact l5
  · have := of_decide_eq_true z
    exact decide_eq_true (by omega)
theorem m_tellE {r0 kd : Nat} {x : Ent} (h : RM b A ρ μ) (w : WF μ) (hN : b + 86 ≤ mN μ) (n9 : aS A 9 ≤ 16) (n10 : aS A 10 ≤ 8) (c : CF A) (hr : 46 ≤ r0 ∧ r0 < 62) (re : REm A x (mI μ (b + r0))) (ho : x.1 0 < aS A 15) (h14 : aS A 14 < 2004) (hs : x.1 10 = 101) : ∃ μ', f_X11_tellsEnd (b + 30) (nI kd) (nI (x.1 0)) (b + r0) μ = some ((), μ') ∧ RM b (tellE A x kd) ρ μ' ∧ MK b 1 μ μ' ∧ (∀ o, 46 ≤ o → o < 62 → mI μ' (b + o) = mI μ (b + o)) := by
  have s := h.1
  unfold SM at s
  have sr := h.1.row hr
  have hp := c.p ho
  obtain ⟨e, he⟩ : ∃ e, e = aS A 14 := ⟨_, rfl⟩
  obtain ⟨N, hNN⟩ : ∃ N, N = mN μ := ⟨_, rfl⟩
  have h46 : mI μ (b + 30) 46 = nI e := by rw [he]; exact h.2.1.1 14 rfl
  have h36 : mI μ (b + 30) 36 = nI (aS A 0) := h.2.1.1 0 rfl
  have hb := inbN (p := e) (n := 2004) (by omega) (by omega)
  have hc := clN (show e < 100000 by omega)
  have n1 : b + 30 ≠ b + 78 := by omega
  have n2 : b + 30 ≠ b + 79 := by omega
  have n3 : b + r0 ≠ b + 78 := by omega
  have n4 : b + r0 ≠ b + 79 := by omega
  have m1 : b + r0 ≠ N := by omega
  have m2 : b + 30 ≠ N := by omega
  have x0 := re.1
  have x1 := re.2.1
  have x2 := re.2.2.1
  obtain ⟨w11, w3, w12, w4, -⟩ := re.d
  have x4 := w4 hs
  obtain ⟨v, hv⟩ : ∃ v : Int32, v = if isQd (eC A x) = true then nI (x.1 3) else -1 := ⟨_, rfl⟩
  obtain ⟨μ2, hμ2⟩ : ∃ μ2, μ2 = sI (sI μ (b + 78) e (nI kd)) (b + 79) e (nI (x.1 0)) := ⟨_, rfl⟩
  have N2 : mN μ2 = N := by rw [hμ2, hNN]; rfl
  have K2 : mK μ2 = mK μ := by rw [hμ2]; rfl
  have L2 : mL μ2 = mL μ := by rw [hμ2]; rfl
  have R2 : mR μ2 = mR μ := by rw [hμ2]; rfl
  have J2 : mJ μ2 = mJ μ := by rw [hμ2]; rfl
  have I2 : ∀ a, a ≠ b + 78 → a ≠ b + 79 → mI μ2 a = mI μ a := fun a h1 h2 => by rw [hμ2, mI_row _ _ h2, mI_row _ _ h1]
  obtain ⟨μ5, hμ5⟩ : ∃ μ5, μ5 = sI (sI (nw μ2 71 5 5) N 0 (nI (x.1 1))) N 1 (nI (x.1 2)) := ⟨_, rfl⟩
  have K5 : ∀ a, a ≠ N → mK μ5 a = mK μ a := fun a ha => by
    rw [hμ5]
    show mK (nw μ2 71 5 5) a = _
    rw [nwK _ _ _ _ (by rw [N2]; exact ha), K2]
  have L5 : ∀ a, a ≠ N → mL μ5 a = mL μ a := fun a ha => by
    rw [hμ5]
    show mL (nw μ2 71 5 5) a = _
    rw [nwL _ _ _ _ (by rw [N2]; exact ha), L2]
  have R5 : ∀ a, a ≠ N → mR μ5 a = mR μ a := fun a ha => by
    rw [hμ5]
    show mR (nw μ2 71 5 5) a = _
    rw [nwR _ _ _ _ (by rw [N2]; exact ha), R2]
  have J5 : ∀ a, a ≠ N → mJ μ5 a = mJ μ a := fun a ha => by
    rw [hμ5]
    show mJ (nw μ2 71 5 5) a = _
    rw [nwJ _ _ _ _ (by rw [N2]; exact ha), J2]
  have I5 : ∀ a, a ≠ N → mI μ5 a = mI μ2 a := fun a ha => by
    rw [hμ5, mI_row _ _ ha, mI_row _ _ ha, nwI _ _ _ _ (by rw [N2]; exact ha)]
  have kN : mK μ5 N = 71 := by
    rw [hμ5]
    show mK (nw μ2 71 5 5) N = _
    rw [← N2]
    exact nwKa _ _ _ _
  have lN : mL μ5 N = 5 := by
    rw [hμ5]
    show mL (nw μ2 71 5 5) N = _
    rw [← N2]
    exact nwLa _ _ _ _
  have S5 : SM b μ5 := h.1.cg2 (fun o ho => K5 _ (by omega)) (fun o ho => L5 _ (by omega)) (R5 _ (by omega))
  have P5 : PM b A μ5 := fun p hp => by
    rw [I5 _ (by omega), I5 _ (by omega), I5 _ (by omega), I5 _ (by omega), I5 _ (by omega), I2 _ (by omega) (by omega), I2 _ (by omega) (by omega), I2 _ (by omega) (by omega), I2 _ (by omega) (by omega), I2 _ (by omega) (by omega)]
    exact h.2.2.2.2.2.1 p hp
  have sr5 := S5.row hr
  have row5 : mI μ5 (b + r0) = mI μ (b + r0) := by rw [I5 _ m1, I2 _ n3 n4]
  have c30 : mI μ5 (b + 30) = mI μ (b + 30) := by rw [I5 _ m2, I2 _ n1 n2]
  have hco : f_X11_codeOf (b + 30) (b + r0) μ5 = some (nI (eC A x)) := m_codeOf S5 P5 c.2.2.2.2.1 sr5.1 sr5.2 (by rw [row5]; exact x0) ho
  have hec : eC A x = aN A 10 (x.1 0) := rfl
  have hcq := m_isQ (eC A x) (by rw [hec]; omega)
  obtain ⟨μ9, hμ9⟩ : ∃ μ9, μ9 = sI (sR (sI (sI (sI μ5 N 2 v) N 3 (nI (x.1 4))) N 4 (nI (aS A 0))) (b + 80) e (some N)) (b + 30) 46 (nI (e + 1)) := ⟨_, rfl⟩
  have base : f_X11_tellsEnd (b + 30) (nI kd) (nI (x.1 0)) (b + r0) μ = f_X11_tellsEnd_b67 (b + 30) (b + r0) v 2 N N (nI e) (b + 80) μ5 := by
    have K3 : mK (nw μ2 71 5 5) (b + r0) = 11 := by rw [nwK _ _ _ _ (by rw [N2]; exact m1), K2]; exact sr.1
    have L3 : mL (nw μ2 71 5 5) (b + r0) = 28 := by rw [nwL _ _ _ _ (by rw [N2]; exact m1), L2]; exact sr.2
    have I3 : mI (nw μ2 71 5 5) (b + r0) = mI μ (b + r0) := by rw [nwI _ _ _ _ (by rw [N2]; exact m1), I2 _ n3 n4]
    have K3N : mK (nw μ2 71 5 5) N = 71 := by rw [← N2]; exact nwKa _ _ _ _
    have L3N : mL (nw μ2 71 5 5) N = 5 := by rw [← N2]; exact nwLa _ _ _ _
    have i46 : mI μ2 (b + 30) 46 = nI e := by rw [I2 _ n1 n2]; exact h46
    have K30 : mK μ5 (b + 30) = 112 := by rw [K5 _ m2]; exact h.1.1
    have K330 : mK (nw μ2 71 5 5) (b + 30) = 112 := by rw [nwK _ _ _ _ (by rw [N2]; exact m2), K2]; exact h.1.1
    have K230 : mK μ2 (b + 30) = 112 := by rw [K2]; exact h.1.1
    have R2a : mR μ2 (b + 30) 45 = some (b + 80) := by
      rw [R2]
      simp only [s]
    cases hq : isQd (eC A x)
    · rw [hq] at hcq
      rw [hq, if_neg Bool.false_ne_true] at hv
      rw [hv]
      simp only [f_X11_tellsEnd, s, sr, h46, ckT, bdS, zlS, ckA, ckI, tcL, ck_t hb, hc, mK_sI, mL_sI, mR_sI', mI_ne _ _ (Or.inl n1), mI_ne _ _ (Or.inl n2), ← hμ2, N2, ck_t (show smn 5 by decide), K3, L3, I3, K3N, L3N, mI_row _ _ m1, x1, x2, ← hμ5, K30, hco, hcq, bI, Bool.false_eq_true, if_false, if_true, i46, R2a, K230, K330]
    · rw [hq] at hcq
      rw [hq, if_pos rfl] at hv
      rw [hv]
      have x3 : mI μ5 (b + r0) 3 = nI (x.1 3) := by rw [row5]; exact w3 hq (by omega)
      have n10 : ¬ (1 : Int32) = 0 := by decide
      simp only [f_X11_tellsEnd, s, sr, h46, ckT, bdS, zlS, ckA, ckI, tcL, ck_t hb, hc, mK_sI, mL_sI, mR_sI', mI_ne _ _ (Or.inl n1), mI_ne _ _ (Or.inl n2), ← hμ2, N2, ck_t (show smn 5 by decide), K3, L3, I3, K3N, L3N, mI_row _ _ m1, x1, x2, ← hμ5, K30, hco, hcq, bI, n10, if_false, if_true, i46, R2a, K230, K330, x3, sr5]
  have K9 : ∀ a, mK μ9 a = mK μ5 a := fun a => by rw [hμ9]; rfl
  have L9 : ∀ a, mL μ9 a = mL μ5 a := fun a => by rw [hμ9]; rfl
  have R9 : ∀ a, a ≠ b + 80 → mR μ9 a = mR μ5 a := fun a ha => by
    rw [hμ9]
    show mR (sR _ (b + 80) e (some N)) a = _
    rw [mR_row _ _ ha]
    rfl
  have J9 : mJ μ9 = mJ μ5 := by rw [hμ9]; rfl
  have I9 : ∀ a, a ≠ N → a ≠ b + 30 → mI μ9 a = mI μ5 a := fun a h1 h2 => by
    rw [hμ9, mI_row _ _ h2, mI_sR', mI_row _ _ h1, mI_row _ _ h1, mI_row _ _ h1]
  have mi : ∀ o, o < 86 → o ≠ 30 → o ≠ 78 → o ≠ 79 → mI μ9 (b + o) = mI μ (b + o) := fun o h1 h2 h3 h4 => by rw [I9 _ (by omega) (by omega), I5 _ (by omega), I2 _ (by omega) (by omega)]
  have m30 : mI μ9 (b + 30) = up1 (mI μ (b + 30)) 46 (nI (e + 1)) := by
    rw [hμ9, mI_up, mI_sR', mI_row _ _ m2, mI_row _ _ m2, mI_row _ _ m2, c30]
  have far : ∀ a, b + 86 ≤ a → a ≠ N → mI μ9 a = mI μ a := fun a h1 h2 => by rw [I9 _ h2 (by omega), I5 _ h2, I2 _ (by omega) (by omega)]
  refine ⟨μ9, ?_, ?_, ⟨fun _ a ha => ?_, ?_, ?_, ?_, fun a ha hb => ?_, by rw [m30, up1_ne _ _ (by decide)]⟩, fun o h1 h2 => mi o (by omega) (by omega) (by omega) (by omega)⟩
  · rw [base]
    have x4' : mI μ5 (b + r0) 4 = nI (x.1 4) := by rw [row5]; exact x4
    have i36 : mI μ5 (b + 30) 36 = nI (aS A 0) := by rw [c30]; exact h36
    have i46 : mI μ5 (b + 30) 46 = nI e := by rw [c30]; exact h46
    have s5 := S5
    unfold SM at s5
    rw [hμ9]
    simp only [f_X11_tellsEnd_b67, f_X11_tellsEnd_b82, s5, sr5, kN, lN, ckT, bdS, zlS, ckA, ckI, tcL, mK_sI, mL_sI, mR_sI', mK_sR, mL_sR, mI_sR', mI_row _ _ m1, mI_row _ _ m2, x4', i36, i46, ck_t hb, hc, nI_1]
  · obtain ⟨r1, r2, r3, r4, r5, r6, r7, r8, r9, r10, r11⟩ := h
    have tf := tellE_f A x kd
    have hS := tf.1
    refine ⟨r1.cg2 (fun o ho => (K9 _).trans (K5 _ (by omega))) (fun o ho => (L9 _).trans (L5 _ (by omega))) ((R9 _ (by omega)).trans (R5 _ (by omega))), ?_, ?_, fun k hk => ?_, fun k hk => ?_, fun q hq => ?_, ?_, ?_, ?_, fun z => ?_, fun e2 he2 => ?_⟩
    · have T : RT mT b (zS A 14 (e + 1)) (sI μ (b + 30) 46 (nI (e + 1))) := r2.putS mT_ok (i := 14) rfl (e + 1)
      refine (T.keep (μ' := μ9) (fun o k hz => ?_)).cg (fun i _ => ?_) (fun r k hr _ => ?_) (fun r k hr _ => ?_)
      · by_cases h30 : o = 30
        · rw [h30, m30, mI_up]
        · have ho : ¬ (o = 78 ∨ o = 79) ∧ o < 86 := by
            constructor
            · intro zz
              rw [offM (by omega)] at hz
              cases hz
            · exact offT_lt (Or.inr rfl) hz
          rw [mi o ho.2 h30 (by omega) (by omega), mI_row _ _ (by omega)]
      · rw [he]
        rfl
      · rw [tf.2.2.1 r (by omega)]
        rfl
      · rw [tf.2.2.2.2.2.1 r (by omega)]
        rfl
    · unfold Rho at r3 ⊢
      rw [R9 _ (by omega), R9 _ (by omega), R5 _ (by omega), R5 _ (by omega)]
      exact r3
    · rw [hS 9 (by decide)] at hk
      have := (r3.1 k (by omega)).2
      rw [mi _ (by omega) (by omega) (by omega) (by omega), tf.2.2.2.2.2.2.1]
      exact (r4 k hk).cg ⟨fun r h1 h2 => tf.2.2.1 r (by omega), tf.2.2.2.2.2.1 5 (by decide)⟩
    · rw [hS 10 (by decide)] at hk
      rw [mi _ (by omega) (by omega) (by omega) (by omega), tf.2.2.2.2.2.2.2.1]
      exact (r5 k hk).cg ⟨fun r h1 h2 => tf.2.2.1 r (by omega), tf.2.2.2.2.2.1 5 (by decide)⟩
    · rw [hS 15 (by decide)] at hq
      rw [mi 31 (by decide) (by decide) (by decide) (by decide), mi 32 (by decide) (by decide) (by decide) (by decide), mi 33 (by decide) (by decide) (by decide) (by decide), mi 34 (by decide) (by decide) (by decide) (by decide), mi 35 (by decide) (by decide) (by decide) (by decide), tf.2.2.1 10 (by decide), tf.2.2.1 11 (by decide), tf.2.2.1 12 (by decide), tf.2.2.1 13 (by decide), tf.2.2.2.2.2.1 5 (by decide)]
      exact r6 q hq
    · unfold KM at r7 ⊢
      rw [mi 36 (by decide) (by decide) (by decide) (by decide), mi 37 (by decide) (by decide) (by decide) (by decide), tf.2.2.2.2.2.1 6 (by decide), tf.2.2.2.2.2.1 7 (by decide)]
      exact r7
    · unfold QM at r8 ⊢
      rw [m30, up1_ne _ _ (by decide), mi 76 (by decide) (by decide) (by decide) (by decide), mi 77 (by decide) (by decide) (by decide) (by decide)]
      exact r8
    · unfold TM at r9 ⊢
      rw [mi 71 (by decide) (by decide) (by decide) (by decide)]
      exact r9
    · rw [hS 12 (by decide)] at z
      rw [m30, up1_ne _ _ (by decide), hS 11 (by decide)]
      exact r10 z
    · rw [tf.2.1] at he2
      have m78 : mI μ9 (b + 78) = up1 (mI μ (b + 78)) e (nI kd) := by rw [I9 _ (by omega) (by omega), I5 _ (by omega), hμ2, mI_row _ _ (by omega), mI_up]
      have m79 : mI μ9 (b + 79) = up1 (mI μ (b + 79)) e (nI (x.1 0)) := by rw [I9 _ (by omega) (by omega), I5 _ (by omega), hμ2, mI_up, mI_row _ _ (by omega)]
      have r80 : mR μ9 (b + 80) = up1 (mR μ (b + 80)) e (some N) := by
        rw [hμ9]
        show mR (sR _ (b + 80) e (some N)) (b + 80) = _
        funext k
        rw [mR_r, up1_if]
        by_cases q : k = e
        · rw [if_pos ⟨rfl, q⟩, if_pos q]
        · rw [if_neg (fun z => q z.2), if_neg q]
          show mR μ5 (b + 80) k = _
          rw [R5 _ (by omega)]
      have iN : mI μ9 N 0 = nI (x.1 1) ∧ mI μ9 N 1 = nI (x.1 2) ∧ mI μ9 N 2 = v ∧ mI μ9 N 3 = nI (x.1 4) ∧ mI μ9 N 4 = nI (aS A 0) := by
        rw [hμ9, mI_row _ _ (show N ≠ b + 30 by omega), mI_sR', mI_up, mI_up, mI_up, hμ5, mI_up, mI_up]
        exact ⟨rfl, rfl, rfl, rfl, rfl⟩
      have a14 : aN (tellE A x kd) 14 = up1 (aN A 14) e kd := by rw [he]; rfl
      have a15 : aN (tellE A x kd) 15 = up1 (aN A 15) e (x.1 0) := by rw [he]; rfl
      have a20 : aN (tellE A x kd) 20 = up1 (aN A 20) e (x.1 1) := by rw [he]; rfl
      have a21 : aN (tellE A x kd) 21 = up1 (aN A 21) e (x.1 2) := by rw [he]; rfl
      have a22 : aN (tellE A x kd) 22 = up1 (aN A 22) e (x.1 4) := by rw [he]; rfl
      have a23 : aN (tellE A x kd) 23 = up1 (aN A 23) e (aS A 0) := by rw [he]; rfl
      have a8 : aV (tellE A x kd) 8 = up1 (aV A 8) e v := by rw [he, hv]; rfl
      rw [m78, m79, r80, a14, a15, a20, a21, a22, a23, a8]
      by_cases q : e2 = e
      · subst q
        simp only [up1_eq]
        exact ⟨trivial, trivial, fun _ => ⟨N, rfl, (K9 _).trans kN, (L9 _).trans lN, by omega, iN.1, iN.2.1, iN.2.2.1, iN.2.2.2.1, iN.2.2.2.2⟩⟩
      · simp only [up1_ne _ _ q]
        obtain ⟨f1, f2, f3⟩ := r11 e2 (by omega)
        refine ⟨f1, f2, fun z => ?_⟩
        obtain ⟨l, l1, l2, l3, l4, l5⟩ := f3 z
        have lN2 : l ≠ N := fun zz => by
          have := w l (by omega)
          rw [this] at l2
          cases l2
        refine ⟨l, l1, by rw [K9, K5 _ lN2]; exact l2, by rw [L9, L5 _ lN2]; exact l3, l4, ?_⟩
        rw [far l l4 lN2]
        exact l5
  · have hn9 : mN μ9 = N + 1 := by
      rw [hμ9, hμ5]
      show mN μ2 + 1 = _
      rw [N2]
    rw [K9, K5 _ (by omega)]
    exact w a (by omega)
  · have hn9 : mN μ9 = N + 1 := by
      rw [hμ9, hμ5]
      show mN μ2 + 1 = _
      rw [N2]
    omega
  · have hn9 : mN μ9 = N + 1 := by
      rw [hμ9, hμ5]
      show mN μ2 + 1 = _
      rw [N2]
    omega
  · have : mS μ9 = mS μ + 5 := by
      rw [hμ9, hμ5, hμ2]
      rfl
    omega
  · have ha2 : a ≠ N := by omega
    refine ⟨(K9 _).trans (K5 _ ha2), (L9 _).trans (L5 _ ha2), ?_, (R9 _ (by omega)).trans (R5 _ ha2), by rw [J9, J5 _ ha2]⟩
    rw [I9 _ ha2 (by omega), I5 _ ha2, I2 _ (by omega) (by omega)]
end MT2
