/-! the model: endings of controls and stores -/
section MEN3
variable {b : Nat} {A B A' : Sx} {ρ : Nat → Nat} {μ μ' : Mm} {S : Nat → Nat → Bool}
theorem goOn_eq (B : Sx) (m p : Nat) (t : List Nat) : throwN (zS (zS (zS (zT B t) 11 p) 12 0) 10 0) m = goOn (throwN (zS B 10 0) m) p t := by
  have e : zS (zS (zS (zT B t) 11 p) 12 0) 10 0 = zS (zS (zT (zS B 10 0) t) 11 p) 12 0 := by
    rw [zS_comm _ _ _ (show (12 : Nat) ≠ 10 by decide), zS_comm _ _ _ (show (11 : Nat) ≠ 10 by decide)]
    rfl
  rw [e, throwN_zS _ (by decide) (by decide) (by decide), throwN_zS _ (by decide) (by decide) (by decide), throwN_zT]
  rfl
theorem m_goThrow {n p : Nat} (h : RM b B ρ μ) (z : IBz B) (n10 : aS B 10 ≤ 8) (hn : n ≤ aS B 9) : ∃ μ1 μ', f_X11_goesOn (b + 30) (nI p) μ = some ((), μ1) ∧ mK μ1 (b + 30) = 112 ∧ f_X11_throwsFrom (b + 30) (nI n) μ1 = some ((), μ') ∧ RM b (throwN (zS (zS (zS B 11 p) 12 0) 10 0) (aS B 9 - n)) ρ μ' ∧ CH b sMo μ μ' := by
  have hn9 : aS B 9 ≤ 16 := by have := z.2.1.1; have := z.1.2.1; omega
  obtain ⟨μ1, e1, h1, g1⟩ := m_goesOn (p := p) h hn9
  have z1 : IBz (zS (zS (zS B 11 p) 12 0) 10 0) := z.cg (fun i hi => by
    rw [zS_ne _ _ (by omega), zS_ne _ _ (by omega), zS_ne _ _ (by omega)]) (fun _ _ _ => rfl) (fun _ _ => rfl) rfl rfl (z.2.1.2.2.2.2.2.2)
  obtain ⟨μ2, e2, h2, g2⟩ := m_throws (at_ := n) h1 z1 (by rw [zS_at]; omega) (by rw [zS_ne _ _ (by decide), zS_ne _ _ (by decide), zS_ne _ _ (by decide)]; exact hn)
  refine ⟨μ1, μ2, e1, h1.1.1, e2, h2, (g1.mono fun o k hh => ?_).trans (g2.mono fun o k hh => ?_)⟩
  · unfold sGo at hh
    simp only [Bool.and_eq_true, Bool.or_eq_true, beq_iff_eq] at hh
    exact decide_eq_true (by omega)
  · unfold sThr at hh
    simp only [Bool.and_eq_true, Bool.or_eq_true, beq_iff_eq] at hh
    exact decide_eq_true (by omega)
theorem m_finds {r p ra rb c : Nat} (S : SM b μ) (hT : RT mT b A μ) (P : PM b A μ) (hnp : aS A 15 ≤ 64) (hr : 46 ≤ r ∧ r < 62) (h0 : mI μ (b + r) 0 = nI p) (hp : p < aS A 15) (h7 : mI μ (b + r) 7 = nI ra) (h8 : mI μ (b + r) 8 = nI rb) (ha : ra < 24) (hb : rb < 24) (hc : c = 12 ∨ c = 13 ∨ c = 16 ∨ c = 17) :
    ∃ μ', f_X11_finds (b + 30) (b + r) (nI c) μ = some ((), μ') ∧ CH b (sRow r) μ μ' ∧ mI μ' (b + r) 6 = goV c p (aV A 1 ra) (aV A 1 rb) (aV A 5 p) ∧ (mI μ' (b + r) 13 = if isLp c = true then nI (tpV c (aV A 1 ra) (aV A 1 rb) (aV A 5 p)) else mI μ (b + r) 13) ∧ ∀ j, j ≠ 6 → j ≠ 13 → mI μ' (b + r) j = mI μ (b + r) j := by
  have s := S
  unfold SM at s
  have s2 := S.row hr
  have hv := hT.v1 ha
  have hv2 := hT.v1 hb
  have pn := (P p hp).2.2.2.2
  have n1 : b + 30 ≠ b + r := by omega
  have n2 : b + 42 ≠ b + r := by omega
  have n3 : b + 35 ≠ b + r := by omega
  have gp : ∀ {ν : Mm} {k : Nat} {v : Int32}, CH b (sRow r) ν (sI ν (b + r) k v) := CH.put (sRow_at _ _)
  have n10 : ¬ (1 : Int32) = 0 := by decide
  rcases hc with e | e | e | e <;> subst e
  · have d12 : (nI 12 = 12) = True := by decide
    have d16 : (nI 12 = 16) = False := by decide
    have d17 : (nI 12 = 17) = False := by decide
    by_cases q : aV A 1 ra = aV A 1 rb
    · refine ⟨sI μ (b + r) 6 (aV A 5 p), ?_, gp, ?_, ?_, fun j h1 h2 => mI_ne _ _ (Or.inr h1)⟩
      · simp only [f_X11_finds, f_X11_finds_b58, f_X11_finds_b84, s, s2, ckT, bdS, zlS, ckA, ckI, tcL, h0, h7, h8, hv, hv2, pn, ck_t (inbN (p := ra) (n := 24) ha (by omega)), ck_t (inbN (p := rb) (n := 24) hb (by omega)), ck_t (inbN (p := p) (n := 64) (by omega) (by omega)), clN (show ra < 100000 by omega), clN (show rb < 100000 by omega), clN (show p < 100000 by omega), d12, d16, d17, not_true, not_false_eq_true, if_true, if_false, q, n10, mK_sI, mL_sI]
      · rw [mI_at]
        show _ = if decide (aV A 1 ra = aV A 1 rb) = true then _ else _
        rw [if_pos (decide_eq_true q)]
      · rw [mI_ne _ _ (Or.inr (by decide))]
        rfl
    · refine ⟨sI μ (b + r) 6 (nI p + 1), ?_, gp, ?_, ?_, fun j h1 h2 => mI_ne _ _ (Or.inr h1)⟩
      · simp only [f_X11_finds, f_X11_finds_b58, f_X11_finds_b84, s, s2, ckT, bdS, zlS, ckA, ckI, tcL, h0, h7, h8, hv, hv2, pn, ck_t (inbN (p := ra) (n := 24) ha (by omega)), ck_t (inbN (p := rb) (n := 24) hb (by omega)), ck_t (inbN (p := p) (n := 64) (by omega) (by omega)), clN (show ra < 100000 by omega), clN (show rb < 100000 by omega), clN (show p < 100000 by omega), d12, d16, d17, not_true, not_false_eq_true, if_true, if_false, q, n10, mK_sI, mL_sI]
      · rw [mI_at]
        show _ = if decide (aV A 1 ra = aV A 1 rb) = true then _ else _
        rw [if_neg (by rw [decide_eq_true_eq]; exact q)]
        exact nI_1 _
      · rw [mI_ne _ _ (Or.inr (by decide))]
        rfl
  · have d12 : (nI 13 = 12) = False := by decide
    have d13 : (nI 13 = 13) = True := by decide
    have d16 : (nI 13 = 16) = False := by decide
    have d17 : (nI 13 = 17) = False := by decide
    by_cases q : aV A 1 rb ≤ aV A 1 ra
    · refine ⟨sI μ (b + r) 6 (nI p + 1), ?_, gp, ?_, ?_, fun j h1 h2 => mI_ne _ _ (Or.inr h1)⟩
      · simp only [f_X11_finds, f_X11_finds_b57, f_X11_finds_b58, f_X11_finds_b84, s, s2, ckT, bdS, zlS, ckA, ckI, tcL, h0, h7, h8, hv, hv2, pn, ck_t (inbN (p := ra) (n := 24) ha (by omega)), ck_t (inbN (p := rb) (n := 24) hb (by omega)), ck_t (inbN (p := p) (n := 64) (by omega) (by omega)), clN (show ra < 100000 by omega), clN (show rb < 100000 by omega), clN (show p < 100000 by omega), d12, d13, d16, d17, not_true, not_false_eq_true, if_true, if_false, q, n10, mK_sI, mL_sI]
      · rw [mI_at]
        show _ = if decide (aV A 1 ra < aV A 1 rb) = true then _ else _
        rw [if_neg (by rw [decide_eq_true_eq]; exact Int32.not_lt.mpr q)]
        exact nI_1 _
      · rw [mI_ne _ _ (Or.inr (by decide))]
        rfl
    · refine ⟨sI μ (b + r) 6 (aV A 5 p), ?_, gp, ?_, ?_, fun j h1 h2 => mI_ne _ _ (Or.inr h1)⟩
      · simp only [f_X11_finds, f_X11_finds_b57, f_X11_finds_b58, f_X11_finds_b84, s, s2, ckT, bdS, zlS, ckA, ckI, tcL, h0, h7, h8, hv, hv2, pn, ck_t (inbN (p := ra) (n := 24) ha (by omega)), ck_t (inbN (p := rb) (n := 24) hb (by omega)), ck_t (inbN (p := p) (n := 64) (by omega) (by omega)), clN (show ra < 100000 by omega), clN (show rb < 100000 by omega), clN (show p < 100000 by omega), d12, d13, d16, d17, not_true, not_false_eq_true, if_true, if_false, q, n10, mK_sI, mL_sI]
      · rw [mI_at]
        show _ = if decide (aV A 1 ra < aV A 1 rb) = true then _ else _
        rw [if_pos (decide_eq_true (Int32.not_le.mp q))]
      · rw [mI_ne _ _ (Or.inr (by decide))]
        rfl
  all_goals
    have hin : f_X11_in (aV A 1 ra) 0 63 = some (bI (adok (aV A 1 ra))) := by
      rw [m_in, le63]
      rfl
  · have d12 : (nI 16 = 12) = False := by decide
    have d13 : (nI 16 = 13) = False := by decide
    have d16 : (nI 16 = 16) = True := by decide
    cases q : adok (aV A 1 ra)
    · rw [q] at hin
      refine ⟨sI (sI (sI μ (b + r) 6 (nI p + 1)) (b + r) 6 (aV A 1 ra)) (b + r) 13 3, ?_, (gp.trans gp).trans gp, ?_, ?_, fun j h1 h2 => ?_⟩
      · simp only [f_X11_finds, f_X11_finds_b57, f_X11_finds_b58, f_X11_finds_b84, f_X11_finds_b97, s, s2, ckT, bdS, zlS, ckA, ckI, tcL, h0, h7, h8, hv, hv2, pn, ck_t (inbN (p := ra) (n := 24) ha (by omega)), ck_t (inbN (p := rb) (n := 24) hb (by omega)), clN (show ra < 100000 by omega), clN (show rb < 100000 by omega), d12, d13, d16, not_true, not_false_eq_true, if_true, if_false, hin, bI, Bool.false_eq_true, mK_sI, mL_sI]
      · rw [mI_ne _ _ (Or.inr (by decide)), mI_at]
        rfl
      · rw [mI_at]
        show _ = nI (if adok (aV A 1 ra) = true then 0 else 3)
        rw [q]
        rfl
      · rw [mI_ne _ _ (Or.inr h2), mI_ne _ _ (Or.inr h1), mI_ne _ _ (Or.inr h1)]
    · rw [q] at hin
      refine ⟨sI (sI (sI μ (b + r) 6 (nI p + 1)) (b + r) 6 (aV A 1 ra)) (b + r) 13 0, ?_, (gp.trans gp).trans gp, ?_, ?_, fun j h1 h2 => ?_⟩
      · simp only [f_X11_finds, f_X11_finds_b57, f_X11_finds_b58, f_X11_finds_b84, f_X11_finds_b97, s, s2, ckT, bdS, zlS, ckA, ckI, tcL, h0, h7, h8, hv, hv2, pn, ck_t (inbN (p := ra) (n := 24) ha (by omega)), ck_t (inbN (p := rb) (n := 24) hb (by omega)), clN (show ra < 100000 by omega), clN (show rb < 100000 by omega), d12, d13, d16, not_true, not_false_eq_true, if_true, if_false, hin, bI, n10, mK_sI, mL_sI]
      · rw [mI_ne _ _ (Or.inr (by decide)), mI_at]
        rfl
      · rw [mI_at]
        show _ = nI (if adok (aV A 1 ra) = true then 0 else 3)
        rw [q]
        rfl
      · rw [mI_ne _ _ (Or.inr h2), mI_ne _ _ (Or.inr h1), mI_ne _ _ (Or.inr h1)]
  · have d12 : (nI 17 = 12) = False := by decide
    have d13 : (nI 17 = 13) = False := by decide
    have d16 : (nI 17 = 16) = False := by decide
    have d17 : (nI 17 = 17) = True := by decide
    cases q : adok (aV A 1 ra)
    · rw [q] at hin
      refine ⟨sI (sI (sI μ (b + r) 6 (nI p + 1)) (b + r) 6 (aV A 1 ra)) (b + r) 13 3, ?_, (gp.trans gp).trans gp, ?_, ?_, fun j h1 h2 => ?_⟩
      · simp only [f_X11_finds, f_X11_finds_b57, f_X11_finds_b58, f_X11_finds_b84, f_X11_finds_b97, s, s2, ckT, bdS, zlS, ckA, ckI, tcL, h0, h7, h8, hv, hv2, pn, ck_t (inbN (p := ra) (n := 24) ha (by omega)), ck_t (inbN (p := rb) (n := 24) hb (by omega)), clN (show ra < 100000 by omega), clN (show rb < 100000 by omega), d12, d13, d16, d17, not_true, not_false_eq_true, if_true, if_false, hin, bI, Bool.false_eq_true, mK_sI, mL_sI]
      · rw [mI_ne _ _ (Or.inr (by decide)), mI_at]
        rfl
      · rw [mI_at]
        show _ = nI (if adok (aV A 1 ra) = true then 0 else 3)
        rw [q]
        rfl
      · rw [mI_ne _ _ (Or.inr h2), mI_ne _ _ (Or.inr h1), mI_ne _ _ (Or.inr h1)]
    · rw [q] at hin
      refine ⟨sI (sI (sI μ (b + r) 6 (nI p + 1)) (b + r) 6 (aV A 1 ra)) (b + r) 13 0, ?_, (gp.trans gp).trans gp, ?_, ?_, fun j h1 h2 => ?_⟩
      · simp only [f_X11_finds, f_X11_finds_b57, f_X11_finds_b58, f_X11_finds_b84, f_X11_finds_b97, s, s2, ckT, bdS, zlS, ckA, ckI, tcL, h0, h7, h8, hv, hv2, pn, ck_t (inbN (p := ra) (n := 24) ha (by omega)), ck_t (inbN (p := rb) (n := 24) hb (by omega)), clN (show ra < 100000 by omega), clN (show rb < 100000 by omega), d12, d13, d16, d17, not_true, not_false_eq_true, if_true, if_false, hin, bI, n10, mK_sI, mL_sI]
      · rw [mI_ne _ _ (Or.inr (by decide)), mI_at]
        rfl
      · rw [mI_at]
        show _ = nI (if adok (aV A 1 ra) = true then 0 else 3)
        rw [q]
        rfl
      · rw [mI_ne _ _ (Or.inr h2), mI_ne _ _ (Or.inr h1), mI_ne _ _ (Or.inr h1)]
theorem m_wlL {k num : Nat} {a : Int32} (h : RM b B ρ μ) (c : CF B) (n9 : aS B 9 ≤ 16) (hok : ∀ i, i < aS B 9 → (aB B i).1 0 < aS B 15) (hk : k < aS B 9) (f13 : mI μ (b + ρ k) 13 = 0) (f14 : mI μ (b + ρ k) 14 = a) (f17 : mI μ (b + ρ k) 17 = nI num)
    (hw : ∀ i, k < i → i < aS B 9 → eC B (aB B i) = 9 → (aB B i).1 10 ≠ 113 → (aB B i).1 10 < 1000 ∧ (aB B i).1 12 ≤ 5 ∧ ((aB B i).1 12 ≠ 0 → (aB B i).2.1 1 ≠ a) ∧ ((aB B i).1 12 = 0 → (aB B i).2.1 3 ≠ nI num)) : ∀ (m i fu : Nat), i + m = aS B 9 → k < i → m < fu → f_X11_wrongLoad_b11 fu (b + 30) (b + ρ k) (nI i) μ = some (match findLd B a num m i with | none => (-1) | some j => nI j)
  | 0, i, fu, hi, hki, hm => by
    obtain ⟨fu, rfl⟩ : ∃ n, fu = n + 1 := ⟨fu - 1, by omega⟩
    have s := h.1
    unfold SM at s
    have h23 : mI μ (b + 30) 23 = nI (aS B 9) := h.2.1.1 9 rfl
    have c1 : nI (aS B 9) ≤ nI i := by rw [show i = aS B 9 by omega]; exact Int32.le_refl _
    simp only [f_X11_wrongLoad_b11, s, h23, c1, ckT, if_true, findLd]
  | m + 1, i, fu, hi, hki, hm => by
    obtain ⟨fu, rfl⟩ : ∃ n, fu = n + 1 := ⟨fu - 1, by omega⟩
    have ih := m_wlL h c n9 hok hk f13 f14 f17 hw m (i + 1) fu (by omega) (by omega) (by omega)
    have s := h.1
    unfold SM at s
    have h23 : mI μ (b + 30) 23 = nI (aS B 9) := h.2.1.1 9 rfl
    have c1 : ¬ nI (aS B 9) ≤ nI i := nI_ge (by omega) (by omega)
    obtain ⟨k1, k2, k3⟩ := h.2.2.1.1 k (by omega)
    obtain ⟨r1, r2, r3⟩ := h.2.2.1.1 i (by omega)
    have sk := h.1.row ⟨k2, k3⟩
    have si := h.1.row ⟨r2, r3⟩
    have re := h.2.2.2.1 i (by omega)
    have ho := hok i (by omega)
    have hwi := hw i (by omega) (by omega)
    obtain ⟨x, hx⟩ : ∃ x, x = aB B i := ⟨_, rfl⟩
    have hp := c.p ho
    rw [← hx] at re ho hwi hp
    have hec : eC B x = aN B 10 (x.1 0) := rfl
    have hco : f_X11_codeOf (b + 30) (b + ρ i) μ = some (nI (eC B x)) := m_codeOf h.1 h.2.2.2.2.2.1 c.2.2.2.2.1 si.1 si.2 re.1 ho
    obtain ⟨w11, w3, w12, w4, w13, w6, w14, w15, w15b, w16⟩ := re.d
    have F : findLd B a num (m + 1) i = if eC B x = 9 ∧ x.1 10 ≠ 113 ∧ x.2.1 1 = a ∧ x.2.1 3 < nI num then some i else findLd B a num m (i + 1) := by rw [hx]; rfl
    rw [F]
    have nn : ¬ ((0 : Int32) ≠ 0) := by decide
    have n10 : ¬ (1 : Int32) = 0 := by decide
    have base : f_X11_wrongLoad_b11 (fu + 1) (b + 30) (b + ρ k) (nI i) μ = (if ¬ nI (eC B x) = 9 then f_X11_wrongLoad_b11 fu (b + 30) (b + ρ k) (nI i + 1) μ else if mI μ (b + ρ i) 11 = 113 then f_X11_wrongLoad_b11 fu (b + 30) (b + ρ k) (nI i + 1) μ else if ¬ mI μ (b + ρ i) 13 = 0 then f_X11_wrongLoad_b11 fu (b + 30) (b + ρ k) (nI i + 1) μ else if ¬ mI μ (b + ρ i) 14 = a then f_X11_wrongLoad_b11 fu (b + 30) (b + ρ k) (nI i + 1) μ else if nI num < mI μ (b + ρ i) 16 then f_X11_wrongLoad_b11 fu (b + 30) (b + ρ k) (nI i + 1) μ else some (nI i)) := by
      simp only [f_X11_wrongLoad_b11, f_X11_wrongLoad_b79, f_X11_wrongLoad_b80, f_X11_wrongLoad_b101, s, sk, si, h23, c1, ckT, bdS, ckA, ckI, tcL, f13, f14, f17, not_true, if_true, if_false, n10, r1, hco, ck_t (inbN (p := i) (n := 16) (by omega) (by omega)), clN (show i < 100000 by omega)]
    rw [base, nI_1, ih]
    by_cases e9 : eC B x = 9
    · have q9 : nI (eC B x) = 9 := by rw [e9]; rfl
      rw [if_neg (fun z => z q9)]
      by_cases e113 : x.1 10 = 113
      · rw [if_pos (by rw [w11, e113]; rfl), if_neg (fun z => z.2.1 e113)]
      · obtain ⟨hst, t5, w1, w2⟩ := hwi e9 e113
        have q11 : ¬ mI μ (b + ρ i) 11 = 113 := by
          rw [w11]
          exact nIne (n := 113) (by omega) (by omega) e113
        rw [if_neg q11]
        have q13 : mI μ (b + ρ i) 13 = nI (x.1 12) := by
          rw [w13, e9]
          show (if true = true then if (9 : Nat) = 9 then _ else _ else _) = _
          rw [if_pos rfl, if_pos rfl, if_neg e113]
        by_cases e12 : x.1 12 = 0
        · rw [if_neg (show ¬ ¬ mI μ (b + ρ i) 13 = 0 by rw [q13, e12]; exact fun z => z rfl), w14 (by rw [e9]; rfl) e12 (Or.inl ⟨e9, e113⟩), w16 e9]
          by_cases ea : x.2.1 1 = a
          · rw [if_neg (fun z => z ea)]
            by_cases eg : nI num < x.2.1 3
            · rw [if_pos eg, if_neg (fun z => Int32.lt_irrefl (Int32.lt_trans eg z.2.2.2))]
            · have : x.2.1 3 < nI num := Int32.lt_iff_le_and_ne.mpr ⟨Int32.not_lt.mp eg, w2 e12⟩
              rw [if_neg eg, if_pos ⟨e9, e113, ea, this⟩]
          · rw [if_pos ea, if_neg (fun z => ea z.2.2.1)]
        · rw [if_pos (show ¬ mI μ (b + ρ i) 13 = 0 by rw [q13]; exact nIne (n := 0) (by omega) (by omega) e12), if_neg (fun z => w1 e12 z.2.2.1)]
    · have q9 : ¬ nI (eC B x) = 9 := nIne (n := 9) (by rw [hec]; omega) (by omega) e9
      rw [if_pos q9, if_neg (fun z => e9 z.1)]
end MEN3
