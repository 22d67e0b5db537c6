/-! the model: fetching, its parts -/
section MF1
variable {b : Nat} {A B : Sx} {ρ : Nat → Nat} {μ μ' : Mm} {S : Nat → Nat → Bool}
/-- the stack is kept in a row -/
theorem m_keeps {r o : Nat} (hr : 46 ≤ r ∧ r < 71 ∧ r ≠ 62) (ho : o ≤ 23) : ∀ (m i fu : Nat) (μ : Mm), m + i = 5 → m < fu → SM b μ → ∃ μ', f_X11_keepsStack_b2 fu (b + 30) (b + r) (nI o) (nI i) μ = some ((), μ') ∧ CH b (sRow r) μ μ' ∧ ∀ k, mI μ' (b + r) k = if o + i ≤ k ∧ k < o + 5 then mI μ (b + 71) (k - o) else mI μ (b + r) k
  | 0, i, fu, μ, hm, hf, S => by
    obtain ⟨fu, rfl⟩ : ∃ n, fu = n + 1 := ⟨fu - 1, by omega⟩
    have i5 : i = 5 := by omega
    subst i5
    exact ⟨μ, by simp only [f_X11_keepsStack_b2, show (4 : Int32) < nI 5 by decide, if_true], CH.refl0, fun k => by rw [if_neg (by omega)]⟩
  | m + 1, i, fu, μ, hm, hf, S => by
    obtain ⟨fu, rfl⟩ : ∃ n, fu = n + 1 := ⟨fu - 1, by omega⟩
    have s := S
    unfold SM at s
    have s2 : mK μ (b + r) = 11 ∧ mL μ (b + r) = 28 := by
      by_cases h : r < 62
      · exact S.row (by omega)
      · exact S.lrow (by omega)
    have c1 : ¬ (4 : Int32) < nI i := nI_nlt (b := i) (a := 4) (by omega) (by omega)
    obtain ⟨μ1, h1⟩ : ∃ μ1, μ1 = sI μ (b + r) (o + i) (mI μ (b + 71) i) := ⟨_, rfl⟩
    have g1 : CH b (sRow r) μ μ1 := by rw [h1]; exact CH.putR
    obtain ⟨μ', e, g, hv⟩ := m_keeps hr ho m (i + 1) fu μ1 (by omega) (by omega) (S.ch g1)
    refine ⟨μ', ?_, g1.trans g, fun k => ?_⟩
    · rw [← e]
      simp only [f_X11_keepsStack_b2, c1, if_false, s, s2, ckT, bdS, zlS, ckA, nI_add, nI_1, ck_t (inbN (p := i) (n := 5) (by omega) (by omega)), ck_t (inbN (p := o + i) (n := 28) (by omega) (by omega)), clN (show i < 100000 by omega), clN (show o + i < 100000 by omega), ← h1]
    · rw [hv k, g1.row2 (show 71 ≠ r by omega), h1, mI_up, up1_if]
      by_cases e1 : k = o + i
      · subst e1
        rw [if_neg (by omega), if_pos rfl, if_pos (by omega), show o + i - o = i by omega]
      · rw [if_neg e1]
        by_cases e2 : o + (i + 1) ≤ k ∧ k < o + 5
        · rw [if_pos e2, if_pos (by omega)]
        · rw [if_neg e2, if_neg (by omega)]
/-- what the model's guess gives: the place, the stack behind it without a push -/
theorem m_guess {p : Nat} (S : SM b μ) (hT : RT mT b B μ) (P : PM b A μ) (c : CF A) (hb4 : ∀ k, k < 16 → aN B 4 k = aN A 4 k) (hb3 : ∀ k, k < 8 → aV B 3 k = aV A 3 k) (hd : BD A) (ht : okT (aT A)) (hs : STk (mI μ (b + 71)) 0 (aT A)) (hp : p < aS A 15) : ∃ μ', f_X11_guess (b + 30) (nI p) μ = some (nI (guessA A p).1, μ') ∧ CH b sSt μ μ' ∧ STk (mI μ' (b + 71)) 0 (if aN A 10 p = 15 then aT A else (guessA A p).2) := by
  have s := S
  unfold SM at s
  have cp := c.p hp
  obtain ⟨p10, p11, p12, p13, p5⟩ := P p hp
  obtain ⟨cd, hcd⟩ : ∃ cd, cd = aN A 10 p := ⟨_, rfl⟩
  rw [← hcd] at p10 cp ⊢
  have ip := inbN (p := p) (n := 64) cp.1 (by omega)
  have cl := clN (show p < 100000 by omega)
  have i16 := inbN (p := p % 16) (n := 16) (by omega) (by omega)
  have cl16 := clN (show p % 16 < 100000 by omega)
  have i8 := inbN (p := p % 8) (n := 8) (by omega) (by omega)
  have cl8 := clN (show p % 8 < 100000 by omega)
  have m16 := m_mod16 p cp.1
  have m8 := m_mod8 p cp.1
  have hcnt : mI μ (b + 72) (p % 16) = nI (aN A 4 (p % 16)) := by rw [← hb4 _ (by omega)]; exact hT.2.1 4 _ (by omega) (show p % 16 < 16 by omega)
  have htab : mI μ (b + 73) (p % 8) = aV A 3 (p % 8) := by rw [← hb3 _ (by omega)]; exact hT.v3 (by omega)
  have n160 : ¬ (16 : Int32) = 0 := by decide
  have n80 : ¬ (8 : Int32) = 0 := by decide
  have w : ∀ n, n < 22 → cd ≠ n → ¬ nI cd = nI n := fun n hn h => nIne (by omega) (by omega) h
  have gA : guessA A p = (if isQn cd then (if 2 ≤ aN A 4 (p % 16) then (aV A 5 p).toNatClampNeg else p + 1, aT A)
  else if cd = 14 then ((aV A 5 p).toNatClampNeg, aT A)
  else if cd = 15 then ((aV A 5 p).toNatClampNeg, pushT (aT A) (p + 1))
  else if cd = 16 then (if aT A = [] then (p + 1, aT A) else ((aT A).getLastD 0, (aT A).dropLast))
  else if cd = 17 then (if aV A 3 (p % 8) = -1 then p + 1 else (aV A 3 (p % 8)).toNatClampNeg, aT A)
  else (p + 1, aT A)) := by rw [hcd]; rfl
  have c4 := hd.2.1 (p % 16) (by omega)
  have q12 : isQn cd = true → f_X11_guess (b + 30) (nI p) μ = f_X11_guess_b19 (b + 30) (nI p) μ := fun hq => by
    unfold isQn at hq
    simp only [Bool.or_eq_true, decide_eq_true_eq] at hq
    rcases hq with h | h
    · have e1 : nI cd = 12 := by rw [h]; rfl
      simp only [f_X11_guess, s, ckT, bdS, ckA, ck_t ip, cl, p10, e1, if_true]
    · have e1 : ¬ nI cd = 12 := w 12 (by omega) (by omega)
      have e2 : ¬ ¬ nI cd = 13 := by rw [h]; exact fun z => z rfl
      simp only [f_X11_guess, s, ckT, bdS, ckA, ck_t ip, cl, p10, e1, e2, if_false]
  cases hq : isQn cd
  · have h12 : cd ≠ 12 := fun z => by rw [z] at hq; cases hq
    have h13 : cd ≠ 13 := fun z => by rw [z] at hq; cases hq
    have e12 : ¬ nI cd = 12 := w 12 (by omega) h12
    have e13 : ¬ nI cd = 13 := w 13 (by omega) h13
    rw [hq, if_neg Bool.false_ne_true] at gA
    by_cases h14 : cd = 14
    · have e14 : nI cd = 14 := by rw [h14]; rfl
      have f12 : ¬ (14 : Int32) = 12 := by decide
      have f13 : ¬ (14 : Int32) = 13 := by decide
      rw [if_pos h14] at gA
      rw [gA, if_neg (by omega)]
      have ad := nI_tc (cp.2.2.2.2.2 (by omega) (by omega))
      refine ⟨μ, ?_, CH.refl0, hs⟩
      rw [ad]
      simp only [f_X11_guess, f_X11_guess_b57, s, ckT, bdS, ckA, ck_t ip, cl, p10, e12, e13, not_false_eq_true, if_true, if_false, e14, f12, f13, p5]
    have e14 : ¬ nI cd = 14 := w 14 (by omega) h14
    rw [if_neg h14] at gA
    by_cases h15 : cd = 15
    · have e15 : ¬ ¬ nI cd = 15 := by rw [h15]; exact fun z => z rfl
      rw [if_pos h15] at gA
      rw [gA, if_pos h15]
      have ad := nI_tc (cp.2.2.2.2.2 (by omega) (by omega))
      refine ⟨μ, ?_, CH.refl0, hs⟩
      rw [ad]
      simp only [f_X11_guess, f_X11_guess_b57, s, ckT, bdS, ckA, ck_t ip, cl, p10, e12, e13, not_false_eq_true, if_true, if_false, e14, e15, p5]
    have e15 : ¬ nI cd = 15 := w 15 (by omega) h15
    rw [if_neg h15] at gA
    rw [if_neg h15]
    by_cases h16 : cd = 16
    · have e16 : ¬ ¬ nI cd = 16 := by rw [h16]; exact fun z => z rfl
      have e17 : ¬ nI cd = 17 := w 17 (by omega) (by omega)
      rw [if_pos h16] at gA
      have hlen : mI μ (b + 71) 0 = nI (aT A).length := hs.1
      by_cases hnil : aT A = []
      · rw [if_pos hnil] at gA
        rw [gA]
        have z0 : mI μ (b + 71) 0 ≤ 0 := by rw [hlen, hnil]; decide
        refine ⟨μ, ?_, CH.refl0, hs⟩
        simp only [f_X11_guess, f_X11_guess_b103, f_X11_guess_b134, s, ckT, bdS, ckA, ckI, tcL, ck_t ip, cl, p10, e12, e13, not_false_eq_true, if_true, if_false, e14, e15, e16, z0, e17, nI_1]
      · rw [if_neg hnil] at gA
        rw [gA]
        obtain ⟨n, hn⟩ : ∃ n, (aT A).length = n + 1 := ⟨(aT A).length - 1, by
          have : (aT A).length ≠ 0 := fun z => hnil (List.length_eq_zero_iff.mp z)
          omega⟩
        have l4 := ht.1
        have z0 : ¬ nI (n + 1) ≤ 0 := nI_nle (by omega) (by omega)
        have ib1 := inbN (p := n + 1) (n := 5) (by omega) (by omega)
        have cb1 := clN (show n + 1 < 100000 by omega)
        have hl : mI μ (b + 71) (n + 1) = nI ((aT A).getD n 0) := by
          have := hs.2 n (by omega)
          rw [show 0 + 1 + n = n + 1 by omega] at this
          exact this
        have hlast : (aT A).getLastD 0 = (aT A).getD n 0 := by
          rw [List.getLastD_eq_getLast?, List.getLast?_eq_getElem?, hn, List.getD_eq_getElem?_getD]
          rfl
        rw [hn] at hlen
        obtain ⟨μ1, h1⟩ : ∃ μ1, μ1 = sI μ (b + 71) 0 (nI n) := ⟨_, rfl⟩
        have h10 : mI μ1 (b + 71) 0 = nI n := by rw [h1, mI_at]
        have h11 : mI μ1 (b + 71) (n + 1) = nI ((aT A).getD n 0) := by rw [h1, mI_ne _ _ (Or.inr (by omega))]; exact hl
        have g1 : CH b sSt μ μ1 := by rw [h1]; exact CH.put rfl
        have s1 := S.ch g1
        unfold SM at s1
        refine ⟨μ1, ?_, g1, ?_⟩
        · rw [hlast]
          simp only [f_X11_guess, s, ckT, bdS, zlS, ckA, ckI, tcL, ck_t ip, cl, p10, e12, e13, not_false_eq_true, if_true, if_false, e14, e15, e16, hlen, z0, nI_pred, ← h1, s1, h10, nI_1, ck_t ib1, cb1, h11]
        · have hdl : (aT A).dropLast.length = n := by rw [List.length_dropLast, hn]; rfl
          show STk _ 0 (aT A).dropLast
          refine ⟨by rw [hdl]; exact h10, fun i hi => ?_⟩
          rw [hdl] at hi
          rw [h1, mI_ne _ _ (Or.inr (by omega)), hs.2 i (by omega)]
          have : (aT A).dropLast.getD i 0 = (aT A).getD i 0 := by
            rw [List.getD_eq_getElem?_getD, List.getD_eq_getElem?_getD, List.getElem?_dropLast, if_pos (by omega)]
          rw [this]
    have e16 : ¬ nI cd = 16 := w 16 (by omega) h16
    rw [if_neg h16] at gA
    by_cases h17 : cd = 17
    · have e17 : ¬ ¬ nI cd = 17 := by rw [h17]; exact fun z => z rfl
      rw [if_pos h17] at gA
      rw [gA]
      refine ⟨μ, ?_, CH.refl0, hs⟩
      by_cases hv : aV A 3 (p % 8) = -1
      · simp only [f_X11_guess, f_X11_guess_b103, f_X11_guess_b134, s, ckT, bdS, ckA, ckI, tcL, ck_t ip, cl, p10, e12, e13, not_false_eq_true, if_true, if_false, e14, e15, e16, e17, ck_t n80, m8, ck_t i8, cl8, htab, hv, nI_1]
      · have ad := nI_tc ((hd.2.2.1 (p % 8) (by omega)).resolve_left hv)
        simp only [f_X11_guess, f_X11_guess_b103, s, ckT, bdS, ckA, ckI, tcL, ck_t ip, cl, p10, e12, e13, not_false_eq_true, if_true, if_false, e14, e15, e16, e17, ck_t n80, m8, ck_t i8, cl8, htab, hv, ad]
    · have e17 : ¬ nI cd = 17 := w 17 (by omega) h17
      rw [if_neg h17] at gA
      rw [gA]
      refine ⟨μ, ?_, CH.refl0, hs⟩
      simp only [f_X11_guess, f_X11_guess_b103, f_X11_guess_b134, s, ckT, bdS, ckA, ckI, tcL, ck_t ip, cl, p10, e12, e13, not_false_eq_true, if_true, if_false, e14, e15, e16, e17, nI_1]
  · rw [hq, if_pos rfl] at gA
    have h15 : ¬ cd = 15 := fun z => by rw [z] at hq; cases hq
    rw [q12 hq, gA, if_neg h15]
    refine ⟨μ, ?_, CH.refl0, hs⟩
    by_cases h2 : 2 ≤ aN A 4 (p % 16)
    · have e2 : ¬ nI (aN A 4 (p % 16)) < 2 := nI_nlt (b := 2) (by omega) (by omega)
      have hadn : adok (aV A 5 p) = true := by
        have : cd = 12 ∨ cd = 13 := by
          unfold isQn at hq
          simpa using hq
        exact cp.2.2.2.2.2 (by omega) (by omega)
      have ad := nI_tc hadn
      simp only [f_X11_guess_b19, s, ckT, bdS, ckA, ck_t ip, cl, ck_t n160, m16, ck_t i16, cl16, hcnt, e2, if_false, p5, h2, if_true, ad]
    · have e2 : nI (aN A 4 (p % 16)) < 2 := nI_lt (b := 2) (by omega) (by omega)
      simp only [f_X11_guess_b19, s, ckT, bdS, ckA, ck_t ip, cl, ck_t n160, m16, ck_t i16, cl16, hcnt, e2, if_true, h2, if_false, nI_1]
/-- a place is put onto the stack -/
theorem m_pushes {p : Nat} {t : List Nat} (S : SM b μ) (ht : t.length ≤ 4) (hs : STk (mI μ (b + 71)) 0 t) : ∃ μ', f_X11_pushes (b + 30) (nI p) μ = some ((), μ') ∧ CH b sSt μ μ' ∧ STk (mI μ' (b + 71)) 0 (pushT t p) := by
  have s := S
  unfold SM at s
  have hlen : mI μ (b + 71) 0 = nI t.length := hs.1
  have put : ∀ (ν : Mm) (u : List Nat), SM b ν → u.length < 4 → STk (mI ν (b + 71)) 0 u → ∃ μ', f_X11_pushes_b47 (b + 30) (nI p) ν = some ((), μ') ∧ CH b sSt ν μ' ∧ STk (mI μ' (b + 71)) 0 (u ++ [p]) := fun ν u Sν hu hsu => by
    have s0 := Sν
    unfold SM at s0
    have hl : mI ν (b + 71) 0 = nI u.length := hsu.1
    obtain ⟨μ', h1⟩ : ∃ μ', μ' = sI (sI ν (b + 71) 0 (nI (u.length + 1))) (b + 71) (u.length + 1) (nI p) := ⟨_, rfl⟩
    have ib := inbN (p := u.length + 1) (n := 5) (by omega) (by omega)
    have cb := clN (show u.length + 1 < 100000 by omega)
    refine ⟨μ', ?_, ?_, ?_⟩
    · simp only [f_X11_pushes_b47, s0, ckT, bdS, zlS, ckA, ckI, tcL, hl, nI_1, mK_sI, mL_sI, mR_sI', mI_at, ck_t ib, cb, ← h1]
    · rw [h1]
      exact (CH.put rfl).trans (CH.put rfl)
    · refine ⟨?_, fun i hi => ?_⟩
      · rw [h1, mI_ne _ _ (Or.inr (by omega)), mI_at, List.length_append]
        rfl
      · rw [List.length_append] at hi
        have hi2 : i < u.length + 1 := hi
        rw [h1]
        by_cases e : i = u.length
        · subst e
          rw [show 0 + 1 + u.length = u.length + 1 by omega, mI_at]
          have : (u ++ [p]).getD u.length 0 = p := by simp
          rw [this]
        · rw [mI_ne _ _ (Or.inr (by omega)), mI_ne _ _ (Or.inr (by omega)), hsu.2 i (by omega)]
          have : (u ++ [p]).getD i 0 = u.getD i 0 := by
            rw [List.getD_eq_getElem?_getD, List.getD_eq_getElem?_getD, List.getElem?_append_left (by omega)]
          rw [this]
  by_cases h4 : t.length = 4
  · -- the lowest one is lost
    have e4 : ¬ ¬ nI t.length = 4 := by rw [h4]; exact fun z => z rfl
    obtain ⟨μ1, h1⟩ : ∃ μ1, μ1 = sI (sI (sI μ (b + 71) 1 (mI μ (b + 71) 2)) (b + 71) 2 (mI μ (b + 71) 3)) (b + 71) 3 (mI μ (b + 71) 4) := ⟨_, rfl⟩
    obtain ⟨μ2, h2⟩ : ∃ μ2, μ2 = sI μ1 (b + 71) 0 3 := ⟨_, rfl⟩
    have g2 : CH b sSt μ μ2 := by
      rw [h2, h1]
      exact (((CH.put rfl).trans (CH.put rfl)).trans (CH.put rfl)).trans (CH.put rfl)
    have z1 : ¬ (4 : Int32) ≤ 1 := by decide
    have z2 : ¬ (4 : Int32) ≤ 2 := by decide
    have z3 : ¬ (4 : Int32) ≤ 3 := by decide
    have z4 : (4 : Int32) ≤ 4 := by decide
    have a1 : (1 : Int32) + 1 = 2 := by decide
    have a2 : (2 : Int32) + 1 = 3 := by decide
    have a3 : (3 : Int32) + 1 = 4 := by decide
    have a4 : (4 : Int32) - 1 = 3 := by decide
    have hm0 : mI μ1 (b + 71) 0 = 4 := by
      rw [h1, mI_ne _ _ (Or.inr (by decide)), mI_ne _ _ (Or.inr (by decide)), mI_ne _ _ (Or.inr (by decide)), hlen, h4]
      rfl
    obtain ⟨n, hn⟩ : ∃ n, 5000 = n + 1 + 1 + 1 + 1 := ⟨4996, rfl⟩
    have e12 : f_X11_pushes_b12 5000 (b + 30) (nI p) 1 μ = f_X11_pushes_b47 (b + 30) (nI p) μ2 := by
      rw [hn]
      have n12 : (2 : Nat) ≠ 1 := by decide
      have n13 : (3 : Nat) ≠ 1 := by decide
      have n14 : (4 : Nat) ≠ 1 := by decide
      have n23 : (3 : Nat) ≠ 2 := by decide
      have n24 : (4 : Nat) ≠ 2 := by decide
      simp only [f_X11_pushes_b12, f_X11_pushes_b37, s, ckT, bdS, zlS, ckA, ckI, tcL, z1, z2, z3, z4, a1, a2, a3, if_false, if_true, mK_sI, mL_sI, mR_sI', mI_ne _ _ (Or.inr n13), mI_ne _ _ (Or.inr n14), mI_ne _ _ (Or.inr n24), ← h1, hm0, a4, ← h2]
    have S2 := S.ch g2
    have hd : t.drop 1 = t.tail := by simp
    have hu : (t.drop 1).length = 3 := by rw [List.length_drop, h4]
    have ss : STk (mI μ2 (b + 71)) 0 (t.drop 1) := by
      refine ⟨by rw [hu, h2, mI_at]; rfl, fun i hi => ?_⟩
      rw [hu] at hi
      have hg : (t.drop 1).getD i 0 = t.getD (i + 1) 0 := by
        rw [List.getD_eq_getElem?_getD, List.getD_eq_getElem?_getD, List.getElem?_drop, Nat.add_comm 1 i]
      rw [hg, ← hs.2 (i + 1) (by omega), h2, mI_ne _ _ (Or.inr (by omega)), h1]
      have : i = 0 ∨ i = 1 ∨ i = 2 := by omega
      rcases this with rfl | rfl | rfl
      · rw [mI_ne _ _ (Or.inr (by decide)), mI_ne _ _ (Or.inr (by decide)), mI_at]
      · rw [mI_ne _ _ (Or.inr (by decide)), mI_at]
      · rw [mI_at]
    obtain ⟨μ', e, g, hh⟩ := put μ2 (t.drop 1) S2 (by omega) ss
    refine ⟨μ', ?_, g2.trans g, ?_⟩
    · simp only [f_X11_pushes, s, ckT, bdS, ckA, ckI, tcL, hlen, e4, if_false]
      rw [e12, e]
    · unfold pushT
      rw [if_neg (by omega)]
      exact hh
  · have e4 : ¬ nI t.length = 4 := nIne (n := 4) (by omega) (by omega) h4
    obtain ⟨μ', e, g, hh⟩ := put μ t S (by omega) hs
    refine ⟨μ', ?_, g, ?_⟩
    · simp only [f_X11_pushes, s, ckT, bdS, ckA, ckI, tcL, hlen, e4, not_false_eq_true, if_true]
      rw [e]
    · unfold pushT
      rw [if_pos (by omega)]
      exact hh
end MF1
