/-! the model: its plain machine does an instruction -/
section MPD
variable {b : Nat} {A A' : Sx} {P : Pm} {ρ : Nat → Nat} {μ μ' μ2 : Mm} {S : Nat → Nat → Bool}
theorem m_plDoes {p : Nat} (S0 : SM b μ) (hPM : PM b A μ) (cf : CF A) (q : QPm b P μ) (hpp : p = P.2.2 0) (hp : p < aS A 15) (t0 : plT A P = 0) : ∃ μ', f_X11_plainDoes (b + 30) (nI p) μ = some ((), μ') ∧ QPm b (plD A P) μ' ∧ CH b sPm μ μ' ∧ mI μ' (b + 30) 60 = if aN A 10 p = 18 then 1 else mI μ (b + 30) 60 := by
  have s := S0
  unfold SM at s
  have h15 := cf.2.2.2.2.1
  obtain ⟨⟨c1, c2, c3, c4⟩, i31, i32, i33, i34, i35⟩ := hPM.at cf hp
  have c5 := (cf.2.2.2.2.2.1 p hp).2.2.2.2
  obtain ⟨q1, q2, q3, q4, q5⟩ := id q
  obtain ⟨cd, hcd⟩ : ∃ cd, cd = aN A 10 p := ⟨_, rfl⟩
  obtain ⟨d, hd⟩ : ∃ d, d = aN A 11 p := ⟨_, rfl⟩
  obtain ⟨x, hx⟩ : ∃ x, x = P.1 (aN A 12 p) := ⟨_, rfl⟩
  obtain ⟨y, hy⟩ : ∃ y, y = P.1 (aN A 13 p) := ⟨_, rfl⟩
  obtain ⟨n, hn⟩ : ∃ n, n = aV A 5 p := ⟨_, rfl⟩
  rw [← hcd] at i31 c1 c5
  rw [← hd] at i32 c2
  rw [← hn] at i35 c5
  have rx : mI μ (b + 82) (aN A 12 p) = x := by rw [hx]; exact q1 _ c3
  have ry : mI μ (b + 82) (aN A 13 p) = y := by rw [hy]; exact q1 _ c4
  have hT : plT A P = if cd = 21 ∧ P.2.2 1 = 0 then 5 else tpV cd x y n := by
    unfold plT
    dsimp only
    rw [← hpp, ← hcd, ← hx, ← hy, ← hn]
  have hcb : cd < 22 := by omega
  have tp0 : tpV cd x y n = 0 ∧ (cd = 21 → P.2.2 1 ≠ 0) := by
    rw [hT] at t0
    split at t0
    · cases t0
    · rename_i hh
      exact ⟨t0, fun e w => hh ⟨e, w⟩⟩
  obtain ⟨g, g64, hg⟩ := goV_pl (p := p) (by omega) c5 tp0.1 (by omega)
  have hD : plD A P = (if cd = 21 then (if cd = 9 then up1 P.1 d (P.2.1 (x + n).toNatClampNeg) else if hasD cd then up1 P.1 d (rsV cd p x y n) else P.1, if isSt cd then up1 P.2.1 (x + n).toNatClampNeg (chW cd (P.2.1 (x + n).toNatClampNeg) y) else P.2.1, up1 (up1 P.2.2 0 (P.2.2 2)) 1 0) else (if cd = 9 then up1 P.1 d (P.2.1 (x + n).toNatClampNeg) else if hasD cd then up1 P.1 d (rsV cd p x y n) else P.1, if isSt cd then up1 P.2.1 (x + n).toNatClampNeg (chW cd (P.2.1 (x + n).toNatClampNeg) y) else P.2.1, up1 P.2.2 0 g)) := by
    unfold plD
    dsimp only
    rw [← hpp, ← hcd, ← hd, ← hx, ← hy, ← hn, hg, clN (by omega)]
  have ip := inbN (p := p) (n := 64) (by omega) (by omega)
  have cp := clN (show p < 100000 by omega)
  have ia := inbN (p := aN A 12 p) (n := 8) c3 (by omega)
  have ca := clN (show aN A 12 p < 100000 by omega)
  have ib := inbN (p := aN A 13 p) (n := 8) c4 (by omega)
  have cb := clN (show aN A 13 p < 100000 by omega)
  have id_ := inbN (p := d) (n := 8) c2 (by omega)
  have cd_ := clN (show d < 100000 by omega)
  have hi : Int32.toInt (nI cd) = (cd : Int) := nI_toInt (by omega)
  have hr : ((cd : Int) < 1 ∨ 21 < (cd : Int)) = (cd = 0) := propext ⟨fun h => by omega, fun h => by omega⟩
  obtain ⟨μ1, m1⟩ : ∃ μ1, μ1 = sI μ (b + 30) 57 (nI (p + 1)) := ⟨_, rfl⟩
  have g1 : CH b sPm μ μ1 := by rw [m1]; exact CH.pm (by omega)
  have q57 : mI μ1 (b + 30) 57 = nI (p + 1) := by rw [m1]; exact mI_at _ _ _ _
  have q58 : mI μ1 (b + 30) 58 = mI μ (b + 30) 58 := by rw [m1]; exact mI_ne _ _ (Or.inr (by decide))
  have q60 : mI μ1 (b + 30) 60 = mI μ (b + 30) 60 := by rw [m1]; exact mI_ne _ _ (Or.inr (by decide))
  have w83 : ∀ k, mI μ1 (b + 83) k = mI μ (b + 83) k := fun k => by rw [m1, mI_row _ _ (by omega)]
  have s1 := S0.ch g1
  unfold SM at s1
  have G1 : ∀ (e : nI (p + 1) = nI g), QPm b (P.1, P.2.1, up1 P.2.2 0 g) μ1 := fun e => by rw [m1]; exact q.go e
  have adr : isMm cd = true → adok (x + n) = true := fun hm => by
    cases ha : adok (x + n) with
    | true => rfl
    | false =>
      have tp := tp0.1
      unfold tpV at tp
      have : ¬ cd = 5 := fun w => by rw [w] at hm; cases hm
      rw [if_neg this, hm, if_pos rfl, ha] at tp
      cases tp
  have y0 : cd = 5 → ¬ y = 0 := fun e5 ey => by
    have tp := tp0.1
    unfold tpV at tp
    rw [if_pos e5, if_pos ey] at tp
    cases tp
  rw [hD, ← hcd]
  have k112 : mK μ1 (b + 30) = 112 := s1.1
  -- the ways in which it ends
  have rg : ∀ v : Int32, (e : goV cd p x y n = nI (p + 1)) → CH b sPm μ (sI μ1 (b + 82) d v) ∧ mI (sI μ1 (b + 82) d v) (b + 30) 60 = mI μ (b + 30) 60 ∧ QPm b (up1 P.1 d v, P.2.1, up1 P.2.2 0 g) (sI μ1 (b + 82) d v) := fun v e => ⟨g1.trans (CH.pm (by omega)), by rw [mI_row _ _ (by omega)]; exact q60, (G1 (by rw [← e]; exact hg)).reg⟩
  have pl : ∀ v : Int32, (e : goV cd p x y n = v) → CH b sPm μ (sI μ1 (b + 30) 57 v) ∧ mI (sI μ1 (b + 30) 57 v) (b + 30) 60 = mI μ (b + 30) 60 ∧ QPm b (P.1, P.2.1, up1 P.2.2 0 g) (sI μ1 (b + 30) 57 v) := fun v e => ⟨g1.trans (CH.pm (by omega)), by rw [mI_ne _ _ (Or.inr (by decide))]; exact q60, by
    have hv : v = nI g := by rw [← e]; exact hg
    obtain ⟨h1, h2, h3, h4, h5⟩ := q.go (g := g) hv
    refine ⟨fun r hr => ?_, fun a ha => ?_, by rw [mI_at, hv]; rfl, ?_, fun t => ?_⟩
    · rw [mI_row _ _ (by omega), m1, mI_row _ _ (by omega)]; exact q1 r hr
    · rw [mI_row _ _ (by omega), m1, mI_row _ _ (by omega)]; exact q2 a ha
    · rw [mI_ne _ _ (Or.inr (by decide)), m1, mI_ne _ _ (Or.inr (by decide))]; exact q4
    · rw [mI_ne _ _ (Or.inr (by decide)), m1, mI_ne _ _ (Or.inr (by decide))]; exact q5 t⟩
  simp only [f_X11_plainDoes, f_X11_plainDoes_b269, f_X11_plainDoes_b354, f_X11_plainDoes_b376, s, ckT, bdS, ckA, ck_t ip, cp, i31, i32, i33, i34, i35, ck_t ia, ca, ck_t ib, cb, rx, ry, nI_1, zlS, ← m1, s1, k112, hi, hr, cE hcb, ck_t id_, cd_, q57]
  clear hD hT
  rcases c22r hcb with rfl | rfl | rfl | rfl | rfl | rfl | rfl | rfl | rfl | rfl | rfl | rfl | rfl | rfl | rfl | rfl | rfl | rfl | rfl | rfl | rfl | rfl
  · exact ⟨μ1, rfl, G1 hg, g1, q60⟩
  · obtain ⟨a1, a2, a3⟩ := rg n rfl
    exact ⟨_, rfl, a3, a1, a2⟩
  · obtain ⟨a1, a2, a3⟩ := rg (x + y) rfl
    exact ⟨_, rfl, a3, a1, a2⟩
  · obtain ⟨a1, a2, a3⟩ := rg (x - y) rfl
    exact ⟨_, rfl, a3, a1, a2⟩
  · obtain ⟨a1, a2, a3⟩ := rg (x * y) rfl
    exact ⟨_, rfl, a3, a1, a2⟩
  · obtain ⟨a1, a2, a3⟩ := rg (x / y) rfl
    have ny := y0 rfl
    refine ⟨_, (ck_t ny : ck (¬ y = 0) (some ((), sI μ1 (b + 82) d (x / y))) = some ((), sI μ1 (b + 82) d (x / y))), ?_, a1, a2⟩
    have e : rsV 5 p x y n = x / y := by
      show (if y = 0 then 0 else x / y) = x / y
      rw [if_neg ny]
    show QPm b (up1 P.1 d (rsV 5 p x y n), P.2.1, up1 P.2.2 0 g) _
    rw [e]
    exact a3
  · obtain ⟨a1, a2, a3⟩ := rg (x &&& y) rfl
    exact ⟨_, rfl, a3, a1, a2⟩
  · obtain ⟨a1, a2, a3⟩ := rg (x ^^^ y) rfl
    exact ⟨_, rfl, a3, a1, a2⟩
  · have e : rsV 8 p x y n = if x < y then 1 else 0 := rfl
    by_cases l : y ≤ x
    · obtain ⟨a1, a2, a3⟩ := rg 0 rfl
      rw [if_neg (Int32.not_lt.mpr l)] at e
      refine ⟨sI μ1 (b + 82) d 0, ?_, ?_, a1, a2⟩
      · show (if y ≤ x then _ else _) = _
        rw [if_pos l]
      · show QPm b (up1 P.1 d (rsV 8 p x y n), P.2.1, up1 P.2.2 0 g) _
        rw [e]
        exact a3
    · obtain ⟨a1, a2, a3⟩ := rg 1 rfl
      rw [if_pos (Int32.not_le.mp l)] at e
      refine ⟨sI μ1 (b + 82) d 1, ?_, ?_, a1, a2⟩
      · show (if y ≤ x then _ else _) = _
        rw [if_neg l]
      · show QPm b (up1 P.1 d (rsV 8 p x y n), P.2.1, up1 P.2.2 0 g) _
        rw [e]
        exact a3
  · have ad := adr rfl
    have tc := (adok_e ad).1
    have lt := (adok_e ad).2
    have ix : inb (x + n) 64 := by rw [tc]; exact inbN (by omega) (by omega)
    obtain ⟨a1, a2, a3⟩ := rg (P.2.1 (x + n).toNatClampNeg) rfl
    refine ⟨sI μ1 (b + 82) d (P.2.1 (x + n).toNatClampNeg), ?_, a3, a1, a2⟩
    have rw_ : mI μ1 (b + 83) (x + n).toNatClampNeg = P.2.1 (x + n).toNatClampNeg := by rw [w83]; exact q2 _ lt
    show ck (inb (x + n) 64) (some ((), sI μ1 (b + 82) d (mI μ1 (b + 83) (x + n).toNatClampNeg))) = _
    rw [ck_t ix, rw_]
  · have ad := adr rfl
    have tc := (adok_e ad).1
    have lt := (adok_e ad).2
    have ix : inb (x + n) 64 := by rw [tc]; exact inbN (by omega) (by omega)
    refine ⟨sI μ1 (b + 83) (x + n).toNatClampNeg y, ?_, (G1 hg).wrd, g1.trans (CH.pm (by omega)), by rw [mI_row _ _ (by omega)]; exact q60⟩
    show ck (inb (x + n) 64) _ = _
    rw [ck_t ix]
  · have ad := adr rfl
    have tc := (adok_e ad).1
    have lt := (adok_e ad).2
    have ix : inb (x + n) 64 := by rw [tc]; exact inbN (by omega) (by omega)
    have rw_ : mI μ1 (b + 83) (x + n).toNatClampNeg = P.2.1 (x + n).toNatClampNeg := by rw [w83]; exact q2 _ lt
    refine ⟨sI μ1 (b + 83) (x + n).toNatClampNeg ((P.2.1 (x + n).toNatClampNeg &&& (-65536)) ||| (y &&& 65535)), ?_, (G1 hg).wrd, g1.trans (CH.pm (by omega)), by rw [mI_row _ _ (by omega)]; exact q60⟩
    show ck (inb (x + n) 64) (ck (inb (x + n) 64) (some ((), sI μ1 (b + 83) (x + n).toNatClampNeg ((mI μ1 (b + 83) (x + n).toNatClampNeg &&& (-65536)) ||| (y &&& 65535))))) = _
    rw [ck_t ix, ck_t ix, rw_]
  · by_cases l : x = y
    · obtain ⟨a1, a2, a3⟩ := pl n (by show (if soV 12 x y = true then n else nI (p + 1)) = n; rw [show soV 12 x y = decide (x = y) from rfl, decide_eq_true l]; rfl)
      refine ⟨sI μ1 (b + 30) 57 n, ?_, a3, a1, a2⟩
      show (if ¬ x = y then _ else _) = _
      rw [if_neg (fun t => t l)]
    · obtain ⟨a1, a2, a3⟩ := pl (nI (p + 1)) (by show (if soV 12 x y = true then n else nI (p + 1)) = _; rw [show soV 12 x y = decide (x = y) from rfl, decide_eq_false l]; rfl)
      refine ⟨sI μ1 (b + 30) 57 (nI (p + 1)), ?_, a3, a1, a2⟩
      show (if ¬ x = y then _ else _) = _
      rw [if_pos l]
  · by_cases l : y ≤ x
    · obtain ⟨a1, a2, a3⟩ := pl (nI (p + 1)) (by show (if soV 13 x y = true then n else nI (p + 1)) = _; rw [show soV 13 x y = decide (x < y) from rfl, decide_eq_false (Int32.not_lt.mpr l)]; rfl)
      refine ⟨sI μ1 (b + 30) 57 (nI (p + 1)), ?_, a3, a1, a2⟩
      show (if y ≤ x then _ else _) = _
      rw [if_pos l]
    · obtain ⟨a1, a2, a3⟩ := pl n (by show (if soV 13 x y = true then n else nI (p + 1)) = n; rw [show soV 13 x y = decide (x < y) from rfl, decide_eq_true (Int32.not_le.mp l)]; rfl)
      refine ⟨sI μ1 (b + 30) 57 n, ?_, a3, a1, a2⟩
      show (if y ≤ x then _ else _) = _
      rw [if_neg l]
  · obtain ⟨a1, a2, a3⟩ := pl n rfl
    exact ⟨_, rfl, a3, a1, a2⟩
  · obtain ⟨h1, h2, h3⟩ := pl n rfl
    have e82 : sI (sI μ1 (b + 82) d (nI (p + 1))) (b + 30) 57 n = sI (sI μ1 (b + 82) d (nI (p + 1))) (b + 30) 57 n := rfl
    refine ⟨sI (sI μ1 (b + 82) d (nI (p + 1))) (b + 30) 57 n, rfl, ?_, (g1.trans (CH.pm (by omega))).trans (CH.pm (by omega)), by rw [mI_ne _ _ (Or.inr (by decide)), mI_row _ _ (by omega)]; exact q60⟩
    have Q1 : QPm b (up1 P.1 d (nI (p + 1)), P.2.1, up1 P.2.2 0 (p + 1)) (sI μ1 (b + 82) d (nI (p + 1))) := (show QPm b (P.1, P.2.1, up1 P.2.2 0 (p + 1)) μ1 from by rw [m1]; exact q.go rfl).reg
    have Q2 := Q1.go (g := g) (v := n) (by rw [← hg]; rfl)
    have eu : up1 (up1 P.2.2 0 (p + 1)) 0 g = up1 P.2.2 0 g := by
      funext j
      simp only [up1_if]
      split <;> rfl
    have Q3 : QPm b (up1 P.1 d (nI (p + 1)), P.2.1, up1 (up1 P.2.2 0 (p + 1)) 0 g) (sI (sI μ1 (b + 82) d (nI (p + 1))) (b + 30) 57 n) := Q2
    rw [eu] at Q3
    exact Q3
  · obtain ⟨a1, a2, a3⟩ := pl x rfl
    exact ⟨_, rfl, a3, a1, a2⟩
  · obtain ⟨a1, a2, a3⟩ := pl x rfl
    exact ⟨_, rfl, a3, a1, a2⟩
  · exact ⟨sI μ1 (b + 30) 60 1, rfl, (G1 hg).st, g1.trans (CH.pm (by omega)), mI_at _ _ _ _⟩
  · exact ⟨μ1, rfl, G1 hg, g1, q60⟩
  · exact ⟨μ1, rfl, G1 hg, g1, q60⟩
  · have nh := tp0.2 rfl
    have v58 : mI (sI μ1 (b + 30) 59 0) (b + 30) 58 = nI (P.2.2 2) := by rw [mI_ne _ _ (Or.inr (by decide)), q58]; exact q5 nh
    refine ⟨sI (sI μ1 (b + 30) 59 0) (b + 30) 57 (mI (sI μ1 (b + 30) 59 0) (b + 30) 58), rfl, ?_, (g1.trans (CH.pm (by omega))).trans (CH.pm (by omega)), by rw [mI_ne _ _ (Or.inr (by decide)), mI_ne _ _ (Or.inr (by decide))]; exact q60⟩
    rw [v58]
    refine ⟨fun r hr => ?_, fun a ha => ?_, by rw [mI_at]; rfl, ?_, fun t => absurd rfl t⟩
    · rw [mI_row _ _ (by omega), mI_row _ _ (by omega), m1, mI_row _ _ (by omega)]; exact q1 r hr
    · rw [mI_row _ _ (by omega), mI_row _ _ (by omega), m1, mI_row _ _ (by omega)]; exact q2 a ha
    · rw [mI_ne _ _ (Or.inr (by decide)), mI_at]; rfl
end MPD
