/-! THE CLASS: the plain machine -/
section CPL
variable {b z e sl : Nat} {m : Nat → Nat} {A A' B : Sx} {G : Nat → Nat → Nat} {ar : Nat → Nat} {s : Nat} {μ μ' : Mm} {S : Nat → Nat → Bool}
def PQm (b : Nat) (P : Pm) (μ : Mm) : Prop := (∀ r, r < 8 → mI μ (b + 7) r = P.1 r) ∧ (∀ a, a < 64 → mI μ (b + 8) a = P.2.1 a) ∧ mI μ (b + 6) 2 = nI (P.2.2 0) ∧ mI μ (b + 6) 3 = nI (P.2.2 1) ∧ mI μ (b + 6) 4 = nI (P.2.2 2)
def sPl (o k : Nat) : Bool := decide ((o = 6 ∧ 2 ≤ k ∧ k ≤ 4) ∨ o = 7 ∨ o = 8)
theorem up1_at3 (f : Nat → Nat) (v : Nat) : up1 f 0 v 0 = v ∧ up1 f 0 v 1 = f 1 ∧ up1 f 0 v 2 = f 2 := ⟨rfl, rfl, rfl⟩
theorem c_getP {p : Nat} (h : FR b z A μ) (hh : HR b z A m G ar s μ) (hp : p < aS A 15) (h15 : aS A 15 ≤ 64) : f_Jx4a65c_get_915e3 (b + 2) (nI p) μ = some (G 0 p) := by
  have l1 := hh.1 0 (by decide)
  exact c_get h.k100.1 h.sz.1 (by omega) l1.1 l1.2.1 l1.2.2.1 hp (l1.2.2.2.2.2 p hp)
/-- from b236 on: the place -/
theorem c_pl236 {P : Pm} {p : Nat} (hC : SC b μ) (h : PQm b P μ) : f_X8_doOne_b236 (b + 6) (nI p) μ = some (0, sI μ (b + 6) 2 (nI p)) ∧ PQm b (P.1, P.2.1, up1 P.2.2 0 p) (sI μ (b + 6) 2 (nI p)) := by
  have s0 := hC
  unfold SC at s0
  refine ⟨by simp only [f_X8_doOne_b236, s0, ckT, zlS], fun r hr => ?_, fun a ha => ?_, mI_at _ _ _ _, ?_, ?_⟩
  · rw [mI_row _ _ (by omega)]; exact h.1 r hr
  · rw [mI_row _ _ (by omega)]; exact h.2.1 a ha
  · rw [mI_ne _ _ (Or.inr (by decide))]; exact h.2.2.2.1
  · rw [mI_ne _ _ (Or.inr (by decide))]; exact h.2.2.2.2
theorem c_doOne {P : Pm} (h : FR b z A μ) (hh : HR b z A m G ar s μ) (c : CF A) (hP : PQm b P μ) (hp : P.2.2 0 < aS A 15) (h1 : P.2.2 1 ≤ 1) (h2 : P.2.2 2 ≤ 64) : ∃ μ', f_X8_doOne (b + 6) (b + 2) (aV A 0 0) μ = some (nI (plT A P), μ') ∧ PQm b (plN A P (plT A P)) μ' ∧ CH b sPl μ μ' := by
  obtain ⟨P1, P2, P3, P4, P5⟩ := id hP
  have cp := c.p hp
  have s0 := h.1
  unfold SC at s0
  have h15 := c.2.2.2.2.1
  obtain ⟨p, hpp⟩ : ∃ p, p = P.2.2 0 := ⟨_, rfl⟩
  rw [← hpp] at P3 hp cp
  have ins := hh.2.2.1 p hp
  obtain ⟨i0, i1, i2, i3, i4, i5, i6⟩ := ins
  have gp := c_getP h hh hp h15
  obtain ⟨cd, hcd⟩ : ∃ cd, cd = aN A 10 p := ⟨_, rfl⟩
  obtain ⟨x, hx⟩ : ∃ x, x = P.1 (aN A 12 p) := ⟨_, rfl⟩
  obtain ⟨y, hy⟩ : ∃ y, y = P.1 (aN A 13 p) := ⟨_, rfl⟩
  obtain ⟨n, hn⟩ : ∃ n, n = aV A 5 p := ⟨_, rfl⟩
  rw [← hcd] at i2 cp
  rw [← hn] at i6 cp
  have hcb : cd < 22 := by omega
  have rx : mI μ (b + 7) (aN A 12 p) = x := by rw [hx]; exact P1 _ cp.2.2.2.1
  have ry : mI μ (b + 7) (aN A 13 p) = y := by rw [hy]; exact P1 _ cp.2.2.2.2.1
  have tb := c_trapBy (x := x) (y := y) i0 i2 i6 hcb
  have hT : plT A P = if cd = 21 ∧ P.2.2 1 = 0 then 5 else tpV cd x y n := by
    unfold plT
    dsimp only
    rw [← hpp, ← hcd, ← hx, ← hy, ← hn]
  have hpl0 : plN A P (plT A P) = if plT A P ≠ 0 then (if P.2.2 1 = 0 ∧ aV A 0 0 ≠ -1 then (P.1, P.2.1, up1 (up1 (up1 P.2.2 2 (p + 1)) 1 1) 0 (aV A 0 0).toNatClampNeg) else P) else plD A P := by
    unfold plN
    have : plT A P ≠ 9 := by
      rw [hT]
      split
      · decide
      · have := tpV_le cd x y n
        omega
    rw [if_neg this, ← hpp, if_neg (by omega)]
  have c0 : ¬ nI p < 0 := nI_pos (by omega)
  have c15 : nI p < nI (aS A 15) := nI_lt hp (by omega)
  have sz := c_size h.k100.1 h.sz.1
  have ia := inbN (p := aN A 12 p) (n := 8) cp.2.2.2.1 (by omega)
  have ca := clN (show aN A 12 p < 100000 by omega)
  have ib := inbN (p := aN A 13 p) (n := 8) cp.2.2.2.2.1 (by omega)
  have cb := clN (show aN A 13 p < 100000 by omega)
  have z1 := zb1 h1
  -- the trap
  have base : f_X8_doOne (b + 6) (b + 2) (aV A 0 0) μ = f_X8_doOne_b83 (b + 6) (aV A 0 0) (G 0 p) x y (nI (plT A P)) μ := by
    rw [hT]
    by_cases e21 : cd = 21
    · have w21 : ¬ ¬ nI cd = 21 := by rw [e21]; exact fun w => w rfl
      by_cases eh : P.2.2 1 = 0
      · have wh : ¬ ¬ zb (nI (P.2.2 1)) = 0 := by rw [z1]; exact fun w => w eh
        rw [if_pos ⟨e21, eh⟩]
        simp only [f_X8_doOne, s0, ckT, P3, c0, if_false, sz, bdS, c15, if_true, gp, i0, i4, i5, ckA, ck_t ia, ca, ck_t ib, cb, rx, ry, tb, i2, w21, P4, wh]
        rfl
      · have wh : ¬ zb (nI (P.2.2 1)) = 0 := by rw [z1]; exact eh
        rw [if_neg (fun w => eh w.2)]
        simp only [f_X8_doOne, s0, ckT, P3, c0, if_false, sz, bdS, c15, if_true, gp, i0, i4, i5, ckA, ck_t ia, ca, ck_t ib, cb, rx, ry, tb, i2, w21, P4, wh, not_false_eq_true]
    · have w21 : ¬ nI cd = 21 := nIne (n := 21) (by omega) (by omega) e21
      rw [if_neg (fun w => e21 w.1)]
      simp only [f_X8_doOne, s0, ckT, P3, c0, if_false, sz, bdS, c15, if_true, gp, i0, i4, i5, ckA, ck_t ia, ca, ck_t ib, cb, rx, ry, tb, i2, w21, not_false_eq_true]
  rw [base, hpl0]
  have t5 : plT A P ≤ 5 := by
    rw [hT]
    split
    · exact Nat.le_refl _
    · exact tpV_le _ _ _ _
  by_cases t0 : plT A P = 0
  · -- it does what it does
    rw [if_neg (fun w => w t0), t0]
    have tp0 : tpV cd x y n = 0 := by
      rw [hT] at t0
      split at t0
      · cases t0
      · exact t0
    have n21 : cd = 21 → P.2.2 1 ≠ 0 := fun e w => by
      rw [hT, if_pos ⟨e, w⟩] at t0
      cases t0
    obtain ⟨g, g64, hg⟩ := goV_pl (p := p) cp.1 cp.2.2.2.2.2 tp0 (by omega)
    have gb := c_goesBy (x := x) (y := y) i0 i1 i2 i6 hcb
    rw [hg] at gb
    have z00 : nI 0 = (0 : Int32) := rfl
    have hD : plD A P = (if cd = 21 then (if cd = 9 then up1 P.1 (aN A 11 p) (P.2.1 (x + n).toNatClampNeg) else if hasD cd then up1 P.1 (aN A 11 p) (rsV cd p x y n) else P.1, if isSt cd then up1 P.2.1 (x + n).toNatClampNeg (chW cd (P.2.1 (x + n).toNatClampNeg) y) else P.2.1, up1 (up1 P.2.2 0 (P.2.2 2)) 1 0) else (if cd = 9 then up1 P.1 (aN A 11 p) (P.2.1 (x + n).toNatClampNeg) else if hasD cd then up1 P.1 (aN A 11 p) (rsV cd p x y n) else P.1, if isSt cd then up1 P.2.1 (x + n).toNatClampNeg (chW cd (P.2.1 (x + n).toNatClampNeg) y) else P.2.1, up1 P.2.2 0 g)) := by
      unfold plD
      dsimp only
      rw [← hpp, ← hcd, ← hx, ← hy, ← hn, hg, clN (by omega)]
    have adr : isMm cd = true → adok (x + n) = true := fun hm => by
      cases ha : adok (x + n) with
      | true => rfl
      | false =>
        unfold tpV at tp0
        have : ¬ cd = 5 := fun w => by rw [w] at hm; cases hm
        rw [if_neg this, hm, if_pos rfl, ha] at tp0
        cases tp0
    have id_ := inbN (p := aN A 11 p) (n := 8) cp.2.2.1 (by omega)
    have cd_ := clN (show aN A 11 p < 100000 by omega)
    have ne78 : b + 8 ≠ b + 7 := by omega
    by_cases e9 : cd = 9
    · have ad := adr (by rw [e9]; rfl)
      have isad := c_isAd (x + n)
      rw [ad] at isad
      have b1 : ¬ bI true = 0 := by decide
      have lt := (adok_e ad).2
      have tc := (adok_e ad).1
      have ix : inb (x + n) 64 := by rw [tc]; exact inbN (by omega) (by omega)
      have rw_ := P2 _ lt
      have w9 : ¬ ¬ nI cd = 9 := by rw [e9]; exact fun w => w rfl
      obtain ⟨μ1, m1⟩ : ∃ μ1, μ1 = sI μ (b + 7) (aN A 11 p) (P.2.1 (x + n).toNatClampNeg) := ⟨_, rfl⟩
      have q1 : PQm b (up1 P.1 (aN A 11 p) (P.2.1 (x + n).toNatClampNeg), P.2.1, P.2.2) μ1 := by
        rw [m1]
        refine ⟨fun r hr => ?_, fun a ha => ?_, ?_, ?_, ?_⟩
        · rw [mI_up, up1_if]
          show _ = up1 P.1 (aN A 11 p) (P.2.1 (x + n).toNatClampNeg) r
          rw [up1_if, P1 r hr]
        · rw [mI_row _ _ ne78]; exact P2 a ha
        · rw [mI_row _ _ (by omega)]; rw [← hpp]; exact P3
        · rw [mI_row _ _ (by omega)]; exact P4
        · rw [mI_row _ _ (by omega)]; exact P5
      obtain ⟨e2, q2⟩ := c_pl236 (p := g) (b := b) (μ := μ1) (by rw [m1]; exact h.1.cg rfl rfl rfl) q1
      refine ⟨sI μ1 (b + 6) 2 (nI g), ?_, ?_, (by rw [m1]; exact CH.put (by rfl) : CH b sPl μ μ1).trans (CH.put (by rfl))⟩
      rotate_left
      · rw [hD, if_neg (by omega), if_pos e9]
        have : isSt cd = false := by rw [e9]; rfl
        rw [this, if_neg Bool.false_ne_true]
        exact q2
      · rw [z00, ← e2]
        simp only [f_X8_doOne_b83, if_true, i0, ckT, gb, bdS, i2, w9, if_false, i6, isad, b1, s0, ckA, ck_t ix, i3, ck_t id_, cd_, rw_, zlS, ← m1]
    · have w9 : ¬ nI cd = 9 := nIne (n := 9) (by omega) (by omega) e9
      have b0 : bI false = 0 := rfl
      have b1 : ¬ bI true = 0 := by decide
      have to151 : f_X8_doOne_b83 (b + 6) (aV A 0 0) (G 0 p) x y (nI 0) μ = f_X8_doOne_b151 (b + 6) (G 0 p) x y (nI g) (x + n) μ := by
        rw [z00]
        simp only [f_X8_doOne_b83, if_true, i0, ckT, gb, bdS, i2, w9, not_false_eq_true, i6]
      rw [to151]
      have is := c_isSt i0 i2 hcb
      cases hst : isSt cd
      · rw [hst] at is
        have to189 : f_X8_doOne_b151 (b + 6) (G 0 p) x y (nI g) (x + n) μ = f_X8_doOne_b189 (b + 6) (G 0 p) x y (nI g) μ := by
          simp only [f_X8_doOne_b151, i0, ckT, is, bdS, b0, if_true]
        rw [to189]
        by_cases e21 : cd = 21
        · have w21 : ¬ ¬ nI cd = 21 := by rw [e21]; exact fun w => w rfl
          have hd : hasD cd = false := by rw [e21]; rfl
          obtain ⟨μ1, m1⟩ : ∃ μ1, μ1 = sI μ (b + 6) 3 0 := ⟨_, rfl⟩
          have q1 : PQm b (P.1, P.2.1, up1 P.2.2 1 0) μ1 := by
            rw [m1]
            refine ⟨fun r hr => ?_, fun a ha => ?_, ?_, ?_, ?_⟩
            · rw [mI_row _ _ (by omega)]; exact P1 r hr
            · rw [mI_row _ _ (by omega)]; exact P2 a ha
            · rw [mI_ne _ _ (Or.inr (by decide))]; show _ = nI (P.2.2 0); rw [← hpp]; exact P3
            · rw [mI_at]; rfl
            · rw [mI_ne _ _ (Or.inr (by decide))]; exact P5
          have S1 : SC b μ1 := by rw [m1]; exact h.1.cg rfl rfl rfl
          obtain ⟨e2, q2⟩ := c_pl236 (p := P.2.2 2) (b := b) (μ := μ1) S1 q1
          have k1 := S1
          unfold SC at k1
          have i4' : mI μ1 (b + 6) 4 = nI (P.2.2 2) := q1.2.2.2.2
          refine ⟨sI μ1 (b + 6) 2 (nI (P.2.2 2)), ?_, ?_, (by rw [m1]; exact CH.put (by rfl) : CH b sPl μ μ1).trans (CH.put (by rfl))⟩
          rotate_left
          · rw [hD, if_pos e21, if_neg e9, hd, hst, if_neg Bool.false_ne_true, if_neg Bool.false_ne_true]
            have : up1 (up1 P.2.2 0 (P.2.2 2)) 1 0 = up1 (up1 P.2.2 1 0) 0 (P.2.2 2) := by
              funext j
              simp only [up1_if]
              by_cases j0 : j = 0
              · subst j0; rfl
              · rw [if_neg j0, if_neg j0]
            rw [this]
            exact q2
          · rw [z00, ← e2]
            simp only [f_X8_doOne_b189, i0, ckT, i2, w21, if_false, s0, zlS, ← m1, P5]
        · have w21 : ¬ nI cd = 21 := nIne (n := 21) (by omega) (by omega) e21
          have hdq := c_hasD i0 i2 hcb
          cases hd : hasD cd
          · rw [hd] at hdq
            obtain ⟨e2, q2⟩ := c_pl236 (p := g) (b := b) (μ := μ) h.1 hP
            refine ⟨sI μ (b + 6) 2 (nI g), ?_, ?_, CH.put (by rfl)⟩
            rotate_left
            · rw [hD, if_neg e21, if_neg e9, hd, hst, if_neg Bool.false_ne_true, if_neg Bool.false_ne_true]
              exact q2
            · rw [z00, ← e2]
              simp only [f_X8_doOne_b189, i0, ckT, i2, w21, not_false_eq_true, if_true, hdq, bdS, b0]
          · rw [hd] at hdq
            have rb := c_resultBy (x := x) (y := y) i0 i1 i2 i6 hcb
            obtain ⟨μ1, m1⟩ : ∃ μ1, μ1 = sI μ (b + 7) (aN A 11 p) (rsV cd p x y n) := ⟨_, rfl⟩
            have q1 : PQm b (up1 P.1 (aN A 11 p) (rsV cd p x y n), P.2.1, P.2.2) μ1 := by
              rw [m1]
              refine ⟨fun r hr => ?_, fun a ha => ?_, ?_, ?_, ?_⟩
              · rw [mI_up, up1_if]
                show _ = up1 P.1 (aN A 11 p) (rsV cd p x y n) r
                rw [up1_if, P1 r hr]
              · rw [mI_row _ _ ne78]; exact P2 a ha
              · rw [mI_row _ _ (by omega)]; rw [← hpp]; exact P3
              · rw [mI_row _ _ (by omega)]; exact P4
              · rw [mI_row _ _ (by omega)]; exact P5
            obtain ⟨e2, q2⟩ := c_pl236 (p := g) (b := b) (μ := μ1) (by rw [m1]; exact h.1.cg rfl rfl rfl) q1
            refine ⟨sI μ1 (b + 6) 2 (nI g), ?_, ?_, (by rw [m1]; exact CH.put (by rfl) : CH b sPl μ μ1).trans (CH.put (by rfl))⟩
            rotate_left
            · rw [hD, if_neg e21, if_neg e9, hd, hst, if_pos rfl, if_neg Bool.false_ne_true]
              exact q2
            · rw [z00, ← e2]
              simp only [f_X8_doOne_b189, i0, ckT, i2, w21, not_false_eq_true, if_true, hdq, bdS, b1, if_false, s0, rb, ckA, i3, ck_t id_, cd_, zlS, ← m1]
      · rw [hst] at is
        have ad := adr (by rcases isSt_c hst with q | q <;> rw [q] <;> rfl)
        have isad := c_isAd (x + n)
        rw [ad] at isad
        have lt := (adok_e ad).2
        have tc := (adok_e ad).1
        have ix : inb (x + n) 64 := by rw [tc]; exact inbN (by omega) (by omega)
        have rw_ := P2 _ lt
        have cw := c_chW (w := P.2.1 (x + n).toNatClampNeg) (y := y) i0 i2 hcb
        have hd : hasD cd = false := by rcases isSt_c hst with q | q <;> rw [q] <;> rfl
        have e21 : ¬ cd = 21 := by rcases isSt_c hst with q | q <;> omega
        obtain ⟨μ1, m1⟩ : ∃ μ1, μ1 = sI μ (b + 8) (x + n).toNatClampNeg (chW cd (P.2.1 (x + n).toNatClampNeg) y) := ⟨_, rfl⟩
        have q1 : PQm b (P.1, up1 P.2.1 (x + n).toNatClampNeg (chW cd (P.2.1 (x + n).toNatClampNeg) y), P.2.2) μ1 := by
          rw [m1]
          refine ⟨fun r hr => ?_, fun a ha => ?_, ?_, ?_, ?_⟩
          · rw [mI_row _ _ ne78.symm]; exact P1 r hr
          · rw [mI_up, up1_if]
            show _ = up1 P.2.1 (x + n).toNatClampNeg (chW cd (P.2.1 (x + n).toNatClampNeg) y) a
            rw [up1_if, P2 a ha]
          · rw [mI_row _ _ (by omega)]; rw [← hpp]; exact P3
          · rw [mI_row _ _ (by omega)]; exact P4
          · rw [mI_row _ _ (by omega)]; exact P5
        obtain ⟨e2, q2⟩ := c_pl236 (p := g) (b := b) (μ := μ1) (by rw [m1]; exact h.1.cg rfl rfl rfl) q1
        refine ⟨sI μ1 (b + 6) 2 (nI g), ?_, ?_, (by rw [m1]; exact CH.put (by rfl) : CH b sPl μ μ1).trans (CH.put (by rfl))⟩
        rotate_left
        · rw [hD, if_neg e21, if_neg e9, hd, if_neg Bool.false_ne_true, if_pos hst]
          exact q2
        · rw [z00, ← e2]
          simp only [f_X8_doOne_b151, i0, ckT, is, bdS, b1, if_false, isad, s0, ckA, ck_t ix, rw_, cw, zlS, ← m1]
  · -- it traps
    have wt : ¬ nI (plT A P) = 0 := nIne (n := 0) (by omega) (by omega) t0
    rw [if_pos t0]
    have to : f_X8_doOne_b83 (b + 6) (aV A 0 0) (G 0 p) x y (nI (plT A P)) μ = (cl (f_X8_goToTraps (b + 6) (aV A 0 0) μ) fun _ μ45 => some (nI (plT A P), μ45)) := by
      simp only [f_X8_doOne_b83, wt, if_false, s0, ckT]
    rw [to]
    by_cases eh : P.2.2 1 = 0
    · have wh : ¬ ¬ zb (nI (P.2.2 1)) = 0 := by rw [z1]; exact fun w => w eh
      by_cases et : aV A 0 0 = -1
      · rw [if_neg (fun w => w.2 et)]
        exact ⟨μ, by simp only [f_X8_goToTraps, s0, ckT, P4, wh, if_false, et, if_true, clS], hP, CH.refl0⟩
      · rw [if_pos ⟨eh, et⟩]
        have had := adok_h et (c.2.2.2.2.2.2 0 (by decide))
        refine ⟨sI (sI (sI μ (b + 6) 4 (nI (p + 1))) (b + 6) 3 1) (b + 6) 2 (aV A 0 0), ?_, ⟨fun r hr => ?_, fun a ha => ?_, ?_, ?_, ?_⟩, ((CH.put (by rfl)).trans (CH.put (by rfl))).trans (CH.put (by rfl))⟩
        · simp only [f_X8_goToTraps, s0, ckT, P4, wh, if_false, et, P3, nI_1, zlS, clS]
        · rw [mI_row _ _ (by omega), mI_row _ _ (by omega), mI_row _ _ (by omega)]; exact P1 r hr
        · rw [mI_row _ _ (by omega), mI_row _ _ (by omega), mI_row _ _ (by omega)]; exact P2 a ha
        · rw [mI_at]; exact had.1
        · rw [mI_ne _ _ (Or.inr (by decide)), mI_at]; rfl
        · rw [mI_ne _ _ (Or.inr (by decide)), mI_ne _ _ (Or.inr (by decide)), mI_at]; rfl
    · have wh : ¬ zb (nI (P.2.2 1)) = 0 := by rw [z1]; exact eh
      rw [if_neg (fun w => eh w.1)]
      exact ⟨μ, by simp only [f_X8_goToTraps, s0, ckT, P4, wh, not_false_eq_true, if_true, clS], hP, CH.refl0⟩
end CPL
