/-! the model: its plain machine -/
section MPL
variable {b : Nat} {A A' : Sx} {P : Pm} {ρ : Nat → Nat} {μ μ' μ2 : Mm} {S : Nat → Nat → Bool}
/-- the model's plain machine in memory; what it kept counts while it handles -/
def QPm (b : Nat) (P : Pm) (μ : Mm) : Prop := (∀ r, r < 8 → mI μ (b + 82) r = P.1 r) ∧ (∀ a, a < 64 → mI μ (b + 83) a = P.2.1 a) ∧ mI μ (b + 30) 57 = nI (P.2.2 0) ∧ mI μ (b + 30) 59 = nI (P.2.2 1) ∧ (P.2.2 1 ≠ 0 → mI μ (b + 30) 58 = nI (P.2.2 2))
def sPm (o k : Nat) : Bool := decide (o = 82 ∨ o = 83 ∨ (o = 30 ∧ 57 ≤ k ∧ k ≤ 60))
theorem QPm.reg {d : Nat} {v : Int32} (h : QPm b P μ) : QPm b (up1 P.1 d v, P.2.1, P.2.2) (sI μ (b + 82) d v) := by
  obtain ⟨h1, h2, h3, h4, h5⟩ := h
  refine ⟨fun r hr => ?_, fun a ha => ?_, ?_, ?_, fun t => ?_⟩
  · rw [mI_up, up1_if]
    show _ = up1 P.1 d v r
    rw [up1_if, h1 r hr]
  · rw [mI_row _ _ (by omega)]; exact h2 a ha
  · rw [mI_row _ _ (by omega)]; exact h3
  · rw [mI_row _ _ (by omega)]; exact h4
  · rw [mI_row _ _ (by omega)]; exact h5 t
theorem QPm.wrd {d : Nat} {v : Int32} (h : QPm b P μ) : QPm b (P.1, up1 P.2.1 d v, P.2.2) (sI μ (b + 83) d v) := by
  obtain ⟨h1, h2, h3, h4, h5⟩ := h
  refine ⟨fun r hr => ?_, fun a ha => ?_, ?_, ?_, fun t => ?_⟩
  · rw [mI_row _ _ (by omega)]; exact h1 r hr
  · rw [mI_up, up1_if]
    show _ = up1 P.2.1 d v a
    rw [up1_if, h2 a ha]
  · rw [mI_row _ _ (by omega)]; exact h3
  · rw [mI_row _ _ (by omega)]; exact h4
  · rw [mI_row _ _ (by omega)]; exact h5 t
theorem QPm.go {g : Nat} {v : Int32} (h : QPm b P μ) (e : v = nI g) : QPm b (P.1, P.2.1, up1 P.2.2 0 g) (sI μ (b + 30) 57 v) := by
  obtain ⟨h1, h2, h3, h4, h5⟩ := h
  refine ⟨fun r hr => ?_, fun a ha => ?_, ?_, ?_, fun t => ?_⟩
  · rw [mI_row _ _ (by omega)]; exact h1 r hr
  · rw [mI_row _ _ (by omega)]; exact h2 a ha
  · rw [mI_at, e]; rfl
  · rw [mI_ne _ _ (Or.inr (by decide))]; exact h4
  · rw [mI_ne _ _ (Or.inr (by decide))]; exact h5 t
theorem QPm.st {v : Int32} (h : QPm b P μ) : QPm b P (sI μ (b + 30) 60 v) := by
  obtain ⟨h1, h2, h3, h4, h5⟩ := h
  refine ⟨fun r hr => ?_, fun a ha => ?_, ?_, ?_, fun t => ?_⟩
  · rw [mI_row _ _ (by omega)]; exact h1 r hr
  · rw [mI_row _ _ (by omega)]; exact h2 a ha
  · rw [mI_ne _ _ (Or.inr (by decide))]; exact h3
  · rw [mI_ne _ _ (Or.inr (by decide))]; exact h4
  · rw [mI_ne _ _ (Or.inr (by decide))]; exact h5 t
/-- a trap, an interrupt: kept, handling, the place -/
theorem QPm.trap {kp : Nat} {v w : Int32} {g : Nat} (h : QPm b P μ) (e : v = nI kp) (e2 : w = nI g) : QPm b (P.1, P.2.1, up1 (up1 (up1 P.2.2 2 kp) 1 1) 0 g) (sI (sI (sI μ (b + 30) 58 v) (b + 30) 59 1) (b + 30) 57 w) := by
  obtain ⟨h1, h2, h3, h4, h5⟩ := h
  refine ⟨fun r hr => ?_, fun a ha => ?_, ?_, ?_, fun t => ?_⟩
  · rw [mI_row _ _ (by omega), mI_row _ _ (by omega), mI_row _ _ (by omega)]; exact h1 r hr
  · rw [mI_row _ _ (by omega), mI_row _ _ (by omega), mI_row _ _ (by omega)]; exact h2 a ha
  · rw [mI_at, e2]; rfl
  · rw [mI_ne _ _ (Or.inr (by decide)), mI_at]; rfl
  · rw [mI_ne _ _ (Or.inr (by decide)), mI_ne _ _ (Or.inr (by decide)), mI_at, e]; rfl
/-- the model stays where only its plain machine changes -/
theorem offP {o k : Nat} (h : sPm o k = true) : offT mT o k = true := by
  have h2 : o = 82 ∨ o = 83 ∨ (o = 30 ∧ 57 ≤ k ∧ k ≤ 60) := of_decide_eq_true h
  rcases h2 with e | e | ⟨e, e2, e3⟩
  · exact offM (by omega) k
  · exact offM (by omega) k
  · subst e
    have : k = 57 ∨ k = 58 ∨ k = 59 ∨ k = 60 := by omega
    rcases this with rfl | rfl | rfl | rfl <;> decide +kernel
theorem RM.plc (h : RM b A ρ μ) (n9 : aS A 9 ≤ 16) (n10 : aS A 10 ≤ 8) (g : CH b sPm μ μ') : RM b A ρ μ' := by
  obtain ⟨r1, r2, r3, r4, r5, r6, r7, r8, r9, r10, r11⟩ := h
  have sf : ∀ o k, ¬ (o = 82 ∨ o = 83 ∨ (o = 30 ∧ 57 ≤ k ∧ k ≤ 60)) → sPm o k = false := fun o k ho => decide_eq_false ho
  exact ⟨r1.ch g, r2.keep (fun o k hz => g.cell (by
    cases hs : sPm o k
    · rfl
    · rw [offP hs] at hz
      cases hz)), r3.ch g, r4.ch n9 r3 g (fun o k _ _ => sf o k (by omega)), r5.ch n10 g (fun o k _ _ => sf o k (by omega)), r6.ch g (fun o k _ _ => sf o k (by omega)), r7.ch g (fun o k _ _ => sf o k (by omega)), r8.ch g (sf _ _ (by omega)) (fun o k _ _ => sf o k (by omega)), r9.ch g (fun k => sf _ _ (by omega)), r10.ch g (sf _ _ (by omega)), r11.ch g (fun o k _ _ => sf o k (by omega)) (fun o k hz => by
    have h2 : o = 82 ∨ o = 83 ∨ (o = 30 ∧ 57 ≤ k ∧ k ≤ 60) := of_decide_eq_true hz
    omega)⟩
theorem CH.pm {o k : Nat} {v : Int32} (h : o = 82 ∨ o = 83 ∨ (o = 30 ∧ 57 ≤ k ∧ k ≤ 60)) : CH b sPm μ (sI μ (b + o) k v) := CH.put (decide_eq_true h)
/-- what the program's row says -/
theorem PM.at {p : Nat} (h : PM b A μ) (cf : CF A) (hp : p < aS A 15) : (aN A 10 p ≤ 21 ∧ aN A 11 p < 8 ∧ aN A 12 p < 8 ∧ aN A 13 p < 8) ∧ mI μ (b + 31) p = nI (aN A 10 p) ∧ mI μ (b + 32) p = nI (aN A 11 p) ∧ mI μ (b + 33) p = nI (aN A 12 p) ∧ mI μ (b + 34) p = nI (aN A 13 p) ∧ mI μ (b + 35) p = aV A 5 p := by
  obtain ⟨c1, c2, c3, c4, -⟩ := cf.2.2.2.2.2.1 p hp
  exact ⟨⟨c1, c2, c3, c4⟩, h p hp⟩
theorem m_plTrap {p : Nat} (S0 : SM b μ) (hPM : PM b A μ) (cf : CF A) (q : QPm b P μ) (hpp : p = P.2.2 0) (hp : p < aS A 15) (h1 : P.2.2 1 ≤ 1) : f_X11_plainTrap (b + 30) (nI p) μ = some (nI (plT A P)) := by
  have s := S0
  unfold SM at s
  have h15 := cf.2.2.2.2.1
  obtain ⟨⟨c1, c2, c3, c4⟩, i31, i32, i33, i34, i35⟩ := hPM.at cf hp
  obtain ⟨q1, q2, q3, q4, q5⟩ := q
  obtain ⟨cd, hcd⟩ : ∃ cd, cd = aN A 10 p := ⟨_, rfl⟩
  obtain ⟨x, hx⟩ : ∃ x, x = P.1 (aN A 12 p) := ⟨_, rfl⟩
  obtain ⟨y, hy⟩ : ∃ y, y = P.1 (aN A 13 p) := ⟨_, rfl⟩
  obtain ⟨n, hn⟩ : ∃ n, n = aV A 5 p := ⟨_, rfl⟩
  rw [← hcd] at i31 c1
  rw [← hn] at i35
  have rx : mI μ (b + 82) (aN A 12 p) = x := by rw [hx]; exact q1 _ c3
  have ry : mI μ (b + 82) (aN A 13 p) = y := by rw [hy]; exact q1 _ c4
  have hT : plT A P = if cd = 21 ∧ P.2.2 1 = 0 then 5 else tpV cd x y n := by
    unfold plT
    dsimp only
    rw [← hpp, ← hcd, ← hx, ← hy, ← hn]
  have hcb : cd < 22 := by omega
  have ip := inbN (p := p) (n := 64) (by omega) (by omega)
  have cp := clN (show p < 100000 by omega)
  have ia := inbN (p := aN A 12 p) (n := 8) c3 (by omega)
  have ca := clN (show aN A 12 p < 100000 by omega)
  have ib := inbN (p := aN A 13 p) (n := 8) c4 (by omega)
  have cb := clN (show aN A 13 p < 100000 by omega)
  have z1 := zb1 h1
  have b0 : bI false = 0 := rfl
  have b1 : ¬ bI true = 0 := by decide
  have nn : ¬ ¬ (0 : Int32) = 0 := fun t => t rfl
  -- the last part
  have e100 : ∀ (u v : Bool), f_X11_plainTrap_b100 (b + 30) (nI cd) (bI u) (bI v) μ = some (nI (if u = true then 2 else if v = true then 3 else if cd = 20 then 4 else if cd = 21 ∧ P.2.2 1 = 0 then 5 else 0)) := by
    intro u v
    cases u
    · cases v
      · by_cases e20 : cd = 20
        · have w20 : ¬ ¬ nI cd = 20 := by rw [e20]; exact fun t => t rfl
          simp only [f_X11_plainTrap_b100, b0, if_true, w20, if_false]
          rw [if_neg Bool.false_ne_true, if_neg Bool.false_ne_true, if_pos e20]
          rfl
        · have w20 : ¬ nI cd = 20 := nIne (n := 20) (by omega) (by omega) e20
          rw [if_neg Bool.false_ne_true, if_neg Bool.false_ne_true, if_neg e20]
          by_cases e21 : cd = 21
          · have w21 : ¬ ¬ nI cd = 21 := by rw [e21]; exact fun t => t rfl
            by_cases eh : P.2.2 1 = 0
            · have wh : ¬ ¬ zb (nI (P.2.2 1)) = 0 := by rw [z1]; exact fun t => t eh
              rw [if_pos ⟨e21, eh⟩]
              simp only [f_X11_plainTrap_b100, b0, if_true, w20, not_false_eq_true, w21, if_false, s, ckT, q4, wh]
              rfl
            · have wh : ¬ zb (nI (P.2.2 1)) = 0 := by rw [z1]; exact eh
              rw [if_neg (fun t => eh t.2)]
              simp only [f_X11_plainTrap_b100, b0, if_true, w20, not_false_eq_true, w21, if_false, s, ckT, q4, wh]
              rfl
          · have w21 : ¬ nI cd = 21 := nIne (n := 21) (by omega) (by omega) e21
            rw [if_neg (fun t => e21 t.1)]
            simp only [f_X11_plainTrap_b100, b0, if_true, w20, not_false_eq_true, w21]
            rfl
      · simp only [f_X11_plainTrap_b100, b0, if_true, b1, if_false]
        rfl
    · simp only [f_X11_plainTrap_b100, b1, if_false]
      rfl
  have e75 : ∀ (u v : Bool), f_X11_plainTrap_b75 (b + 30) (nI p) (nI cd) (bI u) (bI v) μ = some (nI (if cd = 5 ∧ y = 0 then 1 else if u = true then 2 else if v = true then 3 else if cd = 20 then 4 else if cd = 21 ∧ P.2.2 1 = 0 then 5 else 0)) := by
    intro u v
    by_cases e5 : cd = 5
    · have w5 : ¬ ¬ nI cd = 5 := by rw [e5]; exact fun t => t rfl
      by_cases ey : y = 0
      · have wy : ¬ ¬ y = 0 := fun t => t ey
        rw [if_pos ⟨e5, ey⟩]
        simp only [f_X11_plainTrap_b75, w5, if_false, s, ckT, bdS, ckA, ck_t ip, cp, i34, ck_t ib, cb, ry, wy]
        rfl
      · rw [if_neg (fun t => ey t.2), ← e100]
        simp only [f_X11_plainTrap_b75, w5, if_false, s, ckT, bdS, ckA, ck_t ip, cp, i34, ck_t ib, cb, ry, ey, not_false_eq_true, if_true]
    · have w5 : ¬ nI cd = 5 := nIne (n := 5) (by omega) (by omega) e5
      rw [if_neg (fun t => e5 t.1), ← e100]
      simp only [f_X11_plainTrap_b75, w5, not_false_eq_true, if_true]
  have e60 : ∀ (u : Bool), f_X11_plainTrap_b60 (b + 30) (nI p) (nI cd) x (bI u) μ = f_X11_plainTrap_b75 (b + 30) (nI p) (nI cd) (bI u) (bI (!adok x)) μ := by
    intro u
    have ir := m_in63 x
    cases ha : adok x
    · rw [ha] at ir
      simp only [f_X11_plainTrap_b60, ir, bdS, b0, not_true, nn, if_false]
      rfl
    · rw [ha] at ir
      simp only [f_X11_plainTrap_b60, f_X11_plainTrap_b74, ir, bdS, b1, not_false_eq_true, if_true]
      rfl
  have e46 : ∀ (u : Bool), f_X11_plainTrap_b46 (b + 30) (nI p) (nI cd) x (bI u) μ = f_X11_plainTrap_b75 (b + 30) (nI p) (nI cd) (bI u) (bI (isLp cd && !adok x)) μ := by
    intro u
    by_cases e16 : cd = 16
    · have w16 : nI cd = 16 := by rw [e16]; rfl
      have l : isLp cd = true := by rw [e16]; rfl
      rw [l, Bool.true_and, ← e60]
      simp only [f_X11_plainTrap_b46, w16, if_true]
    · have w16 : ¬ nI cd = 16 := nIne (n := 16) (by omega) (by omega) e16
      by_cases e17 : cd = 17
      · have w17 : ¬ ¬ nI cd = 17 := by rw [e17]; exact fun t => t rfl
        have l : isLp cd = true := by rw [e17]; rfl
        rw [l, Bool.true_and, ← e60]
        simp only [f_X11_plainTrap_b46, w16, if_false, w17]
      · have w17 : ¬ nI cd = 17 := nIne (n := 17) (by omega) (by omega) e17
        have l : isLp cd = false := by
          unfold isLp
          rw [decide_eq_false e16, decide_eq_false e17]
          rfl
        rw [l, Bool.false_and]
        simp only [f_X11_plainTrap_b46, f_X11_plainTrap_b74, w16, if_false, w17, not_false_eq_true, if_true]
        rfl
  have run : f_X11_plainTrap (b + 30) (nI p) μ = f_X11_plainTrap_b46 (b + 30) (nI p) (nI cd) x (bI (isMm cd && !adok (x + n))) μ := by
    have i9 := m_in911 cd hcb
    cases hm : isMm cd
    · rw [hm] at i9
      simp only [f_X11_plainTrap, f_X11_plainTrap_b45, s, ckT, bdS, ckA, ck_t ip, cp, i31, i33, ck_t ia, ca, rx, i9, b0, if_true]
      rfl
    · rw [hm] at i9
      have ad : f_X11_address (b + 30) (nI p) μ = some (x + n) := by
        simp only [f_X11_address, s, ckT, bdS, ckA, ck_t ip, cp, i33, ck_t ia, ca, rx, i35]
      have ia2 := m_isAd (x + n)
      cases ha : adok (x + n)
      · rw [ha] at ia2
        simp only [f_X11_plainTrap, s, ckT, bdS, ckA, ck_t ip, cp, i31, i33, ck_t ia, ca, rx, i9, b1, if_false, ad, ia2, b0, not_true, nn]
        rfl
      · rw [ha] at ia2
        simp only [f_X11_plainTrap, f_X11_plainTrap_b45, s, ckT, bdS, ckA, ck_t ip, cp, i31, i33, ck_t ia, ca, rx, i9, b1, if_false, ad, ia2, not_false_eq_true, if_true]
        rfl
  rw [run, e46, e75, hT]
  refine congrArg (fun t => some (nI t)) ?_
  clear run e46 e75 e60 e100 hT i31 s S0 hPM cf hcd c1 c2
  unfold tpV
  generalize adok (x + n) = u
  generalize adok x = v
  by_cases ey : y = 0 <;> by_cases eh : P.2.2 1 = 0 <;> rcases c22r hcb with rfl | rfl | rfl | rfl | rfl | rfl | rfl | rfl | rfl | rfl | rfl | rfl | rfl | rfl | rfl | rfl | rfl | rfl | rfl | rfl | rfl | rfl <;> cases u <;> cases v <;> simp [isMm, isLp, ey, eh]
end MPL
