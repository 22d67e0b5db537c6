/-! THE CLASS: what its steps keep -/
section CFR
variable {b z e sl : Nat} {m m' : Nat → Nat} {A A' : Sx} {G G' : Nat → Nat → Nat} {ar ar' : Nat → Nat} {s s' : Nat} {μ μ' μ2 : Mm} {S : Nat → Nat → Bool}
/-- the numbers of one entry change -/
def CE (a : Nat) (μ μ' : Mm) : Prop := mK μ' = mK μ ∧ mL μ' = mL μ ∧ mR μ' = mR μ ∧ mJ μ' = mJ μ ∧ mN μ' = mN μ ∧ mS μ' = mS μ ∧ ∀ x, x ≠ a → x ≠ a + 1 → mI μ' x = mI μ x
theorem CE.refl0 {a : Nat} : CE a μ μ := ⟨rfl, rfl, rfl, rfl, rfl, rfl, fun _ _ _ => rfl⟩
theorem CE.trans {a : Nat} (h : CE a μ μ') (g : CE a μ' μ2) : CE a μ μ2 := by
  obtain ⟨h1, h2, h3, h4, h5, h6, h7⟩ := h
  obtain ⟨g1, g2, g3, g4, g5, g6, g7⟩ := g
  exact ⟨g1.trans h1, g2.trans h2, g3.trans h3, g4.trans h4, g5.trans h5, g6.trans h6, fun x a c => (g7 x a c).trans (h7 x a c)⟩
theorem CE.put {a k : Nat} {v : Int32} : CE a μ (sI μ a k v) := ⟨rfl, rfl, rfl, rfl, rfl, rfl, fun x h _ => mI_row _ _ h⟩
theorem CE.put1 {a k : Nat} {v : Int32} : CE a μ (sI μ (a + 1) k v) := ⟨rfl, rfl, rfl, rfl, rfl, rfl, fun x _ h => mI_row _ _ h⟩
theorem FR.ce {a : Nat} (h : FR b z A μ) (k1 : mK μ a = 104) (k2 : mK μ (a + 1) = 51) (g : CE a μ μ') : FR b z A μ' := by
  have ne : ∀ x, fxK (mK μ x) = true → x ≠ a ∧ x ≠ a + 1 := fun x hx => ⟨fun q => (by rw [q, k1] at hx; cases hx), fun q => (by rw [q, k2] at hx; cases hx)⟩
  refine h.same (fun x hx => ⟨by rw [g.1], by rw [g.2.1], fun k _ => by rw [g.2.2.2.2.2.2 x (ne x hx).1 (ne x hx).2], fun _ => by rw [g.2.2.1]⟩) (fun i hi => ?_) (fun k _ => by rw [g.2.2.1]) ⟨by rw [g.2.2.1], by rw [g.1]⟩ ⟨by rw [g.1], by rw [g.2.1]⟩
  have := ne _ (h.1.fk (lo_lt hi).1 (lo_lt hi).2.1)
  rw [g.2.2.2.2.2.2 _ this.1 this.2]
theorem CE.ck {a : Nat} (k1 : mK μ a = 104) (k2 : mK μ (a + 1) = 51) (g : CE a μ μ') : CK 0 0 μ μ' := by
  refine ⟨fun w x hx => ?_, by rw [g.2.2.2.2.1]; exact Nat.le_refl _, by rw [g.2.2.2.2.1]; exact Nat.le_refl _, by rw [g.2.2.2.2.2.1]; exact Nat.le_refl _, fun x _ => ⟨by rw [g.1], by rw [g.2.1]⟩, fun x hx hc => ⟨g.2.2.2.2.2.2 x (fun q => by rw [q, k1] at hc; cases hc) (fun q => by rw [q, k2] at hc; cases hc), by rw [g.2.2.1], by rw [g.2.2.2.1]⟩⟩
  rw [g.1]
  exact w x (by rw [g.2.2.2.2.1] at hx; exact hx)
theorem REc.ce {gP : Nat → Nat} {late : Nat} {rn : Bool} {x : Ent} {a c : Nat} (h : REc A gP late rn x c μ) (k1 : mK μ a = 104) (k2 : mK μ (a + 1) = 51) (hac : c ≠ a) (g : CE a μ μ') : REc A gP late rn x c μ' := by
  obtain ⟨h1, h2, ⟨st, h3, h3'⟩, h4, h5, h6, h7⟩ := h
  unfold REc
  rw [g.1, g.2.1, g.2.2.1, g.2.2.2.2.2.2 c hac (fun q => by rw [q, k2] at h1; cases h1), g.2.2.2.2.2.2 (c + 1) (fun q => by rw [q, k1] at h5; cases h5) (by omega)]
  refine ⟨h1, h2, ⟨st, h3, ?_⟩, h4, h5, h6, h7⟩
  unfold SKs at h3' ⊢
  rw [g.1, g.2.1, g.2.2.2.2.2.2 st (fun q => by rw [q, k1] at h3'; cases h3'.1) (fun q => by rw [q, k2] at h3'; cases h3'.1)]
  exact h3'
/-- an entry of the buffer changes -/
theorem HR.ent {k0 : Nat} {y : Ent} (h : HR b z A m G ar s μ) (hk : k0 < aS A 9) (hm1 : m k0 ≠ 1) (g : CE (G 1 k0) μ μ') (hB : ∀ k, aB A' k = if k = k0 then y else aB A k) (y0 : y.1 0 = (aB A k0).1 0) (y2 : y.2.2 = (aB A k0).2.2) (hy : REf A (m' k0) true y (mI μ' (G 1 k0)) (mI μ' (G 1 k0 + 1))) (hP : SamP A A') (h15 : aS A' 15 = aS A 15) (h9 : aS A' 9 = aS A 9) (h10 : aS A' 10 = aS A 10) (h14 : aS A' 14 = aS A 14) (hL : aL A' = aL A) (hT : aT A' = aT A) (hE : ∀ r, r = 14 ∨ r = 15 ∨ r = 20 ∨ r = 21 ∨ r = 22 ∨ r = 23 → aN A' r = aN A r) (hV : aV A' 8 = aV A 8) (hm : ∀ k, k < aS A 9 → k ≠ k0 → m k ≠ 0 → m' k = m k) : HR b z A' m' G ar s μ' := by
  obtain ⟨h1, h2, h3, h4, h5, h6, h7, h8, h9'⟩ := h
  have e4 := h4 k0 hk
  obtain ⟨k1, a0, a3, a4, k2, l2, a7⟩ := e4
  have en : ∀ i, i < 4 → nLs A' i = nLs A i := fun i hi => by
    have : i = 0 ∨ i = 1 ∨ i = 2 ∨ i = 3 := by omega
    rcases this with rfl | rfl | rfl | rfl
    · exact h15
    · exact h9
    · exact h10
    · exact h14
  have ne : ∀ x, mK μ x ≠ 104 → mK μ x ≠ 51 → mI μ' x = mI μ x := fun x a c => g.2.2.2.2.2.2 x (fun q => a (by rw [q]; exact k1)) (fun q => c (by rw [q]; exact k2))
  refine ⟨fun i hi => ?_, h2, fun p hp => ?_, fun k hk2 => ?_, fun j hj => ?_, ?_, fun e he => ?_, by rw [g.2.2.1]; exact h8, ?_⟩
  · rw [en i hi]
    exact (h1 i hi).same (by rw [g.2.2.1]) ⟨by rw [g.1], by rw [g.2.1], by rw [g.2.2.1]⟩
  · have q := h3 p (by omega)
    unfold INc
    rw [hP.1 10 (by omega) (by omega), hP.1 11 (by omega) (by omega), hP.1 12 (by omega) (by omega), hP.1 13 (by omega) (by omega), hP.2, g.1, ne _ (by rw [q.1]; decide) (by rw [q.1]; decide)]
    exact q
  · rw [h9] at hk2
    rw [hB k]
    by_cases e : k = k0
    · subst e
      rw [if_pos rfl]
      refine ⟨by rw [g.1]; exact k1, by rw [g.2.2.1, y0]; exact a0, ?_, by rw [g.2.2.1]; exact a4, by rw [g.1]; exact k2, by rw [g.2.1]; exact l2, hy.cg hP (fun _ => rfl)⟩
      obtain ⟨st, b1, b2⟩ := a3
      refine ⟨st, by rw [g.2.2.1]; exact b1, ?_⟩
      rw [y2]
      unfold SKs at b2 ⊢
      rw [g.1, g.2.1, ne st (by rw [b2.1]; decide) (by rw [b2.1]; decide)]
      exact b2
    · rw [if_neg e]
      have hne : G 1 k ≠ G 1 k0 := fun q => by
        rcases Nat.lt_or_ge k k0 with w | w
        · have := h6.1 k k0 w hk
          omega
        · have := h6.1 k0 k (by omega) hk2
          omega
      exact ((h4 k hk2).ce k1 k2 hne g).cg hP (fun q => hm k hk2 e q)
  · rw [hL]
    have hne : G 2 j ≠ G 1 k0 := fun q => by
      have := h6.2.2.1 k0 j hk (by omega)
      omega
    exact ((h5 j (by omega)).ce k1 k2 hne g).cg hP (fun _ => rfl)
  · unfold ORc at h6 ⊢
    rw [h9, h10, h14]
    refine ⟨h6.1, h6.2.1, h6.2.2.1, fun e k a c d => h6.2.2.2.1 e k a c (fun q => ?_), h6.2.2.2.2⟩
    by_cases e0 : k = k0
    · rw [e0] at q
      exact hm1 q
    · exact d ((hm k c e0 (by rw [q]; decide)).trans q)
  · have q := h7 e (by omega)
    have hne : G 4 e ≠ G 1 k0 + 1 := fun w => by
      have := h6.2.2.2.1 e k0 (by omega) hk hm1
      omega
    unfold ENc
    rw [hE 14 (by omega), hE 15 (by omega), hE 20 (by omega), hE 21 (by omega), hE 22 (by omega), hE 23 (by omega), hV, g.1, g.2.1, g.2.2.1, ne _ (by rw [q.1]; decide) (by rw [q.1]; decide), g.2.2.2.2.2.2 _ (fun w => by have q7 := q.2.2.2.2.2.2.1; rw [w, k1] at q7; cases q7) hne]
    exact q
  · rw [hT]
    unfold SKs at h9' ⊢
    rw [g.1, g.2.1, ne s (by rw [h9'.1]; decide) (by rw [h9'.1]; decide)]
    exact h9'
/-! list operations -/
theorem LF.ne {i e' : Nat} (hC : SC b μ) (hi : i < 4) (w : WF μ) (g : LF (b + lo i) e' μ μ') (he : mK μ e' = 26 ∨ e' = mN μ) : ∀ a, h2K (mK μ a) = true → mK μ' a = mK μ a ∧ mL μ' a = mL μ a ∧ mI μ' a = mI μ a ∧ mR μ' a = mR μ a := fun a ha => by
  have hl := w.lt (hpK_0 (h2_h ha))
  have n1 : a ≠ b + lo i := fun q => by
    have := hC.fk (lo_lt hi).1 (lo_lt hi).2.1
    rw [← q, hf_no (h2_h ha)] at this
    cases this
  have n2 : a ≠ e' := fun q => by
    rcases he with c | c
    · rw [q, c] at ha; cases ha
    · omega
  obtain ⟨g1, g2, g3, g4, -⟩ := g
  exact ⟨(g1 a hl).1, (g1 a hl).2.1, g2 a hl n1, g4 a hl n1 n2⟩
theorem FR.lf {i e' : Nat} (h : FR b z A μ) (hi : i < 4) (w : WF μ) (g : LF (b + lo i) e' μ μ') (he : mK μ e' = 26 ∨ e' = mN μ) (hT : RT cT b A' μ') (hp : plA A' (aS A' 14) = plA A (aS A 14)) (hq : aQ A' = aQ A) (hf : aS A' 12 = 0 → aS A 12 = 0 ∧ aS A' 11 = aS A 11) : FR b z A' μ' := by
  obtain ⟨f1, f2, f3, f4, f5, f6⟩ := h
  obtain ⟨g1, g2, g3, g4, g5, g6, g7⟩ := g
  have fl : ∀ o, o < 30 → o ≠ 24 → b + o < mN μ := fun o a c => w.lt (fxK_0 (f1.fk a c))
  have nl : ∀ o, o < 30 → o ≠ 24 → o ≠ lo i → mI μ' (b + o) = mI μ (b + o) := fun o a c d => g2 _ (fl o a c) (by omega)
  have ne0 : ∀ o, o < 30 → o ≠ 24 → b + o ≠ e' := fun o a c q => by
    rcases he with d | d
    · have := f1.fk a c
      rw [q, d] at this
      cases this
    · have := fl o a c
      omega
  have lz : z < mN μ := w.lt (by rw [f3.2.2.2.2.2.1]; decide)
  have e00 : mR μ' 0 = mR μ 0 := by
    have l0 : 0 < mN μ := by omega
    rcases f3.2.2.2.2.1 with k0 | z0
    rotate_left
    · have l26 := f3.2.2.2.2.2.1
      have l00 := f3.2.2.2.2.2.2
      rw [z0] at l26 l00
      refine (g1 0 (by omega)).2.2.2 l00 fun q => ?_
      have := f1.fk (lo_lt hi).1 (lo_lt hi).2.1
      rw [← q, l26] at this
      cases this
    refine g4 0 l0 (fun q => ?_) (fun q => ?_)
    · have := f1.fk (lo_lt hi).1 (lo_lt hi).2.1
      rw [← q] at this
      exact fxK_0 this k0
    · rcases he with d | d
      · rw [← q, k0] at d; cases d
      · omega
  have l4 := lo_lt hi
  refine ⟨f1.cg2 (fun o a c => ⟨(g1 _ (fl o a c)).1, (g1 _ (fl o a c)).2.1⟩) (fun o ho => g4 _ (fl o (by omega) (by omega)) (by omega) (ne0 o (by omega) (by omega))) (fun k _ => by rw [g4 _ (fl 20 (by decide) (by decide)) (by omega) (ne0 20 (by decide) (by decide))]), hT, ?_, ?_, ?_, fun hz => ?_⟩
  · unfold ST at f3 ⊢
    rw [e00, (g1 z lz).1, (g1 z lz).2.1, (g1 0 (by omega)).1]
    exact f3
  · unfold PLm at f4 ⊢
    rw [hp, nl 7 (by decide) (by decide) (by omega), nl 8 (by decide) (by decide) (by omega), nl 6 (by decide) (by decide) (by omega)]
    exact f4
  · unfold QCm at f5 ⊢
    rw [hq, nl 15 (by decide) (by decide) (by omega), nl 18 (by decide) (by decide) (by omega), nl 19 (by decide) (by decide) (by omega)]
    exact f5
  · obtain ⟨q1, q2⟩ := hf hz
    rw [nl 20 (by decide) (by decide) (by omega), q2]
    exact f6 q1
theorem RT.lf {i e' n : Nat} (h : RT cT b A μ) (hC : SC b μ) (hi : i < 4) (w : WF μ) (g : LF (b + lo i) e' μ μ') (hn : mI μ' (b + lo i) 2 = nI n) : RT cT b (zS A ([15, 9, 10, 14].getD i 0) n) μ' := by
  obtain ⟨g1, g2, g3, g4, g5, g6, g7⟩ := g
  have hc : scI ([15, 9, 10, 14].getD i 0) = true ∧ cT.1 ([15, 9, 10, 14].getD i 0) = (lo i, 2) := by
    have : i = 0 ∨ i = 1 ∨ i = 2 ∨ i = 3 := by omega
    rcases this with rfl | rfl | rfl | rfl <;> exact ⟨rfl, rfl⟩
  have t := h.putS cT_ok hc.1 n
  rw [hc.2] at t
  refine t.keep (fun o k hz => ?_)
  obtain ⟨c1, c2, c3⟩ := cT_lt hz
  by_cases e : o = lo i
  · subst e
    rw [c3 (lo_lt hi).2.2, hn, mI_at]
  · rw [mI_row _ _ (show b + o ≠ b + lo i by omega), g2 _ (w.lt (fxK_0 (hC.fk c1 c2))) (by omega)]
theorem LF.ck {i e' : Nat} (hC : SC b μ) (hi : i < 4) (w : WF μ) (g : LF (b + lo i) e' μ μ') (he : mK μ e' = 26 ∨ e' = mN μ) {e sl : Nat} (hN : mN μ' ≤ mN μ + e) (hS : mS μ' ≤ mS μ + sl) : CK e sl μ μ' := by
  obtain ⟨g1, g2, g3, g4, g5, g6, g7⟩ := g
  refine ⟨g6, g7, hN, hS, fun a ha => ⟨(g1 a ha).1, (g1 a ha).2.1⟩, fun a ha hc => ?_⟩
  have n1 : a ≠ b + lo i := fun q => by
    have := clK_f (hC.fk (lo_lt hi).1 (lo_lt hi).2.1)
    rw [← q, hc] at this
    cases this
  have n2 : a ≠ e' := fun q => by
    rcases he with c | c
    · rw [q, c] at hc; cases hc
    · omega
  exact ⟨g2 a ha n1, g4 a ha n1 n2, (g1 a ha).2.2.1⟩
/-- the other lists stay -/
theorem HR.lists {i e' : Nat} (h : HR b z A m G ar s μ) (hC : SC b μ) (hi : i < 4) (w : WF μ) (g : LF (b + lo i) e' μ μ') (he : (e' = ar i ∧ e' ≠ z) ∨ e' = mN μ) : ∀ j, j < 4 → j ≠ i → LSx b z μ' j (nLs A j) (G j) (ar j) := fun j hj hji => by
  obtain ⟨h1, h2, -⟩ := h
  have lj := h1 j hj
  obtain ⟨g1, g2, g3, g4, g5, g6, g7⟩ := g
  have ll : lo j ≠ lo i := by
    have a : i = 0 ∨ i = 1 ∨ i = 2 ∨ i = 3 := by omega
    have c : j = 0 ∨ j = 1 ∨ j = 2 ∨ j = 3 := by omega
    rcases a with rfl | rfl | rfl | rfl <;> rcases c with rfl | rfl | rfl | rfl <;> first | exact absurd rfl hji | decide
  have kj := hC.fk (lo_lt hj).1 (lo_lt hj).2.1
  have aj : ar j < mN μ := w.lt (by rw [lj.2.1]; decide)
  have ki := hC.fk (lo_lt hi).1 (lo_lt hi).2.1
  have n1 : ar j ≠ b + lo i := fun q => by rw [← q, lj.2.1] at ki; cases ki
  have n2 : ar j ≠ e' := fun q => by
    rcases he with c | c
    · have := h2 i j hi hj (fun w => hji w.symm) (by rw [← c.1, q])
      rw [← c.1] at this
      exact c.2 this
    · omega
  have n3 : b + lo j ≠ e' := fun q => by
    rcases he with c | c
    · rw [q, c.1, (h1 i hi).2.1] at kj; cases kj
    · have := w.lt (fxK_0 kj)
      omega
  exact lj.same (by rw [g4 _ (w.lt (fxK_0 kj)) (by omega) n3]) ⟨(g1 _ aj).1, (g1 _ aj).2.1, g4 _ aj n1 n2⟩
end CFR
