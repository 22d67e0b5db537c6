/-! the model: answers -/
section MAN
variable {b : Nat} {A B A' : Sx} {ρ : Nat → Nat} {μ μ' : Mm} {S : Nat → Nat → Bool}
def ans1 (A : Sx) (z : Nat × Nat) (q : List (Nat × Nat)) : Sx := zBr (zQ (zV A 4 (z.1 % 4) (nI z.1)) q) (fun k => wake A [z] (aB A k))
def ansF (A : Sx) (pre : List (Nat × Nat)) : List (Nat × Nat) → Sx
  | [] => A
  | z :: r => if z.2 = aS A 0 then ansF (ans1 A z (pre ++ r)) pre r else ansF A (pre ++ [z]) r
theorem wake_nil (A : Sx) (x : Ent) : wake A [] x = x := by
  unfold wake
  simp
theorem wake_cons (A : Sx) (z : Nat × Nat) (l : List (Nat × Nat)) (x : Ent) : wake A l (wake A [z] x) = wake A (z :: l) x := by
  by_cases h : x.1 10 = 109 ∧ lineOf x = z.1
  · have e1 : wake A [z] x = eN (eN x 10 120) 11 (aS A 0) := if_pos ⟨h.1, by rw [h.2]; simp⟩
    have e2 : wake A (z :: l) x = eN (eN x 10 120) 11 (aS A 0) := if_pos ⟨h.1, by rw [h.2]; simp⟩
    rw [e1, e2]
    exact if_neg (fun q => by
      have : (120 : Nat) = 109 := q.1
      omega)
  · have e1 : wake A [z] x = x := if_neg (fun q => h ⟨q.1, by
      have := q.2
      simpa using this⟩)
    rw [e1]
    unfold wake
    by_cases h2 : x.1 10 = 109 ∧ lineOf x ∈ l.map (·.1)
    · rw [if_pos h2, if_pos ⟨h2.1, List.mem_cons_of_mem _ h2.2⟩]
    · rw [if_neg h2, if_neg (fun q => by
        rcases List.mem_cons.mp q.2 with w | w
        · exact h ⟨q.1, w⟩
        · exact h2 ⟨q.1, w⟩)]
theorem comeIn_z (q : List (Nat × Nat)) (f : Nat → Ent) : ∀ (l : List (Nat × Nat)) (A : Sx), comeIn (zBr (zQ A q) f) l = zBr (zQ (comeIn A l) q) f
  | [], _ => rfl
  | z :: l, A => comeIn_z q f l (zV A 4 (z.1 % 4) (nI z.1))
theorem ansF_eq : ∀ (r : List (Nat × Nat)) (A : Sx) (pre : List (Nat × Nat)), aQ A = pre ++ r → ansF A pre r = zBr (zQ (comeIn A (r.filter (fun z => z.2 == aS A 0))) (pre ++ r.filter (fun z => !(z.2 == aS A 0)))) (fun k => wake A (r.filter (fun z => z.2 == aS A 0)) (aB A k))
  | [], A, pre, h => by
    show A = zBr (zQ A (pre ++ [])) (fun k => wake A [] (aB A k))
    have e : (fun k => wake A [] (aB A k)) = aB A := funext fun k => wake_nil _ _
    rw [e, ← h]
    rfl
  | z :: r, A, pre, h => by
    unfold ansF
    by_cases hz : z.2 = aS A 0
    · have e0 : aS (ans1 A z (pre ++ r)) = aS A := rfl
      rw [if_pos hz, ansF_eq r (ans1 A z (pre ++ r)) pre rfl, List.filter_cons_of_pos (by simpa using hz), List.filter_cons_of_neg (by simpa using hz), e0]
      have e1 : comeIn (ans1 A z (pre ++ r)) (r.filter (fun z => z.2 == aS A 0)) = zBr (zQ (comeIn A (z :: r.filter (fun z => z.2 == aS A 0))) (pre ++ r)) (fun k => wake A [z] (aB A k)) := comeIn_z _ _ _ _
      rw [e1]
      have e2 : (fun k => wake (ans1 A z (pre ++ r)) (r.filter (fun z => z.2 == aS A 0)) (aB (ans1 A z (pre ++ r)) k)) = (fun k => wake A (z :: r.filter (fun z => z.2 == aS A 0)) (aB A k)) := funext fun k => by
        rw [← wake_cons]
        rfl
      rw [e2]
      rfl
    · rw [if_neg hz, ansF_eq r A (pre ++ [z]) (by rw [h, List.append_assoc]; rfl), List.filter_cons_of_neg (by simpa using hz), List.filter_cons_of_pos (by simpa using hz), List.append_assoc]
      rfl
theorem ansF_answers (A : Sx) : ansF A [] (aQ A) = answers A := ansF_eq (aQ A) A [] rfl
def JA (A : Sx) : Prop := ∀ k, k < aS A 9 → (aB A k).1 10 < 1000 ∧ ((aB A k).1 10 = 109 → eC A (aB A k) = 9 ∧ (aB A k).1 12 = 0 ∧ adok ((aB A k).2.1 1) = true)
theorem IB.ja (q : IB A) : JA A := fun k hk => by
  obtain ⟨q1, q2, q3, q4, q5, q6, q7, -⟩ := q
  have d := q7 k hk
  refine ⟨d.s, fun h => ?_⟩
  obtain ⟨d1, d2, d3, d4, d5, d6, d7⟩ := d
  obtain ⟨a1, a2, -⟩ := d4 h
  refine ⟨a1, a2, ?_⟩
  exact (mm_ad q1 (q6 k hk) (d7 (by omega)) (by rw [a1]; rfl) a2).1
theorem wake_s (A : Sx) (q : List (Nat × Nat)) (x : Ent) (h : x.1 10 < 1000) : (wake A q x).1 10 < 1000 := by
  unfold wake
  split
  · exact (by decide : (120 : Nat) < 1000)
  · exact h
def wk (A : Sx) (z : Nat × Nat) (m : Nat) : Sx := zBr A (fun j => if j < m then wake A [z] (aB A j) else aB A j)
theorem wk_same {z : Nat × Nat} {k : Nat} (h : wake A [z] (aB A k) = aB A k) : wk A z (k + 1) = wk A z k := by
  have e : (fun j => if j < k + 1 then wake A [z] (aB A j) else aB A j) = (fun j => if j < k then wake A [z] (aB A j) else aB A j) := funext fun j => by
    by_cases h1 : j < k
    · rw [if_pos h1, if_pos (by omega)]
    · rw [if_neg h1]
      by_cases h2 : j = k
      · rw [h2, if_pos (by omega), h]
      · rw [if_neg (by omega)]
  unfold wk
  rw [e]
theorem wk_0 (A : Sx) (z : Nat × Nat) : wk A z 0 = A := by
  have e : (fun j => if j < 0 then wake A [z] (aB A j) else aB A j) = aB A := funext fun j => if_neg (Nat.not_lt_zero _)
  unfold wk
  rw [e]
  rfl
theorem m_wkL {z : Nat × Nat} {k2 : Nat → Int32 → Mm → Option (Unit × Mm)} {x1 : Int32} (J : JA A) (n9 : aS A 9 ≤ 16) (n10 : aS A 10 ≤ 8) (hz : z.1 < 16) : ∀ (m k fu : Nat) (μ : Mm), m + k = 17 → m < fu → RM b (wk A z k) ρ μ → ∃ μ', f_X11_answers_b98 k2 fu (b + 30) x1 (nI z.1) (nI k) μ = k2 (b + 30) (x1 + 1) μ' ∧ RM b (zBr A (fun j => wake A [z] (aB A j))) ρ μ' ∧ CH b sMo μ μ' := by
  have fin : ∀ (k fu : Nat) (μ : Mm), aS A 9 ≤ k → k < 100 → RM b (wk A z k) ρ μ → ∃ μ', f_X11_answers_b98 k2 (fu + 1) (b + 30) x1 (nI z.1) (nI k) μ = k2 (b + 30) (x1 + 1) μ' ∧ RM b (zBr A (fun j => wake A [z] (aB A j))) ρ μ' ∧ CH b sMo μ μ' := by
    intro k fu μ hk hk2 h
    have s := h.1
    unfold SM at s
    have h23 : mI μ (b + 30) 23 = nI (aS A 9) := h.2.1.1 9 rfl
    have c1 : nI (aS A 9) ≤ nI k := nI_le (by omega) (by omega)
    refine ⟨μ, by simp only [f_X11_answers_b98, f_X11_answers_b165, s, h23, c1, ckT, if_true], ?_, CH.refl0⟩
    obtain ⟨r1, r2, r3, r4, r5, r6, r7, r8, r9, r10, r11⟩ := h
    refine ⟨r1, r2, r3, fun j hj => ?_, r5, r6, r7, r8, r9, r10, r11⟩
    have hj2 : j < aS A 9 := hj
    have := r4 j hj
    have e : aB (wk A z k) j = wake A [z] (aB A j) := if_pos (by omega)
    rw [e] at this
    exact this
  intro m
  induction m with
  | zero =>
    intro k fu μ hm hf h
    obtain ⟨fu, rfl⟩ : ∃ n, fu = n + 1 := ⟨fu - 1, by omega⟩
    exact fin k fu μ (by omega) (by omega) h
  | succ m ih =>
    intro k fu μ hm hf h
    obtain ⟨fu, rfl⟩ : ∃ n, fu = n + 1 := ⟨fu - 1, by omega⟩
    by_cases hk : k < aS A 9
    · have s := h.1
      unfold SM at s
      have h23 : mI μ (b + 30) 23 = nI (aS A 9) := h.2.1.1 9 rfl
      have h36 : mI μ (b + 30) 36 = nI (aS A 0) := h.2.1.1 0 rfl
      have c1 : ¬ nI (aS A 9) ≤ nI k := nI_ge (by omega) (by omega)
      obtain ⟨r1, r2, r3⟩ := h.2.2.1.1 k (by omega)
      have s2 := h.1.row ⟨r2, r3⟩
      have re := h.2.2.2.1 k hk
      have ex : aB (wk A z k) k = aB A k := if_neg (Nat.lt_irrefl _)
      rw [ex] at re
      obtain ⟨j1, j2⟩ := J k hk
      obtain ⟨w11, w3, w12, w4, w13, w6, w14, w15, w15b, w16⟩ := re.d
      have hb := inbN (p := k) (n := 16) (by omega) (by omega)
      have hc := clN (show k < 100000 by omega)
      obtain ⟨x, hx⟩ : ∃ x, x = aB A k := ⟨_, rfl⟩
      rw [← hx] at re ex j1 j2 w11 w3 w12 w4 w13 w6 w14 w15 w15b w16
      have n4 : ck (¬ (4 : Int32) = 0) = fun (x : Option (Unit × Mm)) => x := funext fun x => if_pos (by decide)
      by_cases h109 : x.1 10 = 109
      · obtain ⟨c9, t0, ad⟩ := j2 h109
        have ec0 : eC (wk A z k) x = 9 := c9
        rw [ec0] at w3 w13 w6 w14 w15 w15b w16
        have e11 : mI μ (b + ρ k) 11 = 109 := by rw [w11, h109]; rfl
        have e14 : mI μ (b + ρ k) 14 = x.2.1 1 := w14 rfl t0 (Or.inl ⟨rfl, by omega⟩)
        obtain ⟨a1, a2⟩ := adok_e ad
        have ediv : mI μ (b + ρ k) 14 / 4 = nI (lineOf x) := by
          rw [e14, a1, m_div4 _ a2]
          rfl
        have l16 : lineOf x < 16 := by
          unfold lineOf
          omega
        by_cases hl : lineOf x = z.1
        · have ed : mI μ (b + ρ k) 14 / 4 = nI z.1 := by rw [ediv, hl]
          have n1 : b + 30 ≠ b + ρ k := by omega
          have ew : wake A [z] x = eN (eN x 10 120) 11 (aS A 0) := if_pos ⟨h109, by rw [hl]; simp⟩
          have g : CH b (sRow (ρ k)) μ (sI (sI μ (b + ρ k) 11 120) (b + ρ k) 12 (nI (aS A 0))) := (CH.put (sRow_at _ _)).trans (CH.put (sRow_at _ _))
          have h1 : RM b (wk A z (k + 1)) ρ (sI (sI μ (b + ρ k) 11 120) (b + ρ k) 12 (nI (aS A 0))) := by
            refine h.nx ((h.2.1.ch g (fun o j zz => by have := sRow_e zz; omega)).cg (fun _ _ => rfl) (fun _ _ _ _ => rfl) (fun _ _ _ _ => rfl)) (h.2.2.2.1.upd (k := k) h.2.2.1 n9 (by omega) g (fun o j zz => Or.inl (sRow_e zz)) SamP.refl0 (Nat.le_refl _) (fun j hj hjk => ?_) (fun _ => ?_)) g (fun o j zz => ?_) n10 SamP.refl0 (Nat.le_refl _) (fun j _ => rfl) rfl rfl rfl rfl rfl (fun zz => ⟨zz, rfl⟩) rfl (fun r _ => rfl) rfl
            · show (if j < k + 1 then _ else _) = if j < k then _ else _
              by_cases q : j < k
              · rw [if_pos q, if_pos (by omega)]
              · rw [if_neg q, if_neg (by omega)]
            · have e : aB (wk A z (k + 1)) k = eN (eN x 10 120) 11 (aS A 0) := by
                rw [← ew, hx]
                exact if_pos (Nat.lt_succ_self k)
              rw [e, mI_up, mI_up]
              refine re.up SamP.refl0 (fun j hj => ?_) (fun i hi => ?_) rfl ?_
              · rw [up1_ne _ _ (by omega), up1_ne _ _ (by omega)]
              · rw [(eN_ _ _ _).1, up1_ne _ _ (by omega), (eN_ _ _ _).1, up1_ne _ _ (by omega)]
              · rw [ec0]
                refine ⟨rfl, fun a _ => w3 rfl (by omega), fun _ => rfl, fun zz => absurd zz (show ¬ (120 : Nat) = 101 by decide), ?_, fun zz => w6 (zz.imp id (fun y => absurd y (show ¬ (120 : Nat) = 101 by decide))), fun a c _ => w14 a c (Or.inl ⟨rfl, by omega⟩), fun a _ c => w15 a (by omega) c, fun _ _ y => ?_, fun a => w16 a⟩
                · have w13' := w13
                  rw [h109] at w13'
                  exact w13'
                · have y' : (120 : Nat) = 98 ∨ (120 : Nat) = 101 := y
                  omega
            · have := sRow_e zz
              unfold tabB
              rw [Bool.or_eq_true]
              exact Or.inr (decide_eq_true (by omega))
          obtain ⟨μ2, e2, h2, g2⟩ := ih (k + 1) fu _ (by omega) (by omega) h1
          refine ⟨μ2, ?_, h2, (g.mo ⟨r2, r3⟩).trans g2⟩
          rw [← e2]
          simp only [f_X11_answers_b98, f_X11_answers_b159, s, s2, r1, h23, h36, c1, ckT, bdS, zlS, ckA, ckI, tcL, n4, if_false, ck_t hb, hc, e11, ed, not_true, nI_1, mK_sI, mL_sI, mR_sI', mI_ne _ _ (Or.inl n1)]
        · have ed : ¬ mI μ (b + ρ k) 14 / 4 = nI z.1 := by rw [ediv]; exact nIne (by omega) (by omega) hl
          have ew : wake A [z] (aB A k) = aB A k := if_neg (fun y => hl (by
            have := y.2
            rw [← hx] at this
            simpa using this))
          obtain ⟨μ2, e2, h2, g2⟩ := ih (k + 1) fu μ (by omega) (by omega) (by rw [wk_same ew]; exact h)
          refine ⟨μ2, ?_, h2, g2⟩
          rw [← e2]
          simp only [f_X11_answers_b98, f_X11_answers_b159, s, s2, r1, h23, c1, ckT, bdS, zlS, ckA, ckI, tcL, n4, if_false, ck_t hb, hc, e11, ed, not_true, not_false_eq_true, if_true, nI_1]
      · have e11 : ¬ mI μ (b + ρ k) 11 = 109 := by rw [w11]; exact nIne (n := 109) (by omega) (by omega) h109
        have ew : wake A [z] (aB A k) = aB A k := if_neg (fun y => h109 (by rw [hx]; exact y.1))
        obtain ⟨μ2, e2, h2, g2⟩ := ih (k + 1) fu μ (by omega) (by omega) (by rw [wk_same ew]; exact h)
        refine ⟨μ2, ?_, h2, g2⟩
        rw [← e2]
        simp only [f_X11_answers_b98, f_X11_answers_b159, s, s2, r1, h23, c1, ckT, bdS, zlS, ckA, ckI, tcL, if_false, ck_t hb, hc, e11, not_false_eq_true, if_true, nI_1]
    · exact fin k fu μ (by omega) (by omega) h
def sAn (o k : Nat) : Bool := decide (o = 75 ∨ (o = 30 ∧ k = 35) ∨ o = 76 ∨ o = 77)
theorem sAn_f {o k : Nat} (h : ¬ (o = 75 ∨ (o = 30 ∧ k = 35) ∨ o = 76 ∨ o = 77)) : sAn o k = false := decide_eq_false h
theorem m_shift {z : Nat × Nat} {pre r : List (Nat × Nat)} {k2 : Nat → Int32 → Mm → Option (Unit × Mm)} {x1 l : Int32} {ν : Mm} (S0 : SM b ν) (hQ : mI ν (b + 30) 35 = nI (pre ++ r).length) (hL : (pre ++ z :: r).length ≤ 2) (hk : ∀ k, k < (pre ++ z :: r).length → mI ν (b + 76) k = nI ((pre ++ z :: r).getD k (0, 0)).1 ∧ mI ν (b + 77) k = nI ((pre ++ z :: r).getD k (0, 0)).2) : ∃ ν', f_X11_answers_b51 k2 5000 (b + 30) x1 l (nI pre.length) ν = f_X11_answers_b93 k2 (b + 30) x1 l ν' ∧ CH b (fun o _ => o == 76 || o == 77) ν ν' ∧ ∀ k, k < (pre ++ r).length → mI ν' (b + 76) k = nI ((pre ++ r).getD k (0, 0)).1 ∧ mI ν' (b + 77) k = nI ((pre ++ r).getD k (0, 0)).2 := by
  have s := S0
  unfold SM at s
  obtain ⟨n, hn⟩ : ∃ n, 5000 = n + 1 + 1 := ⟨4998, rfl⟩
  rw [hn]
  rcases pre with _ | ⟨y, _ | ⟨y2, pre⟩⟩
  · rcases r with _ | ⟨y, _ | ⟨y2, r⟩⟩
    · have hQ0 : mI ν (b + 30) 35 = 0 := hQ
      have c : (0 : Int32) ≤ nI ([] : List (Nat × Nat)).length := by decide
      exact ⟨ν, by simp only [f_X11_answers_b51, s, hQ0, c, ckT, if_true], CH.refl0, fun k h => absurd h (Nat.not_lt_zero _)⟩
    · have hQ0 : mI ν (b + 30) 35 = 1 := hQ
      have e0 : nI ([] : List (Nat × Nat)).length = 0 := rfl
      have c : ¬ (1 : Int32) ≤ 0 := by decide
      have c2 : (1 : Int32) ≤ 1 := by decide
      have z1 : (0 : Int32) + 1 = 1 := by decide
      obtain ⟨k1, k3⟩ := hk 1 (by show 1 < 2; omega)
      have n1 : b + 30 ≠ b + 76 := by omega
      have n2 : b + 30 ≠ b + 77 := by omega
      have n3 : b + 77 ≠ b + 76 := by omega
      refine ⟨sI (sI ν (b + 76) 0 (nI y.1)) (b + 77) 0 (nI y.2), ?_, (CH.put rfl).trans (CH.put rfl), fun k h => ?_⟩
      · rw [e0]
        have k1' : mI ν (b + 76) 1 = nI y.1 := k1
        have k3' : mI ν (b + 77) 1 = nI y.2 := k3
        simp only [f_X11_answers_b51, s, hQ0, c, c2, z1, ckT, bdS, zlS, ckA, ckI, tcL, if_true, if_false, k1', k3', mK_sI, mL_sI, mR_sI', mI_ne _ _ (Or.inl n1), mI_ne _ _ (Or.inl n2), mI_ne _ _ (Or.inl n3)]
      · have k0 : k = 0 := by
          have : k < 1 := h
          omega
        subst k0
        rw [mI_ne _ _ (Or.inl (by omega)), mI_at, mI_at]
        exact ⟨rfl, rfl⟩
    · exfalso
      have : r.length + 1 + 1 + 1 ≤ 2 := hL
      omega
  · rcases r with _ | ⟨y2, r⟩
    · have hQ0 : mI ν (b + 30) 35 = 1 := hQ
      have c : (1 : Int32) ≤ nI [y].length := by show (1 : Int32) ≤ 1; decide
      refine ⟨ν, by simp only [f_X11_answers_b51, s, hQ0, c, ckT, if_true], CH.refl0, fun k h => ?_⟩
      have k0 : k = 0 := by
        have : k < 1 := h
        omega
      subst k0
      exact hk 0 (by show 0 < 2; omega)
    · exfalso
      have : r.length + 1 + 1 + 1 ≤ 2 := hL
      omega
  · exfalso
    have : (pre ++ z :: r).length + 1 + 1 ≤ 2 := hL
    rw [List.length_append] at this
    have h2 : (z :: r).length = r.length + 1 := rfl
    omega
theorem pm1 (i : Nat) : nI i + (-1) + 1 = nI i := by
  rw [Int32.add_assoc]
  exact Int32.add_zero _
theorem m_ansL : ∀ (r pre : List (Nat × Nat)) {A : Sx} {μ : Mm} {fu : Nat}, RM b A ρ μ → JA A → aS A 9 ≤ 16 → aS A 10 ≤ 8 → aQ A = pre ++ r → (pre ++ r).length ≤ 2 → (∀ z, z ∈ pre ++ r → z.1 < 16 ∧ z.2 < 1000) → aS A 0 < 1000 → r.length < fu → ∃ μ', f_X11_answers_b2 fu (b + 30) (nI pre.length) μ = some ((), μ') ∧ RM b (ansF A pre r) ρ μ' ∧ CH b sMo μ μ'
  | [], pre, A, μ, fu, h, J, n9, n10, hq, hl, hb, h0, hf => by
    obtain ⟨fu, rfl⟩ : ∃ n, fu = n + 1 := ⟨fu - 1, by omega⟩
    have s := h.1
    unfold SM at s
    have h35 : mI μ (b + 30) 35 = nI pre.length := by
      have := h.2.2.2.2.2.2.2.1.1
      rw [hq, List.append_nil] at this
      exact this
    have c := Int32.le_refl (nI pre.length)
    exact ⟨μ, by simp only [f_X11_answers_b2, s, h35, c, ckT, if_true], h, CH.refl0⟩
  | z :: r, pre, A, μ, fu, h, J, n9, n10, hq, hl, hb, h0, hf => by
    obtain ⟨fu, rfl⟩ : ∃ n, fu = n + 1 := ⟨fu - 1, by omega⟩
    have hf2 : r.length + 1 < fu + 1 := hf
    have s := h.1
    unfold SM at s
    obtain ⟨h35, hk⟩ := h.2.2.2.2.2.2.2.1
    rw [hq] at h35 hk
    have el : (pre ++ z :: r).length = (pre ++ r).length + 1 := by
      rw [List.length_append, List.length_append]
      rfl
    have el2 : pre.length ≤ (pre ++ r).length := by
      rw [List.length_append]
      omega
    obtain ⟨k1, k2⟩ := hk pre.length (by omega)
    have eg : (pre ++ z :: r).getD pre.length (0, 0) = z := by simp
    rw [eg] at k1 k2
    obtain ⟨z16, z1000⟩ := hb z (by simp)
    have h36 : mI μ (b + 30) 36 = nI (aS A 0) := h.2.1.1 0 rfl
    have c1 : ¬ nI (pre ++ z :: r).length ≤ nI pre.length := nI_ge (by omega) (by omega)
    have hbp := inbN (p := pre.length) (n := 2) (by omega) (by omega)
    have hcp := clN (show pre.length < 100000 by omega)
    unfold ansF
    by_cases hz : z.2 = aS A 0
    · rw [if_pos hz]
      have n1 : b + 30 ≠ b + 75 := by omega
      have hm : inb (nI (z.1 % 4)) 4 := inbN (Nat.mod_lt _ (by decide)) (by omega)
      have hmc := clN (show z.1 % 4 < 100000 by omega)
      have n4 : ∀ x : Option (Unit × Mm), ck (¬ (4 : Int32) = 0) x = x := fun x => if_pos (by decide)
      have p1 : nI (pre ++ z :: r).length - 1 = nI (pre ++ r).length := by rw [el]; exact nI_pred _
      have m4 := m_mod4 z.1 (by omega)
      obtain ⟨μ2, hμ2⟩ : ∃ μ2, μ2 = sI (sI μ (b + 75) (z.1 % 4) (nI z.1)) (b + 30) 35 (nI (pre ++ r).length) := ⟨_, rfl⟩
      have g2 : CH b sAn μ μ2 := by
        rw [hμ2]
        exact (CH.put rfl).trans (CH.put rfl)
      have base : f_X11_answers_b2 (fu + 1) (b + 30) (nI pre.length) μ = f_X11_answers_b51 (f_X11_answers_b2 fu) 5000 (b + 30) (nI pre.length) (nI z.1) (nI pre.length) μ2 := by
        have k2' : mI μ (b + 77) pre.length = nI (aS A 0) := by rw [k2, hz]
        simp only [f_X11_answers_b2, s, h35, h36, c1, ckT, bdS, zlS, ckA, ckI, tcL, if_true, if_false, not_true, k1, k2', ck_t hbp, hcp, m4, ck_t hm, hmc, n4, mI_ne _ _ (Or.inl n1), p1, ← hμ2]
      obtain ⟨μ3, e3, g3, q3⟩ := m_shift (z := z) (pre := pre) (r := r) (k2 := f_X11_answers_b2 fu) (x1 := nI pre.length) (l := nI z.1) (ν := μ2) (h.1.ch g2) (by rw [hμ2, mI_at]) hl (fun k hkk => by
        rw [hμ2, mI_row _ _ (show b + 76 ≠ b + 30 by omega), mI_row _ _ (show b + 76 ≠ b + 75 by omega), mI_row _ _ (show b + 77 ≠ b + 30 by omega), mI_row _ _ (show b + 77 ≠ b + 75 by omega)]
        exact hk k hkk)
      have g3' : CH b sAn μ2 μ3 := g3.mono fun o k zz => by
        simp only [Bool.or_eq_true, beq_iff_eq] at zz
        exact decide_eq_true (by omega)
      have g : CH b sAn μ μ3 := g2.trans g3'
      have h1 : RM b (zQ (zV A 4 (z.1 % 4) (nI z.1)) (pre ++ r)) ρ μ3 := by
        obtain ⟨r1, r2, r3, r4, r5, r6, r7, r8, r9, r10, r11⟩ := h
        refine ⟨r1.ch g, ?_, r3.ch g, r4.ch n9 r3 g (fun o k _ _ => sAn_f (by omega)), r5.ch n10 g (fun o k _ _ => sAn_f (by omega)), r6.ch g (fun o k _ _ => sAn_f (by omega)), ?_, ?_, r9.ch g (fun k => sAn_f (by omega)), r10.ch g (sAn_f (by omega)), r11.ch g (fun o k _ _ => sAn_f (by omega)) (fun o k zz => by
          have := of_decide_eq_true zz
          omega)⟩
        · have T1 := r2.putV mT_ok (q := 4) (j := z.1 % 4) (by omega) (show z.1 % 4 < 4 from Nat.mod_lt _ (by decide)) (nI z.1)
          have e0 : (mT.2.2 4).2 + z.1 % 4 = z.1 % 4 := Nat.zero_add _
          rw [e0] at T1
          have g4 : CH b (fun o k => decide ((o = 30 ∧ k = 35) ∨ o = 76 ∨ o = 77)) (sI μ (b + 75) (z.1 % 4) (nI z.1)) μ3 := by
            rw [hμ2] at g3
            refine CH.trans (CH.put rfl) (g3.mono fun o k zz => ?_)
            simp only [Bool.or_eq_true, beq_iff_eq] at zz
            exact decide_eq_true (by omega)
          have T2 : RT mT b (zV A 4 (z.1 % 4) (nI z.1)) μ3 := T1.keep (fun o k ho => g4.cell (by
            cases hzz : decide ((o = 30 ∧ k = 35) ∨ o = 76 ∨ o = 77) with
            | false => rfl
            | true =>
              exfalso
              rcases of_decide_eq_true hzz with ⟨a, c⟩ | a
              · rw [a, c] at ho
                have : offT mT 30 35 = true := by decide +kernel
                rw [this] at ho
                cases ho
              · rw [offM (by omega)] at ho
                cases ho))
          exact T2.cg (fun _ _ => rfl) (fun _ _ _ _ => rfl) (fun _ _ _ _ => rfl)
        · have := r7.ch g (fun o k _ _ => sAn_f (by omega))
          unfold KM at this ⊢
          have e6 : aV (zQ (zV A 4 (z.1 % 4) (nI z.1)) (pre ++ r)) 6 = aV A 6 := by
            show aV (zV A 4 (z.1 % 4) (nI z.1)) 6 = _
            exact zV_ne _ _ _ (by decide)
          have e7 : aV (zQ (zV A 4 (z.1 % 4) (nI z.1)) (pre ++ r)) 7 = aV A 7 := by
            show aV (zV A 4 (z.1 % 4) (nI z.1)) 7 = _
            exact zV_ne _ _ _ (by decide)
          rw [e6, e7]
          exact this
        · refine ⟨?_, q3⟩
          rw [g3.cell (by rfl), hμ2, mI_at]
          rfl
      have J1 : JA (zQ (zV A 4 (z.1 % 4) (nI z.1)) (pre ++ r)) := J
      obtain ⟨μ4, e4, h4, g4⟩ := m_wkL (z := z) (k2 := f_X11_answers_b2 fu) (x1 := nI pre.length + (-1)) J1 n9 n10 z16 17 0 5000 μ3 rfl (by omega) (by rw [wk_0]; exact h1)
      have J2 : JA (ans1 A z (pre ++ r)) := fun k hk => by
        obtain ⟨j1, j2⟩ := J k hk
        refine ⟨wake_s A [z] _ j1, fun h109 => ?_⟩
        have e : (wake A [z] (aB A k)).1 10 = 109 := h109
        have e2 : wake A [z] (aB A k) = aB A k := by
          unfold wake at e ⊢
          split
          · rename_i hw
            rw [if_pos hw] at e
            cases e
          · rfl
        have e3 : aB (ans1 A z (pre ++ r)) k = aB A k := e2
        rw [e3] at h109 ⊢
        exact j2 h109
      obtain ⟨μ5, e5, h5, g5⟩ := m_ansL r pre (A := ans1 A z (pre ++ r)) (fu := fu) h4 J2 n9 n10 rfl (by omega) (fun y hy => hb y (by
        rcases List.mem_append.mp hy with w | w
        · exact List.mem_append_left _ w
        · exact List.mem_append_right _ (List.mem_cons_of_mem _ w))) h0 (by omega)
      refine ⟨μ5, ?_, h5, (g.mono fun o k zz => ?_).trans (g4.trans g5)⟩
      · rw [base, e3]
        unfold f_X11_answers_b93
        have e4' : f_X11_answers_b98 (f_X11_answers_b2 fu) 5000 (b + 30) (nI pre.length + (-1)) (nI z.1) 0 μ3 = _ := e4
        rw [e4', pm1]
        exact e5
      · have := of_decide_eq_true zz
        exact decide_eq_true (by omega)
    · rw [if_neg hz]
      have k2' : ¬ mI μ (b + 77) pre.length = nI (aS A 0) := by rw [k2]; exact nIne (by omega) (by omega) hz
      have ea : pre ++ [z] ++ r = pre ++ z :: r := by rw [List.append_assoc]; rfl
      have e1 : (pre ++ [z]).length = pre.length + 1 := by rw [List.length_append]; rfl
      obtain ⟨μ5, e5, h5, g5⟩ := m_ansL r (pre ++ [z]) (A := A) (fu := fu) h J n9 n10 (by rw [ea]; exact hq) (by rw [ea]; exact hl) (by rw [ea]; exact hb) h0 (by omega)
      refine ⟨μ5, ?_, h5, g5⟩
      rw [e1] at e5
      rw [← e5]
      simp only [f_X11_answers_b2, f_X11_answers_b165, s, h35, h36, c1, ckT, bdS, ckA, ckI, tcL, if_true, if_false, k2', not_false_eq_true, ck_t hbp, hcp, nI_1]
theorem m_answers (h : RM b A ρ μ) (q : IV A) (t : TQ A) (h0 : aS A 0 < 1000) : ∃ μ', f_X11_answers (b + 30) μ = some ((), μ') ∧ RM b (answers A) ρ μ' ∧ CH b sMo μ μ' := by
  have hn9 : aS A 9 ≤ 16 := by have := q.1.2.1.1; have := q.1.1.2.1; omega
  have hn10 : aS A 10 ≤ 8 := by have := q.2.1; have := q.1.1.1; omega
  obtain ⟨μ1, e1, h1, g1⟩ := m_ansL (aQ A) [] (fu := 5000) h q.1.ja hn9 hn10 rfl q.1.2.2.1.1 (fun z hz => ⟨q.1.2.2.1.2.1 z hz, t.2 z hz⟩) h0 (by have : (aQ A).length ≤ 2 := q.1.2.2.1.1; omega)
  rw [ansF_answers] at h1
  exact ⟨μ1, e1, h1, g1⟩
end MAN
