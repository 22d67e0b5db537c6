/-! THE CLASS: answers -/
section CAN
variable {b z e sl : Nat} {m : Nat → Nat} {A A' A0 : Sx} {G : Nat → Nat → Nat} {ar : Nat → Nat} {s : Nat} {μ μ' : Mm} {S : Nat → Nat → Bool}
theorem FR.cgA (h : FR b z A μ) (hS : aS A' = aS A) (hN : aN A' = aN A) (hV : aV A' = aV A) (hQ : aQ A' = aQ A) : FR b z A' μ := by
  obtain ⟨f1, f2, f3, f4, f5, f6⟩ := h
  refine ⟨f1, f2.cg (fun i _ => by rw [hS]) (fun r k _ _ => by rw [hN]) (fun r k _ _ => by rw [hV]), f3, ?_, ?_, ?_⟩
  · unfold PLm at f4 ⊢
    have : plA A' (aS A' 14) = plA A (aS A 14) := by
      rw [hS]
      exact plA_congr (A := A) (B := A') ⟨fun r _ _ => by rw [hN], by rw [hV]⟩ (by rw [hV]) (by rw [hV]) (by rw [hV]) (by rw [hS]) (fun _ _ => by rw [hN])
    rw [this]
    exact f4
  · unfold QCm at f5 ⊢
    rw [hQ]
    exact f5
  · unfold FCm at f6 ⊢
    rw [hS]
    exact f6
def sCi (o k : Nat) : Bool := decide (o = 16 ∨ o = 18 ∨ o = 19 ∨ (o = 15 ∧ k = 4))
theorem comeIn_app (A : Sx) (l : List (Nat × Nat)) (w : Nat × Nat) : comeIn A (l ++ [w]) = zV (comeIn A l) 4 (w.1 % 4) (nI w.1) := by
  unfold comeIn
  rw [List.foldl_append]
  rfl
theorem c_ciL {cyc : Nat} (hc : cyc < 1000) : ∀ (r pre : List (Nat × Nat)) (fu : Nat) (μ : Mm), RT cT b (comeIn A0 (pre.filter (fun w => w.2 == cyc))) μ → SC b μ → mI μ (b + 15) 4 = nI (pre ++ r).length → (pre ++ r).length ≤ 2 → (∀ w, w ∈ pre ++ r → w.1 < 16 ∧ w.2 < 1000) →
    (∀ j, j < (pre.filter (fun w => !(w.2 == cyc))).length → mI μ (b + 18) j = nI ((pre.filter (fun w => !(w.2 == cyc))).getD j (0, 0)).1 ∧ mI μ (b + 19) j = nI ((pre.filter (fun w => !(w.2 == cyc))).getD j (0, 0)).2) → (∀ j, j < r.length → mI μ (b + 18) (pre.length + j) = nI (r.getD j (0, 0)).1 ∧ mI μ (b + 19) (pre.length + j) = nI (r.getD j (0, 0)).2) → r.length < fu →
    ∃ μ', f_X7_comeIn_b4 fu (b + 15) (nI cyc) (nI (pre.filter (fun w => !(w.2 == cyc))).length) (nI pre.length) μ = some ((), μ') ∧ RT cT b (comeIn A0 ((pre ++ r).filter (fun w => w.2 == cyc))) μ' ∧ mI μ' (b + 15) 4 = nI ((pre ++ r).filter (fun w => !(w.2 == cyc))).length ∧ (∀ j, j < ((pre ++ r).filter (fun w => !(w.2 == cyc))).length → mI μ' (b + 18) j = nI (((pre ++ r).filter (fun w => !(w.2 == cyc))).getD j (0, 0)).1 ∧ mI μ' (b + 19) j = nI (((pre ++ r).filter (fun w => !(w.2 == cyc))).getD j (0, 0)).2) ∧ CH b sCi μ μ'
  | [], pre, fu, μ, hT, hC, h4, hl, hw, hk, hr, hf => by
    obtain ⟨fu, rfl⟩ : ∃ n, fu = n + 1 := ⟨fu - 1, by omega⟩
    have s := hC
    unfold SC at s
    rw [List.append_nil] at h4 ⊢
    have c1 : nI pre.length ≤ nI pre.length := Int32.le_refl _
    refine ⟨sI μ (b + 15) 4 (nI (pre.filter (fun w => !(w.2 == cyc))).length), by simp only [f_X7_comeIn_b4, f_X7_comeIn_b79, s, ckT, h4, c1, if_true, zlS], hT.off (o := 15) (k := 4) _ (by decide +kernel), by rw [mI_at], fun j hj => ?_, CH.put rfl⟩
    rw [mI_row _ _ (show b + 18 ≠ b + 15 by omega), mI_row _ _ (show b + 19 ≠ b + 15 by omega)]
    exact hk j hj
  | w :: r, pre, fu, μ, hT, hC, h4, hl, hw, hk, hr, hf => by
    obtain ⟨fu, rfl⟩ : ∃ n, fu = n + 1 := ⟨fu - 1, by omega⟩
    have s := hC
    unfold SC at s
    have len : (pre ++ w :: r).length = pre.length + (r.length + 1) := by rw [List.length_append]; rfl
    have ap : (pre ++ [w]) ++ r = pre ++ w :: r := by rw [List.append_assoc]; rfl
    have pl : (pre ++ [w]).length = pre.length + 1 := by rw [List.length_append]; rfl
    have c1 : ¬ nI (pre ++ w :: r).length ≤ nI pre.length := nI_ge (by omega) (by omega)
    obtain ⟨w1, w2⟩ := hw w (List.mem_append_right _ List.mem_cons_self)
    obtain ⟨r1, r2⟩ := hr 0 (by simp)
    rw [Nat.add_zero] at r1 r2
    have r1' : mI μ (b + 18) pre.length = nI w.1 := r1
    have r2' : mI μ (b + 19) pre.length = nI w.2 := r2
    have ib := inbN (p := pre.length) (n := 2) (by omega) (by omega)
    have cl := clN (show pre.length < 100000 by omega)
    have fm := c_fmod4 w.1 w1
    have i4 := inbN (p := w.1 % 4) (n := 4) (by omega) (by omega)
    have cl4 := clN (show w.1 % 4 < 100000 by omega)
    have kl : (pre.filter (fun w => !(w.2 == cyc))).length ≤ pre.length := List.length_filter_le _ _
    have rest : ∀ (j : Nat), j < r.length → pre.length + 1 + j = pre.length + (j + 1) := fun j _ => by omega
    by_cases e : w.2 = cyc
    · have c2 : ¬ ¬ nI w.2 = nI cyc := fun q => q (by rw [e])
      have hb : (w.2 == cyc) = true := by rw [e]; exact beq_self_eq_true _
      have f1 : (pre ++ [w]).filter (fun w => w.2 == cyc) = pre.filter (fun w => w.2 == cyc) ++ [w] := by rw [List.filter_append]; simp [hb]
      have f2 : (pre ++ [w]).filter (fun w => !(w.2 == cyc)) = pre.filter (fun w => !(w.2 == cyc)) := by rw [List.filter_append]; simp [hb]
      obtain ⟨μ1, m1⟩ : ∃ μ1, μ1 = sI μ (b + 16) (w.1 % 4) (nI w.1) := ⟨_, rfl⟩
      have t1 : RT cT b (comeIn A0 ((pre ++ [w]).filter (fun w => w.2 == cyc))) μ1 := by
        rw [f1, comeIn_app, m1]
        have := hT.putV cT_ok (q := 4) (j := w.1 % 4) (by omega) (show w.1 % 4 < 4 by omega) (nI w.1)
        rw [show (cT.2.2 4).2 + w.1 % 4 = w.1 % 4 from Nat.zero_add _] at this
        exact this
      obtain ⟨μ', e2, g1, g2, g3, g4⟩ := c_ciL hc r (pre ++ [w]) fu μ1 t1 (by rw [m1]; exact hC.cg rfl rfl rfl) (by rw [ap, m1, mI_row _ _ (show b + 15 ≠ b + 16 by omega)]; exact h4) (by rw [ap]; exact hl) (by rw [ap]; exact hw) (by
        rw [f2, m1, mI_row _ _ (show b + 18 ≠ b + 16 by omega), mI_row _ _ (show b + 19 ≠ b + 16 by omega)]
        exact hk) (fun j hj => by
        rw [m1, mI_row _ _ (show b + 18 ≠ b + 16 by omega), mI_row _ _ (show b + 19 ≠ b + 16 by omega), pl, rest j hj]
        exact hr (j + 1) (by simp; omega)) (by have : (w :: r).length = r.length + 1 := rfl; omega)
      rw [ap] at g1 g2 g3
      rw [f2, pl] at e2
      refine ⟨μ', ?_, g1, g2, g3, (by rw [m1]; exact CH.put (by rfl) : CH b sCi μ μ1).trans g4⟩
      rw [← e2]
      simp only [f_X7_comeIn_b4, f_X7_comeIn_b73, s, ckT, h4, c1, if_false, bdS, ckA, ck_t ib, cl, r2', c2, r1', fm, ck_t i4, cl4, zlS, ← m1, nI_1]
    · have c2 : ¬ nI w.2 = nI cyc := nIne (by omega) (by omega) e
      have hb : (w.2 == cyc) = false := by rw [beq_eq_false_iff_ne]; exact e
      have f1 : (pre ++ [w]).filter (fun w => w.2 == cyc) = pre.filter (fun w => w.2 == cyc) := by rw [List.filter_append]; simp [hb]
      have f2 : (pre ++ [w]).filter (fun w => !(w.2 == cyc)) = pre.filter (fun w => !(w.2 == cyc)) ++ [w] := by rw [List.filter_append]; simp [hb]
      obtain ⟨k, hkk⟩ : ∃ k, k = (pre.filter (fun w => !(w.2 == cyc))).length := ⟨_, rfl⟩
      rw [← hkk] at kl hk ⊢
      have ibk := inbN (p := k) (n := 2) (by omega) (by omega)
      have clk := clN (show k < 100000 by omega)
      obtain ⟨μ1, m1⟩ : ∃ μ1, μ1 = sI (sI μ (b + 18) k (nI w.1)) (b + 19) k (nI w.2) := ⟨_, rfl⟩
      have n189 : b + 19 ≠ b + 18 := by omega
      have t1 : RT cT b (comeIn A0 ((pre ++ [w]).filter (fun w => w.2 == cyc))) μ1 := by
        have off18 : ∀ k, offT cT 18 k = true := fun k => by
          cases hz : offT cT 18 k with
          | true => rfl
          | false =>
            exfalso
            revert hz
            unfold offT
            have b1 : ∀ i, i < 25 → (cT.1 i).1 ≠ 18 ∧ (cT.1 i).1 ≠ 19 := by decide +kernel
            have b2 : ∀ i, i < 8 → cT.2.1 i ≠ 18 ∧ cT.2.1 i ≠ 19 := by decide +kernel
            have b3 : ∀ i, i < 5 → (cT.2.2 i).1 ≠ 18 ∧ (cT.2.2 i).1 ≠ 19 := by decide +kernel
            intro hz
            have : ((List.range 25).all (fun i => !scI i || !decide (cT.1 i = (18, k))) && (List.range 8).all (fun r => !decide (cT.2.1 r = 18)) && (List.range 5).all (fun r => !(decide ((cT.2.2 r).1 = 18) && decide ((cT.2.2 r).2 ≤ k) && decide (k < (cT.2.2 r).2 + vLen r)))) = true := by
              simp only [Bool.and_eq_true, List.all_eq_true, List.mem_range, Bool.or_eq_true, Bool.not_eq_true', decide_eq_false_iff_not, Bool.and_eq_false_iff]
              exact ⟨⟨fun i hi => Or.inr fun q => (b1 i hi).1 (by rw [q]), fun r hr q => (b2 r hr).1 q⟩, fun r hr => Or.inl (Or.inl fun q => (b3 r hr).1 q)⟩
            rw [this] at hz
            cases hz
        have off19 : ∀ k, offT cT 19 k = true := fun k => by
          cases hz : offT cT 19 k with
          | true => rfl
          | false =>
            exfalso
            revert hz
            unfold offT
            have b1 : ∀ i, i < 25 → (cT.1 i).1 ≠ 18 ∧ (cT.1 i).1 ≠ 19 := by decide +kernel
            have b2 : ∀ i, i < 8 → cT.2.1 i ≠ 18 ∧ cT.2.1 i ≠ 19 := by decide +kernel
            have b3 : ∀ i, i < 5 → (cT.2.2 i).1 ≠ 18 ∧ (cT.2.2 i).1 ≠ 19 := by decide +kernel
            intro hz
            have : ((List.range 25).all (fun i => !scI i || !decide (cT.1 i = (19, k))) && (List.range 8).all (fun r => !decide (cT.2.1 r = 19)) && (List.range 5).all (fun r => !(decide ((cT.2.2 r).1 = 19) && decide ((cT.2.2 r).2 ≤ k) && decide (k < (cT.2.2 r).2 + vLen r)))) = true := by
              simp only [Bool.and_eq_true, List.all_eq_true, List.mem_range, Bool.or_eq_true, Bool.not_eq_true', decide_eq_false_iff_not, Bool.and_eq_false_iff]
              exact ⟨⟨fun i hi => Or.inr fun q => (b1 i hi).2 (by rw [q]), fun r hr q => (b2 r hr).2 q⟩, fun r hr => Or.inl (Or.inl fun q => (b3 r hr).2 q)⟩
            rw [this] at hz
            cases hz
        rw [f1, m1]
        exact (hT.off (o := 18) (k := k) _ (off18 k)).off (o := 19) (k := k) _ (off19 k)
      have kk : ((pre ++ [w]).filter (fun w => !(w.2 == cyc))).length = k + 1 := by rw [f2, List.length_append, hkk]; rfl
      obtain ⟨μ', e2, g1, g2, g3, g4⟩ := c_ciL hc r (pre ++ [w]) fu μ1 t1 (by rw [m1]; exact hC.cg rfl rfl rfl) (by rw [ap, m1, mI_row _ _ (show b + 15 ≠ b + 19 by omega), mI_row _ _ (show b + 15 ≠ b + 18 by omega)]; exact h4) (by rw [ap]; exact hl) (by rw [ap]; exact hw) (fun j hj => by
        rw [kk] at hj
        rw [f2, m1, mI_row _ _ (show b + 18 ≠ b + 19 by omega), mI_up, mI_up, mI_row _ _ n189, up1_if, up1_if]
        by_cases q : j = k
        · have : (pre.filter (fun w => !(w.2 == cyc)) ++ [w]).getD j (0, 0) = w := by rw [q, hkk]; simp
          rw [if_pos q, if_pos q, this]
          exact ⟨rfl, rfl⟩
        · have : (pre.filter (fun w => !(w.2 == cyc)) ++ [w]).getD j (0, 0) = (pre.filter (fun w => !(w.2 == cyc))).getD j (0, 0) := by
            rw [List.getD_eq_getElem?_getD, List.getD_eq_getElem?_getD, List.getElem?_append_left (by omega)]
          rw [if_neg q, if_neg q, this]
          exact hk j (by omega)) (fun j hj => by
        rw [m1, mI_row _ _ (show b + 18 ≠ b + 19 by omega), mI_up, mI_up, mI_row _ _ n189, up1_if, up1_if, pl, rest j hj, if_neg (by omega), if_neg (by omega)]
        exact hr (j + 1) (by simp; omega)) (by have : (w :: r).length = r.length + 1 := rfl; omega)
      rw [ap] at g1 g2 g3
      rw [kk, pl] at e2
      refine ⟨μ', ?_, g1, g2, g3, (by rw [m1]; exact (CH.put (by rfl)).trans (CH.put (by rfl)) : CH b sCi μ μ1).trans g4⟩
      rw [← e2]
      simp only [f_X7_comeIn_b4, f_X7_comeIn_b73, s, ckT, h4, c1, if_false, bdS, ckA, ck_t ib, cl, r2', c2, not_false_eq_true, if_true, r1', ck_t ibk, clk, zlS, mK_sI, mL_sI, mR_sI', mI_row _ _ n189, ← m1, nI_1]
/-- the lines come in -/
theorem c_comeIn (h : FR b z A μ) (hh : HR b z A m G ar s μ) (q : IV A) (t : TQ A) (h0 : aS A 0 < 1000) : ∃ μ', f_X7_comeIn (b + 15) (nI (aS A 0)) μ = some ((), μ') ∧ FR b z (zQ (comeIn A ((aQ A).filter (fun w => w.2 == aS A 0))) ((aQ A).filter (fun w => !(w.2 == aS A 0)))) μ' ∧ HR b z (zQ (comeIn A ((aQ A).filter (fun w => w.2 == aS A 0))) ((aQ A).filter (fun w => !(w.2 == aS A 0)))) m G ar s μ' ∧ CK 0 0 μ μ' := by
  obtain ⟨f1, f2, f3, f4, f5, f6⟩ := id h
  obtain ⟨qk1, qk2, qk3⟩ := q.1.2.2.1
  obtain ⟨μ', e, g1, g2, g3, g4⟩ := c_ciL (A0 := A) h0 (aQ A) [] 5000 μ f2 f1 f5.1 qk1 (fun w hw => ⟨qk2 w hw, t.2 w hw⟩) (fun j hj => absurd hj (Nat.not_lt_zero _)) (fun j hj => by
    have := f5.2 j hj
    rw [show ([] : List (Nat × Nat)).length + j = j from Nat.zero_add j]
    exact this) (by omega)
  rw [List.nil_append] at g1 g2 g3
  obtain ⟨c1, c2, c3, c4, c5, c6, c7⟩ := comeIn_f ((aQ A).filter (fun w => w.2 == aS A 0)) A
  obtain ⟨B, hB⟩ : ∃ B, B = comeIn A ((aQ A).filter (fun w => w.2 == aS A 0)) := ⟨_, rfl⟩
  rw [← hB] at g1 c1 c2 c3 c4 c5 c6 c7 ⊢
  have sfx : ∀ o k, sCi o k = true → o < 30 ∧ o ≠ 24 := fun o k zz => by
    have := of_decide_eq_true zz
    omega
  have nS : ∀ o k, ¬ (o = 16 ∨ o = 18 ∨ o = 19 ∨ (o = 15 ∧ k = 4)) → sCi o k = false := fun o k hq => decide_eq_false hq
  have hP : SamP A B := ⟨fun r _ _ => by rw [c2], c3 5 (by decide)⟩
  refine ⟨μ', e, ⟨f1.cg g4.1 g4.2.1 g4.2.2.1, g1.cg (fun _ _ => rfl) (fun _ _ _ _ => rfl) (fun _ _ _ _ => rfl), ?_, ?_, ⟨g2, g3⟩, fun hz => ?_⟩, (hh.ch f1 g4 sfx).cg hP (by show aS B 15 = _; rw [c1]) (by show aS B 9 = _; rw [c1]) (by show aS B 10 = _; rw [c1]) (by show aS B 14 = _; rw [c1]) (fun _ _ => by show aB B _ = _; rw [c4]) (fun _ _ => by show aL B _ = _; rw [c5]) c6 (fun r _ => by show aN B r = _; rw [c2]) (c3 8 (by decide)) (fun _ _ _ => rfl), g4.ck f1 sfx⟩
  · unfold ST at f3 ⊢
    rw [g4.1, g4.2.1, g4.2.2.1]
    exact f3
  · have pe : plA (zQ B ((aQ A).filter (fun w => !(w.2 == aS A 0)))) (aS (zQ B ((aQ A).filter (fun w => !(w.2 == aS A 0)))) 14) = plA A (aS A 14) := by
      show plA _ (aS B 14) = _
      rw [c1]
      exact plA_congr (A := A) (B := zQ B ((aQ A).filter (fun w => !(w.2 == aS A 0)))) hP (c3 0 (by decide)) (c3 6 (by decide)) (c3 7 (by decide)) (by show aS B 15 = _; rw [c1]) (fun _ _ => by show aN B 14 _ = _; rw [c2])
    unfold PLm at f4 ⊢
    rw [pe, g4.row (o := 7) (fun k => nS _ _ (by omega)), g4.row (o := 8) (fun k => nS _ _ (by omega)), g4.row (o := 6) (fun k => nS _ _ (by omega))]
    exact f4
  · have hz2 : aS B 12 = 0 := hz
    rw [c1] at hz2
    rw [g4.cell (o := 20) (k := 4) (nS _ _ (by omega))]
    show _ = nI (aS B 11)
    rw [c1]
    exact f6 hz2
end CAN
