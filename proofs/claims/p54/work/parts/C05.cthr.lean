/-! THE CLASS: throwing away, going on -/
section CTH
variable {b z e sl : Nat} {m : Nat → Nat} {A A' : Sx} {G : Nat → Nat → Nat} {ar : Nat → Nat} {s : Nat} {μ μ' : Mm} {S : Nat → Nat → Bool}
theorem plS (A : Sx) {i n : Nat} (h14 : i ≠ 14) (h15 : i ≠ 15) : plA (zS A i n) (aS (zS A i n) 14) = plA A (aS A 14) := by
  rw [zS_ne A n (fun q => h14 q.symm)]
  exact plA_congr (A := A) (B := zS A i n) (SamP.refl0 (A := A)) rfl rfl rfl (zS_ne A n (fun q => h15 q.symm)) (fun _ _ => rfl)
theorem plZT (A : Sx) (t : List Nat) : plA (zT A t) (aS (zT A t) 14) = plA A (aS A 14) := plA_congr (A := A) (B := zT A t) (SamP.refl0 (A := A)) rfl rfl rfl rfl (fun _ _ => rfl)
theorem takeB_f (A : Sx) (x : Ent) : (∀ i, i ≠ 7 → aS (takeB A x) i = aS A i) ∧ (∀ r, r ≠ 0 → r ≠ 3 → aN (takeB A x) r = aN A r) ∧ aV (takeB A x) = aV A ∧ aB (takeB A x) = aB A ∧ aL (takeB A x) = aL A ∧ aT (takeB A x) = aT A ∧ aQ (takeB A x) = aQ A := by
  unfold takeB
  split
  · exact ⟨fun i h => zS_ne _ _ h, fun r h0 h3 => (zN_ne _ _ _ h3).trans (zN_ne _ _ _ h0), rfl, rfl, rfl, rfl, rfl⟩
  · exact ⟨fun _ _ => rfl, fun _ _ _ => rfl, rfl, rfl, rfl, rfl, rfl⟩
theorem HR.els1 (h : HR b z A m G ar s μ) : ∀ i, i < aS A 9 → ∃ y, mR μ (ar 1) i = some y ∧ 100 ≤ mK μ y := fun i hi => ⟨G 1 i, (h.1 1 (by decide)).2.2.2.2.2 i hi, by rw [(h.2.2.2.1 i hi).1]; decide⟩
theorem HR.els2 (h : HR b z A m G ar s μ) : ∀ i, i < aS A 10 → ∃ y, mR μ (ar 2) i = some y ∧ 100 ≤ mK μ y := fun i hi => ⟨G 2 i, (h.1 2 (by decide)).2.2.2.2.2 i hi, by rw [(h.2.2.2.2.1 i hi).1]; decide⟩
theorem FR.k100 (h : FR b z A μ) : mK μ (b + 2) = 100 ∧ mK μ (b + 21) = 100 ∧ mK μ (b + 25) = 100 ∧ mK μ (b + 26) = 100 := by
  have s := h.1
  unfold SC at s
  simp only [s, and_self]
theorem FR.sz (h : FR b z A μ) : mI μ (b + 2) 2 = nI (aS A 15) ∧ mI μ (b + 25) 2 = nI (aS A 9) ∧ mI μ (b + 21) 2 = nI (aS A 10) ∧ mI μ (b + 26) 2 = nI (aS A 14) := ⟨h.2.1.1 15 rfl, h.2.1.1 9 rfl, h.2.1.1 10 rfl, h.2.1.1 14 rfl⟩
/-- an entry of the buffer, got -/
theorem c_getB {k : Nat} (h : FR b z A μ) (hh : HR b z A m G ar s μ) (hk : k < aS A 9) (h9 : aS A 9 < 100) : f_Jx4a65c_get_915e3 (b + 25) (nI k) μ = some (G 1 k) := by
  have l1 := hh.1 1 (by decide)
  exact c_get h.k100.2.2.1 h.sz.2.1 (by omega) l1.1 l1.2.1 l1.2.2.1 hk (l1.2.2.2.2.2 k hk)
theorem c_sizeB (h : FR b z A μ) : f_Jx4a65c_size_8abf5 (b + 25) μ = some (nI (aS A 9)) := c_size h.k100.2.2.1 h.sz.2.1
/-- entries, ends, instructions, stacks and lives stay as they are -/
def H2 (μ μ' : Mm) : Prop := ∀ a, h2K (mK μ a) = true → mK μ' a = mK μ a ∧ mL μ' a = mL μ a ∧ mI μ' a = mI μ a ∧ mR μ' a = mR μ a
theorem H2.refl0 : H2 μ μ := fun _ _ => ⟨rfl, rfl, rfl, rfl⟩
theorem H2.trans {μ2 : Mm} (h : H2 μ μ') (g : H2 μ' μ2) : H2 μ μ2 := fun a ha => by
  obtain ⟨h1, h2, h3, h4⟩ := h a ha
  obtain ⟨g1, g2, g3, g4⟩ := g a (by rw [h1]; exact ha)
  exact ⟨g1.trans h1, g2.trans h2, g3.trans h3, g4.trans h4⟩
theorem CH.h2 (hC : SC b μ) (g : CH b S μ μ') (hS : ∀ o k, S o k = true → o < 30 ∧ o ≠ 24) : H2 μ μ' := fun a ha => g.hp hC hS a (h2_h ha)
theorem c_thr1 {at_ m1 fu : Nat} (h : FR b z A μ) (hh : HR b z A m G ar s μ) (w : WF μ) (hz : IBz A) (h9 : aS A 9 = at_ + (m1 + 1)) : ∃ μ', f_X0_throwAwayFrom_b20 (fu + 1) (b + 1) (nI at_) (nI (at_ + m1)) μ = f_X0_throwAwayFrom_b20 fu (b + 1) (nI at_) (nI (at_ + m1) + (-1)) μ' ∧ FR b z (throw1 A) μ' ∧ HR b z (throw1 A) m G ar s μ' ∧ CK 0 0 μ μ' ∧ H2 μ μ' := by
  have n9 : aS A 9 ≤ 16 := by have := hz.2.1.1; have := hz.1.2.1; omega
  have hk : at_ + m1 < aS A 9 := by omega
  obtain ⟨x, hx⟩ : ∃ x, x = aB A (at_ + m1) := ⟨_, rfl⟩
  have hx1 : aB A (aS A 9 - 1) = x := by rw [hx, h9]; rfl
  have ho := hz.2.2.2.2.2.1 (at_ + m1) hk
  rw [← hx] at ho
  have hp := hz.1.p ho.1
  have nf := hz.2.2.2.1.nf
  have q8 := hz.1.2.2.2.1
  have re := hh.2.2.2.1 (at_ + m1) hk
  rw [← hx] at re
  have hi := hh.2.2.1 (x.1 0) ho.1
  have d8 : hasD (eC A x) = true → x.1 8 < 24 := fun hd => by
    have := hz.2.2.2.1.dst hk (by rw [← hx]; exact hd)
    rw [← hx] at this
    omega
  obtain ⟨μ1, e1, t1, g1⟩ := c_takeBack h.1 h.2.1 re hi hp.2.2.1 (by omega) d8
  obtain ⟨f1, f2, f3, f4, f5, f6, f7⟩ := takeB_f A x
  obtain ⟨B, hB⟩ : ∃ B, B = takeB A x := ⟨_, rfl⟩
  rw [← hB] at t1 f1 f2 f3 f4 f5 f6 f7
  have hP : SamP A B := ⟨fun r a c => f2 r (by omega) (by omega), by rw [f3]⟩
  have sfx : ∀ o k, sTb o k = true → o < 30 ∧ o ≠ 24 ∧ ¬ (o = 6 ∨ o = 7 ∨ o = 8 ∨ o = 18 ∨ o = 19) ∧ ¬ (o = 15 ∧ k = 4) ∧ ¬ (o = 20 ∧ k = 4) := fun o k zz => by
    have := of_decide_eq_true zz
    omega
  have F1 : FR b z B μ1 := h.ch t1 g1 sfx (by rw [f1 14 (by decide)]; exact plA_congr hP (by rw [f3]) (by rw [f3]) (by rw [f3]) (f1 15 (by decide)) (fun i _ => by rw [f2 14 (by decide) (by decide)])) f7 (fun q => ⟨by rw [← f1 12 (by decide)]; exact q, f1 11 (by decide)⟩)
  have H1 : HR b z B m G ar s μ1 := (hh.ch h.1 g1 (fun o k zz => ⟨(sfx o k zz).1, (sfx o k zz).2.1⟩)).cg hP (f1 15 (by decide)) (f1 9 (by decide)) (f1 10 (by decide)) (f1 14 (by decide)) (fun _ _ => by rw [f4]) (fun _ _ => by rw [f5]) f6 (fun r hr => f2 r (by omega) (by omega)) (by rw [f3]) (fun _ _ _ => rfl)
  have c1 := g1.ck h.1 (fun o k zz => ⟨(sfx o k zz).1, (sfx o k zz).2.1⟩)
  have w1 := c1.1 w
  have B9 : aS B 9 = aS A 9 := f1 9 (by decide)
  have l1 := H1.1 1 (by decide)
  have n1 : nLs B 1 = aS A 9 := B9
  obtain ⟨μ2, e2, g2, N2, S2, K2, L2, R2, v2, r2⟩ := c_rem (i := at_ + m1) (x := G 1 (at_ + m1)) F1.k100.2.2.1 (by rw [F1.sz.2.1, B9]) (by omega) l1.1 l1.2.1 (by rw [← n1]; exact l1.2.2.1) hk (l1.2.2.2.2.2 _ (by rw [n1]; exact hk)) (fun i hi => H1.els1 i (by rw [B9]; exact hi))
  have t2 := t1.lf (i := 1) F1.1 (by decide) w1 g2 v2
  have t2' : RT cT b (zS B 9 (aS A 9 - 1)) μ2 := t2
  have F2 : FR b z (zS B 9 (aS A 9 - 1)) μ2 := F1.lf (i := 1) (by decide) w1 g2 (Or.inl l1.2.1) t2' (plS _ (by decide) (by decide)) rfl (fun q => by rw [zS_ne _ _ (by decide)] at q; exact ⟨q, zS_ne _ _ (by decide)⟩)
  have H2 : HR b z (zS B 9 (aS A 9 - 1)) m G ar s μ2 := by
    have := H1.rmLast F1.1 w1 (by omega) g2 K2 L2 R2 (fun j hj => by rw [r2 j (by omega), if_pos (by omega)]) F1.2.2.1.2.2.2.2.2.2
    rw [B9] at this
    exact this
  have c2 := g2.ck (i := 1) F1.1 (by decide) w1 (Or.inl l1.2.1) (e := 0) (sl := 0) (by omega) (by omega)
  have S21 : aS (zS B 9 (aS A 9 - 1)) 21 = aS A 21 := by rw [zS_ne _ _ (by decide), f1 21 (by decide)]
  have i21 : mI μ2 (b + 4) 3 = nI (aS A 21) := by rw [← S21]; exact F2.2.1.1 21 rfl
  obtain ⟨μ3, m3⟩ : ∃ μ3, μ3 = sI μ2 (b + 4) 3 (nI (aS A 21 + 1)) := ⟨_, rfl⟩
  have t3 : RT cT b (zS (zS B 9 (aS A 9 - 1)) 21 (aS A 21 + 1)) μ3 := by rw [m3]; exact F2.2.1.putS cT_ok (i := 21) rfl (aS A 21 + 1)
  have g3 : CH b (fun o k => o == 4 && k == 3) μ2 μ3 := by rw [m3]; exact CH.put rfl
  have s3 : ∀ o k, (o == 4 && k == 3) = true → o < 30 ∧ o ≠ 24 ∧ ¬ (o = 6 ∨ o = 7 ∨ o = 8 ∨ o = 18 ∨ o = 19) ∧ ¬ (o = 15 ∧ k = 4) ∧ ¬ (o = 20 ∧ k = 4) := fun o k zz => by
    simp only [Bool.and_eq_true, beq_iff_eq] at zz
    omega
  have ht : throw1 A = zS (zS B 9 (aS A 9 - 1)) 21 (aS A 21 + 1) := by
    unfold throw1
    rw [hx1, hB]
  rw [ht]
  refine ⟨μ3, ?_, F2.ch t3 g3 s3 (plS _ (by decide) (by decide)) rfl (fun q => by rw [zS_ne _ _ (by decide)] at q; exact ⟨q, zS_ne _ _ (by decide)⟩), (H2.ch F2.1 g3 (fun o k zz => ⟨(s3 o k zz).1, (s3 o k zz).2.1⟩)).cg SamP.refl0 (zS_ne _ _ (by decide)) (zS_ne _ _ (by decide)) (zS_ne _ _ (by decide)) (zS_ne _ _ (by decide)) (fun _ _ => rfl) (fun _ _ => rfl) rfl (fun _ _ => rfl) rfl (fun _ _ _ => rfl), (c1.trans c2).trans (g3.ck F2.1 (fun o k zz => ⟨(s3 o k zz).1, (s3 o k zz).2.1⟩)), ((g1.h2 h.1 (fun o k zz => ⟨(sfx o k zz).1, (sfx o k zz).2.1⟩)).trans (g2.ne (i := 1) F1.1 (by decide) w1 (Or.inl l1.2.1))).trans (g3.h2 F2.1 (fun o k zz => ⟨(s3 o k zz).1, (s3 o k zz).2.1⟩))⟩
  have k0 := h.1
  unfold SC at k0
  have k1 := F1.1
  unfold SC at k1
  have k2 := F2.1
  unfold SC at k2
  have cc1 : ¬ nI (at_ + m1) < nI at_ := nI_nlt (by omega) (by omega)
  have cc2 : ¬ nI (at_ + m1) < 0 := nI_pos (by omega)
  have gb := c_getB h hh hk (by omega)
  have ke := re.1
  simp only [f_X0_throwAwayFrom_b20, cc1, cc2, if_false, k0, ckT, bdS, gb, ke, cl_t e1, k1, cl_t e2, k2, i21, nI_1, zlS, ← m3]
theorem c_thrL {at_ : Nat} : ∀ (m1 : Nat) {A : Sx} {μ : Mm} {fu : Nat}, FR b z A μ → HR b z A m G ar s μ → WF μ → IBz A → aS A 9 = at_ + m1 → m1 < fu → ∃ μ', f_X0_throwAwayFrom_b20 fu (b + 1) (nI at_) (nI (at_ + m1) + (-1)) μ = some ((), μ') ∧ FR b z (throwN A m1) μ' ∧ HR b z (throwN A m1) m G ar s μ' ∧ CK 0 0 μ μ' ∧ H2 μ μ'
  | 0, A, μ, fu, h, hh, w, hz, h9, hf => by
    obtain ⟨fu, rfl⟩ : ∃ n, fu = n + 1 := ⟨fu - 1, by omega⟩
    have n9 : aS A 9 ≤ 16 := by have := hz.2.1.1; have := hz.1.2.1; omega
    have c1 : nI at_ + (-1) < nI at_ := m1_lt (by omega)
    exact ⟨μ, by simp only [f_X0_throwAwayFrom_b20, Nat.add_zero, c1, if_true], h, hh, CK.refl0, H2.refl0⟩
  | m1 + 1, A, μ, fu, h, hh, w, hz, h9, hf => by
    obtain ⟨fu, rfl⟩ : ∃ n, fu = n + 1 := ⟨fu - 1, by omega⟩
    obtain ⟨μ1, e1, h1, hh1, c1, x1⟩ := c_thr1 (fu := fu) h hh w hz h9
    have t := (throw1_f A).2.1
    obtain ⟨μ2, e2, h2, hh2, c2, x2⟩ := c_thrL (at_ := at_) m1 (fu := fu) h1 hh1 (c1.1 w) (hz.thr1 (by omega)) (by rw [t, h9]; rfl) (by omega)
    refine ⟨μ2, ?_, h2, hh2, c1.trans c2, x1.trans x2⟩
    rw [show nI (at_ + (m1 + 1)) + (-1) = nI (at_ + m1) from pk_m1 _, e1]
    exact e2
/-- the line is emptied -/
theorem HR.clrL (h : HR b z A m G ar s μ) (hC : SC b μ) (w : WF μ) (g : LF (b + 21) (ar 2) μ μ') (hK : mK μ' = mK μ) (hL : mL μ' = mL μ) (hR : mR μ' (b + 21) = mR μ (b + 21)) (hz : mL μ z = 0) : HR b z (zS A 10 0) m G ar s μ' := by
  have l1 := h.1 2 (by decide)
  have e26 : mK μ (ar 2) = 26 := l1.2.1
  have hs := g.ne (i := 2) hC (by decide) w (Or.inl e26)
  have k20 := hC.fk (o := 20) (by decide) (by decide)
  obtain ⟨g1, g2, g3, g4, g5, g6, g7⟩ := g
  have n20 : mR μ' (b + 20) 3 = mR μ (b + 20) 3 := by
    rw [g4 _ (w.lt (fxK_0 k20)) (by omega) (fun q => by rw [q, e26] at k20; cases k20)]
  obtain ⟨h1, h2, h3, h4, h5, h6, h7, h8, h9'⟩ := h
  have Sn : ∀ i, i ≠ 10 → aS (zS A 10 0) i = aS A i := fun i hi => zS_ne _ _ hi
  have S10 : aS (zS A 10 0) 10 = 0 := zS_at _ _ _
  have hl : ∀ i, i < 4 → i ≠ 2 → LSx b z μ' i (nLs A i) (G i) (ar i) := fun i hi hne => by
    have kj := hC.fk (lo_lt hi).1 (lo_lt hi).2.1
    have li := h1 i hi
    have ll : lo i ≠ 21 := by
      have : i = 0 ∨ i = 1 ∨ i = 3 := by omega
      rcases this with rfl | rfl | rfl <;> decide
    have ai : ar i < mN μ := w.lt (by rw [li.2.1]; decide)
    have rr : mR μ' (b + lo i) 1 = mR μ (b + lo i) 1 := by rw [g4 _ (w.lt (fxK_0 kj)) (by omega) (fun q => by rw [q, e26] at kj; cases kj)]
    by_cases e : ar i = ar 2
    · have ez := h2 i 2 hi (by decide) hne e
      have l0 := li.2.2.1
      rw [ez, hz] at l0
      refine ⟨by rw [rr]; exact li.1, by rw [hK]; exact li.2.1, by rw [hL]; exact li.2.2.1, by rw [hL]; exact li.2.2.2.1, by rw [hL]; exact li.2.2.2.2.1, fun k hk => by omega⟩
    · refine li.same rr ⟨by rw [hK], by rw [hL], ?_⟩
      refine g4 _ ai (fun q => ?_) e
      have k21 := hC.fk (o := 21) (by decide) (by decide)
      rw [← q, li.2.1] at k21
      cases k21
  refine ⟨fun i hi => ?_, h2, fun p hp => ?_, fun k hk => ?_, fun j hj => ?_, ?_, fun e he => ?_, by rw [n20]; exact h8, h9'.same hs⟩
  · by_cases e : i = 2
    · subst e
      have n0 : nLs (zS A 10 0) 2 = 0 := S10
      refine ⟨by rw [show lo 2 = 21 from rfl, hR]; exact l1.1, by rw [hK]; exact e26, by rw [n0]; exact Nat.zero_le _, by rw [hL]; exact l1.2.2.2.1, by rw [hL]; exact l1.2.2.2.2.1, fun k hk => ?_⟩
      rw [n0] at hk
      exact absurd hk (Nat.not_lt_zero _)
    · have en : nLs (zS A 10 0) i = nLs A i := by
        have : i = 0 ∨ i = 1 ∨ i = 3 := by omega
        rcases this with rfl | rfl | rfl
        · exact Sn 15 (by decide)
        · exact Sn 9 (by decide)
        · exact Sn 14 (by decide)
      rw [en]
      exact hl i hi e
  · rw [Sn 15 (by decide)] at hp
    exact (h3 p hp).same hs
  · rw [Sn 9 (by decide)] at hk
    exact (h4 k hk).same hs
  · rw [S10] at hj
    exact absurd hj (Nat.not_lt_zero _)
  · unfold ORc at h6 ⊢
    rw [S10, Sn 9 (by decide), Sn 14 (by decide)]
    exact ⟨h6.1, fun i j _ q => absurd q (Nat.not_lt_zero _), fun k j _ q => absurd q (Nat.not_lt_zero _), h6.2.2.2.1, fun e j _ q => absurd q (Nat.not_lt_zero _)⟩
  · rw [Sn 14 (by decide)] at he
    exact (h7 e he).same hs
theorem c_throwF {at_ : Nat} (h : FR b z A μ) (hh : HR b z A m G ar s μ) (w : WF μ) (hz : IBz A) (n10 : aS A 10 ≤ 8) (hat : at_ ≤ aS A 9) : ∃ μ', f_X0_throwAwayFrom (b + 1) (nI at_) μ = some ((), μ') ∧ FR b z (throwF A at_) μ' ∧ HR b z (throwF A at_) m G ar s μ' ∧ CK 0 0 μ μ' ∧ H2 μ μ' := by
  have n9 : aS A 9 ≤ 16 := by have := hz.2.1.1; have := hz.1.2.1; omega
  have l2 := hh.1 2 (by decide)
  have nn : nLs A 2 = aS A 10 := rfl
  obtain ⟨μ1, e1, g1, N1, S1, K1, L1, R1, v1⟩ := c_clear (n := aS A 10) h.k100.2.1 h.sz.2.2.1 (by omega) l2.1 l2.2.1 (by rw [← nn]; exact l2.2.2.1)
  have t1 : RT cT b (zS A 10 0) μ1 := h.2.1.lf (i := 2) h.1 (by decide) w g1 v1
  have F1 : FR b z (zS A 10 0) μ1 := h.lf (i := 2) (by decide) w g1 (Or.inl l2.2.1) t1 (plS _ (by decide) (by decide)) rfl (fun q => by rw [zS_ne _ _ (by decide)] at q; exact ⟨q, zS_ne _ _ (by decide)⟩)
  have H1 : HR b z (zS A 10 0) m G ar s μ1 := hh.clrL h.1 w g1 K1 L1 R1 h.2.2.1.2.2.2.2.2.2
  have c1 := g1.ck (i := 2) h.1 (by decide) w (Or.inl l2.2.1) (e := 0) (sl := 0) (by omega) (by omega)
  have hz1 : IBz (zS A 10 0) := hz.cg (fun i hi => zS_ne _ _ (by omega)) (fun _ _ _ => rfl) (fun _ _ => rfl) rfl rfl (by
    rw [zS_ne _ _ (by decide), zS_ne _ _ (by decide), zS_ne _ _ (by decide), zS_ne _ _ (by decide), zS_ne _ _ (by decide)]
    exact hz.2.1.2.2.2.2.2.2)
  have S9 : aS (zS A 10 0) 9 = aS A 9 := zS_ne _ _ (by decide)
  obtain ⟨μ2, e2, F2, HH2, c2, x2⟩ := c_thrL (at_ := at_) (aS A 9 - at_) (fu := 5000) F1 H1 (c1.1 w) hz1 (by rw [S9]; omega) (by omega)
  refine ⟨μ2, ?_, F2, HH2, c1.trans c2, H2.trans (g1.ne (i := 2) h.1 (by decide) w (Or.inl l2.2.1)) x2⟩
  have k0 := h.1
  unfold SC at k0
  have k1 := F1.1
  unfold SC at k1
  have sz := c_sizeB F1
  rw [S9] at sz
  have e2' : f_X0_throwAwayFrom_b20 5000 (b + 1) (nI at_) (nI (aS A 9) - 1) μ1 = some ((), μ2) := by
    rw [← e2, show at_ + (aS A 9 - at_) = aS A 9 by omega]
    exact congrArg (fun x => f_X0_throwAwayFrom_b20 5000 (b + 1) (nI at_) x μ1) (Int32.sub_eq_add_neg _ _)
  simp only [f_X0_throwAwayFrom, k0, ckT, bdS, cl_t e1, k1, sz, e2']
/-- fetching is told its place, its stack -/
theorem FR.front (h : FR b z A μ) (hK : mK μ' = mK μ) (hL : mL μ' = mL μ) (hI : ∀ a, a ≠ b + 20 → mI μ' a = mI μ a) (hR : ∀ a, a ≠ b + 20 → mR μ' a = mR μ a) (hR2 : ∀ k, k ≠ 3 → mR μ' (b + 20) k = mR μ (b + 20) k) (h0 : 0 < b + 20) (hT : RT cT b A' μ') (hp : plA A' (aS A' 14) = plA A (aS A 14)) (hq : aQ A' = aQ A) (hf : aS A' 12 = 0 → mI μ' (b + 20) 4 = nI (aS A' 11)) : FR b z A' μ' := by
  obtain ⟨f1, f2, f3, f4, f5, f6⟩ := h
  refine ⟨f1.cg2 (fun o _ _ => ⟨by rw [hK], by rw [hL]⟩) (fun o ho => hR _ (by omega)) (fun k hk => hR2 k (by omega)), hT, ?_, ?_, ?_, hf⟩
  · unfold ST at f3 ⊢
    rw [hK, hL, hR 0 (by omega)]
    exact f3
  · unfold PLm at f4 ⊢
    rw [hp, hI (b + 7) (by omega), hI (b + 8) (by omega), hI (b + 6) (by omega)]
    exact f4
  · unfold QCm at f5 ⊢
    rw [hq, hI (b + 15) (by omega), hI (b + 18) (by omega), hI (b + 19) (by omega)]
    exact f5
theorem HR.front {s' : Nat} {t : List Nat} (h : HR b z A m G ar s μ) (hC : SC b μ) (hK : mK μ' = mK μ) (hL : mL μ' = mL μ) (hI : ∀ a, a ≠ b + 20 → mI μ' a = mI μ a) (hR : ∀ a, a ≠ b + 20 → mR μ' a = mR μ a) (h3 : mR μ' (b + 20) 3 = some s') (hs : SKs μ s' t) : HR b z (zT A t) m G ar s' μ' := by
  have k20 := hC.fk (o := 20) (by decide) (by decide)
  have same : ∀ a, hpK (mK μ a) = true → mK μ' a = mK μ a ∧ mL μ' a = mL μ a ∧ mI μ' a = mI μ a ∧ mR μ' a = mR μ a := fun a ha => by
    have ne : a ≠ b + 20 := fun q => by rw [← q, hf_no ha] at k20; cases k20
    exact ⟨by rw [hK], by rw [hL], hI a ne, hR a ne⟩
  have same2 := fun (a : Nat) (ha : h2K (mK μ a) = true) => same a (h2_h ha)
  obtain ⟨h1, h2, h3', h4, h5, h6, h7, h8, h9'⟩ := h
  refine ⟨fun i hi => (h1 i hi).same (by rw [hR _ (by have := lo_lt hi; omega)]) ?_, h2, fun p hp => (h3' p hp).same same2, fun k hk => ((h4 k hk).same same2).cg SamP.refl0 (fun _ => rfl), fun j hj => ((h5 j hj).same same2).cg SamP.refl0 (fun _ => rfl), h6, fun e he => (h7 e he).same same2, h3, hs.same same2⟩
  obtain ⟨e1, e2, -, e4⟩ := same (ar i) (by rw [(h1 i hi).2.1]; rfl)
  exact ⟨e1, e2, e4⟩
theorem c_goOn {p s' : Nat} {t : List Nat} (h : FR b z A μ) (hh : HR b z A m G ar s μ) (hs : SKs μ s' t) : ∃ μ', f_X4_goOn (b + 20) (nI p) s' μ = some ((), μ') ∧ FR b z (goOn A p t) μ' ∧ HR b z (goOn A p t) m G ar s' μ' ∧ CK 0 0 μ μ' ∧ H2 μ μ' := by
  have k0 := h.1
  unfold SC at k0
  obtain ⟨μ', m'⟩ : ∃ μ', μ' = sI (sR (sI μ (b + 20) 4 (nI p)) (b + 20) 3 (some s')) (b + 20) 5 0 := ⟨_, rfl⟩
  have hI : ∀ a, a ≠ b + 20 → mI μ' a = mI μ a := fun a ha => by rw [m', mI_row _ _ ha, mI_sR', mI_row _ _ ha]
  have hR : ∀ a, a ≠ b + 20 → mR μ' a = mR μ a := fun a ha => by rw [m', mR_sI', mR_row _ _ ha]; rfl
  have hK : mK μ' = mK μ := by rw [m']; rfl
  have hL : mL μ' = mL μ := by rw [m']; rfl
  have k20 := h.1.fk (o := 20) (by decide) (by decide)
  refine ⟨μ', by simp only [f_X4_goOn, k0, ckT, zlS, ← m'], h.front hK hL hI hR (fun k hk => by rw [m', mR_sI', mR_ne _ _ (Or.inr hk)]; rfl) (by omega) ?_ ?_ rfl (fun _ => ?_), ?_, ?_, fun a ha => ?_⟩
  · have t1 : RT cT b A (sI μ (b + 20) 4 (nI p)) := h.2.1.off (o := 20) (k := 4) _ (by decide +kernel)
    have t2 : RT cT b A (sR (sI μ (b + 20) 4 (nI p)) (b + 20) 3 (some s')) := t1.keep (fun _ _ _ => rfl)
    have t3 := t2.putS cT_ok (i := 12) rfl 0
    rw [m']
    refine t3.cg (fun i hi => ?_) (fun _ _ _ _ => rfl) (fun _ _ _ _ => rfl)
    have i11 : i ≠ 11 := fun q => by rw [q] at hi; cases hi
    show aS (zS (zS A 11 p) 12 0) i = _
    by_cases e : i = 12
    · rw [e, zS_at, zS_at]
    · rw [zS_ne _ _ e, zS_ne _ _ i11, zS_ne _ _ e]
  · exact (plZT _ t).trans ((plS _ (by decide) (by decide)).trans (plS _ (by decide) (by decide)))
  · show _ = nI (aS (zS (zS A 11 p) 12 0) 11)
    rw [zS_ne _ _ (by decide), zS_at, m', mI_ne _ _ (Or.inr (by decide)), mI_sR', mI_at]
  · have := hh.front (μ' := μ') h.1 hK hL hI hR (by rw [m', mR_sI', mR_at]) hs
    have e : ∀ i, i ≠ 11 → i ≠ 12 → aS (goOn A p t) i = aS (zT A t) i := fun i a c => by
      show aS (zS (zS A 11 p) 12 0) i = _
      rw [zS_ne _ _ c, zS_ne _ _ a]
      rfl
    exact this.cg SamP.refl0 (e 15 (by decide) (by decide)) (e 9 (by decide) (by decide)) (e 10 (by decide) (by decide)) (e 14 (by decide) (by decide)) (fun _ _ => rfl) (fun _ _ => rfl) rfl (fun _ _ => rfl) rfl (fun _ _ _ => rfl)
  · refine ⟨fun w a ha => ?_, by rw [m']; exact Nat.le_refl _, by rw [m']; exact Nat.le_refl _, by rw [m']; exact Nat.le_refl _, fun a _ => ⟨by rw [hK], by rw [hL]⟩, fun a _ hc => ?_⟩
    · rw [hK]
      rw [m'] at ha
      exact w a ha
    · have ne : a ≠ b + 20 := fun q => by rw [q, clK_f k20] at hc; cases hc
      exact ⟨hI a ne, hR a ne, by rw [m']; rfl⟩
  · have ne : a ≠ b + 20 := fun q => by rw [q] at ha; rw [hf_no (h2_h ha)] at k20; cases k20
    exact ⟨by rw [hK], by rw [hL], hI a ne, hR a ne⟩
end CTH
