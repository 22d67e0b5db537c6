/-! THE CLASS: an entry leaves -/
section CLV
variable {b z e sl : Nat} {m m' : Nat → Nat} {A A' B : Sx} {P : Pm} {G : Nat → Nat → Nat} {ar : Nat → Nat} {s : Nat} {μ μ' μ2 : Mm} {S : Nat → Nat → Bool}
theorem c_put {i n o k : Nat} (h : FR b z A μ) (hh : HR b z A m G ar s μ) (hi : scI i = true) (h1 : i ≠ 9 ∧ i ≠ 10 ∧ i ≠ 11 ∧ i ≠ 12 ∧ i ≠ 14 ∧ i ≠ 15) (he : cT.1 i = (o, k)) : FR b z (zS A i n) (sI μ (b + o) k (nI n)) ∧ HR b z (zS A i n) m G ar s (sI μ (b + o) k (nI n)) ∧ CK 0 0 μ (sI μ (b + o) k (nI n)) ∧ H2 μ (sI μ (b + o) k (nI n)) := by
  have k1 : ∀ i, i < 25 → scI i = true → (cT.1 i).1 < 30 ∧ (cT.1 i).1 ≠ 24 ∧ ¬ ((cT.1 i).1 = 6 ∨ (cT.1 i).1 = 7 ∨ (cT.1 i).1 = 8 ∨ (cT.1 i).1 = 18 ∨ (cT.1 i).1 = 19) ∧ ¬ ((cT.1 i).1 = 15 ∧ (cT.1 i).2 = 4) ∧ ¬ ((cT.1 i).1 = 20 ∧ (cT.1 i).2 = 4) := by decide +kernel
  have q := k1 i (scI_lt hi) hi
  have T := h.2.1.putS cT_ok hi n
  rw [he] at T q
  exact c_step (S := fun o' k' => o' == o && k' == k) h hh T (CH.put (by simp)) (fun o' k' zz => by
    simp only [Bool.and_eq_true, beq_iff_eq] at zz
    obtain ⟨rfl, rfl⟩ := zz
    exact q) SamP.refl0 (fun j hj => zS_ne _ _ (by omega)) rfl rfl rfl rfl (fun _ _ => rfl) (fun _ _ => rfl)
theorem c_tellE (h : FR b z A μ) (hh : HR b z A m G ar s μ) (w : WF μ) (q : IB A) (hl : canLv A = true) (hm : ∀ k, k < aS A 9 → m k = 0) (h14 : aS A 14 < 2004) : ∃ G' ar' μ', f_X0_addEnd (b + 1) (nI ((aB A 0).1 12)) (nI ((aB A 0).1 0)) (G 1 0 + 1) (sI μ (G 1 0 + 1) 4 (nI (aS A 0))) = some ((), μ') ∧ FR b z (tellE A (aB A 0) ((aB A 0).1 12)) μ' ∧ HR b z (tellE A (aB A 0) ((aB A 0).1 12)) (fun k => if k = 0 then 1 else 0) G' ar' s μ' ∧ CK 2 3100 μ μ' ∧ (∀ i, i ≠ 3 → i ≠ 4 → G' i = G i) ∧ ∀ i, i ≠ 3 → ar' i = ar i := by
  obtain ⟨l1, l2, l3⟩ := canLv_e hl
  obtain ⟨p1, p2, p3, p4, p5⟩ := plain_at q l2 (by omega)
  have re := hh.2.2.2.1 0 l2
  have PLq := q.2.2.2.2.2.2.2.2.2.2.1
  have bd := q.2.1.2.2.2.2.2.2
  obtain ⟨μ1, m1⟩ : ∃ μ1, μ1 = sI μ (G 1 0 + 1) 4 (nI (aS A 0)) := ⟨_, rfl⟩
  have g : CE (G 1 0) μ μ1 := by
    rw [m1]
    exact ⟨rfl, rfl, rfl, rfl, rfl, rfl, fun x a c => mI_row _ _ c⟩
  have F1 := h.ce re.1 re.2.2.2.2.1 g
  have c1 := g.ck re.1 re.2.2.2.2.1
  have e0 : mI μ1 (G 1 0) = mI μ (G 1 0) := by rw [m1]; exact mI_row _ _ (by omega)
  have e1 : ∀ k, k ≠ 4 → mI μ1 (G 1 0 + 1) k = mI μ (G 1 0 + 1) k := fun k hk => by rw [m1]; exact mI_ne _ _ (Or.inr hk)
  have e4 : mI μ1 (G 1 0 + 1) 4 = nI (aS A 0) := by rw [m1]; exact mI_at _ _ _ _
  have rf : REf A 0 true (aB A 0) (mI μ1 (G 1 0)) (mI μ1 (G 1 0 + 1)) := by
    have r := re.2.2.2.2.2.2
    rw [hm 0 l2] at r
    unfold REf at r ⊢
    rw [e0, e1 0 (by decide), e1 1 (by decide), e1 2 (by decide), e1 3 (by decide)]
    exact r
  have H1 : HR b z A (fun _ => 0) G ar s μ1 := hh.ent (k0 := 0) (y := aB A 0) l2 (by rw [hm 0 l2]; decide) g (fun k => by split <;> simp_all) rfl rfl rf SamP.refl0 rfl rfl rfl rfl rfl rfl (fun _ _ => rfl) rfl (fun k hk _ hz => absurd (hm k hk) hz)
  have or := hh.2.2.2.2.2.1
  have t5 : plT A (plA A (aS A 14)) ≤ 5 := by
    unfold plT
    dsimp only
    split
    · exact Nat.le_refl _
    · exact tpV_le _ _ _ _
  have hq : mI μ1 (G 1 0 + 1) 0 = nI ((aB A 0).1 1) ∧ mI μ1 (G 1 0 + 1) 1 = nI ((aB A 0).1 2) ∧ mI μ1 (G 1 0 + 1) 2 = (if isQd (eC A (aB A 0)) = true then nI ((aB A 0).1 3) else -1) ∧ mI μ1 (G 1 0 + 1) 3 = nI ((aB A 0).1 4) ∧ mI μ1 (G 1 0 + 1) 4 = nI (aS A 0) := by
    obtain ⟨-, -, -, r4, -, r6, -, -, -, -, r11, r12⟩ := rf
    refine ⟨r4, (r6 rfl).2.2, ?_, r12 l3, e4⟩
    rw [r11]
    by_cases hd : isQd (eC A (aB A 0)) = true
    · rw [if_pos hd, if_pos ⟨hd, by omega⟩]
    · rw [if_neg hd, if_neg (fun w => hd w.1)]
  obtain ⟨G', ar', μ', ee, F2, H2', c2, -, g1, g2⟩ := c_addEnd (P := plA A (aS A 14)) (kd := (aB A 0).1 12) (pl := (aB A 0).1 0) (f := (aB A 0).1 1) (r := (aB A 0).1 2) (g := aS A 0) (ee := (aB A 0).1 4) (q := G 1 0 + 1) (bg := if isQd (eC A (aB A 0)) = true then nI ((aB A 0).1 3) else -1) (m' := fun k => if k = 0 then 1 else 0) F1 H1 (c1.1 w) q.1 h14 rfl p1 (by rw [← PLq.2.2.1]; omega) (by rw [← PLq.2.2.2.1]; omega) (by rw [← PLq.2.2.2.2]; omega) (Or.inr ⟨by omega, by rw [← p1]; exact p2, p5.symm⟩) (by rw [g.1]; exact re.2.2.2.2.1) (by rw [g.2.1]; exact re.2.2.2.2.2.1) (fun _ => hq) (fun a => by omega) (fun k hk => ⟨by
      by_cases e : k = 0
      · exact Or.inr ⟨if_pos e, rfl⟩
      · exact Or.inl (if_neg e), fun ne => by
      by_cases e : k = 0
      · exact absurd (if_pos e) ne
      · have := or.1 0 k (by omega) hk
        omega⟩) (fun j hj => by have := or.2.2.1 0 j l2 hj; omega)
  refine ⟨G', ar', μ', by rw [← m1]; exact ee, F2, H2', (c1.trans c2).mono (by omega) (by omega), g1, g2⟩
/-- the oldest goes -/
theorem HR.rm0 (h : HR b z A m G ar s μ) (hC : SC b μ) (w : WF μ) (h9 : 0 < aS A 9) (g : LF (b + 25) (ar 1) μ μ') (hK : mK μ' = mK μ) (hL : mL μ' = mL μ) (hR : mR μ' (b + 25) = mR μ (b + 25)) (hv : ∀ j, j < aS A 9 - 1 → mR μ' (ar 1) j = mR μ (ar 1) (j + 1)) (hz : mL μ z = 0) : HR b z (shiftB A) (fun k => m (k + 1)) (up1 G 1 (fun k => G 1 (k + 1))) ar s μ' := by
  have l1 := h.1 1 (by decide)
  have e26 : mK μ (ar 1) = 26 := l1.2.1
  have hs := g.ne (i := 1) hC (by decide) w (Or.inl e26)
  have nz : ar 1 ≠ z := fun q => by
    have := l1.2.2.1
    rw [q, hz] at this
    have e : nLs A 1 = aS A 9 := rfl
    omega
  have hl := h.lists hC (i := 1) (by decide) w g (Or.inl ⟨rfl, nz⟩)
  obtain ⟨h1, h2, h3, h4, h5, h6, h7, h8, h9'⟩ := h
  have S9 : aS (shiftB A) 9 = aS A 9 - 1 := zS_at _ _ _
  have Sn : ∀ i, i ≠ 9 → aS (shiftB A) i = aS A i := fun i hi => zS_ne _ _ hi
  have k20 := hC.fk (o := 20) (by decide) (by decide)
  have n20 : mR μ' (b + 20) 3 = mR μ (b + 20) 3 := by
    obtain ⟨g1, g2, g3, g4, -⟩ := g
    rw [g4 _ (w.lt (fxK_0 k20)) (by omega) (fun q => by rw [q, e26] at k20; cases k20)]
  have G1 : up1 G 1 (fun k => G 1 (k + 1)) 1 = fun k => G 1 (k + 1) := up1_eq _ _ _
  have G0 : ∀ i, i ≠ 1 → up1 G 1 (fun k => G 1 (k + 1)) i = G i := fun i hi => up1_ne _ _ hi
  have hSP : SamP A (shiftB A) := ⟨fun _ _ _ => rfl, rfl⟩
  refine ⟨fun i hi => ?_, h2, fun p hp => ?_, fun k hk => ?_, fun j hj => ?_, ?_, fun e he => ?_, by rw [n20]; exact h8, h9'.same hs⟩
  · by_cases e : i = 1
    · subst e
      rw [G1]
      refine ⟨by rw [show lo 1 = 25 from rfl, hR]; exact l1.1, by rw [hK]; exact e26, ?_, by rw [hL]; exact l1.2.2.2.1, by rw [hL]; exact l1.2.2.2.2.1, fun k hk => ?_⟩
      · rw [hL]
        show aS (shiftB A) 9 ≤ _
        rw [S9]
        have := l1.2.2.1
        have e : nLs A 1 = aS A 9 := rfl
        omega
      · have hk2 : k < aS (shiftB A) 9 := hk
        rw [S9] at hk2
        rw [hv k hk2]
        exact l1.2.2.2.2.2 (k + 1) (show k + 1 < aS A 9 by omega)
    · have en : nLs (shiftB A) i = nLs A i := by
        have : i = 0 ∨ i = 2 ∨ i = 3 := by omega
        rcases this with rfl | rfl | rfl
        · exact Sn 15 (by decide)
        · exact Sn 10 (by decide)
        · exact Sn 14 (by decide)
      rw [en, G0 i e]
      exact hl i hi e
  · rw [Sn 15 (by decide)] at hp
    rw [G0 0 (by decide)]
    exact (h3 p hp).same hs
  · rw [S9] at hk
    rw [G0 0 (by decide), G1]
    exact ((h4 (k + 1) (by omega)).same hs).cg hSP (fun _ => rfl)
  · rw [Sn 10 (by decide)] at hj
    rw [G0 0 (by decide), G0 2 (by decide)]
    exact ((h5 j hj).same hs).cg hSP (fun _ => rfl)
  · unfold ORc at h6 ⊢
    rw [S9, Sn 10 (by decide), Sn 14 (by decide), G1, G0 2 (by decide), G0 4 (by decide)]
    exact ⟨fun i k a c => h6.1 (i + 1) (k + 1) (by omega) (by omega), h6.2.1, fun k j a c => h6.2.2.1 (k + 1) j (by omega) c, fun e k a c d => h6.2.2.2.1 e (k + 1) a (by omega) d, h6.2.2.2.2⟩
  · rw [Sn 14 (by decide)] at he
    rw [G0 3 (by decide), G0 4 (by decide)]
    exact (h7 e he).same hs
theorem c_rm0 (h : FR b z A μ) (hh : HR b z A m G ar s μ) (w : WF μ) (h9 : 0 < aS A 9) (n9 : aS A 9 ≤ 16) : ∃ x μ', f_Jx4a65c_remove_915e3 (b + 25) 0 μ = some (x, μ') ∧ FR b z (shiftB A) μ' ∧ HR b z (shiftB A) (fun k => m (k + 1)) (up1 G 1 (fun k => G 1 (k + 1))) ar s μ' ∧ CK 0 0 μ μ' ∧ H2 μ μ' := by
  have l1 := hh.1 1 (by decide)
  have en : nLs A 1 = aS A 9 := rfl
  obtain ⟨μ', e, g, N, S, K, L, R, v, mv⟩ := c_rem (i := 0) h.k100.2.2.1 h.sz.2.1 (by omega) l1.1 l1.2.1 (by rw [← en]; exact l1.2.2.1) h9 (l1.2.2.2.2.2 0 (by rw [en]; exact h9)) hh.els1
  have t1 : RT cT b (zS A 9 (aS A 9 - 1)) μ' := h.2.1.lf (i := 1) h.1 (by decide) w g v
  have T : RT cT b (shiftB A) μ' := t1
  have F : FR b z (shiftB A) μ' := h.lf (i := 1) (by decide) w g (Or.inl l1.2.1) T (by
    exact (plS (zBr A (fun k => aB A (k + 1))) (i := 9) (n := aS A 9 - 1) (by decide) (by decide)).trans (plA_congr (A := A) (B := zBr A (fun k => aB A (k + 1))) ⟨fun _ _ _ => rfl, rfl⟩ rfl rfl rfl rfl (fun _ _ => rfl))) rfl (fun q => by
    have q' : aS (zS (zBr A (fun k => aB A (k + 1))) 9 (aS A 9 - 1)) 12 = 0 := q
    rw [zS_ne _ _ (by decide)] at q'
    exact ⟨q', zS_ne _ _ (by decide)⟩)
  exact ⟨_, μ', e, F, hh.rm0 h.1 w h9 g K L R (fun j hj => by rw [mv j hj, if_neg (by omega)]) h.2.2.1.2.2.2.2.2.2, g.ck (i := 1) h.1 (by decide) w (Or.inl l1.2.1) (by omega) (by omega), g.ne (i := 1) h.1 (by decide) w (Or.inl l1.2.1)⟩
end CLV
