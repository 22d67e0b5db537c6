/-! THE CLASS: renaming, what it asks; a line's head goes; one more in the buffer -/
section CRN
variable {b z e sl : Nat} {m m' : Nat → Nat} {A A' B C D : Sx} {P : Pm} {G : Nat → Nat → Nat} {ar : Nat → Nat} {s : Nat} {μ μ' μ2 : Mm} {S : Nat → Nat → Bool}
theorem cntQ_n (A : Sx) : ∀ n, cntQ A n ≤ n
  | 0 => Nat.le_refl _
  | n + 1 => by
    have := cntQ_n A n
    unfold cntQ
    split <;> omega
theorem c_cntL (h : FR b z A μ) (hh : HR b z A (fun _ => 0) G ar s μ) (q : IB A) : ∀ (r i fu : Nat), i + r = aS A 9 → r < fu → f_X0_countQueue_b4 fu (b + 1) (nI (cntQ A i)) (nI i) μ = some (nI (cntQ A (aS A 9)))
  | 0, i, fu, hi, hf => by
    obtain ⟨fu, rfl⟩ : ∃ n, fu = n + 1 := ⟨fu - 1, by omega⟩
    have n9 : aS A 9 ≤ 16 := by have := q.2.1.1; have := q.1.2.1; omega
    have k0 := h.1
    unfold SC at k0
    have sz := c_sizeB h
    have c1 : nI (aS A 9) ≤ nI i := nI_le (by omega) (by omega)
    have e : i = aS A 9 := by omega
    rw [e] at c1 ⊢
    simp only [f_X0_countQueue_b4, k0, ckT, bdS, sz, c1, if_true]
  | r + 1, i, fu, hi, hf => by
    obtain ⟨fu, rfl⟩ : ∃ n, fu = n + 1 := ⟨fu - 1, by omega⟩
    have n9 : aS A 9 ≤ 16 := by have := q.2.1.1; have := q.1.2.1; omega
    have k0 := h.1
    unfold SC at k0
    have sz := c_sizeB h
    have hk : i < aS A 9 := by omega
    obtain ⟨g1, g2, g3, g4, g5, g6, g7, g8, -⟩ := c_rd h hh q hk
    have c1 : ¬ nI (aS A 9) ≤ nI i := nI_ge (by omega) (by omega)
    have ih := c_cntL h hh q r (i + 1) fu (by omega) (by omega)
    rw [← ih]
    by_cases e : (aB A i).1 10 = 113
    · have w : ¬ ¬ nI ((aB A i).1 10) = 113 := by rw [e]; exact fun w => w rfl
      have ec : cntQ A (i + 1) = cntQ A i + 1 := by
        show (if (aB A i).1 10 = 113 then 1 else 0) + cntQ A i = _
        rw [if_pos e]
        omega
      rw [ec]
      simp only [f_X0_countQueue_b4, f_X0_countQueue_b37, k0, ckT, bdS, sz, c1, if_false, g1, g2, g7, w, nI_1]
    · have w : ¬ nI ((aB A i).1 10) = 113 := nIne (n := 113) (by omega) (by omega) e
      have ec : cntQ A (i + 1) = cntQ A i := by
        show (if (aB A i).1 10 = 113 then 1 else 0) + cntQ A i = _
        rw [if_neg e]
        omega
      rw [ec]
      simp only [f_X0_countQueue_b4, f_X0_countQueue_b37, k0, ckT, bdS, sz, c1, if_false, g1, g2, g7, w, not_false_eq_true, if_true, nI_1]
theorem c_canRn {p c : Nat} (h : FR b z A μ) (hh : HR b z A (fun _ => 0) G ar s μ) (q : IB A) (kp : mK μ p = 107) (ip : mI μ p 1 = nI c) (hc : c < 22) : f_X0_canRename (b + 1) p μ = some (bI (canRn A c)) := by
  have n9 : aS A 9 ≤ 16 := by have := q.2.1.1; have := q.1.2.1; omega
  have k0 := h.1
  unfold SC at k0
  obtain ⟨cf1, cf2, cf3, cf4, -⟩ := q.1
  have nf := q.2.2.2.1.nf
  have sz := c_sizeB h
  have em := c_empty h.k100.2.2.1 h.sz.2.1 (by omega)
  have i31 : mI μ (b + 3) 1 = nI (aS A 17) := h.2.1.1 17 rfl
  have i32 : mI μ (b + 3) 2 = nI (aS A 18) := h.2.1.1 18 rfl
  have i95 : mI μ (b + 9) 5 = nI (aS A 7) := h.2.1.1 7 rfl
  have cq : f_X0_countQueue (b + 1) μ = some (nI (cntQ A (aS A 9))) := c_cntL h hh q (aS A 9) 0 5000 (Nat.zero_add _) (by omega)
  have cvl := cntQ_n A (aS A 9)
  have hd := c_hasD kp ip hc
  have qd := c_isQd kp ip hc
  have al := c_isAl kp ip hc
  have b0 : bI false = 0 := rfl
  have b1 : ¬ bI true = 0 := by decide
  have nn : ¬ ¬ (0 : Int32) = 0 := fun y => y rfl
  unfold canRn
  by_cases h17 : aS A 9 < aS A 17
  · have w17 : nI (aS A 9) < nI (aS A 17) := nI_lt h17 (by omega)
    rw [decide_eq_true h17, Bool.true_and]
    -- the last
    have last : f_X0_canRename_b61 (b + 1) p μ = some (bI (decide (aS A 9 = 0) || (!isAl c && !isAl (eC A (aB A 0))))) := by
      by_cases a9 : aS A 9 = 0
      · rw [decide_eq_true a9] at em ⊢
        simp only [f_X0_canRename_b61, f_X0_canRename_b98, k0, ckT, bdS, em, b1, not_false_eq_true, if_true]
        rfl
      · rw [decide_eq_false a9] at em ⊢
        obtain ⟨g1, g2, g3, g4, g5, g6, g7, g8, -⟩ := c_rd h hh q (show 0 < aS A 9 by omega)
        have g1' : f_Jx4a65c_get_915e3 (b + 25) 0 μ = some (G 1 0) := g1
        have al0 := c_isAl g4 g5 g6
        cases ha : isAl c
        · rw [ha] at al
          cases ha0 : isAl (eC A (aB A 0))
          · rw [ha0] at al0
            simp only [f_X0_canRename_b61, f_X0_canRename_b98, k0, ckT, bdS, em, b0, nn, if_false, kp, al, g1', g2, g3, g4, al0]
            rfl
          · rw [ha0] at al0
            simp only [f_X0_canRename_b61, f_X0_canRename_b98, k0, ckT, bdS, em, b0, nn, if_false, kp, al, g1', g2, g3, g4, al0, b1, not_false_eq_true, if_true]
            rfl
        · rw [ha] at al
          simp only [f_X0_canRename_b61, k0, ckT, bdS, em, b0, nn, if_false, kp, al, b1, not_false_eq_true, if_true]
          rfl
    have mid : f_X0_canRename_b38 (b + 1) p μ = some (bI (!(isQd c && decide (aS A 18 ≤ cntQ A (aS A 9))) && (decide (aS A 9 = 0) || (!isAl c && !isAl (eC A (aB A 0)))))) := by
      cases hq : isQd c
      · rw [hq] at qd
        simp only [f_X0_canRename_b38, kp, ckT, bdS, qd, b0, if_true, last]
        rfl
      · rw [hq] at qd
        by_cases h18 : aS A 18 ≤ cntQ A (aS A 9)
        · have w : ¬ nI (cntQ A (aS A 9)) < nI (aS A 18) := nI_nlt h18 (by omega)
          rw [decide_eq_true h18]
          simp only [f_X0_canRename_b38, kp, ckT, bdS, qd, b1, if_false, k0, cq, i32, w]
          rfl
        · have w : nI (cntQ A (aS A 9)) < nI (aS A 18) := nI_lt (by omega) (by omega)
          rw [decide_eq_false h18]
          simp only [f_X0_canRename_b38, kp, ckT, bdS, qd, b1, if_false, k0, cq, i32, w, if_true, last]
          rfl
    cases hD : hasD c
    · rw [hD] at hd
      simp only [f_X0_canRename, k0, ckT, bdS, sz, i31, w17, if_true, kp, hd, b0, mid]
      rfl
    · rw [hD] at hd
      by_cases h7 : aS A 7 = 0
      · have w : ¬ ¬ nI (aS A 7) = 0 := by rw [h7]; exact fun y => y rfl
        rw [decide_eq_true h7]
        simp only [f_X0_canRename, k0, ckT, bdS, sz, i31, w17, if_true, kp, hd, b1, if_false, i95, w]
        rfl
      · have w : ¬ nI (aS A 7) = 0 := nIne (n := 0) (by omega) (by omega) h7
        rw [decide_eq_false h7]
        simp only [f_X0_canRename, k0, ckT, bdS, sz, i31, w17, if_true, kp, hd, b1, if_false, i95, w, not_false_eq_true, mid]
        rfl
  · have w17 : ¬ nI (aS A 9) < nI (aS A 17) := nI_nlt (by omega) (by omega)
    rw [decide_eq_false h17]
    simp only [f_X0_canRename, k0, ckT, bdS, sz, i31, w17, if_false]
    rfl
/-- the line's head goes -/
theorem HR.rmL (h : HR b z A m G ar s μ) (hC : SC b μ) (w : WF μ) (h10 : 0 < aS A 10) (g : LF (b + 21) (ar 2) μ μ') (hK : mK μ' = mK μ) (hL : mL μ' = mL μ) (hR : mR μ' (b + 21) = mR μ (b + 21)) (hv : ∀ j, j < aS A 10 - 1 → mR μ' (ar 2) j = mR μ (ar 2) (j + 1)) (hz : mL μ z = 0) : HR b z (shiftL A) m (up1 G 2 (fun k => G 2 (k + 1))) ar s μ' := by
  have l1 := h.1 2 (by decide)
  have e26 : mK μ (ar 2) = 26 := l1.2.1
  have hs := g.ne (i := 2) hC (by decide) w (Or.inl e26)
  have nz : ar 2 ≠ z := fun q => by
    have := l1.2.2.1
    rw [q, hz] at this
    have e : nLs A 2 = aS A 10 := rfl
    omega
  have hl := h.lists hC (i := 2) (by decide) w g (Or.inl ⟨rfl, nz⟩)
  obtain ⟨h1, h2, h3, h4, h5, h6, h7, h8, h9'⟩ := h
  have S10 : aS (shiftL A) 10 = aS A 10 - 1 := zS_at _ _ _
  have Sn : ∀ i, i ≠ 10 → aS (shiftL A) i = aS A i := fun i hi => zS_ne _ _ hi
  have k20 := hC.fk (o := 20) (by decide) (by decide)
  have n20 : mR μ' (b + 20) 3 = mR μ (b + 20) 3 := by
    obtain ⟨g1, g2, g3, g4, -⟩ := g
    rw [g4 _ (w.lt (fxK_0 k20)) (by omega) (fun q => by rw [q, e26] at k20; cases k20)]
  have G1 : up1 G 2 (fun k => G 2 (k + 1)) 2 = fun k => G 2 (k + 1) := up1_eq _ _ _
  have G0 : ∀ i, i ≠ 2 → up1 G 2 (fun k => G 2 (k + 1)) i = G i := fun i hi => up1_ne _ _ hi
  have hSP : SamP A (shiftL A) := ⟨fun _ _ _ => rfl, rfl⟩
  refine ⟨fun i hi => ?_, h2, fun p hp => ?_, fun k hk => ?_, fun j hj => ?_, ?_, fun e he => ?_, by rw [n20]; exact h8, h9'.same hs⟩
  · by_cases e : i = 2
    · subst e
      rw [G1]
      refine ⟨by rw [show lo 2 = 21 from rfl, hR]; exact l1.1, by rw [hK]; exact e26, ?_, by rw [hL]; exact l1.2.2.2.1, by rw [hL]; exact l1.2.2.2.2.1, fun k hk => ?_⟩
      · rw [hL]
        show aS (shiftL A) 10 ≤ _
        rw [S10]
        have := l1.2.2.1
        have e : nLs A 2 = aS A 10 := rfl
        omega
      · have hk2 : k < aS (shiftL A) 10 := hk
        rw [S10] at hk2
        rw [hv k hk2]
        exact l1.2.2.2.2.2 (k + 1) (show k + 1 < aS A 10 by omega)
    · have en : nLs (shiftL A) i = nLs A i := by
        have : i = 0 ∨ i = 1 ∨ i = 3 := by omega
        rcases this with rfl | rfl | rfl
        · exact Sn 15 (by decide)
        · exact Sn 9 (by decide)
        · exact Sn 14 (by decide)
      rw [en, G0 i e]
      exact hl i hi e
  · rw [Sn 15 (by decide)] at hp
    rw [G0 0 (by decide)]
    exact (h3 p hp).same hs
  · rw [Sn 9 (by decide)] at hk
    rw [G0 0 (by decide), G0 1 (by decide)]
    exact ((h4 k hk).same hs).cg hSP (fun _ => rfl)
  · rw [S10] at hj
    rw [G0 0 (by decide), G1]
    exact ((h5 (j + 1) (by omega)).same hs).cg hSP (fun _ => rfl)
  · unfold ORc at h6 ⊢
    rw [S10, Sn 9 (by decide), Sn 14 (by decide), G1, G0 1 (by decide), G0 4 (by decide)]
    exact ⟨h6.1, fun i j a c => h6.2.1 (i + 1) (j + 1) (by omega) (by omega), fun k j a c => h6.2.2.1 k (j + 1) a (by omega), h6.2.2.2.1, fun e j a c => h6.2.2.2.2 e (j + 1) a (by omega)⟩
  · rw [Sn 14 (by decide)] at he
    rw [G0 3 (by decide), G0 4 (by decide)]
    exact (h7 e he).same hs
theorem c_rmL (h : FR b z A μ) (hh : HR b z A m G ar s μ) (w : WF μ) (h10 : 0 < aS A 10) (n10 : aS A 10 ≤ 8) : ∃ x μ', f_Jx4a65c_remove_915e3 (b + 21) 0 μ = some (x, μ') ∧ FR b z (shiftL A) μ' ∧ HR b z (shiftL A) m (up1 G 2 (fun k => G 2 (k + 1))) ar s μ' ∧ CK 0 0 μ μ' ∧ H2 μ μ' := by
  have l1 := hh.1 2 (by decide)
  have en : nLs A 2 = aS A 10 := rfl
  obtain ⟨μ', e, g, N, S, K, L, R, v, mv⟩ := c_rem (i := 0) h.k100.2.1 h.sz.2.2.1 (by omega) l1.1 l1.2.1 (by rw [← en]; exact l1.2.2.1) h10 (l1.2.2.2.2.2 0 (by rw [en]; exact h10)) hh.els2
  have t1 : RT cT b (zS A 10 (aS A 10 - 1)) μ' := h.2.1.lf (i := 2) h.1 (by decide) w g v
  have T : RT cT b (shiftL A) μ' := t1
  have F : FR b z (shiftL A) μ' := h.lf (i := 2) (by decide) w g (Or.inl l1.2.1) T (by
    exact (plS (zLr A (fun k => aL A (k + 1))) (i := 10) (n := aS A 10 - 1) (by decide) (by decide)).trans (plA_congr (A := A) (B := zLr A (fun k => aL A (k + 1))) ⟨fun _ _ _ => rfl, rfl⟩ rfl rfl rfl rfl (fun _ _ => rfl))) rfl (fun q => by
    have q' : aS (zS (zLr A (fun k => aL A (k + 1))) 10 (aS A 10 - 1)) 12 = 0 := q
    rw [zS_ne _ _ (by decide)] at q'
    exact ⟨q', zS_ne _ _ (by decide)⟩)
  exact ⟨_, μ', e, F, hh.rmL h.1 w h10 g K L R (fun j hj => by rw [mv j hj, if_neg (by omega)]) h.2.2.1.2.2.2.2.2.2, g.ck (i := 2) h.1 (by decide) w (Or.inl l1.2.1) (by omega) (by omega), g.ne (i := 2) h.1 (by decide) w (Or.inl l1.2.1)⟩
/-- an entry that is in no list is written -/
theorem HR.cea {a : Nat} (h : HR b z A m G ar s μ) (ka : mK μ a = 104) (k51 : mK μ (a + 1) = 51) (g : CE a μ μ') (n1 : ∀ k, k < aS A 9 → G 1 k ≠ a) (n2 : ∀ j, j < aS A 10 → G 2 j ≠ a) (n4 : ∀ e, e < aS A 14 → G 4 e ≠ a + 1) : HR b z A m G ar s μ' := by
  obtain ⟨h1, h2, h3, h4, h5, h6, h7, h8, h9'⟩ := h
  have ne : ∀ x, mK μ x ≠ 104 → mK μ x ≠ 51 → mI μ' x = mI μ x := fun x u v => g.2.2.2.2.2.2 x (fun q => u (by rw [q]; exact ka)) (fun q => v (by rw [q]; exact k51))
  refine ⟨fun i hi => (h1 i hi).same (by rw [g.2.2.1]) ⟨by rw [g.1], by rw [g.2.1], by rw [g.2.2.1]⟩, h2, fun p hp => ?_, fun k hk => (h4 k hk).ce ka k51 (n1 k hk) g, fun j hj => (h5 j hj).ce ka k51 (n2 j hj) g, h6, fun e he => ?_, by rw [g.2.2.1]; exact h8, ?_⟩
  · have q := h3 p hp
    unfold INc
    rw [g.1, ne _ (by rw [q.1]; decide) (by rw [q.1]; decide)]
    exact q
  · have q := h7 e he
    unfold ENc
    rw [g.1, g.2.1, g.2.2.1, ne _ (by rw [q.1]; decide) (by rw [q.1]; decide), g.2.2.2.2.2.2 _ (fun w => by have q7 := q.2.2.2.2.2.2.1; rw [w, ka] at q7; cases q7) (n4 e he)]
    exact q
  · unfold SKs at h9' ⊢
    rw [g.1, g.2.1, ne s (by rw [h9'.1]; decide) (by rw [h9'.1]; decide)]
    exact h9'
end CRN
