/-! THE CLASS: a cycle's renaming -/
section CRQ
variable {b z e sl : Nat} {m m' : Nat → Nat} {A A' B C D : Sx} {P : Pm} {G : Nat → Nat → Nat} {ar : Nat → Nat} {s : Nat} {μ μ' μ2 : Mm} {S : Nat → Nat → Bool}
theorem rn1_u (A : Sx) : rn1 A = zS (zB (if eC A (giveA (shiftL A) (aL A 0)).2 = 15 then zN (zV (giveA (shiftL A) (aL A 0)).1 1 ((giveA (shiftL A) (aL A 0)).2.1 8) (rsV 15 ((giveA (shiftL A) (aL A 0)).2.1 0) 0 0 (eI A (giveA (shiftL A) (aL A 0)).2))) 2 ((giveA (shiftL A) (aL A 0)).2.1 8) 1 else (giveA (shiftL A) (aL A 0)).1) (aS A 9) (rnE A)) 9 (aS A 9 + 1) := by
  unfold rn1 rnE
  dsimp only
  by_cases h : eC A (giveA (shiftL A) (aL A 0)).2 = 15
  · rw [if_pos h, if_pos h, h]
  · rw [if_neg h, if_neg h]
theorem c_rn1 (h : FR b z A μ) (hh : HR b z A (fun _ => 0) G ar s μ) (w : WF μ) (q : IV A) (h10 : aS A 10 ≠ 0) (hc : canRn A (eC A (aL A 0)) = true) : ∃ (G' : Nat → Nat → Nat) (ar' : Nat → Nat) (x : Nat) (μ1 μ' : Mm), f_Jx4a65c_remove_915e3 (b + 21) 0 μ = some (x, μ1) ∧ mK μ1 (b + 1) = 101 ∧ f_X0_renameFirst (b + 1) (G 2 0) μ1 = some ((), μ') ∧ FR b z (rn1 A) μ' ∧ HR b z (rn1 A) (fun _ => 0) G' ar' s μ' ∧ CK 1 40 μ μ' := by
  obtain ⟨c17, c7⟩ := canRn_e hc
  obtain ⟨q1, q2, q3, q4, -⟩ := id q.1
  have hn9 : aS A 9 ≤ 16 := by have := q2.1; have := q1.2.1; omega
  have hn10 : aS A 10 ≤ 8 := by have := q.2.1; have := q1.1; omega
  have l := q.2.2.2.2.1 0 (by omega)
  have hp := q1.p l.1.1
  have nf := q4.nf
  have q8 := q1.2.2.2.1
  have re := hh.2.2.2.2.1 0 (by omega)
  have ins0 := hh.2.2.1 _ l.1.1
  have or := hh.2.2.2.2.2.1
  have bb3 := q2.2.2.2.2.2.2.1.2.2
  obtain ⟨xr, μ1, e1, F1, H1, c1, x1⟩ := c_rmL h hh w (by omega) hn10
  obtain ⟨a, ha⟩ : ∃ a, a = G 2 0 := ⟨_, rfl⟩
  rw [← ha] at re ⊢
  obtain ⟨x, hx⟩ : ∃ x, x = aL A 0 := ⟨_, rfl⟩
  obtain ⟨G1, hG1⟩ : ∃ G1, G1 = up1 G 2 (fun k => G 2 (k + 1)) := ⟨_, rfl⟩
  rw [← hG1] at H1
  have G10 : ∀ i, i ≠ 2 → G1 i = G i := fun i hi => by rw [hG1]; exact up1_ne _ _ hi
  have G12 : ∀ j, G1 2 j = G 2 (j + 1) := fun j => by rw [hG1, up1_eq]
  obtain ⟨k1, r0, ⟨st, r3, sk⟩, r4, k2, l2, rf⟩ := re
  obtain ⟨y1k, y1l, y1i, y1r⟩ := x1 a (by rw [k1]; rfl)
  obtain ⟨y2k, y2l, y2i, y2r⟩ := x1 (a + 1) (by rw [k2]; rfl)
  have ka : mK μ1 a = 104 := y1k.trans k1
  have k51 : mK μ1 (a + 1) = 51 := y2k.trans k2
  have sSn : ∀ i, i ≠ 10 → aS (shiftL A) i = aS A i := fun i hi => zS_ne _ _ hi
  have s10 : aS (shiftL A) 10 = aS A 10 - 1 := zS_at _ _ _
  have o1 : ∀ k, k < aS A 9 → G1 1 k + 1 < a := fun k hk => by
    rw [G10 1 (by decide), ha]
    exact or.2.2.1 k 0 hk (by omega)
  have o2 : ∀ j, j < aS A 10 - 1 → a + 1 < G1 2 j := fun j hj => by
    rw [G12, ha]
    exact or.2.1 0 (j + 1) (by omega) (by omega)
  have o4 : ∀ e, e < aS A 14 → G1 4 e ≠ a + 1 := fun e he => by
    rw [G10 4 (by decide), ha]
    exact or.2.2.2.2 e 0 he (by omega)
  have cfL : CF (shiftL A) := by
    unfold CF
    rw [sSn 16 (by decide), sSn 17 (by decide), sSn 18 (by decide), sSn 8 (by decide), sSn 15 (by decide)]
    exact q1
  have ecL : eC (shiftL A) x = eC A x := rfl
  obtain ⟨μ2, e2, F2, H2', c2, ⟨K2, L2, R2⟩, p2, i6, i7, i8, i8n, io, fr2⟩ := c_give (a := a) (x := x) F1 H1 ka (by rw [y1r, r0, G10 0 (by decide), hx]) k51 (fun k hk => by rw [sSn 9 (by decide)] at hk; have := o1 k hk; omega) (fun j hj => by rw [s10] at hj; have := o2 j hj; omega) (fun e he => by rw [sSn 14 (by decide)] at he; exact o4 e he) (by rw [sSn 15 (by decide), hx]; exact l.1.1) cfL (by rw [sSn 7 (by decide)]; omega) (fun hd => by
    rw [sSn 7 (by decide)]
    have : aS A 7 ≠ 0 := c7 (by rw [← hx]; exact hd)
    have fr := q4.free (j := 0) (by omega)
    exact ⟨by omega, by show aN A 3 0 < 24; omega⟩)
  obtain ⟨g1, g2, g3, g4, g5, g6, g7, g8, g9, g10, g11, g12, g13⟩ := giveA_f (shiftL A) x
  obtain ⟨B, hB⟩ : ∃ B, B = (giveA (shiftL A) x).1 := ⟨_, rfl⟩
  rw [← hB] at F2 H2' g1 g2 g3 g4 g5 g6 g7
  have B9 : aS B 9 = aS A 9 := by rw [g1 9 (by decide), sSn 9 (by decide)]
  have B10 : aS B 10 = aS A 10 - 1 := by rw [g1 10 (by decide), s10]
  have B14 : aS B 14 = aS A 14 := by rw [g1 14 (by decide), sSn 14 (by decide)]
  have B15 : aS B 15 = aS A 15 := by rw [g1 15 (by decide), sSn 15 (by decide)]
  have B0 : aS B 0 = aS A 0 := by rw [g1 0 (by decide), sSn 0 (by decide)]
  have B3 : aS B 3 = aS A 3 := by rw [g1 3 (by decide), sSn 3 (by decide)]
  have sPB : SamP A B := ⟨fun r u v => by rw [g2 r (by omega) (by omega) (by omega)]; rfl, by rw [g3]; rfl⟩
  have hcb : eC A x < 22 := by
    have : eC A x = aN A 10 (x.1 0) := rfl
    rw [hx] at this ⊢
    omega
  -- the entry's memory
  have ka2 : mK μ2 a = 104 := by rw [K2]; exact ka
  have k512 : mK μ2 (a + 1) = 51 := by rw [K2]; exact k51
  have l512 : mL μ2 (a + 1) = 5 := by rw [L2]; exact y2l.trans l2
  have r42 : mR μ2 a 4 = some (a + 1) := by rw [R2, y1r]; exact r4
  have r02 : mR μ2 a 0 = some (G 0 (x.1 0)) := by rw [R2, y1r, hx]; exact r0
  have i12 : mI μ2 (b + 1) 12 = nI (aS A 0) := by
    have := F2.2.1.1 0 rfl
    rw [B0] at this
    exact this
  obtain ⟨μ3, m3⟩ : ∃ μ3, μ3 = sI μ2 (a + 1) 1 (nI (aS A 0)) := ⟨_, rfl⟩
  have ge3 : CE a μ2 μ3 := by
    rw [m3]
    exact ⟨rfl, rfl, rfl, rfl, rfl, rfl, fun y _ v => mI_row _ _ v⟩
  have n1 : ∀ k, k < aS B 9 → G1 1 k ≠ a := fun k hk => by rw [B9] at hk; have := o1 k hk; omega
  have n2 : ∀ j, j < aS B 10 → G1 2 j ≠ a := fun j hj => by rw [B10] at hj; have := o2 j hj; omega
  have n4 : ∀ e, e < aS B 14 → G1 4 e ≠ a + 1 := fun e he => by rw [B14] at he; exact o4 e he
  have F3 := F2.ce ka2 k512 ge3
  have H3 := H2'.cea ka2 k512 ge3 n1 n2 n4
  have c3 := ge3.ck ka2 k512
  have ins := H3.2.2.1 (x.1 0) (by rw [B15, hx]; exact l.1.1)
  rw [G10 0 (by decide)] at ins
  obtain ⟨kp, ip0, ip1, ip2', ip3, ip4, ip5⟩ := ins
  have ip1' : mI μ3 (G 0 (x.1 0)) 1 = nI (eC A x) := by rw [ip1, sPB.1 10 (by omega) (by omega)]; rfl
  have ip5' : mI μ3 (G 0 (x.1 0)) 5 = eI A x := by rw [ip5, sPB.2]; rfl
  have qd := c_isQd kp ip1' hcb
  have b0 : bI false = 0 := rfl
  have b1 : ¬ bI true = 0 := by decide
  have i15 : inb 1 5 := by decide
  have cl1 : Int32.toNatClampNeg 1 = 1 := by decide
  have cia : ∀ y : Option (Unit × Mm), ck (isA 1 51) y = y := fun y => if_pos (by decide)
  have k2s := F2.1
  unfold SC at k2s
  have k3s := F3.1
  unfold SC at k3s
  have k1s := F1.1
  unfold SC at k1s
  have r01 : mR μ1 a 0 = some (G 0 (x.1 0)) := by rw [y1r, hx]; exact r0
  have kp2 : mK μ2 (G 0 (x.1 0)) = 107 := by rw [← ge3.1]; exact kp
  have ea3 : mI μ3 a = mI μ2 a := by rw [m3]; exact mI_row _ _ (by omega)
  have ep3 : ∀ i, i ≠ 1 → mI μ3 (a + 1) i = mI μ (a + 1) i := fun i hi => by rw [m3, mI_ne _ _ (Or.inr hi), p2, y2i]
  have ep31 : mI μ3 (a + 1) 1 = nI (aS A 0) := by rw [m3, mI_at]
  -- the fields of the new entry
  have eio : ∀ i, i < 6 ∨ 9 < i → mI μ3 a i = mI μ a i := fun i hi => by rw [ea3, io i hi, y1i]
  have skf : ∀ {ν : Mm}, mK ν = mK μ2 → mL ν = mL μ2 → mI ν st = mI μ2 st → SKs ν st x.2.2 := fun {ν} u v t => by
    have kst : mK μ st = 41 := sk.1
    obtain ⟨z1, z2, z3, z4⟩ := x1 st (by rw [kst]; rfl)
    have i2 : mI μ2 st = mI μ st := by rw [fr2 st (by rw [z1, kst]; rfl) (fun y => by rw [y, k1] at kst; cases kst) (fun y => by rw [y, k2] at kst; cases kst), z3]
    unfold SKs
    rw [u, v, t, K2, L2, z1, z2, i2, hx]
    exact sk
  -- the end
  have fin : ∀ {E : Sx} {ν : Mm}, FR b z E ν → HR b z E (fun _ => 0) G1 ar s ν → WF ν → SamP A E → aS E 9 = aS A 9 → aS E 10 = aS A 10 - 1 → aS E 14 = aS A 14 → rn1 A = zS (zB E (aS A 9) (rnE A)) 9 (aS A 9 + 1) → mK ν = mK μ2 → mL ν = mL μ2 → mR ν = mR μ2 → mI ν st = mI μ2 st → REf A 0 true (rnE A) (mI ν a) (mI ν (a + 1)) → ∃ (G' : Nat → Nat → Nat) (ar' : Nat → Nat) (μ' : Mm), f_X0_renameFirst_b94 (b + 1) a ν = some ((), μ') ∧ FR b z (rn1 A) μ' ∧ HR b z (rn1 A) (fun _ => 0) G' ar' s μ' ∧ CK 1 40 ν μ' := fun {E ν} F H wn sE E9 E10 E14 eq Kn Ln Rn In rE => by
    obtain ⟨rr0, -, -, -, rr2, -⟩ := rnE_f A
    have rce : REc E (G1 0) 0 true (rnE A) a ν := by
      refine ⟨by rw [Kn]; exact ka2, ?_, ⟨st, by rw [Rn, R2, y1r]; exact r3, ?_⟩, by rw [Rn]; exact r42, by rw [Kn]; exact k512, by rw [Ln]; exact l512, rE.cg sE (fun _ => rfl)⟩
      · rw [Rn, r02, G10 0 (by decide), rr0, hx]
      · rw [rr2, ← hx]
        exact skf Kn Ln In
    obtain ⟨ar', μ', e, F', H', c⟩ := c_addB F H wn (by rw [E9]; exact hn9) rce (fun k hk => o1 k (by omega)) (fun j hj => o2 j (by omega)) (fun e he => o4 e (by omega))
    rw [E9] at F' H'
    rw [← eq] at F' H'
    have ks := F.1
    unfold SC at ks
    exact ⟨_, ar', μ', by simp only [f_X0_renameFirst_b94, ks, ckT, bdS, cl_t e], F', H', c⟩
  have ecg : eC A (giveA (shiftL A) (aL A 0)).2 = eC A x := by
    rw [← hx]
    exact congrArg (aN A 10) (g8 0 (by decide) (by decide) (by decide) (by decide))
  have eig : eI A (giveA (shiftL A) (aL A 0)).2 = eI A x := by
    rw [← hx]
    exact congrArg (aV A 5) (g8 0 (by decide) (by decide) (by decide) (by decide))
  have run : f_X0_renameFirst (b + 1) a μ1 = (if ¬ bI (isQd (eC A x)) = 0 then f_X0_renameFirst_b68 (b + 1) a (G 0 (x.1 0)) μ3 else if ¬ nI (eC A x) = 21 then f_X0_renameFirst_b51 (b + 1) a (G 0 (x.1 0)) a μ3 else if ¬ (zb (mI μ3 (b + 1) 15)) = 0 then f_X0_renameFirst_b51 (b + 1) a (G 0 (x.1 0)) a μ3 else f_X0_renameFirst_b57 (b + 1) a (G 0 (x.1 0)) 5 a μ3) := by
    simp only [f_X0_renameFirst, ka, ckT, r01, bdS, k1s, cl_t e2, ka2, r42, k2s, k512, cia, l512, ck_t i15, cl1, i12, zlS, ← m3, kp, qd, ip1']
  have n18 : aS A 3 ≤ 1 := bb3
  have z3 := zb1 n18
  have i153 : mI μ3 (b + 1) 15 = nI (aS A 3) := by
    have := F3.2.1.1 3 rfl
    rw [B3] at this
    exact this
  refine Exists.elim (?_ : ∃ G', ∃ ar' μ', f_X0_renameFirst (b + 1) a μ1 = some ((), μ') ∧ FR b z (rn1 A) μ' ∧ HR b z (rn1 A) (fun _ => 0) G' ar' s μ' ∧ CK 1 40 μ μ') (fun G' y => by
    obtain ⟨ar', μ', y1, y2, y3, y4⟩ := y
    exact ⟨G', ar', xr, μ1, μ', e1, by simp only [k1s], y1, y2, y3, y4⟩)
  have ww3 : WF μ3 := c3.1 (c2.1 (c1.1 w))
  cases hq : isQd (eC A x)
  · -- not of the queue: it ends at once
    rw [hq] at run
    rw [if_neg (fun y => y b0)] at run
    obtain ⟨t, ht⟩ : ∃ t, t = if eC A x = 21 ∧ aS A 3 = 0 then 5 else tpV (eC A x) 0 0 (eI A x) := ⟨_, rfl⟩
    have tb := c_trapBy (x := 0) (y := 0) kp ip1' ip5' hcb
    have r57 : f_X0_renameFirst (b + 1) a μ1 = f_X0_renameFirst_b57 (b + 1) a (G 0 (x.1 0)) (nI t) a μ3 := by
      rw [run, i153]
      by_cases e21 : eC A x = 21
      · have w21 : ¬ ¬ nI (eC A x) = 21 := by rw [e21]; exact fun y => y rfl
        rw [if_neg w21]
        by_cases a3 : aS A 3 = 0
        · have w3 : ¬ ¬ zb (nI (aS A 3)) = 0 := by rw [z3]; exact fun y => y a3
          rw [if_neg w3, ht, if_pos ⟨e21, a3⟩]
          rfl
        · have w3 : ¬ zb (nI (aS A 3)) = 0 := by rw [z3]; exact a3
          rw [if_pos w3, ht, if_neg (fun y => a3 y.2)]
          simp only [f_X0_renameFirst_b51, kp, ckT, tb, bdS]
      · have w21 : ¬ nI (eC A x) = 21 := nIne (n := 21) (by omega) (by omega) e21
        rw [if_pos w21, ht, if_neg (fun y => e21 y.1)]
        simp only [f_X0_renameFirst_b51, kp, ckT, tb, bdS]
    obtain ⟨μ5, m5⟩ : ∃ μ5, μ5 = sI (sI (sI μ3 a 12 (nI t)) a 5 101) (a + 1) 3 (nI (aS A 0)) := ⟨_, rfl⟩
    have ge5 : CE a μ3 μ5 := by
      rw [m5]
      exact ⟨rfl, rfl, rfl, rfl, rfl, rfl, fun y u v => by rw [mI_row _ _ v, mI_row _ _ u, mI_row _ _ u]⟩
    have ka3 : mK μ3 a = 104 := by rw [ge3.1]; exact ka2
    have k513 : mK μ3 (a + 1) = 51 := by rw [ge3.1]; exact k512
    have F5 := F3.ce ka3 k513 ge5
    have H5 := H3.cea ka3 k513 ge5 n1 n2 n4
    have c5 := ge5.ck ka3 k513
    have nab : b + 1 ≠ a := fun y => by rw [← y, k3s.2.1] at ka3; cases ka3
    have i12' : mI (sI μ3 a 12 (nI t)) (b + 1) 12 = nI (aS A 0) := by
      rw [mI_row _ _ nab]
      have := F3.2.1.1 0 rfl
      rw [B0] at this
      exact this
    have eI_ := c_endIn (μ := sI μ3 a 12 (nI t)) (a := a) (cy := nI (aS A 0)) ka3 (by rw [mR_sI', ge3.2.2.1]; exact r42) k513 (by rw [mL_sI, ge3.2.1]; exact l512)
    have r68 : f_X0_renameFirst (b + 1) a μ1 = f_X0_renameFirst_b68 (b + 1) a (G 0 (x.1 0)) μ5 := by
      rw [r57]
      simp only [f_X0_renameFirst_b57, ka3, ckT, zlS, mK_sI, k3s, i12', cl_t eI_, ← m5]
    have ee5 : ∀ i, i ≠ 5 → i ≠ 12 → mI μ5 a i = mI μ3 a i := fun i u v => by rw [m5, mI_row _ _ (by omega), mI_ne _ _ (Or.inr u), mI_ne _ _ (Or.inr v)]
    have e55 : mI μ5 a 5 = 101 := by rw [m5, mI_row _ _ (by omega), mI_at]
    have e512 : mI μ5 a 12 = nI t := by rw [m5, mI_row _ _ (by omega), mI_ne _ _ (Or.inr (by decide)), mI_at]
    have ep5 : ∀ i, i ≠ 3 → mI μ5 (a + 1) i = mI μ3 (a + 1) i := fun i u => by rw [m5, mI_ne _ _ (Or.inr u), mI_row _ _ (by omega), mI_row _ _ (by omega)]
    have ep53 : mI μ5 (a + 1) 3 = nI (aS A 0) := by rw [m5, mI_at]
    have rE : REf A 0 true (rnE A) (mI μ5 a) (mI μ5 (a + 1)) := by
      refine rn_ref (F := mI μ a) (p := mI μ (a + 1)) q.2 h10 rf ?_ ?_ (fun hd => ?_) (fun hd => ?_) (fun y => ?_) (fun _ => ⟨e55, ?_⟩) (fun i hi => ?_) ?_ ?_ ?_ (fun _ => ep53)
      · rw [ee5 6 (by decide) (by decide), ea3, ← hx]; exact i6
      · rw [ee5 7 (by decide) (by decide), ea3, ← hx]; exact i7
      · rw [ee5 8 (by decide) (by decide), ee5 9 (by decide) (by decide), ea3, ← hx]
        exact i8 (by rw [hx]; exact hd)
      · rw [ee5 8 (by decide) (by decide), ea3, i8n (by rw [hx]; exact hd), y1i]
      · rw [← hx, hq] at y; cases y
      · rw [e512, ht, hx]
      · rw [ee5 i (by omega) (by omega)]
        rcases hi with y | y | y | y | y | y | y <;> exact eio i (by omega)
      · rw [ep5 1 (by decide)]; exact ep31
      · rw [ep5 0 (by decide), ep3 0 (by decide)]
      · rw [ep5 2 (by decide), ep3 2 (by decide)]
    have st5 : mI μ5 st = mI μ2 st := by
      have kst : mK μ st = 41 := sk.1
      have s1 : st ≠ a := fun y => by rw [y, k1] at kst; cases kst
      have s2 : st ≠ a + 1 := fun y => by rw [y, k2] at kst; cases kst
      rw [ge5.2.2.2.2.2.2 st s1 s2, ge3.2.2.2.2.2.2 st s1 s2]
    have K5 : mK μ5 = mK μ2 := by rw [ge5.1, ge3.1]
    have L5 : mL μ5 = mL μ2 := by rw [ge5.2.1, ge3.2.1]
    have R5 : mR μ5 = mR μ2 := by rw [ge5.2.2.1, ge3.2.2.1]
    have kp5 : mK μ5 (G 0 (x.1 0)) = 107 := by rw [K5]; exact kp2
    have ins5 := H5.2.2.1 (x.1 0) (by rw [B15, hx]; exact l.1.1)
    rw [G10 0 (by decide)] at ins5
    have jp1 : mI μ5 (G 0 (x.1 0)) 1 = nI (eC A x) := by rw [ins5.2.2.1, sPB.1 10 (by omega) (by omega)]; rfl
    have jp5 : mI μ5 (G 0 (x.1 0)) 5 = eI A x := by rw [ins5.2.2.2.2.2.2, sPB.2]; rfl
    rw [r68]
    by_cases e15 : eC A x = 15
    · have hd : hasD (eC A x) = true := by rw [e15]; rfl
      have w15 : ¬ ¬ nI (eC A x) = 15 := by rw [e15]; exact fun y => y rfl
      obtain ⟨g, hg⟩ : ∃ g, g = aN A 3 0 := ⟨_, rfl⟩
      have g24 : g < 24 := by
        have : aS A 7 ≠ 0 := c7 (by rw [← hx]; exact hd)
        have fr := q4.free (j := 0) (by omega)
        rw [hg]
        omega
      have f8 : mI μ5 a 8 = nI g := by rw [ee5 8 (by decide) (by decide), ea3, (i8 hd).1, hg]; rfl
      have rb := c_resultBy (x := 0) (y := 0) kp5 ins5.2.1 jp1 jp5 hcb
      rw [e15] at rb
      obtain ⟨v, hv⟩ : ∃ v, v = rsV 15 (x.1 0) 0 0 (eI A x) := ⟨_, rfl⟩
      rw [← hv] at rb
      have wr := c_write (i := g) (v := v) F5.1 g24
      obtain ⟨μ6, m6⟩ : ∃ μ6, μ6 = sI (sI μ5 (b + 12) g v) (b + 13) g 1 := ⟨_, rfl⟩
      rw [← m6] at wr
      have g6 : CH b (fun o _ => o == 12 || o == 13) μ5 μ6 := by rw [m6]; exact (CH.put rfl).trans (CH.put rfl)
      have T6 : RT cT b (zN (zV B 1 g v) 2 g 1) μ6 := by
        have t1 := F5.2.1.putV cT_ok (q := 1) (j := g) (by omega) g24 v
        rw [show (cT.2.2 1).2 + g = g from Nat.zero_add _] at t1
        have t2 := t1.putN cT_ok (q := 2) (j := g) (by omega) g24 1
        rw [m6]
        exact t2
      have sPN : SamP B (zN (zV B 1 g v) 2 g 1) := ⟨fun r u v => zN_ne _ _ _ (by omega), zV_ne _ _ _ (by decide)⟩
      obtain ⟨F6, H6, c6, x6⟩ := c_step F5 H5 T6 g6 (fun o k zz => by
        simp only [Bool.or_eq_true, beq_iff_eq] at zz
        unfold okS
        omega) sPN (fun _ _ => rfl) rfl rfl rfl rfl (fun r hr => zN_ne _ _ _ (by omega)) (fun r hr => zV_ne _ _ _ (by omega))
      have ka5 : mK μ5 a = 104 := by rw [K5]; exact ka2
      have k515 : mK μ5 (a + 1) = 51 := by rw [K5]; exact k512
      have kst5 : mK μ5 st = 41 := by
        rw [K5, K2, (x1 st (by rw [sk.1]; rfl)).1]
        exact sk.1
      have ia6 := (x6 a (by rw [ka5]; rfl)).2.2.1
      have ip6 := (x6 (a + 1) (by rw [k515]; rfl)).2.2.1
      obtain ⟨G', ar', μ', y1, y2, y3, y4⟩ := fin F6 H6 (c6.1 (c5.1 ww3)) ⟨fun r u v => (sPN.1 r u v).trans (sPB.1 r u v), sPN.2.trans sPB.2⟩ B9 B10 B14 (by
        rw [rn1_u, ecg, if_pos e15, ← hx, (g12 hd).2.2.2.2.1, g8 0 (by decide) (by decide) (by decide) (by decide), ← hB]
        rw [show eI A (giveA (shiftL A) x).2 = eI A x from by rw [hx]; exact hx ▸ eig, ← hv, hg]
        rfl) (by rw [g6.1]; exact K5) (by rw [g6.2.1]; exact L5) (by rw [g6.2.2.1]; exact R5) (by rw [(x6 st (by rw [kst5]; rfl)).2.2.1]; exact st5) (by rw [ia6, ip6]; exact rE)
      refine ⟨G', ar', μ', ?_, y2, y3, (((((c1.trans c2).trans c3).trans c5).trans c6).trans y4).mono (by omega) (by omega)⟩
      have k5s := F5.1
      unfold SC at k5s
      simp only [f_X0_renameFirst_b68, kp5, ckT, jp1, w15, if_false, k5s, bdS, ka5, rb, f8, cl_t wr, y1]
    · have w15 : ¬ nI (eC A x) = 15 := nIne (n := 15) (by omega) (by omega) e15
      obtain ⟨G', ar', μ', y1, y2, y3, y4⟩ := fin F5 H5 (c5.1 ww3) sPB B9 B10 B14 (by rw [rn1_u, ecg, if_neg e15, ← hx, ← hB]) K5 L5 R5 st5 rE
      refine ⟨G', ar', μ', ?_, y2, y3, ((((c1.trans c2).trans c3).trans c5).trans y4).mono (by omega) (by omega)⟩
      simp only [f_X0_renameFirst_b68, kp5, ckT, jp1, w15, not_false_eq_true, if_true, y1]
  · -- into the queue
    rw [hq] at run
    rw [if_pos b1] at run
    have e15 : ¬ eC A x = 15 := fun y => by rw [y] at hq; cases hq
    have w15 : ¬ nI (eC A x) = 15 := nIne (n := 15) (by omega) (by omega) e15
    have rE : REf A 0 true (rnE A) (mI μ3 a) (mI μ3 (a + 1)) := by
      refine rn_ref (F := mI μ a) (p := mI μ (a + 1)) q.2 h10 rf ?_ ?_ (fun hd => ?_) (fun hd => ?_) (fun _ => ⟨eio 5 (by omega), eio 12 (by omega)⟩) (fun y => ?_) (fun i hi => ?_) ep31 (ep3 0 (by decide)) (ep3 2 (by decide)) (fun y => ?_)
      · rw [ea3, ← hx]; exact i6
      · rw [ea3, ← hx]; exact i7
      · rw [ea3, ← hx]
        exact i8 (by rw [hx]; exact hd)
      · rw [ea3, i8n (by rw [hx]; exact hd), y1i]
      · rw [← hx, hq] at y; cases y
      · exact eio i (by omega)
      · rw [← hx, hq] at y; cases y
    have st3 : mI μ3 st = mI μ2 st := by
      have kst : mK μ st = 41 := sk.1
      exact ge3.2.2.2.2.2.2 st (fun y => by rw [y, k1] at kst; cases kst) (fun y => by rw [y, k2] at kst; cases kst)
    obtain ⟨G', ar', μ', y1, y2, y3, y4⟩ := fin F3 H3 ww3 sPB B9 B10 B14 (by rw [rn1_u, ecg, if_neg e15, ← hx, ← hB]) ge3.1 ge3.2.1 ge3.2.2.1 st3 rE
    refine ⟨G', ar', μ', ?_, y2, y3, (((c1.trans c2).trans c3).trans y4).mono (by omega) (by omega)⟩
    rw [run]
    simp only [f_X0_renameFirst_b68, kp, ckT, ip1', w15, not_false_eq_true, if_true, y1]
end CRQ
