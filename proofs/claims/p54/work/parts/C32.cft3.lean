/-! THE CLASS: one more in the line -/
section CFV
variable {b z e sl : Nat} {m m' : Nat → Nat} {A A' B C D : Sx} {P : Pm} {G : Nat → Nat → Nat} {ar : Nat → Nat} {s : Nat} {μ μ' μ2 : Mm} {S : Nat → Nat → Bool}
theorem HR.addL {a e' : Nat} {x : Ent} (h : HR b z A m G ar s μ) (hC : SC b μ) (w : WF μ) (gg : LF (b + 21) e' μ μ') (he : (e' = ar 2 ∧ e' ≠ z) ∨ e' = mN μ) (l1 : mR μ' (b + 21) 1 = some e') (l2 : mK μ' e' = 26) (l3 : aS A 10 + 1 ≤ mL μ' e') (l4 : mL μ' e' < 50000) (l5 : ∀ i, i < aS A 10 → mR μ' e' i = mR μ (ar 2) i) (l6 : mR μ' e' (aS A 10) = some a) (re : REc A (G 0) 0 false x a μ) (o1 : ∀ k, k < aS A 9 → G 1 k + 1 < a) (o2 : ∀ j, j < aS A 10 → G 2 j + 1 < a) (o4 : ∀ e, e < aS A 14 → G 4 e ≠ a + 1) : HR b z (zS (zL A (aS A 10) x) 10 (aS A 10 + 1)) m (up1 G 2 (up1 (G 2) (aS A 10) a)) (up1 ar 2 e') s μ' := by
  have hs := gg.ne (i := 2) hC (by decide) w (he.elim (fun c => Or.inl (by rw [c.1]; exact (h.1 2 (by decide)).2.1)) Or.inr)
  have ho := h.lists hC (i := 2) (by decide) w gg he
  have k20 := hC.fk (o := 20) (by decide) (by decide)
  have lar : ∀ i, i < 4 → ar i < mN μ := fun i hi => w.lt (by rw [(h.1 i hi).2.1]; decide)
  obtain ⟨h1, h2, h3, h4, h5, h6, h7, h8, h9⟩ := h
  have n20 : mR μ' (b + 20) 3 = mR μ (b + 20) 3 := by
    obtain ⟨g1, g2, g3, g4, -⟩ := gg
    rw [g4 _ (w.lt (fxK_0 k20)) (by omega) (fun q => ?_)]
    rcases he with c | c
    · rw [q, c.1, (h1 2 (by decide)).2.1] at k20; cases k20
    · have := w.lt (fxK_0 k20)
      omega
  have G0 : ∀ i, i ≠ 2 → up1 G 2 (up1 (G 2) (aS A 10) a) i = G i := fun i c => up1_ne _ _ c
  have G1 : up1 G 2 (up1 (G 2) (aS A 10) a) 2 = up1 (G 2) (aS A 10) a := up1_eq _ _ _
  obtain ⟨E, hE⟩ : ∃ E, E = zS (zL A (aS A 10) x) 10 (aS A 10 + 1) := ⟨_, rfl⟩
  have E9 : aS E 10 = aS A 10 + 1 := by rw [hE]; exact zS_at _ _ _
  have En : ∀ i, i ≠ 10 → aS E i = aS A i := fun i hi => by rw [hE, zS_ne _ _ hi]; rfl
  have hP : SamP A E := by rw [hE]; exact ⟨fun _ _ _ => rfl, rfl⟩
  have EB : ∀ k, aL E k = if k = aS A 10 then x else aL A k := fun k => by
    rw [hE]
    show up1 (aL A) (aS A 10) x k = _
    rw [up1_if]
  have EL : aB E = aB A := by rw [hE]; rfl
  have ET : aT E = aT A := by rw [hE]; rfl
  have EN' : aN E = aN A := by rw [hE]; rfl
  have EV : aV E = aV A := by rw [hE]; rfl
  rw [← hE]
  refine ⟨fun i hi => ?_, fun i j hi hj hij => ?_, fun p hp => ?_, fun k hk => ?_, fun k hk => ?_, ?_, fun e2 he2 => ?_, by rw [n20]; exact h8, by rw [ET]; exact h9.same hs⟩
  · by_cases e3 : i = 2
    · subst e3
      have n3 : nLs E 2 = aS A 10 + 1 := E9
      rw [n3, G1, up1_eq]
      refine ⟨l1, l2, l3, l4, fun q0 => by omega, fun k hk => ?_⟩
      by_cases ek : k = aS A 10
      · rw [ek, up1_eq]
        exact l6
      · rw [up1_ne _ _ ek, l5 k (by omega)]
        exact (h1 2 (by decide)).2.2.2.2.2 k (show k < aS A 10 by omega)
    · have en : nLs E i = nLs A i := by
        have : i = 0 ∨ i = 1 ∨ i = 3 := by omega
        rcases this with rfl | rfl | rfl
        · exact En 15 (by decide)
        · exact En 9 (by decide)
        · exact En 14 (by decide)
      rw [en, G0 i e3, up1_ne _ _ e3]
      exact ho i hi e3
  · by_cases ei : i = 2
    · subst ei
      rw [up1_eq, up1_ne _ _ (fun c => hij c.symm)]
      intro c
      rcases he with d | d
      · exfalso
        exact d.2 (by rw [d.1]; exact h2 2 j (by decide) hj hij (by rw [← d.1, c]))
      · have := lar j hj
        omega
    · rw [up1_ne _ _ ei]
      by_cases ej : j = 2
      · subst ej
        rw [up1_eq]
        intro c
        rcases he with d | d
        · exact h2 i 2 hi (by decide) hij (by rw [← d.1, c])
        · have := lar i hi
          omega
      · rw [up1_ne _ _ ej]
        exact h2 i j hi hj hij
  · rw [En 15 (by decide)] at hp
    rw [G0 0 (by decide)]
    have := (h3 p hp).same hs
    unfold INc at this ⊢
    rw [EN', EV]
    exact this
  · rw [En 9 (by decide)] at hk
    rw [G0 0 (by decide), G0 1 (by decide), EL]
    exact ((h4 k hk).same hs).cg hP (fun _ => rfl)
  · rw [E9] at hk
    rw [G0 0 (by decide), G1, EB]
    by_cases ek : k = aS A 10
    · rw [if_pos ek, ek, up1_eq]
      exact (re.same hs).cg hP (fun _ => rfl)
    · rw [if_neg ek, up1_ne _ _ ek]
      exact ((h5 k (by omega)).same hs).cg hP (fun _ => rfl)
  · unfold ORc at h6 ⊢
    rw [E9, En 9 (by decide), En 14 (by decide), G1, G0 1 (by decide), G0 4 (by decide)]
    refine ⟨h6.1, fun i k p1 p2 => ?_, fun i k p1 p2 => ?_, h6.2.2.2.1, fun e3 k p1 p2 => ?_⟩
    · by_cases ek : k = aS A 10
      · rw [ek, up1_eq, up1_ne _ _ (by omega)]
        exact o2 i (by omega)
      · rw [up1_ne _ _ ek, up1_ne _ _ (by omega)]
        exact h6.2.1 i k p1 (by omega)
    · by_cases ek : k = aS A 10
      · rw [ek, up1_eq]
        exact o1 i p1
      · rw [up1_ne _ _ ek]
        exact h6.2.2.1 i k p1 (by omega)
    · by_cases ek : k = aS A 10
      · rw [ek, up1_eq]
        exact o4 e3 p1
      · rw [up1_ne _ _ ek]
        exact h6.2.2.2.2 e3 k p1 (by omega)
  · rw [En 14 (by decide)] at he2
    rw [G0 3 (by decide), G0 4 (by decide)]
    have := (h7 e2 he2).same hs
    unfold ENc at this ⊢
    rw [EN', EV]
    exact this
theorem c_addL {a : Nat} {x : Ent} (h : FR b z A μ) (hh : HR b z A m G ar s μ) (w : WF μ) (n10 : aS A 10 ≤ 8) (re : REc A (G 0) 0 false x a μ) (o1 : ∀ k, k < aS A 9 → G 1 k + 1 < a) (o2 : ∀ j, j < aS A 10 → G 2 j + 1 < a) (o4 : ∀ e, e < aS A 14 → G 4 e ≠ a + 1) : ∃ ar' μ', f_Jx4a65c_add_9ea2d (b + 21) a μ = some (1, μ') ∧ FR b z (zS (zL A (aS A 10) x) 10 (aS A 10 + 1)) μ' ∧ HR b z (zS (zL A (aS A 10) x) 10 (aS A 10 + 1)) m (up1 G 2 (up1 (G 2) (aS A 10) a)) ar' s μ' ∧ CK 1 40 μ μ' ∧ mI μ' (b + 20) = mI μ (b + 20) := by
  have l3 := hh.1 2 (by decide)
  have n3 : nLs A 2 = aS A 10 := rfl
  have st := h.2.2.1
  obtain ⟨sc, sc3⟩ := st.2.2.2.1
  obtain ⟨μ4, e', e4, g4, r1, r2, r3, r3', r4, r5, v4, alt⟩ := c_add (a := a) w st.1 sc3 (ST.k0 st) h.k100.2.1 h.sz.2.2.1 (by omega) l3.1 l3.2.1 (by rw [← n3]; exact l3.2.2.1) l3.2.2.2.1 l3.2.2.2.2.1 hh.els2 (by rw [re.1]; decide)
  have mz : mL μ z = 0 := st.2.2.2.2.2.2
  have he : (e' = ar 2 ∧ e' ≠ z) ∨ e' = mN μ := by
    rcases alt with a | a
    · refine Or.inl ⟨a.1, fun q0 => ?_⟩
      have lz : z < mN μ := w.lt (by rw [st.2.2.2.2.2.1]; decide)
      have l := (g4.1 z lz).2.1
      rw [q0, l, mz] at r3
      omega
    · exact Or.inr a.1
  have he2 : mK μ e' = 26 ∨ e' = mN μ := he.elim (fun c => Or.inl (by rw [c.1]; exact l3.2.1)) Or.inr
  have t4 : RT cT b (zS A 10 (aS A 10 + 1)) μ4 := h.2.1.lf (i := 2) h.1 (by decide) w g4 v4
  have T : RT cT b (zS (zL A (aS A 10) x) 10 (aS A 10 + 1)) μ4 := t4
  have F4 : FR b z (zS (zL A (aS A 10) x) 10 (aS A 10 + 1)) μ4 := h.lf (i := 2) (by decide) w g4 he2 T (by
    exact (plS (zL A (aS A 10) x) (i := 10) (n := aS A 10 + 1) (by decide) (by decide)).trans (plA_congr (A := A) (B := zL A (aS A 10) x) ⟨fun _ _ _ => rfl, rfl⟩ rfl rfl rfl rfl (fun _ _ => rfl))) rfl (fun q => by
    rw [zS_ne _ _ (by decide)] at q
    exact ⟨q, zS_ne _ _ (by decide)⟩)
  exact ⟨_, μ4, e4, F4, hh.addL h.1 w g4 he r1 r2 r3 (by have := l3.2.2.2.1; omega) r4 r5 re o1 o2 o4, g4.ck (i := 2) h.1 (by decide) w he2 (by rcases alt with a | a <;> omega) (by rcases alt with a | a <;> omega), g4.2.1 (b + 20) (w.lt (fxK_0 (h.1.fk (o := 20) (by decide) (by decide)))) (by omega)⟩
/-- a new entry -/
theorem c_newEnt {p o g st c pl : Nat} {n : Int32} (w : WF μ) (kp : mK μ p = 107) (ip0 : mI μ p 0 = nI pl) (ip1 : mI μ p 1 = nI c) (ip5 : mI μ p 5 = n) (hc : c < 22) : ∃ μ', f_X3_init (mN μ) p (nI o) (nI g) st (nw μ 104 0 17) = some ((), μ') ∧ NF μ μ' ∧ mN μ' = mN μ + 2 ∧ mS μ' = mS μ + 22 ∧ mK μ' (mN μ) = 104 ∧ mK μ' (mN μ + 1) = 51 ∧ mL μ' (mN μ + 1) = 5 ∧ mR μ' (mN μ) 0 = some p ∧ mR μ' (mN μ) 3 = some st ∧ mR μ' (mN μ) 4 = some (mN μ + 1) ∧ (∀ k, k < 5 → mI μ' (mN μ + 1) k = -1) ∧ mI μ' (mN μ) 1 = nI o ∧ mI μ' (mN μ) 2 = nI g ∧ mI μ' (mN μ) 5 = 113 ∧ mI μ' (mN μ) 8 = -1 ∧ mI μ' (mN μ) 11 = -1 ∧ mI μ' (mN μ) 12 = 0 ∧ mI μ' (mN μ) 13 = 0 ∧ mI μ' (mN μ) 14 = goV c pl 0 0 n ∧ mI μ' (mN μ) 15 = 0 ∧ mI μ' (mN μ) 16 = -1 := by
  have pN : p < mN μ := w.lt (by rw [kp]; decide)
  obtain ⟨N, hN⟩ : ∃ N, N = mN μ := ⟨_, rfl⟩
  obtain ⟨μ1, m1⟩ : ∃ μ1, μ1 = nw μ 104 0 17 := ⟨_, rfl⟩
  have g1 : NF μ μ1 := by rw [m1]; exact NF.new
  have N1 : mN μ1 = N + 1 := by rw [m1, hN]; rfl
  have S1 : mS μ1 = mS μ + 17 := by rw [m1]; rfl
  obtain ⟨μ2, e2, g2, N2, S2, K2, L2, I2⟩ := c_newLife (μ := μ1)
  rw [N1] at e2 N2 K2 L2 I2
  have k1 : mK μ1 N = 104 := by rw [m1, hN]; exact nwKa _ _ _ _
  have k2 : mK μ2 N = 104 := by rw [(g2.2.2 N (by omega)).1]; exact k1
  obtain ⟨q1, -, q3, -, -⟩ := g1.2.2 p pN
  obtain ⟨p1, -, p3, -, -⟩ := g2.2.2 p (by omega)
  have nN : p ≠ N := by omega
  obtain ⟨μ5, m5⟩ : ∃ μ5, μ5 = sR (sI (sI (sR (sI (sI (sI (sI (sI (sI (sI (sI (sI (sI (sI (sR μ2 N 4 (some (N + 1))) N 5 113) N 6 (-1)) N 7 (-1)) N 8 (-1)) N 9 (-1)) N 10 (-1)) N 11 (-1)) N 12 0) N 13 0) N 15 0) N 16 (-1)) N 0 (some p)) N 1 (nI o)) N 2 (nI g)) N 3 (some st) := ⟨_, rfl⟩
  have pi : mI μ5 p = mI μ p := by
    rw [m5]
    simp only [mI_sR', mI_row _ _ nN]
    exact p3.trans q3
  have pk : mK μ5 p = 107 := by
    rw [m5]
    exact p1.trans (q1.trans kp)
  have go := c_goesBy (μ := μ5) (a := p) (c := c) (p := pl) (x := 0) (y := 0) (n := n) pk (by rw [pi]; exact ip0) (by rw [pi]; exact ip1) (by rw [pi]; exact ip5) hc
  have nf : NF μ (sI μ5 N 14 (goV c pl 0 0 n)) := by
    have gg := g1.trans g2
    have le : mN μ ≤ N := by omega
    rw [m5]
    exact NF.putI (N := 0) (NF.putR (NF.putI (N := 0) (NF.putI (N := 0) (NF.putR (NF.putI (N := 0) (NF.putI (N := 0) (NF.putI (N := 0) (NF.putI (N := 0) (NF.putI (N := 0) (NF.putI (N := 0) (NF.putI (N := 0) (NF.putI (N := 0) (NF.putI (N := 0) (NF.putI (N := 0) (NF.putI (N := 0) (NF.putR gg le) le) le) le) le) le) le) le) le) le) le) le) le) le) le) le) le
  have EN : mI (sI μ5 N 14 (goV c pl 0 0 n)) N = up1 (up1 (up1 (up1 (up1 (up1 (up1 (up1 (up1 (up1 (up1 (up1 (up1 (up1 (mI μ2 N) 5 113) 6 (-1)) 7 (-1)) 8 (-1)) 9 (-1)) 10 (-1)) 11 (-1)) 12 0) 13 0) 15 0) 16 (-1)) 1 (nI o)) 2 (nI g)) 14 (goV c pl 0 0 n) := by
    rw [m5]
    funext k
    simp only [mI_up, mI_sR']
  have EL : mI (sI μ5 N 14 (goV c pl 0 0 n)) (N + 1) = mI μ2 (N + 1) := by
    have n1 : N + 1 ≠ N := by omega
    rw [m5]
    simp only [mI_sR', mI_row _ _ n1]
  rw [← hN]
  refine ⟨sI μ5 N 14 (goV c pl 0 0 n), ?_, nf, ?_, ?_, ?_, ?_, ?_, ?_, ?_, ?_, fun k hk => by rw [EL]; exact I2 k hk, by rw [EN]; rfl, by rw [EN]; rfl, by rw [EN]; rfl, by rw [EN]; rfl, by rw [EN]; rfl, by rw [EN]; rfl, by rw [EN]; rfl, by rw [EN]; rfl, by rw [EN]; rfl, by rw [EN]; rfl⟩
  · have e2' : f_X10_newLife μ1 = some (N + 1, μ2) := e2
    have km : ∀ {ν : Mm}, mK ν = mK μ2 → mK ν N = 104 := fun {ν} y => by rw [y]; exact k2
    rw [← m1]
    simp only [f_X3_init, cl_t e2', k2, ckT, zlS, ← m5, pk, go, bdS]
  · rw [m5]; show mN μ2 = _; omega
  · rw [m5]; show mS μ2 = _; omega
  · rw [m5]; exact k2
  · rw [m5]; exact K2
  · rw [m5]; exact L2
  · rw [m5, mR_sI', mR_ne _ _ (Or.inr (by decide)), mR_sI', mR_sI', mR_at]
  · rw [m5, mR_sI', mR_at]
  · rw [m5, mR_sI', mR_ne _ _ (Or.inr (by decide)), mR_sI', mR_sI', mR_ne _ _ (Or.inr (by decide))]
    simp only [mR_sI', mR_at]
end CFV
