/-! THE CLASS: one more in the buffer; what renaming gives -/
section CRO
variable {b z e sl : Nat} {m m' : Nat → Nat} {A A' B C D : Sx} {P : Pm} {G : Nat → Nat → Nat} {ar : Nat → Nat} {s : Nat} {μ μ' μ2 : Mm} {S : Nat → Nat → Bool}
theorem HR.addB {a e' : Nat} {x : Ent} (h : HR b z A m G ar s μ) (hC : SC b μ) (w : WF μ) (gg : LF (b + 25) e' μ μ') (he : (e' = ar 1 ∧ e' ≠ z) ∨ e' = mN μ) (l1 : mR μ' (b + 25) 1 = some e') (l2 : mK μ' e' = 26) (l3 : aS A 9 + 1 ≤ mL μ' e') (l4 : mL μ' e' < 50000) (l5 : ∀ i, i < aS A 9 → mR μ' e' i = mR μ (ar 1) i) (l6 : mR μ' e' (aS A 9) = some a) (re : REc A (G 0) (m (aS A 9)) true x a μ) (o1 : ∀ k, k < aS A 9 → G 1 k + 1 < a) (o2 : ∀ j, j < aS A 10 → a + 1 < G 2 j) (o4 : ∀ e, e < aS A 14 → G 4 e ≠ a + 1) : HR b z (zS (zB A (aS A 9) x) 9 (aS A 9 + 1)) m (up1 G 1 (up1 (G 1) (aS A 9) a)) (up1 ar 1 e') s μ' := by
  have hs := gg.ne (i := 1) hC (by decide) w (he.elim (fun c => Or.inl (by rw [c.1]; exact (h.1 1 (by decide)).2.1)) Or.inr)
  have ho := h.lists hC (i := 1) (by decide) w gg he
  have k20 := hC.fk (o := 20) (by decide) (by decide)
  have lar : ∀ i, i < 4 → ar i < mN μ := fun i hi => w.lt (by rw [(h.1 i hi).2.1]; decide)
  obtain ⟨h1, h2, h3, h4, h5, h6, h7, h8, h9⟩ := h
  have n20 : mR μ' (b + 20) 3 = mR μ (b + 20) 3 := by
    obtain ⟨g1, g2, g3, g4, -⟩ := gg
    rw [g4 _ (w.lt (fxK_0 k20)) (by omega) (fun q => ?_)]
    rcases he with c | c
    · rw [q, c.1, (h1 1 (by decide)).2.1] at k20; cases k20
    · have := w.lt (fxK_0 k20)
      omega
  have G0 : ∀ i, i ≠ 1 → up1 G 1 (up1 (G 1) (aS A 9) a) i = G i := fun i c => up1_ne _ _ c
  have G1 : up1 G 1 (up1 (G 1) (aS A 9) a) 1 = up1 (G 1) (aS A 9) a := up1_eq _ _ _
  obtain ⟨E, hE⟩ : ∃ E, E = zS (zB A (aS A 9) x) 9 (aS A 9 + 1) := ⟨_, rfl⟩
  have E9 : aS E 9 = aS A 9 + 1 := by rw [hE]; exact zS_at _ _ _
  have En : ∀ i, i ≠ 9 → aS E i = aS A i := fun i hi => by rw [hE, zS_ne _ _ hi]; rfl
  have hP : SamP A E := by rw [hE]; exact ⟨fun _ _ _ => rfl, rfl⟩
  have EB : ∀ k, aB E k = if k = aS A 9 then x else aB A k := fun k => by
    rw [hE]
    show up1 (aB A) (aS A 9) x k = _
    rw [up1_if]
  have EL : aL E = aL A := by rw [hE]; rfl
  have ET : aT E = aT A := by rw [hE]; rfl
  have EN' : aN E = aN A := by rw [hE]; rfl
  have EV : aV E = aV A := by rw [hE]; rfl
  rw [← hE]
  refine ⟨fun i hi => ?_, fun i j hi hj hij => ?_, fun p hp => ?_, fun k hk => ?_, fun j hj => ?_, ?_, fun e2 he2 => ?_, by rw [n20]; exact h8, by rw [ET]; exact h9.same hs⟩
  · by_cases e3 : i = 1
    · subst e3
      have n3 : nLs E 1 = aS A 9 + 1 := E9
      rw [n3, G1, up1_eq]
      refine ⟨l1, l2, l3, l4, fun q0 => by omega, fun k hk => ?_⟩
      by_cases ek : k = aS A 9
      · rw [ek, up1_eq]
        exact l6
      · rw [up1_ne _ _ ek, l5 k (by omega)]
        exact (h1 1 (by decide)).2.2.2.2.2 k (show k < aS A 9 by omega)
    · have en : nLs E i = nLs A i := by
        have : i = 0 ∨ i = 2 ∨ i = 3 := by omega
        rcases this with rfl | rfl | rfl
        · exact En 15 (by decide)
        · exact En 10 (by decide)
        · exact En 14 (by decide)
      rw [en, G0 i e3, up1_ne _ _ e3]
      exact ho i hi e3
  · by_cases ei : i = 1
    · subst ei
      rw [up1_eq, up1_ne _ _ (fun c => hij c.symm)]
      intro c
      rcases he with d | d
      · exfalso
        exact d.2 (by rw [d.1]; exact h2 1 j (by decide) hj hij (by rw [← d.1, c]))
      · have := lar j hj
        omega
    · rw [up1_ne _ _ ei]
      by_cases ej : j = 1
      · subst ej
        rw [up1_eq]
        intro c
        rcases he with d | d
        · exact h2 i 1 hi (by decide) hij (by rw [← d.1, c])
        · have := lar i hi
          omega
      · rw [up1_ne _ _ ej]
        exact h2 i j hi hj hij
  · rw [En 15 (by decide)] at hp
    rw [G0 0 (by decide)]
    have := (h3 p hp).same hs
    unfold INc at this ⊢
    rw [EN', EV]
    exact this
  · rw [E9] at hk
    rw [G0 0 (by decide), G1, EB]
    by_cases ek : k = aS A 9
    · rw [if_pos ek, ek, up1_eq]
      exact (re.same hs).cg hP (fun _ => rfl)
    · rw [if_neg ek, up1_ne _ _ ek]
      exact ((h4 k (by omega)).same hs).cg hP (fun _ => rfl)
  · rw [En 10 (by decide)] at hj
    rw [G0 0 (by decide), G0 2 (by decide), EL]
    exact ((h5 j hj).same hs).cg hP (fun _ => rfl)
  · unfold ORc at h6 ⊢
    rw [E9, En 10 (by decide), En 14 (by decide), G1, G0 2 (by decide), G0 4 (by decide)]
    refine ⟨fun i k p1 p2 => ?_, h6.2.1, fun k j p1 p2 => ?_, fun e3 k p1 p2 p3 => ?_, h6.2.2.2.2⟩
    · by_cases ek : k = aS A 9
      · rw [ek, up1_eq, up1_ne _ _ (by omega)]
        exact o1 i (by omega)
      · rw [up1_ne _ _ ek, up1_ne _ _ (by omega)]
        exact h6.1 i k p1 (by omega)
    · by_cases ek : k = aS A 9
      · rw [ek, up1_eq]
        exact o2 j p2
      · rw [up1_ne _ _ ek]
        exact h6.2.2.1 k j (by omega) p2
    · by_cases ek : k = aS A 9
      · rw [ek, up1_eq]
        exact o4 e3 p1
      · rw [up1_ne _ _ ek]
        exact h6.2.2.2.1 e3 k p1 (by omega) p3
  · rw [En 14 (by decide)] at he2
    rw [G0 3 (by decide), G0 4 (by decide)]
    have := (h7 e2 he2).same hs
    unfold ENc at this ⊢
    rw [EN', EV]
    exact this
theorem c_addB {a : Nat} {x : Ent} (h : FR b z A μ) (hh : HR b z A m G ar s μ) (w : WF μ) (n9 : aS A 9 ≤ 16) (re : REc A (G 0) (m (aS A 9)) true x a μ) (o1 : ∀ k, k < aS A 9 → G 1 k + 1 < a) (o2 : ∀ j, j < aS A 10 → a + 1 < G 2 j) (o4 : ∀ e, e < aS A 14 → G 4 e ≠ a + 1) : ∃ ar' μ', f_Jx4a65c_add_9ea2d (b + 25) a μ = some (1, μ') ∧ FR b z (zS (zB A (aS A 9) x) 9 (aS A 9 + 1)) μ' ∧ HR b z (zS (zB A (aS A 9) x) 9 (aS A 9 + 1)) m (up1 G 1 (up1 (G 1) (aS A 9) a)) ar' s μ' ∧ CK 1 40 μ μ' := by
  have l3 := hh.1 1 (by decide)
  have n3 : nLs A 1 = aS A 9 := rfl
  have st := h.2.2.1
  obtain ⟨sc, sc3⟩ := st.2.2.2.1
  obtain ⟨μ4, e', e4, g4, r1, r2, r3, r3', r4, r5, v4, alt⟩ := c_add (a := a) w st.1 sc3 (ST.k0 st) h.k100.2.2.1 h.sz.2.1 (by omega) l3.1 l3.2.1 (by rw [← n3]; exact l3.2.2.1) l3.2.2.2.1 l3.2.2.2.2.1 hh.els1 (by rw [re.1]; decide)
  have mz : mL μ z = 0 := st.2.2.2.2.2.2
  have he : (e' = ar 1 ∧ e' ≠ z) ∨ e' = mN μ := by
    rcases alt with a | a
    · refine Or.inl ⟨a.1, fun q0 => ?_⟩
      have lz : z < mN μ := w.lt (by rw [st.2.2.2.2.2.1]; decide)
      have l := (g4.1 z lz).2.1
      rw [q0, l, mz] at r3
      omega
    · exact Or.inr a.1
  have he2 : mK μ e' = 26 ∨ e' = mN μ := he.elim (fun c => Or.inl (by rw [c.1]; exact l3.2.1)) Or.inr
  have t4 : RT cT b (zS A 9 (aS A 9 + 1)) μ4 := h.2.1.lf (i := 1) h.1 (by decide) w g4 v4
  have T : RT cT b (zS (zB A (aS A 9) x) 9 (aS A 9 + 1)) μ4 := t4
  have F4 : FR b z (zS (zB A (aS A 9) x) 9 (aS A 9 + 1)) μ4 := h.lf (i := 1) (by decide) w g4 he2 T (by
    exact (plS (zB A (aS A 9) x) (i := 9) (n := aS A 9 + 1) (by decide) (by decide)).trans (plA_congr (A := A) (B := zB A (aS A 9) x) ⟨fun _ _ _ => rfl, rfl⟩ rfl rfl rfl rfl (fun _ _ => rfl))) rfl (fun q => by
    rw [zS_ne _ _ (by decide)] at q
    exact ⟨q, zS_ne _ _ (by decide)⟩)
  exact ⟨_, μ4, e4, F4, hh.addB h.1 w g4 he r1 r2 r3 (by have := l3.2.2.2.1; omega) r4 r5 re o1 o2 o4, g4.ck (i := 1) h.1 (by decide) w he2 (by rcases alt with a | a <;> omega) (by rcases alt with a | a <;> omega)⟩
/-- a number of a fixed row -/
theorem c_putN {q j n : Nat} (h : FR b z A μ) (hh : HR b z A m G ar s μ) (hq : q < 8) (hj : j < nLen q) : FR b z (zN A q j n) (sI μ (b + cT.2.1 q) j (nI n)) ∧ HR b z (zN A q j n) m G ar s (sI μ (b + cT.2.1 q) j (nI n)) ∧ CK 0 0 μ (sI μ (b + cT.2.1 q) j (nI n)) ∧ H2 μ (sI μ (b + cT.2.1 q) j (nI n)) := by
  have T := h.2.1.putN cT_ok (q := q) (j := j) hq hj n
  have k1 : ∀ q, q < 8 → cT.2.1 q < 30 ∧ cT.2.1 q ≠ 24 ∧ ¬ (cT.2.1 q = 6 ∨ cT.2.1 q = 7 ∨ cT.2.1 q = 8 ∨ cT.2.1 q = 18 ∨ cT.2.1 q = 19) ∧ cT.2.1 q ≠ 15 ∧ cT.2.1 q ≠ 20 := by decide +kernel
  have kk := k1 q hq
  exact c_step (S := fun o' k' => o' == cT.2.1 q) h hh T (CH.put (by simp)) (fun o' k' zz => by
    simp only [beq_iff_eq] at zz
    rw [zz]
    exact ⟨kk.1, kk.2.1, kk.2.2.1, fun w => kk.2.2.2.1 w.1, fun w => kk.2.2.2.2 w.1⟩) ⟨fun r _ _ => zN_ne _ _ _ (by omega), rfl⟩ (fun _ _ => rfl) rfl rfl rfl rfl (fun r hr => zN_ne _ _ _ (by omega)) (fun _ _ => rfl)
/-- the first free inner register is taken -/
def tkN (A : Sx) (i : Nat) : Sx := zNr A 3 (fun k => if k < i then aN A 3 (k + 1) else aN A 3 k)
theorem c_tkL {v : Int32} {n : Nat} (hn : n < 24) : ∀ (r i fu : Nat) (μ : Mm), i + r = n → r < fu → SC b μ → RT cT b (zS (tkN A i) 7 n) μ → ∃ μ', f_X5_takeFirst_b19 fu (b + 9) v (nI i) μ = some (v, μ') ∧ RT cT b (zS (tkN A n) 7 n) μ' ∧ CH b (fun o _ => o == 14) μ μ'
  | 0, i, fu, μ, hi, hf, S, T => by
    obtain ⟨fu, rfl⟩ : ∃ n, fu = n + 1 := ⟨fu - 1, by omega⟩
    have k0 := S
    unfold SC at k0
    have i95 : mI μ (b + 9) 5 = nI n := by
      have := T.1 7 rfl
      rw [zS_at] at this
      exact this
    have c1 : nI n ≤ nI i := nI_le (by omega) (by omega)
    have e : i = n := by omega
    rw [e] at T c1 ⊢
    exact ⟨μ, by simp only [f_X5_takeFirst_b19, k0, ckT, i95, c1, if_true], T, CH.refl0⟩
  | r + 1, i, fu, μ, hi, hf, S, T => by
    obtain ⟨fu, rfl⟩ : ∃ n, fu = n + 1 := ⟨fu - 1, by omega⟩
    have k0 := S
    unfold SC at k0
    have i95 : mI μ (b + 9) 5 = nI n := by
      have := T.1 7 rfl
      rw [zS_at] at this
      exact this
    have c1 : ¬ nI n ≤ nI i := nI_ge (by omega) (by omega)
    have rd : mI μ (b + 14) (i + 1) = nI (aN A 3 (i + 1)) := by
      have : mI μ (b + 14) (i + 1) = nI (if i + 1 < i then aN A 3 (i + 1 + 1) else aN A 3 (i + 1)) := T.2.1 3 (i + 1) (by omega) (show i + 1 < 24 by omega)
      rw [this, if_neg (by omega)]
    obtain ⟨μ1, m1⟩ : ∃ μ1, μ1 = sI μ (b + 14) i (nI (aN A 3 (i + 1))) := ⟨_, rfl⟩
    have g1 : CH b (fun o _ => o == 14) μ μ1 := by rw [m1]; exact CH.put rfl
    have T1 : RT cT b (zS (tkN A (i + 1)) 7 n) μ1 := by
      have := T.putN cT_ok (q := 3) (j := i) (by omega) (show i < 24 by omega) (aN A 3 (i + 1))
      rw [m1]
      refine RT.cg this (fun _ _ => rfl) (fun q k hq _ => ?_) (fun _ _ _ _ => rfl)
      by_cases e : q = 3
      · subst e
        show (if k < i + 1 then aN A 3 (k + 1) else aN A 3 k) = up1 (fun k => if k < i then aN A 3 (k + 1) else aN A 3 k) i (aN A 3 (i + 1)) k
        rw [up1_if]
        by_cases ek : k = i
        · rw [if_pos ek, ek, if_pos (by omega)]
        · rw [if_neg ek]
          by_cases lk : k < i
          · rw [if_pos (by omega), if_pos lk]
          · rw [if_neg (by omega), if_neg lk]
      · rw [zN_ne _ _ _ e]
        show aN (zNr A 3 _) q k = aN (zNr A 3 _) q k
        have n3 : ∀ f, aN (zNr A 3 f) q = aN A q := fun f => up1_ne _ _ e
        rw [n3, n3]
    obtain ⟨μ', e, T2, g2⟩ := c_tkL hn r (i + 1) fu μ1 (by omega) (by omega) (S.cg g1.1 g1.2.1 g1.2.2.1) T1
    refine ⟨μ', ?_, T2, g1.trans g2⟩
    have ib := inbN (p := i) (n := 24) (by omega) (by omega)
    have ib1 := inbN (p := i + 1) (n := 24) (by omega) (by omega)
    have cl := clN (show i < 100000 by omega)
    have cl1 := clN (show i + 1 < 100000 by omega)
    simp only [f_X5_takeFirst_b19, k0, ckT, i95, c1, if_false, bdS, ckA, nI_1, ck_t ib1, ck_t ib, cl, cl1, rd, zlS, ← m1]
    exact e
theorem c_takeF (h : FR b z A μ) (hh : HR b z A m G ar s μ) (h7 : 0 < aS A 7) (h24 : aS A 7 ≤ 24) : ∃ μ', f_X5_takeFirst (b + 9) μ = some (nI (aN A 3 0), μ') ∧ FR b z (zS (tkN A (aS A 7 - 1)) 7 (aS A 7 - 1)) μ' ∧ HR b z (zS (tkN A (aS A 7 - 1)) 7 (aS A 7 - 1)) m G ar s μ' ∧ CK 0 0 μ μ' ∧ H2 μ μ' ∧ mK μ' = mK μ ∧ mL μ' = mL μ ∧ mR μ' = mR μ := by
  have k0 := h.1
  unfold SC at k0
  have i95 : mI μ (b + 9) 5 = nI (aS A 7) := h.2.1.1 7 rfl
  have r0 : mI μ (b + 14) 0 = nI (aN A 3 0) := h.2.1.2.1 3 0 (by omega) (show 0 < 24 by omega)
  obtain ⟨n, hn⟩ : ∃ n, aS A 7 = n + 1 := ⟨aS A 7 - 1, by omega⟩
  rw [hn] at i95
  have e1 : aS A 7 - 1 = n := by omega
  rw [e1]
  have sb : nI (n + 1) - 1 = nI n := by
    rw [← nI_1 n, Int32.sub_eq_add_neg, Int32.add_assoc]
    exact Int32.add_zero _
  obtain ⟨μ1, m1⟩ : ∃ μ1, μ1 = sI μ (b + 9) 5 (nI n) := ⟨_, rfl⟩
  have T1 : RT cT b (zS (tkN A 0) 7 n) μ1 := by
    have := h.2.1.putS cT_ok (i := 7) rfl n
    rw [m1]
    refine RT.cg this (fun _ _ => rfl) (fun q k hq _ => ?_) (fun _ _ _ _ => rfl)
    by_cases e : q = 3
    · subst e
      show (if k < 0 then aN A 3 (k + 1) else aN A 3 k) = aN A 3 k
      rw [if_neg (by omega)]
    · show aN (zNr A 3 _) q k = aN A q k
      have n3 : ∀ f, aN (zNr A 3 f) q = aN A q := fun f => up1_ne _ _ e
      rw [n3]
  have g1 : CH b (fun o k => o == 14 || (o == 9 && k == 5)) μ μ1 := by rw [m1]; exact CH.put rfl
  obtain ⟨μ', e, T, g2⟩ := c_tkL (A := A) (v := nI (aN A 3 0)) (n := n) (by omega) n 0 5000 μ1 (Nat.zero_add _) (by omega) (h.1.cg g1.1 g1.2.1 g1.2.2.1) T1
  have gg : CH b (fun o k => o == 14 || (o == 9 && k == 5)) μ μ' := g1.trans (g2.mono (fun o k zz => by simp only [beq_iff_eq] at zz; simp [zz]))
  have t3 : ∀ q, q ≠ 3 → aN (zS (tkN A n) 7 n) q = aN A q := fun q hq => up1_ne _ _ hq
  obtain ⟨F, H, c, x⟩ := c_step h hh T gg (fun o k zz => by
    simp only [Bool.or_eq_true, Bool.and_eq_true, beq_iff_eq] at zz
    unfold okS
    omega) ⟨fun r a d => t3 r (by omega), rfl⟩ (fun i hi => by rw [zS_ne _ _ (by omega)]; rfl) rfl rfl rfl rfl (fun r hr => t3 r (by omega)) (fun _ _ => rfl)
  refine ⟨μ', ?_, F, H, c, x, gg.1, gg.2.1, gg.2.2.1⟩
  have i0 : inb 0 24 := by decide
  have cl0 : Int32.toNatClampNeg 0 = 0 := by decide
  have e' : f_X5_takeFirst_b19 5000 (b + 9) (nI (aN A 3 0)) 0 μ1 = some (nI (aN A 3 0), μ') := e
  simp only [f_X5_takeFirst, k0, ckT, bdS, ckA, ck_t i0, cl0, i95, sb, r0, zlS, ← m1, e']
end CRO
