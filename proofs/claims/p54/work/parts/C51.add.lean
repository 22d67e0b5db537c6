/-! the class: an instruction is told -/
section CAD
variable {b z e sl : Nat} {m m' : Nat → Nat} {A A' B C D : Sx} {P : Pm} {G : Nat → Nat → Nat} {ar : Nat → Nat} {s : Nat} {μ μ' μ2 : Mm} {S : Nat → Nat → Bool}
def okC (x1 x2 x3 x4 x5 : Int32) : Bool := (!decide (x1 < 0) && decide (x1 ≤ 21)) && rok x2 && rok x3 && rok x4 && (!(!decide (x1 < 12) && decide (x1 ≤ 15)) || adok x5)
def kAdd (A : Sx) (ok : Bool) : Nat := if ok = false then 1 else if aS A 0 = 0 ∧ aS A 15 < 64 then 0 else 2
theorem c_addG {x1 x2 x3 x4 x5 : Int32} : f_X10_add b x1 x2 x3 x4 x5 μ = if okC x1 x2 x3 x4 x5 = true then f_X10_add_b72 b x1 x2 x3 x4 x5 μ else f_X10_add_b64 μ := by
  have key : ∀ (p : Bool), f_X10_add_b17 b x1 x2 x3 x4 x5 (bI p) μ = if ((!decide (x1 < 0) && decide (x1 ≤ 21)) && rok x2 && rok x3 && rok x4 && (!p || adok x5)) = true then f_X10_add_b72 b x1 x2 x3 x4 x5 μ else f_X10_add_b64 μ := by
    intro p
    unfold f_X10_add_b17
    rw [c_isReg, c_isReg, c_isReg, c_isPl]
    by_cases h1 : x1 < 0
    · rw [if_pos h1, decide_eq_true h1]
      rfl
    rw [if_neg h1, decide_eq_false h1]
    by_cases h2 : 21 < x1
    · rw [if_pos h2, decide_eq_false (Int32.not_le.mpr h2)]
      rfl
    rw [if_neg h2, decide_eq_true (Int32.not_lt.mp h2)]
    cases rok x2 <;> cases rok x3 <;> cases rok x4 <;> cases p <;> cases adok x5 <;> rfl
  unfold f_X10_add f_X10_add_b16 okC
  by_cases h1 : x1 < 12
  · rw [if_pos h1, decide_eq_true h1]
    exact key false
  rw [if_neg h1, decide_eq_false h1]
  by_cases h2 : 15 < x1
  · rw [if_pos h2, decide_eq_false (Int32.not_le.mpr h2)]
    exact key false
  rw [if_neg h2, decide_eq_true (Int32.not_lt.mp h2)]
  exact key true
theorem okC_e {x1 x2 x3 x4 x5 : Int32} (h : okC x1 x2 x3 x4 x5 = true) : (x1 = nI x1.toNatClampNeg ∧ x1.toNatClampNeg ≤ 21) ∧ (x2 = nI x2.toNatClampNeg ∧ x2.toNatClampNeg < 8) ∧ (x3 = nI x3.toNatClampNeg ∧ x3.toNatClampNeg < 8) ∧ (x4 = nI x4.toNatClampNeg ∧ x4.toNatClampNeg < 8) ∧ (12 ≤ x1.toNatClampNeg → x1.toNatClampNeg ≤ 15 → adok x5 = true) := by
  unfold okC at h
  simp only [Bool.and_eq_true, Bool.or_eq_true, Bool.not_eq_true'] at h
  obtain ⟨⟨⟨⟨⟨h1, h2⟩, r2⟩, r3⟩, r4⟩, h5⟩ := h
  simp only [decide_eq_false_iff_not, decide_eq_true_eq] at h1 h2
  obtain ⟨n, -, n2, e⟩ := i32r (lo := 0) (hi := 21) (by omega) (by omega) h1 h2
  have en : x1.toNatClampNeg = n := by rw [e]; exact clN (by omega)
  refine ⟨by rw [en]; exact ⟨e, n2⟩, rok_e r2, rok_e r3, rok_e r4, fun l1 l2 => ?_⟩
  rcases h5 with h5 | h5
  · exfalso
    rw [en] at l1 l2
    have c1 : ¬ x1 < 12 := by rw [e]; exact nI_nlt (b := 12) l1 (by omega)
    have c2 : x1 ≤ 15 := by rw [e]; exact nI_le (b := 15) l2 (by omega)
    rw [decide_eq_false c1, decide_eq_true c2] at h5
    cases h5
  · exact h5
theorem up2_oth {α : Type} {f : Nat → Nat → α} {a k r p : Nat} {v : α} (h : p ≠ k) : up2 f a k v r p = f r p := by
  rw [up2_if]
  split
  · rename_i e
    rw [up1_ne _ _ h, e]
  · rfl
theorem HR.addIn {a e' c d x y : Nat} {v : Int32} (h : HR b z A m G ar s μ) (hC : SC b μ) (w : WF μ) (gg : LF (b + 2) e' μ μ') (he : (e' = ar 0 ∧ e' ≠ z) ∨ e' = mN μ) (l1 : mR μ' (b + 2) 1 = some e') (l2 : mK μ' e' = 26) (l3 : aS A 15 + 1 ≤ mL μ' e') (l4 : mL μ' e' < 50000) (l5 : ∀ i, i < aS A 15 → mR μ' e' i = mR μ (ar 0) i) (l6 : mR μ' e' (aS A 15) = some a) (re : INc (addP A c d x y v) (aS A 15) a μ) (z9 : aS A 9 = 0) (z10 : aS A 10 = 0) (z14 : aS A 14 = 0) : HR b z (addP A c d x y v) m (up1 G 0 (up1 (G 0) (aS A 15) a)) (up1 ar 0 e') s μ' := by
  have hs := gg.ne (i := 0) hC (by decide) w (he.elim (fun c => Or.inl (by rw [c.1]; exact (h.1 0 (by decide)).2.1)) Or.inr)
  have ho := h.lists hC (i := 0) (by decide) w gg he
  have k20 := hC.fk (o := 20) (by decide) (by decide)
  have lar : ∀ i, i < 4 → ar i < mN μ := fun i hi => w.lt (by rw [(h.1 i hi).2.1]; decide)
  obtain ⟨h1, h2, h3, h4, h5, h6, h7, h8, h9⟩ := h
  have n20 : mR μ' (b + 20) 3 = mR μ (b + 20) 3 := by
    obtain ⟨g1, g2, g3, g4, -⟩ := gg
    rw [g4 _ (w.lt (fxK_0 k20)) (by omega) (fun q => ?_)]
    rcases he with c | c
    · rw [q, c.1, (h1 0 (by decide)).2.1] at k20; cases k20
    · have := w.lt (fxK_0 k20)
      omega
  have G0 : ∀ i, i ≠ 0 → up1 G 0 (up1 (G 0) (aS A 15) a) i = G i := fun i c => up1_ne _ _ c
  have G1 : up1 G 0 (up1 (G 0) (aS A 15) a) 0 = up1 (G 0) (aS A 15) a := up1_eq _ _ _
  have en4 : ∀ {r p : Nat}, p < aS A 15 → aN (addP A c d x y v) r p = aN A r p := fun {r p} hp => by
    have hn : p ≠ aS A 15 := by omega
    show up2 (up2 (up2 (up2 (aN A) 10 (aS A 15) c) 11 (aS A 15) d) 12 (aS A 15) x) 13 (aS A 15) y r p = _
    rw [up2_oth hn, up2_oth hn, up2_oth hn, up2_oth hn]
  have ev5 : ∀ {p : Nat}, p < aS A 15 → aV (addP A c d x y v) 5 p = aV A 5 p := fun {p} hp => by
    have hn : p ≠ aS A 15 := by omega
    show up2 (aV A) 5 (aS A 15) v 5 p = _
    rw [up2_eq, up1_ne _ _ hn]
  obtain ⟨E, hE⟩ : ∃ E, E = addP A c d x y v := ⟨_, rfl⟩
  have E15 : aS E 15 = aS A 15 + 1 := by rw [hE]; exact zS_at _ _ _
  have En : ∀ i, i ≠ 15 → aS E i = aS A i := fun i hi => by rw [hE]; exact zS_ne _ _ hi
  have ET : aT E = aT A := by rw [hE]; rfl
  rw [← hE] at re en4 ev5 ⊢
  refine ⟨fun i hi => ?_, fun i j hi hj hij => ?_, fun p hp => ?_, fun k hk => ?_, fun k hk => ?_, ?_, fun e2 he2 => ?_, by rw [n20]; exact h8, by rw [ET]; exact h9.same hs⟩
  · by_cases e3 : i = 0
    · subst e3
      have n3 : nLs E 0 = aS A 15 + 1 := E15
      rw [n3, G1, up1_eq]
      refine ⟨l1, l2, l3, l4, fun q0 => by omega, fun k hk => ?_⟩
      by_cases ek : k = aS A 15
      · rw [ek, up1_eq]
        exact l6
      · rw [up1_ne _ _ ek, l5 k (by omega)]
        exact (h1 0 (by decide)).2.2.2.2.2 k (show k < aS A 15 by omega)
    · have en : nLs E i = nLs A i := by
        have : i = 1 ∨ i = 2 ∨ i = 3 := by omega
        rcases this with rfl | rfl | rfl
        · exact En 9 (by decide)
        · exact En 10 (by decide)
        · exact En 14 (by decide)
      rw [en, G0 i e3, up1_ne _ _ e3]
      exact ho i hi e3
  · by_cases ei : i = 0
    · subst ei
      rw [up1_eq, up1_ne _ _ (fun c => hij c.symm)]
      intro c
      rcases he with d | d
      · exfalso
        exact d.2 (by rw [d.1]; exact h2 0 j (by decide) hj hij (by rw [← d.1, c]))
      · have := lar j hj
        omega
    · rw [up1_ne _ _ ei]
      by_cases ej : j = 0
      · subst ej
        rw [up1_eq]
        intro c
        rcases he with d | d
        · exact h2 i 0 hi (by decide) hij (by rw [← d.1, c])
        · have := lar i hi
          omega
      · rw [up1_ne _ _ ej]
        exact h2 i j hi hj hij
  · rw [E15] at hp
    rw [G1]
    by_cases ek : p = aS A 15
    · rw [ek, up1_eq]
      exact re.same hs
    · rw [up1_ne _ _ ek]
      have := (h3 p (by omega)).same hs
      unfold INc at this ⊢
      rw [en4 (by omega), en4 (by omega), en4 (by omega), en4 (by omega), ev5 (by omega)]
      exact this
  · rw [En 9 (by decide)] at hk
    omega
  · rw [En 10 (by decide)] at hk
    omega
  · unfold ORc
    rw [En 9 (by decide), En 10 (by decide), En 14 (by decide), z9, z10, z14]
    exact ⟨fun i k _ hk => by omega, fun i k _ hk => by omega, fun i k hi _ => by omega, fun i k hi _ => by omega, fun i k hi _ => by omega⟩
  · rw [En 14 (by decide)] at he2
    omega
theorem HR.els0 (h : HR b z A m G ar s μ) : ∀ i, i < aS A 15 → ∃ y, mR μ (ar 0) i = some y ∧ 100 ≤ mK μ y := fun i hi => ⟨G 0 i, (h.1 0 (by decide)).2.2.2.2.2 i hi, by rw [(h.2.2.1 i hi).1]; decide⟩
theorem c_addI {x1 x2 x3 x4 x5 : Int32} (h : FR b z A μ) (hh : HR b z A (fun _ => 0) G ar s μ) (w : WF μ) (h0 : aS A 0 ≤ 500) (h15 : aS A 15 ≤ 64) (z0 : aS A 0 = 0 → aS A 9 = 0 ∧ aS A 10 = 0 ∧ aS A 14 = 0) : ∃ (A' : Sx) (G' : Nat → Nat → Nat) (ar' : Nat → Nat) (μ' : Mm), A' = (if kAdd A (okC x1 x2 x3 x4 x5) = 0 then addP A x1.toNatClampNeg x2.toNatClampNeg x3.toNatClampNeg x4.toNatClampNeg x5 else A) ∧ f_X10_add b x1 x2 x3 x4 x5 μ = some (oc (kAdd A (okC x1 x2 x3 x4 x5)) (nI (aS A 15)), μ') ∧ FR b z A' μ' ∧ HR b z A' (fun _ => 0) G' ar' s μ' ∧ CK 2 200 μ μ' := by
  have k0 := h.1
  unfold SC at k0
  have i12 : mI μ (b + 1) 12 = nI (aS A 0) := h.2.1.1 0 rfl
  have sz := c_size h.k100.1 h.sz.1
  have no : ∀ kk, (kk = 1 ∨ kk = 2) → kAdd A (okC x1 x2 x3 x4 x5) = kk → f_X10_add b x1 x2 x3 x4 x5 μ = some (oc kk (nI (aS A 15)), bump μ 6) → ∃ (A' : Sx) (G' : Nat → Nat → Nat) (ar' : Nat → Nat) (μ' : Mm), A' = (if kAdd A (okC x1 x2 x3 x4 x5) = 0 then addP A x1.toNatClampNeg x2.toNatClampNeg x3.toNatClampNeg x4.toNatClampNeg x5 else A) ∧ f_X10_add b x1 x2 x3 x4 x5 μ = some (oc (kAdd A (okC x1 x2 x3 x4 x5)) (nI (aS A 15)), μ') ∧ FR b z A' μ' ∧ HR b z A' (fun _ => 0) G' ar' s μ' ∧ CK 2 200 μ μ' := fun kk h12 hk ee => by
    rw [hk]
    exact ⟨A, G, ar, bump μ 6, by rw [if_neg (by omega)], ee, h.bump, hh.bump, bump_ck.mono (by omega) (by omega)⟩
  cases ok : okC x1 x2 x3 x4 x5
  · rw [ok] at no
    refine no 1 (Or.inl rfl) rfl ?_
    rw [c_addG, ok]
    rfl
  · rw [ok] at no
    have run : f_X10_add b x1 x2 x3 x4 x5 μ = f_X10_add_b72 b x1 x2 x3 x4 x5 μ := by rw [c_addG, ok]; rfl
    rw [run] at no ⊢
    by_cases a0 : aS A 0 = 0
    · have c0 : ¬ (0 : Int32) < nI (aS A 0) := by rw [a0]; decide
      by_cases p64 : aS A 15 < 64
      · have c64 : nI (aS A 15) < 64 := nI_lt (b := 64) p64 (by omega)
        have hk : kAdd A true = 0 := by unfold kAdd; rw [if_neg (by decide), if_pos ⟨a0, p64⟩]
        rw [hk]
        obtain ⟨⟨e1, n1⟩, ⟨e2, n2⟩, ⟨e3, n3⟩, ⟨e4, n4⟩, -⟩ := okC_e ok
        obtain ⟨z9, z10, z14⟩ := z0 a0
        obtain ⟨N, hN⟩ : ∃ N, N = mN μ := ⟨_, rfl⟩
        obtain ⟨μ1, m1⟩ : ∃ μ1, μ1 = nw μ 107 0 6 := ⟨_, rfl⟩
        obtain ⟨μ2, m2⟩ : ∃ μ2, μ2 = sI (sI (sI (sI (sI (sI μ1 N 0 (nI (aS A 15))) N 1 x1) N 2 x2) N 3 x3) N 4 x4) N 5 x5 := ⟨_, rfl⟩
        have kN : mK μ1 N = 107 := by rw [m1, hN]; exact nwKa _ _ _ _
        have i6 : f_X6_init N (nI (aS A 15)) x1 x2 x3 x4 x5 μ1 = some ((), μ2) := by
          simp only [f_X6_init, kN, ckT, zlS, mK_sI, ← m2]
        have nf : NF μ μ2 := by
          have le : mN μ ≤ N := by omega
          rw [m2]
          have n0 : NF μ μ1 := by rw [m1]; exact NF.new
          exact NF.putI (N := 0) (NF.putI (N := 0) (NF.putI (N := 0) (NF.putI (N := 0) (NF.putI (N := 0) (NF.putI (N := 0) n0 le) le) le) le) le) le
        have N2 : mN μ2 = N + 1 := by rw [m2]; show mN μ1 = _; rw [m1, hN]; rfl
        have S2 : mS μ2 = mS μ + 6 := by rw [m2]; show mS μ1 = _; rw [m1]; rfl
        have K2 : mK μ2 N = 107 := by rw [m2]; exact kN
        have EN : mI μ2 N = up1 (up1 (up1 (up1 (up1 (up1 (mI μ1 N) 0 (nI (aS A 15))) 1 x1) 2 x2) 3 x3) 4 x4) 5 x5 := by
          rw [m2]
          funext k
          simp only [mI_up]
        have w2 := nf.1 w
        have h2 := h.nf w nf
        have hh2 := hh.nf h.1 w nf
        have l3 := hh2.1 0 (by decide)
        have n3' : nLs A 0 = aS A 15 := rfl
        have st := h2.2.2.1
        obtain ⟨sc, sc3⟩ := st.2.2.2.1
        obtain ⟨μ4, e', e4', g4, r1, r2, r3, r3', r4, r5, v4, alt⟩ := c_add (a := N) w2 st.1 sc3 (ST.k0 st) h2.k100.1 h2.sz.1 (by omega) l3.1 l3.2.1 (by rw [← n3']; exact l3.2.2.1) l3.2.2.2.1 l3.2.2.2.2.1 hh2.els0 (by rw [K2]; decide)
        have mz : mL μ2 z = 0 := st.2.2.2.2.2.2
        have he : (e' = ar 0 ∧ e' ≠ z) ∨ e' = mN μ2 := by
          rcases alt with a | a
          · refine Or.inl ⟨a.1, fun q0 => ?_⟩
            have lz : z < mN μ2 := w2.lt (by rw [st.2.2.2.2.2.1]; decide)
            have l := (g4.1 z lz).2.1
            rw [q0, l, mz] at r3
            omega
          · exact Or.inr a.1
        have he2 : mK μ2 e' = 26 ∨ e' = mN μ2 := he.elim (fun c => Or.inl (by rw [c.1]; exact l3.2.1)) Or.inr
        obtain ⟨B, hB⟩ : ∃ B, B = addP A x1.toNatClampNeg x2.toNatClampNeg x3.toNatClampNeg x4.toNatClampNeg x5 := ⟨_, rfl⟩
        have t4 : RT cT b (zS A 15 (aS A 15 + 1)) μ4 := h2.2.1.lf (i := 0) h2.1 (by decide) w2 g4 v4
        have T : RT cT b B μ4 := t4.cg (fun i _ => by rw [hB]; rfl) (fun r k hr _ => by
          rw [hB]
          show aN (zN (zN (zN (zN A 10 _ _) 11 _ _) 12 _ _) 13 _ _) r k = _
          rw [zN_ne _ _ _ (by omega), zN_ne _ _ _ (by omega), zN_ne _ _ _ (by omega), zN_ne _ _ _ (by omega)]
          rfl) (fun r k hr _ => by
          rw [hB]
          show aV (zV _ 5 _ _) r k = _
          rw [zV_ne _ _ _ (by omega)]
          rfl)
        have B14 : aS B 14 = 0 := by rw [hB]; exact z14
        have F4 : FR b z B μ4 := h2.lf (i := 0) (by decide) w2 g4 he2 T (by rw [B14, z14, hB]; rfl) (by rw [hB]; rfl) (fun q => by
          rw [hB] at q ⊢
          exact ⟨q, rfl⟩)
        have re : INc B (aS A 15) N μ2 := by
          unfold INc
          rw [EN, hB]
          have a10 : aN (addP A x1.toNatClampNeg x2.toNatClampNeg x3.toNatClampNeg x4.toNatClampNeg x5) 10 (aS A 15) = x1.toNatClampNeg := by
            show up2 _ 10 (aS A 15) _ 10 (aS A 15) = _
            rw [up2_eq, up1_eq]
          have a11 : aN (addP A x1.toNatClampNeg x2.toNatClampNeg x3.toNatClampNeg x4.toNatClampNeg x5) 11 (aS A 15) = x2.toNatClampNeg := by
            show up2 _ 11 (aS A 15) _ 11 (aS A 15) = _
            rw [up2_eq, up1_eq]
          have a12 : aN (addP A x1.toNatClampNeg x2.toNatClampNeg x3.toNatClampNeg x4.toNatClampNeg x5) 12 (aS A 15) = x3.toNatClampNeg := by
            show up2 _ 12 (aS A 15) _ 12 (aS A 15) = _
            rw [up2_eq, up1_eq]
          have a13 : aN (addP A x1.toNatClampNeg x2.toNatClampNeg x3.toNatClampNeg x4.toNatClampNeg x5) 13 (aS A 15) = x4.toNatClampNeg := by
            show up2 _ 13 (aS A 15) _ 13 (aS A 15) = _
            rw [up2_eq, up1_eq]
          have a5 : aV (addP A x1.toNatClampNeg x2.toNatClampNeg x3.toNatClampNeg x4.toNatClampNeg x5) 5 (aS A 15) = x5 := by
            show up2 _ 5 (aS A 15) _ 5 (aS A 15) = _
            rw [up2_eq, up1_eq]
          rw [a10, a11, a12, a13, a5, ← e1, ← e2, ← e3, ← e4]
          exact ⟨K2, rfl, rfl, rfl, rfl, rfl, rfl⟩
        have H4 : HR b z B (fun _ => 0) (up1 G 0 (up1 (G 0) (aS A 15) N)) (up1 ar 0 e') s μ4 := by
          rw [hB] at re ⊢
          exact hh2.addIn h2.1 w2 g4 he r1 r2 r3 (by have := l3.2.2.2.1; omega) r4 r5 re z9 z10 z14
        refine ⟨B, _, _, μ4, by rw [if_pos rfl, hB], ?_, F4, H4, ((nf.ck (e := 1) (sl := 6) (by omega) (by omega)).trans (g4.ck (i := 0) (e := 1) (sl := 107) h2.1 (by decide) w2 he2 (by rcases alt with a | a <;> omega) (by rcases alt with a | a <;> omega))).mono (by omega) (by omega)⟩
        have k2 : mK μ2 (b + 2) = 100 := h2.k100.1
        simp only [f_X10_add_b72, k0, ckT, bdS, sz, i12, c0, if_false, c64, if_true, zlS, ← hN, ← m1, cl_t i6, k2, cl_t e4']
        rfl
      · have c64 : ¬ nI (aS A 15) < 64 := nI_nlt (b := 64) (by omega) (by omega)
        refine no 2 (Or.inr rfl) (by unfold kAdd; rw [if_neg (by decide), if_neg (fun y => p64 y.2)]) ?_
        simp only [f_X10_add_b72, k0, ckT, bdS, sz, i12, c0, if_false, c64]
        rfl
    · have c0 : (0 : Int32) < nI (aS A 0) := nI_lt (a := 0) (by omega) (by omega)
      refine no 2 (Or.inr rfl) (by unfold kAdd; rw [if_neg (by decide), if_neg (fun y => a0 y.1)]) ?_
      simp only [f_X10_add_b72, k0, ckT, bdS, sz, i12, c0, if_true]
      rfl
end CAD
