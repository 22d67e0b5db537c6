/-! THE CLASS: addEnd -/
section CA3
variable {b z e sl : Nat} {m m' : Nat → Nat} {A A' B : Sx} {P : Pm} {G : Nat → Nat → Nat} {ar : Nat → Nat} {s : Nat} {μ μ' μ2 : Mm} {S : Nat → Nat → Bool}
/-- the fixed part, with the plain machine where it is -/
def FRx (b z : Nat) (A : Sx) (P : Pm) (μ : Mm) : Prop := SC b μ ∧ RT cT b A μ ∧ ST z μ ∧ PQm b P μ ∧ QCm b A μ ∧ FCm b A μ
theorem FR.x (h : FR b z A μ) : FRx b z A (plA A (aS A 14)) μ := h
theorem FRx.r (h : FRx b z A P μ) (hp : plA A (aS A 14) = P) : FR b z A μ := by
  obtain ⟨f1, f2, f3, f4, f5, f6⟩ := h
  refine ⟨f1, f2, f3, ?_, f5, f6⟩
  unfold PLm
  rw [hp]
  exact f4
theorem FRx.nf (h : FRx b z A P μ) (w : WF μ) (g : NF μ μ') : FRx b z A P μ' := by
  obtain ⟨f1, f2, f3, f4, f5, f6⟩ := h
  have lt := fun (o : Nat) (h1 : o < 30) (h2 : o ≠ 24) => w.lt (fxK_0 (f1.fk h1 h2))
  have l0 : 0 < mN μ := by
    have := lt 1 (by decide) (by decide)
    omega
  have lz : z < mN μ := w.lt (by rw [f3.2.2.2.2.2.1]; decide)
  have e := fun (o : Nat) (h1 : o < 30) (h2 : o ≠ 24) => (g.2.2 _ (lt o h1 h2)).2.2.1
  refine ⟨f1.nf w g, f2.keep (fun o k hz => ?_), ?_, ?_, ?_, ?_⟩
  · obtain ⟨c1, c2, c3⟩ := cT_lt hz
    rw [e o c1 c2]
  · unfold ST at f3 ⊢
    rw [(g.2.2 0 l0).2.2.2.1, (g.2.2 0 l0).1, (g.2.2 z lz).1, (g.2.2 z lz).2.1]
    exact f3
  · unfold PQm at f4 ⊢
    rw [e 7 (by decide) (by decide), e 8 (by decide) (by decide), e 6 (by decide) (by decide)]
    exact f4
  · unfold QCm at f5 ⊢
    rw [e 15 (by decide) (by decide), e 18 (by decide) (by decide), e 19 (by decide) (by decide)]
    exact f5
  · unfold FCm at f6 ⊢
    rw [e 20 (by decide) (by decide)]
    exact f6
theorem FRx.lf {i e' : Nat} (h : FRx b z A P μ) (hi : i < 4) (w : WF μ) (g : LF (b + lo i) e' μ μ') (he : mK μ e' = 26 ∨ e' = mN μ) (hT : RT cT b A' μ') (hq : aQ A' = aQ A) (hf : aS A' 12 = 0 → aS A 12 = 0 ∧ aS A' 11 = aS A 11) : FRx b z A' P μ' := by
  obtain ⟨f1, f2, f3, f4, f5, f6⟩ := h
  obtain ⟨g1, g2, g3, g4, g5, g6, g7⟩ := g
  have fl : ∀ o, o < 30 → o ≠ 24 → b + o < mN μ := fun o a c => w.lt (fxK_0 (f1.fk a c))
  have nl : ∀ o, o < 30 → o ≠ 24 → o ≠ lo i → mI μ' (b + o) = mI μ (b + o) := fun o a c d => g2 _ (fl o a c) (by omega)
  have ne0 : ∀ o, o < 30 → o ≠ 24 → b + o ≠ e' := fun o a c q => by
    rcases he with d | d
    · have := f1.fk a c
      rw [q, d] at this
      cases this
    · have := fl o a c
      omega
  have lz : z < mN μ := w.lt (by rw [f3.2.2.2.2.2.1]; decide)
  have l1 := fl 1 (by decide) (by decide)
  have e00 : mR μ' 0 = mR μ 0 := by
    rcases f3.2.2.2.2.1 with k0 | z0
    rotate_left
    · have l26 := f3.2.2.2.2.2.1
      have l00 := f3.2.2.2.2.2.2
      rw [z0] at l26 l00
      refine (g1 0 (by omega)).2.2.2 l00 fun q => ?_
      have := f1.fk (lo_lt hi).1 (lo_lt hi).2.1
      rw [← q, l26] at this
      cases this
    refine g4 0 (by omega) (fun q => ?_) (fun q => ?_)
    · have := f1.fk (lo_lt hi).1 (lo_lt hi).2.1
      rw [← q] at this
      exact fxK_0 this k0
    · rcases he with d | d
      · rw [← q, k0] at d; cases d
      · omega
  have l4 := lo_lt hi
  refine ⟨f1.cg2 (fun o a c => ⟨(g1 _ (fl o a c)).1, (g1 _ (fl o a c)).2.1⟩) (fun o ho => g4 _ (fl o (by omega) (by omega)) (by omega) (ne0 o (by omega) (by omega))) (fun k _ => by rw [g4 _ (fl 20 (by decide) (by decide)) (by omega) (ne0 20 (by decide) (by decide))]), hT, ?_, ?_, ?_, fun hz => ?_⟩
  · unfold ST at f3 ⊢
    rw [e00, (g1 z lz).1, (g1 z lz).2.1, (g1 0 (by omega)).1]
    exact f3
  · unfold PQm at f4 ⊢
    rw [nl 7 (by decide) (by decide) (by omega), nl 8 (by decide) (by decide) (by omega), nl 6 (by decide) (by decide) (by omega)]
    exact f4
  · unfold QCm at f5 ⊢
    rw [hq, nl 15 (by decide) (by decide) (by omega), nl 18 (by decide) (by decide) (by omega), nl 19 (by decide) (by decide) (by omega)]
    exact f5
  · obtain ⟨q1, q2⟩ := hf hz
    rw [nl 20 (by decide) (by decide) (by omega), q2]
    exact f6 q1
theorem offPl {o k : Nat} (h : sPl o k = true) : offT cT o k = true := by
  have hh := of_decide_eq_true h
  have b1 : ∀ i, i < 25 → (cT.1 i).1 ≠ 6 ∧ (cT.1 i).1 ≠ 7 ∧ (cT.1 i).1 ≠ 8 := by decide +kernel
  have b2 : ∀ i, i < 8 → cT.2.1 i ≠ 6 ∧ cT.2.1 i ≠ 7 ∧ cT.2.1 i ≠ 8 := by decide +kernel
  have b3 : ∀ i, i < 5 → (cT.2.2 i).1 ≠ 6 ∧ (cT.2.2 i).1 ≠ 7 ∧ (cT.2.2 i).1 ≠ 8 := by decide +kernel
  unfold offT
  simp only [Bool.and_eq_true, List.all_eq_true, List.mem_range, Bool.or_eq_true, Bool.not_eq_true', decide_eq_false_iff_not, Bool.and_eq_false_iff]
  refine ⟨⟨fun i hi => Or.inr fun q => ?_, fun r hr q => ?_⟩, fun r hr => Or.inl (Or.inl fun q => ?_)⟩
  · have h1 := b1 i hi
    rw [q] at h1
    have h2 : o ≠ 6 ∧ o ≠ 7 ∧ o ≠ 8 := h1
    omega
  · have h1 := b2 r hr
    omega
  · have h1 := b3 r hr
    omega
theorem FRx.pl {P' : Pm} (h : FRx b z A P μ) (g : CH b sPl μ μ') (hq : PQm b P' μ') : FRx b z A P' μ' := by
  obtain ⟨f1, f2, f3, f4, f5, f6⟩ := h
  have nS : ∀ o k, o ≠ 6 → o ≠ 7 → o ≠ 8 → sPl o k = false := fun o k a c d => decide_eq_false (by omega)
  refine ⟨f1.cg g.1 g.2.1 g.2.2.1, f2.keep (fun o k hz => g.cell ?_), ?_, hq, ?_, ?_⟩
  · cases hs : sPl o k with
    | false => rfl
    | true => rw [offPl hs] at hz; cases hz
  · unfold ST at f3 ⊢
    rw [g.1, g.2.1, g.2.2.1]
    exact f3
  · unfold QCm at f5 ⊢
    rw [g.row (o := 15) (fun k => nS _ _ (by decide) (by decide) (by decide)), g.row (o := 18) (fun k => nS _ _ (by decide) (by decide) (by decide)), g.row (o := 19) (fun k => nS _ _ (by decide) (by decide) (by decide))]
    exact f5
  · unfold FCm at f6 ⊢
    rw [g.row (o := 20) (fun k => nS _ _ (by decide) (by decide) (by decide))]
    exact f6
theorem HR.els3 (h : HR b z A m G ar s μ) : ∀ i, i < aS A 14 → ∃ y, mR μ (ar 3) i = some y ∧ 100 ≤ mK μ y := fun i hi => ⟨G 3 i, (h.1 3 (by decide)).2.2.2.2.2 i hi, by rw [(h.2.2.2.2.2.2.1 i hi).1]; decide⟩
/-- the new end, told -/
theorem c_add56 {kd pl f r g ee q : Nat} {bg : Int32} (h : FRx b z A P μ) (hh : HR b z A m G ar s μ) (w : WF μ) (h14 : aS A 14 < 2004) (kq : mK μ q = 51) (lq : mL μ q = 5) (q1 : kd ≠ 9 → mI μ q 0 = nI f ∧ mI μ q 1 = nI r ∧ mI μ q 2 = bg ∧ mI μ q 3 = nI ee ∧ mI μ q 4 = nI g) (q2 : kd = 9 → ∀ k, k < 5 → mI μ q k = -1)
    (hm : ∀ k, k < aS A 9 → (m' k = m k ∨ (m' k = 1 ∧ m k = 0)) ∧ (m' k ≠ 1 → q ≠ G 1 k + 1)) (hl : ∀ j, j < aS A 10 → q ≠ G 2 j + 1) : ∃ G' ar' μ', f_X0_addEnd_b56 (b + 1) (nI kd) (nI pl) q (nI pl) (nI kd) μ = some ((), μ') ∧ FRx b z (tell A kd pl f r g ee bg) P μ' ∧ HR b z (tell A kd pl f r g ee bg) m' G' ar' s μ' ∧ CK 2 3100 μ μ' ∧ H2 μ μ' ∧ (∀ i, i ≠ 3 → i ≠ 4 → G' i = G i) ∧ (∀ i, i ≠ 3 → ar' i = ar i) := by
  have k0 := h.1
  unfold SC at k0
  obtain ⟨N, hN⟩ : ∃ N, N = mN μ := ⟨_, rfl⟩
  obtain ⟨μ3, m3⟩ : ∃ μ3, μ3 = sR (sI (sI (sI (sI (nw μ 103 0 5) N 0 (nI kd)) N 1 (nI pl)) N 2 (nI kd)) N 3 (nI pl)) N 4 (some q) := ⟨_, rfl⟩
  have g3 : NF μ μ3 := by
    rw [m3]
    exact NF.putR (NF.putI (N := 0) (NF.putI (N := 0) (NF.putI (N := 0) (NF.putI (N := 0) NF.new (by omega)) (by omega)) (by omega)) (by omega)) (by omega)
  have w3 := g3.1 w
  have F3 := h.nf w g3
  have H3 := hh.nf h.1 w g3
  have K3 : mK μ3 N = 103 := by
    rw [m3]
    show mK (nw μ 103 0 5) N = _
    rw [hN]
    exact nwKa _ _ _ _
  have N3 : mN μ3 = N + 1 := by rw [m3, hN]; rfl
  have S3 : mS μ3 = mS μ + 5 := by rw [m3]; rfl
  have I3 : mI μ3 N 0 = nI kd ∧ mI μ3 N 1 = nI pl ∧ mI μ3 N 2 = nI kd ∧ mI μ3 N 3 = nI pl := by
    rw [m3, mI_sR', mI_up, mI_up, mI_up, mI_up]
    exact ⟨rfl, rfl, rfl, rfl⟩
  have R3 : mR μ3 N 4 = some q := by rw [m3, mR_at]
  have lq0 : q < mN μ := w.lt (by rw [kq]; decide)
  obtain ⟨q3k, q3l, q3i, -, -⟩ := g3.2.2 q lq0
  have l3 := H3.1 3 (by decide)
  have n3 : nLs A 3 = aS A 14 := rfl
  have st := F3.2.2.1
  obtain ⟨sc, sc3⟩ := st.2.2.2.1
  have k100 : mK μ3 (b + 26) = 100 := by
    have s := F3.1
    unfold SC at s
    simp only [s]
  have sz : mI μ3 (b + 26) 2 = nI (aS A 14) := F3.2.1.1 14 rfl
  obtain ⟨μ4, e', e4, g4, r1, r2, r3, r3', r4, r5, v4, alt⟩ := c_add (a := N) w3 st.1 sc3 (ST.k0 st) k100 sz (by omega) l3.1 l3.2.1 (by rw [← n3]; exact l3.2.2.1) l3.2.2.2.1 l3.2.2.2.2.1 H3.els3 (by rw [K3]; decide)
  have mz : mL μ3 z = 0 := st.2.2.2.2.2.2
  have he : (e' = ar 3 ∧ e' ≠ z) ∨ e' = mN μ3 := by
    rcases alt with a | a
    · refine Or.inl ⟨a.1, fun q0 => ?_⟩
      have lz : z < mN μ3 := w3.lt (by rw [st.2.2.2.2.2.1]; decide)
      have l := (g4.1 z lz).2.1
      rw [q0, l, mz] at r3
      omega
    · exact Or.inr a.1
  have he2 : mK μ3 e' = 26 ∨ e' = mN μ3 := he.elim (fun c => Or.inl (by rw [c.1]; exact l3.2.1)) Or.inr
  have t4 : RT cT b (zS A 14 (aS A 14 + 1)) μ4 := F3.2.1.lf (i := 3) F3.1 (by decide) w3 g4 v4
  obtain ⟨t1, t2, t3, t4', t5, t6, t7, t8, -⟩ := tell_f A kd pl f r g ee bg
  have T : RT cT b (tell A kd pl f r g ee bg) μ4 := t4.cg (fun i hi => by
    by_cases e : i = 14
    · rw [e, t2, zS_at]
    · rw [t1 i e, zS_ne _ _ e]) (fun i k hi _ => by rw [t3 i (by omega)]; rfl) (fun i k hi _ => by rw [t4' i (by omega)]; rfl)
  have F4 : FRx b z (tell A kd pl f r g ee bg) P μ4 := F3.lf (i := 3) (by decide) w3 g4 he2 T t8 (fun q0 => by rw [t1 12 (by decide)] at q0; exact ⟨q0, t1 11 (by decide)⟩)
  have H4 := H3.addE (kd := kd) (pl := pl) (f := f) (r := r) (g := g) (ee := ee) (N := N) (q := q) (bg := bg) (m' := m') F3.1 w3 g4 he r1 r2 r3 (by have := l3.2.2.2.1; omega) r4 r5 K3 I3 R3 (by rw [q3k]; exact kq) (by rw [q3l]; exact lq) (fun a => by rw [q3i]; exact q1 a) (fun a k hk => by rw [q3i]; exact q2 a k hk) hm hl
  refine ⟨_, _, μ4, ?_, F4, H4, ?_, ?_, fun i a c => by rw [up1_ne _ _ c, up1_ne _ _ a], fun i a => up1_ne _ _ a⟩
  · have Kn : mK (nw μ 103 0 5) N = 103 := by rw [hN]; exact nwKa _ _ _ _
    have ini : f_X2_init N (nI kd) (nI pl) (nI kd) (nI pl) q (nw μ 103 0 5) = some ((), μ3) := by
      simp only [f_X2_init, Kn, ckT, zlS, ← m3]
    have k3 := F3.1
    unfold SC at k3
    simp only [f_X0_addEnd_b56, k0, ckT, bdS, zlS, ← hN, cl_t ini, k100, cl_t e4]
  · have c1 := g3.ck (e := 1) (sl := 5) (by omega) (by omega)
    have c2 := g4.ck (i := 3) F3.1 (by decide) w3 he2 (e := 1) (sl := 3095) (by rcases alt with a | a <;> omega) (by rcases alt with a | a <;> omega)
    exact c1.trans c2
  · exact H2.trans (fun a ha => g3.hp w a (h2_h ha)) (g4.ne (i := 3) F3.1 (by decide) w3 he2)
theorem c_addEnd {kd pl f r g ee q : Nat} {bg : Int32} (h : FR b z A μ) (hh : HR b z A m G ar s μ) (w : WF μ) (c : CF A) (h14 : aS A 14 < 2004) (hP : plA A (aS A 14) = P) (hpl : pl = P.2.2 0) (h0 : P.2.2 0 ≤ 64) (h1 : P.2.2 1 ≤ 1) (h2 : P.2.2 2 ≤ 64) (hk : (kd = 9 ∧ aV A 0 1 ≠ -1) ∨ (kd ≠ 9 ∧ P.2.2 0 < aS A 15 ∧ plT A P = kd)) (kq : mK μ q = 51) (lq : mL μ q = 5) (q1 : kd ≠ 9 → mI μ q 0 = nI f ∧ mI μ q 1 = nI r ∧ mI μ q 2 = bg ∧ mI μ q 3 = nI ee ∧ mI μ q 4 = nI g) (q2 : kd = 9 → ∀ k, k < 5 → mI μ q k = -1)
    (hm : ∀ k, k < aS A 9 → (m' k = m k ∨ (m' k = 1 ∧ m k = 0)) ∧ (m' k ≠ 1 → q ≠ G 1 k + 1)) (hl : ∀ j, j < aS A 10 → q ≠ G 2 j + 1) : ∃ G' ar' μ', f_X0_addEnd (b + 1) (nI kd) (nI pl) q μ = some ((), μ') ∧ FR b z (tell A kd pl f r g ee bg) μ' ∧ HR b z (tell A kd pl f r g ee bg) m' G' ar' s μ' ∧ CK 2 3100 μ μ' ∧ H2 μ μ' ∧ (∀ i, i ≠ 3 → i ≠ 4 → G' i = G i) ∧ (∀ i, i ≠ 3 → ar' i = ar i) := by
  have k0 := h.1
  unfold SC at k0
  have hx : FRx b z A P μ := by rw [← hP]; exact h.x
  have pq := hx.2.2.2.1
  have i2 : mI μ (b + 6) 2 = nI pl := by rw [hpl]; exact pq.2.2.1
  have sfx : ∀ o k, sPl o k = true → o < 30 ∧ o ≠ 24 := fun o k zz => by
    have := of_decide_eq_true zz
    omega
  obtain ⟨t1, t2, t3, t4, t5, t6, t7, t8, t9, -⟩ := tell_f A kd pl f r g ee bg
  have hpl2 : plA (tell A kd pl f r g ee bg) (aS (tell A kd pl f r g ee bg) 14) = plN A P kd := by
    rw [t2]
    show plN (tell A kd pl f r g ee bg) (plA (tell A kd pl f r g ee bg) (aS A 14)) (aN (tell A kd pl f r g ee bg) 14 (aS A 14)) = _
    have hSP : SamP A (tell A kd pl f r g ee bg) := ⟨fun i a d => t3 i (by omega), t4 5 (by decide)⟩
    rw [plA_congr hSP (t4 0 (by decide)) (t4 6 (by decide)) (t4 7 (by decide)) (t1 15 (by decide)) (fun i hi => by rw [t9, up1_ne _ _ (by omega)]), hP, t9, up1_eq]
    have e10 := hSP.1 10 (by omega) (by omega)
    have e11 := hSP.1 11 (by omega) (by omega)
    have e12 := hSP.1 12 (by omega) (by omega)
    have e13 := hSP.1 13 (by omega) (by omega)
    unfold plN plT plD
    dsimp only
    rw [e10, e11, e12, e13, hSP.2, t4 0 (by decide), t1 15 (by decide)]
  have fin : ∀ {μ1 : Mm}, CH b sPl μ μ1 → PQm b (plN A P kd) μ1 → f_X0_addEnd (b + 1) (nI kd) (nI pl) q μ = f_X0_addEnd_b56 (b + 1) (nI kd) (nI pl) q (nI pl) (nI kd) μ1 → ∃ G' ar' μ', f_X0_addEnd (b + 1) (nI kd) (nI pl) q μ = some ((), μ') ∧ FR b z (tell A kd pl f r g ee bg) μ' ∧ HR b z (tell A kd pl f r g ee bg) m' G' ar' s μ' ∧ CK 2 3100 μ μ' ∧ H2 μ μ' ∧ (∀ i, i ≠ 3 → i ≠ 4 → G' i = G i) ∧ (∀ i, i ≠ 3 → ar' i = ar i) := fun {μ1} gg qq ee => by
    have F1 := hx.pl gg qq
    have H1 := hh.ch h.1 gg sfx
    have c1 := gg.ck h.1 sfx
    have x1 := gg.h2 h.1 sfx
    obtain ⟨d1, d2, d3, -⟩ := x1 q (by rw [kq]; rfl)
    obtain ⟨G', ar', μ', e, F2, H2', c2, x2, g1, g2⟩ := c_add56 (kd := kd) (pl := pl) (f := f) (r := r) (g := g) (bg := bg) (q := q) F1 H1 (c1.1 w) h14 (by rw [d1]; exact kq) (by rw [d2]; exact lq) (fun a => by rw [d3]; exact q1 a) (fun a k hk => by rw [d3]; exact q2 a k hk) hm hl
    exact ⟨G', ar', μ', ee.trans e, F2.r hpl2, H2', (c1.trans c2).mono (by omega) (by omega), x1.trans x2, g1, g2⟩
  rcases hk with ⟨k9, hv⟩ | ⟨k9, hp, kt⟩
  · have w9 : ¬ ¬ nI kd = 9 := by rw [k9]; exact fun q => q rfl
    have i34 : mI μ (b + 3) 4 = aV A 0 1 := h.2.1.2.2 0 1 (by decide) (by decide)
    have had := adok_h hv (c.2.2.2.2.2.2 1 (by decide))
    have eN : plN A P kd = (P.1, P.2.1, up1 (up1 (up1 P.2.2 2 (P.2.2 0)) 1 1) 0 (aV A 0 1).toNatClampNeg) := if_pos k9
    refine fin (μ1 := sI (sI (sI μ (b + 6) 4 (nI pl)) (b + 6) 3 1) (b + 6) 2 (aV A 0 1)) (((CH.put (by rfl)).trans (CH.put (by rfl))).trans (CH.put (by rfl))) ?_ ?_
    · rw [eN]
      refine ⟨fun r hr => ?_, fun a ha => ?_, ?_, ?_, ?_⟩
      · rw [mI_row _ _ (by omega), mI_row _ _ (by omega), mI_row _ _ (by omega)]; exact pq.1 r hr
      · rw [mI_row _ _ (by omega), mI_row _ _ (by omega), mI_row _ _ (by omega)]; exact pq.2.1 a ha
      · rw [mI_at]; exact had.1
      · rw [mI_ne _ _ (Or.inr (by decide)), mI_at]; rfl
      · rw [mI_ne _ _ (Or.inr (by decide)), mI_ne _ _ (Or.inr (by decide)), mI_at, hpl]; rfl
    · have k9' : nI kd = 9 := by rw [k9]; rfl
      have n99 : ¬ ¬ (9 : Int32) = 9 := fun q => q rfl
      simp only [f_X0_addEnd, k0, ckT, bdS, k9', n99, not_true, if_false, i2, i34, f_X8_goToInterrupts, zlS, clS]
  · have w9 : ¬ nI kd = 9 := nIne (n := 9) (by
      have : plT A P ≤ 5 := by
        unfold plT
        dsimp only
        split
        · exact Nat.le_refl _
        · exact tpV_le _ _ _ _
      omega) (by omega) k9
    obtain ⟨μ1, e1, q1', g1⟩ := c_doOne h hh c pq hp h1 h2
    rw [kt] at e1 q1'
    have i33 : mI μ (b + 3) 3 = aV A 0 0 := h.2.1.2.2 0 0 (by decide) (by decide)
    refine fin g1 q1' ?_
    simp only [f_X0_addEnd, k0, ckT, bdS, w9, not_false_eq_true, if_true, i2, i33, cl_t e1]
end CA3
