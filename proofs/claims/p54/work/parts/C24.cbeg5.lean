/-! THE CLASS: a cycle's beginnings -/
section CBK
variable {b z e sl : Nat} {m m' : Nat → Nat} {A A' B C D : Sx} {P : Pm} {G : Nat → Nat → Nat} {ar : Nat → Nat} {s : Nat} {μ μ' μ2 : Mm} {S : Nat → Nat → Bool}
theorem c_bg1 {k : Nat} (h : FR b z A μ) (hh : HR b z A (fun _ => 0) G ar s μ) (q : IB A) (h0 : aS A 0 < 1000) (hk : k < aS A 9) (hs : (aB A k).1 10 = 113) : ∃ μ', f_X0_canBegin (b + 1) (G 1 k) (nI k) μ = some (bI (bg1 A k).isSome, μ') ∧ FR b z ((bg1 A k).getD A) μ' ∧ HR b z ((bg1 A k).getD A) (fun _ => 0) G ar s μ' ∧ CK 0 0 μ μ' ∧ mI μ' (b + 29) = mI μ (b + 29) := by
  have k0 := h.1
  unfold SC at k0
  obtain ⟨g1, g2, g3, g4, g5, g6, g7, g8, g9⟩ := c_rd h hh q hk
  have ab := q.ab hk
  have hq := qd_of q hk hs
  have rf := (hh.2.2.2.1 k hk).2.2.2.2.2.2
  obtain ⟨f6, f7, -⟩ := rf.2.2.2.2.2.1 rfl
  have va := c_valueOf h.1 h.2.1 ab.1
  have vb := c_valueOf h.1 h.2.1 ab.2
  obtain ⟨μ1, e1, F1, H1, c1, u1, cp⟩ := c_cmpE h hh q hk hs
  obtain ⟨d1, d2, d3, d4, d5, d6, d7, d8⟩ := cmp_f A (aB A k)
  have ec : eC A (cmp A (aB A k)) = eC A (aB A k) := congrArg (aN A 10) (d1 0 (by decide) (by decide))
  have hbg : bg1 A k = if eC A (aB A k) = 9 ∧ (cmp A (aB A k)).1 12 = 0 then ldB A k (cmp A (aB A k)) else some (zB A k (bgW (cmp A (aB A k)) (dly (eC A (aB A k))) (aS A 0))) := by
    unfold bg1
    dsimp only
    rw [ec]
  obtain ⟨X, hX⟩ : ∃ X, X = cmp A (aB A k) := ⟨_, rfl⟩
  rw [← hX] at cp d1 d2 d3 d4 d5 d6 d7 d8 hbg
  have k1 := F1.1
  unfold SC at k1
  obtain ⟨y1, y2, y3, y4, y5, y6, y7, y8, y9⟩ := c_rd F1 H1 q hk
  have e1' : f_X3_compute (G 1 k) (aV A 1 ((aB A k).1 6)) (aV A 1 ((aB A k).1 7)) μ = some ((), μ1) := e1
  have p12 : mI μ1 (G 1 k) 12 = nI (X.1 12) := cp.2.1
  have t5 : X.1 12 ≤ 5 := by
    rw [d2]
    have := tpV_le (eC A (aB A k)) (eX A (aB A k)) (eY A (aB A k)) (eI A (aB A k))
    omega
  have zs : ∀ p : Bool, zb (bI p) = bI p := fun p => by cases p <;> rfl
  -- a beginning without a load
  have plain : f_X0_canBegin (b + 1) (G 1 k) (nI k) μ = f_X0_canBegin_b52 (b + 1) (G 1 k) μ1 → ¬ (eC A (aB A k) = 9 ∧ X.1 12 = 0) → ∃ μ', f_X0_canBegin (b + 1) (G 1 k) (nI k) μ = some (bI (bg1 A k).isSome, μ') ∧ FR b z ((bg1 A k).getD A) μ' ∧ HR b z ((bg1 A k).getD A) (fun _ => 0) G ar s μ' ∧ CK 0 0 μ μ' ∧ mI μ' (b + 29) = mI μ (b + 29) := fun ee hn => by
    rw [hbg, if_neg hn]
    obtain ⟨⟨μ2, e2, F2, H2', c2, u2⟩, -⟩ := c_begs (d := dly (eC A (aB A k))) (k := k) (X := X) F1 H1 hk hq d1 d8 cp
    refine ⟨μ2, ?_, F2, H2', c1.trans c2, u2.trans u1⟩
    rw [ee]
    have dl := c_delay y4 y5 y6
    have i12 : mI μ1 (b + 1) 12 = nI (aS A 0) := F1.2.1.1 0 rfl
    simp only [f_X0_canBegin_b52, y2, y3, y4, ckT, bdS, dl, k1, i12, cl_t e2]
    rfl
  have base : f_X0_canBegin (b + 1) (G 1 k) (nI k) μ = (if ¬ nI (eC A (aB A k)) = 9 then f_X0_canBegin_b52 (b + 1) (G 1 k) μ1 else if ¬ nI (X.1 12) = 0 then f_X0_canBegin_b52 (b + 1) (G 1 k) μ1 else (cl (f_X0_canBeginLoad (b + 1) (G 1 k) (nI k) μ1) fun y23 μ25 => ck (zb y23 = y23) <| some (y23, μ25))) := by
    simp only [f_X0_canBegin, k0, ckT, bdS, g2, f6, va, f7, vb, cl_t e1', y2, y3, y4, y5, p12, k1]
  by_cases h9 : eC A (aB A k) = 9
  · have w9 : ¬ ¬ nI (eC A (aB A k)) = 9 := by rw [h9]; exact fun y => y rfl
    by_cases t0 : X.1 12 = 0
    · have w0 : ¬ ¬ nI (X.1 12) = 0 := by rw [t0]; exact fun y => y rfl
      have had : adok (X.2.1 1) = true := by
        have tv : tpV (eC A (aB A k)) (eX A (aB A k)) (eY A (aB A k)) (eI A (aB A k)) = 0 := by rw [← d2]; exact t0
        rw [d5, if_pos ⟨by rw [h9]; rfl, tv⟩]
        rw [h9] at tv
        cases ha : adok (eX A (aB A k) + eI A (aB A k)) with
        | true => rfl
        | false =>
          have : tpV 9 (eX A (aB A k)) (eY A (aB A k)) (eI A (aB A k)) = 2 := by
            show (if adok (eX A (aB A k) + eI A (aB A k)) = true then 0 else 2) = 2
            rw [ha]
            rfl
          omega
      obtain ⟨μ2, e2, F2, H2', c2, u2⟩ := c_ldB (k := k) (X := X) F1 H1 q h0 hk hq d1 d8 cp had
      rw [hbg, if_pos ⟨h9, t0⟩]
      refine ⟨μ2, ?_, F2, H2', c1.trans c2, u2.trans u1⟩
      rw [base, if_neg w9, if_neg w0]
      simp only [cl_t e2, zs, ckT]
    · have w0 : ¬ nI (X.1 12) = 0 := nIne (n := 0) (by omega) (by omega) t0
      exact plain (by rw [base, if_neg w9, if_pos w0]) (fun y => t0 y.2)
  · have w9 : ¬ nI (eC A (aB A k)) = 9 := nIne (n := 9) (by omega) (by omega) h9
    exact plain (by rw [base, if_pos w9]) (fun y => h9 y.1)
theorem unit_lt : ∀ c, c < 22 → unit c < 4 := by decide +kernel
theorem c_bgL : ∀ (n : Nat) {A : Sx} {k fu : Nat} {u : Nat → Nat} {μ : Mm}, FR b z A μ → HR b z A (fun _ => 0) G ar s μ → IV A → aS A 0 < 1000 → (∀ i, i < 4 → u i ≤ 2 ∧ mI μ (b + 29) i = nI (u i)) → n + k = 17 → n < fu → ∃ μ', f_X0_doBeginnings_b41 fu (b + 1) (nI k) μ = some ((), μ') ∧ FR b z (bgL A u n k) μ' ∧ HR b z (bgL A u n k) (fun _ => 0) G ar s μ' ∧ CK 0 0 μ μ'
  | 0, A, k, fu, u, μ, h, hh, q, h0, hu, hn, hf => by
    obtain ⟨fu, rfl⟩ : ∃ n, fu = n + 1 := ⟨fu - 1, by omega⟩
    have n9 : aS A 9 ≤ 16 := by have := q.1.2.1.1; have := q.1.1.2.1; omega
    have k0 := h.1
    unfold SC at k0
    have sz := c_sizeB h
    have c1 : nI (aS A 9) ≤ nI k := nI_le (by omega) (by omega)
    exact ⟨μ, by simp only [f_X0_doBeginnings_b41, k0, ckT, bdS, sz, c1, if_true], h, hh, CK.refl0⟩
  | n + 1, A, k, fu, u, μ, h, hh, q, h0, hu, hn, hf => by
    obtain ⟨fu, rfl⟩ : ∃ n, fu = n + 1 := ⟨fu - 1, by omega⟩
    have n9 : aS A 9 ≤ 16 := by have := q.1.2.1.1; have := q.1.1.2.1; omega
    have k0 := h.1
    unfold SC at k0
    have sz := c_sizeB h
    by_cases hk : k < aS A 9
    · have c1 : ¬ nI (aS A 9) ≤ nI k := nI_ge (by omega) (by omega)
      have hL : bgL A u (n + 1) k = if (aB A k).1 10 = 113 ∧ 0 < u (unit (eC A (aB A k))) ∧ opR A (aB A k) = true then (match bg1 A k with | some B => bgL B (up1 u (unit (eC A (aB A k))) (u (unit (eC A (aB A k))) - 1)) n (k + 1) | none => bgL A u n (k + 1)) else bgL A u n (k + 1) := if_pos hk
      obtain ⟨g1, g2, g3, g4, g5, g6, g7, g8, g9⟩ := c_rd h hh q.1 hk
      have un := c_unit g4 g5 g6
      obtain ⟨v, hv⟩ : ∃ v, v = unit (eC A (aB A k)) := ⟨_, rfl⟩
      have v4 : v < 4 := by rw [hv]; exact unit_lt _ g6
      rw [← hv] at un hL
      obtain ⟨hu1, hu2⟩ := hu v v4
      have cv0 : ¬ nI v < 0 := nI_pos (by omega)
      have cv4 : ¬ (4 : Int32) ≤ nI v := by
        have := nI_ge (b := 4) (a := v) (by omega) (by omega)
        exact this
      have iv := inbN (p := v) (n := 4) v4 (by omega)
      have clv := clN (show v < 100000 by omega)
      have b0 : bI false = 0 := rfl
      have b1 : ¬ bI true = 0 := by decide
      have op := c_opR h hh q.1 hk
      have skip : bgL A u (n + 1) k = bgL A u n (k + 1) → f_X0_doBeginnings_b41 (fu + 1) (b + 1) (nI k) μ = f_X0_doBeginnings_b41 fu (b + 1) (nI (k + 1)) μ → ∃ μ', f_X0_doBeginnings_b41 (fu + 1) (b + 1) (nI k) μ = some ((), μ') ∧ FR b z (bgL A u (n + 1) k) μ' ∧ HR b z (bgL A u (n + 1) k) (fun _ => 0) G ar s μ' ∧ CK 0 0 μ μ' := fun e1 e2 => by
        obtain ⟨μ', e, F, H, c⟩ := c_bgL n (u := u) (k := k + 1) (fu := fu) h hh q h0 hu (by omega) (by omega)
        rw [e1, e2]
        exact ⟨μ', e, F, H, c⟩
      by_cases hs : (aB A k).1 10 = 113
      · have w : ¬ ¬ nI ((aB A k).1 10) = 113 := by rw [hs]; exact fun y => y rfl
        by_cases up : 0 < u v
        · have cu : ¬ nI (u v) ≤ 0 := nI_nle (by omega) (by omega)
          cases ho : opR A (aB A k)
          · rw [ho] at op
            refine skip (by rw [hL, if_neg (fun y => by rw [ho] at y; exact Bool.false_ne_true y.2.2)]) ?_
            simp only [f_X0_doBeginnings_b41, f_X0_doBeginnings_b126, k0, ckT, bdS, sz, c1, if_false, g1, g2, g3, g4, un, g7, w, cv0, cv4, ckA, ck_t iv, clv, hu2, cu, op, b0, if_true, nI_1]
          · rw [ho] at op
            rw [if_pos ⟨hs, up, ho⟩] at hL
            obtain ⟨μ1, e1, F1, H1, c1', u1⟩ := c_bg1 h hh q.1 h0 hk hs
            cases hb : bg1 A k with
            | none =>
              rw [hb] at e1 F1 H1 hL
              obtain ⟨μ', e, F, H, c⟩ := c_bgL n (u := u) (k := k + 1) (fu := fu) F1 H1 q h0 (fun i hi => by rw [u1]; exact hu i hi) (by omega) (by omega)
              rw [hL]
              refine ⟨μ', ?_, F, H, c1'.trans c⟩
              have e1' : f_X0_canBegin (b + 1) (G 1 k) (nI k) μ = some (0, μ1) := e1
              simp only [f_X0_doBeginnings_b41, f_X0_doBeginnings_b126, k0, ckT, bdS, sz, c1, if_false, g1, g2, g3, g4, un, g7, w, cv0, cv4, ckA, ck_t iv, clv, hu2, cu, op, b1, cl_t e1', if_true, nI_1, e]
            | some B =>
              rw [hb] at e1 F1 H1 hL
              have ivB : IV B := bg1_ib q.1 q.2 hk hs ho hb
              obtain ⟨b9, -, -, -, bz⟩ := bg1_9 hb
              have e1' : f_X0_canBegin (b + 1) (G 1 k) (nI k) μ = some (1, μ1) := e1
              have F1' : FR b z B μ1 := F1
              have H1' : HR b z B (fun _ => 0) G ar s μ1 := H1
              obtain ⟨μ2, m2⟩ : ∃ μ2, μ2 = sI μ1 (b + 29) v (nI (u v - 1)) := ⟨_, rfl⟩
              have g : CH b (fun o _ => o == 29) μ1 μ2 := by rw [m2]; exact CH.put rfl
              have T : RT cT b B μ2 := by
                rw [m2]
                exact F1'.2.1.off (o := 29) (k := v) _ (by
                  have : v = 0 ∨ v = 1 ∨ v = 2 ∨ v = 3 := by omega
                  rcases this with y | y | y | y <;> rw [y] <;> decide +kernel)
              obtain ⟨F2, H2', c2, -⟩ := c_step F1' H1' T g (fun o k zz => by simp only [beq_iff_eq] at zz; unfold okS; omega) SamP.refl0 (fun _ _ => rfl) rfl rfl rfl rfl (fun _ _ => rfl) (fun _ _ => rfl)
              obtain ⟨μ', e, F, H, c⟩ := c_bgL n (u := up1 u v (u v - 1)) (k := k + 1) (fu := fu) F2 H2' ivB (by rw [bz]; exact h0) (fun i hi => by
                rw [up1_if]
                by_cases y : i = v
                · rw [if_pos y, y, m2]
                  exact ⟨by omega, mI_at _ _ _ _⟩
                · rw [if_neg y, m2, mI_ne _ _ (Or.inr y), u1]
                  exact hu i hi) (by omega) (by omega)
              rw [hL]
              refine ⟨μ', ?_, F, H, (c1'.trans c2).trans c⟩
              have k1 := F1'.1
              unfold SC at k1
              have n10 : ¬ (1 : Int32) = 0 := by decide
              have hu2' : mI μ1 (b + 29) v = nI (u v) := by rw [u1]; exact hu2
              have sb : nI (u v) - 1 = nI (u v - 1) := by
                have : u v = 1 ∨ u v = 2 := by omega
                rcases this with y | y <;> rw [y] <;> rfl
              simp only [f_X0_doBeginnings_b41, f_X0_doBeginnings_b126, k0, ckT, bdS, sz, c1, if_false, g1, g2, g3, g4, un, g7, w, cv0, cv4, ckA, ck_t iv, clv, hu2, cu, op, b1, cl_t e1', n10, k1, hu2', sb, zlS, ← m2, nI_1, e]
        · have cu : nI (u v) ≤ 0 := by
            have : u v = 0 := by omega
            rw [this]
            decide
          refine skip (by rw [hL, if_neg (fun y => up y.2.1)]) ?_
          simp only [f_X0_doBeginnings_b41, f_X0_doBeginnings_b126, k0, ckT, bdS, sz, c1, if_false, g1, g2, g3, g4, un, g7, w, cv0, cv4, ckA, ck_t iv, clv, hu2, cu, if_true, nI_1]
      · have w : ¬ nI ((aB A k).1 10) = 113 := nIne (n := 113) (by omega) (by omega) hs
        refine skip (by rw [hL, if_neg (fun y => hs y.1)]) ?_
        simp only [f_X0_doBeginnings_b41, f_X0_doBeginnings_b126, k0, ckT, bdS, sz, c1, if_false, g1, g2, g3, g4, un, g7, w, not_false_eq_true, if_true, nI_1]
    · have c1 : nI (aS A 9) ≤ nI k := nI_le (by omega) (by omega)
      have hL : bgL A u (n + 1) k = A := if_neg hk
      rw [hL]
      exact ⟨μ, by simp only [f_X0_doBeginnings_b41, k0, ckT, bdS, sz, c1, if_true], h, hh, CK.refl0⟩
theorem c_begins (h : FR b z A μ) (hh : HR b z A (fun _ => 0) G ar s μ) (q : IV A) (h0 : aS A 0 < 1000) : ∃ μ', f_X0_doBeginnings (b + 1) μ = some ((), μ') ∧ FR b z (begins A) μ' ∧ HR b z (begins A) (fun _ => 0) G ar s μ' ∧ CK 0 0 μ μ' := by
  have n9 : aS A 9 ≤ 16 := by have := q.1.2.1.1; have := q.1.1.2.1; omega
  have k0 := h.1
  unfold SC at k0
  obtain ⟨μ1, m1⟩ : ∃ μ1, μ1 = sI (sI μ (b + 29) 0 2) (b + 29) 1 1 := ⟨_, rfl⟩
  have sF : ∀ o k, (fun o (_ : Nat) => o == 29) o k = true → okS o k := fun o k zz => by
    simp only [beq_iff_eq] at zz
    unfold okS
    omega
  have off : ∀ {ν : Mm} {i : Nat} {v : Int32}, i < 4 → RT cT b A ν → RT cT b A (sI ν (b + 29) i v) := fun {ν i v} hi t => t.off (o := 29) (k := i) _ (by
    have : i = 0 ∨ i = 1 ∨ i = 2 ∨ i = 3 := by omega
    rcases this with y | y | y | y <;> rw [y] <;> decide +kernel)
  have g1 : CH b (fun o _ => o == 29) μ μ1 := by rw [m1]; exact (CH.put rfl).trans (CH.put rfl)
  have T1 : RT cT b A μ1 := by rw [m1]; exact off (by omega) (off (by omega) h.2.1)
  obtain ⟨F1, H1, c1, -⟩ := c_step h hh T1 g1 sF SamP.refl0 (fun _ _ => rfl) rfl rfl rfl rfl (fun _ _ => rfl) (fun _ _ => rfl)
  have dv := c_dvL F1 H1 q.1 (aS A 9) 0 5000 (Nat.zero_add _) (by omega) rfl
  have dv' : f_X0_isDividing (b + 1) μ1 = some (bI (isDv A (aS A 9))) := dv
  obtain ⟨d, hd⟩ : ∃ d : Nat, d = if isDv A (aS A 9) = true then 0 else 1 := ⟨_, rfl⟩
  obtain ⟨μ2, m2⟩ : ∃ μ2, μ2 = sI (sI μ1 (b + 29) 2 (nI d)) (b + 29) 3 1 := ⟨_, rfl⟩
  have g2 : CH b (fun o _ => o == 29) μ1 μ2 := by rw [m2]; exact (CH.put rfl).trans (CH.put rfl)
  have T2 : RT cT b A μ2 := by rw [m2]; exact off (by omega) (off (by omega) F1.2.1)
  obtain ⟨F2, H2', c2, -⟩ := c_step F1 H1 T2 g2 sF SamP.refl0 (fun _ _ => rfl) rfl rfl rfl rfl (fun _ _ => rfl) (fun _ _ => rfl)
  obtain ⟨μ3, e3, F3, H3, c3⟩ := c_bgL 17 (u := u0 A) (k := 0) (fu := 5000) F2 H2' q h0 (fun i hi => by
    have : i = 0 ∨ i = 1 ∨ i = 2 ∨ i = 3 := by omega
    have d1 : d ≤ 1 := by rw [hd]; split <;> omega
    rcases this with rfl | rfl | rfl | rfl
    · exact ⟨by show 2 ≤ 2; omega, by rw [m2, m1, mI_up, mI_up, mI_up, mI_up]; rfl⟩
    · exact ⟨by show 1 ≤ 2; omega, by rw [m2, m1, mI_up, mI_up, mI_up, mI_up]; rfl⟩
    · have e : u0 A 2 = d := hd.symm
      exact ⟨by omega, by rw [e, m2, mI_ne _ _ (Or.inr (by decide)), mI_at]⟩
    · exact ⟨by show 1 ≤ 2; omega, by rw [m2, mI_at]; rfl⟩) rfl (by omega)
  refine ⟨μ3, ?_, F3, H3, (c1.trans c2).trans c3⟩
  have k1 := F1.1
  unfold SC at k1
  have i0 : inb 0 4 := by decide
  have i1 : inb 1 4 := by decide
  have i2 : inb 2 4 := by decide
  have i3 : inb 3 4 := by decide
  have cl0 : Int32.toNatClampNeg 0 = 0 := by decide
  have cl1 : Int32.toNatClampNeg 1 = 1 := by decide
  have cl2 : Int32.toNatClampNeg 2 = 2 := by decide
  have cl3 : Int32.toNatClampNeg 3 = 3 := by decide
  have b0 : bI false = 0 := rfl
  have b1 : ¬ bI true = 0 := by decide
  have e3' : f_X0_doBeginnings_b41 5000 (b + 1) 0 μ2 = some ((), μ3) := e3
  cases hv : isDv A (aS A 9)
  · rw [hv] at dv' hd
    have d1 : nI d = 1 := by rw [hd]; rfl
    rw [d1] at m2
    simp only [f_X0_doBeginnings, f_X0_doBeginnings_b31, k0, ckT, bdS, ckA, ck_t i0, ck_t i1, ck_t i2, ck_t i3, cl0, cl1, cl2, cl3, zlS, mR_sI', mK_sI, mL_sI, ← m1, k1, dv', b0, if_true, ← m2, e3']
  · rw [hv] at dv' hd
    have d1 : nI d = 0 := by rw [hd]; rfl
    rw [d1] at m2
    simp only [f_X0_doBeginnings, f_X0_doBeginnings_b31, k0, ckT, bdS, ckA, ck_t i0, ck_t i1, ck_t i2, ck_t i3, cl0, cl1, cl2, cl3, zlS, mR_sI', mK_sI, mL_sI, ← m1, k1, dv', b1, if_false, ← m2, e3']
end CBK
