/-! what the pair answers -/
theorem k01_eq {p : Bool} {q : Prop} [Decidable q] (h : p = true ↔ q) : (if q then (0 : Nat) else 1) = k01 p := by
  unfold k01
  by_cases hq : q
  · rw [if_pos hq, h.mpr hq]
    rfl
  · rw [if_neg hq]
    cases hp : p
    · rfl
    · exact absurd (h.mp hp) hq
section OPGET
variable {b z : Nat} {A : Sx} {μ : Mm} {x1 x2 : Int32}
theorem AI.a2 (h : AI A) : ∀ k, k < 24 → aN A 2 k ≤ 1 := h.ib.2.1.2.2.2.2.1
theorem AI.a5 (h : AI A) : ∀ k, k < 16 → aN A 5 k ≤ 1 := h.ib.2.1.2.2.2.2.2.1
theorem AI.pt (h : AI A) : PT A := h.ib.2.2.2.1
theorem AI.r24 (h : AI A) : ∀ r, r < 8 → aN A 1 r < 24 := fun r hr => by have := h.pt.ret hr; have := h.n8; omega
theorem AI.s7 (h : AI A) : aS A 7 ≤ 24 := by have := h.pt.nf; have := h.n8; omega
theorem AI.eo (h : AI A) : ∀ k, k < aS A 9 → (aB A k).1 0 < aS A 15 := fun k hk => (h.ib.2.2.2.2.2.1 k hk).1
theorem AI.es (h : AI A) : ∀ k, k < aS A 9 → (aB A k).1 10 < 200 := fun k hk => by
  rcases (h.ib.2.2.2.2.2.2.1 k hk).1 with q | q | q | q | q <;> omega
theorem AI.en (h : AI A) : ∀ e, e < aS A 14 → aN A 14 e ≤ 9 := fun e he => (h.ib.2.2.2.2.2.2.2.2.2.2.2.1 e he).2.2.1
theorem op_kindAt (h : JV b z A μ) (w : WF μ) : OPB b z [exIOB] (fun μ => f_X10_kindAt b x1 μ) (fun μ => f_X11_kindAt (b + 30) x1 μ) A μ := by
  obtain ⟨⟨fr, ⟨G, ar, s, hr⟩, hm, oc9, hz⟩, ai⟩ := id h
  exact OPB.get h w ((c_endG fr hr (by have := ai.n14; omega)).1) fun μ2 ρ r w2 n2 => mget r ai (m_endG r (by have := ai.n14; omega)).1
theorem op_placeAt (h : JV b z A μ) (w : WF μ) : OPB b z [exIOB] (fun μ => f_X10_placeAt b x1 μ) (fun μ => f_X11_placeAt (b + 30) x1 μ) A μ := by
  obtain ⟨⟨fr, ⟨G, ar, s, hr⟩, hm, oc9, hz⟩, ai⟩ := id h
  exact OPB.get h w ((c_endG fr hr (by have := ai.n14; omega)).2.1) fun μ2 ρ r w2 n2 => mget r ai (m_endG r (by have := ai.n14; omega)).2
theorem op_kindByPlain (h : JV b z A μ) (w : WF μ) : OPB b z [exIOB] (fun μ => f_X10_kindByPlain b x1 μ) (fun μ => f_X11_kindByPlain (b + 30) x1 μ) A μ := by
  obtain ⟨⟨fr, ⟨G, ar, s, hr⟩, hm, oc9, hz⟩, ai⟩ := id h
  exact OPB.get h w ((c_endG fr hr (by have := ai.n14; omega)).2.2.1) fun μ2 ρ r w2 n2 => by
    obtain ⟨v9, μ3, e1, e2, e3, e4, e5⟩ := (m_byPlain (x := x1) r w2 n2 ai.ib ai.2.1 ai.n10 (by have := ai.n14; omega)).1
    exact ⟨v9, ρ, μ3, e1, e2, e3, e4, e5⟩
theorem op_placeByPlain (h : JV b z A μ) (w : WF μ) : OPB b z [exIOB] (fun μ => f_X10_placeByPlain b x1 μ) (fun μ => f_X11_placeByPlain (b + 30) x1 μ) A μ := by
  obtain ⟨⟨fr, ⟨G, ar, s, hr⟩, hm, oc9, hz⟩, ai⟩ := id h
  exact OPB.get h w ((c_endG fr hr (by have := ai.n14; omega)).2.2.2) fun μ2 ρ r w2 n2 => by
    obtain ⟨v9, μ3, e1, e2, e3, e4, e5⟩ := (m_byPlain (x := x1) r w2 n2 ai.ib ai.2.1 ai.n10 (by have := ai.n14; omega)).2
    exact ⟨v9, ρ, μ3, e1, e2, e3, e4, e5⟩
theorem op_register (h : JV b z A μ) (w : WF μ) : OPB b z [exIAE] (fun μ => f_X10_register b x1 μ) (fun μ => f_X11_register (b + 30) x1 μ) A μ := by
  obtain ⟨⟨fr, ⟨G, ar, s, hr⟩, hm, oc9, hz⟩, ai⟩ := id h
  exact OPB.get h w (c_register fr ai.r24) fun μ2 ρ r w2 n2 => mget r ai (m_register r ai.r24)
theorem op_registerByPlain (h : JV b z A μ) (w : WF μ) : OPB b z [exIAE] (fun μ => f_X10_registerByPlain b x1 μ) (fun μ => f_X11_registerByPlain (b + 30) x1 μ) A μ := by
  obtain ⟨⟨fr, ⟨G, ar, s, hr⟩, hm, oc9, hz⟩, ai⟩ := id h
  exact OPB.get h w (c_registerByPlain fr) fun μ2 ρ r w2 n2 => by
    obtain ⟨v9, μ3, e1, e2, e3, e4, e5⟩ := m_regByPlain (x := x1) r w2 n2 ai.ib ai.2.1 ai.n10 (by have := ai.n14; omega)
    exact ⟨v9, ρ, μ3, e1, e2, e3, e4, e5⟩
theorem op_word (h : JV b z A μ) (w : WF μ) : OPB b z [exIAE] (fun μ => f_X10_word b x1 μ) (fun μ => f_X11_word (b + 30) x1 μ) A μ := by
  obtain ⟨⟨fr, ⟨G, ar, s, hr⟩, hm, oc9, hz⟩, ai⟩ := id h
  exact OPB.get h w (c_word fr) fun μ2 ρ r w2 n2 => mget r ai (m_word r)
theorem op_wordByPlain (h : JV b z A μ) (w : WF μ) : OPB b z [exIAE] (fun μ => f_X10_wordByPlain b x1 μ) (fun μ => f_X11_wordByPlain (b + 30) x1 μ) A μ := by
  obtain ⟨⟨fr, ⟨G, ar, s, hr⟩, hm, oc9, hz⟩, ai⟩ := id h
  exact OPB.get h w (c_wordByPlain fr) fun μ2 ρ r w2 n2 => by
    obtain ⟨v9, μ3, e1, e2, e3, e4, e5⟩ := m_wordByPlain (x := x1) r w2 n2 ai.ib ai.2.1 ai.n10 (by have := ai.n14; omega)
    exact ⟨v9, ρ, μ3, e1, e2, e3, e4, e5⟩
theorem op_inner (h : JV b z A μ) (w : WF μ) : OPB b z [exIAE] (fun μ => f_X10_inner b x1 μ) (fun μ => f_X11_inner (b + 30) x1 μ) A μ := by
  obtain ⟨⟨fr, ⟨G, ar, s, hr⟩, hm, oc9, hz⟩, ai⟩ := id h
  exact OPB.get h w (c_inner fr) fun μ2 ρ r w2 n2 => mget r ai (m_inner r)
theorem op_innerAnew (h : JV b z A μ) (w : WF μ) : OPB b z [exIAE] (fun μ => f_X10_innerAnew b x1 μ) (fun μ => f_X11_innerAnew (b + 30) x1 μ) A μ := by
  obtain ⟨⟨fr, ⟨G, ar, s, hr⟩, hm, oc9, hz⟩, ai⟩ := id h
  exact OPB.get h w (c_innerAnew fr hr ai.ib) fun μ2 ρ r w2 n2 => mget r ai (m_innerAnew r)
theorem op_stateOf (h : JV b z A μ) (w : WF μ) : OPB b z [exIOB] (fun μ => f_X10_stateOf b x1 μ) (fun μ => f_X11_stateOf (b + 30) x1 μ) A μ := by
  obtain ⟨⟨fr, ⟨G, ar, s, hr⟩, hm, oc9, hz⟩, ai⟩ := id h
  exact OPB.get h w (c_stateOf fr ai.ib) fun μ2 ρ r w2 n2 => mget r ai (m_stateOf r ai.ib ai.n9 ai.n10)
theorem op_isReady (h : JV b z A μ) (w : WF μ) : OPB b z [exIOB] (fun μ => f_X10_isReady b x1 μ) (fun μ => f_X11_isReady (b + 30) x1 μ) A μ := by
  obtain ⟨⟨fr, ⟨G, ar, s, hr⟩, hm, oc9, hz⟩, ai⟩ := id h
  exact OPB.get h w (c_isReady fr ai.n8 ai.a2) fun μ2 ρ r w2 n2 => mget r ai (m_isReady r ai.n8 ai.a2)
theorem op_freeAt (h : JV b z A μ) (w : WF μ) : OPB b z [exIOB] (fun μ => f_X10_freeAt b x1 μ) (fun μ => f_X11_freeAt (b + 30) x1 μ) A μ := by
  obtain ⟨⟨fr, ⟨G, ar, s, hr⟩, hm, oc9, hz⟩, ai⟩ := id h
  exact OPB.get h w (c_freeAt fr ai.s7) fun μ2 ρ r w2 n2 => mget r ai (m_freeAt r ai.s7)
theorem op_bufferAt (h : JV b z A μ) (w : WF μ) : OPB b z [exIOB] (fun μ => f_X10_bufferAt b x1 μ) (fun μ => f_X11_bufferAt (b + 30) x1 μ) A μ := by
  obtain ⟨⟨fr, ⟨G, ar, s, hr⟩, hm, oc9, hz⟩, ai⟩ := id h
  exact OPB.get h w (c_bufferAt fr hr ai.n9 ai.eo) fun μ2 ρ r w2 n2 => mget r ai (m_bufG r ai.n9 ai.es).1
theorem op_stageAt (h : JV b z A μ) (w : WF μ) : OPB b z [exIOB] (fun μ => f_X10_stageAt b x1 μ) (fun μ => f_X11_stageAt (b + 30) x1 μ) A μ := by
  obtain ⟨⟨fr, ⟨G, ar, s, hr⟩, hm, oc9, hz⟩, ai⟩ := id h
  exact OPB.get h w (c_stageAt fr hr ai.n9 ai.es) fun μ2 ρ r w2 n2 => mget r ai (m_bufG r ai.n9 ai.es).2
theorem op_returnAt (h : JV b z A μ) (w : WF μ) : OPB b z [exIOB] (fun μ => f_X10_returnAt b x1 μ) (fun μ => f_X11_returnAt (b + 30) x1 μ) A μ := by
  obtain ⟨⟨fr, ⟨G, ar, s, hr⟩, hm, oc9, hz⟩, ai⟩ := id h
  exact OPB.get h w (c_returnAt fr hr ai.t4) fun μ2 ρ r w2 n2 => mget r ai (m_returnAt r ai.t4)
theorem op_counter (h : JV b z A μ) (w : WF μ) : OPB b z [exIAE] (fun μ => f_X10_counter b x1 μ) (fun μ => f_X11_counter (b + 30) x1 μ) A μ := by
  obtain ⟨⟨fr, ⟨G, ar, s, hr⟩, hm, oc9, hz⟩, ai⟩ := id h
  exact OPB.get h w (c_counter fr) fun μ2 ρ r w2 n2 => mget r ai (m_counter r)
theorem op_isMarked (h : JV b z A μ) (w : WF μ) : OPB b z [exIAE] (fun μ => f_X10_isMarked b x1 μ) (fun μ => f_X11_isMarked (b + 30) x1 μ) A μ := by
  obtain ⟨⟨fr, ⟨G, ar, s, hr⟩, hm, oc9, hz⟩, ai⟩ := id h
  exact OPB.get h w (c_isMarked fr ai.a5) fun μ2 ρ r w2 n2 => mget r ai (m_isMarked r ai.a5)
theorem op_lineAt (h : JV b z A μ) (w : WF μ) : OPB b z [exIAE] (fun μ => f_X10_lineAt b x1 μ) (fun μ => f_X11_lineAt (b + 30) x1 μ) A μ := by
  obtain ⟨⟨fr, ⟨G, ar, s, hr⟩, hm, oc9, hz⟩, ai⟩ := id h
  exact OPB.get h w (c_lineAt fr) fun μ2 ρ r w2 n2 => mget r ai (m_lineAt r)
theorem op_lost (h : JV b z A μ) (w : WF μ) : OPB b z [exIAE] (fun μ => f_X10_lost b x1 μ) (fun μ => f_X11_lost (b + 30) x1 μ) A μ := by
  obtain ⟨⟨fr, ⟨G, ar, s, hr⟩, hm, oc9, hz⟩, ai⟩ := id h
  exact OPB.get h w (c_lost fr) fun μ2 ρ r w2 n2 => mget r ai (m_lost r)
theorem op_kept (h : JV b z A μ) (w : WF μ) : OPB b z [exNSE] (fun μ => f_X10_kept b μ) (fun μ => f_X11_kept (b + 30) μ) A μ := by
  obtain ⟨⟨fr, ⟨G, ar, s, hr⟩, hm, oc9, hz⟩, ai⟩ := id h
  refine OPB.get (p := !decide (aS A 3 = 0)) (v := nI (aS A 4)) h w ?_ fun μ2 ρ r w2 n2 => mget (d := 0) r ai ?_
  · by_cases q : aS A 3 = 0
    · refine ((c_kept fr hr ai.s3).2 q).trans ?_
      rw [decide_eq_true q]
      rfl
    · refine ((c_kept fr hr ai.s3).1 q).trans ?_
      rw [decide_eq_false q]
      rfl
  · refine (m_kept r ai.s3).trans ?_
    by_cases q : aS A 3 = 0
    · rw [if_pos q, if_pos q, decide_eq_true q]
      rfl
    · rw [if_neg q, if_neg q, decide_eq_false q]
      rfl
theorem op_fetching (h : JV b z A μ) (w : WF μ) : OPB b z [exNSE] (fun μ => f_X10_fetching b μ) (fun μ => f_X11_fetching (b + 30) μ) A μ := by
  obtain ⟨⟨fr, ⟨G, ar, s, hr⟩, hm, oc9, hz⟩, ai⟩ := id h
  refine OPB.get (p := decide (aS A 12 = 0)) (v := nI (aS A 11)) h w ?_ fun μ2 ρ r w2 n2 => mget (d := 0) r ai ?_
  · by_cases q : aS A 12 = 0
    · refine ((c_fetching fr ai.s12).1 q).trans ?_
      rw [decide_eq_true q]
      rfl
    · refine ((c_fetching fr ai.s12).2 q).trans ?_
      rw [decide_eq_false q]
      rfl
  · refine (m_fetching r ai.s12).trans ?_
    by_cases q : aS A 12 = 0
    · rw [if_pos q, if_pos q, decide_eq_true q]
      rfl
    · rw [if_neg q, if_neg q, decide_eq_false q]
      rfl
theorem kLife_le : kLife A x1 x2 ≤ 3 := by
  unfold kLife
  split
  · decide
  · split
    · decide
    · split <;> decide
theorem op_life (h : JV b z A μ) (w : WF μ) : OPB b z [exIOB, exIAE, exNSE] (fun μ => f_X10_life b x1 x2 μ) (fun μ => f_X11_life (b + 30) x1 x2 μ) A μ := by
  obtain ⟨⟨fr, ⟨G, ar, s, hr⟩, hm, oc9, hz⟩, ai⟩ := id h
  have kl : kLife A x1 x2 ≤ 3 := kLife_le
  have cf := c_life (x := x1) (y := x2) fr hr (by have := ai.n14; omega)
  have md : ∀ (μ2 : Mm) (ρ : Nat → Nat), RM b A ρ μ2 → WF μ2 → b + 86 ≤ mN μ2 → ∃ (w : Int32) (ρ' : Nat → Nat) (μ3 : Mm), f_X11_life (b + 30) x1 x2 μ2 = some (w, μ3) ∧ (kLife A x1 x2 = 0 → w = lifeV A x1.toNatClampNeg x2.toNatClampNeg) ∧ RM b A ρ' μ3 ∧ mI μ3 (b + 30) 54 = nI (kLife A x1 x2) ∧ ML b 0 μ2 μ3 := fun μ2 ρ r w2 n2 => by
    obtain ⟨v9, μ3, e1, e2, e3, e4, e5⟩ := m_life (x := x1) (y := x2) r ai.n9 ai.n10 (by have := ai.n14; omega) ai.en
    exact ⟨v9, ρ, μ3, e1, e2, e3, e4, e5⟩
  by_cases hk : kLife A x1 x2 = 0
  · refine OPB.of (k := kLife A x1 x2) (μ1 := μ) (e := 0) (sl := 0) (e2 := 0) h w kl ?_ fr hr CK.refl0 ai (by omega) (by omega) md
    refine cf.trans ?_
    unfold ocL rOf
    rw [if_pos hk, if_pos hk]
  · refine OPB.of (k := kLife A x1 x2) (μ1 := bump μ 6) (e := 1) (sl := 6) (e2 := 0) h w kl ?_ fr.bump hr.bump bump_ck ai (by omega) (by omega) md
    refine cf.trans ?_
    have : kLife A x1 x2 = 1 ∨ kLife A x1 x2 = 2 ∨ kLife A x1 x2 = 3 := by omega
    rcases this with q | q | q <;> rw [q] <;> rfl
theorem JV.s54 {v : Int32} (h : JV b z A μ) (w : WF μ) : JV b z A (sI μ (b + 30) 54 v) := by
  obtain ⟨ρ, r⟩ := h.1.2.2.1
  exact ⟨(h.1.mo w (m_54 r h.2.n9 h.2.n10) ML.put).1, h.2⟩
theorem m_inQueue {ρ : Nat → Nat} (r : RM b A ρ μ) (ai : AI A) : f_X11_inQueue (b + 30) μ = some (nI (cntQ A (aS A 9)), sI μ (b + 30) 54 0) := by
  have q := m_inQ (m_54 (v := 0) r ai.n9 ai.n10) ai.ib
  simp only [f_X11_inQueue, r.1.1, ckT, zlS, q, bdS]
theorem og_cycle (h : JV b z A μ) : ∃ v, f_X10_cycle b μ = some v ∧ f_X11_cycle (b + 30) μ = some (v, sI μ (b + 30) 54 0) := by
  obtain ⟨⟨fr, ⟨G, ar, s, hr⟩, ⟨ρ, r⟩, oc9, hz⟩, ai⟩ := id h
  exact ⟨_, (c_getS fr).1, (m_getS r).1⟩
theorem og_free (h : JV b z A μ) : ∃ v, f_X10_free b μ = some v ∧ f_X11_free (b + 30) μ = some (v, sI μ (b + 30) 54 0) := by
  obtain ⟨⟨fr, ⟨G, ar, s, hr⟩, ⟨ρ, r⟩, oc9, hz⟩, ai⟩ := id h
  exact ⟨_, (c_getS fr).2.1, (m_getS r).2.1⟩
theorem og_inBuffer (h : JV b z A μ) : ∃ v, f_X10_inBuffer b μ = some v ∧ f_X11_inBuffer (b + 30) μ = some (v, sI μ (b + 30) 54 0) := by
  obtain ⟨⟨fr, ⟨G, ar, s, hr⟩, ⟨ρ, r⟩, oc9, hz⟩, ai⟩ := id h
  exact ⟨_, (c_getS fr).2.2.1, (m_getS r).2.2.1⟩
theorem og_fetched (h : JV b z A μ) : ∃ v, f_X10_fetched b μ = some v ∧ f_X11_fetched (b + 30) μ = some (v, sI μ (b + 30) 54 0) := by
  obtain ⟨⟨fr, ⟨G, ar, s, hr⟩, ⟨ρ, r⟩, oc9, hz⟩, ai⟩ := id h
  exact ⟨_, (c_getS fr).2.2.2.1, (m_getS r).2.2.2.1⟩
theorem og_asked (h : JV b z A μ) : ∃ v, f_X10_asked b μ = some v ∧ f_X11_asked (b + 30) μ = some (v, sI μ (b + 30) 54 0) := by
  obtain ⟨⟨fr, ⟨G, ar, s, hr⟩, ⟨ρ, r⟩, oc9, hz⟩, ai⟩ := id h
  exact ⟨_, (c_getS fr).2.2.2.2.1, (m_getS r).2.2.2.2.1⟩
theorem og_wrong (h : JV b z A μ) : ∃ v, f_X10_wrong b μ = some v ∧ f_X11_wrong (b + 30) μ = some (v, sI μ (b + 30) 54 0) := by
  obtain ⟨⟨fr, ⟨G, ar, s, hr⟩, ⟨ρ, r⟩, oc9, hz⟩, ai⟩ := id h
  exact ⟨_, (c_getS fr).2.2.2.2.2.1, (m_getS r).2.2.2.2.2.1⟩
theorem og_early (h : JV b z A μ) : ∃ v, f_X10_early b μ = some v ∧ f_X11_early (b + 30) μ = some (v, sI μ (b + 30) 54 0) := by
  obtain ⟨⟨fr, ⟨G, ar, s, hr⟩, ⟨ρ, r⟩, oc9, hz⟩, ai⟩ := id h
  exact ⟨_, (c_getS fr).2.2.2.2.2.2.1, (m_getS r).2.2.2.2.2.2.1⟩
theorem og_thrownAway (h : JV b z A μ) : ∃ v, f_X10_thrownAway b μ = some v ∧ f_X11_thrownAway (b + 30) μ = some (v, sI μ (b + 30) 54 0) := by
  obtain ⟨⟨fr, ⟨G, ar, s, hr⟩, ⟨ρ, r⟩, oc9, hz⟩, ai⟩ := id h
  exact ⟨_, (c_getS fr).2.2.2.2.2.2.2.1, (m_getS r).2.2.2.2.2.2.2.1⟩
theorem og_taken (h : JV b z A μ) : ∃ v, f_X10_taken b μ = some v ∧ f_X11_taken (b + 30) μ = some (v, sI μ (b + 30) 54 0) := by
  obtain ⟨⟨fr, ⟨G, ar, s, hr⟩, ⟨ρ, r⟩, oc9, hz⟩, ai⟩ := id h
  exact ⟨_, (c_getS fr).2.2.2.2.2.2.2.2.1, (m_getS r).2.2.2.2.2.2.2.2.1⟩
theorem og_ends (h : JV b z A μ) : ∃ v, f_X10_ends b μ = some v ∧ f_X11_ends_ (b + 30) μ = some (v, sI μ (b + 30) 54 0) := by
  obtain ⟨⟨fr, ⟨G, ar, s, hr⟩, ⟨ρ, r⟩, oc9, hz⟩, ai⟩ := id h
  exact ⟨_, (c_getS fr).2.2.2.2.2.2.2.2.2.1, m_ends r⟩
theorem og_hits (h : JV b z A μ) : ∃ v, f_X10_hits b μ = some v ∧ f_X11_hits (b + 30) μ = some (v, sI μ (b + 30) 54 0) := by
  obtain ⟨⟨fr, ⟨G, ar, s, hr⟩, ⟨ρ, r⟩, oc9, hz⟩, ai⟩ := id h
  exact ⟨_, (c_getS fr).2.2.2.2.2.2.2.2.2.2, (m_getS r).2.2.2.2.2.2.2.2.2⟩
theorem og_hasStopped (h : JV b z A μ) : ∃ v, f_X10_hasStopped b μ = some v ∧ f_X11_hasStopped (b + 30) μ = some (v, sI μ (b + 30) 54 0) := by
  obtain ⟨⟨fr, ⟨G, ar, s, hr⟩, ⟨ρ, r⟩, oc9, hz⟩, ai⟩ := id h
  exact ⟨_, c_hasStopped fr ai.s1, m_hasStopped r ai.s1⟩
theorem og_inQueue (h : JV b z A μ) : ∃ v, f_X10_inQueue b μ = some v ∧ f_X11_inQueue (b + 30) μ = some (v, sI μ (b + 30) 54 0) := by
  obtain ⟨⟨fr, ⟨G, ar, s, hr⟩, ⟨ρ, r⟩, oc9, hz⟩, ai⟩ := id h
  exact ⟨_, c_inQueue fr hr ai.ib, m_inQueue r ai⟩
theorem og_returns (h : JV b z A μ) : ∃ v, f_X10_returns b μ = some v ∧ f_X11_returns (b + 30) μ = some (v, sI μ (b + 30) 54 0) := by
  obtain ⟨⟨fr, ⟨G, ar, s, hr⟩, ⟨ρ, r⟩, oc9, hz⟩, ai⟩ := id h
  exact ⟨_, c_returns fr hr, m_returns r⟩
theorem og_isSame (h : JV b z A μ) : ∃ v, f_X10_isSame b μ = some v ∧ f_X11_isSame (b + 30) μ = some (v, sI μ (b + 30) 54 0) := by
  obtain ⟨⟨fr, ⟨G, ar, s, hr⟩, ⟨ρ, r⟩, oc9, hz⟩, ai⟩ := id h
  exact ⟨_, c_isSame fr hr ai.ib (by have := ai.n14; omega), (m_true r).1⟩
theorem og_isWhole (h : JV b z A μ) : ∃ v, f_X10_isWhole b μ = some v ∧ f_X11_isWhole (b + 30) μ = some (v, sI μ (b + 30) 54 0) := by
  obtain ⟨⟨fr, ⟨G, ar, s, hr⟩, ⟨ρ, r⟩, oc9, hz⟩, ai⟩ := id h
  exact ⟨_, c_isWhole fr hr ai.ib, (m_true r).2⟩
theorem og_interrupt (h : JV b z A μ) (w : WF μ) : ∃ v A' μ1 μ3, f_X10_interrupt b μ = some (v, μ1) ∧ f_X11_interrupt (b + 30) μ1 = some (v, μ3) ∧ JV b z A' μ3 ∧ PhC A' = PhC A ∧ PhS A' = PhS A ∧ P2 b z A A' μ1 ∧ mN μ1 ≤ mN μ ∧ mS μ1 ≤ mS μ ∧ mN μ3 ≤ mN μ ∧ mS μ3 ≤ mS μ := by
  obtain ⟨⟨fr, ⟨G, ar, s, hr⟩, hm, oc9, hz⟩, ai⟩ := id h
  obtain ⟨μ1, e1, fr', hr', ck⟩ := c_interrupt fr hr ai.s2
  have p2 := h.1.cl w ai.n9 ai.n10 fr' hr' ck
  obtain ⟨ρ, r⟩ := p2.2.2.1
  obtain ⟨μ3, e2, r', e54, ml⟩ := m_interrupt r ai.n9 ai.n10 ai.s2
  obtain ⟨p3, -, -⟩ := p2.mo (ck.1 w) r' ml
  have c2 := ck.2.2.1
  have c3 := ck.2.2.2.1
  have d2 := ml.2.2.1
  have d3 := ml.2.2.2.1
  refine ⟨_, zS A 2 1, μ1, μ3, e1, e2, ⟨p3, iy_intr ai.1, HF.hi ⟨rfl, rfl, rfl⟩ ai.2.1, fun q => z0_S (ai.2.2.1 q) (Or.inr (Or.inr (Or.inr ⟨rfl, Nat.le_refl _⟩))), ai.2.2.2⟩, rfl, rfl, p2, by omega, by omega, by omega, by omega⟩
end OPGET
