/-! the model: an entry's delay ends -/
section MEN2
variable {b : Nat} {A A' : Sx} {ρ : Nat → Nat} {μ μ' : Mm} {S : Nat → Nat → Bool}
theorem nIj {m n : Nat} (hm : m < 100000) (hn : n < 100000) (h : nI m = nI n) : m = n := by
  have := congrArg Int32.toNatClampNeg h
  rwa [clN hm, clN hn] at this
theorem nIne {m n : Nat} (hm : m < 100000) (hn : n < 100000) (h : m ≠ n) : nI m ≠ nI n := fun e => h (nIj hm hn e)
theorem mI_up (μ : Mm) (a k : Nat) (v : Int32) : mI (sI μ a k v) a = up1 (mI μ a) k v := by
  funext j
  rw [mI_i, up1_if]
  by_cases h : j = k
  · rw [if_pos h, if_pos ⟨rfl, h⟩]
  · rw [if_neg h, if_neg (fun z => h z.2)]
/-- the parts of a row that change while it is in the buffer -/
def REd (c : Nat) (x : Ent) (f : Nat → Int32) : Prop :=
  f 11 = nI (x.1 10) ∧ (isQd c = true → x.1 10 ≠ 113 → f 3 = nI (x.1 3)) ∧ (x.1 10 = 120 → f 12 = nI (x.1 11)) ∧ (x.1 10 = 101 → f 4 = nI (x.1 4)) ∧
  (f 13 = if isQd c = true then (if c = 9 then (if x.1 10 = 113 then 0 else nI (x.1 12)) else if x.1 10 = 113 ∨ x.1 10 = 120 then 0 else nI (x.1 12)) else if c = 20 then 4 else 0) ∧
  (isCt c = false ∨ x.1 10 = 101 → f 6 = x.2.1 0) ∧ (isMm c = true → x.1 12 = 0 → (c = 9 ∧ x.1 10 ≠ 113) ∨ x.1 10 = 101 → f 14 = x.2.1 1) ∧
  (c = 9 → x.1 10 ≠ 113 → x.2.1 3 ≠ -1 → f 15 = x.2.1 2) ∧ (hasD c = true → isQd c = true → x.1 10 = 98 ∨ x.1 10 = 101 → f 15 = x.2.1 2) ∧ (c = 9 → f 16 = x.2.1 3)
theorem REm.d {x : Ent} {f : Nat → Int32} (h : REm A x f) : REd (eC A x) x f := by
  obtain ⟨h0, h1, h2, h3, h4, h5, h6, h7, h8, h9, h10, h11⟩ := h
  exact ⟨h7, h11⟩
theorem REm.up {x y : Ent} {f f' : Nat → Int32} (h : REm A x f) (hP : SamP A A') (hf : ∀ j, j = 0 ∨ j = 1 ∨ j = 2 ∨ j = 5 ∨ j = 7 ∨ j = 8 ∨ j = 9 ∨ j = 10 ∨ 17 ≤ j → f' j = f j) (hy : ∀ i, i = 0 ∨ i = 1 ∨ i = 2 ∨ i = 5 ∨ i = 6 ∨ i = 7 ∨ i = 8 ∨ i = 9 ∨ i = 13 → y.1 i = x.1 i) (h2 : y.2.2 = x.2.2) (hd : REd (eC A x) y f') : REm A' y f' := by
  obtain ⟨h0, h1, h2', h3, h4, h5, h6, h7, h8, h9, h10, h11⟩ := h
  have ec : eC A' y = eC A x := (hP.c (hy 0 (by omega))).1
  unfold REm
  rw [ec, h2, hf 0 (by omega), hf 1 (by omega), hf 2 (by omega), hf 5 (by omega), hf 7 (by omega), hf 8 (by omega), hf 17 (by omega), hf 9 (by omega), hf 10 (by omega), hy 0 (by omega), hy 1 (by omega), hy 2 (by omega), hy 5 (by omega), hy 6 (by omega), hy 7 (by omega), hy 8 (by omega), hy 9 (by omega), hy 13 (by omega)]
  obtain ⟨d1, d2⟩ := hd
  refine ⟨h0, h1, h2', h3, h4, h5, h6, d1, ⟨(hf 23 (by omega)).trans h8.1, fun i hi => (hf _ (by omega)).trans (h8.2 i hi)⟩, fun a c => ⟨(hf 18 (by omega)).trans (h9 a c).1, fun i hi => (hf _ (by omega)).trans ((h9 a c).2 i hi)⟩, h10, d2⟩
theorem offM {o : Nat} (h : ¬ (o = 30 ∨ (38 ≤ o ∧ o ≤ 44) ∨ (72 ≤ o ∧ o ≤ 75) ∨ o = 81)) (k : Nat) : offT mT o k = true := by
  unfold offT
  simp only [Bool.and_eq_true, List.all_eq_true, List.mem_range, Bool.or_eq_true, Bool.not_eq_true', decide_eq_false_iff_not, Bool.and_eq_false_iff]
  have b1 : ∀ i, i < 25 → scI i = true → (mT.1 i).1 = 30 := by decide +kernel
  have b2 : ∀ i, i < 8 → (38 ≤ mT.2.1 i ∧ mT.2.1 i ≤ 44) ∨ (72 ≤ mT.2.1 i ∧ mT.2.1 i ≤ 75) ∨ mT.2.1 i = 81 := by decide +kernel
  have b3 : ∀ i, i < 5 → (mT.2.2 i).1 = 30 ∨ (38 ≤ (mT.2.2 i).1 ∧ (mT.2.2 i).1 ≤ 44) ∨ (72 ≤ (mT.2.2 i).1 ∧ (mT.2.2 i).1 ≤ 75) := by decide +kernel
  refine ⟨⟨fun i hi => ?_, fun r hr z => ?_⟩, fun r hr => Or.inl (Or.inl fun z => ?_)⟩
  · cases hs : scI i
    · exact Or.inl rfl
    · right
      intro z
      have := b1 i hi hs
      rw [z] at this
      have h3 : o = 30 := this
      omega
  · have := b2 r hr
    omega
  · have := b3 r hr
    omega
theorem RT.ch (h : RT mT b A μ) (g : CH b S μ μ') (hS : ∀ o k, S o k = true → ¬ (o = 30 ∨ (38 ≤ o ∧ o ≤ 44) ∨ (72 ≤ o ∧ o ≤ 75) ∨ o = 81)) : RT mT b A μ' := h.keep (fun o k h2 => g.cell (by
  cases hz : S o k with
  | false => rfl
  | true => rw [offM (hS o k hz) k] at h2; cases h2))
/-- any cell of the model but the one that tells an exception -/
def sMo (o k : Nat) : Bool := decide (30 ≤ o ∧ o < 84 ∧ ¬ (o = 30 ∧ k = 54))
/-- a row -/
def sRow (r o _ : Nat) : Bool := o == r
theorem sRow_e {r o k : Nat} (h : sRow r o k = true) : o = r := by
  unfold sRow at h
  simpa using h
theorem sRow_at (r k : Nat) : sRow r r k = true := by
  unfold sRow
  simp
theorem CH.mo {r : Nat} (g : CH b (sRow r) μ μ') (h : 46 ≤ r ∧ r < 62) : CH b sMo μ μ' := g.mono (fun o k z => by
  have := sRow_e z
  exact decide_eq_true (by omega))
theorem tpV_le (c : Nat) (x y n : Int32) : tpV c x y n ≤ 5 := by
  unfold tpV
  repeat' split
  all_goals omega
/-- the trap that a row has when its delay has ended, as the model finds it -/
theorem m_endsD1 {k : Nat} (h : RM b A ρ μ) (q : IB A) (hk : k < aS A 9) (hs : (aB A k).1 10 = 120) (hd : hasD (eC A (aB A k)) = true) : f_X11_ends (b + 30) (nI k) μ = f_X11_ends_b48 (b + 30) (b + ρ k) (nI ((aB A k).1 12)) 13 (b + ρ k) μ := by
  have s := h.1
  unfold SM at s
  obtain ⟨q1, q2, q3, q4, q5, q6, q7, -⟩ := id q
  have hn9 : aS A 9 ≤ 16 := by have := q2.1; have := q1.2.1; omega
  obtain ⟨r1, r2, r3⟩ := h.2.2.1.1 k (by omega)
  have s2 := h.1.row ⟨r2, r3⟩
  have re := h.2.2.2.1 k hk
  have ho := q6 k hk
  obtain ⟨d1, d2, d3, d4, d5, d6, d7⟩ := q7 k hk
  have ab := q.ab hk
  obtain ⟨x, hx⟩ : ∃ x, x = aB A k := ⟨_, rfl⟩
  rw [← hx] at re ho hs hd d1 d2 d3 d4 d5 d6 d7 ab ⊢
  have hq : isQd (eC A x) = true := by
    cases h : isQd (eC A x) with
    | true => rfl
    | false => have := d2 h; omega
  have hp := q1.p ho.1
  have hec : eC A x = aN A 10 (x.1 0) := rfl
  have hco : f_X11_codeOf (b + 30) (b + ρ k) μ = some (nI (eC A x)) := m_codeOf h.1 h.2.2.2.2.2.1 (q1.2.2.2.2.1) s2.1 s2.2 re.1 ho.1
  have hcd := m_hasD (eC A x) (by rw [hec]; omega)
  rw [hd] at hcd
  have cm := d7 (by omega)
  have f13 := re.d.2.2.2.2.1
  rw [hq, if_pos rfl] at f13
  have f8 : mI μ (b + ρ k) 8 = nI (x.1 7) := re.2.2.2.2.2.1
  have n10 : ¬ (1 : Int32) = 0 := by decide
  by_cases h5 : eC A x = 5
  · have hv := h.2.1.v1 ab.2
    have cm3 := cm.2.2.1
    have hy : opY A x = eY A x := by
      unfold opY
      rw [h5]
      rfl
    rw [h5, if_neg (by omega)] at cm3
    have tv : tpV 5 (opX A x) (opY A x) (eI A x) = if eY A x = 0 then 1 else 0 := by rw [hy]; rfl
    rw [tv] at cm3
    rw [h5] at hco hcd f13
    rw [if_neg (by decide), if_pos (Or.inr hs)] at f13
    have e5 : nI 5 = 5 := rfl
    have hyy : eY A x = aV A 1 (x.1 7) := rfl
    rw [hyy] at cm3
    by_cases hz : aV A 1 (x.1 7) = 0
    · rw [if_pos hz] at cm3
      rw [cm3]
      simp only [f_X11_ends, s, ckT, bdS, ckA, ckI, tcL, s2, r1, hco, hcd, bI, if_true, n10, if_false, e5, not_true, f8, hv, hz, ck_t (inbN (p := k) (n := 16) (by omega) (by omega)), clN (show k < 100000 by omega), ck_t (inbN (p := x.1 7) (n := 24) ab.2 (by omega)), clN (show x.1 7 < 100000 by omega)]
      rfl
    · rw [if_neg hz] at cm3
      rw [cm3]
      simp only [f_X11_ends, s, ckT, bdS, ckA, ckI, tcL, s2, r1, hco, hcd, bI, if_true, n10, if_false, e5, not_true, f8, hv, hz, not_false_eq_true, ck_t (inbN (p := k) (n := 16) (by omega) (by omega)), clN (show k < 100000 by omega), ck_t (inbN (p := x.1 7) (n := 24) ab.2 (by omega)), clN (show x.1 7 < 100000 by omega), f_X11_ends_b44, f13]
      rfl
  · have hn5 : ¬ nI (eC A x) = 5 := nIne (n := 5) (by rw [hec]; omega) (by omega) h5
    have e13 : mI μ (b + ρ k) 13 = nI (x.1 12) := by
      rw [f13]
      by_cases h9 : eC A x = 9
      · rw [if_pos h9, if_neg (by omega)]
      · rw [if_neg h9, if_pos (Or.inr hs)]
        have cm3 := cm.2.2.1
        have hcc : eC A x = 1 ∨ eC A x = 2 ∨ eC A x = 3 ∨ eC A x = 4 ∨ eC A x = 6 ∨ eC A x = 7 ∨ eC A x = 8 := by
          have e1 := hq
          have e2 := hd
          unfold isQd at e1
          unfold hasD at e2
          simp only [Bool.or_eq_true, Bool.and_eq_true, decide_eq_true_eq] at e1 e2
          omega
        have : x.1 12 = 0 := by
          rw [cm3]
          rcases hcc with e | e | e | e | e | e | e <;> rw [e] <;> rfl
        rw [this]
        rfl
    simp only [f_X11_ends, s, ckT, bdS, ckA, ckI, tcL, s2, r1, hco, hcd, bI, if_true, n10, if_false, hn5, not_false_eq_true, ck_t (inbN (p := k) (n := 16) (by omega) (by omega)), clN (show k < 100000 by omega), f_X11_ends_b44, e13]
theorem m_endsD {k : Nat} (h : RM b A ρ μ) (q : IB A) (f : IF A) (hk : k < aS A 9) (hs : (aB A k).1 10 = 120) (hd : hasD (eC A (aB A k)) = true) : ∃ μ', f_X11_ends (b + 30) (nI k) μ = some ((), μ') ∧ RM b (endDl A k) ρ μ' ∧ CH b sMo μ μ' := by
  rw [m_endsD1 h q hk hs hd]
  have s := h.1
  unfold SM at s
  obtain ⟨q1, q2, q3, q4, q5, q6, q7, q8, -⟩ := id q
  have hn9 : aS A 9 ≤ 16 := by have := q2.1; have := q1.2.1; omega
  have hn10 : aS A 10 ≤ 8 := by have := f.1; have := q1.1; omega
  obtain ⟨r1, r2, r3⟩ := h.2.2.1.1 k (by omega)
  have s2 := h.1.row ⟨r2, r3⟩
  have re := h.2.2.2.1 k hk
  have ho := q6 k hk
  obtain ⟨d1, d2, d3, d4, d5, d6, d7⟩ := q7 k hk
  have ab := q.ab hk

  obtain ⟨y1, y2, y3, y4, y5, y6, y7⟩ := endY_f A k
  obtain ⟨x, hx⟩ : ∃ x, x = aB A k := ⟨_, rfl⟩
  rw [← hx] at re ho hs hd d1 d2 d3 d4 d5 d6 d7 ab y1 y2 y3 y4 y5 y6 y7 ⊢
  have hq : isQd (eC A x) = true := by
    cases h : isQd (eC A x) with
    | true => rfl
    | false => have := d2 h; omega
  have hp := q1.p ho.1
  have hec : eC A x = aN A 10 (x.1 0) := rfl
  have cm := d7 (by omega)
  obtain ⟨c1, c2, c3, c4, c5, c6, c7, c8, c9⟩ := cm
  have t5 : x.1 12 ≤ 5 := by
    rw [c3]
    split
    · exact Nat.le_refl _
    · exact tpV_le _ _ _ _
  have n13 : eC A x ≠ 21 := fun z => by rw [z] at hd; cases hd
  rw [if_neg (fun z => n13 z.1)] at c3
  obtain ⟨-, w3, w12, w4, w13, w6, w14, w15, w15b, w16⟩ := re.d
  -- memory after the trap
  have g1 : CH b (sRow (ρ k)) μ (sI μ (b + ρ k) 13 (nI (x.1 12))) := CH.put (sRow_at _ _)
  obtain ⟨μ1, hμ1⟩ : ∃ μ1, μ1 = sI μ (b + ρ k) 13 (nI (x.1 12)) := ⟨_, rfl⟩
  have hro : ∀ o j, sRow (ρ k) o j = true → ¬ (o = 30 ∨ (38 ≤ o ∧ o ≤ 44) ∨ (72 ≤ o ∧ o ≤ 75) ∨ o = 81) := fun o j z => by
    have := sRow_e z
    omega
  have hrf : ∀ {o j : Nat}, o < 46 → sRow (ρ k) o j = false := fun {o j} ho => by
    cases hz : sRow (ρ k) o j with
    | false => rfl
    | true => have := sRow_e hz; omega
  rw [← hμ1] at g1
  have S1 := h.1.ch g1
  have T1 := h.2.1.ch g1 hro
  have P1 : PM b A μ1 := h.2.2.2.2.2.1.ch g1 (fun o j _ _ => hrf (by omega))
  have row1 : mI μ1 (b + ρ k) = up1 (mI μ (b + ρ k)) 13 (nI (x.1 12)) := by rw [hμ1, mI_up]
  have s2' := S1.row ⟨r2, r3⟩
  have hres : f_X11_result (b + 30) (b + ρ k) μ1 = some ((endY A k).2.1 2) := by
    have z0 : mI μ1 (b + ρ k) 0 = nI (x.1 0) := by rw [row1]; exact re.1
    have z7 : mI μ1 (b + ρ k) 7 = nI (x.1 6) := by rw [row1]; exact re.2.2.2.2.1
    have z8 : mI μ1 (b + ρ k) 8 = nI (x.1 7) := by rw [row1]; exact re.2.2.2.2.2.1
    by_cases h9 : eC A x = 9
    · refine m_result9 S1 T1 P1 q1.2.2.2.2.1 (p := x.1 0) (ra := x.1 6) (rb := x.1 7) (t := x.1 12) (g := x.2.1 3) (ad := x.2.1 1) s2'.1 s2'.2 z0 ho.1 z7 z8 ab.1 ab.2 h9 ?_ t5 ?_ (fun hg => ?_) (fun ht => ?_) (fun ht => ?_) (fun ht hg => ?_) (fun ht => ?_)
      · rw [row1]
        rfl
      · rw [row1]
        exact w16 h9
      · rw [row1]
        rw [y7 (fun z => hg z.2.1)]
        exact w15 h9 (by omega) hg
      · rw [row1]
        exact w14 (by rw [h9]; rfl) ht (Or.inl ⟨h9, by omega⟩)
      · rw [c6, if_pos ⟨by rw [h9]; rfl, ht⟩]
        have c3' := c3
        rw [ht, h9] at c3'
        have tv : tpV 9 (opX A x) (opY A x) (eI A x) = if adok (opX A x + eI A x) = true then 0 else 2 := rfl
        rw [tv] at c3'
        cases hz : adok (opX A x + eI A x) with
        | true => rfl
        | false => rw [hz, if_neg (by decide)] at c3'; cases c3'
      · exact y6 h9 hg ht
      · rw [y7 (fun z => ht z.2.2)]
        exact c8 h9 ht
    · have hcc : 1 ≤ eC A x ∧ eC A x ≤ 8 := by
        have e1 := hq
        have e2 := hd
        unfold isQd at e1
        unfold hasD at e2
        simp only [Bool.or_eq_true, Bool.and_eq_true, decide_eq_true_eq] at e1 e2
        omega
      have e1 := m_result1 S1 T1 P1 q1.2.2.2.2.1 s2'.1 s2'.2 z0 ho.1 z7 z8 ab.1 ab.2 (by rw [← hec]; exact hcc)
      rw [e1, y7 (fun z => h9 z.1), c7 h9 hq, ← hec, rsV_n _ _ _ _ _ (by omega)]
      have e2 : (if nX (eC A x) = true then aV A 1 (x.1 6) else 0) = opX A x := rfl
      have e3 : (if nB (eC A x) = true then aV A 1 (x.1 7) else 0) = opY A x := rfl
      rw [e2, e3]
      by_cases ht : x.1 12 = 0
      · rw [if_pos ht]
        rfl
      · rw [if_neg ht]
        have h5 : eC A x = 5 ∧ opY A x = 0 := by
          rw [c3] at ht
          have : eC A x = 1 ∨ eC A x = 2 ∨ eC A x = 3 ∨ eC A x = 4 ∨ eC A x = 5 ∨ eC A x = 6 ∨ eC A x = 7 ∨ eC A x = 8 := by omega
          rcases this with e | e | e | e | e | e | e | e <;> rw [e] at ht <;> first | exact absurd rfl ht | skip
          refine ⟨e, ?_⟩
          by_cases hz : opY A x = 0
          · exact hz
          · exact absurd (if_neg hz) ht
        rw [h5.1, h5.2]
        rfl
  obtain ⟨v, hv⟩ : ∃ v, v = (endY A k).2.1 2 := ⟨_, rfl⟩
  rw [← hv] at hres y6 y7
  have g : CH b (sRow (ρ k)) μ (sI (sI μ1 (b + ρ k) 15 v) (b + ρ k) 11 98) := (g1.trans (CH.put (sRow_at _ _))).trans (CH.put (sRow_at _ _))
  refine ⟨sI (sI μ1 (b + ρ k) 15 v) (b + ρ k) 11 98, ?_, ?_, g.mo ⟨r2, r3⟩⟩
  · simp only [f_X11_ends_b48, ckA, ckI, ckT, bdS, zlS, tcL, s2, ← hμ1, s2', S1.1, hres, mK_sI, mL_sI]
  · have hP : SamP A (endDl A k) := (endDl_St A k).P
    have eB : ∀ j, aB (endDl A k) j = if j = k then endY A k else aB A j := fun j => by rw [endDl_eq]; rfl
    have hN : aN (endDl A k) = aN A := by rw [endDl_eq]; rfl
    have hV : aV (endDl A k) = aV A := by rw [endDl_eq]; rfl
    have hS : aS (endDl A k) = aS A := by rw [endDl_eq]; rfl
    refine h.nx ((h.2.1.ch g hro).cg (fun i _ => by rw [hS]) (fun _ _ _ _ => by rw [hN]) (fun _ _ _ _ => by rw [hV])) (h.2.2.2.1.upd (k := k) h.2.2.1 hn9 (by omega) g (fun o j z => Or.inl (sRow_e z)) hP (by rw [hS]; exact Nat.le_refl _) (fun j _ hj => by rw [eB, if_neg hj]) (fun _ => ?_)) g (fun o j z => ?_) hn10 hP (by rw [hS]; exact Nat.le_refl _) (fun j _ => by rw [endDl_eq]; rfl) (by rw [hS]) (by rw [hV]) (by rw [hV]) (by rw [endDl_eq]; rfl) (by rw [endDl_eq]; rfl) (fun z => by rw [hS] at z ⊢; exact ⟨z, rfl⟩) (by rw [hS]) (fun r _ => by rw [hN]) (by rw [hV])
    · rw [eB, if_pos rfl, mI_up, mI_up, row1]
      refine re.up hP (fun j hj => ?_) (fun i hi => y1 i (by omega) (by omega)) y2 ?_
      · rw [up1_ne _ _ (by omega), up1_ne _ _ (by omega), up1_ne _ _ (by omega)]
      · have y10 := y4 hd
        unfold REd
        rw [y10, y1 3 (by decide) (by decide), y1 12 (by decide) (by decide), y3 0 (by decide), y3 1 (by decide), y3 3 (by decide), ← hv, hq]
        have hct : isCt (eC A x) = false := by
          have e2 := hd
          unfold hasD at e2
          unfold isCt isQn isLp
          simp only [Bool.or_eq_true, Bool.and_eq_true, decide_eq_true_eq, Bool.or_eq_false_iff, decide_eq_false_iff_not] at e2 ⊢
          omega
        refine ⟨rfl, fun a _ => w3 hq (by omega), fun z => absurd z (by decide), fun z => absurd z (by decide), ?_, fun _ => w6 (Or.inl hct), fun a c e => w14 a c (Or.inl ⟨(e.resolve_right (by decide)).1, by omega⟩), fun _ _ _ => rfl, fun _ _ _ => rfl, fun a => w16 a⟩
        rw [if_pos rfl, if_neg (show ¬ ((98 : Nat) = 113) by decide), if_neg (show ¬ ((98 : Nat) = 113 ∨ (98 : Nat) = 120) by decide), ite_self]
        rfl
    · have := sRow_e z
      unfold tabB
      rw [Bool.or_eq_true]
      exact Or.inr (decide_eq_true (by omega))
end MEN2
