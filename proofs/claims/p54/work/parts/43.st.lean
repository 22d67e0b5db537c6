/-! steps that leave alone what renaming and fetching told -/
def stI (i : Nat) : Bool := decide (i ≠ 0 ∧ i ≠ 10 ∧ i ≠ 11 ∧ i ≠ 12 ∧ (i < 19 ∨ 24 < i))
def St (A B : Sx) : Prop :=
  (∀ i, stI i = true → aS B i = aS A i) ∧ (∀ r, r ≠ 2 → r ≠ 5 → r ≠ 7 → aN B r = aN A r) ∧ (∀ r, r ≠ 1 → r ≠ 4 → aV B r = aV A r) ∧
  ∀ k, k < aS A 9 → (∀ i, (i = 0 ∨ i = 5 ∨ i = 6 ∨ i = 7 ∨ i = 8 ∨ i = 9 ∨ i = 13) → (aB B k).1 i = (aB A k).1 i) ∧ (aB B k).2.2 = (aB A k).2.2
section ST
variable {A B C : Sx}
theorem St.refl0 : St A A := ⟨fun _ _ => Eq.refl _, fun _ _ _ _ => Eq.refl _, fun _ _ _ => Eq.refl _, fun _ _ => ⟨fun _ _ => Eq.refl _, Eq.refl _⟩⟩
theorem St.S (h : St A B) (i : Nat) (h0 : stI i = true := by decide) : aS B i = aS A i := h.1 i h0
theorem St.N (h : St A B) (r : Nat) (h0 : r ≠ 2 := by decide) (h1 : r ≠ 5 := by decide) (h2 : r ≠ 7 := by decide) : aN B r = aN A r := h.2.1 r h0 h1 h2
theorem St.V (h : St A B) (r : Nat) (h0 : r ≠ 1 := by decide) (h1 : r ≠ 4 := by decide) : aV B r = aV A r := h.2.2.1 r h0 h1
theorem St.trans (h : St A B) (g : St B C) : St A C := by
  refine ⟨fun i h0 => (g.1 i h0).trans (h.1 i h0), fun r a b c => (g.2.1 r a b c).trans (h.2.1 r a b c), fun r a b => (g.2.2.1 r a b).trans (h.2.2.1 r a b), fun k hk => ?_⟩
  have hk2 : k < aS B 9 := by rw [h.S 9]; exact hk
  obtain ⟨a, b⟩ := g.2.2.2 k hk2
  obtain ⟨a2, b2⟩ := h.2.2.2 k hk
  exact ⟨fun i hi => (a i hi).trans (a2 i hi), b.trans b2⟩
theorem St.P (h : St A B) : SamP A B := ⟨fun r h1 h2 => h.2.1 r (by omega) (by omega) (by omega), h.V 5⟩
theorem St.f (h : St A B) {k : Nat} (hk : k < aS A 9) (i : Nat) (hi : i = 0 ∨ i = 5 ∨ i = 6 ∨ i = 7 ∨ i = 8 ∨ i = 9 ∨ i = 13 := by decide) : (aB B k).1 i = (aB A k).1 i := (h.2.2.2 k hk).1 i hi
theorem St.E (h : St A B) {n : Nat} (hn : n ≤ aS A 9) : SamE A B n := fun k hk => ⟨h.f (by omega) 0, h.f (by omega) 8⟩
theorem St.c (h : St A B) {k : Nat} (hk : k < aS A 9) : eC B (aB B k) = eC A (aB A k) ∧ eD B (aB B k) = eD A (aB A k) ∧ eI B (aB B k) = eI A (aB A k) := h.P.c (h.f hk 0)
theorem St.cf (h : St A B) (q : CF A) : CF B := by
  unfold CF at q ⊢
  rw [h.S 16, h.S 17, h.S 18, h.S 8, h.S 15, h.N 10, h.N 11, h.N 12, h.N 13, h.V 5, h.V 0]
  exact q
theorem St.pt (h : St A B) (q : PT A) : PT B := fun i => by
  rw [h.N 1, h.N 3, h.S 9, h.S 7, h.S 8, cntD_congr h.P (h.E (Nat.le_refl _))]
  exact q i
theorem St.ma (h : St A B) {n : Nat} (hn : n ≤ aS A 9) : ∀ r, r < 8 → mapAt B n r = mapAt A n r := mapAt_congr h.P (fun r _ => by rw [h.N 1]) (h.E hn)
theorem St.mc (h : St A B) (hc : CF A) (he : ∀ k, k < aS A 9 → okE A (aB A k)) (q : MC A) : MC B := by
  refine ⟨fun r hr => ?_, fun k hk => ?_⟩
  · rw [h.N 0, h.S 9, h.ma (Nat.le_refl _) r hr]
    exact q.1 r hr
  · rw [h.S 9] at hk
    obtain ⟨q1, q2, q3⟩ := q.2 k hk
    obtain ⟨-, -, -, -, -, hp, -⟩ := hc
    obtain ⟨p1, p2, p3, p4, -⟩ := hp _ (he k hk).1
    rw [h.f hk 6, h.f hk 7, h.f hk 9, h.f hk 0, h.N 12, h.N 13, (h.c hk).1, (h.c hk).2.1, h.ma (Nat.le_of_lt hk) _ p3, h.ma (Nat.le_of_lt hk) _ p4]
    refine ⟨q1, q2, fun hd => ?_⟩
    rw [h.ma (Nat.le_of_lt hk) _ (show eD A (aB A k) < 8 from p2)]
    exact q3 hd
theorem St.oke (h : St A B) {k : Nat} (hk : k < aS A 9) (q : okE A (aB A k)) : okE B (aB B k) := by
  unfold okE at q ⊢
  rw [h.f hk 0, h.f hk 5, (h.2.2.2 k hk).2, h.S 15, (h.c hk).1, (h.c hk).2.2]
  exact q
theorem St.okl (h : St A B) {x : Ent} (q : okE A x) : okE B x := by
  obtain ⟨e1, -, e2⟩ := h.P.c (x := x) (y := x) rfl
  unfold okE at q ⊢
  rw [e1, e2, h.S 15]
  exact q
theorem St.nb (h : St A B) (q : NB A) : NB B := by
  refine ⟨fun j k hjk hk => ?_, fun k hk => ?_, ?_⟩
  · rw [h.S 9] at hk
    rw [h.f (show j < aS A 9 by omega) 13, h.f hk 13]
    exact q.1 j k hjk hk
  · rw [h.S 9] at hk
    rw [h.f hk 13, h.S 6]
    exact q.2.1 k hk
  · rw [h.S 6]
    exact q.2.2
/-- the plain machine's run rests on the program and the kinds alone -/
theorem plA_congr (h : SamP A B) (h0 : aV B 0 = aV A 0) (h6 : aV B 6 = aV A 6) (h7 : aV B 7 = aV A 7) (h15 : aS B 15 = aS A 15) : ∀ {e : Nat}, (∀ i, i < e → aN B 14 i = aN A 14 i) → plA B e = plA A e
  | 0, _ => by
    show (aV B 6, aV B 7, _) = (aV A 6, aV A 7, _)
    rw [h6, h7]
  | e + 1, k => by
    show plN B (plA B e) (aN B 14 e) = plN A (plA A e) (aN A 14 e)
    rw [plA_congr h h0 h6 h7 h15 (fun i hi => k i (by omega)), k e (by omega)]
    unfold plN plT plD
    rw [h.1 10 (by omega) (by omega), h.1 11 (by omega) (by omega), h.1 12 (by omega) (by omega), h.1 13 (by omega) (by omega), h.2, h0, h15]
theorem plK_congr (h : SamP A B) (h15 : aS B 15 = aS A 15) (P : Pm) (k : Nat) : plK B P k = plK A P k := by
  unfold plK plT
  rw [h.1 10 (by omega) (by omega), h.1 12 (by omega) (by omega), h.1 13 (by omega) (by omega), h.2, h15]
theorem St.pl (h : St A B) (e : Nat) : plA B e = plA A e := plA_congr h.P (h.V 0) (h.V 6) (h.V 7) (h.S 15) (fun i _ => by rw [h.N 14])
theorem St.en (h : St A B) (q : EN A) : EN B := fun e he => by
  rw [h.S 14] at he
  rw [h.N 15, h.N 14, h.pl, plK_congr h.P (h.S 15), h.N 10, h.V 0, h.S 1, h.S 14]
  exact q e he
theorem St.plm (h : St A B) (hv : ∀ r, r < 8 → aV B 1 (aN A 1 r) = aV A 1 (aN A 1 r)) (q : PL A) : PL B := by
  unfold PL at q ⊢
  rw [h.S 14, h.pl, h.N 1, h.V 2, h.S 5, h.S 3, h.S 4]
  obtain ⟨q1, q2⟩ := q
  exact ⟨fun r hr => (hv r hr).trans (q1 r hr), q2⟩
theorem St.prdE (h : St A B) {n : Nat} (hn : n ≤ aS A 9) (hs : ∀ k, k < n → suc B (aB B k) = suc A (aB A k)) : prd B n = prd A n := by
  unfold prd
  rw [h.S 5]
  split
  · rfl
  · exact hs _ (by omega)
/-- the buffer's part, out of what such a step changes -/
theorem St.ibp {n m : Nat} (h : St A B) (q : IBp A m) (hn : n ≤ m) (hm : m ≤ aS A 9) (hr2 : ∀ k, k < 24 → aN B 2 k ≤ 1) (hr5 : ∀ k, k < 16 → aN B 5 k ≤ 1) (hQ : QK B) (hdy : ∀ k, k < n → DY B (aB B k)) (hld : ∀ k, k < n → LD B k) (hs : ∀ k, k + 1 < n → suc B (aB B k) = suc A (aB A k)) (hv : ∀ r, r < 8 → aN B 2 (aN A 1 r) = 1 ∧ aV B 1 (aN A 1 r) = aV A 1 (aN A 1 r)) : IBp B n := by
  obtain ⟨q1, q2, q3, q4, q5, q6, q7, q8, q9, q10, q11, q12, q13, q14, q15⟩ := q
  refine ⟨h.cf q1, ?_, hQ, h.pt q4, h.mc q1 q6 q5, fun k hk => ?_, hdy, hld, fun k hk => ?_, h.nb q10, h.plm (fun r hr => (hv r hr).2) q11, h.en q12, fun r hr => ?_, fun k hk => ?_, fun k hk => ?_⟩
  · unfold BD at q2 ⊢
    rw [h.S 9, h.S 17, h.N 4, h.V 3, h.N 6, h.S 1, h.S 2, h.S 3, h.S 5, h.S 4]
    obtain ⟨b1, b2, b3, b4, b5, b6, b7⟩ := q2
    exact ⟨b1, b2, b3, b4, hr2, hr5, b7⟩
  · rw [h.S 9] at hk
    exact h.oke hk (q6 k hk)
  · rw [h.f (show k < aS A 9 by omega) 0, q9 k (by omega), h.prdE (show k ≤ aS A 9 by omega) (fun j hj => hs j (by omega))]
  · rw [h.N 1]
    exact (hv r hr).1
  · rw [h.S 9] at hk ⊢
    rw [(h.c hk).1]
    exact q14 k hk
  · rw [h.S 9] at hk ⊢
    rw [(h.c hk).1]
    exact q15 k hk
/-- the front is the same -/
def Fr (A B : Sx) : Prop := aS B 10 = aS A 10 ∧ aS B 11 = aS A 11 ∧ aS B 12 = aS A 12 ∧ aL B = aL A ∧ aT B = aT A
theorem St.if_ (h : St A B) (f : Fr A B) (q : IF A) (hs : ∀ k, k < aS A 9 → suc B (aB B k) = suc A (aB A k)) : IF B := by
  obtain ⟨q1, q2, q3, q4, q5, q6, q7, q8, q9, q10, q11, q12, q13⟩ := q
  obtain ⟨f1, f2, f3, f4, f5⟩ := f
  have hp : prd B (aS A 9) = prd A (aS A 9) := h.prdE (Nat.le_refl _) hs
  unfold IF
  rw [f1, h.S 16, f5, f3, h.S 6, h.S 9, f2, h.S 1, f4, hp]
  refine ⟨q1, q2, q3, fun j hj => ?_, q5, fun k j hk hj => ?_, q7, q8, q9, q10, fun k hk => ?_, fun j hj => ?_, q13⟩
  · obtain ⟨e1, -, e2⟩ := h.P.c (x := aL A j) (y := aL A j) rfl
    rw [e1, e2]
    exact ⟨h.okl (q4 j hj).1, (q4 j hj).2⟩
  · rw [h.f hk 13]
    exact q6 k j hk hj
  · rw [(h.c hk).1]
    exact q11 k hk
  · obtain ⟨e1, -, e2⟩ := h.P.c (x := aL A j) (y := aL A j) rfl
    rw [e1]
    exact q12 j hj
/-- what was computed stays so -/
theorem CM.to {x y : Ent} (h : CM A x) (hP : SamP A B) (h3 : aS B 3 = aS A 3) (h0 : y.1 0 = x.1 0) (h6 : y.1 6 = x.1 6) (h7 : y.1 7 = x.1 7) (h12 : y.1 12 = x.1 12) (h14 : y.1 14 = x.1 14) (g0 : y.2.1 0 = x.2.1 0) (g1 : y.2.1 1 = x.2.1 1) (g2 : eC A x ≠ 9 ∨ x.1 12 ≠ 0 → y.2.1 2 = x.2.1 2)
    (ra : aN A 2 (x.1 6) = 1 → aN B 2 (x.1 6) = 1 ∧ aV B 1 (x.1 6) = aV A 1 (x.1 6)) (rb : aN A 2 (x.1 7) = 1 → aN B 2 (x.1 7) = 1 ∧ aV B 1 (x.1 7) = aV A 1 (x.1 7))
    (hv : y.1 10 = 101 → hasD (eC A x) = true → aV B 1 (y.1 8) = if eC A x = 15 then nI (x.1 0 + 1) else y.2.1 2) : CM B y := by
  obtain ⟨c1, c2, c3, c4, c5, c6, c7, c8, -⟩ := h
  obtain ⟨e1, e2, e3⟩ := hP.c h0
  have hX : opX B y = opX A x := by
    unfold opX eX
    rw [e1, h6]
    split
    · rename_i hn
      exact (ra (c1 hn)).2
    · rfl
  have hY : opY B y = opY A x := by
    unfold opY eY
    rw [e1, h7]
    split
    · rename_i hn
      exact (rb (c2 hn)).2
    · rfl
  unfold CM
  rw [e1, e3, h0, h6, h7, h12, h14, g0, g1, hX, hY, h3]
  refine ⟨fun hn => (ra (c1 hn)).1, fun hn => (rb (c2 hn)).1, c3, c4, c5, c6, fun n1 n2 => ?_, fun n1 n2 => ?_, hv⟩
  · rw [g2 (Or.inl n1)]
    exact c7 n1 n2
  · rw [g2 (Or.inr n2)]
    exact c8 n1 n2
/-- an entry that stays as it is -/
theorem DY.same {x : Ent} (h : DY A x) (hP : SamP A B) (h3 : aS B 3 = aS A 3) (hq : lineOf x ∈ (aQ A).map (·.1) → x.1 10 = 109 → lineOf x ∈ (aQ B).map (·.1))
    (ra : aN A 2 (x.1 6) = 1 → aN B 2 (x.1 6) = 1 ∧ aV B 1 (x.1 6) = aV A 1 (x.1 6)) (rb : aN A 2 (x.1 7) = 1 → aN B 2 (x.1 7) = 1 ∧ aV B 1 (x.1 7) = aV A 1 (x.1 7))
    (rd : hasD (eC A x) = true → aN B 2 (x.1 8) = aN A 2 (x.1 8) ∧ (x.1 10 = 101 → aV B 1 (x.1 8) = aV A 1 (x.1 8))) : DY B x := by
  obtain ⟨d1, d2, d3, d4, d5, d6, d7⟩ := h
  obtain ⟨e1, e2, e3⟩ := hP.c (x := x) (y := x) rfl
  unfold DY
  rw [e1]
  refine ⟨d1, d2, d3, fun q => ?_, fun q => ?_, d6, fun q => ?_⟩
  · obtain ⟨a, b, c, d⟩ := d4 q
    exact ⟨a, b, hq c q, d⟩
  · rw [(rd q).1]
    exact d5 q
  · have hc := d7 q
    refine hc.to hP h3 rfl rfl rfl rfl rfl rfl rfl (fun _ => rfl) ra rb (fun a b => ?_)
    rw [(rd b).2 a]
    exact hc.2.2.2.2.2.2.2.2 a b
theorem ES.iff {j : Nat} (hP : SamP A B) (h0 : (aB B j).1 0 = (aB A j).1 0) (h : isSt (eC A (aB A j)) = true → ((aB B j).1 10 = 101 ↔ (aB A j).1 10 = 101) ∧ ((aB A j).1 10 = 101 → (aB B j).1 12 = (aB A j).1 12 ∧ (aB B j).2.1 1 = (aB A j).2.1 1)) (a : Int32) : ES B j a ↔ ES A j a := by
  obtain ⟨e1, -⟩ := hP.c h0
  unfold ES
  rw [e1]
  constructor
  · rintro ⟨a1, a2, a3, a4⟩
    have g := h a1
    have g1 := g.1.mp a2
    obtain ⟨g2, g3⟩ := g.2 g1
    exact ⟨a1, g1, g2 ▸ a3, g3 ▸ a4⟩
  · rintro ⟨a1, a2, a3, a4⟩
    have g := h a1
    obtain ⟨g2, g3⟩ := g.2 a2
    exact ⟨a1, g.1.mpr a2, g2.trans a3, g3.trans a4⟩
theorem nI_m1 {g : Nat} (h : g < 2 ^ 31) : nI g ≠ -1 := fun e => by
  have h1 := nI_toInt h
  rw [e] at h1
  have h2 : (-1 : Int32).toInt = -1 := by decide
  omega
theorem LDr.gen {k : Nat} {x y : Ent} (h : LDr A k x) (hn : aS A 6 ≤ 2000) (hP : SamP A B) (h3 : y.2.1 3 = x.2.1 3) (h1 : y.2.1 1 = x.2.1 1) (hj : ∀ j, j < k → (aB B j).1 0 = (aB A j).1 0 ∧ (aB B j).1 7 = (aB A j).1 7 ∧ (aB B j).1 13 = (aB A j).1 13) (hE : ∀ j, j < k → (ES B j (x.2.1 1) ↔ ES A j (x.2.1 1)))
    (hR : ∀ j, j < k → aN A 2 ((aB A j).1 7) = 1 → aN B 2 ((aB A j).1 7) = 1 ∧ aV B 1 ((aB A j).1 7) = aV A 1 ((aB A j).1 7)) (hw : aV B 2 = aV A 2) (h6 : aS A 6 ≤ aS B 6) (hg : ∀ g, (∀ j, j < aS A 9 → g < (aB A j).1 13) → ∀ j, j < aS B 9 → g < (aB B j).1 13)
    (v1 : x.2.1 3 ≠ -1 → y.2.1 2 = x.2.1 2) (v2 : x.2.1 3 = -1 → y.1 10 = 98 ∨ y.1 10 = 101 → y.2.1 2 = aV A 2 (x.2.1 1).toNatClampNeg) : LDr B k y := by
  unfold LDr at h ⊢
  rw [h3, h1, hw]
  rcases h with ⟨a1, a2, a3⟩ | ⟨g, a1, a2, a3⟩
  · exact Or.inl ⟨a1, fun j q z => a2 j q ((hE j q).mp z), v2 a1⟩
  · have hv := v1 (by rw [a1]; exact nI_m1 (by omega))
    refine Or.inr ⟨g, a1, by omega, ?_⟩
    rcases a3 with ⟨j, b1, b2, b3, b4, b5, b6, b7⟩ | ⟨b1, b2, b3⟩
    · obtain ⟨e0, e7, e13⟩ := hj j b1
      refine Or.inl ⟨j, b1, e13.trans b2, (hE j b1).mpr b3, (hP.c e0).1.trans b4, ?_, ?_, fun i c1 c2 z => b7 i c1 c2 ((hE i c2).mp z)⟩
      · rw [e7]
        exact (hR j b1 b5).1
      · rw [hv, b6]
        unfold eY
        rw [e7, (hR j b1 b5).2]
    · exact Or.inr ⟨hg g b1, fun j q z => b2 j q ((hE j q).mp z), hv.trans b3⟩
theorem LDr.to {k : Nat} {x y : Ent} (h : LDr A k x) (hn : aS A 6 ≤ 2000) (hP : SamP A B) (h3 : y.2.1 3 = x.2.1 3) (h1 : y.2.1 1 = x.2.1 1) (hj : ∀ j, j < k → (aB B j).1 0 = (aB A j).1 0 ∧ (aB B j).1 7 = (aB A j).1 7 ∧ (aB B j).1 13 = (aB A j).1 13) (hE : ∀ j, j < k → (ES B j (x.2.1 1) ↔ ES A j (x.2.1 1)))
    (hR : ∀ j, j < k → aN A 2 ((aB A j).1 7) = 1 → aN B 2 ((aB A j).1 7) = 1 ∧ aV B 1 ((aB A j).1 7) = aV A 1 ((aB A j).1 7)) (hw : aV B 2 = aV A 2) (h6 : aS A 6 ≤ aS B 6) (h9 : aS B 9 ≤ aS A 9) (h13 : ∀ j, j < aS B 9 → (aB B j).1 13 = (aB A j).1 13)
    (v1 : x.2.1 3 ≠ -1 → y.2.1 2 = x.2.1 2) (v2 : x.2.1 3 = -1 → y.1 10 = 98 ∨ y.1 10 = 101 → y.2.1 2 = aV A 2 (x.2.1 1).toNatClampNeg) : LDr B k y :=
  h.gen hn hP h3 h1 hj hE hR hw h6 (fun g q j hj2 => by rw [h13 j hj2]; exact q j (Nat.lt_of_lt_of_le hj2 h9)) v1 v2
end ST
