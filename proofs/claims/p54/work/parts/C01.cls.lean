/-! THE CLASS in memory -/
def lo (i : Nat) : Nat := [2, 25, 21, 26].getD i 0
def nLs (A : Sx) (i : Nat) : Nat := aS A ([15, 9, 10, 14].getD i 0)
/-- kinds of the cells that the class makes as it goes; of its fixed ones -/
def hpK (κ : Nat) : Bool := decide (κ = 26 ∨ κ = 41 ∨ κ = 51 ∨ κ = 103 ∨ κ = 104 ∨ κ = 107)
def h2K (κ : Nat) : Bool := decide (κ = 41 ∨ κ = 51 ∨ κ = 103 ∨ κ = 104 ∨ κ = 107)
def fxK (κ : Nat) : Bool := decide (κ = 21 ∨ κ = 22 ∨ κ = 100 ∨ κ = 101 ∨ κ = 102 ∨ κ = 105 ∨ κ = 106 ∨ κ = 108 ∨ κ = 109 ∨ κ = 110 ∨ κ = 111)
def clK (κ : Nat) : Bool := hpK κ || fxK κ
/-- what the class's steps keep: all that isn't of its kinds -/
def CK (e sl : Nat) (μ μ' : Mm) : Prop := (WF μ → WF μ') ∧ mN μ ≤ mN μ' ∧ mN μ' ≤ mN μ + e ∧ mS μ' ≤ mS μ + sl ∧ (∀ a, a < mN μ → mK μ' a = mK μ a ∧ mL μ' a = mL μ a) ∧ ∀ a, a < mN μ → clK (mK μ a) = false → mI μ' a = mI μ a ∧ mR μ' a = mR μ a ∧ mJ μ' a = mJ μ a
/-- the statics -/
def ST (z : Nat) (μ : Mm) : Prop := mR μ 0 0 = some z ∧ (∃ s, mR μ 0 1 = some s) ∧ (∃ s, mR μ 0 2 = some s) ∧ (∃ s, mR μ 0 3 = some s) ∧ (mK μ 0 = 0 ∨ z = 0) ∧ mK μ z = 26 ∧ mL μ z = 0
theorem ST.k0 {z : Nat} {μ : Mm} (h : ST z μ) : mK μ 0 < 100 := by
  rcases h.2.2.2.2.1 with q | q
  · omega
  · have k := h.2.2.2.2.2.1
    rw [q] at k
    omega
def PLm (b : Nat) (A : Sx) (μ : Mm) : Prop := (∀ r, r < 8 → mI μ (b + 7) r = (plA A (aS A 14)).1 r) ∧ (∀ a, a < 64 → mI μ (b + 8) a = (plA A (aS A 14)).2.1 a) ∧ mI μ (b + 6) 2 = nI ((plA A (aS A 14)).2.2 0) ∧ mI μ (b + 6) 3 = nI ((plA A (aS A 14)).2.2 1) ∧ mI μ (b + 6) 4 = nI ((plA A (aS A 14)).2.2 2)
def QCm (b : Nat) (A : Sx) (μ : Mm) : Prop := mI μ (b + 15) 4 = nI (aQ A).length ∧ ∀ k, k < (aQ A).length → mI μ (b + 18) k = nI ((aQ A).getD k (0, 0)).1 ∧ mI μ (b + 19) k = nI ((aQ A).getD k (0, 0)).2
def FCm (b : Nat) (A : Sx) (μ : Mm) : Prop := aS A 12 = 0 → mI μ (b + 20) 4 = nI (aS A 11)
/-- the fixed part -/
def FR (b z : Nat) (A : Sx) (μ : Mm) : Prop := SC b μ ∧ RT cT b A μ ∧ ST z μ ∧ PLm b A μ ∧ QCm b A μ ∧ FCm b A μ
/-- a stack's row -/
def SKs (μ : Mm) (s : Nat) (t : List Nat) : Prop := mK μ s = 41 ∧ mL μ s = t.length ∧ ∀ i, i < t.length → mI μ s i = nI (t.getD i 0)
def LSx (b z : Nat) (μ : Mm) (i n : Nat) (f : Nat → Nat) (e : Nat) : Prop := mR μ (b + lo i) 1 = some e ∧ mK μ e = 26 ∧ n ≤ mL μ e ∧ mL μ e < 50000 ∧ (mL μ e = 0 → e = z) ∧ ∀ k, k < n → mR μ e k = some (f k)
/-- an entry's numbers, and those of its life -/
def REf (A : Sx) (late : Nat) (rn : Bool) (x : Ent) (f p : Nat → Int32) : Prop :=
  f 1 = nI (x.1 13) ∧ f 2 = nI (x.1 5) ∧ f 16 = x.2.1 3 ∧ p 0 = nI (x.1 1) ∧ (f 5 = nI (x.1 10) ∨ (late = x.1 11 + 2 ∧ x.1 10 = 120 ∧ f 5 = 109)) ∧ (rn = true → f 6 = nI (x.1 6) ∧ f 7 = nI (x.1 7) ∧ p 1 = nI (x.1 2)) ∧ (rn = true → hasD (eC A x) = true → f 8 = nI (x.1 8) ∧ f 9 = nI (x.1 9)) ∧ (rn = false ∨ hasD (eC A x) = false → f 8 = -1) ∧
  (x.1 10 = 120 ∨ x.1 10 = 109 → f 10 = nI (x.1 11)) ∧ (rn = false ∨ isQd (eC A x) = false ∨ x.1 10 ≠ 113 → f 11 = x.2.1 1 ∧ f 12 = nI (x.1 12) ∧ f 13 = x.2.1 2 ∧ f 14 = x.2.1 0 ∧ f 15 = nI (x.1 14)) ∧
  (p 2 = if isQd (eC A x) = true ∧ x.1 10 ≠ 113 then nI (x.1 3) else -1) ∧ (x.1 10 = 101 → p 3 = nI (x.1 4))
def REc (A : Sx) (gP : Nat → Nat) (late : Nat) (rn : Bool) (x : Ent) (a : Nat) (μ : Mm) : Prop := mK μ a = 104 ∧ mR μ a 0 = some (gP (x.1 0)) ∧ (∃ s, mR μ a 3 = some s ∧ SKs μ s x.2.2) ∧ mR μ a 4 = some (a + 1) ∧ mK μ (a + 1) = 51 ∧ mL μ (a + 1) = 5 ∧ REf A late rn x (mI μ a) (mI μ (a + 1))
def INc (A : Sx) (p a : Nat) (μ : Mm) : Prop := mK μ a = 107 ∧ mI μ a 0 = nI p ∧ mI μ a 1 = nI (aN A 10 p) ∧ mI μ a 2 = nI (aN A 11 p) ∧ mI μ a 3 = nI (aN A 12 p) ∧ mI μ a 4 = nI (aN A 13 p) ∧ mI μ a 5 = aV A 5 p
def ENc (A : Sx) (e a q : Nat) (μ : Mm) : Prop := mK μ a = 103 ∧ mI μ a 0 = nI (aN A 14 e) ∧ mI μ a 1 = nI (aN A 15 e) ∧ mI μ a 2 = nI (aN A 14 e) ∧ mI μ a 3 = nI (aN A 15 e) ∧ mR μ a 4 = some q ∧ mK μ q = 51 ∧ mL μ q = 5 ∧ (aN A 14 e ≠ 9 → mI μ q 0 = nI (aN A 20 e) ∧ mI μ q 1 = nI (aN A 21 e) ∧ mI μ q 2 = aV A 8 e ∧ mI μ q 3 = nI (aN A 22 e) ∧ mI μ q 4 = nI (aN A 23 e)) ∧ (aN A 14 e = 9 → ∀ k, k < 5 → mI μ q k = -1)
/-- the entries lie in the order in which they were fetched, behind all that is gone (but for one whose life an end has already: 1) -/
def ORc (A : Sx) (m : Nat → Nat) (G : Nat → Nat → Nat) : Prop := (∀ i k, i < k → k < aS A 9 → G 1 i + 1 < G 1 k) ∧ (∀ i j, i < j → j < aS A 10 → G 2 i + 1 < G 2 j) ∧ (∀ k j, k < aS A 9 → j < aS A 10 → G 1 k + 1 < G 2 j) ∧ (∀ e k, e < aS A 14 → k < aS A 9 → m k ≠ 1 → G 4 e ≠ G 1 k + 1) ∧ ∀ e j, e < aS A 14 → j < aS A 10 → G 4 e ≠ G 2 j + 1
/-- the part that lies in the heap -/
def HR (b z : Nat) (A : Sx) (m : Nat → Nat) (G : Nat → Nat → Nat) (ar : Nat → Nat) (s : Nat) (μ : Mm) : Prop :=
  (∀ i, i < 4 → LSx b z μ i (nLs A i) (G i) (ar i)) ∧ (∀ i j, i < 4 → j < 4 → i ≠ j → ar i = ar j → ar i = z) ∧ (∀ p, p < aS A 15 → INc A p (G 0 p) μ) ∧ (∀ k, k < aS A 9 → REc A (G 0) (m k) true (aB A k) (G 1 k) μ) ∧ (∀ j, j < aS A 10 → REc A (G 0) 0 false (aL A j) (G 2 j) μ) ∧ ORc A m G ∧ (∀ e, e < aS A 14 → ENc A e (G 3 e) (G 4 e) μ) ∧ mR μ (b + 20) 3 = some s ∧ SKs μ s (aT A)
/-- the class in memory is this state; an entry of m that was woken may not show it yet -/
def RC (b z : Nat) (A : Sx) (m : Nat → Nat) (μ : Mm) : Prop := FR b z A μ ∧ ∃ G ar s, HR b z A m G ar s μ
section CLF
variable {b z e sl : Nat} {m m' : Nat → Nat} {A A' : Sx} {G : Nat → Nat → Nat} {ar : Nat → Nat} {s : Nat} {μ μ' μ2 : Mm} {S : Nat → Nat → Bool}
theorem CK.trans {e1 e2 s1 s2 : Nat} (h : CK e1 s1 μ μ') (g : CK e2 s2 μ' μ2) : CK (e1 + e2) (s1 + s2) μ μ2 := by
  obtain ⟨h1, h2, h3, h4, h5, h6⟩ := h
  obtain ⟨g1, g2, g3, g4, g5, g6⟩ := g
  refine ⟨fun w => g1 (h1 w), by omega, by omega, by omega, fun a ha => ?_, fun a ha hc => ?_⟩
  · obtain ⟨x1, x2⟩ := h5 a ha
    obtain ⟨y1, y2⟩ := g5 a (by omega)
    exact ⟨y1.trans x1, y2.trans x2⟩
  · obtain ⟨x1, x2, x3⟩ := h6 a ha hc
    obtain ⟨y1, y2, y3⟩ := g6 a (by omega) (by rw [(h5 a ha).1]; exact hc)
    exact ⟨y1.trans x1, y2.trans x2, y3.trans x3⟩
theorem CK.mono {e1 e2 s1 s2 : Nat} (h : CK e1 s1 μ μ') (he : e1 ≤ e2) (hs : s1 ≤ s2) : CK e2 s2 μ μ' := ⟨h.1, h.2.1, by have := h.2.2.1; omega, by have := h.2.2.2.1; omega, h.2.2.2.2⟩
theorem CK.refl0 : CK 0 0 μ μ := ⟨fun w => w, Nat.le_refl _, Nat.le_refl _, Nat.le_refl _, fun _ _ => ⟨rfl, rfl⟩, fun _ _ _ => ⟨rfl, rfl, rfl⟩⟩
theorem SC.fk (h : SC b μ) {o : Nat} (ho : o < 30) (h24 : o ≠ 24) : fxK (mK μ (b + o)) = true := by
  unfold SC at h
  have : o = 0 ∨ o = 1 ∨ o = 2 ∨ o = 3 ∨ o = 4 ∨ o = 5 ∨ o = 6 ∨ o = 7 ∨ o = 8 ∨ o = 9 ∨ o = 10 ∨ o = 11 ∨ o = 12 ∨ o = 13 ∨ o = 14 ∨ o = 15 ∨ o = 16 ∨ o = 17 ∨ o = 18 ∨ o = 19 ∨ o = 20 ∨ o = 21 ∨ o = 22 ∨ o = 23 ∨ o = 25 ∨ o = 26 ∨ o = 27 ∨ o = 28 ∨ o = 29 := by omega
  rcases this with rfl | rfl | rfl | rfl | rfl | rfl | rfl | rfl | rfl | rfl | rfl | rfl | rfl | rfl | rfl | rfl | rfl | rfl | rfl | rfl | rfl | rfl | rfl | rfl | rfl | rfl | rfl | rfl | rfl <;> simp only [Nat.add_zero, h] <;> rfl
theorem hf_no {κ : Nat} (h : hpK κ = true) : fxK κ = false := by
  unfold hpK at h
  simp only [decide_eq_true_eq] at h
  rcases h with rfl | rfl | rfl | rfl | rfl | rfl <;> rfl
theorem h2_h {κ : Nat} (h : h2K κ = true) : hpK κ = true := by
  unfold h2K at h
  simp only [decide_eq_true_eq] at h
  rcases h with rfl | rfl | rfl | rfl | rfl <;> rfl
theorem hpK_0 {κ : Nat} (h : hpK κ = true) : κ ≠ 0 := fun e => by rw [e] at h; cases h
theorem fxK_0 {κ : Nat} (h : fxK κ = true) : κ ≠ 0 := fun e => by rw [e] at h; cases h
theorem WF.lt (w : WF μ) {a : Nat} (h : mK μ a ≠ 0) : a < mN μ := by
  rcases Nat.lt_or_ge a (mN μ) with q | q
  · exact q
  · exact absurd (w a q) h
theorem clK_h {κ : Nat} (h : hpK κ = true) : clK κ = true := by unfold clK; rw [h]; rfl
theorem clK_f {κ : Nat} (h : fxK κ = true) : clK κ = true := by unfold clK; rw [h, Bool.or_true]
theorem SC.cg2 (h : SC b μ) (hK : ∀ o, o < 30 → o ≠ 24 → mK μ' (b + o) = mK μ (b + o) ∧ mL μ' (b + o) = mL μ (b + o)) (hR : ∀ o, o = 0 ∨ o = 1 ∨ o = 4 ∨ o = 6 ∨ o = 9 ∨ o = 15 → mR μ' (b + o) = mR μ (b + o)) (hR2 : ∀ k, k < 3 → mR μ' (b + 20) k = mR μ (b + 20) k) : SC b μ' := by
  unfold SC at h ⊢
  have e0 := hK 0 (by decide) (by decide)
  have r0 := hR 0 (by decide)
  rw [Nat.add_zero] at e0 r0
  rw [e0.1, r0, (hK 1 (by decide) (by decide)).1, (hK 2 (by decide) (by decide)).1, (hK 3 (by decide) (by decide)).1, (hK 4 (by decide) (by decide)).1, (hK 5 (by decide) (by decide)).1, (hK 5 (by decide) (by decide)).2, (hK 6 (by decide) (by decide)).1, (hK 7 (by decide) (by decide)).1, (hK 7 (by decide) (by decide)).2, (hK 8 (by decide) (by decide)).1, (hK 8 (by decide) (by decide)).2, (hK 9 (by decide) (by decide)).1, (hK 10 (by decide) (by decide)).1, (hK 10 (by decide) (by decide)).2, (hK 11 (by decide) (by decide)).1, (hK 11 (by decide) (by decide)).2, (hK 12 (by decide) (by decide)).1, (hK 12 (by decide) (by decide)).2, (hK 13 (by decide) (by decide)).1, (hK 13 (by decide) (by decide)).2, (hK 14 (by decide) (by decide)).1, (hK 14 (by decide) (by decide)).2, (hK 15 (by decide) (by decide)).1, (hK 16 (by decide) (by decide)).1, (hK 16 (by decide) (by decide)).2, (hK 17 (by decide) (by decide)).1, (hK 17 (by decide) (by decide)).2, (hK 18 (by decide) (by decide)).1, (hK 18 (by decide) (by decide)).2, (hK 19 (by decide) (by decide)).1, (hK 19 (by decide) (by decide)).2, (hK 20 (by decide) (by decide)).1, (hK 21 (by decide) (by decide)).1, (hK 22 (by decide) (by decide)).1, (hK 22 (by decide) (by decide)).2, (hK 23 (by decide) (by decide)).1, (hK 23 (by decide) (by decide)).2, (hK 25 (by decide) (by decide)).1, (hK 26 (by decide) (by decide)).1, (hK 27 (by decide) (by decide)).1, (hK 27 (by decide) (by decide)).2, (hK 28 (by decide) (by decide)).1, (hK 28 (by decide) (by decide)).2, (hK 29 (by decide) (by decide)).1, (hK 29 (by decide) (by decide)).2, hR 1 (by decide), hR 4 (by decide), hR 6 (by decide), hR 9 (by decide), hR 15 (by decide), hR2 0 (by decide), hR2 1 (by decide), hR2 2 (by decide)]
  exact h
theorem lo_lt {i : Nat} (hi : i < 4) : lo i < 30 ∧ lo i ≠ 24 ∧ (lo i = 2 ∨ lo i = 25 ∨ lo i = 21 ∨ lo i = 26) := by
  have : i = 0 ∨ i = 1 ∨ i = 2 ∨ i = 3 := by omega
  rcases this with rfl | rfl | rfl | rfl <;> decide
theorem cT_lt {o k : Nat} (h : offT cT o k = false) : o < 30 ∧ o ≠ 24 ∧ (o = 2 ∨ o = 25 ∨ o = 21 ∨ o = 26 → k = 2) := by
  have key : ∀ o, o < 86 → (o < 30 ∧ o ≠ 24 ∧ o ≠ 2 ∧ o ≠ 25 ∧ o ≠ 21 ∧ o ≠ 26) ∨ (∀ k, offT cT o k = true) ∨ ((o = 2 ∨ o = 25 ∨ o = 21 ∨ o = 26) ∧ ∀ k, k ≠ 2 → offT cT o k = true) := by
    intro o ho
    by_cases h1 : o = 2 ∨ o = 25 ∨ o = 21 ∨ o = 26
    · refine Or.inr (Or.inr ⟨h1, fun k hk => ?_⟩)
      unfold offT
      simp only [Bool.and_eq_true, List.all_eq_true, List.mem_range, Bool.or_eq_true, Bool.not_eq_true', decide_eq_false_iff_not, Bool.and_eq_false_iff]
      have b1 : ∀ i, i < 25 → (cT.1 i).1 = 2 ∨ (cT.1 i).1 = 25 ∨ (cT.1 i).1 = 21 ∨ (cT.1 i).1 = 26 → (cT.1 i).2 = 2 := by decide +kernel
      have b2 : ∀ i, i < 8 → cT.2.1 i ≠ 2 ∧ cT.2.1 i ≠ 25 ∧ cT.2.1 i ≠ 21 ∧ cT.2.1 i ≠ 26 := by decide +kernel
      have b3 : ∀ i, i < 5 → (cT.2.2 i).1 ≠ 2 ∧ (cT.2.2 i).1 ≠ 25 ∧ (cT.2.2 i).1 ≠ 21 ∧ (cT.2.2 i).1 ≠ 26 := by decide +kernel
      refine ⟨⟨fun i hi => Or.inr fun z => ?_, fun r hr z => ?_⟩, fun r hr => Or.inl (Or.inl fun z => ?_)⟩
      · have := b1 i hi (by rw [z]; exact h1)
        rw [z] at this
        exact hk this
      · have := b2 r hr
        omega
      · have := b3 r hr
        omega
    · by_cases h2 : o < 30 ∧ o ≠ 24
      · exact Or.inl (by omega)
      · refine Or.inr (Or.inl fun k => ?_)
        unfold offT
        simp only [Bool.and_eq_true, List.all_eq_true, List.mem_range, Bool.or_eq_true, Bool.not_eq_true', decide_eq_false_iff_not, Bool.and_eq_false_iff]
        have b1 : ∀ i, i < 25 → scI i = true → (cT.1 i).1 < 30 ∧ (cT.1 i).1 ≠ 24 := by decide +kernel
        have b2 : ∀ i, i < 8 → cT.2.1 i < 30 ∧ cT.2.1 i ≠ 24 := by decide +kernel
        have b3 : ∀ i, i < 5 → (cT.2.2 i).1 < 30 ∧ (cT.2.2 i).1 ≠ 24 := by decide +kernel
        refine ⟨⟨fun i hi => ?_, fun r hr z => ?_⟩, fun r hr => Or.inl (Or.inl fun z => ?_)⟩
        · cases hs : scI i
          · exact Or.inl rfl
          · right
            intro z
            have := b1 i hi hs
            rw [z] at this
            exact h2 this
        · have := b2 r hr
          omega
        · have := b3 r hr
          omega
  rcases key o (offT_lt (Or.inl rfl) h) with q | q | q
  · omega
  · rw [q k] at h
    cases h
  · rcases Nat.decEq k 2 with hk | hk
    · rw [q.2 k hk] at h
      cases h
    · omega
/-- the fixed part stays where its cells stay -/
theorem FR.same (h : FR b z A μ) (hK : ∀ a, fxK (mK μ a) = true → mK μ' a = mK μ a ∧ mL μ' a = mL μ a ∧ (∀ k, (k ≠ 0 ∧ k ≠ 2) ∨ mK μ a ≠ 100 → mI μ' a k = mI μ a k) ∧ (mK μ a ≠ 100 ∧ mK μ a ≠ 105 → mR μ' a = mR μ a)) (h2 : ∀ i, i < 4 → mI μ' (b + lo i) 2 = mI μ (b + lo i) 2) (h20 : ∀ k, k < 3 → mR μ' (b + 20) k = mR μ (b + 20) k) (h0 : mR μ' 0 = mR μ 0 ∧ mK μ' 0 = mK μ 0) (hz : mK μ' z = mK μ z ∧ mL μ' z = mL μ z) : FR b z A μ' := by
  obtain ⟨f1, f2, f3, f4, f5, f6⟩ := h
  have fk := fun (o : Nat) (ho : o < 30) (h24 : o ≠ 24) => hK (b + o) (f1.fk ho h24)
  have s := f1
  unfold SC at s
  have nl : ∀ o, o < 30 → o ≠ 24 → o ≠ 2 → o ≠ 25 → o ≠ 21 → o ≠ 26 → mI μ' (b + o) = mI μ (b + o) := fun o ho h24 a1 a2 a3 a4 => funext fun k => (fk o ho h24).2.2.1 k (Or.inr (by
    have : o = 0 ∨ o = 1 ∨ o = 3 ∨ o = 4 ∨ o = 5 ∨ o = 6 ∨ o = 7 ∨ o = 8 ∨ o = 9 ∨ o = 10 ∨ o = 11 ∨ o = 12 ∨ o = 13 ∨ o = 14 ∨ o = 15 ∨ o = 16 ∨ o = 17 ∨ o = 18 ∨ o = 19 ∨ o = 20 ∨ o = 22 ∨ o = 23 ∨ o = 27 ∨ o = 28 ∨ o = 29 := by omega
    rcases this with rfl | rfl | rfl | rfl | rfl | rfl | rfl | rfl | rfl | rfl | rfl | rfl | rfl | rfl | rfl | rfl | rfl | rfl | rfl | rfl | rfl | rfl | rfl | rfl | rfl <;> simp only [Nat.add_zero, s] <;> decide))
  refine ⟨f1.cg2 (fun o ho h24 => ⟨(fk o ho h24).1, (fk o ho h24).2.1⟩) (fun o ho => ?_) h20, f2.keep (fun o k hz2 => ?_), ?_, ?_, ?_, ?_⟩
  · have e0 := (fk o (by omega) (by omega)).2.2.2
    rcases ho with rfl | rfl | rfl | rfl | rfl | rfl <;> exact e0 (by simp only [Nat.add_zero, s]; decide)
  · obtain ⟨c1, c2, c3⟩ := cT_lt hz2
    by_cases hl : o = 2 ∨ o = 25 ∨ o = 21 ∨ o = 26
    · rw [c3 hl]
      rcases hl with rfl | rfl | rfl | rfl
      · exact h2 0 (by decide)
      · exact h2 1 (by decide)
      · exact h2 2 (by decide)
      · exact h2 3 (by decide)
    · rw [nl o c1 c2 (by omega) (by omega) (by omega) (by omega)]
  · unfold ST at f3 ⊢
    rw [h0.1, h0.2, hz.1, hz.2]
    exact f3
  · unfold PLm at f4 ⊢
    rw [nl 7 (by decide) (by decide) (by decide) (by decide) (by decide) (by decide), nl 8 (by decide) (by decide) (by decide) (by decide) (by decide) (by decide), nl 6 (by decide) (by decide) (by decide) (by decide) (by decide) (by decide)]
    exact f4
  · unfold QCm at f5 ⊢
    rw [nl 15 (by decide) (by decide) (by decide) (by decide) (by decide) (by decide), nl 18 (by decide) (by decide) (by decide) (by decide) (by decide) (by decide), nl 19 (by decide) (by decide) (by decide) (by decide) (by decide) (by decide)]
    exact f5
  · unfold FCm at f6 ⊢
    rw [nl 20 (by decide) (by decide) (by decide) (by decide) (by decide) (by decide)]
    exact f6
/-- numbers of fixed cells change -/
theorem FR.ch (h : FR b z A μ) (hT : RT cT b A' μ') (g : CH b S μ μ') (hS : ∀ o k, S o k = true → o < 30 ∧ o ≠ 24 ∧ ¬ (o = 6 ∨ o = 7 ∨ o = 8 ∨ o = 18 ∨ o = 19) ∧ ¬ (o = 15 ∧ k = 4) ∧ ¬ (o = 20 ∧ k = 4)) (hp : plA A' (aS A' 14) = plA A (aS A 14)) (hq : aQ A' = aQ A) (hf : aS A' 12 = 0 → aS A 12 = 0 ∧ aS A' 11 = aS A 11) : FR b z A' μ' := by
  obtain ⟨f1, f2, f3, f4, f5, f6⟩ := h
  have nS : ∀ o k, (o = 6 ∨ o = 7 ∨ o = 8 ∨ o = 18 ∨ o = 19) ∨ (o = 15 ∧ k = 4) ∨ (o = 20 ∧ k = 4) → S o k = false := fun o k hh => by
    cases hz : S o k with
    | false => rfl
    | true => have := hS o k hz; omega
  refine ⟨f1.cg g.1 g.2.1 g.2.2.1, hT, ?_, ?_, ?_, fun hz => ?_⟩
  · unfold ST at f3 ⊢
    rw [g.1, g.2.1, g.2.2.1]
    exact f3
  · unfold PLm at f4 ⊢
    rw [hp, g.row (o := 7) (fun k => nS _ _ (by omega)), g.row (o := 8) (fun k => nS _ _ (by omega)), g.row (o := 6) (fun k => nS _ _ (by omega))]
    exact f4
  · unfold QCm at f5 ⊢
    rw [hq, g.cell (o := 15) (k := 4) (nS _ _ (by omega)), g.row (o := 18) (fun k => nS _ _ (by omega)), g.row (o := 19) (fun k => nS _ _ (by omega))]
    exact f5
  · obtain ⟨q1, q2⟩ := hf hz
    rw [g.cell (o := 20) (k := 4) (nS _ _ (by omega)), q2]
    exact f6 q1
/-- the heap's part stays where its cells stay -/
theorem SKs.same {t : List Nat} (h : SKs μ s t) (hs : ∀ a, h2K (mK μ a) = true → mK μ' a = mK μ a ∧ mL μ' a = mL μ a ∧ mI μ' a = mI μ a ∧ mR μ' a = mR μ a) : SKs μ' s t := by
  obtain ⟨h1, h2, h3⟩ := h
  obtain ⟨e1, e2, e3, -⟩ := hs s (by rw [h1]; rfl)
  exact ⟨e1.trans h1, e2.trans h2, fun i hi => by rw [e3]; exact h3 i hi⟩
theorem REc.same {gP : Nat → Nat} {late : Nat} {rn : Bool} {x : Ent} {a : Nat} (h : REc A gP late rn x a μ) (hs : ∀ a, h2K (mK μ a) = true → mK μ' a = mK μ a ∧ mL μ' a = mL μ a ∧ mI μ' a = mI μ a ∧ mR μ' a = mR μ a) : REc A gP late rn x a μ' := by
  obtain ⟨h1, h2, ⟨st, h3, h3'⟩, h4, h5, h6, h7⟩ := h
  obtain ⟨e1, e2, e3, e4⟩ := hs a (by rw [h1]; rfl)
  obtain ⟨d1, d2, d3, d4⟩ := hs (a + 1) (by rw [h5]; rfl)
  exact ⟨e1.trans h1, by rw [e4]; exact h2, ⟨st, by rw [e4]; exact h3, h3'.same hs⟩, by rw [e4]; exact h4, d1.trans h5, d2.trans h6, by rw [e3, d3]; exact h7⟩
theorem INc.same {p a : Nat} (h : INc A p a μ) (hs : ∀ a, h2K (mK μ a) = true → mK μ' a = mK μ a ∧ mL μ' a = mL μ a ∧ mI μ' a = mI μ a ∧ mR μ' a = mR μ a) : INc A p a μ' := by
  unfold INc at h ⊢
  obtain ⟨e1, e2, e3, e4⟩ := hs a (by rw [h.1]; rfl)
  rw [e1, e3]
  exact h
theorem ENc.same {p a q : Nat} (h : ENc A p a q μ) (hs : ∀ a, h2K (mK μ a) = true → mK μ' a = mK μ a ∧ mL μ' a = mL μ a ∧ mI μ' a = mI μ a ∧ mR μ' a = mR μ a) : ENc A p a q μ' := by
  unfold ENc at h ⊢
  obtain ⟨e1, e2, e3, e4⟩ := hs a (by rw [h.1]; rfl)
  obtain ⟨d1, d2, d3, d4⟩ := hs q (by rw [h.2.2.2.2.2.2.1]; rfl)
  rw [e1, e3, e4, d1, d2, d3]
  exact h
theorem LSx.same {i n : Nat} {f : Nat → Nat} {e : Nat} (h : LSx b z μ i n f e) (hr : mR μ' (b + lo i) 1 = mR μ (b + lo i) 1) (hs : mK μ' e = mK μ e ∧ mL μ' e = mL μ e ∧ mR μ' e = mR μ e) : LSx b z μ' i n f e := by
  unfold LSx at h ⊢
  rw [hr, hs.1, hs.2.1, hs.2.2]
  exact h
theorem HR.same (h : HR b z A m G ar s μ) (hs : ∀ a, hpK (mK μ a) = true → mK μ' a = mK μ a ∧ mL μ' a = mL μ a ∧ mI μ' a = mI μ a ∧ mR μ' a = mR μ a) (hr : ∀ i, i < 4 → mR μ' (b + lo i) 1 = mR μ (b + lo i) 1) (h3 : mR μ' (b + 20) 3 = mR μ (b + 20) 3) : HR b z A m G ar s μ' := by
  obtain ⟨h1, h2, h3', h4, h5, h6, h7, h8, h9⟩ := h
  have hs2 := fun (a : Nat) (ha : h2K (mK μ a) = true) => hs a (h2_h ha)
  refine ⟨fun i hi => (h1 i hi).same (hr i hi) ?_, h2, fun p hp => (h3' p hp).same hs2, fun k hk => (h4 k hk).same hs2, fun j hj => (h5 j hj).same hs2, h6, fun e he => (h7 e he).same hs2, by rw [h3]; exact h8, h9.same hs2⟩
  obtain ⟨e1, e2, -, e4⟩ := hs (ar i) (by rw [(h1 i hi).2.1]; rfl)
  exact ⟨e1, e2, e4⟩
theorem CH.hp (hC : SC b μ) (g : CH b S μ μ') (hS : ∀ o k, S o k = true → o < 30 ∧ o ≠ 24) : ∀ a, hpK (mK μ a) = true → mK μ' a = mK μ a ∧ mL μ' a = mL μ a ∧ mI μ' a = mI μ a ∧ mR μ' a = mR μ a := fun a ha => by
  refine ⟨by rw [g.1], by rw [g.2.1], funext fun k => g.2.2.2.2.2.2 a k fun o e => ?_, by rw [g.2.2.1]⟩
  cases hz : S o k with
  | false => rfl
  | true =>
    have := hS o k hz
    have fk := hC.fk this.1 this.2
    rw [← e, hf_no ha] at fk
    cases fk
theorem HR.ch (h : HR b z A m G ar s μ) (hC : SC b μ) (g : CH b S μ μ') (hS : ∀ o k, S o k = true → o < 30 ∧ o ≠ 24) : HR b z A m G ar s μ' := h.same (g.hp hC hS) (fun i _ => by rw [g.2.2.1]) (by rw [g.2.2.1])
theorem CH.ck (hC : SC b μ) (g : CH b S μ μ') (hS : ∀ o k, S o k = true → o < 30 ∧ o ≠ 24) : CK 0 0 μ μ' := by
  refine ⟨fun w a ha => ?_, by rw [g.2.2.2.2.1]; exact Nat.le_refl _, by rw [g.2.2.2.2.1]; exact Nat.le_refl _, by rw [g.2.2.2.2.2.1]; exact Nat.le_refl _, fun a _ => ⟨by rw [g.1], by rw [g.2.1]⟩, fun a ha hc => ⟨funext fun k => g.2.2.2.2.2.2 a k fun o e => ?_, by rw [g.2.2.1], by rw [g.2.2.2.1]⟩⟩
  · rw [g.1]
    exact w a (by rw [g.2.2.2.2.1] at ha; exact ha)
  · cases hz : S o k with
    | false => rfl
    | true =>
      have := hS o k hz
      have fk := clK_f (hC.fk this.1 this.2)
      rw [← e, hc] at fk
      cases fk
/-- the same numbers in the abstract state -/
theorem REf.cg {late late' : Nat} {rn : Bool} {x : Ent} {f p : Nat → Int32} (h : REf A late rn x f p) (hP : SamP A A') (hl : late ≠ 0 → late' = late) : REf A' late' rn x f p := by
  unfold REf at h ⊢
  rw [(hP.c (x := x) rfl).1]
  obtain ⟨h1, h2, h3, h4, h5, h6⟩ := h
  exact ⟨h1, h2, h3, h4, h5.elim Or.inl (fun q => Or.inr ⟨(hl (by omega)).trans q.1, q.2⟩), h6⟩
theorem REc.cg {gP : Nat → Nat} {late late' : Nat} {rn : Bool} {x : Ent} {a : Nat} (h : REc A gP late rn x a μ) (hP : SamP A A') (hl : late ≠ 0 → late' = late) : REc A' gP late' rn x a μ := ⟨h.1, h.2.1, h.2.2.1, h.2.2.2.1, h.2.2.2.2.1, h.2.2.2.2.2.1, h.2.2.2.2.2.2.cg hP hl⟩
theorem HR.cg (h : HR b z A m G ar s μ) (hP : SamP A A') (h15 : aS A' 15 = aS A 15) (h9 : aS A' 9 = aS A 9) (h10 : aS A' 10 = aS A 10) (h14 : aS A' 14 = aS A 14) (hB : ∀ k, k < aS A 9 → aB A' k = aB A k) (hL : ∀ j, j < aS A 10 → aL A' j = aL A j) (hT : aT A' = aT A) (hE : ∀ r, r = 14 ∨ r = 15 ∨ r = 20 ∨ r = 21 ∨ r = 22 ∨ r = 23 → aN A' r = aN A r) (hV : aV A' 8 = aV A 8) (hm : ∀ k, k < aS A 9 → m k ≠ 0 → m' k = m k) : HR b z A' m' G ar s μ := by
  obtain ⟨h1, h2, h3, h4, h5, h6, h7, h8, h9'⟩ := h
  have en : ∀ i, i < 4 → nLs A' i = nLs A i := fun i hi => by
    have : i = 0 ∨ i = 1 ∨ i = 2 ∨ i = 3 := by omega
    rcases this with rfl | rfl | rfl | rfl
    · exact h15
    · exact h9
    · exact h10
    · exact h14
  refine ⟨fun i hi => by rw [en i hi]; exact h1 i hi, h2, fun p hp => ?_, fun k hk => ?_, fun j hj => ?_, ?_, fun e he => ?_, h8, by rw [hT]; exact h9'⟩
  · unfold INc
    rw [hP.1 10 (by omega) (by omega), hP.1 11 (by omega) (by omega), hP.1 12 (by omega) (by omega), hP.1 13 (by omega) (by omega), hP.2]
    exact h3 p (by omega)
  · rw [hB k (by omega)]
    exact (h4 k (by omega)).cg hP (fun q => hm k (by omega) q)
  · rw [hL j (by omega)]
    exact (h5 j (by omega)).cg hP (fun q => absurd rfl q)
  · unfold ORc at h6 ⊢
    rw [h9, h10, h14]
    exact ⟨h6.1, h6.2.1, h6.2.2.1, fun e k a c d => h6.2.2.2.1 e k a c (fun q => d ((hm k c (by rw [q]; decide)).trans q)), h6.2.2.2.2⟩
  · unfold ENc
    rw [hE 14 (by omega), hE 15 (by omega), hE 20 (by omega), hE 21 (by omega), hE 22 (by omega), hE 23 (by omega), hV]
    exact h7 e (by omega)
end CLF
