/-! the model in memory -/
def SC (b : Nat) (μ : Mm) : Prop :=
  mK μ b = 111 ∧ mK μ (b + 1) = 101 ∧ mK μ (b + 2) = 100 ∧ mK μ (b + 3) = 110 ∧ mK μ (b + 4) = 102 ∧ mK μ (b + 6) = 109 ∧ mK μ (b + 9) = 106 ∧ mK μ (b + 15) = 108 ∧ mK μ (b + 20) = 105 ∧ mK μ (b + 21) = 100 ∧ mK μ (b + 25) = 100 ∧ mK μ (b + 26) = 100 ∧ mR μ b 0 = some (b + 1) ∧ mR μ (b + 1) 0 = some (b + 2) ∧ mR μ (b + 1) 1 = some (b + 3) ∧ mR μ (b + 1) 2 = some (b + 4) ∧ mR μ (b + 1) 3 = some (b + 6) ∧ mR μ (b + 1) 4 = some (b + 9) ∧ mR μ (b + 1) 5 = some (b + 15) ∧ mR μ (b + 1) 6 = some (b + 20) ∧ mR μ (b + 1) 7 = some (b + 25) ∧ mR μ (b + 1) 8 = some (b + 26) ∧ mR μ (b + 1) 9 = some (b + 27) ∧ mR μ (b + 1) 10 = some (b + 28) ∧ mR μ (b + 1) 11 = some (b + 29) ∧ mR μ (b + 4) 0 = some (b + 5) ∧ mR μ (b + 6) 0 = some (b + 7) ∧ mR μ (b + 6) 1 = some (b + 8) ∧ mR μ (b + 9) 0 = some (b + 10) ∧ mR μ (b + 9) 1 = some (b + 11) ∧ mR μ (b + 9) 2 = some (b + 12) ∧ mR μ (b + 9) 3 = some (b + 13) ∧ mR μ (b + 9) 4 = some (b + 14) ∧ mR μ (b + 15) 0 = some (b + 16) ∧ mR μ (b + 15) 1 = some (b + 17) ∧ mR μ (b + 15) 2 = some (b + 18) ∧ mR μ (b + 15) 3 = some (b + 19) ∧ mR μ (b + 20) 0 = some (b + 21) ∧ mR μ (b + 20) 1 = some (b + 22) ∧ mR μ (b + 20) 2 = some (b + 23) ∧ mK μ (b + 5) = 21 ∧ mL μ (b + 5) = 8 ∧ mK μ (b + 7) = 21 ∧ mL μ (b + 7) = 8 ∧ mK μ (b + 8) = 21 ∧ mL μ (b + 8) = 64 ∧ mK μ (b + 10) = 21 ∧ mL μ (b + 10) = 8 ∧ mK μ (b + 11) = 21 ∧ mL μ (b + 11) = 8 ∧ mK μ (b + 12) = 21 ∧ mL μ (b + 12) = 24 ∧ mK μ (b + 13) = 22 ∧ mL μ (b + 13) = 24 ∧ mK μ (b + 14) = 21 ∧ mL μ (b + 14) = 24 ∧ mK μ (b + 16) = 21 ∧ mL μ (b + 16) = 4 ∧ mK μ (b + 17) = 21 ∧ mL μ (b + 17) = 16 ∧ mK μ (b + 18) = 21 ∧ mL μ (b + 18) = 2 ∧ mK μ (b + 19) = 21 ∧ mL μ (b + 19) = 2 ∧ mK μ (b + 22) = 21 ∧ mL μ (b + 22) = 16 ∧ mK μ (b + 23) = 21 ∧ mL μ (b + 23) = 8 ∧ mK μ (b + 27) = 21 ∧ mL μ (b + 27) = 64 ∧ mK μ (b + 28) = 22 ∧ mL μ (b + 28) = 16 ∧ mK μ (b + 29) = 21 ∧ mL μ (b + 29) = 4
theorem SC.cg {b : Nat} {μ μ' : Mm} (h : SC b μ) (hK : mK μ' = mK μ) (hL : mL μ' = mL μ) (hR : mR μ' = mR μ) : SC b μ' := by
  unfold SC at h ⊢
  rw [hK, hL, hR]
  exact h
/-- the stack in a row from the place o on: its size, its places -/
def STk (f : Nat → Int32) (o : Nat) (t : List Nat) : Prop := f o = nI t.length ∧ ∀ i, i < t.length → f (o + 1 + i) = nI (t.getD i 0)
/-- a row of the model's buffer -/
def REm (A : Sx) (x : Ent) (f : Nat → Int32) : Prop :=
  f 0 = nI (x.1 0) ∧ f 1 = nI (x.1 1) ∧ f 2 = nI (x.1 2) ∧ f 5 = nI (x.1 5) ∧ f 7 = nI (x.1 6) ∧ f 8 = nI (x.1 7) ∧ f 17 = nI (x.1 13) ∧ f 11 = nI (x.1 10) ∧ STk f 23 x.2.2 ∧ (eC A x ≠ 15 → eC A x ≠ 16 → STk f 18 x.2.2) ∧
  (hasD (eC A x) = true → f 9 = nI (x.1 8) ∧ f 10 = nI (x.1 9)) ∧ (isQd (eC A x) = true → x.1 10 ≠ 113 → f 3 = nI (x.1 3)) ∧ (x.1 10 = 120 → f 12 = nI (x.1 11)) ∧ (x.1 10 = 101 → f 4 = nI (x.1 4)) ∧
  (f 13 = if isQd (eC A x) = true then (if eC A x = 9 then (if x.1 10 = 113 then 0 else nI (x.1 12)) else if x.1 10 = 113 ∨ x.1 10 = 120 then 0 else nI (x.1 12)) else if eC A x = 20 then 4 else 0) ∧
  (isCt (eC A x) = false ∨ x.1 10 = 101 → f 6 = x.2.1 0) ∧ (isMm (eC A x) = true → x.1 12 = 0 → (eC A x = 9 ∧ x.1 10 ≠ 113) ∨ x.1 10 = 101 → f 14 = x.2.1 1) ∧
  (eC A x = 9 → x.1 10 ≠ 113 → x.2.1 3 ≠ -1 → f 15 = x.2.1 2) ∧ (hasD (eC A x) = true → isQd (eC A x) = true → x.1 10 = 98 ∨ x.1 10 = 101 → f 15 = x.2.1 2) ∧ (eC A x = 9 → f 16 = x.2.1 3)
/-- a row of the model's line -/
def RLm (A : Sx) (x : Ent) (f : Nat → Int32) : Prop :=
  f 0 = nI (x.1 0) ∧ f 1 = nI (x.1 1) ∧ f 5 = nI (x.1 5) ∧ f 17 = nI (x.1 13) ∧ STk f 23 x.2.2 ∧ (eC A x ≠ 15 → eC A x ≠ 16 → STk f 18 x.2.2)
def Rho (b : Nat) (ρ : Nat → Nat) (μ : Mm) : Prop := (∀ k, k < 16 → mR μ (b + 45) k = some (b + ρ k) ∧ 46 ≤ ρ k ∧ ρ k < 62) ∧ (∀ j k, j < k → k < 16 → ρ j ≠ ρ k) ∧ ∀ k, k < 8 → mR μ (b + 62) k = some (b + (63 + k))
def BM (b : Nat) (A : Sx) (ρ : Nat → Nat) (μ : Mm) : Prop := ∀ k, k < aS A 9 → REm A (aB A k) (mI μ (b + ρ k))
def LM (b : Nat) (A : Sx) (μ : Mm) : Prop := ∀ j, j < aS A 10 → RLm A (aL A j) (mI μ (b + (63 + j)))
def PM (b : Nat) (A : Sx) (μ : Mm) : Prop := ∀ p, p < aS A 15 → mI μ (b + 31) p = nI (aN A 10 p) ∧ mI μ (b + 32) p = nI (aN A 11 p) ∧ mI μ (b + 33) p = nI (aN A 12 p) ∧ mI μ (b + 34) p = nI (aN A 13 p) ∧ mI μ (b + 35) p = aV A 5 p
def KM (b : Nat) (A : Sx) (μ : Mm) : Prop := (∀ r, r < 8 → mI μ (b + 36) r = aV A 6 r) ∧ ∀ a, a < 64 → mI μ (b + 37) a = aV A 7 a
def QM (b : Nat) (A : Sx) (μ : Mm) : Prop := mI μ (b + 30) 35 = nI (aQ A).length ∧ ∀ k, k < (aQ A).length → mI μ (b + 76) k = nI ((aQ A).getD k (0, 0)).1 ∧ mI μ (b + 77) k = nI ((aQ A).getD k (0, 0)).2
def TM (b : Nat) (A : Sx) (μ : Mm) : Prop := STk (mI μ (b + 71)) 0 (aT A)
def FM (b : Nat) (A : Sx) (μ : Mm) : Prop := aS A 12 = 0 → mI μ (b + 30) 26 = nI (aS A 11)
def EM (b : Nat) (A : Sx) (μ : Mm) : Prop := ∀ e, e < aS A 14 → mI μ (b + 78) e = nI (aN A 14 e) ∧ mI μ (b + 79) e = nI (aN A 15 e) ∧ (aN A 14 e ≠ 9 → ∃ q, mR μ (b + 80) e = some q ∧ mK μ q = 71 ∧ mL μ q = 5 ∧ b + 86 ≤ q ∧ mI μ q 0 = nI (aN A 20 e) ∧ mI μ q 1 = nI (aN A 21 e) ∧ mI μ q 2 = aV A 8 e ∧ mI μ q 3 = nI (aN A 22 e) ∧ mI μ q 4 = nI (aN A 23 e))
/-- nothing else but cells of S has changed -/
def CH (b : Nat) (S : Nat → Nat → Bool) (μ μ' : Mm) : Prop := mK μ' = mK μ ∧ mL μ' = mL μ ∧ mR μ' = mR μ ∧ mJ μ' = mJ μ ∧ mN μ' = mN μ ∧ mS μ' = mS μ ∧ ∀ a k, (∀ o, a = b + o → S o k = false) → mI μ' a k = mI μ a k
section CHS
variable {b : Nat} {S S' : Nat → Nat → Bool} {μ μ' μ2 : Mm}
theorem CH.refl0 : CH b S μ μ := ⟨rfl, rfl, rfl, rfl, rfl, rfl, fun _ _ _ => rfl⟩
theorem CH.trans (h : CH b S μ μ') (g : CH b S μ' μ2) : CH b S μ μ2 := by
  obtain ⟨h1, h2, h3, h4, h5, h6, h7⟩ := h
  obtain ⟨g1, g2, g3, g4, g5, g6, g7⟩ := g
  exact ⟨g1.trans h1, g2.trans h2, g3.trans h3, g4.trans h4, g5.trans h5, g6.trans h6, fun a k q => (g7 a k q).trans (h7 a k q)⟩
theorem CH.mono (h : CH b S μ μ') (hs : ∀ o k, S o k = true → S' o k = true) : CH b S' μ μ' := by
  obtain ⟨h1, h2, h3, h4, h5, h6, h7⟩ := h
  refine ⟨h1, h2, h3, h4, h5, h6, fun a k q => h7 a k fun o e => ?_⟩
  cases hz : S o k with
  | false => rfl
  | true => exact absurd (q o e) (by rw [hs o k hz]; exact fun z => by cases z)
theorem CH.put {o k : Nat} {v : Int32} (hs : S o k = true) : CH b S μ (sI μ (b + o) k v) := by
  refine ⟨rfl, rfl, rfl, rfl, rfl, rfl, fun a j q => mI_ne _ _ ?_⟩
  by_cases e : a = b + o
  · right
    intro e2
    have := q o e
    rw [e2, hs] at this
    cases this
  · exact Or.inl e
theorem CH.cell (h : CH b S μ μ') {o k : Nat} (hs : S o k = false) : mI μ' (b + o) k = mI μ (b + o) k := h.2.2.2.2.2.2 _ _ (fun o2 e => by rw [show o2 = o by omega]; exact hs)
theorem CH.row (h : CH b S μ μ') {o : Nat} (hs : ∀ k, S o k = false) : mI μ' (b + o) = mI μ (b + o) := funext fun k => h.cell (hs k)
theorem CH.far (h : CH b S μ μ') {a : Nat} (hs : ∀ o k, S o k = true → o < 86) (ha : b + 86 ≤ a) : mI μ' a = mI μ a := funext fun k => h.2.2.2.2.2.2 _ _ (fun o e => by
  cases hz : S o k with
  | false => rfl
  | true =>
    have := hs o k hz
    omega)
end CHS
section RMS
variable {b : Nat} {A A' : Sx} {ρ : Nat → Nat} {μ μ' : Mm} {S : Nat → Nat → Bool}
theorem Rho.ch (h : Rho b ρ μ) (g : CH b S μ μ') : Rho b ρ μ' := by
  unfold Rho at h ⊢
  rw [g.2.2.1]
  exact h
theorem PM.ch (h : PM b A μ) (g : CH b S μ μ') (hs : ∀ o k, 31 ≤ o → o ≤ 35 → S o k = false) : PM b A μ' := fun p hp => by
  rw [g.row (o := 31) (fun k => hs _ _ (by omega) (by omega)), g.row (o := 32) (fun k => hs _ _ (by omega) (by omega)), g.row (o := 33) (fun k => hs _ _ (by omega) (by omega)), g.row (o := 34) (fun k => hs _ _ (by omega) (by omega)), g.row (o := 35) (fun k => hs _ _ (by omega) (by omega))]
  exact h p hp
theorem KM.ch (h : KM b A μ) (g : CH b S μ μ') (hs : ∀ o k, 36 ≤ o → o ≤ 37 → S o k = false) : KM b A μ' := by
  unfold KM at h ⊢
  rw [g.row (o := 36) (fun k => hs _ _ (by omega) (by omega)), g.row (o := 37) (fun k => hs _ _ (by omega) (by omega))]
  exact h
theorem QM.ch (h : QM b A μ) (g : CH b S μ μ') (h0 : S 30 35 = false) (hs : ∀ o k, 76 ≤ o → o ≤ 77 → S o k = false) : QM b A μ' := by
  unfold QM at h ⊢
  rw [g.cell h0, g.row (o := 76) (fun k => hs _ _ (by omega) (by omega)), g.row (o := 77) (fun k => hs _ _ (by omega) (by omega))]
  exact h
theorem TM.ch (h : TM b A μ) (g : CH b S μ μ') (hs : ∀ k, S 71 k = false) : TM b A μ' := by
  unfold TM at h ⊢
  rw [g.row hs]
  exact h
theorem FM.ch (h : FM b A μ) (g : CH b S μ μ') (hs : S 30 26 = false) : FM b A μ' := fun q => by
  rw [g.cell hs]
  exact h q
theorem EM.ch (h : EM b A μ) (g : CH b S μ μ') (hs : ∀ o k, 78 ≤ o → o ≤ 79 → S o k = false) (hf : ∀ o k, S o k = true → o < 86) : EM b A μ' := fun e he => by
  obtain ⟨h1, h2, h3⟩ := h e he
  rw [g.row (o := 78) (fun k => hs _ _ (by omega) (by omega)), g.row (o := 79) (fun k => hs _ _ (by omega) (by omega)), g.1, g.2.1, g.2.2.1]
  refine ⟨h1, h2, fun q => ?_⟩
  obtain ⟨l, l1, l2, l3, l4, l5⟩ := h3 q
  refine ⟨l, l1, l2, l3, l4, ?_⟩
  rw [g.far hf l4]
  exact l5
theorem BM.ch (h : BM b A ρ μ) (hn : aS A 9 ≤ 16) (hr : Rho b ρ μ) (g : CH b S μ μ') (hs : ∀ o k, 46 ≤ o → o ≤ 61 → S o k = false) : BM b A ρ μ' := fun k hk => by
  obtain ⟨-, r2, r3⟩ := hr.1 k (by omega)
  rw [g.row (o := ρ k) (fun j => hs _ _ (by omega) (by omega))]
  exact h k hk
theorem LM.ch (h : LM b A μ) (hn : aS A 10 ≤ 8) (g : CH b S μ μ') (hs : ∀ o k, 63 ≤ o → o ≤ 70 → S o k = false) : LM b A μ' := fun k hk => by
  rw [g.row (o := 63 + k) (fun j => hs _ _ (by omega) (by omega))]
  exact h k hk
end RMS
