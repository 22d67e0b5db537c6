/-! what always holds of the core -/
theorem zS_ (A : Sx) (i n : Nat) : aS (zS A i n) = up1 (aS A) i n ∧ aN (zS A i n) = aN A ∧ aV (zS A i n) = aV A ∧ aB (zS A i n) = aB A ∧ aL (zS A i n) = aL A ∧ aT (zS A i n) = aT A ∧ aQ (zS A i n) = aQ A := ⟨rfl, rfl, rfl, rfl, rfl, rfl, rfl⟩
theorem zN_ (A : Sx) (r k n : Nat) : aS (zN A r k n) = aS A ∧ aN (zN A r k n) = up2 (aN A) r k n ∧ aV (zN A r k n) = aV A ∧ aB (zN A r k n) = aB A ∧ aL (zN A r k n) = aL A ∧ aT (zN A r k n) = aT A ∧ aQ (zN A r k n) = aQ A := ⟨rfl, rfl, rfl, rfl, rfl, rfl, rfl⟩
theorem zNr_ (A : Sx) (r : Nat) (f : Nat → Nat) : aS (zNr A r f) = aS A ∧ aN (zNr A r f) = up1 (aN A) r f ∧ aV (zNr A r f) = aV A ∧ aB (zNr A r f) = aB A ∧ aL (zNr A r f) = aL A ∧ aT (zNr A r f) = aT A ∧ aQ (zNr A r f) = aQ A := ⟨rfl, rfl, rfl, rfl, rfl, rfl, rfl⟩
theorem zV_ (A : Sx) (r k : Nat) (v : Int32) : aS (zV A r k v) = aS A ∧ aN (zV A r k v) = aN A ∧ aV (zV A r k v) = up2 (aV A) r k v ∧ aB (zV A r k v) = aB A ∧ aL (zV A r k v) = aL A ∧ aT (zV A r k v) = aT A ∧ aQ (zV A r k v) = aQ A := ⟨rfl, rfl, rfl, rfl, rfl, rfl, rfl⟩
theorem zB_ (A : Sx) (k : Nat) (x : Ent) : aS (zB A k x) = aS A ∧ aN (zB A k x) = aN A ∧ aV (zB A k x) = aV A ∧ aB (zB A k x) = up1 (aB A) k x ∧ aL (zB A k x) = aL A ∧ aT (zB A k x) = aT A ∧ aQ (zB A k x) = aQ A := ⟨rfl, rfl, rfl, rfl, rfl, rfl, rfl⟩
theorem zBr_ (A : Sx) (f : Nat → Ent) : aS (zBr A f) = aS A ∧ aN (zBr A f) = aN A ∧ aV (zBr A f) = aV A ∧ aB (zBr A f) = f ∧ aL (zBr A f) = aL A ∧ aT (zBr A f) = aT A ∧ aQ (zBr A f) = aQ A := ⟨rfl, rfl, rfl, rfl, rfl, rfl, rfl⟩
theorem zL_ (A : Sx) (k : Nat) (x : Ent) : aS (zL A k x) = aS A ∧ aN (zL A k x) = aN A ∧ aV (zL A k x) = aV A ∧ aB (zL A k x) = aB A ∧ aL (zL A k x) = up1 (aL A) k x ∧ aT (zL A k x) = aT A ∧ aQ (zL A k x) = aQ A := ⟨rfl, rfl, rfl, rfl, rfl, rfl, rfl⟩
theorem zLr_ (A : Sx) (f : Nat → Ent) : aS (zLr A f) = aS A ∧ aN (zLr A f) = aN A ∧ aV (zLr A f) = aV A ∧ aB (zLr A f) = aB A ∧ aL (zLr A f) = f ∧ aT (zLr A f) = aT A ∧ aQ (zLr A f) = aQ A := ⟨rfl, rfl, rfl, rfl, rfl, rfl, rfl⟩
theorem zT_ (A : Sx) (t : List Nat) : aS (zT A t) = aS A ∧ aN (zT A t) = aN A ∧ aV (zT A t) = aV A ∧ aB (zT A t) = aB A ∧ aL (zT A t) = aL A ∧ aT (zT A t) = t ∧ aQ (zT A t) = aQ A := ⟨rfl, rfl, rfl, rfl, rfl, rfl, rfl⟩
theorem zQ_ (A : Sx) (q : List (Nat × Nat)) : aS (zQ A q) = aS A ∧ aN (zQ A q) = aN A ∧ aV (zQ A q) = aV A ∧ aB (zQ A q) = aB A ∧ aL (zQ A q) = aL A ∧ aT (zQ A q) = aT A ∧ aQ (zQ A q) = q := ⟨rfl, rfl, rfl, rfl, rfl, rfl, rfl⟩
theorem eN_ (x : Ent) (i n : Nat) : (eN x i n).1 = up1 x.1 i n ∧ (eN x i n).2 = x.2 := ⟨rfl, rfl⟩
theorem eV_ (x : Ent) (i : Nat) (v : Int32) : (eV x i v).1 = x.1 ∧ (eV x i v).2.1 = up1 x.2.1 i v ∧ (eV x i v).2.2 = x.2.2 := ⟨rfl, rfl, rfl⟩
theorem up2_if {α : Type} (f : Nat → Nat → α) (a b k : Nat) (v : α) : up2 f a k v b = if b = a then up1 (f a) k v else f b := rfl
/-! what codes don't need -/
def nX (c : Nat) : Bool := isQd c && decide (c ≠ 1)
theorem c22 {P : Nat → Prop} (h0 : P 0) (h1 : P 1) (h2 : P 2) (h3 : P 3) (h4 : P 4) (h5 : P 5) (h6 : P 6) (h7 : P 7) (h8 : P 8) (h9 : P 9) (h10 : P 10) (h11 : P 11) (h12 : P 12) (h13 : P 13) (h14 : P 14) (h15 : P 15) (h16 : P 16) (h17 : P 17) (h18 : P 18) (h19 : P 19) (h20 : P 20) (h21 : P 21) : ∀ c, c ≤ 21 → P c := fun c hc => by
  have : c = 0 ∨ c = 1 ∨ c = 2 ∨ c = 3 ∨ c = 4 ∨ c = 5 ∨ c = 6 ∨ c = 7 ∨ c = 8 ∨ c = 9 ∨ c = 10 ∨ c = 11 ∨ c = 12 ∨ c = 13 ∨ c = 14 ∨ c = 15 ∨ c = 16 ∨ c = 17 ∨ c = 18 ∨ c = 19 ∨ c = 20 ∨ c = 21 := by omega
  rcases this with rfl | rfl | rfl | rfl | rfl | rfl | rfl | rfl | rfl | rfl | rfl | rfl | rfl | rfl | rfl | rfl | rfl | rfl | rfl | rfl | rfl | rfl <;> assumption
theorem tpV_n (x y n : Int32) : ∀ c, c ≤ 21 → tpV c x y n = tpV c (if nX c = true then x else 0) (if nB c = true then y else 0) n := by
  refine c22 ?_ ?_ ?_ ?_ ?_ ?_ ?_ ?_ ?_ ?_ ?_ ?_ ?_ ?_ ?_ ?_ ?_ ?_ ?_ ?_ ?_ ?_ <;> simp [tpV, nX, nB, isQd, isQn, isMm, isLp]
theorem rsV_n (p : Nat) (x y n : Int32) : ∀ c, c ≤ 21 → rsV c p x y n = rsV c p (if nX c = true then x else 0) (if nB c = true then y else 0) n := by
  refine c22 ?_ ?_ ?_ ?_ ?_ ?_ ?_ ?_ ?_ ?_ ?_ ?_ ?_ ?_ ?_ ?_ ?_ ?_ ?_ ?_ ?_ ?_ <;> simp [rsV, nX, nB, isQd, isQn, isMm, isLp]
theorem goV_n (p : Nat) (x y n : Int32) : ∀ c, c ≤ 21 → goV c p x y n = goV c p (if nX c = true then x else 0) (if nB c = true then y else 0) n := c22 rfl rfl rfl rfl rfl rfl rfl rfl rfl rfl rfl rfl rfl rfl rfl rfl rfl rfl rfl rfl rfl rfl
theorem soV_n (x y : Int32) : ∀ c, c ≤ 21 → (isQn c && soV c x y) = (isQn c && soV c (if nX c = true then x else 0) (if nB c = true then y else 0)) := c22 rfl rfl rfl rfl rfl rfl rfl rfl rfl rfl rfl rfl rfl rfl rfl rfl rfl rfl rfl rfl rfl rfl
theorem mm_n (x n : Int32) : ∀ c, c ≤ 21 → isMm c = true → x + n = (if nX c = true then x else 0) + n := by
  refine c22 ?_ ?_ ?_ ?_ ?_ ?_ ?_ ?_ ?_ ?_ ?_ ?_ ?_ ?_ ?_ ?_ ?_ ?_ ?_ ?_ ?_ ?_ <;> first | (intro h; rfl) | (intro h; exact absurd h (by decide))
def opX (A : Sx) (x : Ent) : Int32 := if nX (eC A x) = true then eX A x else 0
def opY (A : Sx) (x : Ent) : Int32 := if nB (eC A x) = true then eY A x else 0
/-! the parts -/
def CF (A : Sx) : Prop :=
  (1 ≤ aS A 16 ∧ aS A 16 ≤ 4) ∧ (4 ≤ aS A 17 ∧ aS A 17 ≤ 16) ∧ (2 ≤ aS A 18 ∧ aS A 18 ≤ 8) ∧ (10 ≤ aS A 8 ∧ aS A 8 ≤ 24) ∧ aS A 15 ≤ 64 ∧ (∀ p, p < aS A 15 → aN A 10 p ≤ 21 ∧ aN A 11 p < 8 ∧ aN A 12 p < 8 ∧ aN A 13 p < 8 ∧ (12 ≤ aN A 10 p → aN A 10 p ≤ 15 → adok (aV A 5 p) = true)) ∧ (∀ k, k < 2 → aV A 0 k = -1 ∨ adok (aV A 0 k) = true)
def okT (t : List Nat) : Prop := t.length ≤ 4 ∧ ∀ p ∈ t, p ≤ 64
/-- plain bounds -/
def BD (A : Sx) : Prop :=
  aS A 9 ≤ aS A 17 ∧ (∀ k, k < 16 → aN A 4 k ≤ 3) ∧ (∀ k, k < 8 → aV A 3 k = -1 ∨ adok (aV A 3 k) = true) ∧ (∀ k, k < 16 → 1 ≤ aN A 6 k ∧ aN A 6 k ≤ 30) ∧ (∀ k, k < 24 → aN A 2 k ≤ 1) ∧ (∀ k, k < 16 → aN A 5 k ≤ 1) ∧ (aS A 1 ≤ 1 ∧ aS A 2 ≤ 1 ∧ aS A 3 ≤ 1) ∧ aS A 5 ≤ 64 ∧ aS A 4 ≤ 64
/-- the lines asked for: few, apart -/
def QK (A : Sx) : Prop := (aQ A).length ≤ 2 ∧ (∀ z ∈ aQ A, z.1 < 16) ∧ ((aQ A).map (·.1)).Nodup
def okE (A : Sx) (x : Ent) : Prop := x.1 0 < aS A 15 ∧ x.1 5 ≤ 64 ∧ okT x.2.2 ∧ (isCt (eC A x) = false → nI (x.1 5) = goV (eC A x) (x.1 0) 0 0 (eI A x))
def MC (A : Sx) : Prop := (∀ r, r < 8 → aN A 0 r = mapAt A (aS A 9) r) ∧ ∀ k, k < aS A 9 → (aB A k).1 6 = mapAt A k (aN A 12 ((aB A k).1 0)) ∧ (aB A k).1 7 = mapAt A k (aN A 13 ((aB A k).1 0)) ∧ (hasD (eC A (aB A k)) = true → (aB A k).1 9 = mapAt A k (eD A (aB A k)))
/-- what has been computed of an entry that is not in the queue -/
def CM (A : Sx) (x : Ent) : Prop :=
  (nX (eC A x) = true → aN A 2 (x.1 6) = 1) ∧ (nB (eC A x) = true → aN A 2 (x.1 7) = 1) ∧
  x.1 12 = (if eC A x = 21 ∧ aS A 3 = 0 then 5 else tpV (eC A x) (opX A x) (opY A x) (eI A x)) ∧
  x.2.1 0 = goV (eC A x) (x.1 0) (opX A x) (opY A x) (eI A x) ∧
  x.1 14 = (if (isQn (eC A x) && soV (eC A x) (opX A x) (opY A x)) = true then 1 else 0) ∧
  x.2.1 1 = (if isMm (eC A x) = true ∧ x.1 12 = 0 then opX A x + eI A x else -1) ∧
  (eC A x ≠ 9 → isQd (eC A x) = true → x.2.1 2 = if x.1 12 = 0 then rsV (eC A x) (x.1 0) (opX A x) (opY A x) (eI A x) else 0) ∧
  (eC A x = 9 → x.1 12 ≠ 0 → x.2.1 2 = 0) ∧
  (x.1 10 = 101 → hasD (eC A x) = true → aV A 1 (x.1 8) = if eC A x = 15 then nI (x.1 0 + 1) else x.2.1 2)
def DY (A : Sx) (x : Ent) : Prop :=
  (x.1 10 = 113 ∨ x.1 10 = 120 ∨ x.1 10 = 109 ∨ x.1 10 = 98 ∨ x.1 10 = 101) ∧ (isQd (eC A x) = false → x.1 10 = 101) ∧ (x.1 10 = 98 → hasD (eC A x) = true) ∧
  (x.1 10 = 109 → eC A x = 9 ∧ x.1 12 = 0 ∧ lineOf x ∈ (aQ A).map (·.1) ∧ x.2.1 3 = -1) ∧
  (hasD (eC A x) = true → aN A 2 (x.1 8) = if x.1 10 = 101 then 1 else 0) ∧ (x.1 10 = 113 → x.2.1 3 = -1) ∧ (x.1 10 ≠ 113 → CM A x)
/-- an ended store with this address -/
def ES (A : Sx) (j : Nat) (a : Int32) : Prop := isSt (eC A (aB A j)) = true ∧ (aB A j).1 10 = 101 ∧ (aB A j).1 12 = 0 ∧ (aB A j).2.1 1 = a
/-- what a load that has begun holds -/
def LDr (A : Sx) (k : Nat) (x : Ent) : Prop :=
  (x.2.1 3 = -1 ∧ (∀ j, j < k → ¬ ES A j (x.2.1 1)) ∧ (x.1 10 = 98 ∨ x.1 10 = 101 → x.2.1 2 = aV A 2 (x.2.1 1).toNatClampNeg)) ∨
  ∃ g, x.2.1 3 = nI g ∧ g < aS A 6 ∧
    ((∃ j, j < k ∧ (aB A j).1 13 = g ∧ ES A j (x.2.1 1) ∧ eC A (aB A j) = 10 ∧ aN A 2 ((aB A j).1 7) = 1 ∧ x.2.1 2 = eY A (aB A j) ∧ ∀ i, j < i → i < k → ¬ ES A i (x.2.1 1)) ∨
     ((∀ j, j < aS A 9 → g < (aB A j).1 13) ∧ (∀ j, j < k → ¬ ES A j (x.2.1 1)) ∧ x.2.1 2 = aV A 2 (x.2.1 1).toNatClampNeg))
def LD (A : Sx) (k : Nat) : Prop := eC A (aB A k) = 9 → (aB A k).1 10 ≠ 113 → (aB A k).1 12 = 0 → LDr A k (aB A k)
def suc (A : Sx) (x : Ent) : Nat := if isCt (eC A x) = true ∧ x.1 10 = 101 ∧ x.1 12 = 0 then (x.2.1 0).toNatClampNeg else x.1 5
/-- the place behind the first k entries -/
def prd (A : Sx) (k : Nat) : Nat := if k = 0 then aS A 5 else suc A (aB A (k - 1))
def NB (A : Sx) : Prop := (∀ j k, j < k → k < aS A 9 → (aB A j).1 13 < (aB A k).1 13) ∧ (∀ k, k < aS A 9 → (aB A k).1 13 < aS A 6) ∧ aS A 6 ≤ 2000
/-- the core is where the plain machine is -/
def PL (A : Sx) : Prop := (∀ r, r < 8 → aV A 1 (aN A 1 r) = (plA A (aS A 14)).1 r) ∧ (∀ a, a < 64 → aV A 2 a = (plA A (aS A 14)).2.1 a) ∧ aS A 5 = (plA A (aS A 14)).2.2 0 ∧ aS A 3 = (plA A (aS A 14)).2.2 1 ∧ aS A 4 = (plA A (aS A 14)).2.2 2
/-- ends are the plain machine's; one that stops it is the last -/
def EN (A : Sx) : Prop := ∀ e, e < aS A 14 → aN A 15 e = (plA A e).2.2 0 ∧ nI (aN A 14 e) = plK A (plA A e) (aN A 14 e) ∧ aN A 14 e ≤ 9 ∧ (aN A 14 e ≠ 9 → (aN A 10 (aN A 15 e) = 18 ∨ (aN A 14 e ≠ 0 ∧ ((plA A e).2.2 1 ≠ 0 ∨ aV A 0 0 = -1))) → aS A 1 = 1 ∧ e + 1 = aS A 14)
/-- of the buffer; what time changes, of the first n entries -/
def IBp (A : Sx) (n : Nat) : Prop :=
  CF A ∧ BD A ∧ QK A ∧ PT A ∧ MC A ∧ (∀ k, k < aS A 9 → okE A (aB A k)) ∧ (∀ k, k < n → DY A (aB A k)) ∧ (∀ k, k < n → LD A k) ∧
  (∀ k, k < n → (aB A k).1 0 = prd A k) ∧ NB A ∧ PL A ∧ EN A ∧ (∀ r, r < 8 → aN A 2 (aN A 1 r) = 1) ∧ (∀ k, k < aS A 9 → isAl (eC A (aB A k)) = true → aS A 9 = 1) ∧ (∀ k, k < aS A 9 → isEf (eC A (aB A k)) = true → k + 1 = aS A 9)
def IB (A : Sx) : Prop := IBp A (aS A 9)
/-- of the front -/
def IF (A : Sx) : Prop :=
  aS A 10 ≤ 2 * aS A 16 ∧ okT (aT A) ∧ aS A 12 ≤ 1 ∧ (∀ j, j < aS A 10 → okE A (aL A j) ∧ (aL A j).1 13 < aS A 6 ∧ (aL A j).1 10 = 113 ∧ (aL A j).1 12 = 0 ∧ (aL A j).1 14 = 0 ∧ (aL A j).2.1 3 = -1 ∧ (aL A j).2.1 1 = -1 ∧ (aL A j).2.1 0 = goV (eC A (aL A j)) ((aL A j).1 0) 0 0 (eI A (aL A j))) ∧
  (∀ i j, i < j → j < aS A 10 → (aL A i).1 13 < (aL A j).1 13) ∧ (∀ k j, k < aS A 9 → j < aS A 10 → (aB A k).1 13 < (aL A j).1 13) ∧
  (0 < aS A 10 → (aL A 0).1 0 = prd A (aS A 9)) ∧ (∀ j, j + 1 < aS A 10 → (aL A (j + 1)).1 0 = (aL A j).1 5) ∧
  (aS A 12 = 0 → aS A 11 = if aS A 10 = 0 then prd A (aS A 9) else (aL A (aS A 10 - 1)).1 5) ∧ (aS A 12 = 0 → aS A 11 ≤ 64) ∧
  (∀ k, k < aS A 9 → isEf (eC A (aB A k)) = true → aS A 10 = 0 ∧ aS A 12 = 1) ∧ (∀ j, j < aS A 10 → isEf (eC A (aL A j)) = true → j + 1 = aS A 10 ∧ aS A 12 = 1) ∧
  (aS A 1 = 1 → aS A 9 = 0 ∧ aS A 10 = 0 ∧ aS A 12 = 1)
