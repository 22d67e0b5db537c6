/-! LAYER 2, PURE: the state of the core as numbers, and what a cycle does to it -/
/-- an entry: numbers (0 place, 1 fetched, 2 renamed, 3 begun, 4 ended, 5 guess, 6 a, 7 b, 8 d, 9 before, 10 stage, 11 ends in, 12 trap, 13 number, 14 so), values (0 goes, 1 address, 2 value, 3 giver), the stack of returns behind its fetching -/
abbrev Ent : Type := (Nat → Nat) × (Nat → Int32) × List Nat
/-- scalars (0 cycle, 1 stopped, 2 wants an interrupt, 3 handling, 4 kept, 5 next, 6 numbers, 7 free, 8 inners, 9 in the buffer, 10 in the line, 11 place of fetching, 12 held, 14 ends, 15 program, 16 width, 17 buffer's most, 18 queue's most, 19 wrong, 20 early, 21 gone, 22 taken, 23 there, 24 asking), rows of numbers (0 map, 1 retired, 2 ready, 3 free line, 4 counters, 5 marks, 6 times, 7 lost, 10 codes, 11 d, 12 a, 13 b, 14 kinds, 15 places, 20 fetched, 21 renamed, 22 ended, 23 gone of ends), rows of values (0 handlers, 1 inner values, 2 words, 3 table, 4 lines that are there, 5 n, 6 first registers, 7 first words, 8 begun of ends), buffer, line, stack, lines asked for with their cycles -/
abbrev Sx : Type := (Nat → Nat) × (Nat → Nat → Nat) × (Nat → Nat → Int32) × (Nat → Ent) × (Nat → Ent) × List Nat × List (Nat × Nat)
def aS (A : Sx) : Nat → Nat := A.1
def aN (A : Sx) : Nat → Nat → Nat := A.2.1
def aV (A : Sx) : Nat → Nat → Int32 := A.2.2.1
def aB (A : Sx) : Nat → Ent := A.2.2.2.1
def aL (A : Sx) : Nat → Ent := A.2.2.2.2.1
def aT (A : Sx) : List Nat := A.2.2.2.2.2.1
def aQ (A : Sx) : List (Nat × Nat) := A.2.2.2.2.2.2
def zS (A : Sx) (i n : Nat) : Sx := (up1 A.1 i n, A.2)
def zN (A : Sx) (r k n : Nat) : Sx := (A.1, up2 A.2.1 r k n, A.2.2)
def zNr (A : Sx) (r : Nat) (f : Nat → Nat) : Sx := (A.1, up1 A.2.1 r f, A.2.2)
def zV (A : Sx) (r k : Nat) (v : Int32) : Sx := (A.1, A.2.1, up2 A.2.2.1 r k v, A.2.2.2)
def zB (A : Sx) (k : Nat) (x : Ent) : Sx := (A.1, A.2.1, A.2.2.1, up1 A.2.2.2.1 k x, A.2.2.2.2)
def zBr (A : Sx) (f : Nat → Ent) : Sx := (A.1, A.2.1, A.2.2.1, f, A.2.2.2.2)
def zL (A : Sx) (k : Nat) (x : Ent) : Sx := (A.1, A.2.1, A.2.2.1, A.2.2.2.1, up1 A.2.2.2.2.1 k x, A.2.2.2.2.2)
def zLr (A : Sx) (f : Nat → Ent) : Sx := (A.1, A.2.1, A.2.2.1, A.2.2.2.1, f, A.2.2.2.2.2)
def zT (A : Sx) (t : List Nat) : Sx := (A.1, A.2.1, A.2.2.1, A.2.2.2.1, A.2.2.2.2.1, t, A.2.2.2.2.2.2)
def zQ (A : Sx) (q : List (Nat × Nat)) : Sx := (A.1, A.2.1, A.2.2.1, A.2.2.2.1, A.2.2.2.2.1, A.2.2.2.2.2.1, q)
def eN (x : Ent) (i n : Nat) : Ent := (up1 x.1 i n, x.2)
def eV (x : Ent) (i : Nat) (v : Int32) : Ent := (x.1, up1 x.2.1 i v, x.2.2)
/-! codes -/
def hasD (c : Nat) : Bool := (decide (1 ≤ c) && decide (c ≤ 9)) || decide (c = 15)
def isQd (c : Nat) : Bool := (decide (1 ≤ c) && decide (c ≤ 13)) || decide (c = 16) || decide (c = 17)
def isSt (c : Nat) : Bool := decide (c = 10) || decide (c = 11)
def isQn (c : Nat) : Bool := decide (c = 12) || decide (c = 13)
def isLp (c : Nat) : Bool := decide (c = 16) || decide (c = 17)
def isCt (c : Nat) : Bool := isQn c || isLp c
def isAl (c : Nat) : Bool := decide (c = 19) || decide (c = 21)
def isEf (c : Nat) : Bool := decide (c = 18) || decide (c = 21)
def isMm (c : Nat) : Bool := decide (c = 9) || decide (c = 10) || decide (c = 11)
def nA (c : Nat) : Bool := decide (c ≠ 1)
def nB (c : Nat) : Bool := (decide (2 ≤ c) && decide (c ≤ 8)) || isQn c
def adok (a : Int32) : Bool := decide (0 ≤ a) && decide (a < 64)
def tpV (c : Nat) (x y n : Int32) : Nat := if c = 5 then (if y = 0 then 1 else 0) else if isMm c then (if adok (x + n) then 0 else 2) else if isLp c then (if adok x then 0 else 3) else if c = 20 then 4 else 0
def rsV (c p : Nat) (x y n : Int32) : Int32 := if c = 1 then n else if c = 2 then x + y else if c = 3 then x - y else if c = 4 then x * y else if c = 5 then (if y = 0 then 0 else x / y) else if c = 6 then x &&& y else if c = 7 then x ^^^ y else if c = 8 then (if x < y then 1 else 0) else if c = 15 then nI (p + 1) else 0
def soV (c : Nat) (x y : Int32) : Bool := if c = 12 then decide (x = y) else decide (x < y)
def goV (c p : Nat) (x y n : Int32) : Int32 := if isQn c then (if soV c x y then n else nI (p + 1)) else if isLp c then x else if c = 14 ∨ c = 15 then n else nI (p + 1)
def chW (c : Nat) (w y : Int32) : Int32 := if c = 10 then y else (w &&& (-65536)) ||| (y &&& 65535)
def unit (c : Nat) : Nat := if c = 4 then 1 else if c = 5 then 2 else if isMm c then 3 else 0
def dly (c : Nat) : Nat := if c = 4 then 3 else if c = 5 then 6 else 1
/-! what an entry's instruction is -/
def eC (A : Sx) (x : Ent) : Nat := aN A 10 (x.1 0)
def eD (A : Sx) (x : Ent) : Nat := aN A 11 (x.1 0)
def eI (A : Sx) (x : Ent) : Int32 := aV A 5 (x.1 0)
def eX (A : Sx) (x : Ent) : Int32 := aV A 1 (x.1 6)
def eY (A : Sx) (x : Ent) : Int32 := aV A 1 (x.1 7)
/-! throwing away, going on -/
def takeB (A : Sx) (x : Ent) : Sx := if hasD (eC A x) then zS (zN (zN A 0 (eD A x) (x.1 9)) 3 (aS A 7) (x.1 8)) 7 (aS A 7 + 1) else A
def throw1 (A : Sx) : Sx := let B := takeB A (aB A (aS A 9 - 1)); zS (zS B 9 (aS A 9 - 1)) 21 (aS A 21 + 1)
def throwN (A : Sx) : Nat → Sx
  | 0 => A
  | m + 1 => throwN (throw1 A) m
def throwF (A : Sx) (at_ : Nat) : Sx := throwN (zS A 10 0) (aS A 9 - at_)
def goOn (A : Sx) (p : Nat) (t : List Nat) : Sx := zT (zS (zS A 11 p) 12 0) t
/-! answers -/
def lineOf (x : Ent) : Nat := (x.2.1 1).toNatClampNeg / 4
def comeIn (A : Sx) (q : List (Nat × Nat)) : Sx := q.foldl (fun B z => zV B 4 (z.1 % 4) (nI z.1)) A
def wake (A : Sx) (q : List (Nat × Nat)) (x : Ent) : Ent := if x.1 10 = 109 ∧ lineOf x ∈ q.map (·.1) then eN (eN x 10 120) 11 (aS A 0) else x
def answers (A : Sx) : Sx :=
  let q := (aQ A).filter (fun z => z.2 == aS A 0)
  let B := comeIn A q
  zBr (zQ B ((aQ A).filter (fun z => !(z.2 == aS A 0)))) (fun k => wake A q (aB A k))
/-! endings -/
def findLd (A : Sx) (a : Int32) (num : Nat) : Nat → Nat → Option Nat
  | 0, _ => none
  | n + 1, k => if eC A (aB A k) = 9 ∧ (aB A k).1 10 ≠ 113 ∧ (aB A k).2.1 1 = a ∧ (aB A k).2.1 3 < nI num then some k else findLd A a num n (k + 1)
def endCt (A : Sx) (k : Nat) : Sx :=
  let x := aB A k
  if isCt (eC A x) ∧ x.1 12 = 0 ∧ x.2.1 0 ≠ nI (x.1 5) then goOn (throwF (zS A 19 (aS A 19 + 1)) (k + 1)) (x.2.1 0).toNatClampNeg x.2.2 else A
def endSt (A : Sx) (k : Nat) : Sx :=
  let x := aB A k
  if isSt (eC A x) ∧ x.1 12 = 0 then
    match findLd A (x.2.1 1) (x.1 13) (aS A 9 - (k + 1)) (k + 1) with
    | none => A
    | some j => let y := aB A j; goOn (throwF (zN (zS A 20 (aS A 20 + 1)) 5 (y.1 0 % 16) 1) j) (y.1 0) y.2.2
  else A
def endDl (A : Sx) (k : Nat) : Sx :=
  let x := aB A k
  let x1 := if eC A x = 9 ∧ x.2.1 3 = -1 ∧ x.1 12 = 0 then eV x 2 (aV A 2 (x.2.1 1).toNatClampNeg) else x
  if hasD (eC A x) then zB A k (eN x1 10 98) else zB A k (eN (eN x 10 101) 4 (aS A 0))
def endOne (A : Sx) (k : Nat) : Sx := if (aB A k).1 10 = 120 ∧ (aB A k).1 11 = aS A 0 then endSt (endCt (endDl A k) k) k else A
def endL (A : Sx) : Nat → Nat → Sx
  | 0, _ => A
  | n + 1, k => if k < aS A 9 then endL (endOne A k) n (k + 1) else A
def bus1 (A : Sx) (k : Nat) : Sx :=
  let x := aB A k
  zB (zN (zV A 1 (x.1 8) (x.2.1 2)) 2 (x.1 8) 1) k (eN (eN x 10 101) 4 (aS A 0))
def busL (A : Sx) : Nat → Nat → Nat → Sx
  | 0, _, _ => A
  | n + 1, k, w => if k < aS A 9 ∧ w < 2 then (if (aB A k).1 10 = 98 then busL (bus1 A k) n (k + 1) (w + 1) else busL A n (k + 1) w) else A
def endings (A : Sx) : Sx := busL (endL A 17 0) 17 0 0
/-! retiring -/
def tell (A : Sx) (kind place f r b e : Nat) (bg : Int32) : Sx :=
  zS (zV (zN (zN (zN (zN (zN (zN A 14 (aS A 14) kind) 15 (aS A 14) place) 20 (aS A 14) f) 21 (aS A 14) r) 22 (aS A 14) e) 23 (aS A 14) b) 8 (aS A 14) bg) 14 (aS A 14 + 1)
def tellE (A : Sx) (x : Ent) (kind : Nat) : Sx := tell A kind (x.1 0) (x.1 1) (x.1 2) (aS A 0) (x.1 4) (if isQd (eC A x) then nI (x.1 3) else -1)
def lose (A : Sx) (i : Nat) : Sx := zN A 7 i (aN A 7 i + 1)
def intr (A : Sx) : Sx :=
  let B := tell A 9 (aS A 5) 0 0 0 0 (-1)
  lose (goOn (throwF (zS (zS (zS (zS B 2 0) 3 1) 4 (aS A 5)) 5 (aV A 0 1).toNatClampNeg) 0) (aV A 0 1).toNatClampNeg []) 0
def trapIt (A : Sx) (x : Ent) : Sx :=
  let B := throwF A 0
  if aS A 3 ≠ 0 ∨ aV A 0 0 = -1 then zS (zT (zS B 12 1) []) 1 1
  else goOn (zS (zS (zS B 4 (x.1 0 + 1)) 3 1) 5 (aV A 0 0).toNatClampNeg) (aV A 0 0).toNatClampNeg []
def settle (A : Sx) (x : Ent) : Sx := if hasD (eC A x) then zS (zN (zN A 1 (eD A x) (x.1 8)) 3 (aS A 7) (x.1 9)) 7 (aS A 7 + 1) else A
def learn (A : Sx) (x : Ent) : Sx :=
  if isQn (eC A x) then zN A 4 (x.1 0 % 16) (if x.1 14 = 1 then min 3 (aN A 4 (x.1 0 % 16) + 1) else aN A 4 (x.1 0 % 16) - 1)
  else if eC A x = 17 then zV A 3 (x.1 0 % 8) (x.2.1 0) else A
def finR (A : Sx) (x : Ent) : Sx :=
  if isSt (eC A x) then zV A 2 (x.2.1 1).toNatClampNeg (chW (eC A x) (aV A 2 (x.2.1 1).toNatClampNeg) (eY A x))
  else if eC A x = 18 then zS A 1 1
  else if eC A x = 21 then goOn (zS (zS (zS A 3 0) 5 (aS A 4)) 10 0) (aS A 4) (aT A) else A
def shiftB (A : Sx) : Sx := zS (zBr A (fun k => aB A (k + 1))) 9 (aS A 9 - 1)
def ret1 (A : Sx) : Sx :=
  let x := aB A 0
  finR (learn (settle (zS (shiftB (tellE A x 0)) 5 (x.2.1 0).toNatClampNeg) x) x) x
def canLv (A : Sx) : Bool := decide (aS A 1 = 0) && decide (0 < aS A 9) && decide ((aB A 0).1 10 = 101) && (!isSt (eC A (aB A 0)) || decide ((aB A 0).1 12 ≠ 0) || decide (aN A 2 ((aB A 0).1 7) = 1))
def why (s : Nat) : Nat := if s = 113 then 3 else if s = 120 then 4 else if s = 109 then 5 else if s = 98 then 6 else 7
def reas (A : Sx) : Nat := if aS A 9 = 0 then 2 else why ((aB A 0).1 10)
def trap1 (A : Sx) (ret : Nat) : Sx :=
  let x := aB A 0
  let B := trapIt (tellE A x (x.1 12)) x
  if ret = 0 then lose B 1 else B
def rtL (A : Sx) : Nat → Nat → Sx
  | 0, ret => if ret = 0 then lose A (reas A) else A
  | n + 1, ret => if canLv A then (if (aB A 0).1 12 ≠ 0 then trap1 A ret else rtL (ret1 A) n (ret + 1)) else if ret = 0 then lose A (reas A) else A
def retires (A : Sx) : Sx := if aS A 2 ≠ 0 ∧ aS A 3 = 0 ∧ aV A 0 1 ≠ -1 then intr A else rtL A (aS A 16) 0
/-! beginnings -/
def cmp (A : Sx) (x : Ent) : Ent :=
  let c := eC A x
  let t := tpV c (eX A x) (eY A x) (eI A x)
  let v : Int32 := if t = 0 then rsV c (x.1 0) (eX A x) (eY A x) (eI A x) else 0
  let ad : Int32 := if isMm c ∧ t = 0 then eX A x + eI A x else -1
  eN (eN (eV (eV (eV x 0 (goV c (x.1 0) (eX A x) (eY A x) (eI A x))) 1 ad) 2 v) 12 t) 14 (if isQn c && soV c (eX A x) (eY A x) then 1 else 0)
def bgW (x : Ent) (d cyc : Nat) : Ent := eN (eN (eN x 10 120) 11 (cyc + d)) 3 cyc
def stOp (A : Sx) : Nat → Bool
  | 0 => false
  | j + 1 => (isSt (eC A (aB A j)) && decide ((aB A j).1 10 ≠ 101)) || stOp A j
def lstS (A : Sx) (ad : Int32) : Nat → Option Nat
  | 0 => none
  | j + 1 => if isSt (eC A (aB A j)) ∧ (aB A j).1 10 = 101 ∧ (aB A j).1 12 = 0 ∧ (aB A j).2.1 1 = ad then some j else lstS A ad j
def opR (A : Sx) (x : Ent) : Bool := (!nA (eC A x) || decide (aN A 2 (x.1 6) = 1)) && (!nB (eC A x) || decide (aN A 2 (x.1 7) = 1))
/-- a load whose address is there, computed: whether it begins -/
def ldB (A : Sx) (k : Nat) (x : Ent) : Option Sx :=
  if aN A 5 (x.1 0 % 16) ≠ 0 ∧ stOp A k then none
  else match lstS A (x.2.1 1) k with
    | some j => let s := aB A j
      if eC A s = 11 ∨ aN A 2 (s.1 7) ≠ 1 then none
      else some (zB (zS A 22 (aS A 22 + 1)) k (bgW (eV (eV x 2 (eY A s)) 3 (nI (s.1 13))) 1 (aS A 0)))
    | none =>
      if aV A 4 (lineOf x % 4) = nI (lineOf x) then some (zB (zS A 23 (aS A 23 + 1)) k (bgW x 2 (aS A 0)))
      else if lineOf x ∈ (aQ A).map (·.1) then some (zB A k (eN (bgW x 0 (aS A 0)) 10 109))
      else if 2 ≤ (aQ A).length then none
      else some (zB (zS (zQ A (aQ A ++ [(lineOf x, aS A 0 + aN A 6 (lineOf x))])) 24 (aS A 24 + 1)) k (eN (bgW x 0 (aS A 0)) 10 109))
def bg1 (A : Sx) (k : Nat) : Option Sx :=
  let x := cmp A (aB A k)
  if eC A x = 9 ∧ x.1 12 = 0 then ldB A k x else some (zB A k (bgW x (dly (eC A x)) (aS A 0)))
def bgL (A : Sx) (u : Nat → Nat) : Nat → Nat → Sx
  | 0, _ => A
  | n + 1, k =>
    if k < aS A 9 then
      let c := eC A (aB A k)
      if (aB A k).1 10 = 113 ∧ 0 < u (unit c) ∧ opR A (aB A k) then
        match bg1 A k with
        | some B => bgL B (up1 u (unit c) (u (unit c) - 1)) n (k + 1)
        | none => bgL A u n (k + 1)
      else bgL A u n (k + 1)
    else A
def isDv (A : Sx) : Nat → Bool
  | 0 => false
  | j + 1 => (decide (eC A (aB A j) = 5) && decide ((aB A j).1 10 = 120)) || isDv A j
def u0 (A : Sx) : Nat → Nat := fun i => if i = 0 then 2 else if i = 2 then (if isDv A (aS A 9) then 0 else 1) else 1
def begins (A : Sx) : Sx := bgL A (u0 A) 17 0
/-! renaming -/
def cntQ (A : Sx) : Nat → Nat
  | 0 => 0
  | j + 1 => (if (aB A j).1 10 = 113 then 1 else 0) + cntQ A j
def canRn (A : Sx) (c : Nat) : Bool := decide (aS A 9 < aS A 17) && !(hasD c && decide (aS A 7 = 0)) && !(isQd c && decide (aS A 18 ≤ cntQ A (aS A 9))) && (decide (aS A 9 = 0) || (!isAl c && !isAl (eC A (aB A 0))))
def giveA (A : Sx) (x : Ent) : Sx × Ent :=
  let y := eN (eN x 6 (aN A 0 (aN A 12 (x.1 0)))) 7 (aN A 0 (aN A 13 (x.1 0)))
  if hasD (eC A x) then
    let g := aN A 3 0
    (zN (zN (zS (zNr A 3 (fun k => if k < aS A 7 - 1 then aN A 3 (k + 1) else aN A 3 k)) 7 (aS A 7 - 1)) 0 (eD A x) g) 2 g 0, eN (eN y 9 (aN A 0 (eD A x))) 8 g)
  else (A, y)
def shiftL (A : Sx) : Sx := zS (zLr A (fun k => aL A (k + 1))) 10 (aS A 10 - 1)
def rn1 (A : Sx) : Sx :=
  let g := giveA (shiftL A) (aL A 0)
  let x := g.2
  let c := eC A x
  let y := eN x 2 (aS A 0)
  let z := if isQd c then y else eN (eN (eN y 12 (if c = 21 ∧ aS A 3 = 0 then 5 else tpV c 0 0 (eI A x))) 10 101) 4 (aS A 0)
  let B := if c = 15 then zN (zV g.1 1 (x.1 8) (rsV c (x.1 0) 0 0 (eI A x))) 2 (x.1 8) 1 else g.1
  zS (zB B (aS A 9) z) 9 (aS A 9 + 1)
def rnL (A : Sx) : Nat → Sx
  | 0 => A
  | n + 1 => if aS A 10 ≠ 0 ∧ canRn A (eC A (aL A 0)) then rnL (rn1 A) n else A
/-! fetching -/
def pushT (t : List Nat) (p : Nat) : List Nat := (if t.length < 4 then t else t.drop 1) ++ [p]
def guessA (A : Sx) (p : Nat) : Nat × List Nat :=
  let c := aN A 10 p
  let n := (aV A 5 p).toNatClampNeg
  if isQn c then (if 2 ≤ aN A 4 (p % 16) then n else p + 1, aT A)
  else if c = 14 then (n, aT A)
  else if c = 15 then (n, pushT (aT A) (p + 1))
  else if c = 16 then (if aT A = [] then (p + 1, aT A) else ((aT A).getLastD 0, (aT A).dropLast))
  else if c = 17 then (if aV A 3 (p % 8) = -1 then p + 1 else (aV A 3 (p % 8)).toNatClampNeg, aT A)
  else (p + 1, aT A)
def newE (A : Sx) (p g : Nat) (t : List Nat) : Ent :=
  (fun i => if i = 0 then p else if i = 1 then aS A 0 else if i = 5 then g else if i = 10 then 113 else if i = 13 then aS A 6 else 0,
   fun i => if i = 0 then goV (aN A 10 p) p 0 0 (aV A 5 p) else if i = 1 then -1 else if i = 3 then -1 else 0, t)
def ft1 (A : Sx) : Sx :=
  let p := aS A 11
  let g := guessA A p
  let B := zS (zT A g.2) 11 g.1
  let C := zS B 12 (if isEf (aN A 10 p) then 1 else 0)
  zS (zL (zS C 6 (aS A 6 + 1)) (aS A 10) (newE A p g.1 g.2)) 10 (aS A 10 + 1)
def ftL (A : Sx) : Nat → Sx
  | 0 => A
  | n + 1 => if aS A 12 ≠ 0 ∨ 2 * aS A 16 ≤ aS A 10 ∨ aS A 15 ≤ aS A 11 then A else (if aS (ft1 A) 11 = aS A 11 + 1 then ftL (ft1 A) n else ft1 A)
/-! a cycle, a run -/
def tick (A : Sx) : Sx := zS A 0 (aS A 0 + 1)
def cycA (A : Sx) : Sx :=
  let B := begins (retires (endings (answers (tick A))))
  let C := rnL B (aS B 16)
  ftL C (aS C 16)
def runA (A : Sx) : Nat → Sx
  | 0 => A
  | n + 1 => if aS A 1 = 0 then runA (cycA A) n else A
/-! the plain machine: registers, words, and 0 place, 1 handling, 2 kept -/
abbrev Pm : Type := (Nat → Int32) × (Nat → Int32) × (Nat → Nat)
def plT (A : Sx) (P : Pm) : Nat := let p := P.2.2 0; if aN A 10 p = 21 ∧ P.2.2 1 = 0 then 5 else tpV (aN A 10 p) (P.1 (aN A 12 p)) (P.1 (aN A 13 p)) (aV A 5 p)
/-- the kind that the plain machine's next step has; -1 without an instruction -/
def plK (A : Sx) (P : Pm) (kind : Nat) : Int32 := if kind = 9 then 9 else if aS A 15 ≤ P.2.2 0 then -1 else nI (plT A P)
def plD (A : Sx) (P : Pm) : Pm :=
  let p := P.2.2 0
  let c := aN A 10 p
  let x := P.1 (aN A 12 p)
  let y := P.1 (aN A 13 p)
  let n := aV A 5 p
  let r := if c = 9 then up1 P.1 (aN A 11 p) (P.2.1 (x + n).toNatClampNeg) else if hasD c then up1 P.1 (aN A 11 p) (rsV c p x y n) else P.1
  let w := if isSt c then up1 P.2.1 (x + n).toNatClampNeg (chW c (P.2.1 (x + n).toNatClampNeg) y) else P.2.1
  if c = 21 then (r, w, up1 (up1 P.2.2 0 (P.2.2 2)) 1 0) else (r, w, up1 P.2.2 0 (goV c p x y n).toNatClampNeg)
def plN (A : Sx) (P : Pm) (kind : Nat) : Pm :=
  if kind = 9 then (P.1, P.2.1, up1 (up1 (up1 P.2.2 2 (P.2.2 0)) 1 1) 0 (aV A 0 1).toNatClampNeg)
  else if aS A 15 ≤ P.2.2 0 then P
  else if plT A P ≠ 0 then (if P.2.2 1 = 0 ∧ aV A 0 0 ≠ -1 then (P.1, P.2.1, up1 (up1 (up1 P.2.2 2 (P.2.2 0 + 1)) 1 1) 0 (aV A 0 0).toNatClampNeg) else P)
  else plD A P
def plA (A : Sx) : Nat → Pm
  | 0 => (aV A 6, aV A 7, fun _ => 0)
  | e + 1 => plN A (plA A e) (aN A 14 e)
