/-! counting, the map's chain, the partition of the inner registers -/
theorem up1_if {α : Type} (f : Nat → α) (a b : Nat) (v : α) : up1 f a v b = if b = a then v else f b := rfl
def cnt (f : Nat → Nat) (i : Nat) : Nat → Nat
  | 0 => 0
  | n + 1 => (if f n = i then 1 else 0) + cnt f i n
theorem cnt_congr {f g : Nat → Nat} {i : Nat} : ∀ {n : Nat}, (∀ k, k < n → f k = g k) → cnt f i n = cnt g i n
  | 0, _ => rfl
  | n + 1, h => by
    show (if f n = i then 1 else 0) + cnt f i n = (if g n = i then 1 else 0) + cnt g i n
    rw [h n (by omega), cnt_congr (fun k hk => h k (by omega))]
theorem cnt_up {f : Nat → Nat} {i a v : Nat} : ∀ {n : Nat}, a < n → cnt (up1 f a v) i n + (if f a = i then 1 else 0) = cnt f i n + (if v = i then 1 else 0)
  | 0, h => absurd h (Nat.not_lt_zero _)
  | n + 1, h => by
    show (if up1 f a v n = i then 1 else 0) + cnt (up1 f a v) i n + _ = (if f n = i then 1 else 0) + cnt f i n + _
    by_cases e : a = n
    · subst e
      rw [up1_eq, cnt_congr (g := f) (fun k hk => up1_ne _ _ (by omega))]
      omega
    · rw [up1_ne _ _ (Ne.symm e)]
      have := cnt_up (f := f) (i := i) (v := v) (show a < n by omega)
      omega
theorem cnt_shift {f : Nat → Nat} {i : Nat} : ∀ {n : Nat}, cnt f i (n + 1) = (if f 0 = i then 1 else 0) + cnt (fun k => f (k + 1)) i n
  | 0 => rfl
  | n + 1 => by
    show (if f (n + 1) = i then 1 else 0) + cnt f i (n + 1) = _ + ((if f (n + 1) = i then 1 else 0) + cnt (fun k => f (k + 1)) i n)
    rw [cnt_shift]
    omega
theorem cnt_pos {f : Nat → Nat} {i k : Nat} : ∀ {n : Nat}, k < n → f k = i → 1 ≤ cnt f i n
  | 0, h, _ => absurd h (Nat.not_lt_zero _)
  | n + 1, h, e => by
    show 1 ≤ (if f n = i then 1 else 0) + cnt f i n
    by_cases q : k = n
    · subst q
      rw [if_pos e]
      omega
    · have := cnt_pos (f := f) (i := i) (show k < n by omega) e
      omega
theorem cnt_two {f : Nat → Nat} {i j k : Nat} : ∀ {n : Nat}, j < k → k < n → f j = i → f k = i → 2 ≤ cnt f i n
  | 0, _, h, _, _ => absurd h (Nat.not_lt_zero _)
  | n + 1, hj, h, e1, e2 => by
    show 2 ≤ (if f n = i then 1 else 0) + cnt f i n
    by_cases q : k = n
    · subst q
      rw [if_pos e2]
      have := cnt_pos (f := f) (i := i) hj e1
      omega
    · have := cnt_two (f := f) (i := i) hj (show k < n by omega) e1 e2
      omega
theorem cnt_ex {f : Nat → Nat} {i : Nat} : ∀ {n : Nat}, 1 ≤ cnt f i n → ∃ k, k < n ∧ f k = i
  | 0, h => absurd h (by show ¬ 1 ≤ 0; omega)
  | n + 1, h => by
    by_cases q : f n = i
    · exact ⟨n, by omega, q⟩
    · have h2 : 1 ≤ cnt f i n := by
        have h3 : 1 ≤ (if f n = i then 1 else 0) + cnt f i n := h
        rw [if_neg q] at h3
        omega
      obtain ⟨k, h4, h5⟩ := cnt_ex h2
      exact ⟨k, by omega, h5⟩
/-- a sum over all numbers below m -/
def sumN (g : Nat → Nat) : Nat → Nat
  | 0 => 0
  | m + 1 => g m + sumN g m
theorem sumN_add (g h : Nat → Nat) : ∀ m : Nat, sumN (fun i => g i + h i) m = sumN g m + sumN h m
  | 0 => rfl
  | m + 1 => by
    show g m + h m + sumN (fun i => g i + h i) m = g m + sumN g m + (h m + sumN h m)
    rw [sumN_add g h m]
    omega
theorem sumN_congr {g h : Nat → Nat} : ∀ {m : Nat}, (∀ i, i < m → g i = h i) → sumN g m = sumN h m
  | 0, _ => rfl
  | m + 1, e => by
    show g m + sumN g m = h m + sumN h m
    rw [e m (by omega), sumN_congr (fun i hi => e i (by omega))]
theorem sumN_zero : ∀ m : Nat, sumN (fun _ => 0) m = 0
  | 0 => rfl
  | m + 1 => by
    show 0 + sumN (fun _ => 0) m = 0
    rw [sumN_zero m]
theorem sumN_one : ∀ m : Nat, sumN (fun _ => 1) m = m
  | 0 => rfl
  | m + 1 => by
    show 1 + sumN (fun _ => 1) m = m + 1
    rw [sumN_one m]
    omega
theorem sumN_ind (a : Nat) : ∀ m : Nat, sumN (fun i => if a = i then 1 else 0) m = if a < m then 1 else 0
  | 0 => by simp [sumN]
  | m + 1 => by
    show (if a = m then 1 else 0) + sumN (fun i => if a = i then 1 else 0) m = _
    rw [sumN_ind a m]
    by_cases h1 : a = m
    · subst h1
      simp
    · by_cases h2 : a < m
      · simp [h1, h2, show a < m + 1 by omega]
      · simp [h1, h2, show ¬ a < m + 1 by omega]
theorem sumN_cnt (f : Nat → Nat) (m : Nat) : ∀ {n : Nat}, (∀ k, k < n → f k < m) → sumN (fun i => cnt f i n) m = n
  | 0, _ => sumN_zero m
  | n + 1, h => by
    show sumN (fun i => (if f n = i then 1 else 0) + cnt f i n) m = n + 1
    rw [sumN_add, sumN_ind, sumN_cnt f m (fun k hk => h k (by omega)), if_pos (h n (by omega))]
    omega
/-! the map's chain -/
def cntD (A : Sx) (i : Nat) : Nat → Nat
  | 0 => 0
  | k + 1 => (if hasD (eC A (aB A k)) = true ∧ (aB A k).1 8 = i then 1 else 0) + cntD A i k
def mapAt (A : Sx) : Nat → Nat → Nat
  | 0 => aN A 1
  | k + 1 => if hasD (eC A (aB A k)) = true then up1 (mapAt A k) (eD A (aB A k)) ((aB A k).1 8) else mapAt A k
/-- the same program, and the same entries below n but for what time changes in them -/
def SamP (A B : Sx) : Prop := (∀ r, 10 ≤ r → r < 14 → aN B r = aN A r) ∧ aV B 5 = aV A 5
def SamE (A B : Sx) (n : Nat) : Prop := ∀ k, k < n → (aB B k).1 0 = (aB A k).1 0 ∧ (aB B k).1 8 = (aB A k).1 8
theorem SamP.c {A B : Sx} (h : SamP A B) {x y : Ent} (e : y.1 0 = x.1 0) : eC B y = eC A x ∧ eD B y = eD A x ∧ eI B y = eI A x := by
  unfold eC eD eI
  rw [h.1 10 (by omega) (by omega), h.1 11 (by omega) (by omega), h.2, e]
  exact ⟨rfl, rfl, rfl⟩
theorem SamP.refl0 {A : Sx} : SamP A A := ⟨fun _ _ _ => Eq.refl _, Eq.refl _⟩
theorem SamP.trans {A B C : Sx} (h : SamP A B) (g : SamP B C) : SamP A C := ⟨fun r h1 h2 => (g.1 r h1 h2).trans (h.1 r h1 h2), g.2.trans h.2⟩
theorem SamE.le {A B : Sx} {n m : Nat} (h : SamE A B n) (hm : m ≤ n) : SamE A B m := fun k hk => h k (by omega)
theorem mapAt_congr {A B : Sx} (h : SamP A B) (hr : ∀ r, r < 8 → aN B 1 r = aN A 1 r) : ∀ {n : Nat}, SamE A B n → ∀ r, r < 8 → mapAt B n r = mapAt A n r
  | 0, _, r, q => hr r q
  | n + 1, e, r, q => by
    obtain ⟨e1, e2⟩ := e n (by omega)
    obtain ⟨c1, c2, -⟩ := h.c e1
    show (if hasD (eC B (aB B n)) = true then up1 (mapAt B n) (eD B (aB B n)) ((aB B n).1 8) else mapAt B n) r = (if hasD (eC A (aB A n)) = true then up1 (mapAt A n) (eD A (aB A n)) ((aB A n).1 8) else mapAt A n) r
    rw [c1, c2, e2]
    have ih := mapAt_congr h hr (n := n) (e.le (by omega)) r q
    split
    · rw [up1_if, up1_if, ih]
    · exact ih
theorem cntD_congr {A B : Sx} (h : SamP A B) {i : Nat} : ∀ {n : Nat}, SamE A B n → cntD B i n = cntD A i n
  | 0, _ => rfl
  | n + 1, e => by
    obtain ⟨e1, e2⟩ := e n (by omega)
    obtain ⟨c1, -⟩ := h.c e1
    show (if hasD (eC B (aB B n)) = true ∧ (aB B n).1 8 = i then 1 else 0) + cntD B i n = (if hasD (eC A (aB A n)) = true ∧ (aB A n).1 8 = i then 1 else 0) + cntD A i n
    rw [c1, e2, cntD_congr h (e.le (by omega))]
theorem cntD_pos {A : Sx} {i k : Nat} : ∀ {n : Nat}, k < n → hasD (eC A (aB A k)) = true → (aB A k).1 8 = i → 1 ≤ cntD A i n
  | 0, h, _, _ => absurd h (Nat.not_lt_zero _)
  | n + 1, h, e1, e2 => by
    show 1 ≤ (if hasD (eC A (aB A n)) = true ∧ (aB A n).1 8 = i then 1 else 0) + cntD A i n
    by_cases q : k = n
    · subst q
      rw [if_pos ⟨e1, e2⟩]
      omega
    · have := cntD_pos (show k < n by omega) e1 e2
      omega
theorem cntD_two {A : Sx} {i j k : Nat} : ∀ {n : Nat}, j < k → k < n → hasD (eC A (aB A j)) = true → (aB A j).1 8 = i → hasD (eC A (aB A k)) = true → (aB A k).1 8 = i → 2 ≤ cntD A i n
  | 0, _, h, _, _, _, _ => absurd h (Nat.not_lt_zero _)
  | n + 1, hj, h, e1, e2, e3, e4 => by
    show 2 ≤ (if hasD (eC A (aB A n)) = true ∧ (aB A n).1 8 = i then 1 else 0) + cntD A i n
    by_cases q : k = n
    · subst q
      rw [if_pos ⟨e3, e4⟩]
      have := cntD_pos hj e1 e2
      omega
    · have := cntD_two hj (show k < n by omega) e1 e2 e3 e4
      omega
theorem cntD_ex {A : Sx} {i : Nat} : ∀ {n : Nat}, 1 ≤ cntD A i n → ∃ k, k < n ∧ hasD (eC A (aB A k)) = true ∧ (aB A k).1 8 = i
  | 0, h => absurd h (by show ¬ 1 ≤ 0; omega)
  | n + 1, h => by
    by_cases q : hasD (eC A (aB A n)) = true ∧ (aB A n).1 8 = i
    · exact ⟨n, by omega, q⟩
    · have h2 : 1 ≤ cntD A i n := by
        have h3 : 1 ≤ (if hasD (eC A (aB A n)) = true ∧ (aB A n).1 8 = i then 1 else 0) + cntD A i n := h
        rw [if_neg q] at h3
        omega
      obtain ⟨k, h4, h5⟩ := cntD_ex h2
      exact ⟨k, by omega, h5⟩
theorem mapAt_mem {A : Sx} : ∀ (n r : Nat), mapAt A n r = aN A 1 r ∨ ∃ j, j < n ∧ hasD (eC A (aB A j)) = true ∧ eD A (aB A j) = r ∧ mapAt A n r = (aB A j).1 8
  | 0, r => Or.inl rfl
  | n + 1, r => by
    by_cases q : hasD (eC A (aB A n)) = true
    · by_cases q2 : r = eD A (aB A n)
      · refine Or.inr ⟨n, by omega, q, q2.symm, ?_⟩
        show (if hasD (eC A (aB A n)) = true then up1 (mapAt A n) (eD A (aB A n)) ((aB A n).1 8) else mapAt A n) r = _
        rw [if_pos q, q2, up1_eq]
      · have e : mapAt A (n + 1) r = mapAt A n r := by
          show (if hasD (eC A (aB A n)) = true then up1 (mapAt A n) (eD A (aB A n)) ((aB A n).1 8) else mapAt A n) r = _
          rw [if_pos q, up1_ne _ _ q2]
        rcases mapAt_mem n r with h | ⟨j, h1, h2, h3, h4⟩
        · exact Or.inl (e.trans h)
        · exact Or.inr ⟨j, by omega, h2, h3, e.trans h4⟩
    · have e : mapAt A (n + 1) r = mapAt A n r := by
        show (if hasD (eC A (aB A n)) = true then up1 (mapAt A n) (eD A (aB A n)) ((aB A n).1 8) else mapAt A n) r = _
        rw [if_neg q]
      rcases mapAt_mem n r with h | ⟨j, h1, h2, h3, h4⟩
      · exact Or.inl (e.trans h)
      · exact Or.inr ⟨j, by omega, h2, h3, e.trans h4⟩
/-- each inner register is told by what has retired, given in the buffer, or free: just once -/
def PT (A : Sx) : Prop := ∀ i, cnt (aN A 1) i 8 + cntD A i (aS A 9) + cnt (aN A 3) i (aS A 7) = if i < aS A 8 then 1 else 0
theorem PT.ret {A : Sx} (h : PT A) {r : Nat} (hr : r < 8) : aN A 1 r < aS A 8 := by
  have h1 := h (aN A 1 r)
  have h2 := cnt_pos (f := aN A 1) hr rfl
  split at h1
  · assumption
  · omega
theorem PT.dst {A : Sx} (h : PT A) {k : Nat} (hk : k < aS A 9) (hd : hasD (eC A (aB A k)) = true) : (aB A k).1 8 < aS A 8 := by
  have h1 := h ((aB A k).1 8)
  have h2 := cntD_pos hk hd rfl
  split at h1
  · assumption
  · omega
theorem PT.free {A : Sx} (h : PT A) {j : Nat} (hj : j < aS A 7) : aN A 3 j < aS A 8 := by
  have h1 := h (aN A 3 j)
  have h2 := cnt_pos (f := aN A 3) hj rfl
  split at h1
  · assumption
  · omega
theorem PT.le1 {A : Sx} (h : PT A) (i : Nat) : cnt (aN A 1) i 8 + cntD A i (aS A 9) + cnt (aN A 3) i (aS A 7) ≤ 1 := by
  have h1 := h i
  split at h1 <;> omega
theorem PT.ret_inj {A : Sx} (h : PT A) {r s : Nat} (hr : r < 8) (hs : s < 8) (e : aN A 1 r = aN A 1 s) : r = s := by
  have h1 := h.le1 (aN A 1 s)
  rcases Nat.lt_trichotomy r s with q | q | q
  · have := cnt_two (f := aN A 1) q hs e rfl
    omega
  · exact q
  · have := cnt_two (f := aN A 1) q hr rfl e
    omega
theorem PT.dst_inj {A : Sx} (h : PT A) {j k : Nat} (hj : j < aS A 9) (hk : k < aS A 9) (dj : hasD (eC A (aB A j)) = true) (dk : hasD (eC A (aB A k)) = true) (e : (aB A j).1 8 = (aB A k).1 8) : j = k := by
  have h1 := h.le1 ((aB A k).1 8)
  rcases Nat.lt_trichotomy j k with q | q | q
  · have := cntD_two q hk dj e dk rfl
    omega
  · exact q
  · have := cntD_two q hj dk rfl dj e
    omega
theorem PT.ret_dst {A : Sx} (h : PT A) {r k : Nat} (hr : r < 8) (hk : k < aS A 9) (dk : hasD (eC A (aB A k)) = true) : aN A 1 r ≠ (aB A k).1 8 := fun e => by
  have h1 := h.le1 ((aB A k).1 8)
  have h2 := cnt_pos (f := aN A 1) hr e
  have h3 := cntD_pos hk dk rfl
  omega
theorem PT.free_ret {A : Sx} (h : PT A) {r j : Nat} (hr : r < 8) (hj : j < aS A 7) : aN A 3 j ≠ aN A 1 r := fun e => by
  have h1 := h.le1 (aN A 1 r)
  have h2 := cnt_pos (f := aN A 1) hr rfl
  have h3 := cnt_pos (f := aN A 3) hj e
  omega
theorem PT.free_dst {A : Sx} (h : PT A) {k j : Nat} (hk : k < aS A 9) (dk : hasD (eC A (aB A k)) = true) (hj : j < aS A 7) : aN A 3 j ≠ (aB A k).1 8 := fun e => by
  have h1 := h.le1 ((aB A k).1 8)
  have h2 := cntD_pos hk dk rfl
  have h3 := cnt_pos (f := aN A 3) hj e
  omega
theorem PT.nf {A : Sx} (h : PT A) : aS A 7 + 8 ≤ aS A 8 := by
  have h1 : sumN (fun i => cnt (aN A 1) i 8 + cntD A i (aS A 9) + cnt (aN A 3) i (aS A 7)) (aS A 8) = aS A 8 := by
    rw [sumN_congr (h := fun _ => 1) (fun i hi => by rw [h i, if_pos hi]), sumN_one]
  rw [sumN_add (fun i => cnt (aN A 1) i 8 + cntD A i (aS A 9)) (fun i => cnt (aN A 3) i (aS A 7)), sumN_add (fun i => cnt (aN A 1) i 8) (fun i => cntD A i (aS A 9)), sumN_cnt _ _ (fun r hr => h.ret hr), sumN_cnt _ _ (fun j hj => h.free hj)] at h1
  omega
theorem PT.map_lt {A : Sx} (h : PT A) {n r : Nat} (hn : n ≤ aS A 9) (hr : r < 8) : mapAt A n r < aS A 8 := by
  rcases mapAt_mem (A := A) n r with e | ⟨j, h1, h2, h3, h4⟩
  · rw [e]; exact h.ret hr
  · rw [h4]; exact h.dst (by omega) h2
theorem PT.map_free {A : Sx} (h : PT A) {n r j : Nat} (hn : n ≤ aS A 9) (hr : r < 8) (hj : j < aS A 7) : aN A 3 j ≠ mapAt A n r := by
  rcases mapAt_mem (A := A) n r with e | ⟨i, h1, h2, h3, h4⟩
  · rw [e]; exact h.free_ret hr hj
  · rw [h4]; exact h.free_dst (by omega) h2 hj
theorem PT.map_dst {A : Sx} (h : PT A) {n r k : Nat} (hr : r < 8) (hk : k < aS A 9) (hnk : n ≤ k) (dk : hasD (eC A (aB A k)) = true) : mapAt A n r ≠ (aB A k).1 8 := by
  rcases mapAt_mem (A := A) n r with e | ⟨j, h1, h2, h3, h4⟩
  · rw [e]; exact h.ret_dst hr hk dk
  · rw [h4]
    intro e
    have := h.dst_inj (by omega) hk h2 dk e
    omega
