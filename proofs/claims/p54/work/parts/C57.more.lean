/-! the class: an end's life, an inner register found anew, what state one is in -/
section CLM
variable {b z : Nat} {m : Nat → Nat} {A A' : Sx} {ρ : Nat → Nat} {G : Nat → Nat → Nat} {ar : Nat → Nat} {s : Nat} {μ μ' : Mm} {x y : Int32}
def lifeV (A : Sx) (e w : Nat) : Int32 := if aN A 14 e = 9 then -1 else if w = 0 then nI (aN A 20 e) else if w = 1 then nI (aN A 21 e) else if w = 2 then aV A 8 e else if w = 3 then nI (aN A 22 e) else nI (aN A 23 e)
def kLife (A : Sx) (x y : Int32) : Nat := if ix x (aS A 14) = false then 1 else if ix y 5 = false then 2 else if lifeV A x.toNatClampNeg y.toNatClampNeg = -1 then 3 else 0
def ocL (k : Nat) (r : Int32) (μ : Mm) : (Int32 ⊕ String) × Mm := if k = 0 then (.inl r, μ) else (.inr (if k = 1 then "java/lang/IndexOutOfBoundsException" else if k = 2 then "java/lang/IllegalArgumentException" else "java/util/NoSuchElementException"), bump μ 6)
theorem lt5 {w : Nat} (h : w < 5) : w = 0 ∨ w = 1 ∨ w = 2 ∨ w = 3 ∨ w = 4 := by omega
theorem c_life (h : FR b z A μ) (hh : HR b z A m G ar s μ) (n14 : aS A 14 < 5000) : f_X10_life b x y μ = some (ocL (kLife A x y) (lifeV A x.toNatClampNeg y.toNatClampNeg) μ) := by
  have k0 := h.1
  unfold SC at k0
  have ie := c_isEnd (x := x) h
  have b0 : bI false = 0 := rfl
  have b1 : ¬ bI true = 0 := by decide
  have nn : ¬ ¬ (0 : Int32) = 0 := fun t => t rfl
  cases hx : ix x (aS A 14)
  · rw [hx] at ie
    have hk : kLife A x y = 1 := by unfold kLife; rw [hx]; rfl
    rw [hk]
    simp only [f_X10_life, k0, ckT, ie, bdS, b0, nn, if_false]
    rfl
  · rw [hx] at ie
    cases hy : ix y 5
    · have hk : kLife A x y = 2 := by unfold kLife; rw [hx, hy]; rfl
      rw [hk]
      simp only [f_X10_life, k0, ckT, ie, bdS, b1, not_false_eq_true, if_true]
      change (if y < 0 then _ else if y < nI 5 then _ else _) = _
      rw [ix_if, hy]
      rfl
    · obtain ⟨e, he, e1, e2⟩ := ix_e hx (by omega)
      obtain ⟨w, hw, w1, w2⟩ := ix_e hy (by omega)
      have ge := c_getE h hh he n14
      rw [← e1] at ge
      have ib : inb y 5 := by rw [w1]; exact inbN hw (by omega)
      obtain ⟨q1, -, -, -, -, q4, q5, q6, q7, q8⟩ := hh.2.2.2.2.2.2.1 e he
      have hv : mI μ (G 4 e) w = lifeV A e w := by
        unfold lifeV
        by_cases a9 : aN A 14 e = 9
        · rw [if_pos a9]
          exact q8 a9 w hw
        · rw [if_neg a9]
          obtain ⟨v0, v1, v2, v3, v4⟩ := q7 a9
          rcases lt5 hw with rfl | rfl | rfl | rfl | rfl
          · exact v0
          · exact v1
          · exact v2
          · exact v3
          · exact v4
      have hk : kLife A x y = if lifeV A e w = -1 then 3 else 0 := by
        unfold kLife
        rw [hx, hy, e2, w2, if_neg (by decide), if_neg (by decide)]
      rw [hk, e2, w2]
      simp only [f_X10_life, k0, ckT, ie, bdS, b1, not_false_eq_true, if_true]
      change (if y < 0 then _ else if y < nI 5 then _ else _) = _
      rw [ix_if, hy, if_pos rfl]
      simp only [ge, q1, q4, q5, q6, ckT, bdS, ckA, ck_t ib, w2, hv]
      by_cases l1 : lifeV A e w = -1
      · have nl : ¬ ¬ lifeV A e w = -1 := fun t => t l1
        rw [if_neg nl, if_pos l1]
        rfl
      · rw [if_pos l1, if_neg l1]
        rfl
theorem c_fiL {r : Nat} (h : FR b z A μ) (hh : HR b z A (fun _ => 0) G ar s μ) (q : IB A) (hr : r < 8) : ∀ (n j fu : Nat), j + n = aS A 9 → n < fu → f_X0_findInner_b12 fu (b + 1) (nI r) (nI (mapAt A j r)) (nI j) μ = some (nI (mapAt A (aS A 9) r))
  | 0, j, fu, hm, hf => by
    obtain ⟨fu, rfl⟩ : ∃ n, fu = n + 1 := ⟨fu - 1, by omega⟩
    have hj : j = aS A 9 := by omega
    subst hj
    have k0 := h.1
    unfold SC at k0
    have sz := c_sizeB h
    have c1 := Int32.le_refl (nI (aS A 9))
    simp only [f_X0_findInner_b12, k0, ckT, bdS, sz, c1, if_true]
  | n + 1, j, fu, hm, hf => by
    obtain ⟨fu, rfl⟩ : ∃ n, fu = n + 1 := ⟨fu - 1, by omega⟩
    have ih := c_fiL h hh q hr n (j + 1) fu (by omega) (by omega)
    have k0 := h.1
    unfold SC at k0
    have n9 : aS A 9 ≤ 16 := by have := q.2.1.1; have := q.1.2.1; omega
    have sz := c_sizeB h
    have hj : j < aS A 9 := by omega
    have c1 : ¬ nI (aS A 9) ≤ nI j := nI_ge (by omega) (by omega)
    have gt := c_getB h hh hj (by omega)
    obtain ⟨r1, r2, -, -, -, -, rf⟩ := hh.2.2.2.1 j hj
    have ok := q.2.2.2.2.2.1 j hj
    have cf := q.1.2.2.2.2.2.1 _ ok.1
    obtain ⟨p1, -, p3, p4, -⟩ := hh.2.2.1 _ ok.1
    have hd := c_hasD p1 p3 (show aN A 10 ((aB A j).1 0) < 22 by omega)
    have hd' : f_X6_hasResult (G 0 ((aB A j).1 0)) μ = some (bI (hasD (eC A (aB A j)))) := hd
    have hmap : mapAt A (j + 1) r = if hasD (eC A (aB A j)) = true then up1 (mapAt A j) (eD A (aB A j)) ((aB A j).1 8) r else mapAt A j r := by
      show (if hasD (eC A (aB A j)) = true then up1 (mapAt A j) (eD A (aB A j)) ((aB A j).1 8) else mapAt A j) r = _
      split <;> rfl
    rw [← ih, hmap]
    cases hb : hasD (eC A (aB A j))
    · rw [hb] at hd'
      have b0 : bI false = 0 := rfl
      rw [if_neg (by decide)]
      simp only [f_X0_findInner_b12, f_X0_findInner_b65, k0, ckT, bdS, sz, c1, if_false, gt, r1, r2, p1, hd', b0, if_true, nI_1]
    · rw [hb] at hd'
      have b1 : ¬ bI true = 0 := by decide
      have p4' : mI μ (G 0 ((aB A j).1 0)) 2 = nI (eD A (aB A j)) := p4
      have ed : eD A (aB A j) < 8 := cf.2.1
      rw [if_pos rfl, up1_if]
      by_cases er : r = eD A (aB A j)
      · have c2 : ¬ ¬ nI (eD A (aB A j)) = nI r := fun t => t (by rw [er])
        have i8 := (rf.2.2.2.2.2.2.1 rfl hb).1
        rw [if_pos er]
        simp only [f_X0_findInner_b12, f_X0_findInner_b65, k0, ckT, bdS, sz, c1, if_false, gt, r1, r2, p1, hd', b1, p4', c2, i8, nI_1]
      · have c2 : ¬ nI (eD A (aB A j)) = nI r := nIne (by omega) (by omega) (fun t => er t.symm)
        rw [if_neg er]
        simp only [f_X0_findInner_b12, f_X0_findInner_b65, k0, ckT, bdS, sz, c1, if_false, gt, r1, r2, p1, hd', b1, p4', c2, not_false_eq_true, if_true, nI_1]
theorem c_innerAnew (h : FR b z A μ) (hh : HR b z A (fun _ => 0) G ar s μ) (q : IB A) : f_X10_innerAnew b x μ = some (gA (k01 (rok x)) (nI (aN A 0 x.toNatClampNeg)) "java/lang/IllegalArgumentException" μ) := by
  have k0 := h.1
  unfold SC at k0
  have isa := c_isReg x
  have b0 : bI false = 0 := rfl
  have b1 : ¬ bI true = 0 := by decide
  have nn : ¬ ¬ (0 : Int32) = 0 := fun t => t rfl
  cases hx : rok x
  · rw [hx] at isa
    simp only [f_X10_innerAnew, isa, bdS, b0, nn, if_false]
    rfl
  · rw [hx] at isa
    obtain ⟨e1, hi⟩ := rok_e hx
    obtain ⟨i, e2⟩ : ∃ i, x.toNatClampNeg = i := ⟨_, rfl⟩
    rw [e2] at e1 hi ⊢
    have n9 : aS A 9 ≤ 16 := by have := q.2.1.1; have := q.1.2.1; omega
    have ib : inb x 8 := by rw [e1]; exact inbN hi (by omega)
    have v : mI μ (b + 11) i = nI (aN A 1 i) := h.2.1.2.1 1 i (by decide) hi
    have fl : f_X0_findInner_b12 5000 (b + 1) x (nI (aN A 1 i)) 0 μ = some (nI (aN A 0 i)) := by
      rw [q.2.2.2.2.1.1 i hi, e1]
      exact c_fiL h hh q hi (aS A 9) 0 5000 (Nat.zero_add _) (by omega)
    have fi : f_X0_findInner (b + 1) x μ = some (nI (aN A 0 i)) := by
      simp only [f_X0_findInner, k0, ckT, bdS, ckA, ck_t ib, e2, v, fl]
    simp only [f_X10_innerAnew, isa, bdS, b1, not_false_eq_true, if_true, k0, ckT, fi]
    rfl
theorem c_tlL {i : Nat} (h : FR b z A μ) (h7 : aS A 7 ≤ 24) (hb : ∀ j, j < aS A 7 → aN A 3 j < 1000) (hi : i < 1000) : ∀ (n j fu : Nat), j + n = aS A 7 → n < fu → f_X5_timesInLine_b4 fu (b + 9) (nI i) (nI (cnt (aN A 3) i j)) (nI j) μ = some (nI (cnt (aN A 3) i (aS A 7)))
  | 0, j, fu, hm, hf => by
    obtain ⟨fu, rfl⟩ : ∃ n, fu = n + 1 := ⟨fu - 1, by omega⟩
    have hj : j = aS A 7 := by omega
    subst hj
    have k0 := h.1
    unfold SC at k0
    have i5 : mI μ (b + 9) 5 = nI (aS A 7) := h.2.1.1 7 rfl
    have c1 := Int32.le_refl (nI (aS A 7))
    simp only [f_X5_timesInLine_b4, k0, ckT, i5, c1, if_true]
  | n + 1, j, fu, hm, hf => by
    obtain ⟨fu, rfl⟩ : ∃ n, fu = n + 1 := ⟨fu - 1, by omega⟩
    have ih := c_tlL h h7 hb hi n (j + 1) fu (by omega) (by omega)
    have k0 := h.1
    unfold SC at k0
    have i5 : mI μ (b + 9) 5 = nI (aS A 7) := h.2.1.1 7 rfl
    have c1 : ¬ nI (aS A 7) ≤ nI j := nI_ge (by omega) (by omega)
    have ib := inbN (p := j) (n := 24) (by omega) (by omega)
    have cj := clN (show j < 100000 by omega)
    have v : mI μ (b + 14) j = nI (aN A 3 j) := h.2.1.2.1 3 j (by decide) (show j < 24 by omega)
    have hc : cnt (aN A 3) i (j + 1) = (if aN A 3 j = i then 1 else 0) + cnt (aN A 3) i j := rfl
    rw [← ih, hc]
    by_cases e : aN A 3 j = i
    · have c2 : ¬ ¬ nI (aN A 3 j) = nI i := fun t => t (by rw [e])
      rw [if_pos e, Nat.add_comm 1]
      simp only [f_X5_timesInLine_b4, f_X5_timesInLine_b25, k0, ckT, i5, c1, if_false, bdS, ckA, ck_t ib, cj, v, c2, nI_1]
    · have c2 : ¬ nI (aN A 3 j) = nI i := nIne (by have := hb j (by omega); omega) (by omega) e
      rw [if_neg e, Nat.zero_add]
      simp only [f_X5_timesInLine_b4, f_X5_timesInLine_b25, k0, ckT, i5, c1, if_false, bdS, ckA, ck_t ib, cj, v, c2, not_false_eq_true, if_true, nI_1]
theorem c_times {i : Nat} (h : FR b z A μ) (p : PT A) (n8 : aS A 8 ≤ 24) (hi : i < 1000) : f_X5_timesInLine (b + 9) (nI i) μ = some (nI (cnt (aN A 3) i (aS A 7))) := by
  have h7 := p.nf
  exact c_tlL h (by omega) (fun j hj => by have := p.free hj; omega) hi (aS A 7) 0 5000 (Nat.zero_add _) (by omega)
/-- whether it is among the first n -/
def inF (f : Nat → Nat) (i : Nat) : Nat → Bool
  | 0 => false
  | n + 1 => inF f i n || decide (f n = i)
theorem inF_t {f : Nat → Nat} {i : Nat} : ∀ {n : Nat}, inF f i n = true ↔ ∃ k, k < n ∧ f k = i
  | 0 => ⟨fun h => (by cases h), fun ⟨k, hk, _⟩ => absurd hk (Nat.not_lt_zero _)⟩
  | n + 1 => by
    show (inF f i n || decide (f n = i)) = true ↔ _
    rw [Bool.or_eq_true, inF_t (n := n), decide_eq_true_eq]
    constructor
    · rintro (⟨k, hk, e⟩ | e)
      · exact ⟨k, by omega, e⟩
      · exact ⟨n, by omega, e⟩
    · rintro ⟨k, hk, e⟩
      by_cases q : k = n
      · exact Or.inr (by rw [← q]; exact e)
      · exact Or.inl ⟨k, by omega, e⟩
theorem c_imL {i : Nat} (h : FR b z A μ) (hb : ∀ r, r < 8 → aN A 0 r < 1000) (hi : i < 1000) : ∀ (n j fu : Nat), j + n = 8 → n < fu → inF (aN A 0) i j = false → f_X5_isInMap_b2 fu (b + 9) (nI i) (nI j) μ = some (bI (inF (aN A 0) i 8))
  | 0, j, fu, hm, hf, hn => by
    obtain ⟨fu, rfl⟩ : ∃ n, fu = n + 1 := ⟨fu - 1, by omega⟩
    have hj : j = 8 := by omega
    subst hj
    have c1 : (8 : Int32) ≤ nI 8 := by decide
    rw [hn]
    simp only [f_X5_isInMap_b2, c1, if_true]
    rfl
  | n + 1, j, fu, hm, hf, hn => by
    obtain ⟨fu, rfl⟩ : ∃ n, fu = n + 1 := ⟨fu - 1, by omega⟩
    have k0 := h.1
    unfold SC at k0
    have c1 : ¬ (8 : Int32) ≤ nI j := nI_ge (b := 8) (by omega) (by omega)
    have ib := inbN (p := j) (n := 8) (by omega) (by omega)
    have cj := clN (show j < 100000 by omega)
    have v : mI μ (b + 10) j = nI (aN A 0 j) := h.2.1.2.1 0 j (by decide) (show j < 8 by omega)
    by_cases e : aN A 0 j = i
    · have c2 : ¬ ¬ nI (aN A 0 j) = nI i := fun t => t (by rw [e])
      rw [inF_t.mpr ⟨j, by omega, e⟩]
      simp only [f_X5_isInMap_b2, k0, ckT, c1, if_false, bdS, ckA, ck_t ib, cj, v, c2]
      rfl
    · have c2 : ¬ nI (aN A 0 j) = nI i := nIne (by have := hb j (by omega); omega) (by omega) e
      have ih := c_imL h hb hi n (j + 1) fu (by omega) (by omega) (by
        show (inF (aN A 0) i j || decide (aN A 0 j = i)) = false
        rw [hn, decide_eq_false e]
        rfl)
      simp only [f_X5_isInMap_b2, k0, ckT, c1, if_false, bdS, ckA, ck_t ib, cj, v, c2, not_false_eq_true, if_true, nI_1, ih]
theorem c_irL {i : Nat} (h : FR b z A μ) (hb : ∀ r, r < 8 → aN A 1 r < 1000) (hi : i < 1000) : ∀ (n j fu : Nat), j + n = 8 → n < fu → inF (aN A 1) i j = false → f_X5_isInRetired_b2 fu (b + 9) (nI i) (nI j) μ = some (bI (inF (aN A 1) i 8))
  | 0, j, fu, hm, hf, hn => by
    obtain ⟨fu, rfl⟩ : ∃ n, fu = n + 1 := ⟨fu - 1, by omega⟩
    have hj : j = 8 := by omega
    subst hj
    have c1 : (8 : Int32) ≤ nI 8 := by decide
    rw [hn]
    simp only [f_X5_isInRetired_b2, c1, if_true]
    rfl
  | n + 1, j, fu, hm, hf, hn => by
    obtain ⟨fu, rfl⟩ : ∃ n, fu = n + 1 := ⟨fu - 1, by omega⟩
    have k0 := h.1
    unfold SC at k0
    have c1 : ¬ (8 : Int32) ≤ nI j := nI_ge (b := 8) (by omega) (by omega)
    have ib := inbN (p := j) (n := 8) (by omega) (by omega)
    have cj := clN (show j < 100000 by omega)
    have v : mI μ (b + 11) j = nI (aN A 1 j) := h.2.1.2.1 1 j (by decide) (show j < 8 by omega)
    by_cases e : aN A 1 j = i
    · have c2 : ¬ ¬ nI (aN A 1 j) = nI i := fun t => t (by rw [e])
      rw [inF_t.mpr ⟨j, by omega, e⟩]
      simp only [f_X5_isInRetired_b2, k0, ckT, c1, if_false, bdS, ckA, ck_t ib, cj, v, c2]
      rfl
    · have c2 : ¬ nI (aN A 1 j) = nI i := nIne (by have := hb j (by omega); omega) (by omega) e
      have ih := c_irL h hb hi n (j + 1) fu (by omega) (by omega) (by
        show (inF (aN A 1) i j || decide (aN A 1 j = i)) = false
        rw [hn, decide_eq_false e]
        rfl)
      simp only [f_X5_isInRetired_b2, k0, ckT, c1, if_false, bdS, ckA, ck_t ib, cj, v, c2, not_false_eq_true, if_true, nI_1, ih]
theorem c_inMap {i : Nat} (h : FR b z A μ) (q : IB A) (hi : i < 1000) : f_X5_isInMap (b + 9) (nI i) μ = some (bI (inF (aN A 0) i 8)) := by
  have p := q.2.2.2.1
  have n8 := q.1.2.2.2.1.2
  exact c_imL h (fun r hr => by rw [q.2.2.2.2.1.1 r hr]; have := p.map_lt (Nat.le_refl _) hr; omega) hi 8 0 5000 (Nat.zero_add _) (by omega) rfl
theorem c_inRet {i : Nat} (h : FR b z A μ) (q : IB A) (hi : i < 1000) : f_X5_isInRetired (b + 9) (nI i) μ = some (bI (inF (aN A 1) i 8)) := by
  have p := q.2.2.2.1
  have n8 := q.1.2.2.2.1.2
  exact c_irL h (fun r hr => by have := p.ret hr; omega) hi 8 0 5000 (Nat.zero_add _) (by omega) rfl
/-- what state an inner register is in -/
def stV (A : Sx) (i : Nat) : Int32 := if inF (aN A 3) i (aS A 7) = true then 102 else if inF (aN A 0) i 8 = true then 109 else 119
theorem cnt_inF {f : Nat → Nat} {i : Nat} : ∀ {n : Nat}, (cnt f i n = 0) ↔ inF f i n = false
  | 0 => ⟨fun _ => rfl, fun _ => rfl⟩
  | n + 1 => by
    show ((if f n = i then 1 else 0) + cnt f i n = 0) ↔ (inF f i n || decide (f n = i)) = false
    rw [Bool.or_eq_false_iff, ← cnt_inF (n := n), decide_eq_false_iff_not]
    by_cases e : f n = i
    · rw [if_pos e]
      constructor
      · intro h; omega
      · intro h; exact absurd e h.2
    · rw [if_neg e]
      constructor
      · intro h; exact ⟨by omega, e⟩
      · intro h; omega
theorem c_stateOf (h : FR b z A μ) (q : IB A) : f_X10_stateOf b x μ = some (gA (k01 (ix x (aS A 8))) (stV A x.toNatClampNeg) "java/lang/IndexOutOfBoundsException" μ) := by
  have k0 := h.1
  unfold SC at k0
  have p := q.2.2.2.1
  have n8 := q.1.2.2.2.1.2
  have h7 := p.nf
  have ie := c_isInner (x := x) h
  have b0 : bI false = 0 := rfl
  have b1 : ¬ bI true = 0 := by decide
  have nn : ¬ ¬ (0 : Int32) = 0 := fun t => t rfl
  cases hx : ix x (aS A 8)
  · rw [hx] at ie
    simp only [f_X10_stateOf, k0, ckT, ie, bdS, b0, nn, if_false]
    rfl
  · rw [hx] at ie
    obtain ⟨i, hi, e1, e2⟩ := ix_e hx (by omega)
    have tm := c_times (i := i) h p n8 (by omega)
    have im := c_inMap (i := i) h q (by omega)
    rw [← e1] at tm im
    have le1 := p.le1 i
    rw [e2]
    unfold stV
    cases hf : inF (aN A 3) i (aS A 7)
    · have c0 := cnt_inF.mpr hf
      have c1 : nI (cnt (aN A 3) i (aS A 7)) ≤ 0 := by rw [c0]; decide
      cases hm : inF (aN A 0) i 8
      · rw [hm] at im
        simp only [f_X10_stateOf, k0, ckT, ie, bdS, b1, not_false_eq_true, if_true, tm, c1, im, b0]
        rfl
      · rw [hm] at im
        simp only [f_X10_stateOf, k0, ckT, ie, bdS, b1, not_false_eq_true, if_true, tm, c1, im, if_false]
        rfl
    · have c0 : cnt (aN A 3) i (aS A 7) ≠ 0 := fun t => by rw [cnt_inF.mp t] at hf; cases hf
      have c1 : ¬ nI (cnt (aN A 3) i (aS A 7)) ≤ 0 := nI_nle (by omega) (by omega)
      simp only [f_X10_stateOf, k0, ckT, ie, bdS, b1, not_false_eq_true, if_true, tm, c1, if_false]
      rfl
end CLM
