/-! THE CLASS: fetching, the stack -/
section CFT
variable {b z e sl : Nat} {m m' : Nat → Nat} {A A' B C D : Sx} {P : Pm} {G : Nat → Nat → Nat} {ar : Nat → Nat} {s : Nat} {μ μ' μ2 : Mm} {S : Nat → Nat → Bool}
/-- numbers of one row alone change -/
def RW (N : Nat) (μ μ' : Mm) : Prop := mK μ' = mK μ ∧ mL μ' = mL μ ∧ mR μ' = mR μ ∧ mJ μ' = mJ μ ∧ mN μ' = mN μ ∧ mS μ' = mS μ ∧ ∀ x, x ≠ N → mI μ' x = mI μ x
theorem RW.refl0 {N : Nat} : RW N μ μ := ⟨rfl, rfl, rfl, rfl, rfl, rfl, fun _ _ => rfl⟩
theorem RW.put {N k : Nat} {v : Int32} (h : RW N μ μ') : RW N μ (sI μ' N k v) := ⟨h.1, h.2.1, h.2.2.1, h.2.2.2.1, h.2.2.2.2.1, h.2.2.2.2.2.1, fun x hx => by rw [mI_row _ _ hx]; exact h.2.2.2.2.2.2 x hx⟩
theorem c_pushL {N st fr size : Nat} {x1 : Int32} (hs8 : size < 100) (hf8 : fr < 100) (hl : fr + size ≤ mL μ st) (nst : N ≠ st) : ∀ (r i fu : Nat) (ν : Mm), i + r = size → r < fu → RW N μ ν → mK ν (b + 20) = 105 → mR ν (b + 20) 3 = some st → mK ν st = 41 → mK ν N = 41 → mL ν N = size + 1 → (∀ j, j < i → mI ν N j = mI μ st (fr + j)) → ∃ ν', f_X4_push_b33 fu (b + 20) x1 (nI fr) (nI size) N (nI i) ν = some ((), sR ν' (b + 20) 3 (some N)) ∧ RW N μ ν' ∧ (∀ j, j < size → mI ν' N j = mI μ st (fr + j)) ∧ mI ν' N size = x1
  | 0, i, fu, ν, hi, hf, rw0, k20, r3, ks, kN, lN, hj => by
    obtain ⟨fu, rfl⟩ : ∃ n, fu = n + 1 := ⟨fu - 1, by omega⟩
    have e : i = size := by omega
    rw [e] at hj ⊢
    have c1 : nI size ≤ nI size := nI_le (by omega) (by omega)
    have ib := inbN (p := size) (n := size + 1) (by omega) (by omega)
    have cl := clN (show size < 100000 by omega)
    have cia : ∀ y : Option (Unit × Mm), ck (isA 1 41) y = y := fun y => if_pos (by decide)
    refine ⟨sI ν N size x1, ?_, rw0.put, fun j hj2 => by rw [mI_ne _ _ (Or.inr (by omega))]; exact hj j hj2, mI_at _ _ _ _⟩
    simp only [f_X4_push_b33, f_X4_push_b59, c1, if_true, kN, cia, lN, ck_t ib, cl, zlS, mK_sI, k20, ckT]
  | r + 1, i, fu, ν, hi, hf, rw0, k20, r3, ks, kN, lN, hj => by
    obtain ⟨fu, rfl⟩ : ∃ n, fu = n + 1 := ⟨fu - 1, by omega⟩
    have c1 : ¬ nI size ≤ nI i := nI_ge (by omega) (by omega)
    have ib := inbN (p := i) (n := size + 1) (by omega) (by omega)
    have cl := clN (show i < 100000 by omega)
    have ib2 : inb (nI (fr + i)) (mL ν st) := ⟨nI_pos' (by omega), by rw [nI_clamp (by omega), rw0.2.1]; omega⟩
    have cl2 := clN (show fr + i < 100000 by omega)
    have cia : ∀ y : Option (Unit × Mm), ck (isA 1 41) y = y := fun y => if_pos (by decide)
    have iv : mI ν st = mI μ st := rw0.2.2.2.2.2.2 st (Ne.symm nst)
    obtain ⟨ν', e, g1, g2, g3⟩ := c_pushL (x1 := x1) hs8 hf8 hl nst r (i + 1) fu (sI ν N i (mI μ st (fr + i))) (by omega) (by omega) rw0.put k20 r3 ks kN lN (fun j hj2 => by
      by_cases ej : j = i
      · rw [ej, mI_at]
      · rw [mI_ne _ _ (Or.inr ej)]
        exact hj j (by omega))
    refine ⟨ν', ?_, g1, g2, g3⟩
    rw [← e]
    simp only [f_X4_push_b33, c1, if_false, k20, ckT, r3, bdS, ks, cia, nI_add, ck_t ib2, kN, lN, ck_t ib, cl, cl2, iv, zlS, nI_1]
theorem c_popL {N st size : Nat} {x2 : Int32} (hs8 : size < 100) (hl : size ≤ mL μ st) (nst : N ≠ st) : ∀ (r i fu : Nat) (ν : Mm), i + r = size → r < fu → RW N μ ν → mK ν (b + 20) = 105 → mR ν (b + 20) 3 = some st → mK ν st = 41 → mK ν N = 41 → mL ν N = size → (∀ j, j < i → mI ν N j = mI μ st j) → ∃ ν', f_X4_pop_b28 fu (b + 20) (nI size) x2 N (nI i) ν = some (x2, sR ν' (b + 20) 3 (some N)) ∧ RW N μ ν' ∧ ∀ j, j < size → mI ν' N j = mI μ st j
  | 0, i, fu, ν, hi, hf, rw0, k20, r3, ks, kN, lN, hj => by
    obtain ⟨fu, rfl⟩ : ∃ n, fu = n + 1 := ⟨fu - 1, by omega⟩
    have e : i = size := by omega
    rw [e] at hj ⊢
    have c1 : nI size ≤ nI size := nI_le (by omega) (by omega)
    exact ⟨ν, by simp only [f_X4_pop_b28, f_X4_pop_b51, c1, if_true, zlS, k20, ckT], rw0, hj⟩
  | r + 1, i, fu, ν, hi, hf, rw0, k20, r3, ks, kN, lN, hj => by
    obtain ⟨fu, rfl⟩ : ∃ n, fu = n + 1 := ⟨fu - 1, by omega⟩
    have c1 : ¬ nI size ≤ nI i := nI_ge (by omega) (by omega)
    have ib := inbN (p := i) (n := size) (by omega) (by omega)
    have cl := clN (show i < 100000 by omega)
    have ib2 : inb (nI i) (mL ν st) := ⟨nI_pos' (by omega), by rw [nI_clamp (by omega), rw0.2.1]; omega⟩
    have cia : ∀ y : Option (Int32 × Mm), ck (isA 1 41) y = y := fun y => if_pos (by decide)
    have iv : mI ν st = mI μ st := rw0.2.2.2.2.2.2 st (Ne.symm nst)
    obtain ⟨ν', e, g1, g2⟩ := c_popL (x2 := x2) hs8 hl nst r (i + 1) fu (sI ν N i (mI μ st i)) (by omega) (by omega) rw0.put k20 r3 ks kN lN (fun j hj2 => by
      by_cases ej : j = i
      · rw [ej, mI_at]
      · rw [mI_ne _ _ (Or.inr ej)]
        exact hj j (by omega))
    refine ⟨ν', ?_, g1, g2⟩
    rw [← e]
    simp only [f_X4_pop_b28, c1, if_false, k20, ckT, r3, bdS, ks, cia, ck_t ib2, kN, lN, ck_t ib, cl, iv, zlS, nI_1]
/-- a new stack takes its place -/
theorem c_newStk {N n : Nat} {t : List Nat} {ν : Mm} (h : FR b z A μ) (hh : HR b z A m G ar s μ) (w : WF μ) (hN : N = mN μ) (g : RW N (nw μ 41 n n) ν) (hn : n = t.length) (hv : ∀ i, i < n → mI ν N i = nI (t.getD i 0)) : FR b z (zT A t) (sR ν (b + 20) 3 (some N)) ∧ HR b z (zT A t) m G ar N (sR ν (b + 20) 3 (some N)) ∧ CK 1 n μ (sR ν (b + 20) 3 (some N)) := by
  obtain ⟨g1, g2, g3, g4, g5, g6, g7⟩ := g
  have nf : NF μ ν := by
    refine ⟨fun w a ha => ?_, ?_, fun a ha => ?_⟩
    · rw [g1]
      have h1 : mN μ + 1 ≤ a := by rw [g5] at ha; exact ha
      rw [nwK _ _ _ _ (by omega)]
      exact w a (by omega)
    · rw [g5]; exact Nat.le_succ _
    · have na : a ≠ mN μ := by omega
      rw [g1, g2, g3, g4, g7 a (by omega)]
      exact ⟨nwK _ _ _ _ na, nwL _ _ _ _ na, nwI _ _ _ _ na, nwR _ _ _ _ na, nwJ _ _ _ _ na⟩
  have F1 := h.nf w nf
  have H1 := hh.nf h.1 w nf
  have k20 := h.1.fk (o := 20) (by decide) (by decide)
  have kN : mK ν N = 41 := by rw [g1, hN]; exact nwKa _ _ _ _
  have lN : mL ν N = n := by rw [g2, hN]; exact nwLa _ _ _ _
  have sk : SKs (sR ν (b + 20) 3 (some N)) N t := ⟨kN, lN.trans hn, fun i hi => by
    rw [mI_sR']
    exact hv i (by omega)⟩
  have c1 := nf.ck (e := 1) (sl := n) (by rw [g5]; exact Nat.le_refl _) (by rw [g6]; exact Nat.le_refl _)
  have hR : ∀ a, a ≠ b + 20 → mR (sR ν (b + 20) 3 (some N)) a = mR ν a := fun a ha => mR_row _ _ ha
  refine ⟨F1.front (A' := zT A t) rfl rfl (fun _ _ => rfl) hR (fun k hk => mR_ne _ _ (Or.inr hk)) (by omega) (F1.2.1.keep (fun _ _ _ => rfl)) (plZT A t) rfl (fun q => ?_), H1.front F1.1 rfl rfl (fun _ _ => rfl) hR (mR_at _ _ _ _) sk, c1.1, c1.2.1, c1.2.2.1, c1.2.2.2.1, c1.2.2.2.2.1, fun a ha hc => ?_⟩
  · rw [mI_sR']
    exact F1.2.2.2.2.2 q
  · have ne : a ≠ b + 20 := fun q => by rw [q, clK_f k20] at hc; cases hc
    obtain ⟨y1, y2, y3⟩ := c1.2.2.2.2.2 a ha hc
    exact ⟨y1, (hR a ne).trans y2, y3⟩
theorem c_push {p : Nat} (h : FR b z A μ) (hh : HR b z A m G ar s μ) (w : WF μ) (ht : (aT A).length ≤ 4) : ∃ s' μ', f_X4_push (b + 20) (nI p) μ = some ((), μ') ∧ FR b z (zT A (pushT (aT A) p)) μ' ∧ HR b z (zT A (pushT (aT A) p)) m G ar s' μ' ∧ CK 1 5 μ μ' := by
  have k0 := h.1
  unfold SC at k0
  have s3 := hh.2.2.2.2.2.2.2.1
  obtain ⟨ks, ls, vs⟩ := hh.2.2.2.2.2.2.2.2
  have k1256 : ∀ y : Option (Unit × Mm), ck (isA1256 41) y = y := fun y => if_pos (by decide)
  obtain ⟨fr, hfr⟩ : ∃ fr, fr = if (aT A).length < 4 then 0 else 1 := ⟨_, rfl⟩
  obtain ⟨size, hsz⟩ : ∃ size, size = (aT A).length - fr := ⟨_, rfl⟩
  have hf1 : fr ≤ 1 := by rw [hfr]; split <;> omega
  have hfs : fr + size = (aT A).length := by
    rw [hsz]
    have : fr ≤ (aT A).length := by rw [hfr]; split <;> omega
    omega
  obtain ⟨N, hN⟩ : ∃ N, N = mN μ := ⟨_, rfl⟩
  have lsN : s < mN μ := w.lt (by rw [ks]; decide)
  have l20 : b + 20 < mN μ := w.lt (fxK_0 (h.1.fk (o := 20) (by decide) (by decide)))
  obtain ⟨μ1, m1⟩ : ∃ μ1, μ1 = nw μ 41 (size + 1) (size + 1) := ⟨_, rfl⟩
  have i1 : mI μ1 s = mI μ s := by rw [m1]; exact nwI _ _ _ _ (by omega)
  have kk1 : mK μ1 (b + 20) = 105 := by rw [m1, nwK _ _ _ _ (by omega)]; simp only [k0]
  have rr1 : mR μ1 (b + 20) 3 = some s := by rw [m1, nwR _ _ _ _ (by omega)]; exact s3
  have ks1 : mK μ1 s = 41 := by rw [m1, nwK _ _ _ _ (by omega)]; exact ks
  have ls1 : mL μ1 s = (aT A).length := by rw [m1, nwL _ _ _ _ (by omega)]; exact ls
  obtain ⟨ν, e, g1, g2, g3⟩ := c_pushL (μ := μ1) (b := b) (N := N) (st := s) (fr := fr) (size := size) (x1 := nI p) (by omega) (by omega) (by omega) (by omega) size 0 5000 μ1 (Nat.zero_add _) (by omega) RW.refl0 kk1 rr1 ks1 (by rw [m1, hN]; exact nwKa _ _ _ _) (by rw [m1, hN]; exact nwLa _ _ _ _) (fun j hj => absurd hj (Nat.not_lt_zero _))
  have pl : (pushT (aT A) p).length = size + 1 := by
    unfold pushT
    rw [List.length_append]
    by_cases l4 : (aT A).length < 4
    · rw [if_pos l4]
      rw [if_pos l4] at hfr
      show (aT A).length + 1 = _
      omega
    · rw [if_neg l4, List.length_drop]
      rw [if_neg l4] at hfr
      show (aT A).length - 1 + 1 = _
      omega
  have pv : ∀ i, i < size + 1 → mI ν N i = nI ((pushT (aT A) p).getD i 0) := fun i hi => by
    have key : (pushT (aT A) p).getD i 0 = if i = size then p else (aT A).getD (fr + i) 0 := by
      unfold pushT
      by_cases l4 : (aT A).length < 4
      · rw [if_pos l4]
        rw [if_pos l4] at hfr
        have es : size = (aT A).length := by omega
        by_cases ei : i = size
        · rw [if_pos ei, ei, es]
          simp
        · rw [if_neg ei, hfr, Nat.zero_add, List.getD_eq_getElem?_getD, List.getD_eq_getElem?_getD, List.getElem?_append_left (by omega)]
      · rw [if_neg l4]
        rw [if_neg l4] at hfr
        have ld : ((aT A).drop 1).length = size := by rw [List.length_drop]; omega
        by_cases ei : i = size
        · rw [if_pos ei, ei, List.getD_eq_getElem?_getD, List.getElem?_append_right (by omega), ld, Nat.sub_self]
          rfl
        · rw [if_neg ei, hfr, List.getD_eq_getElem?_getD, List.getD_eq_getElem?_getD, List.getElem?_append_left (by omega), List.getElem?_drop]
    rw [key]
    by_cases ei : i = size
    · rw [if_pos ei, ei]
      exact g3
    · rw [if_neg ei, g2 i (by omega), i1]
      exact vs (fr + i) (by omega)
  obtain ⟨F, H, c⟩ := c_newStk (N := N) (n := size + 1) (t := pushT (aT A) p) h hh w hN (by rw [← m1]; exact g1) pl.symm pv
  refine ⟨N, _, ?_, F, H, c.mono (by omega) (by omega)⟩
  have e' : f_X4_push_b33 5000 (b + 20) (nI p) (nI fr) (nI size) N 0 μ1 = some ((), sR ν (b + 20) 3 (some N)) := e
  have sub : nI (aT A).length - nI fr = nI size := by
    rw [← hfs, ← nI_add, Int32.sub_eq_add_neg, Int32.add_assoc, Int32.add_comm (nI size), ← Int32.add_assoc, ← Int32.sub_eq_add_neg, Int32.sub_self, Int32.zero_add]
  have b14 : f_X4_push_b14 (b + 20) (nI p) (nI fr) μ = some ((), sR ν (b + 20) 3 (some N)) := by
    have sm : smn (nI (size + 1)) := ⟨nI_pos' (by omega), by rw [nI_clamp (by omega)]; omega⟩
    have cs := clN (show size + 1 < 100000 by omega)
    simp only [f_X4_push_b14, k0, ckT, s3, bdS, ks, k1256, ls, sub, nI_1, ck_t sm, zlS, ← hN, cs, ← m1, e']
  by_cases l4 : (aT A).length < 4
  · rw [if_pos l4] at hfr
    rw [hfr] at b14
    have c : ¬ (4 : Int32) ≤ nI (aT A).length := by
      have := nI_ge (b := 4) (a := (aT A).length) (by omega) (by omega)
      exact this
    have b14' : f_X4_push_b14 (b + 20) (nI p) 0 μ = some ((), sR ν (b + 20) 3 (some N)) := b14
    simp only [f_X4_push, k0, ckT, s3, bdS, ks, k1256, ls, c, if_false, b14']
  · rw [if_neg l4] at hfr
    rw [hfr] at b14
    have c : (4 : Int32) ≤ nI (aT A).length := by
      have : (aT A).length = 4 := by omega
      rw [this]
      decide
    have b14' : f_X4_push_b14 (b + 20) (nI p) 1 μ = some ((), sR ν (b + 20) 3 (some N)) := b14
    simp only [f_X4_push, k0, ckT, s3, bdS, ks, k1256, ls, c, if_true, b14']
theorem c_pop (h : FR b z A μ) (hh : HR b z A m G ar s μ) (w : WF μ) (ht : (aT A).length ≤ 4) (hne : aT A ≠ []) : ∃ s' μ', f_X4_pop (b + 20) μ = some (nI ((aT A).getLastD 0), μ') ∧ FR b z (zT A (aT A).dropLast) μ' ∧ HR b z (zT A (aT A).dropLast) m G ar s' μ' ∧ CK 1 5 μ μ' := by
  have k0 := h.1
  unfold SC at k0
  have s3 := hh.2.2.2.2.2.2.2.1
  obtain ⟨ks, ls, vs⟩ := hh.2.2.2.2.2.2.2.2
  have k1256 : ∀ y : Option (Int32 × Mm), ck (isA1256 41) y = y := fun y => if_pos (by decide)
  have cia : ∀ y : Option (Int32 × Mm), ck (isA 1 41) y = y := fun y => if_pos (by decide)
  have l0 : (aT A).length ≠ 0 := fun q => hne (List.length_eq_zero_iff.1 q)
  obtain ⟨size, hsz⟩ : ∃ size, (aT A).length = size + 1 := ⟨(aT A).length - 1, by omega⟩
  obtain ⟨N, hN⟩ : ∃ N, N = mN μ := ⟨_, rfl⟩
  have lsN : s < mN μ := w.lt (by rw [ks]; decide)
  have l20 : b + 20 < mN μ := w.lt (fxK_0 (h.1.fk (o := 20) (by decide) (by decide)))
  obtain ⟨μ1, m1⟩ : ∃ μ1, μ1 = nw μ 41 size size := ⟨_, rfl⟩
  have i1 : mI μ1 s = mI μ s := by rw [m1]; exact nwI _ _ _ _ (by omega)
  have kk1 : mK μ1 (b + 20) = 105 := by rw [m1, nwK _ _ _ _ (by omega)]; simp only [k0]
  have rr1 : mR μ1 (b + 20) 3 = some s := by rw [m1, nwR _ _ _ _ (by omega)]; exact s3
  have ks1 : mK μ1 s = 41 := by rw [m1, nwK _ _ _ _ (by omega)]; exact ks
  have ls1 : mL μ1 s = size + 1 := by rw [m1, nwL _ _ _ _ (by omega), ls, hsz]
  have hlast : (aT A).getLastD 0 = (aT A).getD size 0 := by
    rw [List.getLastD_eq_getLast?, List.getLast?_eq_getElem?, hsz, List.getD_eq_getElem?_getD]
    rfl
  obtain ⟨ν, e, g1, g2⟩ := c_popL (μ := μ1) (b := b) (N := N) (st := s) (size := size) (x2 := nI ((aT A).getLastD 0)) (by omega) (by omega) (by omega) size 0 5000 μ1 (Nat.zero_add _) (by omega) RW.refl0 kk1 rr1 ks1 (by rw [m1, hN]; exact nwKa _ _ _ _) (by rw [m1, hN]; exact nwLa _ _ _ _) (fun j hj => absurd hj (Nat.not_lt_zero _))
  have pl : (aT A).dropLast.length = size := by rw [List.length_dropLast, hsz]; rfl
  obtain ⟨F, H, c⟩ := c_newStk (N := N) (n := size) (t := (aT A).dropLast) h hh w hN (by rw [← m1]; exact g1) pl.symm (fun i hi => by
    rw [g2 i hi, i1, vs i (by omega)]
    have : (aT A).dropLast.getD i 0 = (aT A).getD i 0 := by
      rw [List.getD_eq_getElem?_getD, List.getD_eq_getElem?_getD, List.getElem?_dropLast, if_pos (by omega)]
    rw [this])
  refine ⟨N, _, ?_, F, H, c.mono (by omega) (by omega)⟩
  have e' : f_X4_pop_b28 5000 (b + 20) (nI size) (nI ((aT A).getLastD 0)) N 0 μ1 = some (nI ((aT A).getLastD 0), sR ν (b + 20) 3 (some N)) := e
  have sb : nI (size + 1) - 1 = nI size := by
    rw [← nI_1 size, Int32.sub_eq_add_neg, Int32.add_assoc]
    exact Int32.add_zero _
  have c0 : (0 : Int32) ≤ nI size := nI_pos' (by omega)
  have sm : smn (nI size) := ⟨nI_pos' (by omega), by rw [nI_clamp (by omega)]; omega⟩
  have cs := clN (show size < 100000 by omega)
  have ib := inbN (p := size) (n := size + 1) (by omega) (by omega)
  have iv : mI μ s size = nI ((aT A).getLastD 0) := by rw [hlast]; exact vs size (by omega)
  simp only [f_X4_pop, k0, ckT, s3, bdS, ks, k1256, ls, hsz, sb, c0, if_true, cia, ck_t ib, ck_t sm, zlS, ← hN, cs, iv, ← m1, e']
end CFT
