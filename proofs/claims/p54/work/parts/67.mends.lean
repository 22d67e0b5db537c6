/-! the model: an entry's delay ends -/
section MEN2
variable {b : Nat} {A A' : Sx} {ρ : Nat → Nat} {μ μ' : Mm} {S : Nat → Nat → Bool}
theorem nIj {m n : Nat} (hm : m < 100000) (hn : n < 100000) (h : nI m = nI n) : m = n := by
  have := congrArg Int32.toNatClampNeg h
  rwa [clN hm, clN hn] at this
theorem nIne {m n : Nat} (hm : m < 100000) (hn : n < 100000) (h : m ≠ n) : nI m ≠ nI n := fun e => h (nIj hm hn e)
theorem mI_up (μ : Mm) (a k : Nat) (v : Int32) : mI (sI μ a k v) a = up1 (mI μ a) k v := by
  funext j
  rw [mI_i, up1_if]
  by_cases h : j = k
  · rw [if_pos h, if_pos ⟨rfl, h⟩]
  · rw [if_neg h, if_neg (fun z => h z.2)]
/-- the parts of a row that change while it is in the buffer -/
def REd (c : Nat) (x : Ent) (f : Nat → Int32) : Prop :=
  f 11 = nI (x.1 10) ∧ (isQd c = true → x.1 10 ≠ 113 → f 3 = nI (x.1 3)) ∧ (x.1 10 = 120 → f 12 = nI (x.1 11)) ∧ (x.1 10 = 101 → f 4 = nI (x.1 4)) ∧
  (f 13 = if isQd c = true then (if c = 9 then (if x.1 10 = 113 then 0 else nI (x.1 12)) else if x.1 10 = 113 ∨ x.1 10 = 120 then 0 else nI (x.1 12)) else if c = 20 then 4 else 0) ∧
  (isCt c = false ∨ x.1 10 = 101 → f 6 = x.2.1 0) ∧ (isMm c = true → x.1 12 = 0 → (c = 9 ∧ x.1 10 ≠ 113) ∨ x.1 10 = 101 → f 14 = x.2.1 1) ∧
  (c = 9 → x.1 10 ≠ 113 → x.2.1 3 ≠ -1 → f 15 = x.2.1 2) ∧ (hasD c = true → isQd c = true → x.1 10 = 98 ∨ x.1 10 = 101 → f 15 = x.2.1 2) ∧ (c = 9 → f 16 = x.2.1 3)
theorem REm.d {x : Ent} {f : Nat → Int32} (h : REm A x f) : REd (eC A x) x f := by
  obtain ⟨h0, h1, h2, h3, h4, h5, h6, h7, h8, h9, h10, h11⟩ := h
  exact ⟨h7, h11⟩
theorem REm.up {x y : Ent} {f f' : Nat → Int32} (h : REm A x f) (hP : SamP A A') (hf : ∀ j, j = 0 ∨ j = 1 ∨ j = 2 ∨ j = 5 ∨ j = 7 ∨ j = 8 ∨ j = 9 ∨ j = 10 ∨ 17 ≤ j → f' j = f j) (hy : ∀ i, i = 0 ∨ i = 1 ∨ i = 2 ∨ i = 5 ∨ i = 6 ∨ i = 7 ∨ i = 8 ∨ i = 9 ∨ i = 13 → y.1 i = x.1 i) (h2 : y.2.2 = x.2.2) (hd : REd (eC A x) y f') : REm A' y f' := by
  obtain ⟨h0, h1, h2', h3, h4, h5, h6, h7, h8, h9, h10, h11⟩ := h
  have ec : eC A' y = eC A x := (hP.c (hy 0 (by omega))).1
  unfold REm
  rw [ec, h2, hf 0 (by omega), hf 1 (by omega), hf 2 (by omega), hf 5 (by omega), hf 7 (by omega), hf 8 (by omega), hf 17 (by omega), hf 9 (by omega), hf 10 (by omega), hy 0 (by omega), hy 1 (by omega), hy 2 (by omega), hy 5 (by omega), hy 6 (by omega), hy 7 (by omega), hy 8 (by omega), hy 9 (by omega), hy 13 (by omega)]
  obtain ⟨d1, d2⟩ := hd
  refine ⟨h0, h1, h2', h3, h4, h5, h6, d1, ⟨(hf 23 (by omega)).trans h8.1, fun i hi => (hf _ (by omega)).trans (h8.2 i hi)⟩, fun a c => ⟨(hf 18 (by omega)).trans (h9 a c).1, fun i hi => (hf _ (by omega)).trans ((h9 a c).2 i hi)⟩, h10, d2⟩
theorem offM {o : Nat} (h : ¬ (o = 30 ∨ (38 ≤ o ∧ o ≤ 44) ∨ (72 ≤ o ∧ o ≤ 75) ∨ o = 81)) (k : Nat) : offT mT o k = true := by
  unfold offT
  simp only [Bool.and_eq_true, List.all_eq_true, List.mem_range, Bool.or_eq_true, Bool.not_eq_true', decide_eq_false_iff_not, Bool.and_eq_false_iff]
  have b1 : ∀ i, i < 25 → scI i = true → (mT.1 i).1 = 30 := by decide +kernel
  have b2 : ∀ i, i < 8 → (38 ≤ mT.2.1 i ∧ mT.2.1 i ≤ 44) ∨ (72 ≤ mT.2.1 i ∧ mT.2.1 i ≤ 75) ∨ mT.2.1 i = 81 := by decide +kernel
  have b3 : ∀ i, i < 5 → (mT.2.2 i).1 = 30 ∨ (38 ≤ (mT.2.2 i).1 ∧ (mT.2.2 i).1 ≤ 44) ∨ (72 ≤ (mT.2.2 i).1 ∧ (mT.2.2 i).1 ≤ 75) := by decide +kernel
  refine ⟨⟨fun i hi => ?_, fun r hr z => ?_⟩, fun r hr => Or.inl (Or.inl fun z => ?_)⟩
  · cases hs : scI i
    · exact Or.inl rfl
    · right
      intro z
      have := b1 i hi hs
      rw [z] at this
      have h3 : o = 30 := this
      omega
  · have := b2 r hr
    omega
  · have := b3 r hr
    omega
theorem RT.ch (h : RT mT b A μ) (g : CH b S μ μ') (hS : ∀ o k, S o k = true → ¬ (o = 30 ∨ (38 ≤ o ∧ o ≤ 44) ∨ (72 ≤ o ∧ o ≤ 75) ∨ o = 81)) : RT mT b A μ' := h.keep (fun o k h2 => g.cell (by
  cases hz : S o k with
  | false => rfl
  | true => rw [offM (hS o k hz) k] at h2; cases h2))
/-- any cell of the model but the one that tells an exception -/
def sMo (o k : Nat) : Bool := decide (30 ≤ o ∧ o < 84 ∧ ¬ (o = 30 ∧ k = 54))
/-- a row -/
def sRow (r o _ : Nat) : Bool := o == r
theorem sRow_e {r o k : Nat} (h : sRow r o k = true) : o = r := by
  unfold sRow at h
  simpa using h
theorem sRow_at (r k : Nat) : sRow r r k = true := by
  unfold sRow
  simp
theorem CH.mo {r : Nat} (g : CH b (sRow r) μ μ') (h : 46 ≤ r ∧ r < 62) : CH b sMo μ μ' := g.mono (fun o k z => by
  have := sRow_e z
  exact decide_eq_true (by omega))
theorem tpV_le (c : Nat) (x y n : Int32) : tpV c x y n ≤ 5 := by
  unfold tpV
  repeat' split
  all_goals omega
end MEN2
