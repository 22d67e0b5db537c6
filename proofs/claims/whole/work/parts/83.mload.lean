/-! the model: loads begin -/
section MLO
variable {b : Nat} {A B C A' : Sx} {ρ : Nat → Nat} {μ μ' μ2 : Mm} {S : Nat → Nat → Bool}
theorem m_push {l t : Nat} (h : RM b A ρ μ) (n9 : aS A 9 ≤ 16) (n10 : aS A 10 ≤ 8) : RM b (zQ A (aQ A ++ [(l, t)])) ρ (sI (sI (sI μ (b + 76) (aQ A).length (nI l)) (b + 77) (aQ A).length (nI t)) (b + 30) 35 (nI ((aQ A).length + 1))) ∧ CH b sMo μ (sI (sI (sI μ (b + 76) (aQ A).length (nI l)) (b + 77) (aQ A).length (nI t)) (b + 30) 35 (nI ((aQ A).length + 1))) := by
  obtain ⟨μ', hμ'⟩ : ∃ μ', μ' = sI (sI (sI μ (b + 76) (aQ A).length (nI l)) (b + 77) (aQ A).length (nI t)) (b + 30) 35 (nI ((aQ A).length + 1)) := ⟨_, rfl⟩
  rw [← hμ']
  have g : CH b sAn μ μ' := by
    rw [hμ']
    exact ((CH.put (by rfl)).trans (CH.put (by rfl))).trans (CH.put rfl)
  refine ⟨?_, g.mono fun o k zz => by have := of_decide_eq_true zz; exact decide_eq_true (by omega)⟩
  obtain ⟨r1, r2, r3, r4, r5, r6, r7, r8, r9, r10, r11⟩ := h
  refine ⟨r1.ch g, ?_, r3.ch g, r4.ch n9 r3 g (fun o k _ _ => sAn_f (by omega)), r5.ch n10 g (fun o k _ _ => sAn_f (by omega)), r6.ch g (fun o k _ _ => sAn_f (by omega)), r7.ch g (fun o k _ _ => sAn_f (by omega)), ?_, r9.ch g (fun k => sAn_f (by omega)), r10.ch g (sAn_f (by omega)), r11.ch g (fun o k _ _ => sAn_f (by omega)) (fun o k zz => by
    have := of_decide_eq_true zz
    omega)⟩
  · rw [hμ']
    exact (((r2.off (o := 76) _ (offM (by omega) _)).off (o := 77) _ (offM (by omega) _)).off (o := 30) (k := 35) _ (by decide +kernel)).cg (fun _ _ => rfl) (fun _ _ _ _ => rfl) (fun _ _ _ _ => rfl)
  · have eq : aQ (zQ A (aQ A ++ [(l, t)])) = aQ A ++ [(l, t)] := rfl
    unfold QM
    rw [eq, List.length_append]
    refine ⟨by rw [hμ', mI_at]; rfl, fun k hk => ?_⟩
    have hk2 : k < (aQ A).length + 1 := hk
    rw [hμ', mI_row _ _ (show b + 76 ≠ b + 30 by omega), mI_row _ _ (show b + 76 ≠ b + 77 by omega), mI_up, mI_row _ _ (show b + 77 ≠ b + 30 by omega), mI_up, mI_row _ _ (show b + 77 ≠ b + 76 by omega)]
    by_cases e : k = (aQ A).length
    · subst e
      rw [up1_eq, up1_eq]
      have : (aQ A ++ [(l, t)]).getD (aQ A).length (0, 0) = (l, t) := by simp
      rw [this]
      exact ⟨rfl, rfl⟩
    · rw [up1_ne _ _ e, up1_ne _ _ e]
      have : (aQ A ++ [(l, t)]).getD k (0, 0) = (aQ A).getD k (0, 0) := by
        have hk3 : k < (aQ A).length := by omega
        simp [List.getD_eq_getElem?_getD, List.getElem?_append_left hk3]
      rw [this]
      exact r8.2 k (by omega)
theorem zB_zB (A : Sx) (k : Nat) (y z : Ent) : zB (zB A k y) k z = zB A k z := by
  refine Prod.ext rfl (Prod.ext rfl (Prod.ext rfl (Prod.ext (funext fun j => ?_) rfl)))
  show up1 (up1 A.2.2.2.1 k y) k z j = up1 A.2.2.2.1 k z j
  simp only [up1_if]
  split <;> rfl
/-- what a load's row must show once it has begun -/
theorem ld_red {y : Ent} {F : Nat → Int32} (h11 : F 11 = nI (y.1 10)) (h3 : F 3 = nI (y.1 3)) (h12 : y.1 10 = 120 → F 12 = nI (y.1 11)) (hs : y.1 10 = 120 ∨ y.1 10 = 109) (h13 : F 13 = 0) (ht : y.1 12 = 0) (h6 : F 6 = y.2.1 0) (h14 : F 14 = y.2.1 1) (h15 : y.2.1 3 ≠ -1 → F 15 = y.2.1 2) (h16 : F 16 = y.2.1 3) : REd 9 y F := by
  refine ⟨h11, fun _ _ => h3, h12, fun z => by omega, ?_, fun _ => h6, fun _ _ _ => h14, fun _ _ c => h15 c, fun _ _ z => by omega, fun _ => h16⟩
  rw [h13, ht]
  show (0 : Int32) = if y.1 10 = 113 then 0 else nI 0
  split <;> rfl
/-- a load with an address: it begins with its word in the cache, or waits for its line -/
theorem m_ldRow {k d : Nat} (h : RM b A ρ μ) (n9 : aS A 9 ≤ 16) (n10 : aS A 10 ≤ 8) (hk : k < aS A 9) (h9 : eC A (aB A k) = 9) (x : Ent) (hx1 : ∀ i, i ≠ 12 → i ≠ 14 → x.1 i = (aB A k).1 i) (hx2 : x.2.2 = (aB A k).2.2) (ht : x.1 12 = 0) (h13 : mI μ (b + ρ k) 13 = 0) (h6 : mI μ (b + ρ k) 6 = x.2.1 0) (h15 : x.2.1 3 ≠ -1 → mI μ (b + ρ k) 15 = x.2.1 2) (h16 : mI μ (b + ρ k) 16 = x.2.1 3) :
    (∃ μ', f_X11_starts (b + 30) (b + ρ k) (nI d) (sI μ (b + ρ k) 14 (x.2.1 1)) = some ((), μ') ∧ RM b (zB A k (bgW x d (aS A 0))) ρ μ' ∧ CH b sMo μ μ') ∧
    (∃ μ', f_X11_loads_b376 (b + 30) (b + ρ k) (x.2.1 1) μ = some (1, μ') ∧ RM b (zB A k (eN (bgW x 0 (aS A 0)) 10 109)) ρ μ' ∧ CH b sMo μ μ') := by
  obtain ⟨r1, r2, r3⟩ := h.2.2.1.1 k (by omega)
  have g0 : CH b (sRow (ρ k)) μ (sI μ (b + ρ k) 14 (x.2.1 1)) := CH.put (sRow_at _ _)
  have S1 := h.1.ch g0
  have T1 := h.2.1.ch g0 (fun o j z => by have := sRow_e z; omega)
  have gg : ∀ d, CH b (sRow (ρ k)) μ (sI (sI (sI (sI μ (b + ρ k) 14 (x.2.1 1)) (b + ρ k) 11 120) (b + ρ k) 3 (nI (aS A 0))) (b + ρ k) 12 (nI (aS A 0 + d))) := fun d => ((g0.trans (CH.put (sRow_at _ _))).trans (CH.put (sRow_at _ _))).trans (CH.put (sRow_at _ _))
  have row : ∀ d, mI (sI (sI (sI (sI μ (b + ρ k) 14 (x.2.1 1)) (b + ρ k) 11 120) (b + ρ k) 3 (nI (aS A 0))) (b + ρ k) 12 (nI (aS A 0 + d))) (b + ρ k) = up1 (up1 (up1 (up1 (mI μ (b + ρ k)) 14 (x.2.1 1)) 11 120) 3 (nI (aS A 0))) 12 (nI (aS A 0 + d)) := fun d => by rw [mI_up, mI_up, mI_up, mI_up]
  have bw := fun d => bgW_f x d (aS A 0)
  refine ⟨⟨_, m_starts (d := d) T1 S1 ⟨r2, r3⟩, m_begRow h n9 n10 hk (gg d) (fun j hj => ?_) (bgW_s hx1) (by rw [(bw d).2.2.2.2]; exact hx2) ?_, (gg d).mo ⟨r2, r3⟩⟩, ?_⟩
  · rw [row, up1_ne _ _ (by omega), up1_ne _ _ (by omega), up1_ne _ _ (by omega), up1_ne _ _ (by omega)]
  · obtain ⟨b1, b2, b3, b4, b5⟩ := bw d
    rw [h9, row]
    refine ld_red (by rw [b2]; rfl) (by rw [b4]; rfl) (fun _ => by rw [b3]; rfl) (Or.inl b2) h13 (by rw [b1 12 (by decide) (by decide) (by decide)]; exact ht) (by rw [b5]; exact h6) (by rw [b5]; rfl) (fun z => ?_) (by rw [b5]; exact h16)
    rw [b5] at z ⊢
    exact h15 z
  · obtain ⟨b1, b2, b3, b4, b5⟩ := bw 0
    have e1 := m_starts (d := 0) T1 S1 ⟨r2, r3⟩
    obtain ⟨ν, hν⟩ : ∃ ν, ν = sI (sI (sI (sI μ (b + ρ k) 14 (x.2.1 1)) (b + ρ k) 11 120) (b + ρ k) 3 (nI (aS A 0))) (b + ρ k) 12 (nI (aS A 0 + 0)) := ⟨_, rfl⟩
    have gν := gg 0
    have rν := row 0
    rw [← hν] at e1 gν rν
    have s1 := h.1.row ⟨r2, r3⟩
    have sν := (h.1.ch gν).row ⟨r2, r3⟩
    have k0 := h.1.1
    have g2 : CH b (sRow (ρ k)) μ (sI ν (b + ρ k) 11 109) := gν.trans (CH.put (sRow_at _ _))
    refine ⟨sI ν (b + ρ k) 11 109, ?_, m_begRow h n9 n10 hk g2 (fun j hj => ?_) (fun i hi => ?_) (by show (bgW x 0 (aS A 0)).2.2 = _; rw [b5]; exact hx2) ?_, g2.mo ⟨r2, r3⟩⟩
    · have e1' : f_X11_starts (b + 30) (b + ρ k) 0 (sI μ (b + ρ k) 14 (x.2.1 1)) = some ((), ν) := e1
      simp only [f_X11_loads_b376, s1, k0, sν, ckT, zlS, ckA, ckI, tcL, mK_sI, cl_t e1']
    · rw [mI_up, rν, up1_ne _ _ (by omega), up1_ne _ _ (by omega), up1_ne _ _ (by omega), up1_ne _ _ (by omega), up1_ne _ _ (by omega)]
    · rw [(eN_ _ _ _).1, up1_ne _ _ (by omega)]
      exact bgW_s hx1 i hi
    · rw [h9, mI_up, rν]
      have z12 : (eN (bgW x 0 (aS A 0)) 10 109).1 12 = 0 := by
        rw [(eN_ _ _ _).1, up1_ne _ _ (by decide), b1 12 (by decide) (by decide) (by decide)]
        exact ht
      have z3 : (eN (bgW x 0 (aS A 0)) 10 109).1 3 = aS A 0 := by
        rw [(eN_ _ _ _).1, up1_ne _ _ (by decide)]
        exact b4
      have zv : (eN (bgW x 0 (aS A 0)) 10 109).2 = x.2 := b5
      refine ld_red rfl (by rw [z3]; rfl) (fun z => absurd z (show ¬ (109 : Nat) = 120 by decide)) (Or.inr rfl) h13 z12 (by rw [zv]; exact h6) (by rw [zv]; rfl) (fun z => ?_) (by rw [zv]; exact h16)
      rw [zv] at z ⊢
      exact h15 z
end MLO
