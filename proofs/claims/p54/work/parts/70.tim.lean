/-! times are near: delays' ends, answers -/
section TIM
variable {A B : Sx}
def TQ (A : Sx) : Prop := (∀ k, k < aS A 9 → (aB A k).1 10 = 120 → (aB A k).1 11 < 1000) ∧ ∀ z, z ∈ aQ A → z.2 < 1000
theorem TQ.to (h : TQ A) (h9 : aS B 9 ≤ aS A 9) (hB : ∀ k, k < aS B 9 → (aB B k).1 10 = 120 → aB B k = aB A k) (hQ : aQ B = aQ A) : TQ B := by
  refine ⟨fun k hk hs => ?_, fun z hz => h.2 z (by rw [← hQ]; exact hz)⟩
  have e := hB k hk hs
  rw [e] at hs ⊢
  exact h.1 k (by omega) hs
theorem goOn_9 (A : Sx) (p : Nat) (t : List Nat) : aS (goOn A p t) 9 = aS A 9 := by
  show aS (zS (zS A 11 p) 12 0) 9 = _
  rw [zS_ne _ _ (by decide), zS_ne _ _ (by decide)]
theorem TQ.go {n p : Nat} {t : List Nat} (h : TQ A) (hn : n ≤ aS A 9) : TQ (goOn (throwF A n) p t) := by
  obtain ⟨f1, f2, f3, f4, f5, f6, f7, f8⟩ := throwF_f A hn
  exact h.to (by show aS (throwF A n) 9 ≤ _; rw [f2]; exact hn) (fun k _ _ => by show aB (throwF A n) k = _; rw [f6]) (by show aQ (throwF A n) = _; exact f8)
theorem tq_endOne {k : Nat} (h : TQ A) (hk : k < aS A 9) : TQ (endOne A k) := by
  unfold endOne
  split
  · rename_i hs
    have hS : aS (endDl A k) = aS A := by rw [endDl_eq]; rfl
    have hQ : aQ (endDl A k) = aQ A := by rw [endDl_eq]; rfl
    obtain ⟨y1, y2, y3, y4, y5, y6, y7⟩ := endY_f A k
    have h0 : TQ (endDl A k) := h.to (by rw [hS]; exact Nat.le_refl _) (fun j hj h120 => by
      have e : aB (endDl A k) j = if j = k then endY A k else aB A j := by rw [endDl_eq]; rfl
      rw [e] at h120 ⊢
      by_cases ej : j = k
      · rw [if_pos ej] at h120
        exfalso
        cases hd : hasD (eC A (aB A k)) with
        | true => rw [y4 hd] at h120; cases h120
        | false => rw [(y5 hd).1] at h120; cases h120
      · rw [if_neg ej]) hQ
    have h1 : TQ (endCt (endDl A k) k) ∧ k < aS (endCt (endDl A k) k) 9 := by
      unfold endCt
      dsimp only
      split
      · have h9 : aS (zS (endDl A k) 19 (aS (endDl A k) 19 + 1)) 9 = aS A 9 := by rw [zS_ne _ _ (by decide), hS]
        have h3 : TQ (zS (endDl A k) 19 (aS (endDl A k) 19 + 1)) := h0.to (by rw [h9, hS]; exact Nat.le_refl _) (fun _ _ _ => rfl) rfl
        refine ⟨h3.go (by rw [h9]; omega), ?_⟩
        show k < aS (throwF (zS (endDl A k) 19 (aS (endDl A k) 19 + 1)) (k + 1)) 9
        rw [(throwF_f _ (by rw [h9]; omega)).2.1]
        exact Nat.lt_succ_self _
      · exact ⟨h0, by rw [hS]; exact hk⟩
    obtain ⟨h1, h2⟩ := h1
    unfold endSt
    dsimp only
    split
    · split
      · exact h1
      · rename_i j hj
        obtain ⟨j1, j2, -⟩ := findLd_s hj
        have h3 : TQ (zN (zS (endCt (endDl A k) k) 20 (aS (endCt (endDl A k) k) 20 + 1)) 5 ((aB (endCt (endDl A k) k) j).1 0 % 16) 1) := h1.to (by rw [(zN_ _ _ _ _).1, zS_ne _ _ (by decide)]; exact Nat.le_refl _) (fun _ _ _ => rfl) rfl
        exact h3.go (by rw [(zN_ _ _ _ _).1, zS_ne _ _ (by decide)]; omega)
    · exact h1
  · exact h
theorem tq_bus1 {k : Nat} (h : TQ A) : TQ (bus1 A k) := by
  refine h.to (Nat.le_refl _) (fun j hj h120 => ?_) rfl
  have e : aB (bus1 A k) j = if j = k then eN (eN (aB A k) 10 101) 4 (aS A 0) else aB A j := rfl
  rw [e] at h120 ⊢
  by_cases ej : j = k
  · rw [if_pos ej] at h120
    cases h120
  · rw [if_neg ej]
theorem tq_answers (h : TQ A) (h0 : aS A 0 < 1000) : TQ (answers A) := by
  obtain ⟨f1, f2, f3, f4, f5, f6, f7⟩ := answers_f A
  refine ⟨fun k hk hs => ?_, fun z hz => ?_⟩
  · rw [f1] at hk
    rw [f4] at hs ⊢
    dsimp only at hs ⊢
    unfold wake at hs ⊢
    split
    · exact h0
    · rename_i hn
      rw [if_neg hn] at hs
      exact h.1 k hk hs
  · rw [f7] at hz
    exact h.2 z (List.mem_filter.mp hz).1
theorem tq_tick (h : TQ A) : TQ (tick A) := h.to (by unfold tick; rw [zS_ne _ _ (by decide)]; exact Nat.le_refl _) (fun _ _ _ => rfl) rfl
theorem tq_lose {i : Nat} (h : TQ A) : TQ (lose A i) := h.to (Nat.le_refl _) (fun _ _ _ => rfl) rfl
theorem tq_ret1 (h : TQ A) (h9 : 0 < aS A 9) : TQ (ret1 A) := by
  have f := ret1_f A
  have e9 := f.2.2.1
  refine ⟨fun k hk hs => ?_, fun z hz => ?_⟩
  · rw [e9] at hk
    have e : aB (ret1 A) k = aB A (k + 1) := by rw [f.2.2.2.2.2.2.2.2.2.2.2.2.2.2.2.2.2.2.2.1]
    rw [e] at hs ⊢
    exact h.1 (k + 1) (by omega) hs
  · have e : aQ (ret1 A) = aQ A := f.2.2.2.2.2.2.2.2.2.2.2.2.2.2.2.2.2.2.2.2.2.2
    exact h.2 z (by rw [← e]; exact hz)
theorem tq_trapIt {x : Ent} (h : TQ A) : TQ (trapIt A x) := by
  obtain ⟨f1, f2, f3, f4, f5, f6, f7, f8⟩ := throwF_f A (n := 0) (Nat.zero_le _)
  have h0 : TQ (throwF A 0) := h.to (by rw [f2]; exact Nat.zero_le _) (fun k _ _ => by rw [f6]) f8
  unfold trapIt
  dsimp only
  split
  · refine h0.to ?_ (fun _ _ _ => rfl) rfl
    rw [zS_ne _ _ (by decide), (zT_ _ _).1, zS_ne _ _ (by decide)]
    exact Nat.le_refl _
  · refine h0.to ?_ (fun _ _ _ => rfl) rfl
    rw [goOn_9, zS_ne _ _ (by decide), zS_ne _ _ (by decide), zS_ne _ _ (by decide)]
    exact Nat.le_refl _
theorem tq_tell {a0 a1 a2 a3 a4 a5 : Nat} {v : Int32} (h : TQ A) : TQ (tell A a0 a1 a2 a3 a4 a5 v) := h.to (by
  unfold tell
  rw [zS_ne _ _ (by decide)]
  exact Nat.le_refl _) (fun _ _ _ => rfl) rfl
theorem tq_trap1 {ret : Nat} (h : TQ A) : TQ (trap1 A ret) := by
  unfold trap1
  dsimp only
  split
  · exact tq_lose (tq_trapIt (tq_tell h))
  · exact tq_trapIt (tq_tell h)
theorem tq_intr (h : TQ A) : TQ (intr A) := by
  unfold intr
  dsimp only
  refine tq_lose (TQ.go ?_ (Nat.zero_le _))
  refine (tq_tell h).to ?_ (fun _ _ _ => rfl) rfl
  rw [zS_ne _ _ (by decide), zS_ne _ _ (by decide), zS_ne _ _ (by decide), zS_ne _ _ (by decide)]
  exact Nat.le_refl _
theorem tq_rn1 (h : TQ A) (hl : (aL A 0).1 10 = 113) : TQ (rn1 A) := by
  have f := rn1_f A
  have e9 := f.2.1
  have eB := f.2.2.2.2.2.1
  have eQ := f.2.2.2.2.2.2.2.2.1
  refine ⟨fun k hk hs => ?_, fun z hz => h.2 z (by rw [← eQ]; exact hz)⟩
  rw [eB, up1_if] at hs ⊢
  rw [e9] at hk
  by_cases e : k = aS A 9
  · rw [if_pos e] at hs
    exfalso
    unfold rnE at hs
    dsimp only at hs
    split at hs
    · have : (giveA (shiftL A) (aL A 0)).2.1 10 = (aL A 0).1 10 := by
        unfold giveA
        dsimp only
        split <;> rfl
      have e2 : (giveA (shiftL A) (aL A 0)).2.1 10 = 120 := hs
      omega
    · cases hs
  · rw [if_neg e] at hs ⊢
    exact h.1 k (by omega) hs
theorem tq_ft1 (h : TQ A) : TQ (ft1 A) := by
  have f := ft1_f A
  refine h.to (by rw [f.1 9 (by decide) (by decide) (by decide) (by decide)]; exact Nat.le_refl _) (fun k _ _ => by rw [f.2.2.2.2.2.2.2.1]) ?_
  unfold ft1
  rfl
theorem tq_put {k d : Nat} {y : Ent} (h : TQ A) (h0 : aS A 0 < 900) (hd : d < 50) (hB : ∀ j, aB B j = if j = k then y else aB A j) (h9 : aS B 9 = aS A 9) (hy : y.1 10 = 120 → y.1 11 = aS A 0 + d) (hQ : ∀ z, z ∈ aQ B → z.2 < 1000) : TQ B := by
  refine ⟨fun j hj hs => ?_, hQ⟩
  rw [hB] at hs ⊢
  by_cases e : j = k
  · rw [if_pos e] at hs ⊢
    rw [hy hs]
    omega
  · rw [if_neg e] at hs ⊢
    exact h.1 j (by omega) hs
theorem dly_le (c : Nat) : dly c ≤ 6 := by
  unfold dly
  repeat' split
  all_goals omega
theorem tq_bg1 {k : Nat} (h : TQ A) (h0 : aS A 0 < 900) (hb : ∀ i, i < 16 → aN A 6 i ≤ 30) (hl : eC A (aB A k) = 9 → (cmp A (aB A k)).1 12 = 0 → lineOf (cmp A (aB A k)) < 16) (e : bg1 A k = some B) : TQ B := by
  unfold bg1 at e
  dsimp only at e
  obtain ⟨x, hx⟩ : ∃ x, x = cmp A (aB A k) := ⟨_, rfl⟩
  rw [← hx] at e hl
  have hQ0 : ∀ z, z ∈ aQ A → z.2 < 1000 := h.2
  have hxc : eC A x = eC A (aB A k) := by rw [hx]; exact congrArg (aN A 10) ((cmp_f A (aB A k)).1 0 (by decide) (by decide))
  split at e
  · rename_i hc
    unfold ldB at e
    dsimp only at e
    split at e
    · cases e
    · split at e
      · split at e
        · cases e
        · cases e
          exact tq_put (k := k) (d := 1) (y := bgW _ 1 (aS A 0)) h h0 (by omega) (fun j => rfl) (by rw [(zB_ _ _ _).1, zS_ne _ _ (by decide)]) (fun _ => rfl) hQ0
      · split at e
        · cases e
          exact tq_put (k := k) (d := 2) (y := bgW _ 2 (aS A 0)) h h0 (by omega) (fun j => rfl) (by rw [(zB_ _ _ _).1, zS_ne _ _ (by decide)]) (fun _ => rfl) hQ0
        · split at e
          · cases e
            exact tq_put (k := k) (d := 0) (y := eN (bgW _ 0 (aS A 0)) 10 109) h h0 (by omega) (fun j => rfl) rfl (fun z => by cases z) hQ0
          · split at e
            · cases e
            · cases e
              refine tq_put (k := k) (d := 0) (y := eN (bgW _ 0 (aS A 0)) 10 109) h h0 (by omega) (fun j => rfl) (by rw [(zB_ _ _ _).1, zS_ne _ _ (by decide)]; rfl) (fun z => by cases z) (fun z hz => ?_)
              have hz2 : z ∈ aQ A ++ [(lineOf x, aS A 0 + aN A 6 (lineOf x))] := hz
              rcases List.mem_append.mp hz2 with q | q
              · exact h.2 z q
              · rw [List.mem_singleton.mp q]
                have := hb _ (hl (by rw [← hxc]; exact hc.1) hc.2)
                show aS A 0 + aN A 6 (lineOf x) < 1000
                omega
  · cases e
    exact tq_put (k := k) (d := dly (eC A x)) (y := bgW _ _ (aS A 0)) h h0 (by have := dly_le (eC A x); omega) (fun j => rfl) rfl (fun _ => rfl) hQ0
end TIM
