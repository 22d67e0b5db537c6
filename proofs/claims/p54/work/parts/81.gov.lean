/-! where an entry that is no control goes -/
section GOV
variable {A B : Sx}
def GV (A : Sx) : Prop := ∀ k, k < aS A 9 → isCt (eC A (aB A k)) = false → (aB A k).2.1 0 = goV (eC A (aB A k)) ((aB A k).1 0) 0 0 (eI A (aB A k))
theorem GV.to (h : GV A) (hP : SamP A B) (hB : ∀ k, k < aS B 9 → ∃ j, j < aS A 9 ∧ (aB B k).1 0 = (aB A j).1 0 ∧ (aB B k).2.1 0 = (aB A j).2.1 0) : GV B := fun k hk hc => by
  obtain ⟨j, j1, j2, j3⟩ := hB k hk
  obtain ⟨e1, -, e3⟩ := hP.c j2
  rw [e1] at hc ⊢
  rw [e3, j2, j3]
  exact h j j1 hc
theorem GV.same (h : GV A) (hP : SamP A B) (h9 : aS B 9 ≤ aS A 9) (hB : ∀ k, k < aS B 9 → (aB B k).1 0 = (aB A k).1 0 ∧ (aB B k).2.1 0 = (aB A k).2.1 0) : GV B := h.to hP (fun k hk => ⟨k, by omega, hB k hk⟩)
theorem GV.go {n p : Nat} {t : List Nat} (h : GV A) (hn : n ≤ aS A 9) : GV (goOn (throwF A n) p t) := by
  obtain ⟨f1, f2, f3, f4, f5, f6, f7, f8⟩ := throwF_f A hn
  exact h.same ⟨fun r h1 h2 => by show aN (throwF A n) r = _; exact f4 r (by omega) (by omega), by show aV (throwF A n) 5 = _; rw [f5]⟩ (by rw [goOn_9, f2]; exact hn) (fun k _ => by
    have e : aB (goOn (throwF A n) p t) k = aB A k := by show aB (throwF A n) k = _; rw [f6]
    rw [e]
    exact ⟨rfl, rfl⟩)
theorem gv_endOne {k : Nat} (h : GV A) (hk : k < aS A 9) : GV (endOne A k) := by
  unfold endOne
  split
  · have hS : aS (endDl A k) = aS A := by rw [endDl_eq]; rfl
    obtain ⟨y1, y2, y3, -⟩ := endY_f A k
    have h0 : GV (endDl A k) := h.same (endDl_St A k).P (by rw [hS]; exact Nat.le_refl _) (fun j hj => by
      have e : aB (endDl A k) j = if j = k then endY A k else aB A j := by rw [endDl_eq]; rfl
      rw [e]
      by_cases ej : j = k
      · rw [if_pos ej, ej]
        exact ⟨y1 0 (by decide) (by decide), y3 0 (by decide)⟩
      · rw [if_neg ej]
        exact ⟨rfl, rfl⟩)
    have h1 : GV (endCt (endDl A k) k) ∧ k < aS (endCt (endDl A k) k) 9 := by
      unfold endCt
      dsimp only
      split
      · have h9 : aS (zS (endDl A k) 19 (aS (endDl A k) 19 + 1)) 9 = aS A 9 := by rw [zS_ne _ _ (by decide), hS]
        have h3 : GV (zS (endDl A k) 19 (aS (endDl A k) 19 + 1)) := h0.same SamP.refl0 (by rw [h9, hS]; exact Nat.le_refl _) (fun _ _ => ⟨rfl, rfl⟩)
        refine ⟨h3.go (by rw [h9]; omega), ?_⟩
        show k < aS (throwF (zS (endDl A k) 19 (aS (endDl A k) 19 + 1)) (k + 1)) 9
        rw [(throwF_f _ (by rw [h9]; omega)).2.1]
        exact Nat.lt_succ_self _
      · exact ⟨h0, by rw [hS]; exact hk⟩
    obtain ⟨h1, h2⟩ := h1
    unfold endSt
    dsimp only
    split
    · split
      · exact h1
      · rename_i j hj
        obtain ⟨j1, j2, -⟩ := findLd_s hj
        have h3 : GV (zN (zS (endCt (endDl A k) k) 20 (aS (endCt (endDl A k) k) 20 + 1)) 5 ((aB (endCt (endDl A k) k) j).1 0 % 16) 1) := h1.same ⟨fun r a c => zN_ne _ _ _ (by omega), rfl⟩ (by rw [(zN_ _ _ _ _).1, zS_ne _ _ (by decide)]; exact Nat.le_refl _) (fun _ _ => ⟨rfl, rfl⟩)
        exact h3.go (by rw [(zN_ _ _ _ _).1, zS_ne _ _ (by decide)]; omega)
    · exact h1
  · exact h
theorem gv_bus1 {k : Nat} (h : GV A) : GV (bus1 A k) := by
  refine h.same ⟨fun r a c => ?_, ?_⟩ (Nat.le_refl _) (fun j hj => ?_)
  · show aN (zN (zV A 1 _ _) 2 _ 1) r = _
    rw [zN_ne _ _ _ (by omega)]
    rfl
  · show aV (zV A 1 ((aB A k).1 8) ((aB A k).2.1 2)) 5 = _
    exact zV_ne _ _ _ (by decide)
  · have e : aB (bus1 A k) j = if j = k then eN (eN (aB A k) 10 101) 4 (aS A 0) else aB A j := rfl
    rw [e]
    by_cases ej : j = k
    · rw [if_pos ej, ej]
      exact ⟨rfl, rfl⟩
    · rw [if_neg ej]
      exact ⟨rfl, rfl⟩
theorem gv_answers (h : GV A) : GV (answers A) := by
  obtain ⟨f1, f2, f3, f4, f5, f6, f7⟩ := answers_f A
  refine h.same ⟨fun r _ _ => by rw [f2], f3 5 (by decide)⟩ (by rw [f1]; exact Nat.le_refl _) (fun k hk => ?_)
  rw [f4]
  dsimp only
  obtain ⟨w1, w2, -⟩ := wake_f A ((aQ A).filter (fun z => z.2 == aS A 0)) (aB A k)
  exact ⟨w1 0 (by decide) (by decide), by rw [w2]⟩
theorem gv_tick (h : GV A) : GV (tick A) := h.same SamP.refl0 (by unfold tick; rw [zS_ne _ _ (by decide)]; exact Nat.le_refl _) (fun _ _ => ⟨rfl, rfl⟩)
theorem gv_lose {i : Nat} (h : GV A) : GV (lose A i) := h.same ⟨fun r _ _ => zN_ne _ _ _ (by omega), rfl⟩ (Nat.le_refl _) (fun _ _ => ⟨rfl, rfl⟩)
theorem gv_tellE {x : Ent} {kd : Nat} (h : GV A) : GV (tellE A x kd) := by
  have tf := tellE_f A x kd
  exact h.same ⟨fun r _ _ => tf.2.2.1 r (by omega), tf.2.2.2.2.2.1 5 (by decide)⟩ (by rw [tf.1 9 (by decide)]; exact Nat.le_refl _) (fun k _ => by rw [tf.2.2.2.2.2.2.1]; exact ⟨rfl, rfl⟩)
theorem gv_0 (h : aS A 9 = 0) : GV A := fun k hk => by
  rw [h] at hk
  exact absurd hk (Nat.not_lt_zero _)
theorem gv_ret1 (h : GV A) (h9 : 0 < aS A 9) : GV (ret1 A) := by
  have f := ret1_f A
  have e9 := f.2.2.1
  have eN := f.2.2.2.2.2.2.2.2.2.2.1
  have eV := f.2.2.2.2.2.2.2.2.2.2.2.2.2.2.2.2.1
  have eB := f.2.2.2.2.2.2.2.2.2.2.2.2.2.2.2.2.2.2.2.1
  exact h.to ⟨fun r a c => eN r (by omega) (by omega) (by omega) (by omega), eV 5 (by decide) (by decide) (by decide)⟩ (fun k hk => ⟨k + 1, by rw [e9] at hk; omega, by rw [eB], by rw [eB]⟩)
theorem gv_rn1 (h : GV A) (hl : isCt (eC A (aL A 0)) = false → (aL A 0).2.1 0 = goV (eC A (aL A 0)) ((aL A 0).1 0) 0 0 (eI A (aL A 0))) : GV (rn1 A) := by
  have f := rn1_f A
  have e9 := f.2.1
  have eB := f.2.2.2.2.2.1
  have hP : SamP A (rn1 A) := ⟨fun r a c => f.2.2.2.1 r (by omega) (by omega) (by omega), f.2.2.2.2.1 5 (by decide)⟩
  have rE := rnE_f A
  intro k hk hc
  rw [eB, up1_if] at hc ⊢
  by_cases e : k = aS A 9
  · rw [if_pos e] at hc ⊢
    obtain ⟨e1, -, e3⟩ := hP.c (x := aL A 0) rE.1
    rw [e1] at hc ⊢
    rw [e3, rE.1, rE.2.2.2.2.1]
    exact hl hc
  · rw [if_neg e] at hc ⊢
    rw [e9] at hk
    obtain ⟨e1, -, e3⟩ := hP.c (x := aB A k) (y := aB A k) rfl
    rw [e1] at hc ⊢
    rw [e3]
    exact h k (by omega) hc
theorem gv_ft1 (h : GV A) : GV (ft1 A) := by
  have f := ft1_f A
  exact h.same ⟨fun r _ _ => by rw [f.2.2.2.2.2.1], by rw [f.2.2.2.2.2.2.1]⟩ (by rw [f.1 9 (by decide) (by decide) (by decide) (by decide)]; exact Nat.le_refl _) (fun k _ => by rw [f.2.2.2.2.2.2.2.1]; exact ⟨rfl, rfl⟩)
theorem gv_put {k : Nat} {y : Ent} (h : GV A) (hP : SamP A B) (hB : ∀ j, aB B j = if j = k then y else aB A j) (h9 : aS B 9 = aS A 9) (y0 : y.1 0 = (aB A k).1 0) (yg : y.2.1 0 = goV (eC A (aB A k)) ((aB A k).1 0) (eX A (aB A k)) (eY A (aB A k)) (eI A (aB A k))) : GV B := fun j hj hc => by
  rw [hB] at hc ⊢
  rw [h9] at hj
  by_cases e : j = k
  · rw [if_pos e] at hc ⊢
    obtain ⟨e1, -, e3⟩ := hP.c y0
    rw [e1] at hc ⊢
    rw [e3, y0, yg]
    exact goV_nc hc
  · rw [if_neg e] at hc ⊢
    obtain ⟨e1, -, e3⟩ := hP.c (x := aB A j) (y := aB A j) rfl
    rw [e1] at hc ⊢
    rw [e3]
    exact h j hj hc
theorem gv_bg1 {k : Nat} (h : GV A) (e : bg1 A k = some B) : GV B := by
  obtain ⟨c1, c2, c3, c4, -⟩ := cmp_f A (aB A k)
  unfold bg1 at e
  dsimp only at e
  obtain ⟨x, hx⟩ : ∃ x, x = cmp A (aB A k) := ⟨_, rfl⟩
  rw [← hx] at e c1 c4
  have x0 := c1 0 (by decide) (by decide)
  split at e
  · unfold ldB at e
    dsimp only at e
    split at e
    · cases e
    · split at e
      · split at e
        · cases e
        · cases e
          exact gv_put (k := k) h ⟨fun r _ _ => rfl, rfl⟩ (fun j => rfl) (by rw [(zB_ _ _ _).1, zS_ne _ _ (by decide)]) x0 c4
      · split at e
        · cases e
          exact gv_put (k := k) h ⟨fun r _ _ => rfl, rfl⟩ (fun j => rfl) (by rw [(zB_ _ _ _).1, zS_ne _ _ (by decide)]) x0 c4
        · split at e
          · cases e
            exact gv_put (k := k) h ⟨fun r _ _ => rfl, rfl⟩ (fun j => rfl) rfl x0 c4
          · split at e
            · cases e
            · cases e
              exact gv_put (k := k) h ⟨fun r _ _ => rfl, rfl⟩ (fun j => rfl) (by rw [(zB_ _ _ _).1, zS_ne _ _ (by decide)]; rfl) x0 c4
  · cases e
    exact gv_put (k := k) h ⟨fun r _ _ => rfl, rfl⟩ (fun j => rfl) rfl x0 c4
end GOV
