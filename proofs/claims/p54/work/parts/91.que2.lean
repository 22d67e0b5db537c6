/-! the queue is never over its most: the other steps -/
section QU2
variable {A B : Sx}
theorem qb_answers (h : QB A) : QB (answers A) := by
  obtain ⟨f1, f2, f3, f4, f5, f6, f7⟩ := answers_f A
  refine h.to (by rw [f1]; exact Nat.le_refl _) (by rw [f1]) (fun k _ hs => ?_)
  rw [f4] at hs
  dsimp only at hs
  unfold wake at hs
  split at hs
  · cases hs
  · exact hs
theorem qb_tick (h : QB A) : QB (tick A) := h.to (by unfold tick; rw [zS_ne _ _ (by decide)]; exact Nat.le_refl _) (by unfold tick; rw [zS_ne _ _ (by decide)]) (fun _ _ hs => hs)
theorem qb_lose {i : Nat} (h : QB A) : QB (lose A i) := h.to (Nat.le_refl _) rfl (fun _ _ hs => hs)
theorem QB.go {n p : Nat} {t : List Nat} (h : QB A) (hn : n ≤ aS A 9) : QB (goOn (throwF A n) p t) := by
  obtain ⟨f1, f2, f3, f4, f5, f6, f7, f8⟩ := throwF_f A hn
  refine h.to (by rw [goOn_9, f2]; exact hn) ?_ (fun k _ hs => ?_)
  · show aS (zS (zS (throwF A n) 11 p) 12 0) 18 = _
    rw [zS_ne _ _ (by decide), zS_ne _ _ (by decide), f1 18 (by decide) (by decide) (by decide) (by decide)]
  · have e : aB (goOn (throwF A n) p t) k = aB A k := by show aB (throwF A n) k = _; rw [f6]
    rw [e] at hs
    exact hs
theorem qb_endOne {k : Nat} (h : QB A) (hk : k < aS A 9) : QB (endOne A k) := by
  unfold endOne
  split
  · have hS : aS (endDl A k) = aS A := by rw [endDl_eq]; rfl
    obtain ⟨y1, y2, y3, y4, y5, y6, y7⟩ := endY_f A k
    have h0 : QB (endDl A k) := h.to (by rw [hS]; exact Nat.le_refl _) (by rw [hS]) (fun j _ h113 => by
      have e : aB (endDl A k) j = if j = k then endY A k else aB A j := by rw [endDl_eq]; rfl
      rw [e] at h113
      by_cases ej : j = k
      · rw [if_pos ej] at h113
        exfalso
        cases hd : hasD (eC A (aB A k)) with
        | true => rw [y4 hd] at h113; cases h113
        | false => rw [(y5 hd).1] at h113; cases h113
      · rw [if_neg ej] at h113
        exact h113)
    have h1 : QB (endCt (endDl A k) k) ∧ k < aS (endCt (endDl A k) k) 9 := by
      unfold endCt
      dsimp only
      split
      · have h9 : aS (zS (endDl A k) 19 (aS (endDl A k) 19 + 1)) 9 = aS A 9 := by rw [zS_ne _ _ (by decide), hS]
        have h3 : QB (zS (endDl A k) 19 (aS (endDl A k) 19 + 1)) := h0.to (by rw [h9, hS]; exact Nat.le_refl _) (zS_ne _ _ (by decide)) (fun _ _ hs => hs)
        refine ⟨h3.go (by rw [h9]; omega), ?_⟩
        show k < aS (throwF (zS (endDl A k) 19 (aS (endDl A k) 19 + 1)) (k + 1)) 9
        rw [(throwF_f _ (by rw [h9]; omega)).2.1]
        exact Nat.lt_succ_self _
      · exact ⟨h0, by rw [hS]; exact hk⟩
    obtain ⟨h1, h2⟩ := h1
    unfold endSt
    dsimp only
    split
    · split
      · exact h1
      · rename_i j hj
        obtain ⟨j1, j2, -⟩ := findLd_s hj
        have h3 : QB (zN (zS (endCt (endDl A k) k) 20 (aS (endCt (endDl A k) k) 20 + 1)) 5 ((aB (endCt (endDl A k) k) j).1 0 % 16) 1) := h1.to (by rw [(zN_ _ _ _ _).1, zS_ne _ _ (by decide)]; exact Nat.le_refl _) (by rw [(zN_ _ _ _ _).1, zS_ne _ _ (by decide)]) (fun _ _ hs => hs)
        exact h3.go (by rw [(zN_ _ _ _ _).1, zS_ne _ _ (by decide)]; omega)
    · exact h1
  · exact h
end QU2
