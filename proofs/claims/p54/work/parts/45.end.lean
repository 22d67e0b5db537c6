/-! answers, endings -/
section ENDS
variable {A B : Sx}
theorem adok_e {a : Int32} (h : adok a = true) : a = nI a.toNatClampNeg ∧ a.toNatClampNeg < 64 := by
  unfold adok at h
  simp only [Bool.and_eq_true, decide_eq_true_eq] at h
  obtain ⟨j, hj, e⟩ := nI_of (x := a) (Int32.not_lt.mpr h.1)
  have h2 : nI j < nI 64 := by rw [← e]; exact h.2
  have h3 : j < 64 := (nI_ltI hj (by omega)).mp h2
  rw [e, nI_clamp hj]
  exact ⟨rfl, h3⟩
theorem adok_nI {j : Nat} (h : j < 64) : adok (nI j) = true := by
  unfold adok
  simp only [Bool.and_eq_true, decide_eq_true_eq]
  exact ⟨nI_pos' (by omega), nI_lt (b := 64) h (by omega)⟩
/-- where a branch that doesn't trap goes: a place -/
theorem goV_pl {c p : Nat} {x y n : Int32} (hp : p < 64) (hn : 12 ≤ c → c ≤ 15 → adok n = true) (ht : tpV c x y n = 0) (hc : c ≤ 21) : ∃ g, g ≤ 64 ∧ goV c p x y n = nI g := by
  unfold goV
  split
  · rename_i h
    have h2 : c = 12 ∨ c = 13 := by simpa [isQn] using h
    split
    · obtain ⟨e1, e2⟩ := adok_e (hn (by omega) (by omega))
      exact ⟨_, by omega, e1⟩
    · exact ⟨p + 1, by omega, rfl⟩
  · split
    · rename_i h
      have h2 : c = 16 ∨ c = 17 := by simpa [isLp] using h
      have h3 : adok x = true := by
        unfold tpV at ht
        rw [if_neg (by omega), if_neg (by rcases h2 with rfl | rfl <;> decide), if_pos h] at ht
        split at ht
        · assumption
        · cases ht
      obtain ⟨e1, e2⟩ := adok_e h3
      exact ⟨_, by omega, e1⟩
    · split
      · rename_i h
        obtain ⟨e1, e2⟩ := adok_e (hn (by omega) (by omega))
        exact ⟨_, by omega, e1⟩
      · exact ⟨p + 1, by omega, rfl⟩
theorem CF.p (h : CF A) {p : Nat} (hp : p < aS A 15) : p < 64 ∧ aN A 10 p ≤ 21 ∧ aN A 11 p < 8 ∧ aN A 12 p < 8 ∧ aN A 13 p < 8 ∧ (12 ≤ aN A 10 p → aN A 10 p ≤ 15 → adok (aV A 5 p) = true) := by
  obtain ⟨-, -, -, -, h1, h2, -⟩ := h
  obtain ⟨a, b, c, d, e⟩ := h2 p hp
  exact ⟨by omega, a, b, c, d, e⟩
/-- a computed entry that doesn't trap goes to a place -/
theorem CM.go {x : Ent} (h : CM A x) (hc : CF A) (ho : okE A x) (ht : x.1 12 = 0) : ∃ g, g ≤ 64 ∧ x.2.1 0 = nI g := by
  obtain ⟨-, -, c3, c4, -⟩ := h
  obtain ⟨p1, p2, -, -, -, p6⟩ := hc.p ho.1
  rw [c4]
  rw [ht] at c3
  split at c3
  · cases c3
  · exact goV_pl p1 p6 c3.symm p2
theorem suc_go {x : Ent} {g : Nat} (hg : g ≤ 64) (e : x.2.1 0 = nI g) (hc : isCt (eC A x) = true) (h1 : x.1 10 = 101) (h2 : x.1 12 = 0) : suc A x = g := by
  unfold suc
  rw [if_pos ⟨hc, h1, h2⟩, e, nI_clamp (by omega)]
/-- fetching goes on at the place behind the buffer -/
theorem IF.go {p : Nat} {t : List Nat} (hnl : aS A 10 = 0) (h1 : aS A 1 ≠ 1) (hp : p = prd A (aS A 9)) (hp64 : p ≤ 64) (ht : okT t) (hef : ∀ k, k < aS A 9 → isEf (eC A (aB A k)) = false) : IF (goOn A p t) := by
  have s10 : aS (goOn A p t) 10 = 0 := hnl
  have s9 : aS (goOn A p t) 9 = aS A 9 := rfl
  have s12 : aS (goOn A p t) 12 = 0 := rfl
  have s11 : aS (goOn A p t) 11 = p := rfl
  have s1 : aS (goOn A p t) 1 = aS A 1 := rfl
  have sT : aT (goOn A p t) = t := rfl
  have sp : prd (goOn A p t) (aS A 9) = prd A (aS A 9) := rfl
  unfold IF
  rw [s10, s9, s12, s11, s1, sT, sp]
  refine ⟨by omega, ht, by omega, fun j hj => absurd hj (Nat.not_lt_zero _), fun i j _ hj => absurd hj (Nat.not_lt_zero _), fun k j _ hj => absurd hj (Nat.not_lt_zero _), fun h => absurd h (Nat.lt_irrefl _), fun j hj => absurd hj (Nat.not_lt_zero _), fun _ => by rw [if_pos rfl]; exact hp, fun _ => hp64, fun k hk he => ?_, fun j hj => absurd hj (Nat.not_lt_zero _), fun h => absurd h h1⟩
  have := hef k hk
  rw [show eC (goOn A p t) (aB (goOn A p t) k) = eC A (aB A k) from rfl, this] at he
  cases he
theorem St.go {p : Nat} {t : List Nat} : St A (goOn A p t) := (St.zS0 rfl).trans ((St.zS0 rfl).trans St.zT0)
theorem IBp.go {n p : Nat} {t : List Nat} (q : IBp A n) (hn : n ≤ aS A 9) : IBp (goOn A p t) n := St.go.ibe q hn rfl q.2.1.2.2.2.2.2.1 rfl rfl rfl
/-! answers -/
theorem comeIn_f : ∀ (q : List (Nat × Nat)) (A : Sx), aS (comeIn A q) = aS A ∧ aN (comeIn A q) = aN A ∧ (∀ r, r ≠ 4 → aV (comeIn A q) r = aV A r) ∧ aB (comeIn A q) = aB A ∧ aL (comeIn A q) = aL A ∧ aT (comeIn A q) = aT A ∧ aQ (comeIn A q) = aQ A
  | [], A => ⟨rfl, rfl, fun _ _ => rfl, rfl, rfl, rfl, rfl⟩
  | z :: q, A => by
    obtain ⟨h1, h2, h3, h4, h5, h6, h7⟩ := comeIn_f q (zV A 4 (z.1 % 4) (nI z.1))
    exact ⟨h1, h2, fun r hr => (h3 r hr).trans (up2_ne _ _ _ hr), h4, h5, h6, h7⟩
theorem answers_f (A : Sx) : aS (answers A) = aS A ∧ aN (answers A) = aN A ∧ (∀ r, r ≠ 4 → aV (answers A) r = aV A r) ∧ aB (answers A) = (fun k => wake A ((aQ A).filter (fun z => z.2 == aS A 0)) (aB A k)) ∧ aL (answers A) = aL A ∧ aT (answers A) = aT A ∧ aQ (answers A) = (aQ A).filter (fun z => !(z.2 == aS A 0)) := by
  obtain ⟨h1, h2, h3, h4, h5, h6, h7⟩ := comeIn_f ((aQ A).filter (fun z => z.2 == aS A 0)) A
  exact ⟨h1, h2, h3, rfl, h5, h6, rfl⟩
theorem wake_f (A : Sx) (q : List (Nat × Nat)) (x : Ent) : (∀ i, i ≠ 10 → i ≠ 11 → (wake A q x).1 i = x.1 i) ∧ (wake A q x).2 = x.2 ∧ ((wake A q x).1 10 = x.1 10 ∨ (x.1 10 = 109 ∧ lineOf x ∈ q.map (·.1) ∧ (wake A q x).1 10 = 120 ∧ (wake A q x).1 11 = aS A 0)) ∧ ((wake A q x).1 10 = 109 → lineOf x ∉ q.map (·.1)) := by
  unfold wake
  split
  · rename_i h
    refine ⟨fun i a b => ?_, rfl, Or.inr ⟨h.1, h.2, rfl, rfl⟩, fun h => ?_⟩
    · simp [eN_, up1_if, a, b]
    · simp [eN_, up1_if] at h
  · rename_i h
    exact ⟨fun _ _ _ => rfl, rfl, Or.inl rfl, fun h2 h3 => h ⟨h2, h3⟩⟩
theorem answers_ib (q : IB A) (f : IF A) : IB (answers A) ∧ IF (answers A) := by
  obtain ⟨a1, a2, a3, a4, a5, a6, a7⟩ := answers_f A
  have wk := fun k => wake_f A ((aQ A).filter (fun z => z.2 == aS A 0)) (aB A k)
  have hb : ∀ k, aB (answers A) k = wake A ((aQ A).filter (fun z => z.2 == aS A 0)) (aB A k) := fun k => congrFun a4 k
  have hSt : St A (answers A) := by
    refine ⟨fun i _ => by rw [a1], fun r _ _ _ => by rw [a2], fun r _ h => a3 r h, fun k hk => ⟨fun i hi => ?_, ?_⟩⟩
    · rw [hb]
      exact (wk k).1 i (by omega) (by omega)
    · rw [hb, (wk k).2.1]
  have hnw : ∀ k, k < aS A 9 → isSt (eC A (aB A k)) = true → (aB (answers A) k).1 10 = (aB A k).1 10 := fun k hk hs => by
    rw [hb]
    rcases (wk k).2.2.1 with h | ⟨h, -⟩
    · exact h
    · obtain ⟨-, -, -, q7, -⟩ := q.2.2.2.2.2.2.1 k hk
      rw [(q7 h).1] at hs
      cases hs
  have hsuc : ∀ k, suc (answers A) (aB (answers A) k) = suc A (aB A k) := fun k => by
    rw [suc_eq hSt.P, hb]
    have ec : eC A (wake A ((aQ A).filter (fun z => z.2 == aS A 0)) (aB A k)) = eC A (aB A k) := by
      unfold eC
      rw [(wk k).1 0 (by decide) (by decide)]
    unfold suc
    rw [ec, (wk k).1 12 (by decide) (by decide), (wk k).2.1, (wk k).1 5 (by decide) (by decide)]
    rcases (wk k).2.2.1 with h | ⟨h, -, h2, -⟩
    · rw [h]
    · rw [h2, h]
      simp
  obtain ⟨q1, q2, q3, q4, q5, q6, q7, q8, q9, q10, q11, q12, q13, q14, q15⟩ := id q
  have hib : IBp (answers A) (aS A 9) := by
    refine hSt.ibp q (Nat.le_refl _) (Nat.le_refl _) (fun k hk => by rw [a2]; exact q2.2.2.2.2.1 k hk) (fun k hk => by rw [a2]; exact q2.2.2.2.2.2.1 k hk) ?_ (fun k hk => ?_) (fun k hk => ?_) (fun k _ => hsuc k) (fun r hr => ?_)
    · obtain ⟨b1, b2, b3⟩ := q3
      unfold QK
      rw [a7]
      refine ⟨Nat.le_trans (List.length_filter_le _ _) b1, fun z hz => b2 z (List.mem_filter.mp hz).1, ?_⟩
      exact List.Nodup.sublist (List.Sublist.map _ List.filter_sublist) b3
    · obtain ⟨d1, d2, d3, d4, d5, d6, d7⟩ := q7 k hk
      obtain ⟨w1, w2, w3, w4⟩ := wk k
      have ec : eC (answers A) (aB (answers A) k) = eC A (aB A k) := (hSt.c hk).1
      have hl : lineOf (aB (answers A) k) = lineOf (aB A k) := by
        unfold lineOf
        rw [hb, w2]
      unfold DY
      rw [ec, hl, a7, a2, hb, w2, w1 8 (by decide) (by decide), w1 12 (by decide) (by decide)]
      have h120 : ∀ {P : Prop}, (wake A ((aQ A).filter (fun z => z.2 == aS A 0)) (aB A k)).1 10 = 120 → (aB A k).1 10 = 109 → eC A (aB A k) = 9 := fun _ h => (d4 h).1
      rcases w3 with h | ⟨h, h3, h2, h4⟩
      · rw [h]
        rw [h] at w4
        refine ⟨d1, d2, d3, fun g => ?_, d5, d6, fun g => ?_⟩
        · obtain ⟨g1, g2, g3, g4⟩ := d4 g
          refine ⟨g1, g2, ?_, g4⟩
          obtain ⟨z, z1, z2⟩ := List.mem_map.mp g3
          refine List.mem_map.mpr ⟨z, List.mem_filter.mpr ⟨z1, ?_⟩, z2⟩
          cases hz : (z.2 == aS A 0) with
          | false => rfl
          | true => exact absurd (List.mem_map.mpr ⟨z, List.mem_filter.mpr ⟨z1, hz⟩, z2⟩) (w4 g)
        · exact (d7 g).to hSt.P (by rw [a1]) (w1 0 (by decide) (by decide)) (w1 6 (by decide) (by decide)) (w1 7 (by decide) (by decide)) (w1 12 (by decide) (by decide)) (w1 14 (by decide) (by decide)) (by rw [w2]) (by rw [w2]) (fun _ => by rw [w2]) (fun z => by rw [a2, a3 1 (by decide)]; exact ⟨z, rfl⟩) (fun z => by rw [a2, a3 1 (by decide)]; exact ⟨z, rfl⟩) (fun z1 z2 => by
            rw [a3 1 (by decide), w1 8 (by decide) (by decide), w2]
            rw [h] at z1
            exact (d7 g).2.2.2.2.2.2.2.2 z1 z2)
      · rw [h2]
        obtain ⟨g1, g2, g3, g4⟩ := d4 h
        have g := d7 (by rw [h]; decide)
        refine ⟨by simp, fun z => ?_, fun z => by simp at z, fun z => by simp at z, fun z => ?_, fun z => by simp at z, fun _ => ?_⟩
        · rw [g1] at z
          cases z
        · rw [d5 z, h]
          rfl
        · exact g.to hSt.P (by rw [a1]) (w1 0 (by decide) (by decide)) (w1 6 (by decide) (by decide)) (w1 7 (by decide) (by decide)) (w1 12 (by decide) (by decide)) (w1 14 (by decide) (by decide)) (by rw [w2]) (by rw [w2]) (fun _ => by rw [w2]) (fun z => by rw [a2, a3 1 (by decide)]; exact ⟨z, rfl⟩) (fun z => by rw [a2, a3 1 (by decide)]; exact ⟨z, rfl⟩) (fun z1 z2 => by rw [h2] at z1; cases z1)
    · have h0 := q8 k hk
      unfold LD at h0 ⊢
      rw [(hSt.c hk).1]
      intro c1 c2 c3
      obtain ⟨w1, w2, w3, w4⟩ := wk k
      rw [hb] at c2 c3
      rw [w1 12 (by decide) (by decide)] at c3
      have c4 : (aB A k).1 10 ≠ 113 := by
        rcases w3 with h | ⟨h, -⟩
        · rw [← h]; exact c2
        · rw [h]; decide
      have h1 := h0 c1 c4 c3
      refine h1.to q10.2.2 hSt.P (by rw [hb, w2]) (by rw [hb, w2]) (fun j hj => ⟨hSt.f (by omega) 0, hSt.f (by omega) 7, hSt.f (by omega) 13⟩) (fun j hj => ?_) (fun j hj z => by rw [a2, a3 1 (by decide)]; exact ⟨z, rfl⟩) (a3 2 (by decide)) (by rw [a1]; exact Nat.le_refl _) (by rw [a1]; exact Nat.le_refl _) (fun j hj => hSt.f (by rw [a1] at hj; exact hj) 13) (fun _ => by rw [hb, w2]) (fun z z2 => ?_)
      · refine ES.iff hSt.P (hSt.f (by omega) 0) (fun hs => ?_) _
        rw [hnw j (by omega) hs]
        refine ⟨Iff.rfl, fun _ => ?_⟩
        rw [hb, (wk j).2.1, (wk j).1 12 (by decide) (by decide)]
        exact ⟨rfl, rfl⟩
      · rw [hb] at z2
        rw [hb, w2]
        have z3 : (aB A k).1 10 = 98 ∨ (aB A k).1 10 = 101 := by
          rcases w3 with h | ⟨-, -, h, -⟩
          · rw [h] at z2; exact z2
          · rw [h] at z2; simp at z2
        rcases h1 with ⟨-, -, b3⟩ | ⟨g, b1, b2, -⟩
        · exact b3 z3
        · exact absurd (b1.symm.trans z) (nI_m1 (by have := q10.2.2; omega))
    · rw [a2, a3 1 (by decide)]
      exact ⟨q13 r hr, rfl⟩
  refine ⟨?_, hSt.if_ ⟨by rw [a1], by rw [a1], by rw [a1], a5, a6⟩ f (fun k _ => hsuc k)⟩
  unfold IB
  rw [a1]
  exact hib
end ENDS
