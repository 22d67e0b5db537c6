/-! the further invariants (times, places to go, the queue) over a cycle -/
section PIV
variable {A B C : Sx} {P : Sx → Prop}
theorem endL_p (st : ∀ {A : Sx} {k : Nat}, P A → k < aS A 9 → P (endOne A k)) : ∀ (n : Nat) {A : Sx} {k : Nat}, P A → P (endL A n k)
  | 0, _, _, h => h
  | n + 1, A, k, h => by
    unfold endL
    split
    · rename_i hk
      exact endL_p st n (st h hk)
    · exact h
theorem busL_p (st : ∀ {A : Sx} {k : Nat}, P A → P (bus1 A k)) : ∀ (n : Nat) {A : Sx} {k w : Nat}, P A → P (busL A n k w)
  | 0, _, _, _, h => h
  | n + 1, A, k, w, h => by
    unfold busL
    split
    · split
      · exact busL_p st n (st h)
      · exact busL_p st n h
    · exact h
theorem rtL_p (s1 : ∀ {A : Sx}, P A → 0 < aS A 9 → P (ret1 A)) (s2 : ∀ {A : Sx} {r : Nat}, P A → P (trap1 A r)) (s3 : ∀ {A : Sx} {i : Nat}, P A → P (lose A i)) : ∀ (n : Nat) {A : Sx} {ret : Nat}, P A → P (rtL A n ret)
  | 0, A, ret, h => by
    unfold rtL
    split
    · exact s3 h
    · exact h
  | n + 1, A, ret, h => by
    unfold rtL
    split
    · rename_i hl
      split
      · exact s2 h
      · exact rtL_p s1 s2 s3 n (s1 h (canLv_e hl).2.1)
    · split
      · exact s3 h
      · exact h
theorem bgL_p (st : ∀ {A B : Sx} {k : Nat}, IV A → P A → k < aS A 9 → (aB A k).1 10 = 113 → bg1 A k = some B → P B) : ∀ (n : Nat) {A : Sx} {u : Nat → Nat} {k : Nat}, IV A → P A → P (bgL A u n k)
  | 0, _, _, _, _, h => h
  | n + 1, A, u, k, q, h => by
    unfold bgL
    split
    · rename_i hk
      dsimp only
      split
      · rename_i hc
        split
        · rename_i B hB
          exact bgL_p st n (bg1_ib q.1 q.2 hk hc.1 hc.2.2 hB) (st q h hk hc.1 hB)
        · exact bgL_p st n q h
      · exact bgL_p st n q h
    · exact h
theorem rnL_p (st : ∀ {A : Sx}, IV A → P A → aS A 10 ≠ 0 → canRn A (eC A (aL A 0)) = true → P (rn1 A)) : ∀ (n : Nat) {A : Sx}, IV A → P A → P (rnL A n)
  | 0, _, _, h => h
  | n + 1, A, q, h => by
    unfold rnL
    split
    · rename_i hc
      exact rnL_p st n (rn1_ib q.1 q.2 hc.1 hc.2) (st q h hc.1 hc.2)
    · exact h
theorem ftL_p (st : ∀ {A : Sx}, P A → P (ft1 A)) : ∀ (n : Nat) {A : Sx}, P A → P (ftL A n)
  | 0, _, h => h
  | n + 1, A, h => by
    unfold ftL
    split
    · exact h
    · split
      · exact ftL_p st n (st h)
      · exact st h
def PX (A : Sx) : Prop := (TQ A ∧ GV A ∧ QB A) ∧ aS A 0 < 900
theorem trapIt_9 {x : Ent} : aS (trapIt A x) 9 = 0 := by
  unfold trapIt
  dsimp only
  split
  · exact (throwF_f A (Nat.zero_le _)).2.1
  · rw [goOn_9, zS_ne _ _ (by decide), zS_ne _ _ (by decide), zS_ne _ _ (by decide)]
    exact (throwF_f A (Nat.zero_le _)).2.1
theorem trap1_9 {r : Nat} : aS (trap1 A r) 9 = 0 := by
  unfold trap1
  dsimp only
  split
  · exact trapIt_9
  · exact trapIt_9
theorem intr_9 : aS (intr A) 9 = 0 := by
  unfold intr
  dsimp only
  exact (goOn_9 _ (aV A 0 1).toNatClampNeg []).trans (throwF_f _ (Nat.zero_le _)).2.1
theorem intr_0 : aS (intr A) 0 = aS A 0 := by
  unfold intr
  dsimp only
  refine (kp_lose 0 rfl).trans ((kp_goOn 0 rfl).trans ((kp_throwF (Nat.zero_le _) 0 rfl).trans ?_))
  rw [zS_ne _ _ (by decide), zS_ne _ _ (by decide), zS_ne _ _ (by decide), zS_ne _ _ (by decide)]
  rfl
theorem px_end {k : Nat} (h : PX A) (hk : k < aS A 9) : PX (endOne A k) := ⟨⟨tq_endOne h.1.1 hk, gv_endOne h.1.2.1 hk, qb_endOne h.1.2.2 hk⟩, by rw [kp_endOne hk 0 rfl]; exact h.2⟩
theorem px_bus {k : Nat} (h : PX A) : PX (bus1 A k) := ⟨⟨tq_bus1 h.1.1, gv_bus1 h.1.2.1, qb_bus1 h.1.2.2⟩, h.2⟩
theorem px_lose {i : Nat} (h : PX A) : PX (lose A i) := ⟨⟨tq_lose h.1.1, gv_lose h.1.2.1, qb_lose h.1.2.2⟩, h.2⟩
theorem px_ret (h : PX A) (h9 : 0 < aS A 9) : PX (ret1 A) := ⟨⟨tq_ret1 h.1.1 h9, gv_ret1 h.1.2.1 h9, qb_ret1 h.1.2.2 h9⟩, by rw [kp_ret1 0 (by decide) rfl]; exact h.2⟩
theorem px_trap {r : Nat} (h : PX A) : PX (trap1 A r) := ⟨⟨tq_trap1 h.1.1, gv_0 trap1_9, qb_0 trap1_9⟩, by rw [kp_trap1.1 0 (by decide) rfl]; exact h.2⟩
theorem px_intr (h : PX A) : PX (intr A) := ⟨⟨tq_intr h.1.1, gv_0 intr_9, qb_0 intr_9⟩, by rw [intr_0]; exact h.2⟩
theorem ad_cmp {x : Ent} (h9 : eC A x = 9) (ht : (cmp A x).1 12 = 0) : adok ((cmp A x).2.1 1) = true := by
  obtain ⟨c1, c2, c3, c4, c5, -⟩ := cmp_f A x
  rw [c2, h9] at ht
  have t0 : tpV 9 (eX A x) (eY A x) (eI A x) = if adok (eX A x + eI A x) = true then 0 else 2 := by
    unfold tpV
    rw [if_neg (by decide), if_pos (by decide)]
  rw [t0] at ht
  have had : adok (eX A x + eI A x) = true := by
    cases h : adok (eX A x + eI A x) with
    | true => rfl
    | false => rw [h] at ht; cases ht
  rw [c5, h9, t0, if_pos ⟨rfl, by rw [if_pos had]⟩]
  exact had
theorem px_bg {k : Nat} (q : IV A) (h : PX A) (e : bg1 A k = some B) : PX B := ⟨⟨tq_bg1 h.1.1 h.2 (fun i hi => (q.1.2.1.2.2.2.1 i hi).2) (fun h9 ht => by
  have := (adok_e (ad_cmp h9 ht)).2
  unfold lineOf
  omega) e, gv_bg1 h.1.2.1 e, qb_bg1 h.1.2.2 e⟩, by rw [kp_bg1 e 0 rfl]; exact h.2⟩
theorem px_rn (q : IV A) (h : PX A) (h10 : aS A 10 ≠ 0) (hc : canRn A (eC A (aL A 0)) = true) : PX (rn1 A) := by
  have l := q.2.2.2.2.1 0 (by omega)
  exact ⟨⟨tq_rn1 h.1.1 l.2.2.1, gv_rn1 h.1.2.1 (fun _ => l.2.2.2.2.2.2.2), qb_rn1 h.1.2.2 hc⟩, by rw [(rn1_f A).1 0 (by decide) (by decide) (by decide)]; exact h.2⟩
theorem px_ft (h : PX A) : PX (ft1 A) := ⟨⟨tq_ft1 h.1.1, gv_ft1 h.1.2.1, qb_ft1 h.1.2.2⟩, by rw [(ft1_f A).1 0 (by decide) (by decide) (by decide) (by decide)]; exact h.2⟩
theorem px_answers (h : PX A) : PX (answers A) := ⟨⟨tq_answers h.1.1 (by have := h.2; omega), gv_answers h.1.2.1, qb_answers h.1.2.2⟩, by rw [(answers_f A).1]; exact h.2⟩
theorem px_endings (h : PX A) : PX (endings A) := busL_p px_bus 17 (endL_p px_end 17 h)
theorem px_retires (h : PX A) : PX (retires A) := by
  unfold retires
  split
  · exact px_intr h
  · exact rtL_p px_ret px_trap px_lose _ h
theorem px_begins (q : IV A) (h : PX A) : PX (begins A) := bgL_p (fun q h _ _ e => px_bg q h e) 17 q h
/-- all that holds between cycles -/
def IX (A : Sx) : Prop := IA A ∧ TQ A ∧ GV A ∧ QB A ∧ aS A 0 ≤ 500
/-- the stages of a cycle: what holds behind each -/
theorem cyc_iv (q : IX A) (h1 : aS A 1 = 0) (h5 : aS A 0 < 500) : (IV (answers (tick A)) ∧ PX (answers (tick A))) ∧ (IV (endings (answers (tick A))) ∧ PX (endings (answers (tick A))) ∧ aS (endings (answers (tick A))) 14 = aS A 14 ∧ aS (endings (answers (tick A))) 1 = 0) ∧ (IV (retires (endings (answers (tick A)))) ∧ PX (retires (endings (answers (tick A))))) ∧ (IV (begins (retires (endings (answers (tick A))))) ∧ PX (begins (retires (endings (answers (tick A))))) ∧ aS (begins (retires (endings (answers (tick A))))) 6 = aS A 6) := by
  obtain ⟨q0, tq, gv, qb, c5⟩ := q
  have t0 : aS (tick A) 0 = aS A 0 + 1 := zS_at _ _ _
  have tn : ∀ i, i ≠ 0 → aS (tick A) i = aS A i := fun i h => zS_ne _ _ h
  have qt := tick_iv q0.1
  have pt : PX (tick A) := ⟨⟨tq_tick tq, gv_tick gv, qb_tick qb⟩, by rw [t0]; omega⟩
  have qa : IV (answers (tick A)) := answers_ib qt.1 qt.2
  have pa := px_answers pt
  have sa : aS (answers (tick A)) = aS (tick A) := (answers_f _).1
  obtain ⟨qe, ke⟩ := endL_iv 17 (k := 0) qa
  obtain ⟨qbu, kb⟩ := busL_iv 17 (k := 0) (w := 0) qe
  have kend : KP (answers (tick A)) (endings (answers (tick A))) := ke.trans kb
  have hst : aS (endings (answers (tick A))) 1 = 0 := by
    have e1 : aS (endL (answers (tick A)) 17 0) 1 = 0 := by
      refine endL_p (P := fun C => aS C 1 = 0) (fun {C k} h hk => ?_) 17 (by rw [sa, tn 1 (by decide)]; exact h1)
      unfold endOne
      split
      · have hS : aS (endDl C k) = aS C := by rw [endDl_eq]; rfl
        have h9 : aS (zS (endDl C k) 19 (aS (endDl C k) 19 + 1)) 9 = aS C 9 := by rw [zS_ne _ _ (by decide), hS]
        have e1 : aS (endCt (endDl C k) k) 1 = 0 := by
          unfold endCt
          dsimp only
          split
          · show aS (throwF (zS (endDl C k) 19 (aS (endDl C k) 19 + 1)) (k + 1)) 1 = _
            rw [(throwF_f _ (by rw [h9]; omega)).1 1 (by decide) (by decide) (by decide) (by decide), zS_ne _ _ (by decide), hS]
            exact h
          · rw [hS]
            exact h
        unfold endSt
        dsimp only
        split
        · split
          · exact e1
          · rename_i j hj
            obtain ⟨j1, j2, -⟩ := findLd_s hj
            show aS (throwF (zN (zS (endCt (endDl C k) k) 20 (aS (endCt (endDl C k) k) 20 + 1)) 5 ((aB (endCt (endDl C k) k) j).1 0 % 16) 1) j) 1 = _
            rw [(throwF_f _ (by
              show j ≤ aS (zS (endCt (endDl C k) k) 20 (aS (endCt (endDl C k) k) 20 + 1)) 9
              rw [zS_ne _ _ (by decide)]
              omega)).1 1 (by decide) (by decide) (by decide) (by decide)]
            show aS (zS (endCt (endDl C k) k) 20 (aS (endCt (endDl C k) k) 20 + 1)) 1 = _
            rw [zS_ne _ _ (by decide)]
            exact e1
        · exact e1
      · exact h
    exact busL_p (P := fun C => aS C 1 = 0) (fun {C k} h => h) 17 e1
  have pe := px_endings pa
  obtain ⟨qr, kr, kr14⟩ := retires_iv (A := endings (answers (tick A))) qbu hst
  have pr := px_retires pe
  obtain ⟨qg, kg⟩ := bgL_iv 17 (u := u0 (retires (endings (answers (tick A))))) (k := 0) qr
  refine ⟨⟨qa, pa⟩, ⟨qbu, pe, ?_, hst⟩, ⟨qr, pr⟩, qg, px_begins qr pr, ?_⟩
  · rw [kend 14 rfl, sa, tn 14 (by decide)]
  · rw [show aS (begins (retires (endings (answers (tick A))))) 6 = aS (retires (endings (answers (tick A)))) 6 from kg 6 rfl, kr 6 (by decide) (by decide) rfl, kend 6 rfl, sa, tn 6 (by decide)]
theorem cycA_ix (q : IX A) (h1 : aS A 1 = 0) (h5 : aS A 0 < 500) : IX (cycA A) ∧ aS (cycA A) 0 = aS A 0 + 1 := by
  obtain ⟨-, -, -, g1, g2, g3⟩ := cyc_iv q h1 h5
  obtain ⟨c1, c2⟩ := cycA_ia q.1 h1 h5
  obtain ⟨C, hC⟩ : ∃ C, C = rnL (begins (retires (endings (answers (tick A))))) (aS (begins (retires (endings (answers (tick A))))) 16) := ⟨_, rfl⟩
  have hcyc : cycA A = ftL C (aS C 16) := by rw [hC]; rfl
  have pc : PX C := by rw [hC]; exact rnL_p px_rn _ g1 g2
  have pf : PX (cycA A) := by rw [hcyc]; exact ftL_p (P := PX) (fun h => px_ft h) _ pc
  exact ⟨⟨c1, pf.1.1, pf.1.2.1, pf.1.2.2, by omega⟩, c2⟩
end PIV
