/-! the model: going on, throwing away -/
theorem zS_comm (A : Sx) {i j : Nat} (m n : Nat) (h : i ≠ j) : zS (zS A i m) j n = zS (zS A j n) i m := by
  refine Prod.ext (funext fun k => ?_) rfl
  show up1 (up1 A.1 i m) j n k = up1 (up1 A.1 j n) i m k
  simp only [up1_if]
  split
  · rename_i e
    rw [if_neg (by omega)]
  · rfl
theorem zS_self (A : Sx) {i n : Nat} (h : aS A i = n) : zS A i n = A := by
  refine Prod.ext (funext fun k => ?_) rfl
  show up1 A.1 i n k = A.1 k
  rw [up1_if]
  split
  · rename_i e
    rw [e]
    exact h.symm
  · rfl
theorem zS_zS (A : Sx) (i m n : Nat) : zS (zS A i m) i n = zS A i n := by
  refine Prod.ext (funext fun k => ?_) rfl
  show up1 (up1 A.1 i m) i n k = up1 A.1 i n k
  simp only [up1_if]
  split <;> rfl
theorem throw1_zS (A : Sx) {i : Nat} (n : Nat) (h7 : i ≠ 7) (h9 : i ≠ 9) (h21 : i ≠ 21) : throw1 (zS A i n) = zS (throw1 A) i n := by
  have e9 : aS (zS A i n) 9 = aS A 9 := zS_ne _ _ (Ne.symm h9)
  have e21 : aS (zS A i n) 21 = aS A 21 := zS_ne _ _ (Ne.symm h21)
  have e7 : aS (zS A i n) 7 = aS A 7 := zS_ne _ _ (Ne.symm h7)
  unfold throw1 takeB
  dsimp only
  rw [e9, e21, e7]
  have hB : aB (zS A i n) = aB A := rfl
  rw [hB]
  have hc : ∀ x : Ent, eC (zS A i n) x = eC A x ∧ eD (zS A i n) x = eD A x := fun x => ⟨rfl, rfl⟩
  rw [(hc _).1, (hc _).2]
  split
  · rw [zS_comm _ _ _ h21.symm.symm |>.symm, zS_comm _ _ _ (Ne.symm h9), zS_comm _ _ _ (Ne.symm h7)]
    rfl
  · rw [← zS_comm _ _ _ h21, ← zS_comm _ _ _ h9]
theorem throwN_zS {i : Nat} (n : Nat) (h7 : i ≠ 7) (h9 : i ≠ 9) (h21 : i ≠ 21) : ∀ (m : Nat) (A : Sx), throwN (zS A i n) m = zS (throwN A m) i n
  | 0, _ => rfl
  | m + 1, A => by
    show throwN (throw1 (zS A i n)) m = zS (throwN (throw1 A) m) i n
    rw [throw1_zS A n h7 h9 h21]
    exact throwN_zS n h7 h9 h21 m _
theorem throw1_zT (A : Sx) (t : List Nat) : throw1 (zT A t) = zT (throw1 A) t := by
  unfold throw1 takeB
  dsimp only
  have hc : ∀ x : Ent, eC (zT A t) x = eC A x ∧ eD (zT A t) x = eD A x := fun x => ⟨rfl, rfl⟩
  have hB : aB (zT A t) = aB A := rfl
  have hS : aS (zT A t) = aS A := rfl
  rw [hB, hS, (hc _).1, (hc _).2]
  split <;> rfl
theorem throwN_zT (t : List Nat) : ∀ (m : Nat) (A : Sx), throwN (zT A t) m = zT (throwN A m) t
  | 0, _ => rfl
  | m + 1, A => by
    show throwN (throw1 (zT A t)) m = zT (throwN (throw1 A) m) t
    rw [throw1_zT]
    exact throwN_zT t m _
section MTHR
variable {b : Nat} {A : Sx} {ρ : Nat → Nat} {μ : Mm}
/-- what throwing away changes in memory -/
def sThr (o k : Nat) : Bool := o == 40 || o == 44 || (o == 30 && (k == 21 || k == 23 || k == 50))
theorem m_thrStep {N at_ m : Nat} (S : SM b μ) (hT : RT mT b (zS A 9 N) μ) (hR : Rho b ρ μ) (hB : BM b A ρ μ) (hP : PM b A μ) (hz : IBz A) (h9 : aS A 9 = at_ + (m + 1)) (hN : N ≤ 16) (hN2 : at_ + (m + 1) ≤ N) (n : Nat) :
    ∃ μ', f_X11_throwsFrom_b7 (n + 1) (b + 30) (nI at_) (nI (at_ + m)) μ = f_X11_throwsFrom_b7 n (b + 30) (nI at_) (nI (at_ + m) + (-1)) μ' ∧ RT mT b (zS (throw1 A) 9 N) μ' ∧ CH b sThr μ μ' := by
  have s := S
  unfold SM at s
  have hk : at_ + m < aS A 9 := by omega
  have hnp : aS A 15 ≤ 64 := hz.1.2.2.2.2.1
  have ho := hz.2.2.2.2.2.1 (at_ + m) hk
  have hp := hz.1.p ho.1
  obtain ⟨r1, r2, r3⟩ := hR.1 (at_ + m) (by omega)
  have re := hB (at_ + m) hk
  obtain ⟨x, hx⟩ : ∃ x, x = aB A (at_ + m) := ⟨_, rfl⟩
  rw [← hx] at ho hp re
  have hx1 : aB A (aS A 9 - 1) = x := by rw [hx, h9]; rfl
  have s46 : mK μ (b + ρ (at_ + m)) = 11 ∧ mL μ (b + ρ (at_ + m)) = 28 := by
    have := S.2.2.2.2.2.2.2.2.2.2.2.2.2.2.2.2.2.2.2.2.2.2.2.2.2.2.2.2.2.2.2.2.2.2.2.2.2.2.2.2.2.2.2.2.2.2.2.2.2.2.2.2.2.2.2.2.2.2.2.2.2.2.2.2.2.2.2.2.2.2.2.2.2.2.2.2.2.2.2.2.2.2.2.2.2.2.2.2 (ρ (at_ + m) - 46) (by omega) (by omega)
    rw [show 46 + (ρ (at_ + m) - 46) = ρ (at_ + m) by omega] at this
    exact this
  have c1 : ¬ nI (at_ + m) < nI at_ := nI_nlt (by omega) (by omega)
  have hco := m_codeOf S hP hnp s46.1 s46.2 re.1 ho.1
  have hcd := m_hasD (aN A 10 (x.1 0)) (by omega)
  have gone : mI μ (b + 30) 50 = nI (aS A 21) := hT.1 21 rfl
  have nf : mI μ (b + 30) 21 = nI (aS A 7) := hT.1 7 rfl
  have hnf := hz.2.2.2.1.nf
  have h24 : aS A 7 < 24 := by have := hz.1.2.2.2.1; omega
  have hec : eC A x = aN A 10 (x.1 0) := rfl
  have t : throw1 A = zS (zS (takeB A x) 9 (aS A 9 - 1)) 21 (aS A 21 + 1) := by
    unfold throw1
    rw [hx1]
  cases hd : hasD (aN A 10 (x.1 0))
  · refine ⟨sI μ (b + 30) 50 (nI (aS A 21) + 1), ?_, ?_, CH.put rfl⟩
    · rw [hd] at hcd
      simp only [f_X11_throwsFrom_b7, f_X11_throwsFrom_b70, c1, s, ckA, ckT, bdS, r1, hco, hcd, zlS, gone, clN (show at_ + m < 100000 by omega), ck_t (inbN (p := at_ + m) (n := 16) (by omega) (by omega)), if_false, if_true, bI, Bool.false_eq_true]
    · have h1 := hT.putS mT_ok (i := 21) rfl (aS A 21 + 1)
      have e : nI (aS A 21) + 1 = nI (aS A 21 + 1) := nI_1 _
      rw [e]
      refine RT.cg h1 (fun i hi => ?_) (fun r k _ _ => ?_) (fun r k _ _ => ?_)
      · rw [t]
        unfold takeB
        rw [hec, hd, if_neg Bool.false_ne_true]
        simp only [zS_, up1_if]
        by_cases e9 : i = 9
        · subst e9
          rfl
        · rw [if_neg e9, if_neg e9, if_neg e9]
      · rw [t]
        unfold takeB
        rw [hec, hd, if_neg Bool.false_ne_true]
        rfl
      · rw [t]
        unfold takeB
        rw [hec, hd, if_neg Bool.false_ne_true]
        rfl
  · obtain ⟨e9, e10⟩ := re.2.2.2.2.2.2.2.2.2.2.1 (by rw [hec]; exact hd)
    refine ⟨sI (sI (sI (sI μ (b + 40) (aN A 11 (x.1 0)) (nI (x.1 9))) (b + 44) (aS A 7) (nI (x.1 8))) (b + 30) 21 (nI (aS A 7) + 1)) (b + 30) 50 (nI (aS A 21) + 1), ?_, ?_, ?_⟩
    · rw [hd] at hcd
      have n1 : b + 30 ≠ b + 40 := by omega
      have n2 : b + 30 ≠ b + 44 := by omega
      have n3 : b + ρ (at_ + m) ≠ b + 40 := by omega
      have q1 := (hP _ ho.1).2.1
      simp only [f_X11_throwsFrom_b7, f_X11_throwsFrom_b70, c1, s, ckA, ckI, ckT, bdS, r1, hco, hcd, zlS, gone, nf, s46, tcL, re.1, q1, e9, e10, clN (show at_ + m < 100000 by omega), ck_t (inbN (p := at_ + m) (n := 16) (by omega) (by omega)), ck_t (inbN (p := x.1 0) (n := 64) (by omega) (by omega)), ck_t (inbN (p := aN A 11 (x.1 0)) (n := 8) (by omega) (by omega)), ck_t (inbN (p := aS A 7) (n := 24) (by omega) (by omega)), clN (show x.1 0 < 100000 by omega), clN (show aN A 11 (x.1 0) < 100000 by omega), clN (show aS A 7 < 100000 by omega), if_false, if_true, bI, mK_sI, mL_sI, mR_sI', mI_ne _ _ (Or.inl n1), mI_ne _ _ (Or.inl n2), mI_ne _ _ (Or.inl n3), mI_ne _ _ (Or.inr (show (50 : Nat) ≠ 21 by decide)), show ¬ (1 : Int32) = 0 by decide]
    · have h1 := ((hT.putN mT_ok (q := 0) (j := aN A 11 (x.1 0)) (by omega) hp.2.2.1 (x.1 9)).putN mT_ok (q := 3) (j := aS A 7) (by omega) (show aS A 7 < 24 from h24) (x.1 8)).putS mT_ok (i := 7) rfl (aS A 7 + 1)
      have h2 := h1.putS mT_ok (i := 21) rfl (aS A 21 + 1)
      rw [nI_1, nI_1]
      refine RT.cg h2 (fun i hi => ?_) (fun r k _ _ => ?_) (fun r k _ _ => ?_)
      · rw [t]
        unfold takeB
        rw [hec, hd, if_pos rfl]
        simp only [zS_, zN_, up1_if]
        by_cases e9 : i = 9
        · subst e9
          rfl
        · rw [if_neg e9, if_neg e9, if_neg e9]
      · rw [t]
        unfold takeB
        rw [hec, hd, if_pos rfl]
        rfl
      · rw [t]
        unfold takeB
        rw [hec, hd, if_pos rfl]
        rfl
    · exact (((CH.put (S := sThr) rfl).trans (CH.put rfl)).trans (CH.put rfl)).trans (CH.put rfl)
end MTHR
