/-! what a run keeps: the program, the inner registers; ends only come -/
section KEEP
variable {A B : Sx} {n m e : Nat}
def K2 (n m e : Nat) (A : Sx) : Prop := aS A 15 = n ∧ aS A 8 = m ∧ e ≤ aS A 14
theorem K2.kp (h : K2 n m e A) (g : KP A B) : K2 n m e B := ⟨(g 15 rfl).trans h.1, (g 8 rfl).trans h.2.1, by rw [g 14 rfl]; exact h.2.2⟩
theorem K2.to (h : K2 n m e A) (h15 : aS B 15 = aS A 15) (h8 : aS B 8 = aS A 8) (h14 : aS A 14 ≤ aS B 14) : K2 n m e B := ⟨h15.trans h.1, h8.trans h.2.1, Nat.le_trans h.2.2 h14⟩
theorem intr_kp {i : Nat} (hi : kpI i = true) (a : i ≠ 2) (c : i ≠ 14) : aS (intr A) i = aS A i := by
  unfold intr
  dsimp only
  have hh : i = 0 ∨ i = 2 ∨ i = 6 ∨ i = 8 ∨ i = 14 ∨ i = 15 ∨ i = 16 ∨ i = 17 ∨ i = 18 := by unfold kpI at hi; exact of_decide_eq_true hi
  refine (kp_lose i hi).trans ((kp_goOn i hi).trans ((kp_throwF (Nat.zero_le _) i hi).trans ?_))
  rw [zS_ne _ _ (by omega), zS_ne _ _ (by omega), zS_ne _ _ (by omega), zS_ne _ _ (by omega)]
  exact zS_ne _ _ c
theorem intr_14 : aS (intr A) 14 = aS A 14 + 1 := by
  unfold intr
  dsimp only
  show aS (throwF (zS (zS (zS (zS (tell A 9 (aS A 5) 0 0 0 0 (-1)) 2 0) 3 1) 4 (aS A 5)) 5 (aV A 0 1).toNatClampNeg) 0) 14 = aS A 14 + 1
  rw [(throwF_f _ (Nat.zero_le _)).1 14 (by decide) (by decide) (by decide) (by decide)]
  rfl
theorem k2_intr (h : K2 n m e A) : K2 n m e (intr A) := h.to (intr_kp rfl (by decide) (by decide)) (intr_kp rfl (by decide) (by decide)) (by rw [intr_14]; exact Nat.le_succ _)
theorem k2_ret (h : K2 n m e A) : K2 n m e (ret1 A) := h.to (kp_ret1 15 (by decide) rfl) (kp_ret1 8 (by decide) rfl) (by rw [(ret1_f A).2.1]; exact Nat.le_succ _)
theorem k2_trap {r : Nat} (h : K2 n m e A) : K2 n m e (trap1 A r) := h.to (kp_trap1.1 15 (by decide) rfl) (kp_trap1.1 8 (by decide) rfl) (by rw [kp_trap1.2]; exact Nat.le_succ _)
theorem k2_rn (h : K2 n m e A) : K2 n m e (rn1 A) := h.to ((rn1_f A).1 15 (by decide) (by decide) (by decide)) ((rn1_f A).1 8 (by decide) (by decide) (by decide)) (by rw [(rn1_f A).1 14 (by decide) (by decide) (by decide)]; exact Nat.le_refl _)
theorem k2_ft (h : K2 n m e A) : K2 n m e (ft1 A) := h.to ((ft1_f A).1 15 (by decide) (by decide) (by decide) (by decide)) ((ft1_f A).1 8 (by decide) (by decide) (by decide) (by decide)) (by rw [(ft1_f A).1 14 (by decide) (by decide) (by decide) (by decide)]; exact Nat.le_refl _)
theorem k2_cyc (q : IX A) (h1 : aS A 1 = 0) (h5 : aS A 0 < 500) (h : K2 n m e A) : K2 n m e (cycA A) := by
  obtain ⟨-, -, ⟨i3, -⟩, i4, -, -⟩ := cyc_iv q h1 h5
  have tn : ∀ i, i ≠ 0 → aS (tick A) i = aS A i := fun i h => zS_ne _ _ h
  have sa : aS (answers (tick A)) = aS (tick A) := (answers_f _).1
  have ka : K2 n m e (answers (tick A)) := h.to (by rw [sa]; exact tn 15 (by decide)) (by rw [sa]; exact tn 8 (by decide)) (by rw [sa, tn 14 (by decide)]; exact Nat.le_refl _)
  have ke : K2 n m e (endings (answers (tick A))) := busL_p (P := K2 n m e) (fun {C k} h => h) 17 (endL_p (P := K2 n m e) (fun h hk => h.kp (kp_endOne hk)) 17 ka)
  have kr : K2 n m e (retires (endings (answers (tick A)))) := by
    unfold retires
    split
    · exact k2_intr ke
    · exact rtL_p (P := K2 n m e) (fun h _ => k2_ret h) k2_trap (fun {C i} h => h) _ ke
  have kb : K2 n m e (begins (retires (endings (answers (tick A))))) := bgL_p (P := K2 n m e) (fun q h _ _ e => h.kp (kp_bg1 e)) 17 i3 kr
  obtain ⟨C, hC⟩ : ∃ C, C = rnL (begins (retires (endings (answers (tick A))))) (aS (begins (retires (endings (answers (tick A))))) 16) := ⟨_, rfl⟩
  have hcyc : cycA A = ftL C (aS C 16) := by rw [hC]; rfl
  have kc : K2 n m e C := by rw [hC]; exact rnL_p (P := K2 n m e) (fun _ h _ _ => k2_rn h) _ i4 kb
  rw [hcyc]
  exact ftL_p (P := K2 n m e) (fun h => k2_ft h) _ kc
theorem k2_run : ∀ (j : Nat) {A : Sx}, IX A → aS A 0 + j ≤ 500 → K2 n m e A → K2 n m e (runA A j)
  | 0, _, _, _, h => h
  | j + 1, A, q, hj, h => by
    have hr : runA A (j + 1) = if aS A 1 = 0 then runA (cycA A) j else A := rfl
    rw [hr]
    split
    · rename_i h1
      obtain ⟨g1, g2⟩ := cycA_ix q h1 (by omega)
      exact k2_run j g1 (by omega) (k2_cyc q h1 (by omega) h)
    · exact h
theorem runA_c : ∀ (n : Nat) {A : Sx}, IA A → aS A 0 + n ≤ 500 → aS A 0 ≤ aS (runA A n) 0 ∧ aS (runA A n) 0 ≤ aS A 0 + n ∧ (aS (runA A n) 1 = 0 → aS (runA A n) 0 = aS A 0 + n)
  | 0, _, _, _ => ⟨Nat.le_refl _, Nat.le_refl _, fun _ => rfl⟩
  | n + 1, A, q, h => by
    have hr : runA A (n + 1) = if aS A 1 = 0 then runA (cycA A) n else A := rfl
    rw [hr]
    split
    · rename_i h1
      obtain ⟨g1, g2⟩ := cycA_ia q h1 (by omega)
      obtain ⟨k1, k2, k3⟩ := runA_c n g1 (by omega)
      exact ⟨by omega, by omega, fun z => by have := k3 z; omega⟩
    · rename_i h1
      exact ⟨Nat.le_refl _, Nat.le_add_right _ _, fun z => absurd z h1⟩
end KEEP
/-! the class of one state in memory -/
/-- the state's own facts -/
def AI (A : Sx) : Prop := IY A ∧ (aS A 0 = 0 → Z0 A) ∧ aS A 0 ≤ 500
def JC (b z : Nat) (A : Sx) (μ : Mm) : Prop := FR b z A μ ∧ (∃ G ar s, HR b z A (fun _ => 0) G ar s μ) ∧ AI A
section JCS
variable {b z : Nat} {A A' B : Sx} {μ μ1 μ2 : Mm}
theorem AI.ib (h : AI A) : IB A := h.1.1.1.1.1
theorem AI.n9 (h : AI A) : aS A 9 ≤ 16 := by have := h.ib.2.1.1; have := h.ib.1.2.1; omega
theorem AI.n10 (h : AI A) : aS A 10 ≤ 8 := by have := h.1.1.1.1.2.1; have := h.ib.1.1; omega
theorem AI.n14 (h : AI A) : aS A 14 ≤ 2000 := by have := h.1.1.1.2.2; have := h.2.2; omega
theorem AI.n15 (h : AI A) : aS A 15 ≤ 64 := h.ib.1.2.2.2.2.1
theorem AI.n8 (h : AI A) : aS A 8 ≤ 24 := h.ib.1.2.2.2.1.2
theorem AI.s1 (h : AI A) : aS A 1 ≤ 1 := h.ib.2.1.2.2.2.2.2.2.1.1
theorem AI.s2 (h : AI A) : aS A 2 ≤ 1 := h.ib.2.1.2.2.2.2.2.2.1.2.1
theorem AI.s3 (h : AI A) : aS A 3 ≤ 1 := h.ib.2.1.2.2.2.2.2.2.1.2.2
theorem AI.s12 (h : AI A) : aS A 12 ≤ 1 := h.1.1.1.1.2.2.2.1
theorem AI.t4 (h : AI A) : (aT A).length ≤ 4 := h.1.1.1.1.2.2.1.1
theorem AI.z14 (h : AI A) : aS A 0 = 0 → aS A 9 = 0 ∧ aS A 10 = 0 ∧ aS A 14 = 0 := fun q => by
  obtain ⟨cf, ⟨s0, s1, s2, s3, s4, s5, s6, s9, s10, s11, s12, s14, s7⟩, -⟩ := h.2.1 q
  exact ⟨s9, s10, s14⟩
theorem AI.a2 (h : AI A) : ∀ k, k < 24 → aN A 2 k ≤ 1 := h.ib.2.1.2.2.2.2.1
theorem AI.a5 (h : AI A) : ∀ k, k < 16 → aN A 5 k ≤ 1 := h.ib.2.1.2.2.2.2.2.1
theorem AI.a6 (h : AI A) : ∀ k, k < 16 → 1 ≤ aN A 6 k ∧ aN A 6 k ≤ 30 := h.ib.2.1.2.2.2.1
theorem AI.pt (h : AI A) : PT A := h.ib.2.2.2.1
theorem AI.pl (h : AI A) : PL A := h.ib.2.2.2.2.2.2.2.2.2.2.1
theorem AI.r24 (h : AI A) : ∀ r, r < 8 → aN A 1 r < 24 := fun r hr => by have := h.pt.ret hr; have := h.n8; omega
theorem AI.s7 (h : AI A) : aS A 7 ≤ 24 := by have := h.pt.nf; have := h.n8; omega
theorem AI.eo (h : AI A) : ∀ k, k < aS A 9 → (aB A k).1 0 < aS A 15 := fun k hk => (h.ib.2.2.2.2.2.1 k hk).1
theorem AI.es (h : AI A) : ∀ k, k < aS A 9 → (aB A k).1 10 < 200 := fun k hk => by
  rcases (h.ib.2.2.2.2.2.2.1 k hk).1 with q | q | q | q | q <;> omega
theorem AI.z0 (h : Z0 B) : AI B := by
  have s0 : aS B 0 = 0 := h.2.1.1
  exact ⟨z0_iy h, fun _ => h, by omega⟩
theorem JC.kb (h : JC b z A μ) : mK μ b = 111 := h.1.1.1
theorem JC.sN {N : Nat} (h : JC b z A μ) : JC b z A (sN μ N) := h
theorem JC.bump {N : Nat} (h : JC b z A μ) : JC b z A (bump μ N) := h
theorem JC.nf (h : JC b z A μ) (w : WF μ) (g : NF μ μ1) : JC b z A μ1 := by
  obtain ⟨f, ⟨G, ar, s, q⟩, a⟩ := h
  exact ⟨f.nf w g, ⟨G, ar, s, q.nf f.1 w g⟩, a⟩
end JCS
