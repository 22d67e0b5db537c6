/-! the class: a word is set -/
section CWD
variable {b z e sl : Nat} {m m' : Nat → Nat} {A A' B C D : Sx} {P : Pm} {G : Nat → Nat → Nat} {ar : Nat → Nat} {s : Nat} {μ μ' μ2 : Mm} {S : Nat → Nat → Bool}
theorem zV_comm {i j k l : Nat} {v w : Int32} (h : i ≠ j) : zV (zV A i k v) j l w = zV (zV A j l w) i k v := by
  refine Prod.ext rfl (Prod.ext rfl (Prod.ext (funext fun r => ?_) rfl))
  show up2 (up2 A.2.2.1 i k v) j l w r = up2 (up2 A.2.2.1 j l w) i k v r
  simp only [up2_if]
  by_cases e1 : r = j
  · subst e1
    rw [if_pos rfl, if_neg (fun y => h y.symm), if_neg (fun y => h y.symm), if_pos rfl]
  · rw [if_neg e1]
    by_cases e2 : r = i
    · subst e2
      rw [if_pos rfl, if_pos rfl, if_neg h]
    · rw [if_neg e2, if_neg e2, if_neg e1]
/-- the plain machine's word, the core's word -/
theorem c_putWord {a : Nat} {v : Int32} (h : FR b z A μ) (hh : HR b z A (fun _ => 0) G ar s μ) (h14 : aS A 14 = 0) (ha : a < 64) : FR b z (zV (zV A 2 a v) 7 a v) (sI (sI μ (b + 8) a v) (b + 27) a v) ∧ HR b z (zV (zV A 2 a v) 7 a v) (fun _ => 0) G ar s (sI (sI μ (b + 8) a v) (b + 27) a v) ∧ CK 0 0 μ (sI (sI μ (b + 8) a v) (b + 27) a v) := by
  rw [zV_comm (by decide)]
  obtain ⟨μ1, m1⟩ : ∃ μ1, μ1 = sI μ (b + 8) a v := ⟨_, rfl⟩
  have hx : FRx b z A (plA A 0) μ := by
    have := h.x
    rw [h14] at this
    exact this
  have g1 : CH b sPl μ μ1 := by rw [m1]; exact CH.put (by rfl)
  have sfx : ∀ o k, sPl o k = true → o < 30 ∧ o ≠ 24 := fun o k zz => by
    have := of_decide_eq_true zz
    omega
  obtain ⟨p1, p2, p3, p4, p5⟩ := hx.2.2.2.1
  have q1 : PQm b (plA (zV A 7 a v) 0) μ1 := by
    refine ⟨fun r hr => ?_, fun k hk => ?_, ?_, ?_, ?_⟩
    · rw [m1, mI_row _ _ (by omega)]; exact p1 r hr
    · rw [m1, mI_up, up1_if]
      show _ = up1 (aV A 7) a v k
      rw [up1_if, p2 k hk]
      rfl
    · rw [m1, mI_row _ _ (by omega)]; exact p3
    · rw [m1, mI_row _ _ (by omega)]; exact p4
    · rw [m1, mI_row _ _ (by omega)]; exact p5
  obtain ⟨f1, f2, f3, f4, f5, f6⟩ := hx.pl g1 q1
  have F1 : FR b z (zV A 7 a v) μ1 := by
    refine FRx.r (P := plA (zV A 7 a v) 0) ⟨f1, f2.cg (fun _ _ => rfl) (fun _ _ _ _ => rfl) (fun r k hr _ => ?_), f3, f4, f5, f6⟩ ?_
    · rw [zV_ne _ _ _ (by omega)]
    · show plA (zV A 7 a v) (aS A 14) = _
      rw [h14]
  have H1 : HR b z (zV A 7 a v) (fun _ => 0) G ar s μ1 := (hh.ch h.1 g1 sfx).cg ⟨fun _ _ _ => rfl, zV_ne _ _ _ (by decide)⟩ rfl rfl rfl rfl (fun _ _ => rfl) (fun _ _ => rfl) rfl (fun _ _ => rfl) (zV_ne _ _ _ (by decide)) (fun _ _ _ => rfl)
  have c1 := g1.ck h.1 sfx
  have T := F1.2.1.putV cT_ok (q := 2) (j := a) (by omega) ha v
  rw [show (cT.2.2 2).2 + a = a from Nat.zero_add _] at T
  obtain ⟨F2, H2', c2, -⟩ := c_step (A' := zV (zV A 7 a v) 2 a v) (S := fun o _ => o == 27) F1 H1 T (CH.put rfl) (fun o k zz => by simp only [beq_iff_eq] at zz; unfold okS; omega) ⟨fun _ _ _ => rfl, zV_ne _ _ _ (by decide)⟩ (fun _ _ => rfl) rfl rfl rfl rfl (fun _ _ => rfl) (fun r hr => zV_ne _ _ _ (by omega))
  rw [← m1]
  exact ⟨F2, H2', c1.trans c2⟩
end CWD
