/-! the pair: the class and the model of one state in one memory
-/
/-- the state's own facts -/
def AI (A : Sx) : Prop := IY A ∧ HI A ∧ (aS A 0 = 0 → Z0 A) ∧ aS A 0 ≤ 500
def OC (b : Nat) (μ : Mm) : Prop := mK μ (b + 84) = 63 ∧ mL μ (b + 84) = 1 ∧ mK μ (b + 85) = 64 ∧ mL μ (b + 85) = 1
/-- the model's state A, the class's state A' -/
def P2 (b z : Nat) (A A' : Sx) (μ : Mm) : Prop := FR b z A' μ ∧ (∃ G ar s, HR b z A' (fun _ => 0) G ar s μ) ∧ (∃ ρ, RM b A ρ μ) ∧ OC b μ ∧ z < b
def JV (b z : Nat) (A : Sx) (μ : Mm) : Prop := P2 b z A A μ ∧ AI A
section PAIR
variable {b z : Nat} {A A' : Sx} {μ μ1 μ2 : Mm} {e sl : Nat}
theorem AI.ib (h : AI A) : IB A := h.1.1.1.1.1
theorem AI.n9 (h : AI A) : aS A 9 ≤ 16 := by have := h.ib.2.1.1; have := h.ib.1.2.1; omega
theorem AI.n10 (h : AI A) : aS A 10 ≤ 8 := by have := h.1.1.1.1.2.1; have := h.ib.1.1; omega
theorem AI.n14 (h : AI A) : aS A 14 ≤ 2000 := by have := h.1.1.1.2.2; have := h.2.2.2; omega
theorem AI.n15 (h : AI A) : aS A 15 ≤ 64 := h.ib.1.2.2.2.2.1
theorem AI.n8 (h : AI A) : aS A 8 ≤ 24 := h.ib.1.2.2.2.1.2
theorem AI.s1 (h : AI A) : aS A 1 ≤ 1 := h.ib.2.1.2.2.2.2.2.2.1.1
theorem AI.s2 (h : AI A) : aS A 2 ≤ 1 := h.ib.2.1.2.2.2.2.2.2.1.2.1
theorem AI.s3 (h : AI A) : aS A 3 ≤ 1 := h.ib.2.1.2.2.2.2.2.2.1.2.2
theorem AI.s12 (h : AI A) : aS A 12 ≤ 1 := h.1.1.1.1.2.2.2.1
theorem AI.t4 (h : AI A) : (aT A).length ≤ 4 := h.1.1.1.1.2.2.1.1
theorem AI.z14 (h : AI A) : aS A 0 = 0 → aS A 9 = 0 ∧ aS A 10 = 0 ∧ aS A 14 = 0 := fun q => by
  obtain ⟨cf, ⟨s0, s1, s2, s3, s4, s5, s6, s9, s10, s11, s12, s14, s7⟩, -⟩ := h.2.2.1 q
  exact ⟨s9, s10, s14⟩
theorem SM.nk (h : SM b μ) {o : Nat} (h1 : 30 ≤ o) (h2 : o < 84) : clK (mK μ (b + o)) = false := by
  by_cases r1 : 46 ≤ o ∧ o < 62
  · rw [(h.row r1).1]; rfl
  · by_cases r2 : 63 ≤ o ∧ o < 71
    · rw [(h.lrow r2).1]; rfl
    · unfold SM at h
      have : o = 30 ∨ o = 31 ∨ o = 32 ∨ o = 33 ∨ o = 34 ∨ o = 35 ∨ o = 36 ∨ o = 37 ∨ o = 38 ∨ o = 39 ∨ o = 40 ∨ o = 41 ∨ o = 42 ∨ o = 43 ∨ o = 44 ∨ o = 45 ∨ o = 62 ∨ o = 71 ∨ o = 72 ∨ o = 73 ∨ o = 74 ∨ o = 75 ∨ o = 76 ∨ o = 77 ∨ o = 78 ∨ o = 79 ∨ o = 80 ∨ o = 81 ∨ o = 82 ∨ o = 83 := by omega
      rcases this with rfl | rfl | rfl | rfl | rfl | rfl | rfl | rfl | rfl | rfl | rfl | rfl | rfl | rfl | rfl | rfl | rfl | rfl | rfl | rfl | rfl | rfl | rfl | rfl | rfl | rfl | rfl | rfl | rfl | rfl <;> simp only [h] <;> rfl
/-- the class goes on -/
theorem P2.cl {G : Nat → Nat → Nat} {ar : Nat → Nat} {s : Nat} (h : P2 b z A A μ) (w : WF μ) (n9 : aS A 9 ≤ 16) (n10 : aS A 10 ≤ 8) (f : FR b z A' μ1) (g : HR b z A' (fun _ => 0) G ar s μ1) (k : CK e sl μ μ1) : P2 b z A A' μ1 := by
  obtain ⟨-, -, ⟨ρ, hr⟩, oc, hz⟩ := h
  obtain ⟨k1, k2, k3, k4, k5, k6⟩ := k
  have lt : ∀ a, mK μ a ≠ 0 → a < mN μ := fun a q => Nat.lt_of_not_le fun q2 => q (w a q2)
  have l85 : b + 85 < mN μ := lt _ (by rw [oc.2.2.1]; decide)
  refine ⟨f, ⟨G, ar, s, g⟩, ⟨ρ, hr.fr n9 n10 fun a ha => ?_⟩, ?_, hz⟩
  · have h9 : a < mN μ ∧ clK (mK μ a) = false := by
      rcases ha with ⟨q1, q2⟩ | q
      · refine ⟨by omega, ?_⟩
        have := hr.1.nk (o := a - b) (by omega) (by omega)
        rwa [show b + (a - b) = a by omega] at this
      · exact ⟨lt a (by rw [q]; decide), by rw [q]; rfl⟩
    obtain ⟨x1, x2⟩ := k5 a h9.1
    obtain ⟨y1, y2, y3⟩ := k6 a h9.1 h9.2
    exact ⟨x1, x2, y1, y2⟩
  · obtain ⟨x1, x2⟩ := k5 (b + 84) (by omega)
    obtain ⟨y1, y2⟩ := k5 (b + 85) (by omega)
    exact ⟨x1.trans oc.1, x2.trans oc.2.1, y1.trans oc.2.2.1, y2.trans oc.2.2.2⟩
/-- what law writes, the heap's size: nothing of the pair -/
theorem P2.sJ {a k : Nat} {v : Int64} (h : P2 b z A A' μ) : P2 b z A A' (sJ μ a k v) := h
theorem P2.sN {N : Nat} (h : P2 b z A A' μ) : P2 b z A A' (sN μ N) := h
theorem fx_cl {κ : Nat} (h : clK κ = false) : fxK κ = false ∧ hpK κ = false := by
  unfold clK at h
  exact ⟨(Bool.or_eq_false_iff.mp h).2, (Bool.or_eq_false_iff.mp h).1⟩
/-- the model goes on -/
theorem P2.mo {ρ' : Nat → Nat} (h : P2 b z A A' μ) (w : WF μ) (r : RM b A' ρ' μ1) (g : ML b e μ μ1) : P2 b z A' A' μ1 ∧ mJ μ1 (b + 84) = mJ μ (b + 84) ∧ mJ μ1 (b + 85) = mJ μ (b + 85) := by
  obtain ⟨f, ⟨G, ar, s, hh⟩, ⟨ρ, hr⟩, oc, hz⟩ := h
  obtain ⟨g1, g2, g3, g4, g5⟩ := g
  have lt : ∀ a, mK μ a ≠ 0 → a < mN μ := fun a q => Nat.lt_of_not_le fun q2 => q (w a q2)
  have l85 : b + 85 < mN μ := lt _ (by rw [oc.2.2.1]; decide)
  have out : ∀ a, fxK (mK μ a) = true ∨ hpK (mK μ a) = true → a < mN μ ∧ (a < b + 30 ∨ b + 84 ≤ a) := fun a q => by
    have q0 : mK μ a ≠ 0 := fun e => by rw [e] at q; exact absurd q (by decide)
    refine ⟨lt a q0, ?_⟩
    by_cases q1 : a < b + 30
    · exact Or.inl q1
    · by_cases q2 : b + 84 ≤ a
      · exact Or.inr q2
      · have := hr.1.nk (o := a - b) (by omega) (by omega)
        rw [show b + (a - b) = a by omega] at this
        obtain ⟨y1, y2⟩ := fx_cl this
        rcases q with q | q
        · rw [y1] at q; cases q
        · rw [y2] at q; cases q
  have x84 := g5 (b + 84) (by omega) (Or.inr (by omega))
  have x85 := g5 (b + 85) (by omega) (Or.inr (by omega))
  have lo30 : ∀ i, lo i < 30 := fun i => by
    unfold lo
    rcases i with _ | _ | _ | _ | i
    · decide
    · decide
    · decide
    · decide
    · show (0 : Nat) < 30
      decide
  refine ⟨⟨f.same (fun a q => ?_) (fun i _ => ?_) (fun k _ => ?_) ?_ ?_, ⟨G, ar, s, hh.same (fun a q => ?_) (fun i _ => ?_) ?_⟩, ⟨ρ', r⟩, ⟨x84.1.trans oc.1, x84.2.1.trans oc.2.1, x85.1.trans oc.2.2.1, x85.2.1.trans oc.2.2.2⟩, hz⟩, x84.2.2.2.2, x85.2.2.2.2⟩
  · obtain ⟨o1, o2⟩ := out a (Or.inl q)
    obtain ⟨y1, y2, y3, y4, y5⟩ := g5 a o1 o2
    exact ⟨y1, y2, fun k _ => by rw [y3], fun _ => y4⟩
  · rw [(g5 (b + lo i) (by have := lo30 i; omega) (Or.inl (by have := lo30 i; omega))).2.2.1]
  · rw [(g5 (b + 20) (by omega) (Or.inl (by omega))).2.2.2.1]
  · obtain ⟨y1, y2, y3, y4, y5⟩ := g5 0 (by omega) (Or.inl (by omega))
    exact ⟨y4, y1⟩
  · obtain ⟨y1, y2, y3, y4, y5⟩ := g5 z (by omega) (Or.inl (by omega))
    exact ⟨y1, y2⟩
  · obtain ⟨o1, o2⟩ := out a (Or.inr q)
    obtain ⟨y1, y2, y3, y4, y5⟩ := g5 a o1 o2
    exact ⟨y1, y2, y3, y4⟩
  · rw [(g5 (b + lo i) (by have := lo30 i; omega) (Or.inl (by have := lo30 i; omega))).2.2.2.1]
  · rw [(g5 (b + 20) (by omega) (Or.inl (by omega))).2.2.2.1]
end PAIR
