/-! a step of the pair: an operation of the class that may throw, and the model's -/
def PhC (A : Sx) : Nat := if aS A 1 = 0 then 40 * (500 - aS A 0) else 0
def PhS (A : Sx) : Nat := if aS A 1 = 0 then 13100 * (500 - aS A 0) else 0
def rOf {α : Type} (ces : List String) (k : Nat) (v : α) : α ⊕ String := if k = 0 then .inl v else .inr (ces.getD (k - 1) "")
def OPB (b z : Nat) (ces : List String) (f : Mm → Option ((Int32 ⊕ String) × Mm)) (g : Mm → Option (Int32 × Mm)) (A : Sx) (μ : Mm) : Prop :=
  ∃ (k : Nat) (v : Int32) (A' : Sx) (μ1 : Mm) (dc ds ec es : Nat), k ≤ ces.length ∧ f μ = some (rOf ces k v, μ1) ∧ P2 b z A A' μ1 ∧ mN μ1 ≤ mN μ + dc ∧ mS μ1 ≤ mS μ + ds ∧ AI A' ∧ dc + ec + PhC A' ≤ 4 + PhC A ∧ ds + es + PhS A' ≤ 220 + PhS A ∧
    ∀ μ2, P2 b z A A' μ2 → WF μ2 → b + 86 ≤ mN μ2 → ∃ (w : Int32) (μ3 : Mm), g μ2 = some (w, μ3) ∧ (k = 0 → w = v) ∧ mI μ3 (b + 30) 54 = nI k ∧ P2 b z A' A' μ3 ∧ mJ μ3 (b + 84) = mJ μ2 (b + 84) ∧ mN μ3 ≤ mN μ2 + ec ∧ mS μ3 ≤ mS μ2 + es
section OPS
variable {b z : Nat} {A A' : Sx} {μ μ1 μ2 : Mm} {ρ : Nat → Nat} {f : Mm → Option ((Int32 ⊕ String) × Mm)} {g : Mm → Option (Int32 × Mm)}
theorem OPB.of {ces : List String} {k : Nat} {v : Int32} {G : Nat → Nat → Nat} {ar : Nat → Nat} {s e sl e2 : Nat} (h : JV b z A μ) (w : WF μ) (hk : k ≤ ces.length) (hf : f μ = some (rOf ces k v, μ1)) (fr : FR b z A' μ1) (hr : HR b z A' (fun _ => 0) G ar s μ1) (ck : CK e sl μ μ1) (ai : AI A') (c1 : e + e2 + PhC A' ≤ 4 + PhC A) (c2 : sl + 5 * e2 + PhS A' ≤ 220 + PhS A)
    (hg : ∀ (μ2 : Mm) (ρ : Nat → Nat), RM b A ρ μ2 → WF μ2 → b + 86 ≤ mN μ2 → ∃ (w : Int32) (ρ' : Nat → Nat) (μ3 : Mm), g μ2 = some (w, μ3) ∧ (k = 0 → w = v) ∧ RM b A' ρ' μ3 ∧ mI μ3 (b + 30) 54 = nI k ∧ ML b e2 μ2 μ3) : OPB b z ces f g A μ := by
  refine ⟨k, v, A', μ1, e, sl, e2, 5 * e2, hk, hf, h.1.cl w h.2.n9 h.2.n10 fr hr ck, ck.2.2.1, ck.2.2.2.1, ai, c1, c2, fun μ2 p2 w2 n2 => ?_⟩
  obtain ⟨ρ, r⟩ := p2.2.2.1
  obtain ⟨w9, ρ', μ3, g1, g2, g3, g4, g5⟩ := hg μ2 ρ r w2 n2
  obtain ⟨m1, m2, m3⟩ := p2.mo w2 g3 g5
  exact ⟨w9, μ3, g1, g2, g4, m1, m2, g5.2.2.1, g5.2.2.2.1⟩
theorem k01_le (p : Bool) : k01 p ≤ 1 := by unfold k01; split <;> decide
/-- one that only asks -/
theorem OPB.get {E : String} {p : Bool} {v : Int32} (h : JV b z A μ) (w : WF μ) (hf : f μ = some (gA (k01 p) v E μ))
    (hg : ∀ (μ2 : Mm) (ρ : Nat → Nat), RM b A ρ μ2 → WF μ2 → b + 86 ≤ mN μ2 → ∃ (w : Int32) (ρ' : Nat → Nat) (μ3 : Mm), g μ2 = some (w, μ3) ∧ (k01 p = 0 → w = v) ∧ RM b A ρ' μ3 ∧ mI μ3 (b + 30) 54 = nI (k01 p) ∧ ML b 1 μ2 μ3) : OPB b z [E] f g A μ := by
  obtain ⟨⟨fr, ⟨G, ar, s, hr⟩, hm, oc, hz⟩, ai⟩ := id h
  by_cases hp : k01 p = 0
  · refine OPB.of (k := k01 p) (v := v) (μ1 := μ) (G := G) (ar := ar) (s := s) (e := 0) (sl := 0) (e2 := 1) h w (k01_le p) ?_ fr hr CK.refl0 ai (by omega) (by omega) hg
    rw [hf]
    unfold gA rOf
    rw [if_pos hp, if_pos hp]
  · refine OPB.of (k := k01 p) (v := v) (μ1 := bump μ 6) (G := G) (ar := ar) (s := s) (e := 1) (sl := 6) (e2 := 1) h w (k01_le p) ?_ fr.bump hr.bump bump_ck ai (by omega) (by omega) hg
    rw [hf]
    unfold gA rOf
    rw [if_neg hp, if_neg hp]
    have : k01 p = 1 := by have := k01_le p; omega
    rw [this]
    rfl
theorem mget {k : Nat} {V d : Int32} (r : RM b A ρ μ2) (ai : AI A) (e : g μ2 = some (if k = 0 then V else d, sI μ2 (b + 30) 54 (nI k))) : ∃ (w : Int32) (ρ' : Nat → Nat) (μ3 : Mm), g μ2 = some (w, μ3) ∧ (k = 0 → w = V) ∧ RM b A ρ' μ3 ∧ mI μ3 (b + 30) 54 = nI k ∧ ML b 1 μ2 μ3 := by
  refine ⟨_, ρ, _, e, fun q => if_pos q, m_54 r ai.n9 ai.n10, mI_at _ _ _ _, ?_⟩
  obtain ⟨a1, a2, a3, a4, a5⟩ := (ML.put (b := b) (μ := μ2) (k := 54) (v := nI k))
  exact ⟨a1, a2, by omega, by omega, a5⟩
theorem rOf_in {α : Type} {ces : List String} {k : Nat} {v : α} {E : String} (hk : k ≤ ces.length) (h : rOf ces k v = .inr E) : E ∈ ces := by
  unfold rOf at h
  split at h
  · cases h
  · rename_i h0
    have h1 : k - 1 < ces.length := by omega
    have h2 : ces.getD (k - 1) "" = ces[k - 1] := by simp [List.getD, h1]
    rw [h2] at h
    cases h
    exact List.getElem_mem h1
theorem rOf_k {α : Type} {ces : List String} {k j : Nat} {v : α} {E : String} (hk : k ≤ ces.length) (nd : ces.Nodup) (h : rOf ces k v = .inr E) (hj : ces[j]? = some E) : k = j + 1 := by
  unfold rOf at h
  split at h
  · cases h
  · rename_i h0
    have h1 : k - 1 < ces.length := by omega
    have h2 : ces.getD (k - 1) "" = ces[k - 1] := by simp [List.getD, h1]
    rw [h2] at h
    obtain ⟨hj1, hj2⟩ := List.getElem?_eq_some_iff.mp hj
    have h3 : ces[k - 1] = ces[j] := by
      cases h
      exact hj2.symm
    have := (List.getElem_inj nd).mp h3
    omega
theorem rOf_v {α : Type} {ces : List String} {k : Nat} {v v' : α} (h : rOf ces k v = .inl v') : k = 0 ∧ v' = v := by
  unfold rOf at h
  split at h
  · cases h
    exact ⟨by assumption, rfl⟩
  · cases h
/-- the potential doesn't look at what a setter writes -/
theorem PhC.eq (h0 : aS A' 0 = aS A 0) (h1 : aS A' 1 = aS A 1) : PhC A' = PhC A := by unfold PhC; rw [h0, h1]
theorem PhS.eq (h0 : aS A' 0 = aS A 0) (h1 : aS A' 1 = aS A 1) : PhS A' = PhS A := by unfold PhS; rw [h0, h1]
theorem oc_r {k : Nat} {v : Int32} (hk : k ≤ 2) : oc k v = rOf [exIAE, exISE] k v := by
  have : k = 0 ∨ k = 1 ∨ k = 2 := by omega
  rcases this with rfl | rfl | rfl <;> rfl
theorem kSet_le (A : Sx) (p : Bool) : kSet A p ≤ 2 := by
  unfold kSet
  split
  · decide
  · split <;> decide
theorem kSet_0 {p : Bool} (h : kSet A p = 0) : p = true ∧ aS A 0 = 0 := by
  unfold kSet at h
  split at h
  · cases h
  · rename_i hp
    split at h
    · rename_i h0
      exact ⟨Bool.not_eq_false _ ▸ (by simpa using hp), h0⟩
    · cases h
end OPS
