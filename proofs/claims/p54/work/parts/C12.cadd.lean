/-! THE CLASS: an end is told -/
section CAE
variable {b z e sl : Nat} {m m' : Nat → Nat} {A A' B : Sx} {G : Nat → Nat → Nat} {ar : Nat → Nat} {s : Nat} {μ μ' μ2 : Mm} {S : Nat → Nat → Bool}
/-- all cells that were there stay as they are -/
def NF (μ μ' : Mm) : Prop := (WF μ → WF μ') ∧ mN μ ≤ mN μ' ∧ ∀ a, a < mN μ → mK μ' a = mK μ a ∧ mL μ' a = mL μ a ∧ mI μ' a = mI μ a ∧ mR μ' a = mR μ a ∧ mJ μ' a = mJ μ a
theorem NF.refl0 : NF μ μ := ⟨fun w => w, Nat.le_refl _, fun _ _ => ⟨rfl, rfl, rfl, rfl, rfl⟩⟩
theorem NF.trans (h : NF μ μ') (g : NF μ' μ2) : NF μ μ2 := by
  obtain ⟨h1, h2, h3⟩ := h
  obtain ⟨g1, g2, g3⟩ := g
  refine ⟨fun w => g1 (h1 w), by omega, fun a ha => ?_⟩
  obtain ⟨x1, x2, x3, x4, x5⟩ := h3 a ha
  obtain ⟨y1, y2, y3, y4, y5⟩ := g3 a (by omega)
  exact ⟨y1.trans x1, y2.trans x2, y3.trans x3, y4.trans x4, y5.trans x5⟩
theorem NF.new {κ l sl : Nat} : NF μ (nw μ κ l sl) := by
  refine ⟨fun w a ha => ?_, Nat.le_succ _, fun a ha => ?_⟩
  · have h1 : mN μ + 1 ≤ a := ha
    rw [nwK _ _ _ _ (by omega)]
    exact w a (by omega)
  · have : a ≠ mN μ := by omega
    exact ⟨nwK _ _ _ _ this, nwL _ _ _ _ this, nwI _ _ _ _ this, nwR _ _ _ _ this, nwJ _ _ _ _ this⟩
theorem NF.putI {N a k : Nat} {v : Int32} (h : NF μ μ') (ha : mN μ ≤ a) : NF μ (sI μ' a k v) := by
  obtain ⟨h1, h2, h3⟩ := h
  refine ⟨fun w => h1 w, h2, fun x hx => ?_⟩
  obtain ⟨x1, x2, x3, x4, x5⟩ := h3 x hx
  exact ⟨x1, x2, by rw [mI_row _ _ (by omega)]; exact x3, x4, x5⟩
theorem NF.putR {a k : Nat} {v : Option Nat} (h : NF μ μ') (ha : mN μ ≤ a) : NF μ (sR μ' a k v) := by
  obtain ⟨h1, h2, h3⟩ := h
  refine ⟨fun w => h1 w, h2, fun x hx => ?_⟩
  obtain ⟨x1, x2, x3, x4, x5⟩ := h3 x hx
  exact ⟨x1, x2, x3, by rw [mR_row _ _ (by omega)]; exact x4, x5⟩
theorem NF.ck (g : NF μ μ') (hN : mN μ' ≤ mN μ + e) (hS : mS μ' ≤ mS μ + sl) : CK e sl μ μ' := ⟨g.1, g.2.1, hN, hS, fun a ha => ⟨(g.2.2 a ha).1, (g.2.2 a ha).2.1⟩, fun a ha _ => ⟨(g.2.2 a ha).2.2.1, (g.2.2 a ha).2.2.2.1, (g.2.2 a ha).2.2.2.2⟩⟩
theorem SC.nf (h : SC b μ) (w : WF μ) (g : NF μ μ') : SC b μ' := by
  have lt := fun (o : Nat) (h1 : o < 30) (h2 : o ≠ 24) => w.lt (fxK_0 (h.fk h1 h2))
  exact h.cg2 (fun o h1 h2 => ⟨(g.2.2 _ (lt o h1 h2)).1, (g.2.2 _ (lt o h1 h2)).2.1⟩) (fun o ho => (g.2.2 _ (lt o (by omega) (by omega))).2.2.2.1) (fun k _ => by rw [(g.2.2 _ (lt 20 (by decide) (by decide))).2.2.2.1])
theorem FR.nf (h : FR b z A μ) (w : WF μ) (g : NF μ μ') : FR b z A μ' := by
  have lt := fun (a : Nat) (ha : fxK (mK μ a) = true) => w.lt (fxK_0 ha)
  have l0 : 0 < mN μ := by
    have := lt _ (h.1.fk (o := 1) (by decide) (by decide))
    omega
  have lz : z < mN μ := w.lt (by rw [h.2.2.1.2.2.2.2.2.1]; decide)
  refine h.same (fun a ha => ⟨(g.2.2 a (lt a ha)).1, (g.2.2 a (lt a ha)).2.1, fun k _ => by rw [(g.2.2 a (lt a ha)).2.2.1], fun _ => (g.2.2 a (lt a ha)).2.2.2.1⟩) (fun i hi => by rw [(g.2.2 _ (lt _ (h.1.fk (lo_lt hi).1 (lo_lt hi).2.1))).2.2.1]) (fun k _ => by rw [(g.2.2 _ (lt _ (h.1.fk (o := 20) (by decide) (by decide)))).2.2.2.1]) ⟨(g.2.2 0 l0).2.2.2.1, (g.2.2 0 l0).1⟩ ⟨(g.2.2 z lz).1, (g.2.2 z lz).2.1⟩
theorem NF.hp (w : WF μ) (g : NF μ μ') : ∀ a, hpK (mK μ a) = true → mK μ' a = mK μ a ∧ mL μ' a = mL μ a ∧ mI μ' a = mI μ a ∧ mR μ' a = mR μ a := fun a ha => by
  obtain ⟨x1, x2, x3, x4, x5⟩ := g.2.2 a (w.lt (hpK_0 ha))
  exact ⟨x1, x2, x3, x4⟩
theorem HR.nf (h : HR b z A m G ar s μ) (hC : SC b μ) (w : WF μ) (g : NF μ μ') : HR b z A m G ar s μ' := by
  have lt := fun (o : Nat) (h1 : o < 30) (h2 : o ≠ 24) => w.lt (fxK_0 (hC.fk h1 h2))
  exact h.same (g.hp w) (fun i hi => by rw [(g.2.2 _ (lt _ (lo_lt hi).1 (lo_lt hi).2.1)).2.2.2.1]) (by rw [(g.2.2 _ (lt 20 (by decide) (by decide))).2.2.2.1])
theorem tell_f (A : Sx) (kd pl f r g ee : Nat) (bg : Int32) : (∀ i, i ≠ 14 → aS (tell A kd pl f r g ee bg) i = aS A i) ∧ aS (tell A kd pl f r g ee bg) 14 = aS A 14 + 1 ∧ (∀ i, i < 14 → aN (tell A kd pl f r g ee bg) i = aN A i) ∧ (∀ i, i < 8 → aV (tell A kd pl f r g ee bg) i = aV A i) ∧ aB (tell A kd pl f r g ee bg) = aB A ∧ aL (tell A kd pl f r g ee bg) = aL A ∧ aT (tell A kd pl f r g ee bg) = aT A ∧ aQ (tell A kd pl f r g ee bg) = aQ A ∧
    aN (tell A kd pl f r g ee bg) 14 = up1 (aN A 14) (aS A 14) kd ∧ aN (tell A kd pl f r g ee bg) 15 = up1 (aN A 15) (aS A 14) pl ∧ aN (tell A kd pl f r g ee bg) 20 = up1 (aN A 20) (aS A 14) f ∧ aN (tell A kd pl f r g ee bg) 21 = up1 (aN A 21) (aS A 14) r ∧ aN (tell A kd pl f r g ee bg) 22 = up1 (aN A 22) (aS A 14) ee ∧ aN (tell A kd pl f r g ee bg) 23 = up1 (aN A 23) (aS A 14) g ∧ aV (tell A kd pl f r g ee bg) 8 = up1 (aV A 8) (aS A 14) bg := by
  unfold tell
  refine ⟨fun i hi => zS_ne _ _ hi, zS_at _ _ _, fun i hi => ?_, fun i hi => ?_, rfl, rfl, rfl, rfl, rfl, rfl, rfl, rfl, rfl, rfl, rfl⟩
  · rw [(zS_ _ _ _).2.1, (zV_ _ _ _ _).2.1, zN_ne _ _ _ (by omega), zN_ne _ _ _ (by omega), zN_ne _ _ _ (by omega), zN_ne _ _ _ (by omega), zN_ne _ _ _ (by omega), zN_ne _ _ _ (by omega)]
  · rw [(zS_ _ _ _).2.2.1, zV_ne _ _ _ (by omega)]
    rfl
/-- the list of ends has one more -/
theorem HR.addE {kd pl f r g ee N q e' : Nat} {bg : Int32} (h : HR b z A m G ar s μ) (hC : SC b μ) (w : WF μ) (gg : LF (b + 26) e' μ μ') (he : (e' = ar 3 ∧ e' ≠ z) ∨ e' = mN μ) (l1 : mR μ' (b + 26) 1 = some e') (l2 : mK μ' e' = 26) (l3 : aS A 14 + 1 ≤ mL μ' e') (l4 : mL μ' e' < 50000) (l5 : ∀ i, i < aS A 14 → mR μ' e' i = mR μ (ar 3) i) (l6 : mR μ' e' (aS A 14) = some N)
    (kN : mK μ N = 103) (iN : mI μ N 0 = nI kd ∧ mI μ N 1 = nI pl ∧ mI μ N 2 = nI kd ∧ mI μ N 3 = nI pl) (rN : mR μ N 4 = some q) (kq : mK μ q = 51) (lq : mL μ q = 5) (q1 : kd ≠ 9 → mI μ q 0 = nI f ∧ mI μ q 1 = nI r ∧ mI μ q 2 = bg ∧ mI μ q 3 = nI ee ∧ mI μ q 4 = nI g) (q2 : kd = 9 → ∀ k, k < 5 → mI μ q k = -1)
    (hm : ∀ k, k < aS A 9 → (m' k = m k ∨ (m' k = 1 ∧ m k = 0)) ∧ (m' k ≠ 1 → q ≠ G 1 k + 1)) (hl : ∀ j, j < aS A 10 → q ≠ G 2 j + 1) : HR b z (tell A kd pl f r g ee bg) m' (up1 (up1 G 3 (up1 (G 3) (aS A 14) N)) 4 (up1 (G 4) (aS A 14) q)) (up1 ar 3 e') s μ' := by
  obtain ⟨t1, t2, t3, t4, t5, t6, t7, t8, t9, t10, t11, t12, t13, t14, t15⟩ := tell_f A kd pl f r g ee bg
  have hs := gg.ne (i := 3) hC (by decide) w (he.elim (fun c => Or.inl (by rw [c.1]; exact (h.1 3 (by decide)).2.1)) Or.inr)
  have ho := h.lists hC (i := 3) (by decide) w gg he
  have k20 := hC.fk (o := 20) (by decide) (by decide)
  have lar : ∀ i, i < 4 → ar i < mN μ := fun i hi => w.lt (by rw [(h.1 i hi).2.1]; decide)
  obtain ⟨h1, h2, h3, h4, h5, h6, h7, h8, h9⟩ := h
  have hP : SamP A (tell A kd pl f r g ee bg) := ⟨fun i a c => t3 i (by omega), t4 5 (by decide)⟩
  have n20 : mR μ' (b + 20) 3 = mR μ (b + 20) 3 := by
    obtain ⟨g1, g2, g3, g4, -⟩ := gg
    rw [g4 _ (w.lt (fxK_0 k20)) (by omega) (fun q => ?_)]
    rcases he with c | c
    · rw [q, c.1, (h1 3 (by decide)).2.1] at k20; cases k20
    · have := w.lt (fxK_0 k20)
      omega
  have G0 : ∀ i, i ≠ 3 → i ≠ 4 → up1 (up1 G 3 (up1 (G 3) (aS A 14) N)) 4 (up1 (G 4) (aS A 14) q) i = G i := fun i a c => by rw [up1_ne _ _ c, up1_ne _ _ a]
  have G3 : up1 (up1 G 3 (up1 (G 3) (aS A 14) N)) 4 (up1 (G 4) (aS A 14) q) 3 = up1 (G 3) (aS A 14) N := by rw [up1_ne _ _ (by decide), up1_eq]
  have G4 : up1 (up1 G 3 (up1 (G 3) (aS A 14) N)) 4 (up1 (G 4) (aS A 14) q) 4 = up1 (G 4) (aS A 14) q := up1_eq _ _ _
  refine ⟨fun i hi => ?_, fun i j hi hj hij => ?_, fun p hp => ?_, fun k hk => ?_, fun j hj => ?_, ?_, fun e2 he2 => ?_, by rw [n20]; exact h8, by rw [t7]; exact h9.same hs⟩
  · by_cases e3 : i = 3
    · subst e3
      have n3 : nLs (tell A kd pl f r g ee bg) 3 = aS A 14 + 1 := t2
      rw [n3, G3, up1_eq]
      refine ⟨l1, l2, l3, l4, fun q0 => by omega, fun k hk => ?_⟩
      by_cases ek : k = aS A 14
      · rw [ek, up1_eq]
        exact l6
      · rw [up1_ne _ _ ek, l5 k (by omega)]
        exact (h1 3 (by decide)).2.2.2.2.2 k (show k < aS A 14 by omega)
    · have en : nLs (tell A kd pl f r g ee bg) i = nLs A i := by
        have : i = 0 ∨ i = 1 ∨ i = 2 := by omega
        rcases this with rfl | rfl | rfl
        · exact t1 15 (by decide)
        · exact t1 9 (by decide)
        · exact t1 10 (by decide)
      rw [en, G0 i e3 (by omega), up1_ne _ _ e3]
      exact ho i hi e3
  · by_cases ei : i = 3
    · subst ei
      rw [up1_eq, up1_ne _ _ (fun c => hij c.symm)]
      intro c
      rcases he with d | d
      · exfalso
        exact d.2 (by rw [d.1]; exact h2 3 j (by decide) hj hij (by rw [← d.1, c]))
      · have := lar j hj
        omega
    · rw [up1_ne _ _ ei]
      by_cases ej : j = 3
      · subst ej
        rw [up1_eq]
        intro c
        rcases he with d | d
        · exact h2 i 3 hi (by decide) hij (by rw [← d.1, c])
        · have := lar i hi
          omega
      · rw [up1_ne _ _ ej]
        exact h2 i j hi hj hij
  · rw [t1 15 (by decide)] at hp
    rw [G0 0 (by decide) (by decide)]
    have := (h3 p hp).same hs
    unfold INc at this ⊢
    rw [hP.1 10 (by omega) (by omega), hP.1 11 (by omega) (by omega), hP.1 12 (by omega) (by omega), hP.1 13 (by omega) (by omega), hP.2]
    exact this
  · rw [t1 9 (by decide)] at hk
    rw [G0 0 (by decide) (by decide), G0 1 (by decide) (by decide), t5]
    have := (h4 k hk).same hs
    obtain ⟨c1, c2, c3, c4, c5, c6, c7⟩ := this
    refine ⟨c1, c2, c3, c4, c5, c6, ?_⟩
    rcases (hm k hk).1 with d | d
    · rw [d]
      exact c7.cg hP (fun _ => rfl)
    · refine c7.cg hP (fun q => absurd d.2 q)
  · rw [t1 10 (by decide)] at hj
    rw [G0 0 (by decide) (by decide), G0 2 (by decide) (by decide), t6]
    exact ((h5 j hj).same hs).cg hP (fun _ => rfl)
  · unfold ORc at h6 ⊢
    rw [t1 9 (by decide), t1 10 (by decide), t2, G0 1 (by decide) (by decide), G0 2 (by decide) (by decide), G4]
    refine ⟨h6.1, h6.2.1, h6.2.2.1, fun e3 k a c d => ?_, fun e3 j a c => ?_⟩
    · by_cases ee : e3 = aS A 14
      · rw [ee, up1_eq]
        exact (hm k c).2 d
      · rw [up1_ne _ _ ee]
        refine h6.2.2.2.1 e3 k (by omega) c (fun q => ?_)
        rcases (hm k c).1 with x | x
        · exact d (x.trans q)
        · omega
    · by_cases ee : e3 = aS A 14
      · rw [ee, up1_eq]
        exact hl j c
      · rw [up1_ne _ _ ee]
        exact h6.2.2.2.2 e3 j (by omega) c
  · rw [t2] at he2
    rw [G3, G4]
    unfold ENc
    rw [t9, t10, t11, t12, t13, t14, t15]
    by_cases ee : e2 = aS A 14
    · subst ee
      simp only [up1_eq]
      obtain ⟨d1, d2, d3, d4⟩ := hs N (by rw [kN]; rfl)
      obtain ⟨f1, f2, f3, f4⟩ := hs q (by rw [kq]; rfl)
      rw [d1, d3, d4, f1, f2, f3]
      exact ⟨kN, iN.1, iN.2.1, iN.2.2.1, iN.2.2.2, rN, kq, lq, q1, q2⟩
    · simp only [up1_ne _ _ ee]
      exact (h7 e2 (by omega)).same hs
end CAE
