/-! before the first cycle -/
section CZ0
variable {A B : Sx}
theorem cnt_id (f : Nat → Nat) (c i : Nat) : ∀ n, (∀ k, k < n → f k = k + c) → cnt f i n = if c ≤ i ∧ i < n + c then 1 else 0
  | 0, _ => by
    show 0 = _
    rw [if_neg (by omega)]
  | n + 1, h => by
    show (if f n = i then 1 else 0) + cnt f i n = _
    rw [cnt_id f c i n (fun k hk => h k (by omega)), h n (by omega)]
    by_cases e : n + c = i
    · rw [if_pos e, if_neg (by omega), if_pos (by omega)]
    · rw [if_neg e]
      by_cases l : c ≤ i ∧ i < n + c
      · rw [if_pos l, if_pos (by omega)]
      · rw [if_neg l, if_neg (by omega)]
/-- nothing has been done yet -/
def Z0 (A : Sx) : Prop :=
  CF A ∧ (aS A 0 = 0 ∧ aS A 1 = 0 ∧ aS A 2 ≤ 1 ∧ aS A 3 = 0 ∧ aS A 4 = 0 ∧ aS A 5 = 0 ∧ aS A 6 = 0 ∧ aS A 9 = 0 ∧ aS A 10 = 0 ∧ aS A 11 = 0 ∧ aS A 12 = 0 ∧ aS A 14 = 0 ∧ aS A 7 + 8 = aS A 8) ∧ (∀ r, r < 8 → aN A 0 r = r ∧ aN A 1 r = r ∧ aN A 2 r = 1) ∧ (∀ k, k < 24 → aN A 2 k ≤ 1) ∧ (∀ j, j < aS A 7 → aN A 3 j = j + 8) ∧ (∀ k, k < 16 → aN A 4 k = 1) ∧ (∀ k, k < 8 → aV A 3 k = -1) ∧ (∀ k, k < 16 → 1 ≤ aN A 6 k ∧ aN A 6 k ≤ 30) ∧ (∀ k, k < 16 → aN A 5 k = 0) ∧ aT A = [] ∧ aQ A = [] ∧ (∀ r, r < 8 → aV A 1 r = aV A 6 r) ∧ ∀ a, a < 64 → aV A 2 a = aV A 7 a
theorem z0_iy (h : Z0 A) : IY A := by
  obtain ⟨cf, ⟨s0, s1, s2, s3, s4, s5, s6, s9, s10, s11, s12, s14, s7⟩, n0, n2, n3, n4, v3, n6, n5, t, q, v1, v2⟩ := h
  have pt : PT A := fun i => by
    have e1 : cnt (aN A 1) i 8 = if 0 ≤ i ∧ i < 8 + 0 then 1 else 0 := cnt_id _ 0 i 8 (fun k hk => (n0 k hk).2.1)
    have e3 := cnt_id (aN A 3) 8 i (aS A 7) n3
    rw [s9, e1, e3]
    show (if 0 ≤ i ∧ i < 8 + 0 then 1 else 0) + 0 + (if 8 ≤ i ∧ i < aS A 7 + 8 then 1 else 0) = _
    by_cases l8 : i < 8
    · rw [if_pos (by omega), if_neg (by omega), if_pos (by omega)]
    · rw [if_neg (by omega)]
      by_cases l : i < aS A 8
      · rw [if_pos (by omega), if_pos l]
      · rw [if_neg (by omega), if_neg l]
  have pl : PL A := by
    unfold PL
    rw [s14, s5, s3, s4]
    exact ⟨fun r hr => by rw [(n0 r hr).2.1]; exact v1 r hr, v2, rfl, rfl, rfl⟩
  have ib : IB A := by
    unfold IB IBp
    rw [s9]
    refine ⟨cf, ⟨by omega, fun k hk => by rw [n4 k hk]; decide, fun k hk => Or.inl (v3 k hk), n6, n2, fun k hk => by rw [n5 k hk]; decide, ⟨by omega, s2, by omega⟩, by omega, by omega⟩, ?_, pt, ⟨fun r hr => ?_, fun k hk => by omega⟩, fun k hk => by omega, fun k hk => by omega, fun k hk => by omega, fun k hk => by omega, ⟨fun j k _ hk => by omega, fun k hk => by omega, by omega⟩, pl, fun e he => by omega, fun r hr => by rw [(n0 r hr).2.1]; exact (n0 r hr).2.2, fun k hk => by omega, fun k hk => by omega⟩
    · unfold QK
      rw [q]
      exact ⟨Nat.zero_le _, fun z hz => (by cases hz), List.nodup_nil⟩
    · rw [(n0 r hr).1, s9]
      show r = aN A 1 r
      rw [(n0 r hr).2.1]
  have iff' : IF A := by
    unfold IF
    rw [s10, s12, s9, s11, s1, t]
    refine ⟨Nat.zero_le _, ⟨Nat.zero_le _, fun p hp => (by cases hp)⟩, by decide, fun j hj => by omega, fun i j _ hj => by omega, fun k j _ hj => by omega, fun hh => by omega, fun j hj => by omega, fun _ => ?_, fun _ => by decide, fun k hk => by omega, fun j hj => by omega, fun hh => by omega⟩
    rw [if_pos rfl]
    show 0 = prd A 0
    unfold prd
    rw [if_pos rfl, s5]
  refine ⟨⟨⟨⟨ib, iff'⟩, by omega, by omega⟩, ⟨fun k hk => by omega, fun z hz => by rw [q] at hz; cases hz⟩, fun k hk => by omega, ?_, by omega⟩, fun k hk => by omega⟩
  unfold QB
  rw [s9]
  exact Nat.zero_le _
/-! what is set keeps it -/
theorem z0_S {i n : Nat} (h : Z0 A) (hi : (i = 16 ∧ 1 ≤ n ∧ n ≤ 4) ∨ (i = 17 ∧ 4 ≤ n ∧ n ≤ 16) ∨ (i = 18 ∧ 2 ≤ n ∧ n ≤ 8) ∨ (i = 2 ∧ n ≤ 1)) : Z0 (zS A i n) := by
  obtain ⟨cf, ss, rest⟩ := h
  have e : ∀ j, j ≠ i → aS (zS A i n) j = aS A j := fun j hj => zS_ne _ _ hj
  have ei : aS (zS A i n) i = n := zS_at _ _ _
  have e7 := e 7 (by omega)
  refine ⟨?_, ?_, ?_⟩
  · unfold CF at cf ⊢
    obtain ⟨c1, c2, c3, c4, c5, c6, c7⟩ := cf
    rw [e 8 (by omega), e 15 (by omega)]
    refine ⟨?_, ?_, ?_, c4, c5, c6, c7⟩
    · by_cases y : i = 16
      · rw [← y, ei]; omega
      · rw [e 16 (by omega)]; exact c1
    · by_cases y : i = 17
      · rw [← y, ei]; omega
      · rw [e 17 (by omega)]; exact c2
    · by_cases y : i = 18
      · rw [← y, ei]; omega
      · rw [e 18 (by omega)]; exact c3
  · rw [e 0 (by omega), e 1 (by omega), e 3 (by omega), e 4 (by omega), e 5 (by omega), e 6 (by omega), e 9 (by omega), e 10 (by omega), e 11 (by omega), e 12 (by omega), e 14 (by omega), e7, e 8 (by omega)]
    refine ⟨ss.1, ss.2.1, ?_, ss.2.2.2⟩
    by_cases y : i = 2
    · rw [← y, ei]; omega
    · rw [e 2 (by omega)]; exact ss.2.2.1
  · rw [e7]
    exact rest
theorem z0_time {l n : Nat} (h : Z0 A) (hn : 1 ≤ n ∧ n ≤ 30) : Z0 (zN A 6 l n) := by
  obtain ⟨cf, ss, n0, n2, n3, n4, v3, n6, n5, rest⟩ := h
  have e : ∀ r, r ≠ 6 → aN (zN A 6 l n) r = aN A r := fun r hr => zN_ne _ _ _ hr
  refine ⟨?_, ss, ?_, ?_, ?_, ?_, v3, fun k hk => ?_, ?_, rest⟩
  · unfold CF at cf ⊢
    rw [e 10 (by decide), e 11 (by decide), e 12 (by decide), e 13 (by decide)]
    exact cf
  · rw [e 0 (by decide), e 1 (by decide), e 2 (by decide)]; exact n0
  · rw [e 2 (by decide)]; exact n2
  · rw [e 3 (by decide)]; exact n3
  · rw [e 4 (by decide)]; exact n4
  · have : aN (zN A 6 l n) 6 k = if k = l then n else aN A 6 k := rfl
    rw [this]
    split
    · exact hn
    · exact n6 k hk
  · rw [e 5 (by decide)]; exact n5
theorem z0_reg {r : Nat} {v : Int32} (h : Z0 A) : Z0 (zV (zV A 1 r v) 6 r v) := by
  obtain ⟨cf, ss, n0, n2, n3, n4, v3, n6, n5, t, q, v1, v2⟩ := h
  have e : ∀ i, i ≠ 1 → i ≠ 6 → aV (zV (zV A 1 r v) 6 r v) i = aV A i := fun i a c => by rw [zV_ne _ _ _ c, zV_ne _ _ _ a]
  refine ⟨?_, ss, n0, n2, n3, n4, ?_, n6, n5, t, q, fun k hk => ?_, ?_⟩
  · unfold CF at cf ⊢
    rw [e 5 (by decide) (by decide), e 0 (by decide) (by decide)]
    exact cf
  · rw [e 3 (by decide) (by decide)]; exact v3
  · have e1 : aV (zV (zV A 1 r v) 6 r v) 1 k = if k = r then v else aV A 1 k := rfl
    have e6 : aV (zV (zV A 1 r v) 6 r v) 6 k = if k = r then v else aV A 6 k := rfl
    rw [e1, e6]
    split
    · rfl
    · exact v1 k hk
  · rw [e 2 (by decide) (by decide), e 7 (by decide) (by decide)]; exact v2
theorem z0_word {r : Nat} {v : Int32} (h : Z0 A) : Z0 (zV (zV A 2 r v) 7 r v) := by
  obtain ⟨cf, ss, n0, n2, n3, n4, v3, n6, n5, t, q, v1, v2⟩ := h
  have e : ∀ i, i ≠ 2 → i ≠ 7 → aV (zV (zV A 2 r v) 7 r v) i = aV A i := fun i a c => by rw [zV_ne _ _ _ c, zV_ne _ _ _ a]
  refine ⟨?_, ss, n0, n2, n3, n4, ?_, n6, n5, t, q, ?_, fun k hk => ?_⟩
  · unfold CF at cf ⊢
    rw [e 5 (by decide) (by decide), e 0 (by decide) (by decide)]
    exact cf
  · rw [e 3 (by decide) (by decide)]; exact v3
  · rw [e 1 (by decide) (by decide), e 6 (by decide) (by decide)]; exact v1
  · have e1 : aV (zV (zV A 2 r v) 7 r v) 2 k = if k = r then v else aV A 2 k := rfl
    have e6 : aV (zV (zV A 2 r v) 7 r v) 7 k = if k = r then v else aV A 7 k := rfl
    rw [e1, e6]
    split
    · rfl
    · exact v2 k hk
theorem z0_hand {x y : Int32} (h : Z0 A) (hx : x = -1 ∨ adok x = true) (hy : y = -1 ∨ adok y = true) : Z0 (zV (zV A 0 0 x) 0 1 y) := by
  obtain ⟨cf, ss, n0, n2, n3, n4, v3, n6, n5, t, q, v1, v2⟩ := h
  have e : ∀ i, i ≠ 0 → aV (zV (zV A 0 0 x) 0 1 y) i = aV A i := fun i a => by rw [zV_ne _ _ _ a, zV_ne _ _ _ a]
  refine ⟨?_, ss, n0, n2, n3, n4, ?_, n6, n5, t, q, ?_, ?_⟩
  · unfold CF at cf ⊢
    rw [e 5 (by decide)]
    obtain ⟨c1, c2, c3, c4, c5, c6, c7⟩ := cf
    refine ⟨c1, c2, c3, c4, c5, c6, fun k hk => ?_⟩
    have : k = 0 ∨ k = 1 := by omega
    rcases this with rfl | rfl
    · exact hx
    · exact hy
  · rw [e 3 (by decide)]; exact v3
  · rw [e 1 (by decide), e 6 (by decide)]; exact v1
  · rw [e 2 (by decide), e 7 (by decide)]; exact v2
theorem z0_inner {n : Nat} (h : Z0 A) (hn : 10 ≤ n ∧ n ≤ 24) : Z0 (zS (zS (zNr A 3 (fun j => j + 8)) 7 (n - 8)) 8 n) := by
  obtain ⟨cf, ss, n0, n2, n3, n4, v3, n6, n5, rest⟩ := h
  obtain ⟨E, hE⟩ : ∃ E, E = zS (zS (zNr A 3 (fun j => j + 8)) 7 (n - 8)) 8 n := ⟨_, rfl⟩
  have e : ∀ i, i ≠ 7 → i ≠ 8 → aS E i = aS A i := fun i a c => by rw [hE, zS_ne _ _ c, zS_ne _ _ a]; rfl
  have e7 : aS E 7 = n - 8 := by rw [hE, zS_ne _ _ (by decide), zS_at]
  have e8 : aS E 8 = n := by rw [hE, zS_at]
  have en : ∀ r, r ≠ 3 → aN E r = aN A r := fun r hr => by rw [hE]; exact up1_ne _ _ hr
  have e3 : ∀ j, aN E 3 j = j + 8 := fun j => by rw [hE]; rfl
  have ev : aV E = aV A := by rw [hE]; rfl
  have et : aT E = aT A := by rw [hE]; rfl
  have eq : aQ E = aQ A := by rw [hE]; rfl
  rw [← hE]
  refine ⟨?_, ?_, ?_, ?_, fun j _ => e3 j, ?_, by rw [ev]; exact v3, ?_, ?_, by rw [et, eq, ev]; exact rest⟩
  · unfold CF at cf ⊢
    rw [e 16 (by decide) (by decide), e 17 (by decide) (by decide), e 18 (by decide) (by decide), e8, e 15 (by decide) (by decide), en 10 (by decide), en 11 (by decide), en 12 (by decide), en 13 (by decide), ev]
    exact ⟨cf.1, cf.2.1, cf.2.2.1, hn, cf.2.2.2.2⟩
  · rw [e 0 (by decide) (by decide), e 1 (by decide) (by decide), e 2 (by decide) (by decide), e 3 (by decide) (by decide), e 4 (by decide) (by decide), e 5 (by decide) (by decide), e 6 (by decide) (by decide), e 9 (by decide) (by decide), e 10 (by decide) (by decide), e 11 (by decide) (by decide), e 12 (by decide) (by decide), e 14 (by decide) (by decide), e7, e8]
    exact ⟨ss.1, ss.2.1, ss.2.2.1, ss.2.2.2.1, ss.2.2.2.2.1, ss.2.2.2.2.2.1, ss.2.2.2.2.2.2.1, ss.2.2.2.2.2.2.2.1, ss.2.2.2.2.2.2.2.2.1, ss.2.2.2.2.2.2.2.2.2.1, ss.2.2.2.2.2.2.2.2.2.2.1, ss.2.2.2.2.2.2.2.2.2.2.2.1, by omega⟩
  · rw [en 0 (by decide), en 1 (by decide), en 2 (by decide)]; exact n0
  · rw [en 2 (by decide)]; exact n2
  · rw [en 4 (by decide)]; exact n4
  · rw [en 6 (by decide)]; exact n6
  · rw [en 5 (by decide)]; exact n5
/-- one more instruction -/
def addP (A : Sx) (c d a b : Nat) (v : Int32) : Sx := zS (zV (zN (zN (zN (zN A 10 (aS A 15) c) 11 (aS A 15) d) 12 (aS A 15) a) 13 (aS A 15) b) 5 (aS A 15) v) 15 (aS A 15 + 1)
theorem z0_add {c d a b : Nat} {v : Int32} (h : Z0 A) (h15 : aS A 15 < 64) (hc : c ≤ 21) (hd : d < 8) (ha : a < 8) (hb : b < 8) (hv : 12 ≤ c → c ≤ 15 → adok v = true) : Z0 (addP A c d a b v) := by
  obtain ⟨cf, ss, n0, n2, n3, n4, v3, n6, n5, t, q, v1, v2⟩ := h
  obtain ⟨E, hE⟩ : ∃ E, E = addP A c d a b v := ⟨_, rfl⟩
  have es : ∀ i, i ≠ 15 → aS E i = aS A i := fun i hi => by rw [hE]; exact zS_ne _ _ hi
  have es15 : aS E 15 = aS A 15 + 1 := by rw [hE]; exact zS_at _ _ _
  have en : ∀ r, r < 10 → aN E r = aN A r := fun r hr => by
    rw [hE]
    show aN (zN (zN (zN (zN A 10 _ c) 11 _ d) 12 _ a) 13 _ b) r = _
    rw [zN_ne _ _ _ (by omega), zN_ne _ _ _ (by omega), zN_ne _ _ _ (by omega), zN_ne _ _ _ (by omega)]
  have ev : ∀ r, r ≠ 5 → aV E r = aV A r := fun r hr => by
    rw [hE]
    exact zV_ne _ _ _ hr
  have e10 : ∀ k, aN E 10 k = if k = aS A 15 then c else aN A 10 k := fun k => by rw [hE]; rfl
  have e11 : ∀ k, aN E 11 k = if k = aS A 15 then d else aN A 11 k := fun k => by rw [hE]; rfl
  have e12 : ∀ k, aN E 12 k = if k = aS A 15 then a else aN A 12 k := fun k => by rw [hE]; rfl
  have e13 : ∀ k, aN E 13 k = if k = aS A 15 then b else aN A 13 k := fun k => by rw [hE]; rfl
  have e5 : ∀ k, aV E 5 k = if k = aS A 15 then v else aV A 5 k := fun k => by rw [hE]; rfl
  have et : aT E = aT A := by rw [hE]; rfl
  have eq : aQ E = aQ A := by rw [hE]; rfl
  rw [← hE]
  refine ⟨?_, ?_, ?_, ?_, ?_, ?_, ?_, ?_, ?_, by rw [et]; exact t, by rw [eq]; exact q, ?_, ?_⟩
  · unfold CF at cf ⊢
    obtain ⟨c1, c2, c3, c4, c5, c6, c7⟩ := cf
    rw [es 16 (by decide), es 17 (by decide), es 18 (by decide), es 8 (by decide), es15, ev 0 (by decide)]
    refine ⟨c1, c2, c3, c4, by omega, fun p hp => ?_, c7⟩
    rw [e10, e11, e12, e13, e5]
    by_cases y : p = aS A 15
    · rw [if_pos y, if_pos y, if_pos y, if_pos y, if_pos y]
      exact ⟨hc, hd, ha, hb, hv⟩
    · rw [if_neg y, if_neg y, if_neg y, if_neg y, if_neg y]
      exact c6 p (by omega)
  · rw [es 0 (by decide), es 1 (by decide), es 2 (by decide), es 3 (by decide), es 4 (by decide), es 5 (by decide), es 6 (by decide), es 9 (by decide), es 10 (by decide), es 11 (by decide), es 12 (by decide), es 14 (by decide), es 7 (by decide), es 8 (by decide)]
    exact ss
  · rw [en 0 (by decide), en 1 (by decide), en 2 (by decide)]; exact n0
  · rw [en 2 (by decide)]; exact n2
  · rw [es 7 (by decide), en 3 (by decide)]; exact n3
  · rw [en 4 (by decide)]; exact n4
  · rw [ev 3 (by decide)]; exact v3
  · rw [en 6 (by decide)]; exact n6
  · rw [en 5 (by decide)]; exact n5
  · rw [ev 1 (by decide), ev 6 (by decide)]; exact v1
  · rw [ev 2 (by decide), ev 7 (by decide)]; exact v2
end CZ0
