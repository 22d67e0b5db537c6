/-! the law's loop -/
theorem dL_law_28 : decode cL_law 28 = .ok (.iload 5, 2) := by decide +kernel
theorem dL_law_30 : decode cL_law 30 = .ok (.aload_n 0, 1) := by decide +kernel
theorem dL_law_31 : decode cL_law 31 = .ok (.arraylength, 1) := by decide +kernel
theorem dL_law_32 : decode cL_law 32 = .ok (.bipush 6, 2) := by decide +kernel
theorem dL_law_34 : decode cL_law 34 = .ok (.isub, 1) := by decide +kernel
theorem dL_law_35 : decode cL_law 35 = .ok (.if_icmp .gt 2471, 3) := by decide +kernel
theorem dL_law_38 : decode cL_law 38 = .ok (.aload_n 0, 1) := by decide +kernel
theorem dL_law_39 : decode cL_law 39 = .ok (.iload 5, 2) := by decide +kernel
theorem dL_law_41 : decode cL_law 41 = .ok (.iaload, 1) := by decide +kernel
theorem dL_law_42 : decode cL_law 42 = .ok (.bipush 63, 2) := by decide +kernel
theorem dL_law_44 : decode cL_law 44 = .ok (.iand, 1) := by decide +kernel
theorem dL_law_45 : decode cL_law 45 = .ok (.tableswitch 2455 0 50 #[219, 323, 391, 459, 515, 571, 627, 683, 751, 819, 832, 888, 901, 914, 927, 983, 1039, 1095, 1151, 1207, 1263, 1319, 1375, 1419, 1487, 1543, 1599, 1655, 1718, 1731, 1787, 1800, 1856, 1912, 1925, 1938, 1982, 1995, 2051, 2107, 2170, 2226, 2239, 2297, 2310, 2323, 2336, 2349, 2363, 2429, 2442], 219) := by decide +kernel
theorem dL_law_2500 : decode cL_law 2500 = .ok (.iinc 5 6, 3) := by decide +kernel
theorem dL_law_2503 : decode cL_law 2503 = .ok (.goto (-2475), 3) := by decide +kernel
section LAWL
variable {l : Launch} {G : Gt} {p : Program} {e : Env} {R : Room} {s : State} {m : MethodId} {args : Array Value} {below : List Frame} {meth : Method} {c : Code} {Q : State → Prop} {q0 n : Nat} {xs : Nat → Int32} {b z : Nat}
set_option maxRecDepth 100000 in
theorem law_sw (C : CW G mL_law p R s m meth c) (hG : Gok2 l G) (hX : va_X q0 n xs G.1 G.1.heap) (hq : q0 < G.1.heap.size) {i : Nat} {A : Sx} {μ : Mm} {c1 s1 : Nat} (hi : i + 6 ≤ n) (hn : n ≤ 3072) (h : JV b z A μ) (kk : ∀ A' μ', JV b z A' μ' → LJ l G mL_law p e R s m args below meth c Q 2500 (L0 b q0 i) [] μ' (c1 + PhC A') (s1 + PhS A')) {j : Nat} (hj : j < 64) : LJ l G mL_law p e R s m args below meth c Q 45 (L0 b q0 i) [.int (nI j)] μ (c1 + 4 + PhC A) (s1 + 220 + PhS A) := by
  by_cases h51 : j < 51
  · have hc : j = 0 ∨ j = 1 ∨ j = 2 ∨ j = 3 ∨ j = 4 ∨ j = 5 ∨ j = 6 ∨ j = 7 ∨ j = 8 ∨ j = 9 ∨ j = 10 ∨ j = 11 ∨ j = 12 ∨ j = 13 ∨ j = 14 ∨ j = 15 ∨ j = 16 ∨ j = 17 ∨ j = 18 ∨ j = 19 ∨ j = 20 ∨ j = 21 ∨ j = 22 ∨ j = 23 ∨ j = 24 ∨ j = 25 ∨ j = 26 ∨ j = 27 ∨ j = 28 ∨ j = 29 ∨ j = 30 ∨ j = 31 ∨ j = 32 ∨ j = 33 ∨ j = 34 ∨ j = 35 ∨ j = 36 ∨ j = 37 ∨ j = 38 ∨ j = 39 ∨ j = 40 ∨ j = 41 ∨ j = 42 ∨ j = 43 ∨ j = 44 ∨ j = 45 ∨ j = 46 ∨ j = 47 ∨ j = 48 ∨ j = 49 ∨ j = 50 := by omega
    rcases hc with rfl | rfl | rfl | rfl | rfl | rfl | rfl | rfl | rfl | rfl | rfl | rfl | rfl | rfl | rfl | rfl | rfl | rfl | rfl | rfl | rfl | rfl | rfl | rfl | rfl | rfl | rfl | rfl | rfl | rfl | rfl | rfl | rfl | rfl | rfl | rfl | rfl | rfl | rfl | rfl | rfl | rfl | rfl | rfl | rfl | rfl | rfl | rfl | rfl | rfl | rfl
    · exact lj_tsIn (off := 219) C dL_law_45 (by decide) (by decide) (by decide) (by decide) (lc_0 C hG hX hq hi hn h kk)
    · exact lj_tsIn (off := 323) C dL_law_45 (by decide) (by decide) (by decide) (by decide) (lc_1 C hG hX hq hi hn h kk)
    · exact lj_tsIn (off := 391) C dL_law_45 (by decide) (by decide) (by decide) (by decide) (lc_2 C hG hX hq hi hn h kk)
    · exact lj_tsIn (off := 459) C dL_law_45 (by decide) (by decide) (by decide) (by decide) (lc_3 C hG hX hq hi hn h kk)
    · exact lj_tsIn (off := 515) C dL_law_45 (by decide) (by decide) (by decide) (by decide) (lc_4 C hG hX hq hi hn h kk)
    · exact lj_tsIn (off := 571) C dL_law_45 (by decide) (by decide) (by decide) (by decide) (lc_5 C hG hX hq hi hn h kk)
    · exact lj_tsIn (off := 627) C dL_law_45 (by decide) (by decide) (by decide) (by decide) (lc_6 C hG hX hq hi hn h kk)
    · exact lj_tsIn (off := 683) C dL_law_45 (by decide) (by decide) (by decide) (by decide) (lc_7 C hG hX hq hi hn h kk)
    · exact lj_tsIn (off := 751) C dL_law_45 (by decide) (by decide) (by decide) (by decide) (lc_8 C hG hX hq hi hn h kk)
    · exact lj_tsIn (off := 819) C dL_law_45 (by decide) (by decide) (by decide) (by decide) (lc_9 C hG hX hq hi hn h kk)
    · exact lj_tsIn (off := 832) C dL_law_45 (by decide) (by decide) (by decide) (by decide) (lc_10 C hG hX hq hi hn h kk)
    · exact lj_tsIn (off := 888) C dL_law_45 (by decide) (by decide) (by decide) (by decide) (lc_11 C hG hX hq hi hn h kk)
    · exact lj_tsIn (off := 901) C dL_law_45 (by decide) (by decide) (by decide) (by decide) (lc_12 C hG hX hq hi hn h kk)
    · exact lj_tsIn (off := 914) C dL_law_45 (by decide) (by decide) (by decide) (by decide) (lc_13 C hG hX hq hi hn h kk)
    · exact lj_tsIn (off := 927) C dL_law_45 (by decide) (by decide) (by decide) (by decide) (lc_14 C hG hX hq hi hn h kk)
    · exact lj_tsIn (off := 983) C dL_law_45 (by decide) (by decide) (by decide) (by decide) (lc_15 C hG hX hq hi hn h kk)
    · exact lj_tsIn (off := 1039) C dL_law_45 (by decide) (by decide) (by decide) (by decide) (lc_16 C hG hX hq hi hn h kk)
    · exact lj_tsIn (off := 1095) C dL_law_45 (by decide) (by decide) (by decide) (by decide) (lc_17 C hG hX hq hi hn h kk)
    · exact lj_tsIn (off := 1151) C dL_law_45 (by decide) (by decide) (by decide) (by decide) (lc_18 C hG hX hq hi hn h kk)
    · exact lj_tsIn (off := 1207) C dL_law_45 (by decide) (by decide) (by decide) (by decide) (lc_19 C hG hX hq hi hn h kk)
    · exact lj_tsIn (off := 1263) C dL_law_45 (by decide) (by decide) (by decide) (by decide) (lc_20 C hG hX hq hi hn h kk)
    · exact lj_tsIn (off := 1319) C dL_law_45 (by decide) (by decide) (by decide) (by decide) (lc_21 C hG hX hq hi hn h kk)
    · exact lj_tsIn (off := 1375) C dL_law_45 (by decide) (by decide) (by decide) (by decide) (lc_22 C hG hX hq hi hn h kk)
    · exact lj_tsIn (off := 1419) C dL_law_45 (by decide) (by decide) (by decide) (by decide) (lc_23 C hG hX hq hi hn h kk)
    · exact lj_tsIn (off := 1487) C dL_law_45 (by decide) (by decide) (by decide) (by decide) (lc_24 C hG hX hq hi hn h kk)
    · exact lj_tsIn (off := 1543) C dL_law_45 (by decide) (by decide) (by decide) (by decide) (lc_25 C hG hX hq hi hn h kk)
    · exact lj_tsIn (off := 1599) C dL_law_45 (by decide) (by decide) (by decide) (by decide) (lc_26 C hG hX hq hi hn h kk)
    · exact lj_tsIn (off := 1655) C dL_law_45 (by decide) (by decide) (by decide) (by decide) (lc_27 C hG hX hq hi hn h kk)
    · exact lj_tsIn (off := 1718) C dL_law_45 (by decide) (by decide) (by decide) (by decide) (lc_28 C hG hX hq hi hn h kk)
    · exact lj_tsIn (off := 1731) C dL_law_45 (by decide) (by decide) (by decide) (by decide) (lc_29 C hG hX hq hi hn h kk)
    · exact lj_tsIn (off := 1787) C dL_law_45 (by decide) (by decide) (by decide) (by decide) (lc_30 C hG hX hq hi hn h kk)
    · exact lj_tsIn (off := 1800) C dL_law_45 (by decide) (by decide) (by decide) (by decide) (lc_31 C hG hX hq hi hn h kk)
    · exact lj_tsIn (off := 1856) C dL_law_45 (by decide) (by decide) (by decide) (by decide) (lc_32 C hG hX hq hi hn h kk)
    · exact lj_tsIn (off := 1912) C dL_law_45 (by decide) (by decide) (by decide) (by decide) (lc_33 C hG hX hq hi hn h kk)
    · exact lj_tsIn (off := 1925) C dL_law_45 (by decide) (by decide) (by decide) (by decide) (lc_34 C hG hX hq hi hn h kk)
    · exact lj_tsIn (off := 1938) C dL_law_45 (by decide) (by decide) (by decide) (by decide) (lc_35 C hG hX hq hi hn h kk)
    · exact lj_tsIn (off := 1982) C dL_law_45 (by decide) (by decide) (by decide) (by decide) (lc_36 C hG hX hq hi hn h kk)
    · exact lj_tsIn (off := 1995) C dL_law_45 (by decide) (by decide) (by decide) (by decide) (lc_37 C hG hX hq hi hn h kk)
    · exact lj_tsIn (off := 2051) C dL_law_45 (by decide) (by decide) (by decide) (by decide) (lc_38 C hG hX hq hi hn h kk)
    · exact lj_tsIn (off := 2107) C dL_law_45 (by decide) (by decide) (by decide) (by decide) (lc_39 C hG hX hq hi hn h kk)
    · exact lj_tsIn (off := 2170) C dL_law_45 (by decide) (by decide) (by decide) (by decide) (lc_40 C hG hX hq hi hn h kk)
    · exact lj_tsIn (off := 2226) C dL_law_45 (by decide) (by decide) (by decide) (by decide) (lc_41 C hG hX hq hi hn h kk)
    · exact lj_tsIn (off := 2239) C dL_law_45 (by decide) (by decide) (by decide) (by decide) (lc_42 C hG hX hq hi hn h kk)
    · exact lj_tsIn (off := 2297) C dL_law_45 (by decide) (by decide) (by decide) (by decide) (lc_43 C hG hX hq hi hn h kk)
    · exact lj_tsIn (off := 2310) C dL_law_45 (by decide) (by decide) (by decide) (by decide) (lc_44 C hG hX hq hi hn h kk)
    · exact lj_tsIn (off := 2323) C dL_law_45 (by decide) (by decide) (by decide) (by decide) (lc_45 C hG hX hq hi hn h kk)
    · exact lj_tsIn (off := 2336) C dL_law_45 (by decide) (by decide) (by decide) (by decide) (lc_46 C hG hX hq hi hn h kk)
    · exact lj_tsIn (off := 2349) C dL_law_45 (by decide) (by decide) (by decide) (by decide) (lc_47 C hG hX hq hi hn h kk)
    · exact lj_tsIn (off := 2363) C dL_law_45 (by decide) (by decide) (by decide) (by decide) (lc_48 C hG hX hq hi hn h kk)
    · exact lj_tsIn (off := 2429) C dL_law_45 (by decide) (by decide) (by decide) (by decide) (lc_49 C hG hX hq hi hn h kk)
    · exact lj_tsIn (off := 2442) C dL_law_45 (by decide) (by decide) (by decide) (by decide) (lc_50 C hG hX hq hi hn h kk)
  · refine lj_tsOut (tgt := 2500) C dL_law_45 (Or.inr ?_) (by decide) (lj_w (by omega) (by omega) (kk A μ h))
    rw [nI_toInt (by omega)]
    omega
theorem gt6 {i n : Nat} (hi : i ≤ 4000) (hn : n ≤ 3072) : nI n - 6 < nI i ↔ n < i + 6 := by
  have e : (nI n - 6).toInt = (n : Int) - 6 := by
    rw [Int32.toInt_sub, nI_toInt (by omega), show (6 : Int32).toInt = 6 by decide]
    exact Int.bmod_eq_of_le (by omega) (by omega)
  rw [Int32.lt_iff_toInt_lt, e, nI_toInt (by omega)]
  omega
theorem law_loop (C : CW G mL_law p R s m meth c) (hG : Gok2 l G) (hX : va_X q0 n xs G.1 G.1.heap) (hq : q0 < G.1.heap.size) (hn : n ≤ 3072) (kf : ∀ (i : Nat) (μ : Mm) (c1 s1 : Nat), LJ l G mL_law p e R s m args below meth c Q 2506 (L0 b q0 i) [] μ c1 s1) : ∀ (r i : Nat) (A : Sx) (μ : Mm), i ≤ 4000 → n ≤ i + 6 * r + 5 → JV b z A μ → LJ l G mL_law p e R s m args below meth c Q 28 (L0 b q0 i) [] μ (4 * r + PhC A) (220 * r + PhS A) := by
  have head : ∀ (i : Nat) (μ : Mm) (c1 s1 : Nat), i ≤ 4000 → (i + 6 ≤ n → LJ l G mL_law p e R s m args below meth c Q 38 (L0 b q0 i) [] μ c1 s1) → LJ l G mL_law p e R s m args below meth c Q 28 (L0 b q0 i) [] μ c1 s1 := fun i μ c1 s1 hi k => by
    refine lj_iload C dL_law_28 (q := 0) rfl ?_
    refine lj_aload_n C dL_law_30 rfl (q := 5) rfl ?_
    refine lj_slen C hX hq dL_law_31 ?_
    refine lj_bipush (v := 6) C dL_law_32 (by decide) ?_
    refine lj_isub C dL_law_34 ?_
    by_cases hx : n < i + 6
    · exact lj_icmp_gt_t (tgt := 2506) C dL_law_35 (by decide) ((gt6 hi hn).mpr hx) (kf i μ c1 s1)
    · exact lj_icmp_gt_f (tgt := 2506) C dL_law_35 (by decide) (fun q => hx ((gt6 hi hn).mp q)) (k (by omega))
  intro r
  induction r with
  | zero => exact fun i A μ hi hr h => head i μ _ _ hi fun q => by omega
  | succ r ih =>
    intro i A μ hi hr h
    refine head i μ _ _ hi fun hx => ?_
    refine lj_aload_n C dL_law_38 rfl (q := 5) rfl ?_
    refine lj_iload C dL_law_39 (q := 0) rfl ?_
    refine lj_sld C hX hq (?_ : vp_in (nI i) n) dL_law_41 ?_
    · intro q
      rcases q with q | q
      · exact Int32.not_lt.mpr (show (0 : Int32) ≤ nI i from nI_pos' (by omega)) q
      · rw [clN (by omega)] at q
        omega
    refine lj_bipush (v := 63) C dL_law_42 (by decide) ?_
    refine lj_iand C dL_law_44 ?_
    obtain ⟨j, hj, ej⟩ := pk_andE (xs (nI i).toNatClampNeg) (m := 63) 6 (by decide)
    rw [ej]
    refine lj_w (by omega) (by omega) (law_sw (c1 := 4 * r) (s1 := 220 * r) C hG hX hq hx hn h (fun A' μ' h' => ?_) (j := j) (by omega))
    refine lj_iinc (v := nI (i + 6)) (L' := L0 b q0 (i + 6)) C dL_law_2500 (q := 0) rfl (by rw [show Int32.ofInt 6 = nI 6 by decide, nI_add]) (by decide) rfl ?_
    exact lj_goto (tgt := 28) C dL_law_2503 (by decide) (ih (i + 6) A' μ' (by omega) (by omega) h')
end LAWL
