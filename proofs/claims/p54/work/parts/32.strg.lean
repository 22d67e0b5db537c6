/-! texts of the law, what charAt answers -/
def TxG (G : Gt) (bs : List Int32) (n q q2 : Nat) : Prop := va_O "java/lang/String" q (FREE G) G.1 G.1.heap ∧ va_OF "java/lang/String" "coder" "B" (.int 0) q (FREE G) G.1 G.1.heap ∧ va_OF "java/lang/String" "value" "[B" (.ref q2) q (FREE G) G.1 G.1.heap ∧ va_T .byte q2 n (fun j => .int (bs.getD j 0)) (FREE G) G.1 G.1.heap
section TXG
variable {l : Launch} {G : Gt} {Y : MD} {μ : Mm} {bs : List Int32} {n q q2 : Nat} {i : Int32}
theorem sg_isLatin1 (hG : Gok l G) (ht : TxG G bs n q q2) : ZX l G mJ0_isLatin1_aae02 0 [(0, .ref q)] [] μ (.inl (some (.int 1))) μ := by
  refine zx_gets hG hG.2.2.2.2.1.2.1 w_s1 dJ0_isLatin1_aae02_0 ?_
  refine zx_if_eq_f (tgt := 17) dJ0_isLatin1_aae02_3 (by decide) (by decide) ?_
  refine zx_aload_n dJ0_isLatin1_aae02_6 rfl (q := 0) rfl ?_
  refine zx_getOF hG ht.2.1 w_s4 dJ0_isLatin1_aae02_7 ?_
  refine zx_if_ne_f (tgt := 17) dJ0_isLatin1_aae02_10 (by decide) (by decide) ?_
  refine zx_iconst (v := 1) dJ0_isLatin1_aae02_13 (by decide) ?_
  refine zx_goto (tgt := 18) dJ0_isLatin1_aae02_14 (by decide) ?_
  exact zx_zret dJ0_isLatin1_aae02_18 rfl (by decide)
theorem sg_charAt1 (hG : Gok l G) (ht : TxG G bs n q q2) (hn : n < 100000) (hb : ∀ j, zc (bs.getD j 0 &&& 255) = bs.getD j 0) (hi : vp_in i n) : ZX l G mJ1_charAt_3b067 0 [(0, .ref q2), (1, .int i)] [] μ (.inl (some (.int (bs.getD i.toNatClampNeg 0)))) μ := by
  have hi0 : ¬ i < 0 := fun z => hi (Or.inl z)
  have hi1 : i < nI n := by
    have h1 : ¬ (n ≤ i.toNatClampNeg) := fun z => hi (Or.inr z)
    have h2 : i.toInt < n := by
      unfold Int32.toNatClampNeg at h1
      omega
    rw [Int32.lt_iff_toInt_lt, nI_toInt (by omega)]
    exact h2
  refine zx_iload_n dJ1_charAt_3b067_0 rfl (q := 1) rfl ?_
  refine zx_aload_n dJ1_charAt_3b067_1 rfl (q := 0) rfl ?_
  refine zx_tlen (v := nI n) ht.2.2.2 rfl dJ1_charAt_3b067_2 ?_
  refine zx_callS (As := [.int i, .int (nI n)]) hG mf_J0_checkIndex_df160 cs_s9 ⟨by decide, by decide⟩ rfl rfl (Nat.le_of_ble_eq_true rfl) (s_checkIndex hG hi0 hi1) (Nat.le_of_ble_eq_true rfl) dJ1_charAt_3b067_3 ?_
  refine zx_aload_n dJ1_charAt_3b067_6 rfl (q := 0) rfl ?_
  refine zx_iload_n dJ1_charAt_3b067_7 rfl (q := 1) rfl ?_
  refine zx_tb (v := .int (bs.getD i.toNatClampNeg 0)) ht.2.2.2 hi rfl dJ1_charAt_3b067_8 ?_
  refine zx_sipush (v := 255) dJ1_charAt_3b067_9 (by decide) ?_
  refine zx_iand dJ1_charAt_3b067_12 ?_
  refine zx_i2c dJ1_charAt_3b067_13 ?_
  rw [hb]
  exact zx_zretC dJ1_charAt_3b067_14 rfl (by have h := hb i.toNatClampNeg; rw [← h, zc_zc])
theorem sg_charAt (hG : Gok l G) (ht : TxG G bs n q q2) (hn : n < 100000) (hb : ∀ j, zc (bs.getD j 0 &&& 255) = bs.getD j 0) (hi : vp_in i n) : ZX l G mJ0_charAt_5068e 0 [(0, .ref q), (1, .int i)] [] μ (.inl (some (.int (bs.getD i.toNatClampNeg 0)))) μ := by
  refine zx_aload_n dJ0_charAt_5068e_0 rfl (q := 0) rfl ?_
  refine zx_callVO (As := []) hG mf_J0_isLatin1_aae02 co_492 ht.1 ⟨by decide, by decide⟩ rfl rfl (Nat.le_of_ble_eq_true rfl) (sg_isLatin1 hG ht) (Nat.le_of_ble_eq_true rfl) dJ0_charAt_5068e_1 ?_
  refine zx_if_eq_f (tgt := 16) dJ0_charAt_5068e_4 (by decide) (by decide) ?_
  refine zx_aload_n dJ0_charAt_5068e_7 rfl (q := 0) rfl ?_
  refine zx_getOF hG ht.2.2.1 w_s3 dJ0_charAt_5068e_8 ?_
  refine zx_iload_n dJ0_charAt_5068e_11 rfl (q := 1) rfl ?_
  refine zx_callS (As := [.ref q2, .int i]) hG mf_J1_charAt_3b067 cs_s495 ⟨by decide, by decide⟩ rfl rfl (Nat.le_of_ble_eq_true rfl) (sg_charAt1 hG ht hn hb hi) (Nat.le_of_ble_eq_true rfl) dJ0_charAt_5068e_12 ?_
  exact zx_zretC dJ0_charAt_5068e_15 rfl (by have h := hb i.toNatClampNeg; rw [← h, zc_zc])
end TXG
/-- the letters of the law's two texts -/
def tx5 : List Int32 := [100, 98, 113, 105, 104]
def tx4 : List Int32 := [107, 112, 108, 113]
theorem tx_zc {bs : List Int32} {n : Nat} (hl : bs.length = n) (h : ∀ j, j < n → zc (bs.getD j 0 &&& 255) = bs.getD j 0) : ∀ j, zc (bs.getD j 0 &&& 255) = bs.getD j 0 := fun j => by
  rcases Nat.lt_or_ge j n with q | q
  · exact h j q
  · have e : bs.getD j 0 = 0 := by
      rw [List.getD_eq_getElem?_getD, List.getElem?_eq_none (by omega)]
      rfl
    rw [e]
    decide
theorem tx5_zc : ∀ j, zc (tx5.getD j 0 &&& 255) = tx5.getD j 0 := tx_zc (n := 5) rfl (by decide)
theorem tx4_zc : ∀ j, zc (tx4.getD j 0 &&& 255) = tx4.getD j 0 := tx_zc (n := 4) rfl (by decide)
theorem co_L237 : CVo RL 237 mJ0_charAt_5068e := CVo.of 1437 932 933 (by decide +kernel) (by decide +kernel) (by decide +kernel) rfl
theorem lc_L_15 : Cond.constant RL 15 (-2000000002) ∈ lw_tbl := List.mem_of_getElem? (i := 694) (by decide +kernel)
theorem lc_L_18 : Cond.constant RL 18 (-2000000003) ∈ lw_tbl := List.mem_of_getElem? (i := 695) (by decide +kernel)
theorem lc_L_82 : Cond.constant RL 82 (-2000000001) ∈ lw_tbl := List.mem_of_getElem? (i := 1295) (by decide +kernel)
theorem lc_L_88 : Cond.constant RL 88 (-2000000005) ∈ lw_tbl := List.mem_of_getElem? (i := 1319) (by decide +kernel)
theorem lc_L_131 : Cond.constantFloat RL 131 3212836864 ∈ lw_tbl := List.mem_of_getElem? (i := 1384) (by decide +kernel)
theorem lc_L_143 : Cond.constantLong RL 143 31 ∈ lw_tbl := List.mem_of_getElem? (i := 1393) (by decide +kernel)
theorem lc_L_148 : Cond.constantLong RL 148 961 ∈ lw_tbl := List.mem_of_getElem? (i := 1394) (by decide +kernel)
theorem lc_L_153 : Cond.constantLong RL 153 7 ∈ lw_tbl := List.mem_of_getElem? (i := 1395) (by decide +kernel)
theorem lc_L_158 : Cond.constantLong RL 158 11 ∈ lw_tbl := List.mem_of_getElem? (i := 1401) (by decide +kernel)
theorem lc_L_163 : Cond.constantLong RL 163 13 ∈ lw_tbl := List.mem_of_getElem? (i := 1406) (by decide +kernel)
theorem lc_L_168 : Cond.constantLong RL 168 17 ∈ lw_tbl := List.mem_of_getElem? (i := 1407) (by decide +kernel)
theorem lc_L_173 : Cond.constantLong RL 173 19 ∈ lw_tbl := List.mem_of_getElem? (i := 1412) (by decide +kernel)
theorem lc_L_178 : Cond.constantLong RL 178 23 ∈ lw_tbl := List.mem_of_getElem? (i := 1417) (by decide +kernel)
theorem lc_L_183 : Cond.constantLong RL 183 29 ∈ lw_tbl := List.mem_of_getElem? (i := 1422) (by decide +kernel)
theorem lc_L_189 : Cond.constantLong RL 189 37 ∈ lw_tbl := List.mem_of_getElem? (i := 1428) (by decide +kernel)
theorem lc_L_197 : Cond.constantLong RL 197 41 ∈ lw_tbl := List.mem_of_getElem? (i := 1429) (by decide +kernel)
theorem lc_L_199 : Cond.constantLong RL 199 43 ∈ lw_tbl := List.mem_of_getElem? (i := 1430) (by decide +kernel)
theorem lc_L_204 : Cond.constantLong RL 204 3 ∈ lw_tbl := List.mem_of_getElem? (i := 1431) (by decide +kernel)
theorem lc_L_206 : Cond.constantLong RL 206 5 ∈ lw_tbl := List.mem_of_getElem? (i := 1432) (by decide +kernel)
theorem lc_L_219 : Cond.constant RL 219 100000000 ∈ lw_tbl := List.mem_of_getElem? (i := 1438) (by decide +kernel)
theorem lc_L_257 : Cond.constant RL 257 (-2000000000) ∈ lw_tbl := List.mem_of_getElem? (i := 1440) (by decide +kernel)
