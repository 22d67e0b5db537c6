/-! the cases of the law, 14 to 21 -/
theorem dL_law_972 : decode cL_law 972 = .ok (.aload_n 1, 1) := by decide +kernel
theorem dL_law_973 : decode cL_law 973 = .ok (.aload_n 0, 1) := by decide +kernel
theorem dL_law_974 : decode cL_law 974 = .ok (.iload 5, 2) := by decide +kernel
theorem dL_law_976 : decode cL_law 976 = .ok (.iconst 1, 1) := by decide +kernel
theorem dL_law_977 : decode cL_law 977 = .ok (.iadd, 1) := by decide +kernel
theorem dL_law_978 : decode cL_law 978 = .ok (.iaload, 1) := by decide +kernel
theorem dL_law_979 : decode cL_law 979 = .ok (.aload_n 3, 1) := by decide +kernel
theorem dL_law_980 : decode cL_law 980 = .ok (.invokestatic 186, 3) := by decide +kernel
theorem dL_law_983 : decode cL_law 983 = .ok (.istore 6, 2) := by decide +kernel
theorem dL_law_985 : decode cL_law 985 = .ok (.aload_n 2, 1) := by decide +kernel
theorem dL_law_986 : decode cL_law 986 = .ok (.aload_n 0, 1) := by decide +kernel
theorem dL_law_987 : decode cL_law 987 = .ok (.iload 5, 2) := by decide +kernel
theorem dL_law_989 : decode cL_law 989 = .ok (.iconst 1, 1) := by decide +kernel
theorem dL_law_990 : decode cL_law 990 = .ok (.iadd, 1) := by decide +kernel
theorem dL_law_991 : decode cL_law 991 = .ok (.iaload, 1) := by decide +kernel
theorem dL_law_992 : decode cL_law 992 = .ok (.invokevirtual 188, 3) := by decide +kernel
theorem dL_law_995 : decode cL_law 995 = .ok (.istore 7, 2) := by decide +kernel
theorem dL_law_997 : decode cL_law 997 = .ok (.aload_n 2, 1) := by decide +kernel
theorem dL_law_998 : decode cL_law 998 = .ok (.invokevirtual 137, 3) := by decide +kernel
theorem dL_law_1001 : decode cL_law 1001 = .ok (.iload 6, 2) := by decide +kernel
theorem dL_law_1003 : decode cL_law 1003 = .ok (.if_icmp .eq 5, 3) := by decide +kernel
theorem dL_law_1008 : decode cL_law 1008 = .ok (.iload 6, 2) := by decide +kernel
theorem dL_law_1010 : decode cL_law 1010 = .ok (.ifCond .ne 15, 3) := by decide +kernel
theorem dL_law_1013 : decode cL_law 1013 = .ok (.aload_n 3, 1) := by decide +kernel
theorem dL_law_1014 : decode cL_law 1014 = .ok (.iconst 0, 1) := by decide +kernel
theorem dL_law_1015 : decode cL_law 1015 = .ok (.laload, 1) := by decide +kernel
theorem dL_law_1016 : decode cL_law 1016 = .ok (.iload 7, 2) := by decide +kernel
theorem dL_law_1018 : decode cL_law 1018 = .ok (.i2l, 1) := by decide +kernel
theorem dL_law_1019 : decode cL_law 1019 = .ok (.lcmp, 1) := by decide +kernel
theorem dL_law_1020 : decode cL_law 1020 = .ok (.ifCond .eq 5, 3) := by decide +kernel
theorem dL_law_1025 : decode cL_law 1025 = .ok (.goto 1475, 3) := by decide +kernel
/-! kindAt -/
set_option maxRecDepth 100000 in
theorem lc_14 {l : Launch} {G : Gt} {p : Program} {e : Env} {R : Room} {s : State} {m : MethodId} {args : Array Value} {below : List Frame} {meth : Method} {c : Code} {Q : State → Prop} (C : CW G mL_law p R s m meth c) (hG : Gok2 l G) {q0 n : Nat} {xs : Nat → Int32} (hX : va_X q0 n xs G.1 G.1.heap) (hq : q0 < G.1.heap.size) {b z i : Nat} {A : Sx} {μ : Mm} {c1 s1 : Nat} (hi : i + 6 ≤ n) (hn : n ≤ 3072) (h : JV b z A μ) (kk : ∀ A' μ', JV b z A' μ' → LJ l G mL_law p e R s m args below meth c Q 2500 (L0 b q0 i) [] μ' (c1 + PhC A') (s1 + PhS A')) : LJ l G mL_law p e R s m args below meth c Q 972 (L0 b q0 i) [] μ (c1 + 4 + PhC A) (s1 + 220 + PhS A) := by
  refine lj_wf fun w => ?_
  obtain ⟨k, v, A', μ1, dc, ds, ec, es, kl, ef, p1, hc1, hs1, ai', pc, ps, hg⟩ := op_kindAt (x1 := (xs (nI i + 1).toNatClampNeg)) h w
  refine lj_aload_n C dL_law_972 rfl (q := 4) rfl ?_
  refine lj_aload_n C dL_law_973 rfl (q := 5) rfl ?_
  refine lj_iload C dL_law_974 (q := 0) rfl ?_
  refine lj_iconst (v := 1) C dL_law_976 (by decide) ?_
  refine lj_iadd C dL_law_977 ?_
  refine lj_sld C hX hq (sI_vin (j := 1) (by decide) (by decide) hi hn) dL_law_978 ?_
  refine lj_aload_n C dL_law_979 rfl (q := 2) rfl ?_
  refine lj_callW (As := [.ref b, .int (xs (nI i + 1).toNatClampNeg), .ref (b + 84)]) (c2 := c1 + ec + PhC A') (s2 := s1 + es + PhS A') C hG.1 mw_kindAt csL_kindAt ⟨by decide, by decide⟩ rfl (wc_kindAt hG h.1.kb p1.2.2.2.1.1 p1.2.2.2.1.2.1 ef (fun E q => rOf_in kl q)) (Nat.le_of_ble_eq_true rfl) dL_law_980 (by omega) (by omega) fun v9 μ2 wp => ?_
  obtain ⟨rfl, p2, hj⟩ := wp_out (by decide) kl p1 wp
  refine lj_istore C dL_law_983 (by decide) rfl ?_
  refine lj_wf fun w2 => ?_
  obtain ⟨w9, μ3, eg, hw, e54, p3, ej, hc3, hs3⟩ := hg μ2 p2 w2 (p2.n86 w2)
  refine lj_aload_n C dL_law_985 rfl (q := 4) rfl ?_
  refine lj_aload_n C dL_law_986 rfl (q := 6) rfl ?_
  refine lj_iload C dL_law_987 (q := 1) rfl ?_
  refine lj_iconst (v := 1) C dL_law_989 (by decide) ?_
  refine lj_iadd C dL_law_990 ?_
  refine lj_sld C hX hq (sI_vin (j := 1) (by decide) (by decide) hi hn) dL_law_991 ?_
  refine lj_callV (As := [.int (xs (nI i + 1).toNatClampNeg)]) (c2 := c1 + PhC A') (s2 := s1 + PhS A') C hG.1 mf_X11_kindAt cvM_kindAt p2.km ⟨by decide, by decide⟩ rfl rfl (Nat.le_of_ble_eq_true rfl) (s_X11_kindAt hG.1 _ _ _ _ _ eg) (Nat.le_of_ble_eq_true rfl) dL_law_992 (by omega) (by omega) ?_
  refine lj_istore C dL_law_995 (by decide) rfl ?_
  refine lj_aload_n C dL_law_997 rfl (q := 5) rfl ?_
  refine lj_callV (As := []) (c2 := c1 + PhC A') (s2 := s1 + PhS A') C hG.1 mf_X11_thrown cvM_thrown p3.km ⟨by decide, by decide⟩ rfl rfl (Nat.le_of_ble_eq_true rfl) (s_X11_thrown hG.1 _ _ _ (m_thrown p3.km e54)) (Nat.le_of_ble_eq_true rfl) dL_law_998 (Nat.le_refl _) (Nat.le_refl _) ?_
  refine lj_iload C dL_law_1001 (q := 1) rfl ?_
  refine lj_icmp_eq_t (tgt := 1008) C dL_law_1003 (by decide) rfl ?_
  refine lj_iload C dL_law_1008 (q := 1) rfl ?_
  by_cases hk : k = 0
  · refine lj_if_ne_f (tgt := 1025) C dL_law_1010 (by decide) (by rw [hk]; rfl) ?_
    refine lj_aload_n C dL_law_1013 rfl (q := 4) rfl ?_
    refine lj_iconst (v := 0) C dL_law_1014 (by decide) ?_
    refine lj_laload C hG.1 p3.2.2.2.1.1 (by decide) rfl (vin1 p3.2.2.2.1.2.1) dL_law_1015 ?_
    refine lj_iload C dL_law_1016 (q := 0) rfl ?_
    refine lj_i2l C dL_law_1018 ?_
    refine lj_lcmp C dL_law_1019 (by rw [z0c, ej, hj hk, hw hk]) ?_
    refine lj_if_eq_t (tgt := 1025) C dL_law_1020 (by decide) rfl ?_
    refine lj_goto (tgt := 2500) C dL_law_1025 (by decide) ?_
    exact lj_sub C [2, 3, 4, 5, 6, 7] rfl (kk A' μ3 ⟨p3, ai'⟩)
  · refine lj_if_ne_t (tgt := 1025) C dL_law_1010 (by decide) (nI_n0 (Nat.le_trans kl (by decide)) hk) ?_
    refine lj_goto (tgt := 2500) C dL_law_1025 (by decide) ?_
    exact lj_sub C [2, 3, 4, 5, 6, 7] rfl (kk A' μ3 ⟨p3, ai'⟩)
theorem dL_law_1028 : decode cL_law 1028 = .ok (.aload_n 1, 1) := by decide +kernel
theorem dL_law_1029 : decode cL_law 1029 = .ok (.aload_n 0, 1) := by decide +kernel
theorem dL_law_1030 : decode cL_law 1030 = .ok (.iload 5, 2) := by decide +kernel
theorem dL_law_1032 : decode cL_law 1032 = .ok (.iconst 1, 1) := by decide +kernel
theorem dL_law_1033 : decode cL_law 1033 = .ok (.iadd, 1) := by decide +kernel
theorem dL_law_1034 : decode cL_law 1034 = .ok (.iaload, 1) := by decide +kernel
theorem dL_law_1035 : decode cL_law 1035 = .ok (.aload_n 3, 1) := by decide +kernel
theorem dL_law_1036 : decode cL_law 1036 = .ok (.invokestatic 189, 3) := by decide +kernel
theorem dL_law_1039 : decode cL_law 1039 = .ok (.istore 6, 2) := by decide +kernel
theorem dL_law_1041 : decode cL_law 1041 = .ok (.aload_n 2, 1) := by decide +kernel
theorem dL_law_1042 : decode cL_law 1042 = .ok (.aload_n 0, 1) := by decide +kernel
theorem dL_law_1043 : decode cL_law 1043 = .ok (.iload 5, 2) := by decide +kernel
theorem dL_law_1045 : decode cL_law 1045 = .ok (.iconst 1, 1) := by decide +kernel
theorem dL_law_1046 : decode cL_law 1046 = .ok (.iadd, 1) := by decide +kernel
theorem dL_law_1047 : decode cL_law 1047 = .ok (.iaload, 1) := by decide +kernel
theorem dL_law_1048 : decode cL_law 1048 = .ok (.invokevirtual 191, 3) := by decide +kernel
theorem dL_law_1051 : decode cL_law 1051 = .ok (.istore 7, 2) := by decide +kernel
theorem dL_law_1053 : decode cL_law 1053 = .ok (.aload_n 2, 1) := by decide +kernel
theorem dL_law_1054 : decode cL_law 1054 = .ok (.invokevirtual 137, 3) := by decide +kernel
theorem dL_law_1057 : decode cL_law 1057 = .ok (.iload 6, 2) := by decide +kernel
theorem dL_law_1059 : decode cL_law 1059 = .ok (.if_icmp .eq 5, 3) := by decide +kernel
theorem dL_law_1064 : decode cL_law 1064 = .ok (.iload 6, 2) := by decide +kernel
theorem dL_law_1066 : decode cL_law 1066 = .ok (.ifCond .ne 15, 3) := by decide +kernel
theorem dL_law_1069 : decode cL_law 1069 = .ok (.aload_n 3, 1) := by decide +kernel
theorem dL_law_1070 : decode cL_law 1070 = .ok (.iconst 0, 1) := by decide +kernel
theorem dL_law_1071 : decode cL_law 1071 = .ok (.laload, 1) := by decide +kernel
theorem dL_law_1072 : decode cL_law 1072 = .ok (.iload 7, 2) := by decide +kernel
theorem dL_law_1074 : decode cL_law 1074 = .ok (.i2l, 1) := by decide +kernel
theorem dL_law_1075 : decode cL_law 1075 = .ok (.lcmp, 1) := by decide +kernel
theorem dL_law_1076 : decode cL_law 1076 = .ok (.ifCond .eq 5, 3) := by decide +kernel
theorem dL_law_1081 : decode cL_law 1081 = .ok (.goto 1419, 3) := by decide +kernel
/-! placeAt -/
set_option maxRecDepth 100000 in
theorem lc_15 {l : Launch} {G : Gt} {p : Program} {e : Env} {R : Room} {s : State} {m : MethodId} {args : Array Value} {below : List Frame} {meth : Method} {c : Code} {Q : State → Prop} (C : CW G mL_law p R s m meth c) (hG : Gok2 l G) {q0 n : Nat} {xs : Nat → Int32} (hX : va_X q0 n xs G.1 G.1.heap) (hq : q0 < G.1.heap.size) {b z i : Nat} {A : Sx} {μ : Mm} {c1 s1 : Nat} (hi : i + 6 ≤ n) (hn : n ≤ 3072) (h : JV b z A μ) (kk : ∀ A' μ', JV b z A' μ' → LJ l G mL_law p e R s m args below meth c Q 2500 (L0 b q0 i) [] μ' (c1 + PhC A') (s1 + PhS A')) : LJ l G mL_law p e R s m args below meth c Q 1028 (L0 b q0 i) [] μ (c1 + 4 + PhC A) (s1 + 220 + PhS A) := by
  refine lj_wf fun w => ?_
  obtain ⟨k, v, A', μ1, dc, ds, ec, es, kl, ef, p1, hc1, hs1, ai', pc, ps, hg⟩ := op_placeAt (x1 := (xs (nI i + 1).toNatClampNeg)) h w
  refine lj_aload_n C dL_law_1028 rfl (q := 4) rfl ?_
  refine lj_aload_n C dL_law_1029 rfl (q := 5) rfl ?_
  refine lj_iload C dL_law_1030 (q := 0) rfl ?_
  refine lj_iconst (v := 1) C dL_law_1032 (by decide) ?_
  refine lj_iadd C dL_law_1033 ?_
  refine lj_sld C hX hq (sI_vin (j := 1) (by decide) (by decide) hi hn) dL_law_1034 ?_
  refine lj_aload_n C dL_law_1035 rfl (q := 2) rfl ?_
  refine lj_callW (As := [.ref b, .int (xs (nI i + 1).toNatClampNeg), .ref (b + 84)]) (c2 := c1 + ec + PhC A') (s2 := s1 + es + PhS A') C hG.1 mw_placeAt csL_placeAt ⟨by decide, by decide⟩ rfl (wc_placeAt hG h.1.kb p1.2.2.2.1.1 p1.2.2.2.1.2.1 ef (fun E q => rOf_in kl q)) (Nat.le_of_ble_eq_true rfl) dL_law_1036 (by omega) (by omega) fun v9 μ2 wp => ?_
  obtain ⟨rfl, p2, hj⟩ := wp_out (by decide) kl p1 wp
  refine lj_istore C dL_law_1039 (by decide) rfl ?_
  refine lj_wf fun w2 => ?_
  obtain ⟨w9, μ3, eg, hw, e54, p3, ej, hc3, hs3⟩ := hg μ2 p2 w2 (p2.n86 w2)
  refine lj_aload_n C dL_law_1041 rfl (q := 4) rfl ?_
  refine lj_aload_n C dL_law_1042 rfl (q := 6) rfl ?_
  refine lj_iload C dL_law_1043 (q := 1) rfl ?_
  refine lj_iconst (v := 1) C dL_law_1045 (by decide) ?_
  refine lj_iadd C dL_law_1046 ?_
  refine lj_sld C hX hq (sI_vin (j := 1) (by decide) (by decide) hi hn) dL_law_1047 ?_
  refine lj_callV (As := [.int (xs (nI i + 1).toNatClampNeg)]) (c2 := c1 + PhC A') (s2 := s1 + PhS A') C hG.1 mf_X11_placeAt cvM_placeAt p2.km ⟨by decide, by decide⟩ rfl rfl (Nat.le_of_ble_eq_true rfl) (s_X11_placeAt hG.1 _ _ _ _ _ eg) (Nat.le_of_ble_eq_true rfl) dL_law_1048 (by omega) (by omega) ?_
  refine lj_istore C dL_law_1051 (by decide) rfl ?_
  refine lj_aload_n C dL_law_1053 rfl (q := 5) rfl ?_
  refine lj_callV (As := []) (c2 := c1 + PhC A') (s2 := s1 + PhS A') C hG.1 mf_X11_thrown cvM_thrown p3.km ⟨by decide, by decide⟩ rfl rfl (Nat.le_of_ble_eq_true rfl) (s_X11_thrown hG.1 _ _ _ (m_thrown p3.km e54)) (Nat.le_of_ble_eq_true rfl) dL_law_1054 (Nat.le_refl _) (Nat.le_refl _) ?_
  refine lj_iload C dL_law_1057 (q := 1) rfl ?_
  refine lj_icmp_eq_t (tgt := 1064) C dL_law_1059 (by decide) rfl ?_
  refine lj_iload C dL_law_1064 (q := 1) rfl ?_
  by_cases hk : k = 0
  · refine lj_if_ne_f (tgt := 1081) C dL_law_1066 (by decide) (by rw [hk]; rfl) ?_
    refine lj_aload_n C dL_law_1069 rfl (q := 4) rfl ?_
    refine lj_iconst (v := 0) C dL_law_1070 (by decide) ?_
    refine lj_laload C hG.1 p3.2.2.2.1.1 (by decide) rfl (vin1 p3.2.2.2.1.2.1) dL_law_1071 ?_
    refine lj_iload C dL_law_1072 (q := 0) rfl ?_
    refine lj_i2l C dL_law_1074 ?_
    refine lj_lcmp C dL_law_1075 (by rw [z0c, ej, hj hk, hw hk]) ?_
    refine lj_if_eq_t (tgt := 1081) C dL_law_1076 (by decide) rfl ?_
    refine lj_goto (tgt := 2500) C dL_law_1081 (by decide) ?_
    exact lj_sub C [2, 3, 4, 5, 6, 7] rfl (kk A' μ3 ⟨p3, ai'⟩)
  · refine lj_if_ne_t (tgt := 1081) C dL_law_1066 (by decide) (nI_n0 (Nat.le_trans kl (by decide)) hk) ?_
    refine lj_goto (tgt := 2500) C dL_law_1081 (by decide) ?_
    exact lj_sub C [2, 3, 4, 5, 6, 7] rfl (kk A' μ3 ⟨p3, ai'⟩)
theorem dL_law_1084 : decode cL_law 1084 = .ok (.aload_n 1, 1) := by decide +kernel
theorem dL_law_1085 : decode cL_law 1085 = .ok (.aload_n 0, 1) := by decide +kernel
theorem dL_law_1086 : decode cL_law 1086 = .ok (.iload 5, 2) := by decide +kernel
theorem dL_law_1088 : decode cL_law 1088 = .ok (.iconst 1, 1) := by decide +kernel
theorem dL_law_1089 : decode cL_law 1089 = .ok (.iadd, 1) := by decide +kernel
theorem dL_law_1090 : decode cL_law 1090 = .ok (.iaload, 1) := by decide +kernel
theorem dL_law_1091 : decode cL_law 1091 = .ok (.aload_n 3, 1) := by decide +kernel
theorem dL_law_1092 : decode cL_law 1092 = .ok (.invokestatic 192, 3) := by decide +kernel
theorem dL_law_1095 : decode cL_law 1095 = .ok (.istore 6, 2) := by decide +kernel
theorem dL_law_1097 : decode cL_law 1097 = .ok (.aload_n 2, 1) := by decide +kernel
theorem dL_law_1098 : decode cL_law 1098 = .ok (.aload_n 0, 1) := by decide +kernel
theorem dL_law_1099 : decode cL_law 1099 = .ok (.iload 5, 2) := by decide +kernel
theorem dL_law_1101 : decode cL_law 1101 = .ok (.iconst 1, 1) := by decide +kernel
theorem dL_law_1102 : decode cL_law 1102 = .ok (.iadd, 1) := by decide +kernel
theorem dL_law_1103 : decode cL_law 1103 = .ok (.iaload, 1) := by decide +kernel
theorem dL_law_1104 : decode cL_law 1104 = .ok (.invokevirtual 194, 3) := by decide +kernel
theorem dL_law_1107 : decode cL_law 1107 = .ok (.istore 7, 2) := by decide +kernel
theorem dL_law_1109 : decode cL_law 1109 = .ok (.aload_n 2, 1) := by decide +kernel
theorem dL_law_1110 : decode cL_law 1110 = .ok (.invokevirtual 137, 3) := by decide +kernel
theorem dL_law_1113 : decode cL_law 1113 = .ok (.iload 6, 2) := by decide +kernel
theorem dL_law_1115 : decode cL_law 1115 = .ok (.if_icmp .eq 5, 3) := by decide +kernel
theorem dL_law_1120 : decode cL_law 1120 = .ok (.iload 6, 2) := by decide +kernel
theorem dL_law_1122 : decode cL_law 1122 = .ok (.ifCond .ne 15, 3) := by decide +kernel
theorem dL_law_1125 : decode cL_law 1125 = .ok (.aload_n 3, 1) := by decide +kernel
theorem dL_law_1126 : decode cL_law 1126 = .ok (.iconst 0, 1) := by decide +kernel
theorem dL_law_1127 : decode cL_law 1127 = .ok (.laload, 1) := by decide +kernel
theorem dL_law_1128 : decode cL_law 1128 = .ok (.iload 7, 2) := by decide +kernel
theorem dL_law_1130 : decode cL_law 1130 = .ok (.i2l, 1) := by decide +kernel
theorem dL_law_1131 : decode cL_law 1131 = .ok (.lcmp, 1) := by decide +kernel
theorem dL_law_1132 : decode cL_law 1132 = .ok (.ifCond .eq 5, 3) := by decide +kernel
theorem dL_law_1137 : decode cL_law 1137 = .ok (.goto 1363, 3) := by decide +kernel
/-! kindByPlain -/
set_option maxRecDepth 100000 in
theorem lc_16 {l : Launch} {G : Gt} {p : Program} {e : Env} {R : Room} {s : State} {m : MethodId} {args : Array Value} {below : List Frame} {meth : Method} {c : Code} {Q : State → Prop} (C : CW G mL_law p R s m meth c) (hG : Gok2 l G) {q0 n : Nat} {xs : Nat → Int32} (hX : va_X q0 n xs G.1 G.1.heap) (hq : q0 < G.1.heap.size) {b z i : Nat} {A : Sx} {μ : Mm} {c1 s1 : Nat} (hi : i + 6 ≤ n) (hn : n ≤ 3072) (h : JV b z A μ) (kk : ∀ A' μ', JV b z A' μ' → LJ l G mL_law p e R s m args below meth c Q 2500 (L0 b q0 i) [] μ' (c1 + PhC A') (s1 + PhS A')) : LJ l G mL_law p e R s m args below meth c Q 1084 (L0 b q0 i) [] μ (c1 + 4 + PhC A) (s1 + 220 + PhS A) := by
  refine lj_wf fun w => ?_
  obtain ⟨k, v, A', μ1, dc, ds, ec, es, kl, ef, p1, hc1, hs1, ai', pc, ps, hg⟩ := op_kindByPlain (x1 := (xs (nI i + 1).toNatClampNeg)) h w
  refine lj_aload_n C dL_law_1084 rfl (q := 4) rfl ?_
  refine lj_aload_n C dL_law_1085 rfl (q := 5) rfl ?_
  refine lj_iload C dL_law_1086 (q := 0) rfl ?_
  refine lj_iconst (v := 1) C dL_law_1088 (by decide) ?_
  refine lj_iadd C dL_law_1089 ?_
  refine lj_sld C hX hq (sI_vin (j := 1) (by decide) (by decide) hi hn) dL_law_1090 ?_
  refine lj_aload_n C dL_law_1091 rfl (q := 2) rfl ?_
  refine lj_callW (As := [.ref b, .int (xs (nI i + 1).toNatClampNeg), .ref (b + 84)]) (c2 := c1 + ec + PhC A') (s2 := s1 + es + PhS A') C hG.1 mw_kindByPlain csL_kindByPlain ⟨by decide, by decide⟩ rfl (wc_kindByPlain hG h.1.kb p1.2.2.2.1.1 p1.2.2.2.1.2.1 ef (fun E q => rOf_in kl q)) (Nat.le_of_ble_eq_true rfl) dL_law_1092 (by omega) (by omega) fun v9 μ2 wp => ?_
  obtain ⟨rfl, p2, hj⟩ := wp_out (by decide) kl p1 wp
  refine lj_istore C dL_law_1095 (by decide) rfl ?_
  refine lj_wf fun w2 => ?_
  obtain ⟨w9, μ3, eg, hw, e54, p3, ej, hc3, hs3⟩ := hg μ2 p2 w2 (p2.n86 w2)
  refine lj_aload_n C dL_law_1097 rfl (q := 4) rfl ?_
  refine lj_aload_n C dL_law_1098 rfl (q := 6) rfl ?_
  refine lj_iload C dL_law_1099 (q := 1) rfl ?_
  refine lj_iconst (v := 1) C dL_law_1101 (by decide) ?_
  refine lj_iadd C dL_law_1102 ?_
  refine lj_sld C hX hq (sI_vin (j := 1) (by decide) (by decide) hi hn) dL_law_1103 ?_
  refine lj_callV (As := [.int (xs (nI i + 1).toNatClampNeg)]) (c2 := c1 + PhC A') (s2 := s1 + PhS A') C hG.1 mf_X11_kindByPlain cvM_kindByPlain p2.km ⟨by decide, by decide⟩ rfl rfl (Nat.le_of_ble_eq_true rfl) (s_X11_kindByPlain hG.1 _ _ _ _ _ eg) (Nat.le_of_ble_eq_true rfl) dL_law_1104 (by omega) (by omega) ?_
  refine lj_istore C dL_law_1107 (by decide) rfl ?_
  refine lj_aload_n C dL_law_1109 rfl (q := 5) rfl ?_
  refine lj_callV (As := []) (c2 := c1 + PhC A') (s2 := s1 + PhS A') C hG.1 mf_X11_thrown cvM_thrown p3.km ⟨by decide, by decide⟩ rfl rfl (Nat.le_of_ble_eq_true rfl) (s_X11_thrown hG.1 _ _ _ (m_thrown p3.km e54)) (Nat.le_of_ble_eq_true rfl) dL_law_1110 (Nat.le_refl _) (Nat.le_refl _) ?_
  refine lj_iload C dL_law_1113 (q := 1) rfl ?_
  refine lj_icmp_eq_t (tgt := 1120) C dL_law_1115 (by decide) rfl ?_
  refine lj_iload C dL_law_1120 (q := 1) rfl ?_
  by_cases hk : k = 0
  · refine lj_if_ne_f (tgt := 1137) C dL_law_1122 (by decide) (by rw [hk]; rfl) ?_
    refine lj_aload_n C dL_law_1125 rfl (q := 4) rfl ?_
    refine lj_iconst (v := 0) C dL_law_1126 (by decide) ?_
    refine lj_laload C hG.1 p3.2.2.2.1.1 (by decide) rfl (vin1 p3.2.2.2.1.2.1) dL_law_1127 ?_
    refine lj_iload C dL_law_1128 (q := 0) rfl ?_
    refine lj_i2l C dL_law_1130 ?_
    refine lj_lcmp C dL_law_1131 (by rw [z0c, ej, hj hk, hw hk]) ?_
    refine lj_if_eq_t (tgt := 1137) C dL_law_1132 (by decide) rfl ?_
    refine lj_goto (tgt := 2500) C dL_law_1137 (by decide) ?_
    exact lj_sub C [2, 3, 4, 5, 6, 7] rfl (kk A' μ3 ⟨p3, ai'⟩)
  · refine lj_if_ne_t (tgt := 1137) C dL_law_1122 (by decide) (nI_n0 (Nat.le_trans kl (by decide)) hk) ?_
    refine lj_goto (tgt := 2500) C dL_law_1137 (by decide) ?_
    exact lj_sub C [2, 3, 4, 5, 6, 7] rfl (kk A' μ3 ⟨p3, ai'⟩)
theorem dL_law_1140 : decode cL_law 1140 = .ok (.aload_n 1, 1) := by decide +kernel
theorem dL_law_1141 : decode cL_law 1141 = .ok (.aload_n 0, 1) := by decide +kernel
theorem dL_law_1142 : decode cL_law 1142 = .ok (.iload 5, 2) := by decide +kernel
theorem dL_law_1144 : decode cL_law 1144 = .ok (.iconst 1, 1) := by decide +kernel
theorem dL_law_1145 : decode cL_law 1145 = .ok (.iadd, 1) := by decide +kernel
theorem dL_law_1146 : decode cL_law 1146 = .ok (.iaload, 1) := by decide +kernel
theorem dL_law_1147 : decode cL_law 1147 = .ok (.aload_n 3, 1) := by decide +kernel
theorem dL_law_1148 : decode cL_law 1148 = .ok (.invokestatic 195, 3) := by decide +kernel
theorem dL_law_1151 : decode cL_law 1151 = .ok (.istore 6, 2) := by decide +kernel
theorem dL_law_1153 : decode cL_law 1153 = .ok (.aload_n 2, 1) := by decide +kernel
theorem dL_law_1154 : decode cL_law 1154 = .ok (.aload_n 0, 1) := by decide +kernel
theorem dL_law_1155 : decode cL_law 1155 = .ok (.iload 5, 2) := by decide +kernel
theorem dL_law_1157 : decode cL_law 1157 = .ok (.iconst 1, 1) := by decide +kernel
theorem dL_law_1158 : decode cL_law 1158 = .ok (.iadd, 1) := by decide +kernel
theorem dL_law_1159 : decode cL_law 1159 = .ok (.iaload, 1) := by decide +kernel
theorem dL_law_1160 : decode cL_law 1160 = .ok (.invokevirtual 197, 3) := by decide +kernel
theorem dL_law_1163 : decode cL_law 1163 = .ok (.istore 7, 2) := by decide +kernel
theorem dL_law_1165 : decode cL_law 1165 = .ok (.aload_n 2, 1) := by decide +kernel
theorem dL_law_1166 : decode cL_law 1166 = .ok (.invokevirtual 137, 3) := by decide +kernel
theorem dL_law_1169 : decode cL_law 1169 = .ok (.iload 6, 2) := by decide +kernel
theorem dL_law_1171 : decode cL_law 1171 = .ok (.if_icmp .eq 5, 3) := by decide +kernel
theorem dL_law_1176 : decode cL_law 1176 = .ok (.iload 6, 2) := by decide +kernel
theorem dL_law_1178 : decode cL_law 1178 = .ok (.ifCond .ne 15, 3) := by decide +kernel
theorem dL_law_1181 : decode cL_law 1181 = .ok (.aload_n 3, 1) := by decide +kernel
theorem dL_law_1182 : decode cL_law 1182 = .ok (.iconst 0, 1) := by decide +kernel
theorem dL_law_1183 : decode cL_law 1183 = .ok (.laload, 1) := by decide +kernel
theorem dL_law_1184 : decode cL_law 1184 = .ok (.iload 7, 2) := by decide +kernel
theorem dL_law_1186 : decode cL_law 1186 = .ok (.i2l, 1) := by decide +kernel
theorem dL_law_1187 : decode cL_law 1187 = .ok (.lcmp, 1) := by decide +kernel
theorem dL_law_1188 : decode cL_law 1188 = .ok (.ifCond .eq 5, 3) := by decide +kernel
theorem dL_law_1193 : decode cL_law 1193 = .ok (.goto 1307, 3) := by decide +kernel
/-! placeByPlain -/
set_option maxRecDepth 100000 in
theorem lc_17 {l : Launch} {G : Gt} {p : Program} {e : Env} {R : Room} {s : State} {m : MethodId} {args : Array Value} {below : List Frame} {meth : Method} {c : Code} {Q : State → Prop} (C : CW G mL_law p R s m meth c) (hG : Gok2 l G) {q0 n : Nat} {xs : Nat → Int32} (hX : va_X q0 n xs G.1 G.1.heap) (hq : q0 < G.1.heap.size) {b z i : Nat} {A : Sx} {μ : Mm} {c1 s1 : Nat} (hi : i + 6 ≤ n) (hn : n ≤ 3072) (h : JV b z A μ) (kk : ∀ A' μ', JV b z A' μ' → LJ l G mL_law p e R s m args below meth c Q 2500 (L0 b q0 i) [] μ' (c1 + PhC A') (s1 + PhS A')) : LJ l G mL_law p e R s m args below meth c Q 1140 (L0 b q0 i) [] μ (c1 + 4 + PhC A) (s1 + 220 + PhS A) := by
  refine lj_wf fun w => ?_
  obtain ⟨k, v, A', μ1, dc, ds, ec, es, kl, ef, p1, hc1, hs1, ai', pc, ps, hg⟩ := op_placeByPlain (x1 := (xs (nI i + 1).toNatClampNeg)) h w
  refine lj_aload_n C dL_law_1140 rfl (q := 4) rfl ?_
  refine lj_aload_n C dL_law_1141 rfl (q := 5) rfl ?_
  refine lj_iload C dL_law_1142 (q := 0) rfl ?_
  refine lj_iconst (v := 1) C dL_law_1144 (by decide) ?_
  refine lj_iadd C dL_law_1145 ?_
  refine lj_sld C hX hq (sI_vin (j := 1) (by decide) (by decide) hi hn) dL_law_1146 ?_
  refine lj_aload_n C dL_law_1147 rfl (q := 2) rfl ?_
  refine lj_callW (As := [.ref b, .int (xs (nI i + 1).toNatClampNeg), .ref (b + 84)]) (c2 := c1 + ec + PhC A') (s2 := s1 + es + PhS A') C hG.1 mw_placeByPlain csL_placeByPlain ⟨by decide, by decide⟩ rfl (wc_placeByPlain hG h.1.kb p1.2.2.2.1.1 p1.2.2.2.1.2.1 ef (fun E q => rOf_in kl q)) (Nat.le_of_ble_eq_true rfl) dL_law_1148 (by omega) (by omega) fun v9 μ2 wp => ?_
  obtain ⟨rfl, p2, hj⟩ := wp_out (by decide) kl p1 wp
  refine lj_istore C dL_law_1151 (by decide) rfl ?_
  refine lj_wf fun w2 => ?_
  obtain ⟨w9, μ3, eg, hw, e54, p3, ej, hc3, hs3⟩ := hg μ2 p2 w2 (p2.n86 w2)
  refine lj_aload_n C dL_law_1153 rfl (q := 4) rfl ?_
  refine lj_aload_n C dL_law_1154 rfl (q := 6) rfl ?_
  refine lj_iload C dL_law_1155 (q := 1) rfl ?_
  refine lj_iconst (v := 1) C dL_law_1157 (by decide) ?_
  refine lj_iadd C dL_law_1158 ?_
  refine lj_sld C hX hq (sI_vin (j := 1) (by decide) (by decide) hi hn) dL_law_1159 ?_
  refine lj_callV (As := [.int (xs (nI i + 1).toNatClampNeg)]) (c2 := c1 + PhC A') (s2 := s1 + PhS A') C hG.1 mf_X11_placeByPlain cvM_placeByPlain p2.km ⟨by decide, by decide⟩ rfl rfl (Nat.le_of_ble_eq_true rfl) (s_X11_placeByPlain hG.1 _ _ _ _ _ eg) (Nat.le_of_ble_eq_true rfl) dL_law_1160 (by omega) (by omega) ?_
  refine lj_istore C dL_law_1163 (by decide) rfl ?_
  refine lj_aload_n C dL_law_1165 rfl (q := 5) rfl ?_
  refine lj_callV (As := []) (c2 := c1 + PhC A') (s2 := s1 + PhS A') C hG.1 mf_X11_thrown cvM_thrown p3.km ⟨by decide, by decide⟩ rfl rfl (Nat.le_of_ble_eq_true rfl) (s_X11_thrown hG.1 _ _ _ (m_thrown p3.km e54)) (Nat.le_of_ble_eq_true rfl) dL_law_1166 (Nat.le_refl _) (Nat.le_refl _) ?_
  refine lj_iload C dL_law_1169 (q := 1) rfl ?_
  refine lj_icmp_eq_t (tgt := 1176) C dL_law_1171 (by decide) rfl ?_
  refine lj_iload C dL_law_1176 (q := 1) rfl ?_
  by_cases hk : k = 0
  · refine lj_if_ne_f (tgt := 1193) C dL_law_1178 (by decide) (by rw [hk]; rfl) ?_
    refine lj_aload_n C dL_law_1181 rfl (q := 4) rfl ?_
    refine lj_iconst (v := 0) C dL_law_1182 (by decide) ?_
    refine lj_laload C hG.1 p3.2.2.2.1.1 (by decide) rfl (vin1 p3.2.2.2.1.2.1) dL_law_1183 ?_
    refine lj_iload C dL_law_1184 (q := 0) rfl ?_
    refine lj_i2l C dL_law_1186 ?_
    refine lj_lcmp C dL_law_1187 (by rw [z0c, ej, hj hk, hw hk]) ?_
    refine lj_if_eq_t (tgt := 1193) C dL_law_1188 (by decide) rfl ?_
    refine lj_goto (tgt := 2500) C dL_law_1193 (by decide) ?_
    exact lj_sub C [2, 3, 4, 5, 6, 7] rfl (kk A' μ3 ⟨p3, ai'⟩)
  · refine lj_if_ne_t (tgt := 1193) C dL_law_1178 (by decide) (nI_n0 (Nat.le_trans kl (by decide)) hk) ?_
    refine lj_goto (tgt := 2500) C dL_law_1193 (by decide) ?_
    exact lj_sub C [2, 3, 4, 5, 6, 7] rfl (kk A' μ3 ⟨p3, ai'⟩)
theorem dL_law_1196 : decode cL_law 1196 = .ok (.aload_n 1, 1) := by decide +kernel
theorem dL_law_1197 : decode cL_law 1197 = .ok (.aload_n 0, 1) := by decide +kernel
theorem dL_law_1198 : decode cL_law 1198 = .ok (.iload 5, 2) := by decide +kernel
theorem dL_law_1200 : decode cL_law 1200 = .ok (.iconst 1, 1) := by decide +kernel
theorem dL_law_1201 : decode cL_law 1201 = .ok (.iadd, 1) := by decide +kernel
theorem dL_law_1202 : decode cL_law 1202 = .ok (.iaload, 1) := by decide +kernel
theorem dL_law_1203 : decode cL_law 1203 = .ok (.aload_n 3, 1) := by decide +kernel
theorem dL_law_1204 : decode cL_law 1204 = .ok (.invokestatic 198, 3) := by decide +kernel
theorem dL_law_1207 : decode cL_law 1207 = .ok (.istore 6, 2) := by decide +kernel
theorem dL_law_1209 : decode cL_law 1209 = .ok (.aload_n 2, 1) := by decide +kernel
theorem dL_law_1210 : decode cL_law 1210 = .ok (.aload_n 0, 1) := by decide +kernel
theorem dL_law_1211 : decode cL_law 1211 = .ok (.iload 5, 2) := by decide +kernel
theorem dL_law_1213 : decode cL_law 1213 = .ok (.iconst 1, 1) := by decide +kernel
theorem dL_law_1214 : decode cL_law 1214 = .ok (.iadd, 1) := by decide +kernel
theorem dL_law_1215 : decode cL_law 1215 = .ok (.iaload, 1) := by decide +kernel
theorem dL_law_1216 : decode cL_law 1216 = .ok (.invokevirtual 200, 3) := by decide +kernel
theorem dL_law_1219 : decode cL_law 1219 = .ok (.istore 7, 2) := by decide +kernel
theorem dL_law_1221 : decode cL_law 1221 = .ok (.aload_n 2, 1) := by decide +kernel
theorem dL_law_1222 : decode cL_law 1222 = .ok (.invokevirtual 137, 3) := by decide +kernel
theorem dL_law_1225 : decode cL_law 1225 = .ok (.iload 6, 2) := by decide +kernel
theorem dL_law_1227 : decode cL_law 1227 = .ok (.if_icmp .eq 5, 3) := by decide +kernel
theorem dL_law_1232 : decode cL_law 1232 = .ok (.iload 6, 2) := by decide +kernel
theorem dL_law_1234 : decode cL_law 1234 = .ok (.ifCond .ne 15, 3) := by decide +kernel
theorem dL_law_1237 : decode cL_law 1237 = .ok (.aload_n 3, 1) := by decide +kernel
theorem dL_law_1238 : decode cL_law 1238 = .ok (.iconst 0, 1) := by decide +kernel
theorem dL_law_1239 : decode cL_law 1239 = .ok (.laload, 1) := by decide +kernel
theorem dL_law_1240 : decode cL_law 1240 = .ok (.iload 7, 2) := by decide +kernel
theorem dL_law_1242 : decode cL_law 1242 = .ok (.i2l, 1) := by decide +kernel
theorem dL_law_1243 : decode cL_law 1243 = .ok (.lcmp, 1) := by decide +kernel
theorem dL_law_1244 : decode cL_law 1244 = .ok (.ifCond .eq 5, 3) := by decide +kernel
theorem dL_law_1249 : decode cL_law 1249 = .ok (.goto 1251, 3) := by decide +kernel
/-! register -/
set_option maxRecDepth 100000 in
theorem lc_18 {l : Launch} {G : Gt} {p : Program} {e : Env} {R : Room} {s : State} {m : MethodId} {args : Array Value} {below : List Frame} {meth : Method} {c : Code} {Q : State → Prop} (C : CW G mL_law p R s m meth c) (hG : Gok2 l G) {q0 n : Nat} {xs : Nat → Int32} (hX : va_X q0 n xs G.1 G.1.heap) (hq : q0 < G.1.heap.size) {b z i : Nat} {A : Sx} {μ : Mm} {c1 s1 : Nat} (hi : i + 6 ≤ n) (hn : n ≤ 3072) (h : JV b z A μ) (kk : ∀ A' μ', JV b z A' μ' → LJ l G mL_law p e R s m args below meth c Q 2500 (L0 b q0 i) [] μ' (c1 + PhC A') (s1 + PhS A')) : LJ l G mL_law p e R s m args below meth c Q 1196 (L0 b q0 i) [] μ (c1 + 4 + PhC A) (s1 + 220 + PhS A) := by
  refine lj_wf fun w => ?_
  obtain ⟨k, v, A', μ1, dc, ds, ec, es, kl, ef, p1, hc1, hs1, ai', pc, ps, hg⟩ := op_register (x1 := (xs (nI i + 1).toNatClampNeg)) h w
  refine lj_aload_n C dL_law_1196 rfl (q := 4) rfl ?_
  refine lj_aload_n C dL_law_1197 rfl (q := 5) rfl ?_
  refine lj_iload C dL_law_1198 (q := 0) rfl ?_
  refine lj_iconst (v := 1) C dL_law_1200 (by decide) ?_
  refine lj_iadd C dL_law_1201 ?_
  refine lj_sld C hX hq (sI_vin (j := 1) (by decide) (by decide) hi hn) dL_law_1202 ?_
  refine lj_aload_n C dL_law_1203 rfl (q := 2) rfl ?_
  refine lj_callW (As := [.ref b, .int (xs (nI i + 1).toNatClampNeg), .ref (b + 84)]) (c2 := c1 + ec + PhC A') (s2 := s1 + es + PhS A') C hG.1 mw_register csL_register ⟨by decide, by decide⟩ rfl (wc_register hG h.1.kb p1.2.2.2.1.1 p1.2.2.2.1.2.1 ef (fun E q => rOf_in kl q)) (Nat.le_of_ble_eq_true rfl) dL_law_1204 (by omega) (by omega) fun v9 μ2 wp => ?_
  obtain ⟨rfl, p2, hj⟩ := wp_out (by decide) kl p1 wp
  refine lj_istore C dL_law_1207 (by decide) rfl ?_
  refine lj_wf fun w2 => ?_
  obtain ⟨w9, μ3, eg, hw, e54, p3, ej, hc3, hs3⟩ := hg μ2 p2 w2 (p2.n86 w2)
  refine lj_aload_n C dL_law_1209 rfl (q := 4) rfl ?_
  refine lj_aload_n C dL_law_1210 rfl (q := 6) rfl ?_
  refine lj_iload C dL_law_1211 (q := 1) rfl ?_
  refine lj_iconst (v := 1) C dL_law_1213 (by decide) ?_
  refine lj_iadd C dL_law_1214 ?_
  refine lj_sld C hX hq (sI_vin (j := 1) (by decide) (by decide) hi hn) dL_law_1215 ?_
  refine lj_callV (As := [.int (xs (nI i + 1).toNatClampNeg)]) (c2 := c1 + PhC A') (s2 := s1 + PhS A') C hG.1 mf_X11_register cvM_register p2.km ⟨by decide, by decide⟩ rfl rfl (Nat.le_of_ble_eq_true rfl) (s_X11_register hG.1 _ _ _ _ _ eg) (Nat.le_of_ble_eq_true rfl) dL_law_1216 (by omega) (by omega) ?_
  refine lj_istore C dL_law_1219 (by decide) rfl ?_
  refine lj_aload_n C dL_law_1221 rfl (q := 5) rfl ?_
  refine lj_callV (As := []) (c2 := c1 + PhC A') (s2 := s1 + PhS A') C hG.1 mf_X11_thrown cvM_thrown p3.km ⟨by decide, by decide⟩ rfl rfl (Nat.le_of_ble_eq_true rfl) (s_X11_thrown hG.1 _ _ _ (m_thrown p3.km e54)) (Nat.le_of_ble_eq_true rfl) dL_law_1222 (Nat.le_refl _) (Nat.le_refl _) ?_
  refine lj_iload C dL_law_1225 (q := 1) rfl ?_
  refine lj_icmp_eq_t (tgt := 1232) C dL_law_1227 (by decide) rfl ?_
  refine lj_iload C dL_law_1232 (q := 1) rfl ?_
  by_cases hk : k = 0
  · refine lj_if_ne_f (tgt := 1249) C dL_law_1234 (by decide) (by rw [hk]; rfl) ?_
    refine lj_aload_n C dL_law_1237 rfl (q := 4) rfl ?_
    refine lj_iconst (v := 0) C dL_law_1238 (by decide) ?_
    refine lj_laload C hG.1 p3.2.2.2.1.1 (by decide) rfl (vin1 p3.2.2.2.1.2.1) dL_law_1239 ?_
    refine lj_iload C dL_law_1240 (q := 0) rfl ?_
    refine lj_i2l C dL_law_1242 ?_
    refine lj_lcmp C dL_law_1243 (by rw [z0c, ej, hj hk, hw hk]) ?_
    refine lj_if_eq_t (tgt := 1249) C dL_law_1244 (by decide) rfl ?_
    refine lj_goto (tgt := 2500) C dL_law_1249 (by decide) ?_
    exact lj_sub C [2, 3, 4, 5, 6, 7] rfl (kk A' μ3 ⟨p3, ai'⟩)
  · refine lj_if_ne_t (tgt := 1249) C dL_law_1234 (by decide) (nI_n0 (Nat.le_trans kl (by decide)) hk) ?_
    refine lj_goto (tgt := 2500) C dL_law_1249 (by decide) ?_
    exact lj_sub C [2, 3, 4, 5, 6, 7] rfl (kk A' μ3 ⟨p3, ai'⟩)
theorem dL_law_1252 : decode cL_law 1252 = .ok (.aload_n 1, 1) := by decide +kernel
theorem dL_law_1253 : decode cL_law 1253 = .ok (.aload_n 0, 1) := by decide +kernel
theorem dL_law_1254 : decode cL_law 1254 = .ok (.iload 5, 2) := by decide +kernel
theorem dL_law_1256 : decode cL_law 1256 = .ok (.iconst 1, 1) := by decide +kernel
theorem dL_law_1257 : decode cL_law 1257 = .ok (.iadd, 1) := by decide +kernel
theorem dL_law_1258 : decode cL_law 1258 = .ok (.iaload, 1) := by decide +kernel
theorem dL_law_1259 : decode cL_law 1259 = .ok (.aload_n 3, 1) := by decide +kernel
theorem dL_law_1260 : decode cL_law 1260 = .ok (.invokestatic 201, 3) := by decide +kernel
theorem dL_law_1263 : decode cL_law 1263 = .ok (.istore 6, 2) := by decide +kernel
theorem dL_law_1265 : decode cL_law 1265 = .ok (.aload_n 2, 1) := by decide +kernel
theorem dL_law_1266 : decode cL_law 1266 = .ok (.aload_n 0, 1) := by decide +kernel
theorem dL_law_1267 : decode cL_law 1267 = .ok (.iload 5, 2) := by decide +kernel
theorem dL_law_1269 : decode cL_law 1269 = .ok (.iconst 1, 1) := by decide +kernel
theorem dL_law_1270 : decode cL_law 1270 = .ok (.iadd, 1) := by decide +kernel
theorem dL_law_1271 : decode cL_law 1271 = .ok (.iaload, 1) := by decide +kernel
theorem dL_law_1272 : decode cL_law 1272 = .ok (.invokevirtual 203, 3) := by decide +kernel
theorem dL_law_1275 : decode cL_law 1275 = .ok (.istore 7, 2) := by decide +kernel
theorem dL_law_1277 : decode cL_law 1277 = .ok (.aload_n 2, 1) := by decide +kernel
theorem dL_law_1278 : decode cL_law 1278 = .ok (.invokevirtual 137, 3) := by decide +kernel
theorem dL_law_1281 : decode cL_law 1281 = .ok (.iload 6, 2) := by decide +kernel
theorem dL_law_1283 : decode cL_law 1283 = .ok (.if_icmp .eq 5, 3) := by decide +kernel
theorem dL_law_1288 : decode cL_law 1288 = .ok (.iload 6, 2) := by decide +kernel
theorem dL_law_1290 : decode cL_law 1290 = .ok (.ifCond .ne 15, 3) := by decide +kernel
theorem dL_law_1293 : decode cL_law 1293 = .ok (.aload_n 3, 1) := by decide +kernel
theorem dL_law_1294 : decode cL_law 1294 = .ok (.iconst 0, 1) := by decide +kernel
theorem dL_law_1295 : decode cL_law 1295 = .ok (.laload, 1) := by decide +kernel
theorem dL_law_1296 : decode cL_law 1296 = .ok (.iload 7, 2) := by decide +kernel
theorem dL_law_1298 : decode cL_law 1298 = .ok (.i2l, 1) := by decide +kernel
theorem dL_law_1299 : decode cL_law 1299 = .ok (.lcmp, 1) := by decide +kernel
theorem dL_law_1300 : decode cL_law 1300 = .ok (.ifCond .eq 5, 3) := by decide +kernel
theorem dL_law_1305 : decode cL_law 1305 = .ok (.goto 1195, 3) := by decide +kernel
/-! registerByPlain -/
set_option maxRecDepth 100000 in
theorem lc_19 {l : Launch} {G : Gt} {p : Program} {e : Env} {R : Room} {s : State} {m : MethodId} {args : Array Value} {below : List Frame} {meth : Method} {c : Code} {Q : State → Prop} (C : CW G mL_law p R s m meth c) (hG : Gok2 l G) {q0 n : Nat} {xs : Nat → Int32} (hX : va_X q0 n xs G.1 G.1.heap) (hq : q0 < G.1.heap.size) {b z i : Nat} {A : Sx} {μ : Mm} {c1 s1 : Nat} (hi : i + 6 ≤ n) (hn : n ≤ 3072) (h : JV b z A μ) (kk : ∀ A' μ', JV b z A' μ' → LJ l G mL_law p e R s m args below meth c Q 2500 (L0 b q0 i) [] μ' (c1 + PhC A') (s1 + PhS A')) : LJ l G mL_law p e R s m args below meth c Q 1252 (L0 b q0 i) [] μ (c1 + 4 + PhC A) (s1 + 220 + PhS A) := by
  refine lj_wf fun w => ?_
  obtain ⟨k, v, A', μ1, dc, ds, ec, es, kl, ef, p1, hc1, hs1, ai', pc, ps, hg⟩ := op_registerByPlain (x1 := (xs (nI i + 1).toNatClampNeg)) h w
  refine lj_aload_n C dL_law_1252 rfl (q := 4) rfl ?_
  refine lj_aload_n C dL_law_1253 rfl (q := 5) rfl ?_
  refine lj_iload C dL_law_1254 (q := 0) rfl ?_
  refine lj_iconst (v := 1) C dL_law_1256 (by decide) ?_
  refine lj_iadd C dL_law_1257 ?_
  refine lj_sld C hX hq (sI_vin (j := 1) (by decide) (by decide) hi hn) dL_law_1258 ?_
  refine lj_aload_n C dL_law_1259 rfl (q := 2) rfl ?_
  refine lj_callW (As := [.ref b, .int (xs (nI i + 1).toNatClampNeg), .ref (b + 84)]) (c2 := c1 + ec + PhC A') (s2 := s1 + es + PhS A') C hG.1 mw_registerByPlain csL_registerByPlain ⟨by decide, by decide⟩ rfl (wc_registerByPlain hG h.1.kb p1.2.2.2.1.1 p1.2.2.2.1.2.1 ef (fun E q => rOf_in kl q)) (Nat.le_of_ble_eq_true rfl) dL_law_1260 (by omega) (by omega) fun v9 μ2 wp => ?_
  obtain ⟨rfl, p2, hj⟩ := wp_out (by decide) kl p1 wp
  refine lj_istore C dL_law_1263 (by decide) rfl ?_
  refine lj_wf fun w2 => ?_
  obtain ⟨w9, μ3, eg, hw, e54, p3, ej, hc3, hs3⟩ := hg μ2 p2 w2 (p2.n86 w2)
  refine lj_aload_n C dL_law_1265 rfl (q := 4) rfl ?_
  refine lj_aload_n C dL_law_1266 rfl (q := 6) rfl ?_
  refine lj_iload C dL_law_1267 (q := 1) rfl ?_
  refine lj_iconst (v := 1) C dL_law_1269 (by decide) ?_
  refine lj_iadd C dL_law_1270 ?_
  refine lj_sld C hX hq (sI_vin (j := 1) (by decide) (by decide) hi hn) dL_law_1271 ?_
  refine lj_callV (As := [.int (xs (nI i + 1).toNatClampNeg)]) (c2 := c1 + PhC A') (s2 := s1 + PhS A') C hG.1 mf_X11_registerByPlain cvM_registerByPlain p2.km ⟨by decide, by decide⟩ rfl rfl (Nat.le_of_ble_eq_true rfl) (s_X11_registerByPlain hG.1 _ _ _ _ _ eg) (Nat.le_of_ble_eq_true rfl) dL_law_1272 (by omega) (by omega) ?_
  refine lj_istore C dL_law_1275 (by decide) rfl ?_
  refine lj_aload_n C dL_law_1277 rfl (q := 5) rfl ?_
  refine lj_callV (As := []) (c2 := c1 + PhC A') (s2 := s1 + PhS A') C hG.1 mf_X11_thrown cvM_thrown p3.km ⟨by decide, by decide⟩ rfl rfl (Nat.le_of_ble_eq_true rfl) (s_X11_thrown hG.1 _ _ _ (m_thrown p3.km e54)) (Nat.le_of_ble_eq_true rfl) dL_law_1278 (Nat.le_refl _) (Nat.le_refl _) ?_
  refine lj_iload C dL_law_1281 (q := 1) rfl ?_
  refine lj_icmp_eq_t (tgt := 1288) C dL_law_1283 (by decide) rfl ?_
  refine lj_iload C dL_law_1288 (q := 1) rfl ?_
  by_cases hk : k = 0
  · refine lj_if_ne_f (tgt := 1305) C dL_law_1290 (by decide) (by rw [hk]; rfl) ?_
    refine lj_aload_n C dL_law_1293 rfl (q := 4) rfl ?_
    refine lj_iconst (v := 0) C dL_law_1294 (by decide) ?_
    refine lj_laload C hG.1 p3.2.2.2.1.1 (by decide) rfl (vin1 p3.2.2.2.1.2.1) dL_law_1295 ?_
    refine lj_iload C dL_law_1296 (q := 0) rfl ?_
    refine lj_i2l C dL_law_1298 ?_
    refine lj_lcmp C dL_law_1299 (by rw [z0c, ej, hj hk, hw hk]) ?_
    refine lj_if_eq_t (tgt := 1305) C dL_law_1300 (by decide) rfl ?_
    refine lj_goto (tgt := 2500) C dL_law_1305 (by decide) ?_
    exact lj_sub C [2, 3, 4, 5, 6, 7] rfl (kk A' μ3 ⟨p3, ai'⟩)
  · refine lj_if_ne_t (tgt := 1305) C dL_law_1290 (by decide) (nI_n0 (Nat.le_trans kl (by decide)) hk) ?_
    refine lj_goto (tgt := 2500) C dL_law_1305 (by decide) ?_
    exact lj_sub C [2, 3, 4, 5, 6, 7] rfl (kk A' μ3 ⟨p3, ai'⟩)
theorem dL_law_1308 : decode cL_law 1308 = .ok (.aload_n 1, 1) := by decide +kernel
theorem dL_law_1309 : decode cL_law 1309 = .ok (.aload_n 0, 1) := by decide +kernel
theorem dL_law_1310 : decode cL_law 1310 = .ok (.iload 5, 2) := by decide +kernel
theorem dL_law_1312 : decode cL_law 1312 = .ok (.iconst 1, 1) := by decide +kernel
theorem dL_law_1313 : decode cL_law 1313 = .ok (.iadd, 1) := by decide +kernel
theorem dL_law_1314 : decode cL_law 1314 = .ok (.iaload, 1) := by decide +kernel
theorem dL_law_1315 : decode cL_law 1315 = .ok (.aload_n 3, 1) := by decide +kernel
theorem dL_law_1316 : decode cL_law 1316 = .ok (.invokestatic 204, 3) := by decide +kernel
theorem dL_law_1319 : decode cL_law 1319 = .ok (.istore 6, 2) := by decide +kernel
theorem dL_law_1321 : decode cL_law 1321 = .ok (.aload_n 2, 1) := by decide +kernel
theorem dL_law_1322 : decode cL_law 1322 = .ok (.aload_n 0, 1) := by decide +kernel
theorem dL_law_1323 : decode cL_law 1323 = .ok (.iload 5, 2) := by decide +kernel
theorem dL_law_1325 : decode cL_law 1325 = .ok (.iconst 1, 1) := by decide +kernel
theorem dL_law_1326 : decode cL_law 1326 = .ok (.iadd, 1) := by decide +kernel
theorem dL_law_1327 : decode cL_law 1327 = .ok (.iaload, 1) := by decide +kernel
theorem dL_law_1328 : decode cL_law 1328 = .ok (.invokevirtual 206, 3) := by decide +kernel
theorem dL_law_1331 : decode cL_law 1331 = .ok (.istore 7, 2) := by decide +kernel
theorem dL_law_1333 : decode cL_law 1333 = .ok (.aload_n 2, 1) := by decide +kernel
theorem dL_law_1334 : decode cL_law 1334 = .ok (.invokevirtual 137, 3) := by decide +kernel
theorem dL_law_1337 : decode cL_law 1337 = .ok (.iload 6, 2) := by decide +kernel
theorem dL_law_1339 : decode cL_law 1339 = .ok (.if_icmp .eq 5, 3) := by decide +kernel
theorem dL_law_1344 : decode cL_law 1344 = .ok (.iload 6, 2) := by decide +kernel
theorem dL_law_1346 : decode cL_law 1346 = .ok (.ifCond .ne 15, 3) := by decide +kernel
theorem dL_law_1349 : decode cL_law 1349 = .ok (.aload_n 3, 1) := by decide +kernel
theorem dL_law_1350 : decode cL_law 1350 = .ok (.iconst 0, 1) := by decide +kernel
theorem dL_law_1351 : decode cL_law 1351 = .ok (.laload, 1) := by decide +kernel
theorem dL_law_1352 : decode cL_law 1352 = .ok (.iload 7, 2) := by decide +kernel
theorem dL_law_1354 : decode cL_law 1354 = .ok (.i2l, 1) := by decide +kernel
theorem dL_law_1355 : decode cL_law 1355 = .ok (.lcmp, 1) := by decide +kernel
theorem dL_law_1356 : decode cL_law 1356 = .ok (.ifCond .eq 5, 3) := by decide +kernel
theorem dL_law_1361 : decode cL_law 1361 = .ok (.goto 1139, 3) := by decide +kernel
/-! word -/
set_option maxRecDepth 100000 in
theorem lc_20 {l : Launch} {G : Gt} {p : Program} {e : Env} {R : Room} {s : State} {m : MethodId} {args : Array Value} {below : List Frame} {meth : Method} {c : Code} {Q : State → Prop} (C : CW G mL_law p R s m meth c) (hG : Gok2 l G) {q0 n : Nat} {xs : Nat → Int32} (hX : va_X q0 n xs G.1 G.1.heap) (hq : q0 < G.1.heap.size) {b z i : Nat} {A : Sx} {μ : Mm} {c1 s1 : Nat} (hi : i + 6 ≤ n) (hn : n ≤ 3072) (h : JV b z A μ) (kk : ∀ A' μ', JV b z A' μ' → LJ l G mL_law p e R s m args below meth c Q 2500 (L0 b q0 i) [] μ' (c1 + PhC A') (s1 + PhS A')) : LJ l G mL_law p e R s m args below meth c Q 1308 (L0 b q0 i) [] μ (c1 + 4 + PhC A) (s1 + 220 + PhS A) := by
  refine lj_wf fun w => ?_
  obtain ⟨k, v, A', μ1, dc, ds, ec, es, kl, ef, p1, hc1, hs1, ai', pc, ps, hg⟩ := op_word (x1 := (xs (nI i + 1).toNatClampNeg)) h w
  refine lj_aload_n C dL_law_1308 rfl (q := 4) rfl ?_
  refine lj_aload_n C dL_law_1309 rfl (q := 5) rfl ?_
  refine lj_iload C dL_law_1310 (q := 0) rfl ?_
  refine lj_iconst (v := 1) C dL_law_1312 (by decide) ?_
  refine lj_iadd C dL_law_1313 ?_
  refine lj_sld C hX hq (sI_vin (j := 1) (by decide) (by decide) hi hn) dL_law_1314 ?_
  refine lj_aload_n C dL_law_1315 rfl (q := 2) rfl ?_
  refine lj_callW (As := [.ref b, .int (xs (nI i + 1).toNatClampNeg), .ref (b + 84)]) (c2 := c1 + ec + PhC A') (s2 := s1 + es + PhS A') C hG.1 mw_word csL_word ⟨by decide, by decide⟩ rfl (wc_word hG h.1.kb p1.2.2.2.1.1 p1.2.2.2.1.2.1 ef (fun E q => rOf_in kl q)) (Nat.le_of_ble_eq_true rfl) dL_law_1316 (by omega) (by omega) fun v9 μ2 wp => ?_
  obtain ⟨rfl, p2, hj⟩ := wp_out (by decide) kl p1 wp
  refine lj_istore C dL_law_1319 (by decide) rfl ?_
  refine lj_wf fun w2 => ?_
  obtain ⟨w9, μ3, eg, hw, e54, p3, ej, hc3, hs3⟩ := hg μ2 p2 w2 (p2.n86 w2)
  refine lj_aload_n C dL_law_1321 rfl (q := 4) rfl ?_
  refine lj_aload_n C dL_law_1322 rfl (q := 6) rfl ?_
  refine lj_iload C dL_law_1323 (q := 1) rfl ?_
  refine lj_iconst (v := 1) C dL_law_1325 (by decide) ?_
  refine lj_iadd C dL_law_1326 ?_
  refine lj_sld C hX hq (sI_vin (j := 1) (by decide) (by decide) hi hn) dL_law_1327 ?_
  refine lj_callV (As := [.int (xs (nI i + 1).toNatClampNeg)]) (c2 := c1 + PhC A') (s2 := s1 + PhS A') C hG.1 mf_X11_word cvM_word p2.km ⟨by decide, by decide⟩ rfl rfl (Nat.le_of_ble_eq_true rfl) (s_X11_word hG.1 _ _ _ _ _ eg) (Nat.le_of_ble_eq_true rfl) dL_law_1328 (by omega) (by omega) ?_
  refine lj_istore C dL_law_1331 (by decide) rfl ?_
  refine lj_aload_n C dL_law_1333 rfl (q := 5) rfl ?_
  refine lj_callV (As := []) (c2 := c1 + PhC A') (s2 := s1 + PhS A') C hG.1 mf_X11_thrown cvM_thrown p3.km ⟨by decide, by decide⟩ rfl rfl (Nat.le_of_ble_eq_true rfl) (s_X11_thrown hG.1 _ _ _ (m_thrown p3.km e54)) (Nat.le_of_ble_eq_true rfl) dL_law_1334 (Nat.le_refl _) (Nat.le_refl _) ?_
  refine lj_iload C dL_law_1337 (q := 1) rfl ?_
  refine lj_icmp_eq_t (tgt := 1344) C dL_law_1339 (by decide) rfl ?_
  refine lj_iload C dL_law_1344 (q := 1) rfl ?_
  by_cases hk : k = 0
  · refine lj_if_ne_f (tgt := 1361) C dL_law_1346 (by decide) (by rw [hk]; rfl) ?_
    refine lj_aload_n C dL_law_1349 rfl (q := 4) rfl ?_
    refine lj_iconst (v := 0) C dL_law_1350 (by decide) ?_
    refine lj_laload C hG.1 p3.2.2.2.1.1 (by decide) rfl (vin1 p3.2.2.2.1.2.1) dL_law_1351 ?_
    refine lj_iload C dL_law_1352 (q := 0) rfl ?_
    refine lj_i2l C dL_law_1354 ?_
    refine lj_lcmp C dL_law_1355 (by rw [z0c, ej, hj hk, hw hk]) ?_
    refine lj_if_eq_t (tgt := 1361) C dL_law_1356 (by decide) rfl ?_
    refine lj_goto (tgt := 2500) C dL_law_1361 (by decide) ?_
    exact lj_sub C [2, 3, 4, 5, 6, 7] rfl (kk A' μ3 ⟨p3, ai'⟩)
  · refine lj_if_ne_t (tgt := 1361) C dL_law_1346 (by decide) (nI_n0 (Nat.le_trans kl (by decide)) hk) ?_
    refine lj_goto (tgt := 2500) C dL_law_1361 (by decide) ?_
    exact lj_sub C [2, 3, 4, 5, 6, 7] rfl (kk A' μ3 ⟨p3, ai'⟩)
theorem dL_law_1364 : decode cL_law 1364 = .ok (.aload_n 1, 1) := by decide +kernel
theorem dL_law_1365 : decode cL_law 1365 = .ok (.aload_n 0, 1) := by decide +kernel
theorem dL_law_1366 : decode cL_law 1366 = .ok (.iload 5, 2) := by decide +kernel
theorem dL_law_1368 : decode cL_law 1368 = .ok (.iconst 1, 1) := by decide +kernel
theorem dL_law_1369 : decode cL_law 1369 = .ok (.iadd, 1) := by decide +kernel
theorem dL_law_1370 : decode cL_law 1370 = .ok (.iaload, 1) := by decide +kernel
theorem dL_law_1371 : decode cL_law 1371 = .ok (.aload_n 3, 1) := by decide +kernel
theorem dL_law_1372 : decode cL_law 1372 = .ok (.invokestatic 207, 3) := by decide +kernel
theorem dL_law_1375 : decode cL_law 1375 = .ok (.istore 6, 2) := by decide +kernel
theorem dL_law_1377 : decode cL_law 1377 = .ok (.aload_n 2, 1) := by decide +kernel
theorem dL_law_1378 : decode cL_law 1378 = .ok (.aload_n 0, 1) := by decide +kernel
theorem dL_law_1379 : decode cL_law 1379 = .ok (.iload 5, 2) := by decide +kernel
theorem dL_law_1381 : decode cL_law 1381 = .ok (.iconst 1, 1) := by decide +kernel
theorem dL_law_1382 : decode cL_law 1382 = .ok (.iadd, 1) := by decide +kernel
theorem dL_law_1383 : decode cL_law 1383 = .ok (.iaload, 1) := by decide +kernel
theorem dL_law_1384 : decode cL_law 1384 = .ok (.invokevirtual 209, 3) := by decide +kernel
theorem dL_law_1387 : decode cL_law 1387 = .ok (.istore 7, 2) := by decide +kernel
theorem dL_law_1389 : decode cL_law 1389 = .ok (.aload_n 2, 1) := by decide +kernel
theorem dL_law_1390 : decode cL_law 1390 = .ok (.invokevirtual 137, 3) := by decide +kernel
theorem dL_law_1393 : decode cL_law 1393 = .ok (.iload 6, 2) := by decide +kernel
theorem dL_law_1395 : decode cL_law 1395 = .ok (.if_icmp .eq 5, 3) := by decide +kernel
theorem dL_law_1400 : decode cL_law 1400 = .ok (.iload 6, 2) := by decide +kernel
theorem dL_law_1402 : decode cL_law 1402 = .ok (.ifCond .ne 15, 3) := by decide +kernel
theorem dL_law_1405 : decode cL_law 1405 = .ok (.aload_n 3, 1) := by decide +kernel
theorem dL_law_1406 : decode cL_law 1406 = .ok (.iconst 0, 1) := by decide +kernel
theorem dL_law_1407 : decode cL_law 1407 = .ok (.laload, 1) := by decide +kernel
theorem dL_law_1408 : decode cL_law 1408 = .ok (.iload 7, 2) := by decide +kernel
theorem dL_law_1410 : decode cL_law 1410 = .ok (.i2l, 1) := by decide +kernel
theorem dL_law_1411 : decode cL_law 1411 = .ok (.lcmp, 1) := by decide +kernel
theorem dL_law_1412 : decode cL_law 1412 = .ok (.ifCond .eq 5, 3) := by decide +kernel
theorem dL_law_1417 : decode cL_law 1417 = .ok (.goto 1083, 3) := by decide +kernel
/-! wordByPlain -/
set_option maxRecDepth 100000 in
theorem lc_21 {l : Launch} {G : Gt} {p : Program} {e : Env} {R : Room} {s : State} {m : MethodId} {args : Array Value} {below : List Frame} {meth : Method} {c : Code} {Q : State → Prop} (C : CW G mL_law p R s m meth c) (hG : Gok2 l G) {q0 n : Nat} {xs : Nat → Int32} (hX : va_X q0 n xs G.1 G.1.heap) (hq : q0 < G.1.heap.size) {b z i : Nat} {A : Sx} {μ : Mm} {c1 s1 : Nat} (hi : i + 6 ≤ n) (hn : n ≤ 3072) (h : JV b z A μ) (kk : ∀ A' μ', JV b z A' μ' → LJ l G mL_law p e R s m args below meth c Q 2500 (L0 b q0 i) [] μ' (c1 + PhC A') (s1 + PhS A')) : LJ l G mL_law p e R s m args below meth c Q 1364 (L0 b q0 i) [] μ (c1 + 4 + PhC A) (s1 + 220 + PhS A) := by
  refine lj_wf fun w => ?_
  obtain ⟨k, v, A', μ1, dc, ds, ec, es, kl, ef, p1, hc1, hs1, ai', pc, ps, hg⟩ := op_wordByPlain (x1 := (xs (nI i + 1).toNatClampNeg)) h w
  refine lj_aload_n C dL_law_1364 rfl (q := 4) rfl ?_
  refine lj_aload_n C dL_law_1365 rfl (q := 5) rfl ?_
  refine lj_iload C dL_law_1366 (q := 0) rfl ?_
  refine lj_iconst (v := 1) C dL_law_1368 (by decide) ?_
  refine lj_iadd C dL_law_1369 ?_
  refine lj_sld C hX hq (sI_vin (j := 1) (by decide) (by decide) hi hn) dL_law_1370 ?_
  refine lj_aload_n C dL_law_1371 rfl (q := 2) rfl ?_
  refine lj_callW (As := [.ref b, .int (xs (nI i + 1).toNatClampNeg), .ref (b + 84)]) (c2 := c1 + ec + PhC A') (s2 := s1 + es + PhS A') C hG.1 mw_wordByPlain csL_wordByPlain ⟨by decide, by decide⟩ rfl (wc_wordByPlain hG h.1.kb p1.2.2.2.1.1 p1.2.2.2.1.2.1 ef (fun E q => rOf_in kl q)) (Nat.le_of_ble_eq_true rfl) dL_law_1372 (by omega) (by omega) fun v9 μ2 wp => ?_
  obtain ⟨rfl, p2, hj⟩ := wp_out (by decide) kl p1 wp
  refine lj_istore C dL_law_1375 (by decide) rfl ?_
  refine lj_wf fun w2 => ?_
  obtain ⟨w9, μ3, eg, hw, e54, p3, ej, hc3, hs3⟩ := hg μ2 p2 w2 (p2.n86 w2)
  refine lj_aload_n C dL_law_1377 rfl (q := 4) rfl ?_
  refine lj_aload_n C dL_law_1378 rfl (q := 6) rfl ?_
  refine lj_iload C dL_law_1379 (q := 1) rfl ?_
  refine lj_iconst (v := 1) C dL_law_1381 (by decide) ?_
  refine lj_iadd C dL_law_1382 ?_
  refine lj_sld C hX hq (sI_vin (j := 1) (by decide) (by decide) hi hn) dL_law_1383 ?_
  refine lj_callV (As := [.int (xs (nI i + 1).toNatClampNeg)]) (c2 := c1 + PhC A') (s2 := s1 + PhS A') C hG.1 mf_X11_wordByPlain cvM_wordByPlain p2.km ⟨by decide, by decide⟩ rfl rfl (Nat.le_of_ble_eq_true rfl) (s_X11_wordByPlain hG.1 _ _ _ _ _ eg) (Nat.le_of_ble_eq_true rfl) dL_law_1384 (by omega) (by omega) ?_
  refine lj_istore C dL_law_1387 (by decide) rfl ?_
  refine lj_aload_n C dL_law_1389 rfl (q := 5) rfl ?_
  refine lj_callV (As := []) (c2 := c1 + PhC A') (s2 := s1 + PhS A') C hG.1 mf_X11_thrown cvM_thrown p3.km ⟨by decide, by decide⟩ rfl rfl (Nat.le_of_ble_eq_true rfl) (s_X11_thrown hG.1 _ _ _ (m_thrown p3.km e54)) (Nat.le_of_ble_eq_true rfl) dL_law_1390 (Nat.le_refl _) (Nat.le_refl _) ?_
  refine lj_iload C dL_law_1393 (q := 1) rfl ?_
  refine lj_icmp_eq_t (tgt := 1400) C dL_law_1395 (by decide) rfl ?_
  refine lj_iload C dL_law_1400 (q := 1) rfl ?_
  by_cases hk : k = 0
  · refine lj_if_ne_f (tgt := 1417) C dL_law_1402 (by decide) (by rw [hk]; rfl) ?_
    refine lj_aload_n C dL_law_1405 rfl (q := 4) rfl ?_
    refine lj_iconst (v := 0) C dL_law_1406 (by decide) ?_
    refine lj_laload C hG.1 p3.2.2.2.1.1 (by decide) rfl (vin1 p3.2.2.2.1.2.1) dL_law_1407 ?_
    refine lj_iload C dL_law_1408 (q := 0) rfl ?_
    refine lj_i2l C dL_law_1410 ?_
    refine lj_lcmp C dL_law_1411 (by rw [z0c, ej, hj hk, hw hk]) ?_
    refine lj_if_eq_t (tgt := 1417) C dL_law_1412 (by decide) rfl ?_
    refine lj_goto (tgt := 2500) C dL_law_1417 (by decide) ?_
    exact lj_sub C [2, 3, 4, 5, 6, 7] rfl (kk A' μ3 ⟨p3, ai'⟩)
  · refine lj_if_ne_t (tgt := 1417) C dL_law_1402 (by decide) (nI_n0 (Nat.le_trans kl (by decide)) hk) ?_
    refine lj_goto (tgt := 2500) C dL_law_1417 (by decide) ?_
    exact lj_sub C [2, 3, 4, 5, 6, 7] rfl (kk A' μ3 ⟨p3, ai'⟩)
