/-! the law's methods that catch: what they answer -/
abbrev exIAE : String := "java/lang/IllegalArgumentException"
abbrev exISE : String := "java/lang/IllegalStateException"
abbrev exIOB : String := "java/lang/IndexOutOfBoundsException"
abbrev exNSE : String := "java/util/NoSuchElementException"
/-- .. and that some exceptions aren't others; and the law's own texts -/
def Gok2 (l : Launch) (G : Gt) : Prop := Gok l G ∧ va_Nc exISE exIAE G.1 ∧ va_Nc exIAE exIOB G.1 ∧ va_Nc exNSE exIOB G.1 ∧ va_Nc exNSE exIAE G.1
theorem CT.hd {G : Gt} {own E : String} {x : ExceptionTableEntry} {suf : List ExceptionTableEntry} {pc hp : Nat} (h1 : covers x pc = true) (h2 : x.catchType ≠ 0) (h3 : Cond.classLink own x.catchType E ∈ lw_tbl) (h4 : Cond.castable E E ∈ lw_tbl) (h5 : x.handlerPc = hp) : CT G own (x :: suf) pc E hp := ⟨[], x, suf, E, rfl, fun z hz => absurd hz List.not_mem_nil, h1, h2, h3, h4, h5⟩
theorem CT.tl {G : Gt} {own E nm : String} {x : ExceptionTableEntry} {suf : List ExceptionTableEntry} {pc hp : Nat} (h2 : x.catchType ≠ 0) (h3 : Cond.classLink own x.catchType nm ∈ lw_tbl) (h4 : va_Nc E nm G.1) (h : CT G own suf pc E hp) : CT G own (x :: suf) pc E hp := by
  obtain ⟨pre, y, suf2, nm2, w1, w2, w3⟩ := h
  refine ⟨x :: pre, y, suf2, nm2, by rw [w1]; rfl, fun z hz => ?_, w3⟩
  rcases List.mem_cons.mp hz with e | e
  · rw [e]
    exact Or.inr ⟨h2, nm, h3, h4⟩
  · exact w2 z e
theorem CT.sk {G : Gt} {own E : String} {x : ExceptionTableEntry} {suf : List ExceptionTableEntry} {pc hp : Nat} (h1 : covers x pc = false) (h : CT G own suf pc E hp) : CT G own (x :: suf) pc E hp := by
  obtain ⟨pre, y, suf2, nm2, w1, w2, w3⟩ := h
  refine ⟨x :: pre, y, suf2, nm2, by rw [w1]; rfl, fun z hz => ?_, w3⟩
  rcases List.mem_cons.mp hz with e | e
  · rw [e]
    exact Or.inl h1
  · exact w2 z e
theorem clexIAE : Cond.classLink RL 13 exIAE ∈ lw_tbl := List.mem_of_getElem? (i := 499) (by decide +kernel)
theorem ccexIAE : Cond.castable exIAE exIAE ∈ lw_tbl := List.mem_of_getElem? (i := 513) (by decide +kernel)
theorem clexISE : Cond.classLink RL 16 exISE ∈ lw_tbl := List.mem_of_getElem? (i := 500) (by decide +kernel)
theorem ccexISE : Cond.castable exISE exISE ∈ lw_tbl := List.mem_of_getElem? (i := 577) (by decide +kernel)
theorem clexIOB : Cond.classLink RL 80 exIOB ∈ lw_tbl := List.mem_of_getElem? (i := 1226) (by decide +kernel)
theorem ccexIOB : Cond.castable exIOB exIOB ∈ lw_tbl := List.mem_of_getElem? (i := 1237) (by decide +kernel)
theorem clexNSE : Cond.classLink RL 86 exNSE ∈ lw_tbl := List.mem_of_getElem? (i := 1299) (by decide +kernel)
theorem ccexNSE : Cond.castable exNSE exNSE ∈ lw_tbl := List.mem_of_getElem? (i := 1306) (by decide +kernel)
/-- the number of an exception -/
def exv (r : Int32 ⊕ String) : Int32 := match r with
  | .inl w => w
  | .inr E => if E = exIAE then -2000000002 else if E = exISE then -2000000003 else if E = exIOB then -2000000001 else -2000000005
theorem exv_IAE : exv (.inr exIAE) = -2000000002 := by decide +kernel
theorem exv_ISE : exv (.inr exISE) = -2000000003 := by decide +kernel
theorem exv_IOB : exv (.inr exIOB) = -2000000001 := by decide +kernel
theorem exv_NSE : exv (.inr exNSE) = -2000000005 := by decide +kernel
def WPx (v0 : Value) (μ1 : Mm) (v : Value) (μ2 : Mm) : Prop := v = v0 ∧ (μ2 = μ1 ∨ ∃ N, μ2 = sN μ1 N)
/-- the values of the row that add reads -/
def IV5 (μ : Mm) (a : Nat) (x0 x1 x2 x3 x4 : Int32) : Prop := mK μ a = 31 ∧ mL μ a = 5 ∧ mI μ a 0 = x0 ∧ mI μ a 1 = x1 ∧ mI μ a 2 = x2 ∧ mI μ a 3 = x3 ∧ mI μ a 4 = x4
theorem vin5 {n j : Nat} {x : Int32} (h : n = 5) (hj : j < 5) (hx : x = nI j) : vp_in x n := by
  subst h
  rw [hx]
  exact nI_in hj (by decide)
theorem dL_add_0 : decode cL_add 0 = .ok (.aload_n 0, 1) := by decide +kernel
theorem dL_add_1 : decode cL_add 1 = .ok (.aload_n 1, 1) := by decide +kernel
theorem dL_add_2 : decode cL_add 2 = .ok (.iconst 0, 1) := by decide +kernel
theorem dL_add_3 : decode cL_add 3 = .ok (.iaload, 1) := by decide +kernel
theorem dL_add_4 : decode cL_add 4 = .ok (.aload_n 1, 1) := by decide +kernel
theorem dL_add_5 : decode cL_add 5 = .ok (.iconst 1, 1) := by decide +kernel
theorem dL_add_6 : decode cL_add 6 = .ok (.iaload, 1) := by decide +kernel
theorem dL_add_7 : decode cL_add 7 = .ok (.aload_n 1, 1) := by decide +kernel
theorem dL_add_8 : decode cL_add 8 = .ok (.iconst 2, 1) := by decide +kernel
theorem dL_add_9 : decode cL_add 9 = .ok (.iaload, 1) := by decide +kernel
theorem dL_add_10 : decode cL_add 10 = .ok (.aload_n 1, 1) := by decide +kernel
theorem dL_add_11 : decode cL_add 11 = .ok (.iconst 3, 1) := by decide +kernel
theorem dL_add_12 : decode cL_add 12 = .ok (.iaload, 1) := by decide +kernel
theorem dL_add_13 : decode cL_add 13 = .ok (.aload_n 1, 1) := by decide +kernel
theorem dL_add_14 : decode cL_add 14 = .ok (.iconst 4, 1) := by decide +kernel
theorem dL_add_15 : decode cL_add 15 = .ok (.iaload, 1) := by decide +kernel
theorem dL_add_16 : decode cL_add 16 = .ok (.invokevirtual 7, 3) := by decide +kernel
theorem dL_add_19 : decode cL_add 19 = .ok (.ireturn, 1) := by decide +kernel
theorem dL_add_20 : decode cL_add 20 = .ok (.astore_n 2, 1) := by decide +kernel
theorem dL_add_21 : decode cL_add 21 = .ok (.ldc 15, 2) := by decide +kernel
theorem dL_add_23 : decode cL_add 23 = .ok (.ireturn, 1) := by decide +kernel
theorem dL_add_24 : decode cL_add 24 = .ok (.astore_n 2, 1) := by decide +kernel
theorem dL_add_25 : decode cL_add 25 = .ok (.ldc 18, 2) := by decide +kernel
theorem dL_add_27 : decode cL_add 27 = .ok (.ireturn, 1) := by decide +kernel
def mL_add : MD := (cL_add, RL, yL_add, 3, some .int, 8, 218)
abbrev hL_add : List (Nat × Nat × Nat × Nat) := [(0, 19, 20, 13), (0, 19, 24, 16)]
theorem mw_add : MW mL_add hL_add 2 := MW.of 498 38 (by decide +kernel) (by decide +kernel) (by decide +kernel) (by decide +kernel) (by decide +kernel) rfl
theorem cvL_7 : CVs RL 7 mX10_add 11 := CVs.of 501 502 503 (by decide +kernel) (by decide +kernel) (by decide +kernel) _ rfl rfl
theorem dL_set_0 : decode cL_set 0 = .ok (.iload_n 1, 1) := by decide +kernel
theorem dL_set_1 : decode cL_set 1 = .ok (.tableswitch 155 98 119 #[123, 155, 117, 155, 155, 155, 141, 135, 155, 155, 155, 155, 155, 155, 155, 129, 103, 155, 148, 155, 155, 110], 103) := by decide +kernel
theorem dL_set_104 : decode cL_set 104 = .ok (.aload_n 0, 1) := by decide +kernel
theorem dL_set_105 : decode cL_set 105 = .ok (.iload_n 2, 1) := by decide +kernel
theorem dL_set_106 : decode cL_set 106 = .ok (.iload_n 3, 1) := by decide +kernel
theorem dL_set_107 : decode cL_set 107 = .ok (.invokevirtual 19, 3) := by decide +kernel
theorem dL_set_110 : decode cL_set 110 = .ok (.ireturn, 1) := by decide +kernel
theorem dL_set_111 : decode cL_set 111 = .ok (.aload_n 0, 1) := by decide +kernel
theorem dL_set_112 : decode cL_set 112 = .ok (.iload_n 2, 1) := by decide +kernel
theorem dL_set_113 : decode cL_set 113 = .ok (.iload_n 3, 1) := by decide +kernel
theorem dL_set_114 : decode cL_set 114 = .ok (.invokevirtual 23, 3) := by decide +kernel
theorem dL_set_117 : decode cL_set 117 = .ok (.ireturn, 1) := by decide +kernel
theorem dL_set_118 : decode cL_set 118 = .ok (.aload_n 0, 1) := by decide +kernel
theorem dL_set_119 : decode cL_set 119 = .ok (.iload_n 2, 1) := by decide +kernel
theorem dL_set_120 : decode cL_set 120 = .ok (.invokevirtual 26, 3) := by decide +kernel
theorem dL_set_123 : decode cL_set 123 = .ok (.ireturn, 1) := by decide +kernel
theorem dL_set_124 : decode cL_set 124 = .ok (.aload_n 0, 1) := by decide +kernel
theorem dL_set_125 : decode cL_set 125 = .ok (.iload_n 2, 1) := by decide +kernel
theorem dL_set_126 : decode cL_set 126 = .ok (.invokevirtual 30, 3) := by decide +kernel
theorem dL_set_129 : decode cL_set 129 = .ok (.ireturn, 1) := by decide +kernel
theorem dL_set_130 : decode cL_set 130 = .ok (.aload_n 0, 1) := by decide +kernel
theorem dL_set_131 : decode cL_set 131 = .ok (.iload_n 2, 1) := by decide +kernel
theorem dL_set_132 : decode cL_set 132 = .ok (.invokevirtual 33, 3) := by decide +kernel
theorem dL_set_135 : decode cL_set 135 = .ok (.ireturn, 1) := by decide +kernel
theorem dL_set_136 : decode cL_set 136 = .ok (.aload_n 0, 1) := by decide +kernel
theorem dL_set_137 : decode cL_set 137 = .ok (.iload_n 2, 1) := by decide +kernel
theorem dL_set_138 : decode cL_set 138 = .ok (.invokevirtual 36, 3) := by decide +kernel
theorem dL_set_141 : decode cL_set 141 = .ok (.ireturn, 1) := by decide +kernel
theorem dL_set_142 : decode cL_set 142 = .ok (.aload_n 0, 1) := by decide +kernel
theorem dL_set_143 : decode cL_set 143 = .ok (.iload_n 2, 1) := by decide +kernel
theorem dL_set_144 : decode cL_set 144 = .ok (.iload_n 3, 1) := by decide +kernel
theorem dL_set_145 : decode cL_set 145 = .ok (.invokevirtual 39, 3) := by decide +kernel
theorem dL_set_148 : decode cL_set 148 = .ok (.ireturn, 1) := by decide +kernel
theorem dL_set_149 : decode cL_set 149 = .ok (.aload_n 0, 1) := by decide +kernel
theorem dL_set_150 : decode cL_set 150 = .ok (.iload_n 2, 1) := by decide +kernel
theorem dL_set_151 : decode cL_set 151 = .ok (.iload_n 3, 1) := by decide +kernel
theorem dL_set_152 : decode cL_set 152 = .ok (.invokevirtual 42, 3) := by decide +kernel
theorem dL_set_155 : decode cL_set 155 = .ok (.ireturn, 1) := by decide +kernel
theorem dL_set_156 : decode cL_set 156 = .ok (.aload_n 0, 1) := by decide +kernel
theorem dL_set_157 : decode cL_set 157 = .ok (.iload_n 2, 1) := by decide +kernel
theorem dL_set_158 : decode cL_set 158 = .ok (.invokevirtual 45, 3) := by decide +kernel
theorem dL_set_161 : decode cL_set 161 = .ok (.ireturn, 1) := by decide +kernel
theorem dL_set_162 : decode cL_set 162 = .ok (.astore 4, 2) := by decide +kernel
theorem dL_set_164 : decode cL_set 164 = .ok (.ldc 15, 2) := by decide +kernel
theorem dL_set_166 : decode cL_set 166 = .ok (.ireturn, 1) := by decide +kernel
theorem dL_set_167 : decode cL_set 167 = .ok (.astore 4, 2) := by decide +kernel
theorem dL_set_169 : decode cL_set 169 = .ok (.ldc 18, 2) := by decide +kernel
theorem dL_set_171 : decode cL_set 171 = .ok (.ireturn, 1) := by decide +kernel
def mL_set : MD := (cL_set, RL, yL_set, 5, some .int, 12, 302)
abbrev hL_set : List (Nat × Nat × Nat × Nat) := [(0, 110, 162, 13), (111, 117, 162, 13), (118, 123, 162, 13), (124, 129, 162, 13), (130, 135, 162, 13), (136, 141, 162, 13), (142, 148, 162, 13), (149, 155, 162, 13), (156, 161, 162, 13), (0, 110, 167, 16), (111, 117, 167, 16), (118, 123, 167, 16), (124, 129, 167, 16), (130, 135, 167, 16), (136, 141, 167, 16), (142, 148, 167, 16), (149, 155, 167, 16), (156, 161, 167, 16)]
theorem mw_set : MW mL_set hL_set 4 := MW.of 698 38 (by decide +kernel) (by decide +kernel) (by decide +kernel) (by decide +kernel) (by decide +kernel) rfl
theorem cvL_19 : CVs RL 19 mX10_setRegister 11 := CVs.of 699 700 701 (by decide +kernel) (by decide +kernel) (by decide +kernel) _ rfl rfl
theorem cvL_23 : CVs RL 23 mX10_setWord 11 := CVs.of 703 704 705 (by decide +kernel) (by decide +kernel) (by decide +kernel) _ rfl rfl
theorem cvL_26 : CVs RL 26 mX10_setWidth 11 := CVs.of 710 711 712 (by decide +kernel) (by decide +kernel) (by decide +kernel) _ rfl rfl
theorem cvL_30 : CVs RL 30 mX10_setBuffer 11 := CVs.of 714 715 716 (by decide +kernel) (by decide +kernel) (by decide +kernel) _ rfl rfl
theorem cvL_33 : CVs RL 33 mX10_setQueue 11 := CVs.of 718 719 720 (by decide +kernel) (by decide +kernel) (by decide +kernel) _ rfl rfl
theorem cvL_36 : CVs RL 36 mX10_setInner 11 := CVs.of 722 723 724 (by decide +kernel) (by decide +kernel) (by decide +kernel) _ rfl rfl
theorem cvL_39 : CVs RL 39 mX10_setHandlers 11 := CVs.of 727 728 729 (by decide +kernel) (by decide +kernel) (by decide +kernel) _ rfl rfl
theorem cvL_42 : CVs RL 42 mX10_setTime 11 := CVs.of 734 735 736 (by decide +kernel) (by decide +kernel) (by decide +kernel) _ rfl rfl
theorem cvL_45 : CVs RL 45 mX10_run 11 := CVs.of 738 739 740 (by decide +kernel) (by decide +kernel) (by decide +kernel) _ rfl rfl
theorem dL_at__0 : decode cL_at_ 0 = .ok (.iload_n 1, 1) := by decide +kernel
theorem dL_at__1 : decode cL_at_ 1 = .ok (.tableswitch 173 98 121 #[135, 173, 173, 173, 147, 173, 173, 173, 173, 111, 123, 173, 173, 173, 117, 129, 173, 141, 153, 173, 173, 173, 173, 159], 111) := by decide +kernel
theorem dL_at__112 : decode cL_at_ 112 = .ok (.aload_n 0, 1) := by decide +kernel
theorem dL_at__113 : decode cL_at_ 113 = .ok (.iload_n 2, 1) := by decide +kernel
theorem dL_at__114 : decode cL_at_ 114 = .ok (.invokevirtual 48, 3) := by decide +kernel
theorem dL_at__117 : decode cL_at_ 117 = .ok (.ireturn, 1) := by decide +kernel
theorem dL_at__118 : decode cL_at_ 118 = .ok (.aload_n 0, 1) := by decide +kernel
theorem dL_at__119 : decode cL_at_ 119 = .ok (.iload_n 2, 1) := by decide +kernel
theorem dL_at__120 : decode cL_at_ 120 = .ok (.invokevirtual 51, 3) := by decide +kernel
theorem dL_at__123 : decode cL_at_ 123 = .ok (.ireturn, 1) := by decide +kernel
theorem dL_at__124 : decode cL_at_ 124 = .ok (.aload_n 0, 1) := by decide +kernel
theorem dL_at__125 : decode cL_at_ 125 = .ok (.iload_n 2, 1) := by decide +kernel
theorem dL_at__126 : decode cL_at_ 126 = .ok (.invokevirtual 54, 3) := by decide +kernel
theorem dL_at__129 : decode cL_at_ 129 = .ok (.ireturn, 1) := by decide +kernel
theorem dL_at__130 : decode cL_at_ 130 = .ok (.aload_n 0, 1) := by decide +kernel
theorem dL_at__131 : decode cL_at_ 131 = .ok (.iload_n 2, 1) := by decide +kernel
theorem dL_at__132 : decode cL_at_ 132 = .ok (.invokevirtual 57, 3) := by decide +kernel
theorem dL_at__135 : decode cL_at_ 135 = .ok (.ireturn, 1) := by decide +kernel
theorem dL_at__136 : decode cL_at_ 136 = .ok (.aload_n 0, 1) := by decide +kernel
theorem dL_at__137 : decode cL_at_ 137 = .ok (.iload_n 2, 1) := by decide +kernel
theorem dL_at__138 : decode cL_at_ 138 = .ok (.invokevirtual 60, 3) := by decide +kernel
theorem dL_at__141 : decode cL_at_ 141 = .ok (.ireturn, 1) := by decide +kernel
theorem dL_at__142 : decode cL_at_ 142 = .ok (.aload_n 0, 1) := by decide +kernel
theorem dL_at__143 : decode cL_at_ 143 = .ok (.iload_n 2, 1) := by decide +kernel
theorem dL_at__144 : decode cL_at_ 144 = .ok (.invokevirtual 63, 3) := by decide +kernel
theorem dL_at__147 : decode cL_at_ 147 = .ok (.ireturn, 1) := by decide +kernel
theorem dL_at__148 : decode cL_at_ 148 = .ok (.aload_n 0, 1) := by decide +kernel
theorem dL_at__149 : decode cL_at_ 149 = .ok (.iload_n 2, 1) := by decide +kernel
theorem dL_at__150 : decode cL_at_ 150 = .ok (.invokevirtual 67, 3) := by decide +kernel
theorem dL_at__153 : decode cL_at_ 153 = .ok (.ireturn, 1) := by decide +kernel
theorem dL_at__154 : decode cL_at_ 154 = .ok (.aload_n 0, 1) := by decide +kernel
theorem dL_at__155 : decode cL_at_ 155 = .ok (.iload_n 2, 1) := by decide +kernel
theorem dL_at__156 : decode cL_at_ 156 = .ok (.invokevirtual 70, 3) := by decide +kernel
theorem dL_at__159 : decode cL_at_ 159 = .ok (.ireturn, 1) := by decide +kernel
theorem dL_at__160 : decode cL_at_ 160 = .ok (.aload_n 0, 1) := by decide +kernel
theorem dL_at__161 : decode cL_at_ 161 = .ok (.iload_n 2, 1) := by decide +kernel
theorem dL_at__162 : decode cL_at_ 162 = .ok (.invokevirtual 73, 3) := by decide +kernel
theorem dL_at__165 : decode cL_at_ 165 = .ok (.ifCond .eq 7, 3) := by decide +kernel
theorem dL_at__168 : decode cL_at_ 168 = .ok (.iconst 1, 1) := by decide +kernel
theorem dL_at__169 : decode cL_at_ 169 = .ok (.goto 4, 3) := by decide +kernel
theorem dL_at__172 : decode cL_at_ 172 = .ok (.iconst 0, 1) := by decide +kernel
theorem dL_at__173 : decode cL_at_ 173 = .ok (.ireturn, 1) := by decide +kernel
theorem dL_at__174 : decode cL_at_ 174 = .ok (.aload_n 0, 1) := by decide +kernel
theorem dL_at__175 : decode cL_at_ 175 = .ok (.iload_n 2, 1) := by decide +kernel
theorem dL_at__176 : decode cL_at_ 176 = .ok (.invokevirtual 77, 3) := by decide +kernel
theorem dL_at__179 : decode cL_at_ 179 = .ok (.ireturn, 1) := by decide +kernel
theorem dL_at__180 : decode cL_at_ 180 = .ok (.astore_n 3, 1) := by decide +kernel
theorem dL_at__181 : decode cL_at_ 181 = .ok (.ldc 82, 2) := by decide +kernel
theorem dL_at__183 : decode cL_at_ 183 = .ok (.ireturn, 1) := by decide +kernel
def mL_at_ : MD := (cL_at_, RL, yL_at_, 4, some .int, 7, 112)
abbrev hL_at_ : List (Nat × Nat × Nat × Nat) := [(0, 117, 180, 80), (118, 123, 180, 80), (124, 129, 180, 80), (130, 135, 180, 80), (136, 141, 180, 80), (142, 147, 180, 80), (148, 153, 180, 80), (154, 159, 180, 80), (160, 173, 180, 80), (174, 179, 180, 80)]
theorem mw_at_ : MW mL_at_ hL_at_ 3 := MW.of 1225 38 (by decide +kernel) (by decide +kernel) (by decide +kernel) (by decide +kernel) (by decide +kernel) rfl
theorem cvL_48 : CVs RL 48 mX10_kindAt 11 := CVs.of 1227 1228 1229 (by decide +kernel) (by decide +kernel) (by decide +kernel) _ rfl rfl
theorem cvL_51 : CVs RL 51 mX10_placeAt 11 := CVs.of 1252 1253 1254 (by decide +kernel) (by decide +kernel) (by decide +kernel) _ rfl rfl
theorem cvL_54 : CVs RL 54 mX10_kindByPlain 11 := CVs.of 1256 1257 1258 (by decide +kernel) (by decide +kernel) (by decide +kernel) _ rfl rfl
theorem cvL_57 : CVs RL 57 mX10_placeByPlain 11 := CVs.of 1260 1261 1262 (by decide +kernel) (by decide +kernel) (by decide +kernel) _ rfl rfl
theorem cvL_60 : CVs RL 60 mX10_bufferAt 11 := CVs.of 1264 1265 1266 (by decide +kernel) (by decide +kernel) (by decide +kernel) _ rfl rfl
theorem cvL_63 : CVs RL 63 mX10_stageAt 11 := CVs.of 1269 1270 1271 (by decide +kernel) (by decide +kernel) (by decide +kernel) _ rfl rfl
theorem cvL_67 : CVs RL 67 mX10_freeAt 11 := CVs.of 1273 1274 1275 (by decide +kernel) (by decide +kernel) (by decide +kernel) _ rfl rfl
theorem cvL_70 : CVs RL 70 mX10_stateOf 11 := CVs.of 1277 1278 1279 (by decide +kernel) (by decide +kernel) (by decide +kernel) _ rfl rfl
theorem cvL_73 : CVs RL 73 mX10_isReady 11 := CVs.of 1286 1287 1288 (by decide +kernel) (by decide +kernel) (by decide +kernel) _ rfl rfl
theorem cvL_77 : CVs RL 77 mX10_returnAt 11 := CVs.of 1291 1292 1293 (by decide +kernel) (by decide +kernel) (by decide +kernel) _ rfl rfl
theorem dL_life_0 : decode cL_life 0 = .ok (.aload_n 0, 1) := by decide +kernel
theorem dL_life_1 : decode cL_life 1 = .ok (.iload_n 1, 1) := by decide +kernel
theorem dL_life_2 : decode cL_life 2 = .ok (.iload_n 2, 1) := by decide +kernel
theorem dL_life_3 : decode cL_life 3 = .ok (.invokevirtual 83, 3) := by decide +kernel
theorem dL_life_6 : decode cL_life 6 = .ok (.ireturn, 1) := by decide +kernel
theorem dL_life_7 : decode cL_life 7 = .ok (.astore_n 3, 1) := by decide +kernel
theorem dL_life_8 : decode cL_life 8 = .ok (.ldc 82, 2) := by decide +kernel
theorem dL_life_10 : decode cL_life 10 = .ok (.ireturn, 1) := by decide +kernel
theorem dL_life_11 : decode cL_life 11 = .ok (.astore_n 3, 1) := by decide +kernel
theorem dL_life_12 : decode cL_life 12 = .ok (.ldc 15, 2) := by decide +kernel
theorem dL_life_14 : decode cL_life 14 = .ok (.ireturn, 1) := by decide +kernel
theorem dL_life_15 : decode cL_life 15 = .ok (.astore_n 3, 1) := by decide +kernel
theorem dL_life_16 : decode cL_life 16 = .ok (.ldc 88, 2) := by decide +kernel
theorem dL_life_18 : decode cL_life 18 = .ok (.ireturn, 1) := by decide +kernel
def mL_life : MD := (cL_life, RL, yL_life, 4, some .int, 7, 113)
abbrev hL_life : List (Nat × Nat × Nat × Nat) := [(0, 6, 7, 80), (0, 6, 11, 13), (0, 6, 15, 86)]
theorem mw_life : MW mL_life hL_life 3 := MW.of 1298 38 (by decide +kernel) (by decide +kernel) (by decide +kernel) (by decide +kernel) (by decide +kernel) rfl
theorem cvL_83 : CVs RL 83 mX10_life 11 := CVs.of 1300 1301 1302 (by decide +kernel) (by decide +kernel) (by decide +kernel) _ rfl rfl
theorem dL_of_0 : decode cL_of 0 = .ok (.iload_n 1, 1) := by decide +kernel
theorem dL_of_1 : decode cL_of 1 = .ok (.tableswitch 173 99 119 #[135, 173, 173, 173, 173, 173, 123, 129, 168, 155, 141, 173, 161, 173, 105, 99, 173, 173, 173, 117, 111], 99) := by decide +kernel
theorem dL_of_100 : decode cL_of 100 = .ok (.aload_n 0, 1) := by decide +kernel
theorem dL_of_101 : decode cL_of 101 = .ok (.iload_n 2, 1) := by decide +kernel
theorem dL_of_102 : decode cL_of 102 = .ok (.invokevirtual 89, 3) := by decide +kernel
theorem dL_of_105 : decode cL_of 105 = .ok (.ireturn, 1) := by decide +kernel
theorem dL_of_106 : decode cL_of 106 = .ok (.aload_n 0, 1) := by decide +kernel
theorem dL_of_107 : decode cL_of 107 = .ok (.iload_n 2, 1) := by decide +kernel
theorem dL_of_108 : decode cL_of 108 = .ok (.invokevirtual 92, 3) := by decide +kernel
theorem dL_of_111 : decode cL_of 111 = .ok (.ireturn, 1) := by decide +kernel
theorem dL_of_112 : decode cL_of 112 = .ok (.aload_n 0, 1) := by decide +kernel
theorem dL_of_113 : decode cL_of 113 = .ok (.iload_n 2, 1) := by decide +kernel
theorem dL_of_114 : decode cL_of 114 = .ok (.invokevirtual 95, 3) := by decide +kernel
theorem dL_of_117 : decode cL_of 117 = .ok (.ireturn, 1) := by decide +kernel
theorem dL_of_118 : decode cL_of 118 = .ok (.aload_n 0, 1) := by decide +kernel
theorem dL_of_119 : decode cL_of 119 = .ok (.iload_n 2, 1) := by decide +kernel
theorem dL_of_120 : decode cL_of 120 = .ok (.invokevirtual 98, 3) := by decide +kernel
theorem dL_of_123 : decode cL_of 123 = .ok (.ireturn, 1) := by decide +kernel
theorem dL_of_124 : decode cL_of 124 = .ok (.aload_n 0, 1) := by decide +kernel
theorem dL_of_125 : decode cL_of 125 = .ok (.iload_n 2, 1) := by decide +kernel
theorem dL_of_126 : decode cL_of 126 = .ok (.invokevirtual 101, 3) := by decide +kernel
theorem dL_of_129 : decode cL_of 129 = .ok (.ireturn, 1) := by decide +kernel
theorem dL_of_130 : decode cL_of 130 = .ok (.aload_n 0, 1) := by decide +kernel
theorem dL_of_131 : decode cL_of 131 = .ok (.iload_n 2, 1) := by decide +kernel
theorem dL_of_132 : decode cL_of 132 = .ok (.invokevirtual 104, 3) := by decide +kernel
theorem dL_of_135 : decode cL_of 135 = .ok (.ireturn, 1) := by decide +kernel
theorem dL_of_136 : decode cL_of 136 = .ok (.aload_n 0, 1) := by decide +kernel
theorem dL_of_137 : decode cL_of 137 = .ok (.iload_n 2, 1) := by decide +kernel
theorem dL_of_138 : decode cL_of 138 = .ok (.invokevirtual 107, 3) := by decide +kernel
theorem dL_of_141 : decode cL_of 141 = .ok (.ireturn, 1) := by decide +kernel
theorem dL_of_142 : decode cL_of 142 = .ok (.aload_n 0, 1) := by decide +kernel
theorem dL_of_143 : decode cL_of 143 = .ok (.iload_n 2, 1) := by decide +kernel
theorem dL_of_144 : decode cL_of 144 = .ok (.invokevirtual 110, 3) := by decide +kernel
theorem dL_of_147 : decode cL_of 147 = .ok (.ifCond .eq 7, 3) := by decide +kernel
theorem dL_of_150 : decode cL_of 150 = .ok (.iconst 1, 1) := by decide +kernel
theorem dL_of_151 : decode cL_of 151 = .ok (.goto 4, 3) := by decide +kernel
theorem dL_of_154 : decode cL_of 154 = .ok (.iconst 0, 1) := by decide +kernel
theorem dL_of_155 : decode cL_of 155 = .ok (.ireturn, 1) := by decide +kernel
theorem dL_of_156 : decode cL_of 156 = .ok (.aload_n 0, 1) := by decide +kernel
theorem dL_of_157 : decode cL_of 157 = .ok (.iload_n 2, 1) := by decide +kernel
theorem dL_of_158 : decode cL_of 158 = .ok (.invokevirtual 113, 3) := by decide +kernel
theorem dL_of_161 : decode cL_of 161 = .ok (.ireturn, 1) := by decide +kernel
theorem dL_of_162 : decode cL_of 162 = .ok (.aload_n 0, 1) := by decide +kernel
theorem dL_of_163 : decode cL_of 163 = .ok (.iload_n 2, 1) := by decide +kernel
theorem dL_of_164 : decode cL_of 164 = .ok (.i2c, 1) := by decide +kernel
theorem dL_of_165 : decode cL_of 165 = .ok (.invokevirtual 116, 3) := by decide +kernel
theorem dL_of_168 : decode cL_of 168 = .ok (.ireturn, 1) := by decide +kernel
theorem dL_of_169 : decode cL_of 169 = .ok (.aload_n 0, 1) := by decide +kernel
theorem dL_of_170 : decode cL_of 170 = .ok (.invokevirtual 120, 3) := by decide +kernel
theorem dL_of_173 : decode cL_of 173 = .ok (.ireturn, 1) := by decide +kernel
theorem dL_of_174 : decode cL_of 174 = .ok (.aload_n 0, 1) := by decide +kernel
theorem dL_of_175 : decode cL_of 175 = .ok (.invokevirtual 124, 3) := by decide +kernel
theorem dL_of_178 : decode cL_of 178 = .ok (.ireturn, 1) := by decide +kernel
theorem dL_of_179 : decode cL_of 179 = .ok (.astore_n 3, 1) := by decide +kernel
theorem dL_of_180 : decode cL_of 180 = .ok (.ldc 15, 2) := by decide +kernel
theorem dL_of_182 : decode cL_of 182 = .ok (.ireturn, 1) := by decide +kernel
theorem dL_of_183 : decode cL_of 183 = .ok (.astore_n 3, 1) := by decide +kernel
theorem dL_of_184 : decode cL_of 184 = .ok (.ldc 88, 2) := by decide +kernel
theorem dL_of_186 : decode cL_of 186 = .ok (.ireturn, 1) := by decide +kernel
def mL_of : MD := (cL_of, RL, yL_of, 4, some .int, 7, 163)
abbrev hL_of : List (Nat × Nat × Nat × Nat) := [(0, 105, 179, 13), (106, 111, 179, 13), (112, 117, 179, 13), (118, 123, 179, 13), (124, 129, 179, 13), (130, 135, 179, 13), (136, 141, 179, 13), (142, 155, 179, 13), (156, 161, 179, 13), (162, 168, 179, 13), (169, 173, 179, 13), (174, 178, 179, 13), (0, 105, 183, 86), (106, 111, 183, 86), (112, 117, 183, 86), (118, 123, 183, 86), (124, 129, 183, 86), (130, 135, 183, 86), (136, 141, 183, 86), (142, 155, 183, 86), (156, 161, 183, 86), (162, 168, 183, 86), (169, 173, 183, 86), (174, 178, 183, 86)]
theorem mw_of : MW mL_of hL_of 3 := MW.of 1322 38 (by decide +kernel) (by decide +kernel) (by decide +kernel) (by decide +kernel) (by decide +kernel) rfl
theorem cvL_89 : CVs RL 89 mX10_register 11 := CVs.of 1323 1324 1325 (by decide +kernel) (by decide +kernel) (by decide +kernel) _ rfl rfl
theorem cvL_92 : CVs RL 92 mX10_registerByPlain 11 := CVs.of 1328 1329 1330 (by decide +kernel) (by decide +kernel) (by decide +kernel) _ rfl rfl
theorem cvL_95 : CVs RL 95 mX10_word 11 := CVs.of 1332 1333 1334 (by decide +kernel) (by decide +kernel) (by decide +kernel) _ rfl rfl
theorem cvL_98 : CVs RL 98 mX10_wordByPlain 11 := CVs.of 1336 1337 1338 (by decide +kernel) (by decide +kernel) (by decide +kernel) _ rfl rfl
theorem cvL_101 : CVs RL 101 mX10_inner 11 := CVs.of 1340 1341 1342 (by decide +kernel) (by decide +kernel) (by decide +kernel) _ rfl rfl
theorem cvL_104 : CVs RL 104 mX10_innerAnew 11 := CVs.of 1344 1345 1346 (by decide +kernel) (by decide +kernel) (by decide +kernel) _ rfl rfl
theorem cvL_107 : CVs RL 107 mX10_counter 11 := CVs.of 1352 1353 1354 (by decide +kernel) (by decide +kernel) (by decide +kernel) _ rfl rfl
theorem cvL_110 : CVs RL 110 mX10_isMarked 11 := CVs.of 1356 1357 1358 (by decide +kernel) (by decide +kernel) (by decide +kernel) _ rfl rfl
theorem cvL_113 : CVs RL 113 mX10_lineAt 11 := CVs.of 1360 1361 1362 (by decide +kernel) (by decide +kernel) (by decide +kernel) _ rfl rfl
theorem cvL_116 : CVs RL 116 mX10_lost 11 := CVs.of 1364 1365 1366 (by decide +kernel) (by decide +kernel) (by decide +kernel) _ rfl rfl
theorem cvL_120 : CVs RL 120 mX10_kept 11 := CVs.of 1369 1370 1371 (by decide +kernel) (by decide +kernel) (by decide +kernel) _ rfl rfl
theorem cvL_124 : CVs RL 124 mX10_fetching 11 := CVs.of 1373 1374 1375 (by decide +kernel) (by decide +kernel) (by decide +kernel) _ rfl rfl
theorem dL_share_0 : decode cL_share 0 = .ok (.aload_n 0, 1) := by decide +kernel
theorem dL_share_1 : decode cL_share 1 = .ok (.invokevirtual 127, 3) := by decide +kernel
theorem dL_share_4 : decode cL_share 4 = .ok (.freturn, 1) := by decide +kernel
theorem dL_share_5 : decode cL_share 5 = .ok (.astore_n 1, 1) := by decide +kernel
theorem dL_share_6 : decode cL_share 6 = .ok (.ldc 131, 2) := by decide +kernel
theorem dL_share_8 : decode cL_share 8 = .ok (.freturn, 1) := by decide +kernel
def mL_share : MD := (cL_share, RL, yL_share, 2, some .float, 7, 110)
abbrev hL_share : List (Nat × Nat × Nat × Nat) := [(0, 4, 5, 86)]
theorem mw_share : MW mL_share hL_share 1 := MW.of 1379 38 (by decide +kernel) (by decide +kernel) (by decide +kernel) (by decide +kernel) (by decide +kernel) rfl
theorem cvL_127 : CVs RL 127 mX10_share 11 := CVs.of 1380 1381 1382 (by decide +kernel) (by decide +kernel) (by decide +kernel) _ rfl rfl
def WPf (r : UInt32 ⊕ String) (μ1 : Mm) (v : Value) (μ2 : Mm) : Prop := v = (match r with | .inl w => Value.float w | .inr _ => Value.float 3212836864) ∧ (μ2 = μ1 ∨ ∃ N, μ2 = sN μ1 N)
set_option maxRecDepth 100000 in
theorem wc_of_r {l : Launch} {G : Gt} (hG : Gok2 l G) {b : Nat} {x : Int32} {μ μ1 : Mm} {r : Int32 ⊕ String} (hk : mK μ b = 111) (h : f_X10_register b x μ = some (r, μ1)) (hE : ∀ E, r = .inr E → E ∈ [exIAE, exNSE]) :
    Met l mL_of.y (mL_of.wsH hL_of) (mL_of.rm (mN μ1 - mN μ) (mS μ1 - mS μ)) (PcE G [.ref b, .int 114, .int x] μ) (QW G (WPx (.int (exv r)) μ1)) (mN μ1 - mN μ) (mS μ1 - mS μ) (FREE G) := by
  have hz := s_X10_register hG.1 _ _ _ _ _ h
  refine wx_met mw_of rfl (Nat.le_of_ble_eq_true rfl) fun p e R s m args below meth c C ht => ?_
  refine lj_iload_n C dL_of_0 rfl (q := 1) rfl ?_
  refine lj_tsIn (off := 99) (tgt := 100) C dL_of_1 (by decide) (by decide) (by decide) (by decide) ?_
  refine lj_aload_n C dL_of_100 rfl (q := 0) rfl ?_
  refine lj_iload_n C dL_of_101 rfl (q := 2) rfl ?_
  refine lj_callVx (As := [.int x]) (c2 := 0) (s2 := 0) C ht hG.1 mf_X10_register cvL_89 hk ⟨by decide, by decide⟩ rfl rfl (Nat.le_of_ble_eq_true rfl) hz (Nat.le_of_ble_eq_true rfl) dL_of_102 (by have := hz.1.1; omega) (by have := hz.1.2; omega) (fun v hv => ?_) (fun E hE2 => ?_)
  · rcases r with w | E
    · cases hv
      exact lj_wret C dL_of_105 rfl ⟨rfl, Or.inl rfl⟩
    · cases hv
  · rcases r with w | E2
    · cases hE2
    · cases hE2
      have hm := hE _ rfl
      simp only [List.mem_cons, List.not_mem_nil, or_false] at hm
      rcases hm with rfl | rfl
      · refine ⟨179, CT.hd (by decide) (by decide) clexIAE ccexIAE rfl, fun N q hN => ?_⟩
        refine lj_astore_n C dL_of_179 rfl (by decide) rfl ?_
        refine lj_ldc C hG.1 lc_L_15 dL_of_180 ?_
        exact lj_wret C dL_of_182 rfl ⟨by rw [exv_IAE], Or.inr ⟨N, rfl⟩⟩
      · refine ⟨183, CT.tl (by decide) clexIAE hG.2.2.2.2 (CT.sk (by decide) (CT.sk (by decide) (CT.sk (by decide) (CT.sk (by decide) (CT.sk (by decide) (CT.sk (by decide) (CT.sk (by decide) (CT.sk (by decide) (CT.sk (by decide) (CT.sk (by decide) (CT.sk (by decide) (CT.hd (by decide) (by decide) clexNSE ccexNSE rfl)))))))))))), fun N q hN => ?_⟩
        refine lj_astore_n C dL_of_183 rfl (by decide) rfl ?_
        refine lj_ldc C hG.1 lc_L_88 dL_of_184 ?_
        exact lj_wret C dL_of_186 rfl ⟨by rw [exv_NSE], Or.inr ⟨N, rfl⟩⟩
set_option maxRecDepth 100000 in
theorem wc_of_q {l : Launch} {G : Gt} (hG : Gok2 l G) {b : Nat} {x : Int32} {μ μ1 : Mm} {r : Int32 ⊕ String} (hk : mK μ b = 111) (h : f_X10_registerByPlain b x μ = some (r, μ1)) (hE : ∀ E, r = .inr E → E ∈ [exIAE, exNSE]) :
    Met l mL_of.y (mL_of.wsH hL_of) (mL_of.rm (mN μ1 - mN μ) (mS μ1 - mS μ)) (PcE G [.ref b, .int 113, .int x] μ) (QW G (WPx (.int (exv r)) μ1)) (mN μ1 - mN μ) (mS μ1 - mS μ) (FREE G) := by
  have hz := s_X10_registerByPlain hG.1 _ _ _ _ _ h
  refine wx_met mw_of rfl (Nat.le_of_ble_eq_true rfl) fun p e R s m args below meth c C ht => ?_
  refine lj_iload_n C dL_of_0 rfl (q := 1) rfl ?_
  refine lj_tsIn (off := 105) (tgt := 106) C dL_of_1 (by decide) (by decide) (by decide) (by decide) ?_
  refine lj_aload_n C dL_of_106 rfl (q := 0) rfl ?_
  refine lj_iload_n C dL_of_107 rfl (q := 2) rfl ?_
  refine lj_callVx (As := [.int x]) (c2 := 0) (s2 := 0) C ht hG.1 mf_X10_registerByPlain cvL_92 hk ⟨by decide, by decide⟩ rfl rfl (Nat.le_of_ble_eq_true rfl) hz (Nat.le_of_ble_eq_true rfl) dL_of_108 (by have := hz.1.1; omega) (by have := hz.1.2; omega) (fun v hv => ?_) (fun E hE2 => ?_)
  · rcases r with w | E
    · cases hv
      exact lj_wret C dL_of_111 rfl ⟨rfl, Or.inl rfl⟩
    · cases hv
  · rcases r with w | E2
    · cases hE2
    · cases hE2
      have hm := hE _ rfl
      simp only [List.mem_cons, List.not_mem_nil, or_false] at hm
      rcases hm with rfl | rfl
      · refine ⟨179, CT.sk (by decide) (CT.hd (by decide) (by decide) clexIAE ccexIAE rfl), fun N q hN => ?_⟩
        refine lj_astore_n C dL_of_179 rfl (by decide) rfl ?_
        refine lj_ldc C hG.1 lc_L_15 dL_of_180 ?_
        exact lj_wret C dL_of_182 rfl ⟨by rw [exv_IAE], Or.inr ⟨N, rfl⟩⟩
      · refine ⟨183, CT.sk (by decide) (CT.tl (by decide) clexIAE hG.2.2.2.2 (CT.sk (by decide) (CT.sk (by decide) (CT.sk (by decide) (CT.sk (by decide) (CT.sk (by decide) (CT.sk (by decide) (CT.sk (by decide) (CT.sk (by decide) (CT.sk (by decide) (CT.sk (by decide) (CT.sk (by decide) (CT.hd (by decide) (by decide) clexNSE ccexNSE rfl))))))))))))), fun N q hN => ?_⟩
        refine lj_astore_n C dL_of_183 rfl (by decide) rfl ?_
        refine lj_ldc C hG.1 lc_L_88 dL_of_184 ?_
        exact lj_wret C dL_of_186 rfl ⟨by rw [exv_NSE], Or.inr ⟨N, rfl⟩⟩
set_option maxRecDepth 100000 in
theorem wc_of_w {l : Launch} {G : Gt} (hG : Gok2 l G) {b : Nat} {x : Int32} {μ μ1 : Mm} {r : Int32 ⊕ String} (hk : mK μ b = 111) (h : f_X10_word b x μ = some (r, μ1)) (hE : ∀ E, r = .inr E → E ∈ [exIAE, exNSE]) :
    Met l mL_of.y (mL_of.wsH hL_of) (mL_of.rm (mN μ1 - mN μ) (mS μ1 - mS μ)) (PcE G [.ref b, .int 119, .int x] μ) (QW G (WPx (.int (exv r)) μ1)) (mN μ1 - mN μ) (mS μ1 - mS μ) (FREE G) := by
  have hz := s_X10_word hG.1 _ _ _ _ _ h
  refine wx_met mw_of rfl (Nat.le_of_ble_eq_true rfl) fun p e R s m args below meth c C ht => ?_
  refine lj_iload_n C dL_of_0 rfl (q := 1) rfl ?_
  refine lj_tsIn (off := 111) (tgt := 112) C dL_of_1 (by decide) (by decide) (by decide) (by decide) ?_
  refine lj_aload_n C dL_of_112 rfl (q := 0) rfl ?_
  refine lj_iload_n C dL_of_113 rfl (q := 2) rfl ?_
  refine lj_callVx (As := [.int x]) (c2 := 0) (s2 := 0) C ht hG.1 mf_X10_word cvL_95 hk ⟨by decide, by decide⟩ rfl rfl (Nat.le_of_ble_eq_true rfl) hz (Nat.le_of_ble_eq_true rfl) dL_of_114 (by have := hz.1.1; omega) (by have := hz.1.2; omega) (fun v hv => ?_) (fun E hE2 => ?_)
  · rcases r with w | E
    · cases hv
      exact lj_wret C dL_of_117 rfl ⟨rfl, Or.inl rfl⟩
    · cases hv
  · rcases r with w | E2
    · cases hE2
    · cases hE2
      have hm := hE _ rfl
      simp only [List.mem_cons, List.not_mem_nil, or_false] at hm
      rcases hm with rfl | rfl
      · refine ⟨179, CT.sk (by decide) (CT.sk (by decide) (CT.hd (by decide) (by decide) clexIAE ccexIAE rfl)), fun N q hN => ?_⟩
        refine lj_astore_n C dL_of_179 rfl (by decide) rfl ?_
        refine lj_ldc C hG.1 lc_L_15 dL_of_180 ?_
        exact lj_wret C dL_of_182 rfl ⟨by rw [exv_IAE], Or.inr ⟨N, rfl⟩⟩
      · refine ⟨183, CT.sk (by decide) (CT.sk (by decide) (CT.tl (by decide) clexIAE hG.2.2.2.2 (CT.sk (by decide) (CT.sk (by decide) (CT.sk (by decide) (CT.sk (by decide) (CT.sk (by decide) (CT.sk (by decide) (CT.sk (by decide) (CT.sk (by decide) (CT.sk (by decide) (CT.sk (by decide) (CT.sk (by decide) (CT.hd (by decide) (by decide) clexNSE ccexNSE rfl)))))))))))))), fun N q hN => ?_⟩
        refine lj_astore_n C dL_of_183 rfl (by decide) rfl ?_
        refine lj_ldc C hG.1 lc_L_88 dL_of_184 ?_
        exact lj_wret C dL_of_186 rfl ⟨by rw [exv_NSE], Or.inr ⟨N, rfl⟩⟩
set_option maxRecDepth 100000 in
theorem wc_of_v {l : Launch} {G : Gt} (hG : Gok2 l G) {b : Nat} {x : Int32} {μ μ1 : Mm} {r : Int32 ⊕ String} (hk : mK μ b = 111) (h : f_X10_wordByPlain b x μ = some (r, μ1)) (hE : ∀ E, r = .inr E → E ∈ [exIAE, exNSE]) :
    Met l mL_of.y (mL_of.wsH hL_of) (mL_of.rm (mN μ1 - mN μ) (mS μ1 - mS μ)) (PcE G [.ref b, .int 118, .int x] μ) (QW G (WPx (.int (exv r)) μ1)) (mN μ1 - mN μ) (mS μ1 - mS μ) (FREE G) := by
  have hz := s_X10_wordByPlain hG.1 _ _ _ _ _ h
  refine wx_met mw_of rfl (Nat.le_of_ble_eq_true rfl) fun p e R s m args below meth c C ht => ?_
  refine lj_iload_n C dL_of_0 rfl (q := 1) rfl ?_
  refine lj_tsIn (off := 117) (tgt := 118) C dL_of_1 (by decide) (by decide) (by decide) (by decide) ?_
  refine lj_aload_n C dL_of_118 rfl (q := 0) rfl ?_
  refine lj_iload_n C dL_of_119 rfl (q := 2) rfl ?_
  refine lj_callVx (As := [.int x]) (c2 := 0) (s2 := 0) C ht hG.1 mf_X10_wordByPlain cvL_98 hk ⟨by decide, by decide⟩ rfl rfl (Nat.le_of_ble_eq_true rfl) hz (Nat.le_of_ble_eq_true rfl) dL_of_120 (by have := hz.1.1; omega) (by have := hz.1.2; omega) (fun v hv => ?_) (fun E hE2 => ?_)
  · rcases r with w | E
    · cases hv
      exact lj_wret C dL_of_123 rfl ⟨rfl, Or.inl rfl⟩
    · cases hv
  · rcases r with w | E2
    · cases hE2
    · cases hE2
      have hm := hE _ rfl
      simp only [List.mem_cons, List.not_mem_nil, or_false] at hm
      rcases hm with rfl | rfl
      · refine ⟨179, CT.sk (by decide) (CT.sk (by decide) (CT.sk (by decide) (CT.hd (by decide) (by decide) clexIAE ccexIAE rfl))), fun N q hN => ?_⟩
        refine lj_astore_n C dL_of_179 rfl (by decide) rfl ?_
        refine lj_ldc C hG.1 lc_L_15 dL_of_180 ?_
        exact lj_wret C dL_of_182 rfl ⟨by rw [exv_IAE], Or.inr ⟨N, rfl⟩⟩
      · refine ⟨183, CT.sk (by decide) (CT.sk (by decide) (CT.sk (by decide) (CT.tl (by decide) clexIAE hG.2.2.2.2 (CT.sk (by decide) (CT.sk (by decide) (CT.sk (by decide) (CT.sk (by decide) (CT.sk (by decide) (CT.sk (by decide) (CT.sk (by decide) (CT.sk (by decide) (CT.sk (by decide) (CT.sk (by decide) (CT.sk (by decide) (CT.hd (by decide) (by decide) clexNSE ccexNSE rfl))))))))))))))), fun N q hN => ?_⟩
        refine lj_astore_n C dL_of_183 rfl (by decide) rfl ?_
        refine lj_ldc C hG.1 lc_L_88 dL_of_184 ?_
        exact lj_wret C dL_of_186 rfl ⟨by rw [exv_NSE], Or.inr ⟨N, rfl⟩⟩
set_option maxRecDepth 100000 in
theorem wc_of_i {l : Launch} {G : Gt} (hG : Gok2 l G) {b : Nat} {x : Int32} {μ μ1 : Mm} {r : Int32 ⊕ String} (hk : mK μ b = 111) (h : f_X10_inner b x μ = some (r, μ1)) (hE : ∀ E, r = .inr E → E ∈ [exIAE, exNSE]) :
    Met l mL_of.y (mL_of.wsH hL_of) (mL_of.rm (mN μ1 - mN μ) (mS μ1 - mS μ)) (PcE G [.ref b, .int 105, .int x] μ) (QW G (WPx (.int (exv r)) μ1)) (mN μ1 - mN μ) (mS μ1 - mS μ) (FREE G) := by
  have hz := s_X10_inner hG.1 _ _ _ _ _ h
  refine wx_met mw_of rfl (Nat.le_of_ble_eq_true rfl) fun p e R s m args below meth c C ht => ?_
  refine lj_iload_n C dL_of_0 rfl (q := 1) rfl ?_
  refine lj_tsIn (off := 123) (tgt := 124) C dL_of_1 (by decide) (by decide) (by decide) (by decide) ?_
  refine lj_aload_n C dL_of_124 rfl (q := 0) rfl ?_
  refine lj_iload_n C dL_of_125 rfl (q := 2) rfl ?_
  refine lj_callVx (As := [.int x]) (c2 := 0) (s2 := 0) C ht hG.1 mf_X10_inner cvL_101 hk ⟨by decide, by decide⟩ rfl rfl (Nat.le_of_ble_eq_true rfl) hz (Nat.le_of_ble_eq_true rfl) dL_of_126 (by have := hz.1.1; omega) (by have := hz.1.2; omega) (fun v hv => ?_) (fun E hE2 => ?_)
  · rcases r with w | E
    · cases hv
      exact lj_wret C dL_of_129 rfl ⟨rfl, Or.inl rfl⟩
    · cases hv
  · rcases r with w | E2
    · cases hE2
    · cases hE2
      have hm := hE _ rfl
      simp only [List.mem_cons, List.not_mem_nil, or_false] at hm
      rcases hm with rfl | rfl
      · refine ⟨179, CT.sk (by decide) (CT.sk (by decide) (CT.sk (by decide) (CT.sk (by decide) (CT.hd (by decide) (by decide) clexIAE ccexIAE rfl)))), fun N q hN => ?_⟩
        refine lj_astore_n C dL_of_179 rfl (by decide) rfl ?_
        refine lj_ldc C hG.1 lc_L_15 dL_of_180 ?_
        exact lj_wret C dL_of_182 rfl ⟨by rw [exv_IAE], Or.inr ⟨N, rfl⟩⟩
      · refine ⟨183, CT.sk (by decide) (CT.sk (by decide) (CT.sk (by decide) (CT.sk (by decide) (CT.tl (by decide) clexIAE hG.2.2.2.2 (CT.sk (by decide) (CT.sk (by decide) (CT.sk (by decide) (CT.sk (by decide) (CT.sk (by decide) (CT.sk (by decide) (CT.sk (by decide) (CT.sk (by decide) (CT.sk (by decide) (CT.sk (by decide) (CT.sk (by decide) (CT.hd (by decide) (by decide) clexNSE ccexNSE rfl)))))))))))))))), fun N q hN => ?_⟩
        refine lj_astore_n C dL_of_183 rfl (by decide) rfl ?_
        refine lj_ldc C hG.1 lc_L_88 dL_of_184 ?_
        exact lj_wret C dL_of_186 rfl ⟨by rw [exv_NSE], Or.inr ⟨N, rfl⟩⟩
set_option maxRecDepth 100000 in
theorem wc_of_j {l : Launch} {G : Gt} (hG : Gok2 l G) {b : Nat} {x : Int32} {μ μ1 : Mm} {r : Int32 ⊕ String} (hk : mK μ b = 111) (h : f_X10_innerAnew b x μ = some (r, μ1)) (hE : ∀ E, r = .inr E → E ∈ [exIAE, exNSE]) :
    Met l mL_of.y (mL_of.wsH hL_of) (mL_of.rm (mN μ1 - mN μ) (mS μ1 - mS μ)) (PcE G [.ref b, .int 106, .int x] μ) (QW G (WPx (.int (exv r)) μ1)) (mN μ1 - mN μ) (mS μ1 - mS μ) (FREE G) := by
  have hz := s_X10_innerAnew hG.1 _ _ _ _ _ h
  refine wx_met mw_of rfl (Nat.le_of_ble_eq_true rfl) fun p e R s m args below meth c C ht => ?_
  refine lj_iload_n C dL_of_0 rfl (q := 1) rfl ?_
  refine lj_tsIn (off := 129) (tgt := 130) C dL_of_1 (by decide) (by decide) (by decide) (by decide) ?_
  refine lj_aload_n C dL_of_130 rfl (q := 0) rfl ?_
  refine lj_iload_n C dL_of_131 rfl (q := 2) rfl ?_
  refine lj_callVx (As := [.int x]) (c2 := 0) (s2 := 0) C ht hG.1 mf_X10_innerAnew cvL_104 hk ⟨by decide, by decide⟩ rfl rfl (Nat.le_of_ble_eq_true rfl) hz (Nat.le_of_ble_eq_true rfl) dL_of_132 (by have := hz.1.1; omega) (by have := hz.1.2; omega) (fun v hv => ?_) (fun E hE2 => ?_)
  · rcases r with w | E
    · cases hv
      exact lj_wret C dL_of_135 rfl ⟨rfl, Or.inl rfl⟩
    · cases hv
  · rcases r with w | E2
    · cases hE2
    · cases hE2
      have hm := hE _ rfl
      simp only [List.mem_cons, List.not_mem_nil, or_false] at hm
      rcases hm with rfl | rfl
      · refine ⟨179, CT.sk (by decide) (CT.sk (by decide) (CT.sk (by decide) (CT.sk (by decide) (CT.sk (by decide) (CT.hd (by decide) (by decide) clexIAE ccexIAE rfl))))), fun N q hN => ?_⟩
        refine lj_astore_n C dL_of_179 rfl (by decide) rfl ?_
        refine lj_ldc C hG.1 lc_L_15 dL_of_180 ?_
        exact lj_wret C dL_of_182 rfl ⟨by rw [exv_IAE], Or.inr ⟨N, rfl⟩⟩
      · refine ⟨183, CT.sk (by decide) (CT.sk (by decide) (CT.sk (by decide) (CT.sk (by decide) (CT.sk (by decide) (CT.tl (by decide) clexIAE hG.2.2.2.2 (CT.sk (by decide) (CT.sk (by decide) (CT.sk (by decide) (CT.sk (by decide) (CT.sk (by decide) (CT.sk (by decide) (CT.sk (by decide) (CT.sk (by decide) (CT.sk (by decide) (CT.sk (by decide) (CT.sk (by decide) (CT.hd (by decide) (by decide) clexNSE ccexNSE rfl))))))))))))))))), fun N q hN => ?_⟩
        refine lj_astore_n C dL_of_183 rfl (by decide) rfl ?_
        refine lj_ldc C hG.1 lc_L_88 dL_of_184 ?_
        exact lj_wret C dL_of_186 rfl ⟨by rw [exv_NSE], Or.inr ⟨N, rfl⟩⟩
set_option maxRecDepth 100000 in
theorem wc_of_c {l : Launch} {G : Gt} (hG : Gok2 l G) {b : Nat} {x : Int32} {μ μ1 : Mm} {r : Int32 ⊕ String} (hk : mK μ b = 111) (h : f_X10_counter b x μ = some (r, μ1)) (hE : ∀ E, r = .inr E → E ∈ [exIAE, exNSE]) :
    Met l mL_of.y (mL_of.wsH hL_of) (mL_of.rm (mN μ1 - mN μ) (mS μ1 - mS μ)) (PcE G [.ref b, .int 99, .int x] μ) (QW G (WPx (.int (exv r)) μ1)) (mN μ1 - mN μ) (mS μ1 - mS μ) (FREE G) := by
  have hz := s_X10_counter hG.1 _ _ _ _ _ h
  refine wx_met mw_of rfl (Nat.le_of_ble_eq_true rfl) fun p e R s m args below meth c C ht => ?_
  refine lj_iload_n C dL_of_0 rfl (q := 1) rfl ?_
  refine lj_tsIn (off := 135) (tgt := 136) C dL_of_1 (by decide) (by decide) (by decide) (by decide) ?_
  refine lj_aload_n C dL_of_136 rfl (q := 0) rfl ?_
  refine lj_iload_n C dL_of_137 rfl (q := 2) rfl ?_
  refine lj_callVx (As := [.int x]) (c2 := 0) (s2 := 0) C ht hG.1 mf_X10_counter cvL_107 hk ⟨by decide, by decide⟩ rfl rfl (Nat.le_of_ble_eq_true rfl) hz (Nat.le_of_ble_eq_true rfl) dL_of_138 (by have := hz.1.1; omega) (by have := hz.1.2; omega) (fun v hv => ?_) (fun E hE2 => ?_)
  · rcases r with w | E
    · cases hv
      exact lj_wret C dL_of_141 rfl ⟨rfl, Or.inl rfl⟩
    · cases hv
  · rcases r with w | E2
    · cases hE2
    · cases hE2
      have hm := hE _ rfl
      simp only [List.mem_cons, List.not_mem_nil, or_false] at hm
      rcases hm with rfl | rfl
      · refine ⟨179, CT.sk (by decide) (CT.sk (by decide) (CT.sk (by decide) (CT.sk (by decide) (CT.sk (by decide) (CT.sk (by decide) (CT.hd (by decide) (by decide) clexIAE ccexIAE rfl)))))), fun N q hN => ?_⟩
        refine lj_astore_n C dL_of_179 rfl (by decide) rfl ?_
        refine lj_ldc C hG.1 lc_L_15 dL_of_180 ?_
        exact lj_wret C dL_of_182 rfl ⟨by rw [exv_IAE], Or.inr ⟨N, rfl⟩⟩
      · refine ⟨183, CT.sk (by decide) (CT.sk (by decide) (CT.sk (by decide) (CT.sk (by decide) (CT.sk (by decide) (CT.sk (by decide) (CT.tl (by decide) clexIAE hG.2.2.2.2 (CT.sk (by decide) (CT.sk (by decide) (CT.sk (by decide) (CT.sk (by decide) (CT.sk (by decide) (CT.sk (by decide) (CT.sk (by decide) (CT.sk (by decide) (CT.sk (by decide) (CT.sk (by decide) (CT.sk (by decide) (CT.hd (by decide) (by decide) clexNSE ccexNSE rfl)))))))))))))))))), fun N q hN => ?_⟩
        refine lj_astore_n C dL_of_183 rfl (by decide) rfl ?_
        refine lj_ldc C hG.1 lc_L_88 dL_of_184 ?_
        exact lj_wret C dL_of_186 rfl ⟨by rw [exv_NSE], Or.inr ⟨N, rfl⟩⟩
set_option maxRecDepth 100000 in
theorem wc_of_m {l : Launch} {G : Gt} (hG : Gok2 l G) {b : Nat} {x : Int32} {μ μ1 : Mm} {r : Int32 ⊕ String} (hk : mK μ b = 111) (h : f_X10_isMarked b x μ = some (r, μ1)) (hE : ∀ E, r = .inr E → E ∈ [exIAE, exNSE]) (hb : ∀ w, r = .inl w → w = 0 ∨ w = 1) :
    Met l mL_of.y (mL_of.wsH hL_of) (mL_of.rm (mN μ1 - mN μ) (mS μ1 - mS μ)) (PcE G [.ref b, .int 109, .int x] μ) (QW G (WPx (.int (exv r)) μ1)) (mN μ1 - mN μ) (mS μ1 - mS μ) (FREE G) := by
  have hz := s_X10_isMarked hG.1 _ _ _ _ _ h
  refine wx_met mw_of rfl (Nat.le_of_ble_eq_true rfl) fun p e R s m args below meth c C ht => ?_
  refine lj_iload_n C dL_of_0 rfl (q := 1) rfl ?_
  refine lj_tsIn (off := 141) (tgt := 142) C dL_of_1 (by decide) (by decide) (by decide) (by decide) ?_
  refine lj_aload_n C dL_of_142 rfl (q := 0) rfl ?_
  refine lj_iload_n C dL_of_143 rfl (q := 2) rfl ?_
  refine lj_callVx (As := [.int x]) (c2 := 0) (s2 := 0) C ht hG.1 mf_X10_isMarked cvL_110 hk ⟨by decide, by decide⟩ rfl rfl (Nat.le_of_ble_eq_true rfl) hz (Nat.le_of_ble_eq_true rfl) dL_of_144 (by have := hz.1.1; omega) (by have := hz.1.2; omega) (fun v hv => ?_) (fun E hE2 => ?_)
  · rcases r with w | E
    · cases hv
      rcases hb w rfl with rfl | rfl
      · refine lj_if_eq_t (tgt := 154) C dL_of_147 (by decide) rfl ?_
        refine lj_iconst (v := 0) C dL_of_154 (by decide) ?_
        exact lj_wret C dL_of_155 rfl ⟨rfl, Or.inl rfl⟩
      · refine lj_if_eq_f (tgt := 154) C dL_of_147 (by decide) (by decide) ?_
        refine lj_iconst (v := 1) C dL_of_150 (by decide) ?_
        refine lj_goto (tgt := 155) C dL_of_151 (by decide) ?_
        exact lj_wret C dL_of_155 rfl ⟨rfl, Or.inl rfl⟩
    · cases hv
  · rcases r with w | E2
    · cases hE2
    · cases hE2
      have hm := hE _ rfl
      simp only [List.mem_cons, List.not_mem_nil, or_false] at hm
      rcases hm with rfl | rfl
      · refine ⟨179, CT.sk (by decide) (CT.sk (by decide) (CT.sk (by decide) (CT.sk (by decide) (CT.sk (by decide) (CT.sk (by decide) (CT.sk (by decide) (CT.hd (by decide) (by decide) clexIAE ccexIAE rfl))))))), fun N q hN => ?_⟩
        refine lj_astore_n C dL_of_179 rfl (by decide) rfl ?_
        refine lj_ldc C hG.1 lc_L_15 dL_of_180 ?_
        exact lj_wret C dL_of_182 rfl ⟨by rw [exv_IAE], Or.inr ⟨N, rfl⟩⟩
      · refine ⟨183, CT.sk (by decide) (CT.sk (by decide) (CT.sk (by decide) (CT.sk (by decide) (CT.sk (by decide) (CT.sk (by decide) (CT.sk (by decide) (CT.tl (by decide) clexIAE hG.2.2.2.2 (CT.sk (by decide) (CT.sk (by decide) (CT.sk (by decide) (CT.sk (by decide) (CT.sk (by decide) (CT.sk (by decide) (CT.sk (by decide) (CT.sk (by decide) (CT.sk (by decide) (CT.sk (by decide) (CT.sk (by decide) (CT.hd (by decide) (by decide) clexNSE ccexNSE rfl))))))))))))))))))), fun N q hN => ?_⟩
        refine lj_astore_n C dL_of_183 rfl (by decide) rfl ?_
        refine lj_ldc C hG.1 lc_L_88 dL_of_184 ?_
        exact lj_wret C dL_of_186 rfl ⟨by rw [exv_NSE], Or.inr ⟨N, rfl⟩⟩
set_option maxRecDepth 100000 in
theorem wc_of_l {l : Launch} {G : Gt} (hG : Gok2 l G) {b : Nat} {x : Int32} {μ μ1 : Mm} {r : Int32 ⊕ String} (hk : mK μ b = 111) (h : f_X10_lineAt b x μ = some (r, μ1)) (hE : ∀ E, r = .inr E → E ∈ [exIAE, exNSE]) :
    Met l mL_of.y (mL_of.wsH hL_of) (mL_of.rm (mN μ1 - mN μ) (mS μ1 - mS μ)) (PcE G [.ref b, .int 108, .int x] μ) (QW G (WPx (.int (exv r)) μ1)) (mN μ1 - mN μ) (mS μ1 - mS μ) (FREE G) := by
  have hz := s_X10_lineAt hG.1 _ _ _ _ _ h
  refine wx_met mw_of rfl (Nat.le_of_ble_eq_true rfl) fun p e R s m args below meth c C ht => ?_
  refine lj_iload_n C dL_of_0 rfl (q := 1) rfl ?_
  refine lj_tsIn (off := 155) (tgt := 156) C dL_of_1 (by decide) (by decide) (by decide) (by decide) ?_
  refine lj_aload_n C dL_of_156 rfl (q := 0) rfl ?_
  refine lj_iload_n C dL_of_157 rfl (q := 2) rfl ?_
  refine lj_callVx (As := [.int x]) (c2 := 0) (s2 := 0) C ht hG.1 mf_X10_lineAt cvL_113 hk ⟨by decide, by decide⟩ rfl rfl (Nat.le_of_ble_eq_true rfl) hz (Nat.le_of_ble_eq_true rfl) dL_of_158 (by have := hz.1.1; omega) (by have := hz.1.2; omega) (fun v hv => ?_) (fun E hE2 => ?_)
  · rcases r with w | E
    · cases hv
      exact lj_wret C dL_of_161 rfl ⟨rfl, Or.inl rfl⟩
    · cases hv
  · rcases r with w | E2
    · cases hE2
    · cases hE2
      have hm := hE _ rfl
      simp only [List.mem_cons, List.not_mem_nil, or_false] at hm
      rcases hm with rfl | rfl
      · refine ⟨179, CT.sk (by decide) (CT.sk (by decide) (CT.sk (by decide) (CT.sk (by decide) (CT.sk (by decide) (CT.sk (by decide) (CT.sk (by decide) (CT.sk (by decide) (CT.hd (by decide) (by decide) clexIAE ccexIAE rfl)))))))), fun N q hN => ?_⟩
        refine lj_astore_n C dL_of_179 rfl (by decide) rfl ?_
        refine lj_ldc C hG.1 lc_L_15 dL_of_180 ?_
        exact lj_wret C dL_of_182 rfl ⟨by rw [exv_IAE], Or.inr ⟨N, rfl⟩⟩
      · refine ⟨183, CT.sk (by decide) (CT.sk (by decide) (CT.sk (by decide) (CT.sk (by decide) (CT.sk (by decide) (CT.sk (by decide) (CT.sk (by decide) (CT.sk (by decide) (CT.tl (by decide) clexIAE hG.2.2.2.2 (CT.sk (by decide) (CT.sk (by decide) (CT.sk (by decide) (CT.sk (by decide) (CT.sk (by decide) (CT.sk (by decide) (CT.sk (by decide) (CT.sk (by decide) (CT.sk (by decide) (CT.sk (by decide) (CT.sk (by decide) (CT.hd (by decide) (by decide) clexNSE ccexNSE rfl)))))))))))))))))))), fun N q hN => ?_⟩
        refine lj_astore_n C dL_of_183 rfl (by decide) rfl ?_
        refine lj_ldc C hG.1 lc_L_88 dL_of_184 ?_
        exact lj_wret C dL_of_186 rfl ⟨by rw [exv_NSE], Or.inr ⟨N, rfl⟩⟩
set_option maxRecDepth 100000 in
theorem wc_of_o {l : Launch} {G : Gt} (hG : Gok2 l G) {b : Nat} {x : Int32} {μ μ1 : Mm} {r : Int32 ⊕ String} (hk : mK μ b = 111) (h : f_X10_lost b (zc x) μ = some (r, μ1)) (hE : ∀ E, r = .inr E → E ∈ [exIAE, exNSE]) :
    Met l mL_of.y (mL_of.wsH hL_of) (mL_of.rm (mN μ1 - mN μ) (mS μ1 - mS μ)) (PcE G [.ref b, .int 111, .int x] μ) (QW G (WPx (.int (exv r)) μ1)) (mN μ1 - mN μ) (mS μ1 - mS μ) (FREE G) := by
  have hz := s_X10_lost hG.1 _ _ _ _ _ h
  refine wx_met mw_of rfl (Nat.le_of_ble_eq_true rfl) fun p e R s m args below meth c C ht => ?_
  refine lj_iload_n C dL_of_0 rfl (q := 1) rfl ?_
  refine lj_tsIn (off := 161) (tgt := 162) C dL_of_1 (by decide) (by decide) (by decide) (by decide) ?_
  refine lj_aload_n C dL_of_162 rfl (q := 0) rfl ?_
  refine lj_iload_n C dL_of_163 rfl (q := 2) rfl ?_
  refine lj_i2c C dL_of_164 ?_
  refine lj_callVx (As := [.int (zc x)]) (c2 := 0) (s2 := 0) C ht hG.1 mf_X10_lost cvL_116 hk ⟨by decide, by decide⟩ rfl rfl (Nat.le_of_ble_eq_true rfl) hz (Nat.le_of_ble_eq_true rfl) dL_of_165 (by have := hz.1.1; omega) (by have := hz.1.2; omega) (fun v hv => ?_) (fun E hE2 => ?_)
  · rcases r with w | E
    · cases hv
      exact lj_wret C dL_of_168 rfl ⟨rfl, Or.inl rfl⟩
    · cases hv
  · rcases r with w | E2
    · cases hE2
    · cases hE2
      have hm := hE _ rfl
      simp only [List.mem_cons, List.not_mem_nil, or_false] at hm
      rcases hm with rfl | rfl
      · refine ⟨179, CT.sk (by decide) (CT.sk (by decide) (CT.sk (by decide) (CT.sk (by decide) (CT.sk (by decide) (CT.sk (by decide) (CT.sk (by decide) (CT.sk (by decide) (CT.sk (by decide) (CT.hd (by decide) (by decide) clexIAE ccexIAE rfl))))))))), fun N q hN => ?_⟩
        refine lj_astore_n C dL_of_179 rfl (by decide) rfl ?_
        refine lj_ldc C hG.1 lc_L_15 dL_of_180 ?_
        exact lj_wret C dL_of_182 rfl ⟨by rw [exv_IAE], Or.inr ⟨N, rfl⟩⟩
      · refine ⟨183, CT.sk (by decide) (CT.sk (by decide) (CT.sk (by decide) (CT.sk (by decide) (CT.sk (by decide) (CT.sk (by decide) (CT.sk (by decide) (CT.sk (by decide) (CT.sk (by decide) (CT.tl (by decide) clexIAE hG.2.2.2.2 (CT.sk (by decide) (CT.sk (by decide) (CT.sk (by decide) (CT.sk (by decide) (CT.sk (by decide) (CT.sk (by decide) (CT.sk (by decide) (CT.sk (by decide) (CT.sk (by decide) (CT.sk (by decide) (CT.sk (by decide) (CT.hd (by decide) (by decide) clexNSE ccexNSE rfl))))))))))))))))))))), fun N q hN => ?_⟩
        refine lj_astore_n C dL_of_183 rfl (by decide) rfl ?_
        refine lj_ldc C hG.1 lc_L_88 dL_of_184 ?_
        exact lj_wret C dL_of_186 rfl ⟨by rw [exv_NSE], Or.inr ⟨N, rfl⟩⟩
set_option maxRecDepth 100000 in
theorem wc_of_k {l : Launch} {G : Gt} (hG : Gok2 l G) {b : Nat} {x : Int32} {μ μ1 : Mm} {r : Int32 ⊕ String} (hk : mK μ b = 111) (h : f_X10_kept b μ = some (r, μ1)) (hE : ∀ E, r = .inr E → E ∈ [exIAE, exNSE]) :
    Met l mL_of.y (mL_of.wsH hL_of) (mL_of.rm (mN μ1 - mN μ) (mS μ1 - mS μ)) (PcE G [.ref b, .int 107, .int x] μ) (QW G (WPx (.int (exv r)) μ1)) (mN μ1 - mN μ) (mS μ1 - mS μ) (FREE G) := by
  have hz := s_X10_kept hG.1 _ _ _ _ h
  refine wx_met mw_of rfl (Nat.le_of_ble_eq_true rfl) fun p e R s m args below meth c C ht => ?_
  refine lj_iload_n C dL_of_0 rfl (q := 1) rfl ?_
  refine lj_tsIn (off := 168) (tgt := 169) C dL_of_1 (by decide) (by decide) (by decide) (by decide) ?_
  refine lj_aload_n C dL_of_169 rfl (q := 0) rfl ?_
  refine lj_callVx (As := []) (c2 := 0) (s2 := 0) C ht hG.1 mf_X10_kept cvL_120 hk ⟨by decide, by decide⟩ rfl rfl (Nat.le_of_ble_eq_true rfl) hz (Nat.le_of_ble_eq_true rfl) dL_of_170 (by have := hz.1.1; omega) (by have := hz.1.2; omega) (fun v hv => ?_) (fun E hE2 => ?_)
  · rcases r with w | E
    · cases hv
      exact lj_wret C dL_of_173 rfl ⟨rfl, Or.inl rfl⟩
    · cases hv
  · rcases r with w | E2
    · cases hE2
    · cases hE2
      have hm := hE _ rfl
      simp only [List.mem_cons, List.not_mem_nil, or_false] at hm
      rcases hm with rfl | rfl
      · refine ⟨179, CT.sk (by decide) (CT.sk (by decide) (CT.sk (by decide) (CT.sk (by decide) (CT.sk (by decide) (CT.sk (by decide) (CT.sk (by decide) (CT.sk (by decide) (CT.sk (by decide) (CT.sk (by decide) (CT.hd (by decide) (by decide) clexIAE ccexIAE rfl)))))))))), fun N q hN => ?_⟩
        refine lj_astore_n C dL_of_179 rfl (by decide) rfl ?_
        refine lj_ldc C hG.1 lc_L_15 dL_of_180 ?_
        exact lj_wret C dL_of_182 rfl ⟨by rw [exv_IAE], Or.inr ⟨N, rfl⟩⟩
      · refine ⟨183, CT.sk (by decide) (CT.sk (by decide) (CT.sk (by decide) (CT.sk (by decide) (CT.sk (by decide) (CT.sk (by decide) (CT.sk (by decide) (CT.sk (by decide) (CT.sk (by decide) (CT.sk (by decide) (CT.tl (by decide) clexIAE hG.2.2.2.2 (CT.sk (by decide) (CT.sk (by decide) (CT.sk (by decide) (CT.sk (by decide) (CT.sk (by decide) (CT.sk (by decide) (CT.sk (by decide) (CT.sk (by decide) (CT.sk (by decide) (CT.sk (by decide) (CT.sk (by decide) (CT.hd (by decide) (by decide) clexNSE ccexNSE rfl)))))))))))))))))))))), fun N q hN => ?_⟩
        refine lj_astore_n C dL_of_183 rfl (by decide) rfl ?_
        refine lj_ldc C hG.1 lc_L_88 dL_of_184 ?_
        exact lj_wret C dL_of_186 rfl ⟨by rw [exv_NSE], Or.inr ⟨N, rfl⟩⟩
set_option maxRecDepth 100000 in
theorem wc_of_f {l : Launch} {G : Gt} (hG : Gok2 l G) {b : Nat} {x : Int32} {μ μ1 : Mm} {r : Int32 ⊕ String} (hk : mK μ b = 111) (h : f_X10_fetching b μ = some (r, μ1)) (hE : ∀ E, r = .inr E → E ∈ [exIAE, exNSE]) :
    Met l mL_of.y (mL_of.wsH hL_of) (mL_of.rm (mN μ1 - mN μ) (mS μ1 - mS μ)) (PcE G [.ref b, .int 102, .int x] μ) (QW G (WPx (.int (exv r)) μ1)) (mN μ1 - mN μ) (mS μ1 - mS μ) (FREE G) := by
  have hz := s_X10_fetching hG.1 _ _ _ _ h
  refine wx_met mw_of rfl (Nat.le_of_ble_eq_true rfl) fun p e R s m args below meth c C ht => ?_
  refine lj_iload_n C dL_of_0 rfl (q := 1) rfl ?_
  refine lj_tsIn (off := 173) (tgt := 174) C dL_of_1 (by decide) (by decide) (by decide) (by decide) ?_
  refine lj_aload_n C dL_of_174 rfl (q := 0) rfl ?_
  refine lj_callVx (As := []) (c2 := 0) (s2 := 0) C ht hG.1 mf_X10_fetching cvL_124 hk ⟨by decide, by decide⟩ rfl rfl (Nat.le_of_ble_eq_true rfl) hz (Nat.le_of_ble_eq_true rfl) dL_of_175 (by have := hz.1.1; omega) (by have := hz.1.2; omega) (fun v hv => ?_) (fun E hE2 => ?_)
  · rcases r with w | E
    · cases hv
      exact lj_wret C dL_of_178 rfl ⟨rfl, Or.inl rfl⟩
    · cases hv
  · rcases r with w | E2
    · cases hE2
    · cases hE2
      have hm := hE _ rfl
      simp only [List.mem_cons, List.not_mem_nil, or_false] at hm
      rcases hm with rfl | rfl
      · refine ⟨179, CT.sk (by decide) (CT.sk (by decide) (CT.sk (by decide) (CT.sk (by decide) (CT.sk (by decide) (CT.sk (by decide) (CT.sk (by decide) (CT.sk (by decide) (CT.sk (by decide) (CT.sk (by decide) (CT.sk (by decide) (CT.hd (by decide) (by decide) clexIAE ccexIAE rfl))))))))))), fun N q hN => ?_⟩
        refine lj_astore_n C dL_of_179 rfl (by decide) rfl ?_
        refine lj_ldc C hG.1 lc_L_15 dL_of_180 ?_
        exact lj_wret C dL_of_182 rfl ⟨by rw [exv_IAE], Or.inr ⟨N, rfl⟩⟩
      · refine ⟨183, CT.sk (by decide) (CT.sk (by decide) (CT.sk (by decide) (CT.sk (by decide) (CT.sk (by decide) (CT.sk (by decide) (CT.sk (by decide) (CT.sk (by decide) (CT.sk (by decide) (CT.sk (by decide) (CT.sk (by decide) (CT.tl (by decide) clexIAE hG.2.2.2.2 (CT.sk (by decide) (CT.sk (by decide) (CT.sk (by decide) (CT.sk (by decide) (CT.sk (by decide) (CT.sk (by decide) (CT.sk (by decide) (CT.sk (by decide) (CT.sk (by decide) (CT.sk (by decide) (CT.sk (by decide) (CT.hd (by decide) (by decide) clexNSE ccexNSE rfl))))))))))))))))))))))), fun N q hN => ?_⟩
        refine lj_astore_n C dL_of_183 rfl (by decide) rfl ?_
        refine lj_ldc C hG.1 lc_L_88 dL_of_184 ?_
        exact lj_wret C dL_of_186 rfl ⟨by rw [exv_NSE], Or.inr ⟨N, rfl⟩⟩
set_option maxRecDepth 100000 in
theorem wc_at_k {l : Launch} {G : Gt} (hG : Gok2 l G) {b : Nat} {x : Int32} {μ μ1 : Mm} {r : Int32 ⊕ String} (hk : mK μ b = 111) (h : f_X10_kindAt b x μ = some (r, μ1)) (hE : ∀ E, r = .inr E → E ∈ [exIOB]) :
    Met l mL_at_.y (mL_at_.wsH hL_at_) (mL_at_.rm (mN μ1 - mN μ) (mS μ1 - mS μ)) (PcE G [.ref b, .int 107, .int x] μ) (QW G (WPx (.int (exv r)) μ1)) (mN μ1 - mN μ) (mS μ1 - mS μ) (FREE G) := by
  have hz := s_X10_kindAt hG.1 _ _ _ _ _ h
  refine wx_met mw_at_ rfl (Nat.le_of_ble_eq_true rfl) fun p e R s m args below meth c C ht => ?_
  refine lj_iload_n C dL_at__0 rfl (q := 1) rfl ?_
  refine lj_tsIn (off := 111) (tgt := 112) C dL_at__1 (by decide) (by decide) (by decide) (by decide) ?_
  refine lj_aload_n C dL_at__112 rfl (q := 0) rfl ?_
  refine lj_iload_n C dL_at__113 rfl (q := 2) rfl ?_
  refine lj_callVx (As := [.int x]) (c2 := 0) (s2 := 0) C ht hG.1 mf_X10_kindAt cvL_48 hk ⟨by decide, by decide⟩ rfl rfl (Nat.le_of_ble_eq_true rfl) hz (Nat.le_of_ble_eq_true rfl) dL_at__114 (by have := hz.1.1; omega) (by have := hz.1.2; omega) (fun v hv => ?_) (fun E hE2 => ?_)
  · rcases r with w | E
    · cases hv
      exact lj_wret C dL_at__117 rfl ⟨rfl, Or.inl rfl⟩
    · cases hv
  · rcases r with w | E2
    · cases hE2
    · cases hE2
      have hm := hE _ rfl
      simp only [List.mem_cons, List.not_mem_nil, or_false] at hm
      subst hm
      refine ⟨180, CT.hd (by decide) (by decide) clexIOB ccexIOB rfl, fun N q hN => ?_⟩
      refine lj_astore_n C dL_at__180 rfl (by decide) rfl ?_
      refine lj_ldc C hG.1 lc_L_82 dL_at__181 ?_
      exact lj_wret C dL_at__183 rfl ⟨by rw [exv_IOB], Or.inr ⟨N, rfl⟩⟩
set_option maxRecDepth 100000 in
theorem wc_at_p {l : Launch} {G : Gt} (hG : Gok2 l G) {b : Nat} {x : Int32} {μ μ1 : Mm} {r : Int32 ⊕ String} (hk : mK μ b = 111) (h : f_X10_placeAt b x μ = some (r, μ1)) (hE : ∀ E, r = .inr E → E ∈ [exIOB]) :
    Met l mL_at_.y (mL_at_.wsH hL_at_) (mL_at_.rm (mN μ1 - mN μ) (mS μ1 - mS μ)) (PcE G [.ref b, .int 112, .int x] μ) (QW G (WPx (.int (exv r)) μ1)) (mN μ1 - mN μ) (mS μ1 - mS μ) (FREE G) := by
  have hz := s_X10_placeAt hG.1 _ _ _ _ _ h
  refine wx_met mw_at_ rfl (Nat.le_of_ble_eq_true rfl) fun p e R s m args below meth c C ht => ?_
  refine lj_iload_n C dL_at__0 rfl (q := 1) rfl ?_
  refine lj_tsIn (off := 117) (tgt := 118) C dL_at__1 (by decide) (by decide) (by decide) (by decide) ?_
  refine lj_aload_n C dL_at__118 rfl (q := 0) rfl ?_
  refine lj_iload_n C dL_at__119 rfl (q := 2) rfl ?_
  refine lj_callVx (As := [.int x]) (c2 := 0) (s2 := 0) C ht hG.1 mf_X10_placeAt cvL_51 hk ⟨by decide, by decide⟩ rfl rfl (Nat.le_of_ble_eq_true rfl) hz (Nat.le_of_ble_eq_true rfl) dL_at__120 (by have := hz.1.1; omega) (by have := hz.1.2; omega) (fun v hv => ?_) (fun E hE2 => ?_)
  · rcases r with w | E
    · cases hv
      exact lj_wret C dL_at__123 rfl ⟨rfl, Or.inl rfl⟩
    · cases hv
  · rcases r with w | E2
    · cases hE2
    · cases hE2
      have hm := hE _ rfl
      simp only [List.mem_cons, List.not_mem_nil, or_false] at hm
      subst hm
      refine ⟨180, CT.sk (by decide) (CT.hd (by decide) (by decide) clexIOB ccexIOB rfl), fun N q hN => ?_⟩
      refine lj_astore_n C dL_at__180 rfl (by decide) rfl ?_
      refine lj_ldc C hG.1 lc_L_82 dL_at__181 ?_
      exact lj_wret C dL_at__183 rfl ⟨by rw [exv_IOB], Or.inr ⟨N, rfl⟩⟩
set_option maxRecDepth 100000 in
theorem wc_at_l {l : Launch} {G : Gt} (hG : Gok2 l G) {b : Nat} {x : Int32} {μ μ1 : Mm} {r : Int32 ⊕ String} (hk : mK μ b = 111) (h : f_X10_kindByPlain b x μ = some (r, μ1)) (hE : ∀ E, r = .inr E → E ∈ [exIOB]) :
    Met l mL_at_.y (mL_at_.wsH hL_at_) (mL_at_.rm (mN μ1 - mN μ) (mS μ1 - mS μ)) (PcE G [.ref b, .int 108, .int x] μ) (QW G (WPx (.int (exv r)) μ1)) (mN μ1 - mN μ) (mS μ1 - mS μ) (FREE G) := by
  have hz := s_X10_kindByPlain hG.1 _ _ _ _ _ h
  refine wx_met mw_at_ rfl (Nat.le_of_ble_eq_true rfl) fun p e R s m args below meth c C ht => ?_
  refine lj_iload_n C dL_at__0 rfl (q := 1) rfl ?_
  refine lj_tsIn (off := 123) (tgt := 124) C dL_at__1 (by decide) (by decide) (by decide) (by decide) ?_
  refine lj_aload_n C dL_at__124 rfl (q := 0) rfl ?_
  refine lj_iload_n C dL_at__125 rfl (q := 2) rfl ?_
  refine lj_callVx (As := [.int x]) (c2 := 0) (s2 := 0) C ht hG.1 mf_X10_kindByPlain cvL_54 hk ⟨by decide, by decide⟩ rfl rfl (Nat.le_of_ble_eq_true rfl) hz (Nat.le_of_ble_eq_true rfl) dL_at__126 (by have := hz.1.1; omega) (by have := hz.1.2; omega) (fun v hv => ?_) (fun E hE2 => ?_)
  · rcases r with w | E
    · cases hv
      exact lj_wret C dL_at__129 rfl ⟨rfl, Or.inl rfl⟩
    · cases hv
  · rcases r with w | E2
    · cases hE2
    · cases hE2
      have hm := hE _ rfl
      simp only [List.mem_cons, List.not_mem_nil, or_false] at hm
      subst hm
      refine ⟨180, CT.sk (by decide) (CT.sk (by decide) (CT.hd (by decide) (by decide) clexIOB ccexIOB rfl)), fun N q hN => ?_⟩
      refine lj_astore_n C dL_at__180 rfl (by decide) rfl ?_
      refine lj_ldc C hG.1 lc_L_82 dL_at__181 ?_
      exact lj_wret C dL_at__183 rfl ⟨by rw [exv_IOB], Or.inr ⟨N, rfl⟩⟩
set_option maxRecDepth 100000 in
theorem wc_at_q {l : Launch} {G : Gt} (hG : Gok2 l G) {b : Nat} {x : Int32} {μ μ1 : Mm} {r : Int32 ⊕ String} (hk : mK μ b = 111) (h : f_X10_placeByPlain b x μ = some (r, μ1)) (hE : ∀ E, r = .inr E → E ∈ [exIOB]) :
    Met l mL_at_.y (mL_at_.wsH hL_at_) (mL_at_.rm (mN μ1 - mN μ) (mS μ1 - mS μ)) (PcE G [.ref b, .int 113, .int x] μ) (QW G (WPx (.int (exv r)) μ1)) (mN μ1 - mN μ) (mS μ1 - mS μ) (FREE G) := by
  have hz := s_X10_placeByPlain hG.1 _ _ _ _ _ h
  refine wx_met mw_at_ rfl (Nat.le_of_ble_eq_true rfl) fun p e R s m args below meth c C ht => ?_
  refine lj_iload_n C dL_at__0 rfl (q := 1) rfl ?_
  refine lj_tsIn (off := 129) (tgt := 130) C dL_at__1 (by decide) (by decide) (by decide) (by decide) ?_
  refine lj_aload_n C dL_at__130 rfl (q := 0) rfl ?_
  refine lj_iload_n C dL_at__131 rfl (q := 2) rfl ?_
  refine lj_callVx (As := [.int x]) (c2 := 0) (s2 := 0) C ht hG.1 mf_X10_placeByPlain cvL_57 hk ⟨by decide, by decide⟩ rfl rfl (Nat.le_of_ble_eq_true rfl) hz (Nat.le_of_ble_eq_true rfl) dL_at__132 (by have := hz.1.1; omega) (by have := hz.1.2; omega) (fun v hv => ?_) (fun E hE2 => ?_)
  · rcases r with w | E
    · cases hv
      exact lj_wret C dL_at__135 rfl ⟨rfl, Or.inl rfl⟩
    · cases hv
  · rcases r with w | E2
    · cases hE2
    · cases hE2
      have hm := hE _ rfl
      simp only [List.mem_cons, List.not_mem_nil, or_false] at hm
      subst hm
      refine ⟨180, CT.sk (by decide) (CT.sk (by decide) (CT.sk (by decide) (CT.hd (by decide) (by decide) clexIOB ccexIOB rfl))), fun N q hN => ?_⟩
      refine lj_astore_n C dL_at__180 rfl (by decide) rfl ?_
      refine lj_ldc C hG.1 lc_L_82 dL_at__181 ?_
      exact lj_wret C dL_at__183 rfl ⟨by rw [exv_IOB], Or.inr ⟨N, rfl⟩⟩
set_option maxRecDepth 100000 in
theorem wc_at_b {l : Launch} {G : Gt} (hG : Gok2 l G) {b : Nat} {x : Int32} {μ μ1 : Mm} {r : Int32 ⊕ String} (hk : mK μ b = 111) (h : f_X10_bufferAt b x μ = some (r, μ1)) (hE : ∀ E, r = .inr E → E ∈ [exIOB]) :
    Met l mL_at_.y (mL_at_.wsH hL_at_) (mL_at_.rm (mN μ1 - mN μ) (mS μ1 - mS μ)) (PcE G [.ref b, .int 98, .int x] μ) (QW G (WPx (.int (exv r)) μ1)) (mN μ1 - mN μ) (mS μ1 - mS μ) (FREE G) := by
  have hz := s_X10_bufferAt hG.1 _ _ _ _ _ h
  refine wx_met mw_at_ rfl (Nat.le_of_ble_eq_true rfl) fun p e R s m args below meth c C ht => ?_
  refine lj_iload_n C dL_at__0 rfl (q := 1) rfl ?_
  refine lj_tsIn (off := 135) (tgt := 136) C dL_at__1 (by decide) (by decide) (by decide) (by decide) ?_
  refine lj_aload_n C dL_at__136 rfl (q := 0) rfl ?_
  refine lj_iload_n C dL_at__137 rfl (q := 2) rfl ?_
  refine lj_callVx (As := [.int x]) (c2 := 0) (s2 := 0) C ht hG.1 mf_X10_bufferAt cvL_60 hk ⟨by decide, by decide⟩ rfl rfl (Nat.le_of_ble_eq_true rfl) hz (Nat.le_of_ble_eq_true rfl) dL_at__138 (by have := hz.1.1; omega) (by have := hz.1.2; omega) (fun v hv => ?_) (fun E hE2 => ?_)
  · rcases r with w | E
    · cases hv
      exact lj_wret C dL_at__141 rfl ⟨rfl, Or.inl rfl⟩
    · cases hv
  · rcases r with w | E2
    · cases hE2
    · cases hE2
      have hm := hE _ rfl
      simp only [List.mem_cons, List.not_mem_nil, or_false] at hm
      subst hm
      refine ⟨180, CT.sk (by decide) (CT.sk (by decide) (CT.sk (by decide) (CT.sk (by decide) (CT.hd (by decide) (by decide) clexIOB ccexIOB rfl)))), fun N q hN => ?_⟩
      refine lj_astore_n C dL_at__180 rfl (by decide) rfl ?_
      refine lj_ldc C hG.1 lc_L_82 dL_at__181 ?_
      exact lj_wret C dL_at__183 rfl ⟨by rw [exv_IOB], Or.inr ⟨N, rfl⟩⟩
set_option maxRecDepth 100000 in
theorem wc_at_s {l : Launch} {G : Gt} (hG : Gok2 l G) {b : Nat} {x : Int32} {μ μ1 : Mm} {r : Int32 ⊕ String} (hk : mK μ b = 111) (h : f_X10_stageAt b x μ = some (r, μ1)) (hE : ∀ E, r = .inr E → E ∈ [exIOB]) :
    Met l mL_at_.y (mL_at_.wsH hL_at_) (mL_at_.rm (mN μ1 - mN μ) (mS μ1 - mS μ)) (PcE G [.ref b, .int 115, .int x] μ) (QW G (WPx (.int (exv r)) μ1)) (mN μ1 - mN μ) (mS μ1 - mS μ) (FREE G) := by
  have hz := s_X10_stageAt hG.1 _ _ _ _ _ h
  refine wx_met mw_at_ rfl (Nat.le_of_ble_eq_true rfl) fun p e R s m args below meth c C ht => ?_
  refine lj_iload_n C dL_at__0 rfl (q := 1) rfl ?_
  refine lj_tsIn (off := 141) (tgt := 142) C dL_at__1 (by decide) (by decide) (by decide) (by decide) ?_
  refine lj_aload_n C dL_at__142 rfl (q := 0) rfl ?_
  refine lj_iload_n C dL_at__143 rfl (q := 2) rfl ?_
  refine lj_callVx (As := [.int x]) (c2 := 0) (s2 := 0) C ht hG.1 mf_X10_stageAt cvL_63 hk ⟨by decide, by decide⟩ rfl rfl (Nat.le_of_ble_eq_true rfl) hz (Nat.le_of_ble_eq_true rfl) dL_at__144 (by have := hz.1.1; omega) (by have := hz.1.2; omega) (fun v hv => ?_) (fun E hE2 => ?_)
  · rcases r with w | E
    · cases hv
      exact lj_wret C dL_at__147 rfl ⟨rfl, Or.inl rfl⟩
    · cases hv
  · rcases r with w | E2
    · cases hE2
    · cases hE2
      have hm := hE _ rfl
      simp only [List.mem_cons, List.not_mem_nil, or_false] at hm
      subst hm
      refine ⟨180, CT.sk (by decide) (CT.sk (by decide) (CT.sk (by decide) (CT.sk (by decide) (CT.sk (by decide) (CT.hd (by decide) (by decide) clexIOB ccexIOB rfl))))), fun N q hN => ?_⟩
      refine lj_astore_n C dL_at__180 rfl (by decide) rfl ?_
      refine lj_ldc C hG.1 lc_L_82 dL_at__181 ?_
      exact lj_wret C dL_at__183 rfl ⟨by rw [exv_IOB], Or.inr ⟨N, rfl⟩⟩
set_option maxRecDepth 100000 in
theorem wc_at_f {l : Launch} {G : Gt} (hG : Gok2 l G) {b : Nat} {x : Int32} {μ μ1 : Mm} {r : Int32 ⊕ String} (hk : mK μ b = 111) (h : f_X10_freeAt b x μ = some (r, μ1)) (hE : ∀ E, r = .inr E → E ∈ [exIOB]) :
    Met l mL_at_.y (mL_at_.wsH hL_at_) (mL_at_.rm (mN μ1 - mN μ) (mS μ1 - mS μ)) (PcE G [.ref b, .int 102, .int x] μ) (QW G (WPx (.int (exv r)) μ1)) (mN μ1 - mN μ) (mS μ1 - mS μ) (FREE G) := by
  have hz := s_X10_freeAt hG.1 _ _ _ _ _ h
  refine wx_met mw_at_ rfl (Nat.le_of_ble_eq_true rfl) fun p e R s m args below meth c C ht => ?_
  refine lj_iload_n C dL_at__0 rfl (q := 1) rfl ?_
  refine lj_tsIn (off := 147) (tgt := 148) C dL_at__1 (by decide) (by decide) (by decide) (by decide) ?_
  refine lj_aload_n C dL_at__148 rfl (q := 0) rfl ?_
  refine lj_iload_n C dL_at__149 rfl (q := 2) rfl ?_
  refine lj_callVx (As := [.int x]) (c2 := 0) (s2 := 0) C ht hG.1 mf_X10_freeAt cvL_67 hk ⟨by decide, by decide⟩ rfl rfl (Nat.le_of_ble_eq_true rfl) hz (Nat.le_of_ble_eq_true rfl) dL_at__150 (by have := hz.1.1; omega) (by have := hz.1.2; omega) (fun v hv => ?_) (fun E hE2 => ?_)
  · rcases r with w | E
    · cases hv
      exact lj_wret C dL_at__153 rfl ⟨rfl, Or.inl rfl⟩
    · cases hv
  · rcases r with w | E2
    · cases hE2
    · cases hE2
      have hm := hE _ rfl
      simp only [List.mem_cons, List.not_mem_nil, or_false] at hm
      subst hm
      refine ⟨180, CT.sk (by decide) (CT.sk (by decide) (CT.sk (by decide) (CT.sk (by decide) (CT.sk (by decide) (CT.sk (by decide) (CT.hd (by decide) (by decide) clexIOB ccexIOB rfl)))))), fun N q hN => ?_⟩
      refine lj_astore_n C dL_at__180 rfl (by decide) rfl ?_
      refine lj_ldc C hG.1 lc_L_82 dL_at__181 ?_
      exact lj_wret C dL_at__183 rfl ⟨by rw [exv_IOB], Or.inr ⟨N, rfl⟩⟩
set_option maxRecDepth 100000 in
theorem wc_at_t {l : Launch} {G : Gt} (hG : Gok2 l G) {b : Nat} {x : Int32} {μ μ1 : Mm} {r : Int32 ⊕ String} (hk : mK μ b = 111) (h : f_X10_stateOf b x μ = some (r, μ1)) (hE : ∀ E, r = .inr E → E ∈ [exIOB]) :
    Met l mL_at_.y (mL_at_.wsH hL_at_) (mL_at_.rm (mN μ1 - mN μ) (mS μ1 - mS μ)) (PcE G [.ref b, .int 116, .int x] μ) (QW G (WPx (.int (exv r)) μ1)) (mN μ1 - mN μ) (mS μ1 - mS μ) (FREE G) := by
  have hz := s_X10_stateOf hG.1 _ _ _ _ _ h
  refine wx_met mw_at_ rfl (Nat.le_of_ble_eq_true rfl) fun p e R s m args below meth c C ht => ?_
  refine lj_iload_n C dL_at__0 rfl (q := 1) rfl ?_
  refine lj_tsIn (off := 153) (tgt := 154) C dL_at__1 (by decide) (by decide) (by decide) (by decide) ?_
  refine lj_aload_n C dL_at__154 rfl (q := 0) rfl ?_
  refine lj_iload_n C dL_at__155 rfl (q := 2) rfl ?_
  refine lj_callVx (As := [.int x]) (c2 := 0) (s2 := 0) C ht hG.1 mf_X10_stateOf cvL_70 hk ⟨by decide, by decide⟩ rfl rfl (Nat.le_of_ble_eq_true rfl) hz (Nat.le_of_ble_eq_true rfl) dL_at__156 (by have := hz.1.1; omega) (by have := hz.1.2; omega) (fun v hv => ?_) (fun E hE2 => ?_)
  · rcases r with w | E
    · cases hv
      exact lj_wret C dL_at__159 rfl ⟨rfl, Or.inl rfl⟩
    · cases hv
  · rcases r with w | E2
    · cases hE2
    · cases hE2
      have hm := hE _ rfl
      simp only [List.mem_cons, List.not_mem_nil, or_false] at hm
      subst hm
      refine ⟨180, CT.sk (by decide) (CT.sk (by decide) (CT.sk (by decide) (CT.sk (by decide) (CT.sk (by decide) (CT.sk (by decide) (CT.sk (by decide) (CT.hd (by decide) (by decide) clexIOB ccexIOB rfl))))))), fun N q hN => ?_⟩
      refine lj_astore_n C dL_at__180 rfl (by decide) rfl ?_
      refine lj_ldc C hG.1 lc_L_82 dL_at__181 ?_
      exact lj_wret C dL_at__183 rfl ⟨by rw [exv_IOB], Or.inr ⟨N, rfl⟩⟩
set_option maxRecDepth 100000 in
theorem wc_at_y {l : Launch} {G : Gt} (hG : Gok2 l G) {b : Nat} {x : Int32} {μ μ1 : Mm} {r : Int32 ⊕ String} (hk : mK μ b = 111) (h : f_X10_isReady b x μ = some (r, μ1)) (hE : ∀ E, r = .inr E → E ∈ [exIOB]) (hb : ∀ w, r = .inl w → w = 0 ∨ w = 1) :
    Met l mL_at_.y (mL_at_.wsH hL_at_) (mL_at_.rm (mN μ1 - mN μ) (mS μ1 - mS μ)) (PcE G [.ref b, .int 121, .int x] μ) (QW G (WPx (.int (exv r)) μ1)) (mN μ1 - mN μ) (mS μ1 - mS μ) (FREE G) := by
  have hz := s_X10_isReady hG.1 _ _ _ _ _ h
  refine wx_met mw_at_ rfl (Nat.le_of_ble_eq_true rfl) fun p e R s m args below meth c C ht => ?_
  refine lj_iload_n C dL_at__0 rfl (q := 1) rfl ?_
  refine lj_tsIn (off := 159) (tgt := 160) C dL_at__1 (by decide) (by decide) (by decide) (by decide) ?_
  refine lj_aload_n C dL_at__160 rfl (q := 0) rfl ?_
  refine lj_iload_n C dL_at__161 rfl (q := 2) rfl ?_
  refine lj_callVx (As := [.int x]) (c2 := 0) (s2 := 0) C ht hG.1 mf_X10_isReady cvL_73 hk ⟨by decide, by decide⟩ rfl rfl (Nat.le_of_ble_eq_true rfl) hz (Nat.le_of_ble_eq_true rfl) dL_at__162 (by have := hz.1.1; omega) (by have := hz.1.2; omega) (fun v hv => ?_) (fun E hE2 => ?_)
  · rcases r with w | E
    · cases hv
      rcases hb w rfl with rfl | rfl
      · refine lj_if_eq_t (tgt := 172) C dL_at__165 (by decide) rfl ?_
        refine lj_iconst (v := 0) C dL_at__172 (by decide) ?_
        exact lj_wret C dL_at__173 rfl ⟨rfl, Or.inl rfl⟩
      · refine lj_if_eq_f (tgt := 172) C dL_at__165 (by decide) (by decide) ?_
        refine lj_iconst (v := 1) C dL_at__168 (by decide) ?_
        refine lj_goto (tgt := 173) C dL_at__169 (by decide) ?_
        exact lj_wret C dL_at__173 rfl ⟨rfl, Or.inl rfl⟩
    · cases hv
  · rcases r with w | E2
    · cases hE2
    · cases hE2
      have hm := hE _ rfl
      simp only [List.mem_cons, List.not_mem_nil, or_false] at hm
      subst hm
      refine ⟨180, CT.sk (by decide) (CT.sk (by decide) (CT.sk (by decide) (CT.sk (by decide) (CT.sk (by decide) (CT.sk (by decide) (CT.sk (by decide) (CT.sk (by decide) (CT.hd (by decide) (by decide) clexIOB ccexIOB rfl)))))))), fun N q hN => ?_⟩
      refine lj_astore_n C dL_at__180 rfl (by decide) rfl ?_
      refine lj_ldc C hG.1 lc_L_82 dL_at__181 ?_
      exact lj_wret C dL_at__183 rfl ⟨by rw [exv_IOB], Or.inr ⟨N, rfl⟩⟩
set_option maxRecDepth 100000 in
theorem wc_at_r {l : Launch} {G : Gt} (hG : Gok2 l G) {b : Nat} {x : Int32} {μ μ1 : Mm} {r : Int32 ⊕ String} (hk : mK μ b = 111) (h : f_X10_returnAt b x μ = some (r, μ1)) (hE : ∀ E, r = .inr E → E ∈ [exIOB]) :
    Met l mL_at_.y (mL_at_.wsH hL_at_) (mL_at_.rm (mN μ1 - mN μ) (mS μ1 - mS μ)) (PcE G [.ref b, .int 114, .int x] μ) (QW G (WPx (.int (exv r)) μ1)) (mN μ1 - mN μ) (mS μ1 - mS μ) (FREE G) := by
  have hz := s_X10_returnAt hG.1 _ _ _ _ _ h
  refine wx_met mw_at_ rfl (Nat.le_of_ble_eq_true rfl) fun p e R s m args below meth c C ht => ?_
  refine lj_iload_n C dL_at__0 rfl (q := 1) rfl ?_
  refine lj_tsIn (off := 173) (tgt := 174) C dL_at__1 (by decide) (by decide) (by decide) (by decide) ?_
  refine lj_aload_n C dL_at__174 rfl (q := 0) rfl ?_
  refine lj_iload_n C dL_at__175 rfl (q := 2) rfl ?_
  refine lj_callVx (As := [.int x]) (c2 := 0) (s2 := 0) C ht hG.1 mf_X10_returnAt cvL_77 hk ⟨by decide, by decide⟩ rfl rfl (Nat.le_of_ble_eq_true rfl) hz (Nat.le_of_ble_eq_true rfl) dL_at__176 (by have := hz.1.1; omega) (by have := hz.1.2; omega) (fun v hv => ?_) (fun E hE2 => ?_)
  · rcases r with w | E
    · cases hv
      exact lj_wret C dL_at__179 rfl ⟨rfl, Or.inl rfl⟩
    · cases hv
  · rcases r with w | E2
    · cases hE2
    · cases hE2
      have hm := hE _ rfl
      simp only [List.mem_cons, List.not_mem_nil, or_false] at hm
      subst hm
      refine ⟨180, CT.sk (by decide) (CT.sk (by decide) (CT.sk (by decide) (CT.sk (by decide) (CT.sk (by decide) (CT.sk (by decide) (CT.sk (by decide) (CT.sk (by decide) (CT.sk (by decide) (CT.hd (by decide) (by decide) clexIOB ccexIOB rfl))))))))), fun N q hN => ?_⟩
      refine lj_astore_n C dL_at__180 rfl (by decide) rfl ?_
      refine lj_ldc C hG.1 lc_L_82 dL_at__181 ?_
      exact lj_wret C dL_at__183 rfl ⟨by rw [exv_IOB], Or.inr ⟨N, rfl⟩⟩
set_option maxRecDepth 100000 in
theorem wc_set_r {l : Launch} {G : Gt} (hG : Gok2 l G) {b : Nat} {x y : Int32} {μ μ1 : Mm} {r : Int32 ⊕ String} (hk : mK μ b = 111) (h : f_X10_setRegister b x y μ = some (r, μ1)) (hE : ∀ E, r = .inr E → E ∈ [exIAE, exISE]) :
    Met l mL_set.y (mL_set.wsH hL_set) (mL_set.rm (mN μ1 - mN μ) (mS μ1 - mS μ)) (PcE G [.ref b, .int 114, .int x, .int y] μ) (QW G (WPx (.int (exv r)) μ1)) (mN μ1 - mN μ) (mS μ1 - mS μ) (FREE G) := by
  have hz := s_X10_setRegister hG.1 _ _ _ _ _ _ h
  refine wx_met mw_set rfl (Nat.le_of_ble_eq_true rfl) fun p e R s m args below meth c C ht => ?_
  refine lj_iload_n C dL_set_0 rfl (q := 1) rfl ?_
  refine lj_tsIn (off := 103) (tgt := 104) C dL_set_1 (by decide) (by decide) (by decide) (by decide) ?_
  refine lj_aload_n C dL_set_104 rfl (q := 0) rfl ?_
  refine lj_iload_n C dL_set_105 rfl (q := 2) rfl ?_
  refine lj_iload_n C dL_set_106 rfl (q := 3) rfl ?_
  refine lj_callVx (As := [.int x, .int y]) (c2 := 0) (s2 := 0) C ht hG.1 mf_X10_setRegister cvL_19 hk ⟨by decide, by decide⟩ rfl rfl (Nat.le_of_ble_eq_true rfl) hz (Nat.le_of_ble_eq_true rfl) dL_set_107 (by have := hz.1.1; omega) (by have := hz.1.2; omega) (fun v hv => ?_) (fun E hE2 => ?_)
  · rcases r with w | E
    · cases hv
      exact lj_wret C dL_set_110 rfl ⟨rfl, Or.inl rfl⟩
    · cases hv
  · rcases r with w | E2
    · cases hE2
    · cases hE2
      have hm := hE _ rfl
      simp only [List.mem_cons, List.not_mem_nil, or_false] at hm
      rcases hm with rfl | rfl
      · refine ⟨162, CT.hd (by decide) (by decide) clexIAE ccexIAE rfl, fun N q hN => ?_⟩
        refine lj_astore C dL_set_162 (by decide) rfl ?_
        refine lj_ldc C hG.1 lc_L_15 dL_set_164 ?_
        exact lj_wret C dL_set_166 rfl ⟨by rw [exv_IAE], Or.inr ⟨N, rfl⟩⟩
      · refine ⟨167, CT.tl (by decide) clexIAE hG.2.1 (CT.sk (by decide) (CT.sk (by decide) (CT.sk (by decide) (CT.sk (by decide) (CT.sk (by decide) (CT.sk (by decide) (CT.sk (by decide) (CT.sk (by decide) (CT.hd (by decide) (by decide) clexISE ccexISE rfl))))))))), fun N q hN => ?_⟩
        refine lj_astore C dL_set_167 (by decide) rfl ?_
        refine lj_ldc C hG.1 lc_L_18 dL_set_169 ?_
        exact lj_wret C dL_set_171 rfl ⟨by rw [exv_ISE], Or.inr ⟨N, rfl⟩⟩
set_option maxRecDepth 100000 in
theorem wc_set_w {l : Launch} {G : Gt} (hG : Gok2 l G) {b : Nat} {x y : Int32} {μ μ1 : Mm} {r : Int32 ⊕ String} (hk : mK μ b = 111) (h : f_X10_setWord b x y μ = some (r, μ1)) (hE : ∀ E, r = .inr E → E ∈ [exIAE, exISE]) :
    Met l mL_set.y (mL_set.wsH hL_set) (mL_set.rm (mN μ1 - mN μ) (mS μ1 - mS μ)) (PcE G [.ref b, .int 119, .int x, .int y] μ) (QW G (WPx (.int (exv r)) μ1)) (mN μ1 - mN μ) (mS μ1 - mS μ) (FREE G) := by
  have hz := s_X10_setWord hG.1 _ _ _ _ _ _ h
  refine wx_met mw_set rfl (Nat.le_of_ble_eq_true rfl) fun p e R s m args below meth c C ht => ?_
  refine lj_iload_n C dL_set_0 rfl (q := 1) rfl ?_
  refine lj_tsIn (off := 110) (tgt := 111) C dL_set_1 (by decide) (by decide) (by decide) (by decide) ?_
  refine lj_aload_n C dL_set_111 rfl (q := 0) rfl ?_
  refine lj_iload_n C dL_set_112 rfl (q := 2) rfl ?_
  refine lj_iload_n C dL_set_113 rfl (q := 3) rfl ?_
  refine lj_callVx (As := [.int x, .int y]) (c2 := 0) (s2 := 0) C ht hG.1 mf_X10_setWord cvL_23 hk ⟨by decide, by decide⟩ rfl rfl (Nat.le_of_ble_eq_true rfl) hz (Nat.le_of_ble_eq_true rfl) dL_set_114 (by have := hz.1.1; omega) (by have := hz.1.2; omega) (fun v hv => ?_) (fun E hE2 => ?_)
  · rcases r with w | E
    · cases hv
      exact lj_wret C dL_set_117 rfl ⟨rfl, Or.inl rfl⟩
    · cases hv
  · rcases r with w | E2
    · cases hE2
    · cases hE2
      have hm := hE _ rfl
      simp only [List.mem_cons, List.not_mem_nil, or_false] at hm
      rcases hm with rfl | rfl
      · refine ⟨162, CT.sk (by decide) (CT.hd (by decide) (by decide) clexIAE ccexIAE rfl), fun N q hN => ?_⟩
        refine lj_astore C dL_set_162 (by decide) rfl ?_
        refine lj_ldc C hG.1 lc_L_15 dL_set_164 ?_
        exact lj_wret C dL_set_166 rfl ⟨by rw [exv_IAE], Or.inr ⟨N, rfl⟩⟩
      · refine ⟨167, CT.sk (by decide) (CT.tl (by decide) clexIAE hG.2.1 (CT.sk (by decide) (CT.sk (by decide) (CT.sk (by decide) (CT.sk (by decide) (CT.sk (by decide) (CT.sk (by decide) (CT.sk (by decide) (CT.sk (by decide) (CT.hd (by decide) (by decide) clexISE ccexISE rfl)))))))))), fun N q hN => ?_⟩
        refine lj_astore C dL_set_167 (by decide) rfl ?_
        refine lj_ldc C hG.1 lc_L_18 dL_set_169 ?_
        exact lj_wret C dL_set_171 rfl ⟨by rw [exv_ISE], Or.inr ⟨N, rfl⟩⟩
set_option maxRecDepth 100000 in
theorem wc_set_d {l : Launch} {G : Gt} (hG : Gok2 l G) {b : Nat} {x y : Int32} {μ μ1 : Mm} {r : Int32 ⊕ String} (hk : mK μ b = 111) (h : f_X10_setWidth b x μ = some (r, μ1)) (hE : ∀ E, r = .inr E → E ∈ [exIAE, exISE]) :
    Met l mL_set.y (mL_set.wsH hL_set) (mL_set.rm (mN μ1 - mN μ) (mS μ1 - mS μ)) (PcE G [.ref b, .int 100, .int x, .int y] μ) (QW G (WPx (.int (exv r)) μ1)) (mN μ1 - mN μ) (mS μ1 - mS μ) (FREE G) := by
  have hz := s_X10_setWidth hG.1 _ _ _ _ _ h
  refine wx_met mw_set rfl (Nat.le_of_ble_eq_true rfl) fun p e R s m args below meth c C ht => ?_
  refine lj_iload_n C dL_set_0 rfl (q := 1) rfl ?_
  refine lj_tsIn (off := 117) (tgt := 118) C dL_set_1 (by decide) (by decide) (by decide) (by decide) ?_
  refine lj_aload_n C dL_set_118 rfl (q := 0) rfl ?_
  refine lj_iload_n C dL_set_119 rfl (q := 2) rfl ?_
  refine lj_callVx (As := [.int x]) (c2 := 0) (s2 := 0) C ht hG.1 mf_X10_setWidth cvL_26 hk ⟨by decide, by decide⟩ rfl rfl (Nat.le_of_ble_eq_true rfl) hz (Nat.le_of_ble_eq_true rfl) dL_set_120 (by have := hz.1.1; omega) (by have := hz.1.2; omega) (fun v hv => ?_) (fun E hE2 => ?_)
  · rcases r with w | E
    · cases hv
      exact lj_wret C dL_set_123 rfl ⟨rfl, Or.inl rfl⟩
    · cases hv
  · rcases r with w | E2
    · cases hE2
    · cases hE2
      have hm := hE _ rfl
      simp only [List.mem_cons, List.not_mem_nil, or_false] at hm
      rcases hm with rfl | rfl
      · refine ⟨162, CT.sk (by decide) (CT.sk (by decide) (CT.hd (by decide) (by decide) clexIAE ccexIAE rfl)), fun N q hN => ?_⟩
        refine lj_astore C dL_set_162 (by decide) rfl ?_
        refine lj_ldc C hG.1 lc_L_15 dL_set_164 ?_
        exact lj_wret C dL_set_166 rfl ⟨by rw [exv_IAE], Or.inr ⟨N, rfl⟩⟩
      · refine ⟨167, CT.sk (by decide) (CT.sk (by decide) (CT.tl (by decide) clexIAE hG.2.1 (CT.sk (by decide) (CT.sk (by decide) (CT.sk (by decide) (CT.sk (by decide) (CT.sk (by decide) (CT.sk (by decide) (CT.sk (by decide) (CT.sk (by decide) (CT.hd (by decide) (by decide) clexISE ccexISE rfl))))))))))), fun N q hN => ?_⟩
        refine lj_astore C dL_set_167 (by decide) rfl ?_
        refine lj_ldc C hG.1 lc_L_18 dL_set_169 ?_
        exact lj_wret C dL_set_171 rfl ⟨by rw [exv_ISE], Or.inr ⟨N, rfl⟩⟩
set_option maxRecDepth 100000 in
theorem wc_set_b {l : Launch} {G : Gt} (hG : Gok2 l G) {b : Nat} {x y : Int32} {μ μ1 : Mm} {r : Int32 ⊕ String} (hk : mK μ b = 111) (h : f_X10_setBuffer b x μ = some (r, μ1)) (hE : ∀ E, r = .inr E → E ∈ [exIAE, exISE]) :
    Met l mL_set.y (mL_set.wsH hL_set) (mL_set.rm (mN μ1 - mN μ) (mS μ1 - mS μ)) (PcE G [.ref b, .int 98, .int x, .int y] μ) (QW G (WPx (.int (exv r)) μ1)) (mN μ1 - mN μ) (mS μ1 - mS μ) (FREE G) := by
  have hz := s_X10_setBuffer hG.1 _ _ _ _ _ h
  refine wx_met mw_set rfl (Nat.le_of_ble_eq_true rfl) fun p e R s m args below meth c C ht => ?_
  refine lj_iload_n C dL_set_0 rfl (q := 1) rfl ?_
  refine lj_tsIn (off := 123) (tgt := 124) C dL_set_1 (by decide) (by decide) (by decide) (by decide) ?_
  refine lj_aload_n C dL_set_124 rfl (q := 0) rfl ?_
  refine lj_iload_n C dL_set_125 rfl (q := 2) rfl ?_
  refine lj_callVx (As := [.int x]) (c2 := 0) (s2 := 0) C ht hG.1 mf_X10_setBuffer cvL_30 hk ⟨by decide, by decide⟩ rfl rfl (Nat.le_of_ble_eq_true rfl) hz (Nat.le_of_ble_eq_true rfl) dL_set_126 (by have := hz.1.1; omega) (by have := hz.1.2; omega) (fun v hv => ?_) (fun E hE2 => ?_)
  · rcases r with w | E
    · cases hv
      exact lj_wret C dL_set_129 rfl ⟨rfl, Or.inl rfl⟩
    · cases hv
  · rcases r with w | E2
    · cases hE2
    · cases hE2
      have hm := hE _ rfl
      simp only [List.mem_cons, List.not_mem_nil, or_false] at hm
      rcases hm with rfl | rfl
      · refine ⟨162, CT.sk (by decide) (CT.sk (by decide) (CT.sk (by decide) (CT.hd (by decide) (by decide) clexIAE ccexIAE rfl))), fun N q hN => ?_⟩
        refine lj_astore C dL_set_162 (by decide) rfl ?_
        refine lj_ldc C hG.1 lc_L_15 dL_set_164 ?_
        exact lj_wret C dL_set_166 rfl ⟨by rw [exv_IAE], Or.inr ⟨N, rfl⟩⟩
      · refine ⟨167, CT.sk (by decide) (CT.sk (by decide) (CT.sk (by decide) (CT.tl (by decide) clexIAE hG.2.1 (CT.sk (by decide) (CT.sk (by decide) (CT.sk (by decide) (CT.sk (by decide) (CT.sk (by decide) (CT.sk (by decide) (CT.sk (by decide) (CT.sk (by decide) (CT.hd (by decide) (by decide) clexISE ccexISE rfl)))))))))))), fun N q hN => ?_⟩
        refine lj_astore C dL_set_167 (by decide) rfl ?_
        refine lj_ldc C hG.1 lc_L_18 dL_set_169 ?_
        exact lj_wret C dL_set_171 rfl ⟨by rw [exv_ISE], Or.inr ⟨N, rfl⟩⟩
set_option maxRecDepth 100000 in
theorem wc_set_q {l : Launch} {G : Gt} (hG : Gok2 l G) {b : Nat} {x y : Int32} {μ μ1 : Mm} {r : Int32 ⊕ String} (hk : mK μ b = 111) (h : f_X10_setQueue b x μ = some (r, μ1)) (hE : ∀ E, r = .inr E → E ∈ [exIAE, exISE]) :
    Met l mL_set.y (mL_set.wsH hL_set) (mL_set.rm (mN μ1 - mN μ) (mS μ1 - mS μ)) (PcE G [.ref b, .int 113, .int x, .int y] μ) (QW G (WPx (.int (exv r)) μ1)) (mN μ1 - mN μ) (mS μ1 - mS μ) (FREE G) := by
  have hz := s_X10_setQueue hG.1 _ _ _ _ _ h
  refine wx_met mw_set rfl (Nat.le_of_ble_eq_true rfl) fun p e R s m args below meth c C ht => ?_
  refine lj_iload_n C dL_set_0 rfl (q := 1) rfl ?_
  refine lj_tsIn (off := 129) (tgt := 130) C dL_set_1 (by decide) (by decide) (by decide) (by decide) ?_
  refine lj_aload_n C dL_set_130 rfl (q := 0) rfl ?_
  refine lj_iload_n C dL_set_131 rfl (q := 2) rfl ?_
  refine lj_callVx (As := [.int x]) (c2 := 0) (s2 := 0) C ht hG.1 mf_X10_setQueue cvL_33 hk ⟨by decide, by decide⟩ rfl rfl (Nat.le_of_ble_eq_true rfl) hz (Nat.le_of_ble_eq_true rfl) dL_set_132 (by have := hz.1.1; omega) (by have := hz.1.2; omega) (fun v hv => ?_) (fun E hE2 => ?_)
  · rcases r with w | E
    · cases hv
      exact lj_wret C dL_set_135 rfl ⟨rfl, Or.inl rfl⟩
    · cases hv
  · rcases r with w | E2
    · cases hE2
    · cases hE2
      have hm := hE _ rfl
      simp only [List.mem_cons, List.not_mem_nil, or_false] at hm
      rcases hm with rfl | rfl
      · refine ⟨162, CT.sk (by decide) (CT.sk (by decide) (CT.sk (by decide) (CT.sk (by decide) (CT.hd (by decide) (by decide) clexIAE ccexIAE rfl)))), fun N q hN => ?_⟩
        refine lj_astore C dL_set_162 (by decide) rfl ?_
        refine lj_ldc C hG.1 lc_L_15 dL_set_164 ?_
        exact lj_wret C dL_set_166 rfl ⟨by rw [exv_IAE], Or.inr ⟨N, rfl⟩⟩
      · refine ⟨167, CT.sk (by decide) (CT.sk (by decide) (CT.sk (by decide) (CT.sk (by decide) (CT.tl (by decide) clexIAE hG.2.1 (CT.sk (by decide) (CT.sk (by decide) (CT.sk (by decide) (CT.sk (by decide) (CT.sk (by decide) (CT.sk (by decide) (CT.sk (by decide) (CT.sk (by decide) (CT.hd (by decide) (by decide) clexISE ccexISE rfl))))))))))))), fun N q hN => ?_⟩
        refine lj_astore C dL_set_167 (by decide) rfl ?_
        refine lj_ldc C hG.1 lc_L_18 dL_set_169 ?_
        exact lj_wret C dL_set_171 rfl ⟨by rw [exv_ISE], Or.inr ⟨N, rfl⟩⟩
set_option maxRecDepth 100000 in
theorem wc_set_i {l : Launch} {G : Gt} (hG : Gok2 l G) {b : Nat} {x y : Int32} {μ μ1 : Mm} {r : Int32 ⊕ String} (hk : mK μ b = 111) (h : f_X10_setInner b x μ = some (r, μ1)) (hE : ∀ E, r = .inr E → E ∈ [exIAE, exISE]) :
    Met l mL_set.y (mL_set.wsH hL_set) (mL_set.rm (mN μ1 - mN μ) (mS μ1 - mS μ)) (PcE G [.ref b, .int 105, .int x, .int y] μ) (QW G (WPx (.int (exv r)) μ1)) (mN μ1 - mN μ) (mS μ1 - mS μ) (FREE G) := by
  have hz := s_X10_setInner hG.1 _ _ _ _ _ h
  refine wx_met mw_set rfl (Nat.le_of_ble_eq_true rfl) fun p e R s m args below meth c C ht => ?_
  refine lj_iload_n C dL_set_0 rfl (q := 1) rfl ?_
  refine lj_tsIn (off := 135) (tgt := 136) C dL_set_1 (by decide) (by decide) (by decide) (by decide) ?_
  refine lj_aload_n C dL_set_136 rfl (q := 0) rfl ?_
  refine lj_iload_n C dL_set_137 rfl (q := 2) rfl ?_
  refine lj_callVx (As := [.int x]) (c2 := 0) (s2 := 0) C ht hG.1 mf_X10_setInner cvL_36 hk ⟨by decide, by decide⟩ rfl rfl (Nat.le_of_ble_eq_true rfl) hz (Nat.le_of_ble_eq_true rfl) dL_set_138 (by have := hz.1.1; omega) (by have := hz.1.2; omega) (fun v hv => ?_) (fun E hE2 => ?_)
  · rcases r with w | E
    · cases hv
      exact lj_wret C dL_set_141 rfl ⟨rfl, Or.inl rfl⟩
    · cases hv
  · rcases r with w | E2
    · cases hE2
    · cases hE2
      have hm := hE _ rfl
      simp only [List.mem_cons, List.not_mem_nil, or_false] at hm
      rcases hm with rfl | rfl
      · refine ⟨162, CT.sk (by decide) (CT.sk (by decide) (CT.sk (by decide) (CT.sk (by decide) (CT.sk (by decide) (CT.hd (by decide) (by decide) clexIAE ccexIAE rfl))))), fun N q hN => ?_⟩
        refine lj_astore C dL_set_162 (by decide) rfl ?_
        refine lj_ldc C hG.1 lc_L_15 dL_set_164 ?_
        exact lj_wret C dL_set_166 rfl ⟨by rw [exv_IAE], Or.inr ⟨N, rfl⟩⟩
      · refine ⟨167, CT.sk (by decide) (CT.sk (by decide) (CT.sk (by decide) (CT.sk (by decide) (CT.sk (by decide) (CT.tl (by decide) clexIAE hG.2.1 (CT.sk (by decide) (CT.sk (by decide) (CT.sk (by decide) (CT.sk (by decide) (CT.sk (by decide) (CT.sk (by decide) (CT.sk (by decide) (CT.sk (by decide) (CT.hd (by decide) (by decide) clexISE ccexISE rfl)))))))))))))), fun N q hN => ?_⟩
        refine lj_astore C dL_set_167 (by decide) rfl ?_
        refine lj_ldc C hG.1 lc_L_18 dL_set_169 ?_
        exact lj_wret C dL_set_171 rfl ⟨by rw [exv_ISE], Or.inr ⟨N, rfl⟩⟩
set_option maxRecDepth 100000 in
theorem wc_set_h {l : Launch} {G : Gt} (hG : Gok2 l G) {b : Nat} {x y : Int32} {μ μ1 : Mm} {r : Int32 ⊕ String} (hk : mK μ b = 111) (h : f_X10_setHandlers b x y μ = some (r, μ1)) (hE : ∀ E, r = .inr E → E ∈ [exIAE, exISE]) :
    Met l mL_set.y (mL_set.wsH hL_set) (mL_set.rm (mN μ1 - mN μ) (mS μ1 - mS μ)) (PcE G [.ref b, .int 104, .int x, .int y] μ) (QW G (WPx (.int (exv r)) μ1)) (mN μ1 - mN μ) (mS μ1 - mS μ) (FREE G) := by
  have hz := s_X10_setHandlers hG.1 _ _ _ _ _ _ h
  refine wx_met mw_set rfl (Nat.le_of_ble_eq_true rfl) fun p e R s m args below meth c C ht => ?_
  refine lj_iload_n C dL_set_0 rfl (q := 1) rfl ?_
  refine lj_tsIn (off := 141) (tgt := 142) C dL_set_1 (by decide) (by decide) (by decide) (by decide) ?_
  refine lj_aload_n C dL_set_142 rfl (q := 0) rfl ?_
  refine lj_iload_n C dL_set_143 rfl (q := 2) rfl ?_
  refine lj_iload_n C dL_set_144 rfl (q := 3) rfl ?_
  refine lj_callVx (As := [.int x, .int y]) (c2 := 0) (s2 := 0) C ht hG.1 mf_X10_setHandlers cvL_39 hk ⟨by decide, by decide⟩ rfl rfl (Nat.le_of_ble_eq_true rfl) hz (Nat.le_of_ble_eq_true rfl) dL_set_145 (by have := hz.1.1; omega) (by have := hz.1.2; omega) (fun v hv => ?_) (fun E hE2 => ?_)
  · rcases r with w | E
    · cases hv
      exact lj_wret C dL_set_148 rfl ⟨rfl, Or.inl rfl⟩
    · cases hv
  · rcases r with w | E2
    · cases hE2
    · cases hE2
      have hm := hE _ rfl
      simp only [List.mem_cons, List.not_mem_nil, or_false] at hm
      rcases hm with rfl | rfl
      · refine ⟨162, CT.sk (by decide) (CT.sk (by decide) (CT.sk (by decide) (CT.sk (by decide) (CT.sk (by decide) (CT.sk (by decide) (CT.hd (by decide) (by decide) clexIAE ccexIAE rfl)))))), fun N q hN => ?_⟩
        refine lj_astore C dL_set_162 (by decide) rfl ?_
        refine lj_ldc C hG.1 lc_L_15 dL_set_164 ?_
        exact lj_wret C dL_set_166 rfl ⟨by rw [exv_IAE], Or.inr ⟨N, rfl⟩⟩
      · refine ⟨167, CT.sk (by decide) (CT.sk (by decide) (CT.sk (by decide) (CT.sk (by decide) (CT.sk (by decide) (CT.sk (by decide) (CT.tl (by decide) clexIAE hG.2.1 (CT.sk (by decide) (CT.sk (by decide) (CT.sk (by decide) (CT.sk (by decide) (CT.sk (by decide) (CT.sk (by decide) (CT.sk (by decide) (CT.sk (by decide) (CT.hd (by decide) (by decide) clexISE ccexISE rfl))))))))))))))), fun N q hN => ?_⟩
        refine lj_astore C dL_set_167 (by decide) rfl ?_
        refine lj_ldc C hG.1 lc_L_18 dL_set_169 ?_
        exact lj_wret C dL_set_171 rfl ⟨by rw [exv_ISE], Or.inr ⟨N, rfl⟩⟩
set_option maxRecDepth 100000 in
theorem wc_set_t {l : Launch} {G : Gt} (hG : Gok2 l G) {b : Nat} {x y : Int32} {μ μ1 : Mm} {r : Int32 ⊕ String} (hk : mK μ b = 111) (h : f_X10_setTime b x y μ = some (r, μ1)) (hE : ∀ E, r = .inr E → E ∈ [exIAE, exISE]) :
    Met l mL_set.y (mL_set.wsH hL_set) (mL_set.rm (mN μ1 - mN μ) (mS μ1 - mS μ)) (PcE G [.ref b, .int 116, .int x, .int y] μ) (QW G (WPx (.int (exv r)) μ1)) (mN μ1 - mN μ) (mS μ1 - mS μ) (FREE G) := by
  have hz := s_X10_setTime hG.1 _ _ _ _ _ _ h
  refine wx_met mw_set rfl (Nat.le_of_ble_eq_true rfl) fun p e R s m args below meth c C ht => ?_
  refine lj_iload_n C dL_set_0 rfl (q := 1) rfl ?_
  refine lj_tsIn (off := 148) (tgt := 149) C dL_set_1 (by decide) (by decide) (by decide) (by decide) ?_
  refine lj_aload_n C dL_set_149 rfl (q := 0) rfl ?_
  refine lj_iload_n C dL_set_150 rfl (q := 2) rfl ?_
  refine lj_iload_n C dL_set_151 rfl (q := 3) rfl ?_
  refine lj_callVx (As := [.int x, .int y]) (c2 := 0) (s2 := 0) C ht hG.1 mf_X10_setTime cvL_42 hk ⟨by decide, by decide⟩ rfl rfl (Nat.le_of_ble_eq_true rfl) hz (Nat.le_of_ble_eq_true rfl) dL_set_152 (by have := hz.1.1; omega) (by have := hz.1.2; omega) (fun v hv => ?_) (fun E hE2 => ?_)
  · rcases r with w | E
    · cases hv
      exact lj_wret C dL_set_155 rfl ⟨rfl, Or.inl rfl⟩
    · cases hv
  · rcases r with w | E2
    · cases hE2
    · cases hE2
      have hm := hE _ rfl
      simp only [List.mem_cons, List.not_mem_nil, or_false] at hm
      rcases hm with rfl | rfl
      · refine ⟨162, CT.sk (by decide) (CT.sk (by decide) (CT.sk (by decide) (CT.sk (by decide) (CT.sk (by decide) (CT.sk (by decide) (CT.sk (by decide) (CT.hd (by decide) (by decide) clexIAE ccexIAE rfl))))))), fun N q hN => ?_⟩
        refine lj_astore C dL_set_162 (by decide) rfl ?_
        refine lj_ldc C hG.1 lc_L_15 dL_set_164 ?_
        exact lj_wret C dL_set_166 rfl ⟨by rw [exv_IAE], Or.inr ⟨N, rfl⟩⟩
      · refine ⟨167, CT.sk (by decide) (CT.sk (by decide) (CT.sk (by decide) (CT.sk (by decide) (CT.sk (by decide) (CT.sk (by decide) (CT.sk (by decide) (CT.tl (by decide) clexIAE hG.2.1 (CT.sk (by decide) (CT.sk (by decide) (CT.sk (by decide) (CT.sk (by decide) (CT.sk (by decide) (CT.sk (by decide) (CT.sk (by decide) (CT.sk (by decide) (CT.hd (by decide) (by decide) clexISE ccexISE rfl)))))))))))))))), fun N q hN => ?_⟩
        refine lj_astore C dL_set_167 (by decide) rfl ?_
        refine lj_ldc C hG.1 lc_L_18 dL_set_169 ?_
        exact lj_wret C dL_set_171 rfl ⟨by rw [exv_ISE], Or.inr ⟨N, rfl⟩⟩
set_option maxRecDepth 100000 in
theorem wc_set_c {l : Launch} {G : Gt} (hG : Gok2 l G) {b : Nat} {x y : Int32} {μ μ1 : Mm} {r : Int32 ⊕ String} (hk : mK μ b = 111) (h : f_X10_run b x μ = some (r, μ1)) (hE : ∀ E, r = .inr E → E ∈ [exIAE, exISE]) :
    Met l mL_set.y (mL_set.wsH hL_set) (mL_set.rm (mN μ1 - mN μ) (mS μ1 - mS μ)) (PcE G [.ref b, .int 99, .int x, .int y] μ) (QW G (WPx (.int (exv r)) μ1)) (mN μ1 - mN μ) (mS μ1 - mS μ) (FREE G) := by
  have hz := s_X10_run hG.1 _ _ _ _ _ h
  refine wx_met mw_set rfl (Nat.le_of_ble_eq_true rfl) fun p e R s m args below meth c C ht => ?_
  refine lj_iload_n C dL_set_0 rfl (q := 1) rfl ?_
  refine lj_tsIn (off := 155) (tgt := 156) C dL_set_1 (by decide) (by decide) (by decide) (by decide) ?_
  refine lj_aload_n C dL_set_156 rfl (q := 0) rfl ?_
  refine lj_iload_n C dL_set_157 rfl (q := 2) rfl ?_
  refine lj_callVx (As := [.int x]) (c2 := 0) (s2 := 0) C ht hG.1 mf_X10_run cvL_45 hk ⟨by decide, by decide⟩ rfl rfl (Nat.le_of_ble_eq_true rfl) hz (Nat.le_of_ble_eq_true rfl) dL_set_158 (by have := hz.1.1; omega) (by have := hz.1.2; omega) (fun v hv => ?_) (fun E hE2 => ?_)
  · rcases r with w | E
    · cases hv
      exact lj_wret C dL_set_161 rfl ⟨rfl, Or.inl rfl⟩
    · cases hv
  · rcases r with w | E2
    · cases hE2
    · cases hE2
      have hm := hE _ rfl
      simp only [List.mem_cons, List.not_mem_nil, or_false] at hm
      rcases hm with rfl | rfl
      · refine ⟨162, CT.sk (by decide) (CT.sk (by decide) (CT.sk (by decide) (CT.sk (by decide) (CT.sk (by decide) (CT.sk (by decide) (CT.sk (by decide) (CT.sk (by decide) (CT.hd (by decide) (by decide) clexIAE ccexIAE rfl)))))))), fun N q hN => ?_⟩
        refine lj_astore C dL_set_162 (by decide) rfl ?_
        refine lj_ldc C hG.1 lc_L_15 dL_set_164 ?_
        exact lj_wret C dL_set_166 rfl ⟨by rw [exv_IAE], Or.inr ⟨N, rfl⟩⟩
      · refine ⟨167, CT.sk (by decide) (CT.sk (by decide) (CT.sk (by decide) (CT.sk (by decide) (CT.sk (by decide) (CT.sk (by decide) (CT.sk (by decide) (CT.sk (by decide) (CT.tl (by decide) clexIAE hG.2.1 (CT.sk (by decide) (CT.sk (by decide) (CT.sk (by decide) (CT.sk (by decide) (CT.sk (by decide) (CT.sk (by decide) (CT.sk (by decide) (CT.sk (by decide) (CT.hd (by decide) (by decide) clexISE ccexISE rfl))))))))))))))))), fun N q hN => ?_⟩
        refine lj_astore C dL_set_167 (by decide) rfl ?_
        refine lj_ldc C hG.1 lc_L_18 dL_set_169 ?_
        exact lj_wret C dL_set_171 rfl ⟨by rw [exv_ISE], Or.inr ⟨N, rfl⟩⟩
set_option maxRecDepth 100000 in
theorem wc_life {l : Launch} {G : Gt} (hG : Gok2 l G) {b : Nat} {x y : Int32} {μ μ1 : Mm} {r : Int32 ⊕ String} (hk : mK μ b = 111) (h : f_X10_life b x y μ = some (r, μ1)) (hE : ∀ E, r = .inr E → E ∈ [exIOB, exIAE, exNSE]) :
    Met l mL_life.y (mL_life.wsH hL_life) (mL_life.rm (mN μ1 - mN μ) (mS μ1 - mS μ)) (PcE G [.ref b, .int x, .int y] μ) (QW G (WPx (.int (exv r)) μ1)) (mN μ1 - mN μ) (mS μ1 - mS μ) (FREE G) := by
  have hz := s_X10_life hG.1 _ _ _ _ _ _ h
  refine wx_met mw_life rfl (Nat.le_of_ble_eq_true rfl) fun p e R s m args below meth c C ht => ?_
  refine lj_aload_n C dL_life_0 rfl (q := 0) rfl ?_
  refine lj_iload_n C dL_life_1 rfl (q := 1) rfl ?_
  refine lj_iload_n C dL_life_2 rfl (q := 2) rfl ?_
  refine lj_callVx (As := [.int x, .int y]) (c2 := 0) (s2 := 0) C ht hG.1 mf_X10_life cvL_83 hk ⟨by decide, by decide⟩ rfl rfl (Nat.le_of_ble_eq_true rfl) hz (Nat.le_of_ble_eq_true rfl) dL_life_3 (by have := hz.1.1; omega) (by have := hz.1.2; omega) (fun v hv => ?_) (fun E hE2 => ?_)
  · rcases r with w | E
    · cases hv
      exact lj_wret C dL_life_6 rfl ⟨rfl, Or.inl rfl⟩
    · cases hv
  · rcases r with w | E2
    · cases hE2
    · cases hE2
      have hm := hE _ rfl
      simp only [List.mem_cons, List.not_mem_nil, or_false] at hm
      rcases hm with rfl | rfl | rfl
      · refine ⟨7, CT.hd (by decide) (by decide) clexIOB ccexIOB rfl, fun N q hN => ?_⟩
        refine lj_astore_n C dL_life_7 rfl (by decide) rfl ?_
        refine lj_ldc C hG.1 lc_L_82 dL_life_8 ?_
        exact lj_wret C dL_life_10 rfl ⟨by rw [exv_IOB], Or.inr ⟨N, rfl⟩⟩
      · refine ⟨11, CT.tl (by decide) clexIOB hG.2.2.1 (CT.hd (by decide) (by decide) clexIAE ccexIAE rfl), fun N q hN => ?_⟩
        refine lj_astore_n C dL_life_11 rfl (by decide) rfl ?_
        refine lj_ldc C hG.1 lc_L_15 dL_life_12 ?_
        exact lj_wret C dL_life_14 rfl ⟨by rw [exv_IAE], Or.inr ⟨N, rfl⟩⟩
      · refine ⟨15, CT.tl (by decide) clexIOB hG.2.2.2.1 (CT.tl (by decide) clexIAE hG.2.2.2.2 (CT.hd (by decide) (by decide) clexNSE ccexNSE rfl)), fun N q hN => ?_⟩
        refine lj_astore_n C dL_life_15 rfl (by decide) rfl ?_
        refine lj_ldc C hG.1 lc_L_88 dL_life_16 ?_
        exact lj_wret C dL_life_18 rfl ⟨by rw [exv_NSE], Or.inr ⟨N, rfl⟩⟩
set_option maxRecDepth 100000 in
theorem wc_share {l : Launch} {G : Gt} (hG : Gok2 l G) {b : Nat} {μ μ1 : Mm} {r : UInt32 ⊕ String} (hk : mK μ b = 111) (h : f_X10_share b μ = some (r, μ1)) (hE : ∀ E, r = .inr E → E ∈ [exNSE]) :
    Met l mL_share.y (mL_share.wsH hL_share) (mL_share.rm (mN μ1 - mN μ) (mS μ1 - mS μ)) (PcE G [.ref b] μ) (QW G (WPf r μ1)) (mN μ1 - mN μ) (mS μ1 - mS μ) (FREE G) := by
  have hz := s_X10_share hG.1 _ _ _ _ h
  refine wx_met mw_share rfl (Nat.le_of_ble_eq_true rfl) fun p e R s m args below meth c C ht => ?_
  refine lj_aload_n C dL_share_0 rfl (q := 0) rfl ?_
  refine lj_callVx (As := []) (c2 := 0) (s2 := 0) C ht hG.1 mf_X10_share cvL_127 hk ⟨by decide, by decide⟩ rfl rfl (Nat.le_of_ble_eq_true rfl) hz (Nat.le_of_ble_eq_true rfl) dL_share_1 (by have := hz.1.1; omega) (by have := hz.1.2; omega) (fun v hv => ?_) (fun E hE2 => ?_)
  · rcases r with w | E
    · cases hv
      exact lj_wfret C dL_share_4 rfl ⟨rfl, Or.inl rfl⟩
    · cases hv
  · rcases r with w | E2
    · cases hE2
    · cases hE2
      have hm := hE _ rfl
      simp only [List.mem_cons, List.not_mem_nil, or_false] at hm
      subst hm
      refine ⟨5, CT.hd (by decide) (by decide) clexNSE ccexNSE rfl, fun N q hN => ?_⟩
      refine lj_astore_n C dL_share_5 rfl (by decide) rfl ?_
      refine lj_ldcf C hG.1 lc_L_131 dL_share_6 ?_
      exact lj_wfret C dL_share_8 rfl ⟨rfl, Or.inr ⟨N, rfl⟩⟩
set_option maxRecDepth 100000 in
theorem wc_add {l : Launch} {G : Gt} (hG : Gok2 l G) {b : Nat} {a : Nat} {x0 x1 x2 x3 x4 : Int32} {μ μ1 : Mm} {r : Int32 ⊕ String} (hk : mK μ b = 111) (iv : IV5 μ a x0 x1 x2 x3 x4) (h : f_X10_add b x0 x1 x2 x3 x4 μ = some (r, μ1)) (hE : ∀ E, r = .inr E → E ∈ [exIAE, exISE]) :
    Met l mL_add.y (mL_add.wsH hL_add) (mL_add.rm (mN μ1 - mN μ) (mS μ1 - mS μ)) (PcE G [.ref b, .ref a] μ) (QW G (WPx (.int (exv r)) μ1)) (mN μ1 - mN μ) (mS μ1 - mS μ) (FREE G) := by
  have hz := s_X10_add hG.1 _ _ _ _ _ _ _ _ _ h
  refine wx_met mw_add rfl (Nat.le_of_ble_eq_true rfl) fun p e R s m args below meth c C ht => ?_
  refine lj_aload_n C dL_add_0 rfl (q := 0) rfl ?_
  refine lj_aload_n C dL_add_1 rfl (q := 1) rfl ?_
  refine lj_iconst (v := 0) C dL_add_2 (by decide) ?_
  refine lj_iald C hG.1 iv.1 (by decide) rfl (vin5 iv.2.1 (j := 0) (by decide) (by decide)) dL_add_3 ?_
  rw [show mI μ a (0 : Int32).toNatClampNeg = x0 from iv.2.2.1]
  refine lj_aload_n C dL_add_4 rfl (q := 1) rfl ?_
  refine lj_iconst (v := 1) C dL_add_5 (by decide) ?_
  refine lj_iald C hG.1 iv.1 (by decide) rfl (vin5 iv.2.1 (j := 1) (by decide) (by decide)) dL_add_6 ?_
  rw [show mI μ a (1 : Int32).toNatClampNeg = x1 from iv.2.2.2.1]
  refine lj_aload_n C dL_add_7 rfl (q := 1) rfl ?_
  refine lj_iconst (v := 2) C dL_add_8 (by decide) ?_
  refine lj_iald C hG.1 iv.1 (by decide) rfl (vin5 iv.2.1 (j := 2) (by decide) (by decide)) dL_add_9 ?_
  rw [show mI μ a (2 : Int32).toNatClampNeg = x2 from iv.2.2.2.2.1]
  refine lj_aload_n C dL_add_10 rfl (q := 1) rfl ?_
  refine lj_iconst (v := 3) C dL_add_11 (by decide) ?_
  refine lj_iald C hG.1 iv.1 (by decide) rfl (vin5 iv.2.1 (j := 3) (by decide) (by decide)) dL_add_12 ?_
  rw [show mI μ a (3 : Int32).toNatClampNeg = x3 from iv.2.2.2.2.2.1]
  refine lj_aload_n C dL_add_13 rfl (q := 1) rfl ?_
  refine lj_iconst (v := 4) C dL_add_14 (by decide) ?_
  refine lj_iald C hG.1 iv.1 (by decide) rfl (vin5 iv.2.1 (j := 4) (by decide) (by decide)) dL_add_15 ?_
  rw [show mI μ a (4 : Int32).toNatClampNeg = x4 from iv.2.2.2.2.2.2]
  refine lj_callVx (As := [.int x0, .int x1, .int x2, .int x3, .int x4]) (c2 := 0) (s2 := 0) C ht hG.1 mf_X10_add cvL_7 hk ⟨by decide, by decide⟩ rfl rfl (Nat.le_of_ble_eq_true rfl) hz (Nat.le_of_ble_eq_true rfl) dL_add_16 (by have := hz.1.1; omega) (by have := hz.1.2; omega) (fun v hv => ?_) (fun E hE2 => ?_)
  · rcases r with w | E
    · cases hv
      exact lj_wret C dL_add_19 rfl ⟨rfl, Or.inl rfl⟩
    · cases hv
  · rcases r with w | E2
    · cases hE2
    · cases hE2
      have hm := hE _ rfl
      simp only [List.mem_cons, List.not_mem_nil, or_false] at hm
      rcases hm with rfl | rfl
      · refine ⟨20, CT.hd (by decide) (by decide) clexIAE ccexIAE rfl, fun N q hN => ?_⟩
        refine lj_astore_n C dL_add_20 rfl (by decide) rfl ?_
        refine lj_ldc C hG.1 lc_L_15 dL_add_21 ?_
        exact lj_wret C dL_add_23 rfl ⟨by rw [exv_IAE], Or.inr ⟨N, rfl⟩⟩
      · refine ⟨24, CT.tl (by decide) clexIAE hG.2.1 (CT.hd (by decide) (by decide) clexISE ccexISE rfl), fun N q hN => ?_⟩
        refine lj_astore_n C dL_add_24 rfl (by decide) rfl ?_
        refine lj_ldc C hG.1 lc_L_18 dL_add_25 ?_
        exact lj_wret C dL_add_27 rfl ⟨by rw [exv_ISE], Or.inr ⟨N, rfl⟩⟩
