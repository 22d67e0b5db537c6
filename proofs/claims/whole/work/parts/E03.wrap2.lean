/-! the 34 methods of the law that catch -/
abbrev exIAE : String := "java/lang/IllegalArgumentException"
abbrev exISE : String := "java/lang/IllegalStateException"
abbrev exIOB : String := "java/lang/IndexOutOfBoundsException"
abbrev exNSE : String := "java/util/NoSuchElementException"
/-- .. and that some exceptions aren't others -/
def Gok2 (l : Launch) (G : Gt) : Prop := Gok l G ∧ va_Nc exISE exIAE G.1 ∧ va_Nc exIAE exIOB G.1 ∧ va_Nc exNSE exIOB G.1 ∧ va_Nc exNSE exIAE G.1
theorem CT.hd {G : Gt} {own E : String} {x : ExceptionTableEntry} {suf : List ExceptionTableEntry} {pc hp : Nat} (h1 : covers x pc = true) (h2 : x.catchType ≠ 0) (h3 : Cond.classLink own x.catchType E ∈ lw_tbl) (h4 : Cond.castable E E ∈ lw_tbl) (h5 : x.handlerPc = hp) : CT G own (x :: suf) pc E hp := ⟨[], x, suf, E, rfl, fun z hz => absurd hz List.not_mem_nil, h1, h2, h3, h4, h5⟩
theorem CT.tl {G : Gt} {own E nm : String} {x : ExceptionTableEntry} {suf : List ExceptionTableEntry} {pc hp : Nat} (h2 : x.catchType ≠ 0) (h3 : Cond.classLink own x.catchType nm ∈ lw_tbl) (h4 : va_Nc E nm G.1) (h : CT G own suf pc E hp) : CT G own (x :: suf) pc E hp := by
  obtain ⟨pre, y, suf2, nm2, w1, w2, w3⟩ := h
  refine ⟨x :: pre, y, suf2, nm2, by rw [w1]; rfl, fun z hz => ?_, w3⟩
  rcases List.mem_cons.mp hz with e | e
  · rw [e]
    exact Or.inr ⟨h2, nm, h3, h4⟩
  · exact w2 z e
theorem clexIAE : Cond.classLink RL 13 exIAE ∈ lw_tbl := List.mem_of_getElem? (i := 571) (by decide +kernel)
theorem ccexIAE : Cond.castable exIAE exIAE ∈ lw_tbl := List.mem_of_getElem? (i := 585) (by decide +kernel)
theorem clexISE : Cond.classLink RL 15 exISE ∈ lw_tbl := List.mem_of_getElem? (i := 572) (by decide +kernel)
theorem ccexISE : Cond.castable exISE exISE ∈ lw_tbl := List.mem_of_getElem? (i := 649) (by decide +kernel)
theorem clexIOB : Cond.classLink RL 49 exIOB ∈ lw_tbl := List.mem_of_getElem? (i := 1318) (by decide +kernel)
theorem ccexIOB : Cond.castable exIOB exIOB ∈ lw_tbl := List.mem_of_getElem? (i := 1329) (by decide +kernel)
theorem clexNSE : Cond.classLink RL 76 exNSE ∈ lw_tbl := List.mem_of_getElem? (i := 1397) (by decide +kernel)
theorem ccexNSE : Cond.castable exNSE exNSE ∈ lw_tbl := List.mem_of_getElem? (i := 1404) (by decide +kernel)
/-- what such a method answers: 0 and what it was told in the row o, or the number of its exception -/
def WP1 {α : Type} (g : α → Int64) (ces : List String) (o : Nat) (μ μ1 : Mm) (r : α ⊕ String) (v : Int32) (μ2 : Mm) : Prop := (∃ w, r = .inl w ∧ v = 0 ∧ μ2 = sJ μ1 o 0 (g w)) ∨ ∃ E k N, r = .inr E ∧ ces[k]? = some E ∧ v = nI (k + 1) ∧ mN μ ≤ N ∧ μ2 = sN μ1 N
theorem z0c : (0 : Int32).toNatClampNeg = 0 := by decide
theorem vin1 {n : Nat} (h : n = 1) : vp_in 0 n := by
  subst h
  unfold vp_in
  decide
def blJ (w : Int32) : Int64 := if w = 0 then 0 else 1
def flJ (w : UInt32) : Int64 := (FP.f2d w).toInt64
theorem dL_add_0 : decode cL_add 0 = .ok (.aload 6, 2) := by decide +kernel
theorem dL_add_2 : decode cL_add 2 = .ok (.iconst 0, 1) := by decide +kernel
theorem dL_add_3 : decode cL_add 3 = .ok (.aload_n 0, 1) := by decide +kernel
theorem dL_add_4 : decode cL_add 4 = .ok (.iload_n 1, 1) := by decide +kernel
theorem dL_add_5 : decode cL_add 5 = .ok (.iload_n 2, 1) := by decide +kernel
theorem dL_add_6 : decode cL_add 6 = .ok (.iload_n 3, 1) := by decide +kernel
theorem dL_add_7 : decode cL_add 7 = .ok (.iload 4, 2) := by decide +kernel
theorem dL_add_9 : decode cL_add 9 = .ok (.iload 5, 2) := by decide +kernel
theorem dL_add_11 : decode cL_add 11 = .ok (.invokevirtual 7, 3) := by decide +kernel
theorem dL_add_14 : decode cL_add 14 = .ok (.i2l, 1) := by decide +kernel
theorem dL_add_15 : decode cL_add 15 = .ok (.lastore, 1) := by decide +kernel
theorem dL_add_16 : decode cL_add 16 = .ok (.goto 11, 3) := by decide +kernel
theorem dL_add_19 : decode cL_add 19 = .ok (.astore 7, 2) := by decide +kernel
theorem dL_add_21 : decode cL_add 21 = .ok (.iconst 1, 1) := by decide +kernel
theorem dL_add_22 : decode cL_add 22 = .ok (.ireturn, 1) := by decide +kernel
theorem dL_add_23 : decode cL_add 23 = .ok (.astore 7, 2) := by decide +kernel
theorem dL_add_25 : decode cL_add 25 = .ok (.iconst 2, 1) := by decide +kernel
theorem dL_add_26 : decode cL_add 26 = .ok (.ireturn, 1) := by decide +kernel
theorem dL_add_27 : decode cL_add 27 = .ok (.iconst 0, 1) := by decide +kernel
theorem dL_add_28 : decode cL_add 28 = .ok (.ireturn, 1) := by decide +kernel
def mL_add : MD := (cL_add, RL, yL_add, 8, some .int, 8, 218)
abbrev hL_add : List (Nat × Nat × Nat × Nat) := [(0, 16, 19, 13), (0, 16, 23, 15)]
theorem mw_add : MW mL_add hL_add 7 := MW.of 570 77 (by decide +kernel) (by decide +kernel) (by decide +kernel) (by decide +kernel) (by decide +kernel) rfl rfl
theorem cvL_add : CVs RL 7 mX10_add 11 := CVs.of 573 574 575 (by decide +kernel) (by decide +kernel) (by decide +kernel) _ rfl rfl
set_option maxRecDepth 100000 in
theorem wc_add {l : Launch} {G : Gt} (hG : Gok2 l G) {b o : Nat} {x1 : Int32} {x2 : Int32} {x3 : Int32} {x4 : Int32} {x5 : Int32} {μ μ1 : Mm} {r : Int32 ⊕ String} (hk : mK μ b = 111) (ho : mK μ1 o = 63) (hl : mL μ1 o = 1) (h : f_X10_add b x1 x2 x3 x4 x5 μ = some (r, μ1)) (hE : ∀ E, r = .inr E → E ∈ [exIAE, exISE]) :
    Met l mL_add.y (mL_add.wsH hL_add) (mL_add.rm (mN μ1 - mN μ) (mS μ1 - mS μ)) (PcE G [.ref b, .int x1, .int x2, .int x3, .int x4, .int x5, .ref o] μ) (QW G (WP1 Int32.toInt64 [exIAE, exISE] o μ μ1 r)) (mN μ1 - mN μ) (mS μ1 - mS μ) (FREE G) := by
  have hz := s_X10_add hG.1 _ _ _ _ _ _ _ _ _ h
  refine wx_met mw_add rfl (Nat.le_of_ble_eq_true rfl) fun p e R s m args below meth c C ht => ?_
  refine lj_aload C dL_add_0 (q := 6) rfl ?_
  refine lj_iconst (v := 0) C dL_add_2 iv_iconst_0 ?_
  refine lj_aload_n C dL_add_3 rfl (q := 0) rfl ?_
  refine lj_iload_n C dL_add_4 rfl (q := 1) rfl ?_
  refine lj_iload_n C dL_add_5 rfl (q := 2) rfl ?_
  refine lj_iload_n C dL_add_6 rfl (q := 3) rfl ?_
  refine lj_iload C dL_add_7 (q := 4) rfl ?_
  refine lj_iload C dL_add_9 (q := 5) rfl ?_
  refine lj_callVx (As := [.int x1, .int x2, .int x3, .int x4, .int x5]) (c2 := 0) (s2 := 0) C ht hG.1 mf_X10_add cvL_add hk ⟨by decide, by decide⟩ rfl rfl (Nat.le_of_ble_eq_true rfl) hz (Nat.le_of_ble_eq_true rfl) dL_add_11 (by have := hz.1.1; omega) (by have := hz.1.2; omega) (fun v hv => ?_) (fun E hE2 => ?_)
  · rcases r with w | E
    · cases hv
      refine lj_i2l C dL_add_14 ?_
      refine lj_lastore C hG.1 ho (by decide) rfl (vin1 hl) dL_add_15 ?_
      refine lj_goto (tgt := 27) C dL_add_16 (by decide) ?_
      refine lj_iconst (v := 0) C dL_add_27 iv_iconst_0 ?_
      exact lj_wret C dL_add_28 rfl (Or.inl ⟨w, rfl, rfl, by rw [z0c]⟩)
    · cases hv
  · rcases r with w | E2
    · cases hE2
    · cases hE2
      have hm := hE _ rfl
      simp only [List.mem_cons, List.not_mem_nil, or_false] at hm
      rcases hm with rfl | rfl
      · refine ⟨19, CT.hd (by decide) (by decide) clexIAE ccexIAE rfl, fun N q hN => ?_⟩
        refine lj_astore C dL_add_19 (by decide) rfl ?_
        refine lj_iconst (v := 1) C dL_add_21 (by decide) ?_
        exact lj_wret C dL_add_22 rfl (Or.inr ⟨_, 0, N, rfl, rfl, rfl, hN, rfl⟩)
      · refine ⟨23, CT.tl (by decide) clexIAE hG.2.1 (CT.hd (by decide) (by decide) clexISE ccexISE rfl), fun N q hN => ?_⟩
        refine lj_astore C dL_add_23 (by decide) rfl ?_
        refine lj_iconst (v := 2) C dL_add_25 (by decide) ?_
        exact lj_wret C dL_add_26 rfl (Or.inr ⟨_, 1, N, rfl, rfl, rfl, hN, rfl⟩)
theorem dL_setRegister_0 : decode cL_setRegister 0 = .ok (.aload_n 3, 1) := by decide +kernel
theorem dL_setRegister_1 : decode cL_setRegister 1 = .ok (.iconst 0, 1) := by decide +kernel
theorem dL_setRegister_2 : decode cL_setRegister 2 = .ok (.aload_n 0, 1) := by decide +kernel
theorem dL_setRegister_3 : decode cL_setRegister 3 = .ok (.iload_n 1, 1) := by decide +kernel
theorem dL_setRegister_4 : decode cL_setRegister 4 = .ok (.iload_n 2, 1) := by decide +kernel
theorem dL_setRegister_5 : decode cL_setRegister 5 = .ok (.invokevirtual 17, 3) := by decide +kernel
theorem dL_setRegister_8 : decode cL_setRegister 8 = .ok (.i2l, 1) := by decide +kernel
theorem dL_setRegister_9 : decode cL_setRegister 9 = .ok (.lastore, 1) := by decide +kernel
theorem dL_setRegister_10 : decode cL_setRegister 10 = .ok (.goto 11, 3) := by decide +kernel
theorem dL_setRegister_13 : decode cL_setRegister 13 = .ok (.astore 4, 2) := by decide +kernel
theorem dL_setRegister_15 : decode cL_setRegister 15 = .ok (.iconst 1, 1) := by decide +kernel
theorem dL_setRegister_16 : decode cL_setRegister 16 = .ok (.ireturn, 1) := by decide +kernel
theorem dL_setRegister_17 : decode cL_setRegister 17 = .ok (.astore 4, 2) := by decide +kernel
theorem dL_setRegister_19 : decode cL_setRegister 19 = .ok (.iconst 2, 1) := by decide +kernel
theorem dL_setRegister_20 : decode cL_setRegister 20 = .ok (.ireturn, 1) := by decide +kernel
theorem dL_setRegister_21 : decode cL_setRegister 21 = .ok (.iconst 0, 1) := by decide +kernel
theorem dL_setRegister_22 : decode cL_setRegister 22 = .ok (.ireturn, 1) := by decide +kernel
def mL_setRegister : MD := (cL_setRegister, RL, yL_setRegister, 5, some .int, 7, 113)
abbrev hL_setRegister : List (Nat × Nat × Nat × Nat) := [(0, 10, 13, 13), (0, 10, 17, 15)]
theorem mw_setRegister : MW mL_setRegister hL_setRegister 4 := MW.of 769 77 (by decide +kernel) (by decide +kernel) (by decide +kernel) (by decide +kernel) (by decide +kernel) rfl rfl
theorem cvL_setRegister : CVs RL 17 mX10_setRegister 11 := CVs.of 770 771 772 (by decide +kernel) (by decide +kernel) (by decide +kernel) _ rfl rfl
set_option maxRecDepth 100000 in
theorem wc_setRegister {l : Launch} {G : Gt} (hG : Gok2 l G) {b o : Nat} {x1 : Int32} {x2 : Int32} {μ μ1 : Mm} {r : Int32 ⊕ String} (hk : mK μ b = 111) (ho : mK μ1 o = 63) (hl : mL μ1 o = 1) (h : f_X10_setRegister b x1 x2 μ = some (r, μ1)) (hE : ∀ E, r = .inr E → E ∈ [exIAE, exISE]) :
    Met l mL_setRegister.y (mL_setRegister.wsH hL_setRegister) (mL_setRegister.rm (mN μ1 - mN μ) (mS μ1 - mS μ)) (PcE G [.ref b, .int x1, .int x2, .ref o] μ) (QW G (WP1 Int32.toInt64 [exIAE, exISE] o μ μ1 r)) (mN μ1 - mN μ) (mS μ1 - mS μ) (FREE G) := by
  have hz := s_X10_setRegister hG.1 _ _ _ _ _ _ h
  refine wx_met mw_setRegister rfl (Nat.le_of_ble_eq_true rfl) fun p e R s m args below meth c C ht => ?_
  refine lj_aload_n C dL_setRegister_0 rfl (q := 3) rfl ?_
  refine lj_iconst (v := 0) C dL_setRegister_1 iv_iconst_0 ?_
  refine lj_aload_n C dL_setRegister_2 rfl (q := 0) rfl ?_
  refine lj_iload_n C dL_setRegister_3 rfl (q := 1) rfl ?_
  refine lj_iload_n C dL_setRegister_4 rfl (q := 2) rfl ?_
  refine lj_callVx (As := [.int x1, .int x2]) (c2 := 0) (s2 := 0) C ht hG.1 mf_X10_setRegister cvL_setRegister hk ⟨by decide, by decide⟩ rfl rfl (Nat.le_of_ble_eq_true rfl) hz (Nat.le_of_ble_eq_true rfl) dL_setRegister_5 (by have := hz.1.1; omega) (by have := hz.1.2; omega) (fun v hv => ?_) (fun E hE2 => ?_)
  · rcases r with w | E
    · cases hv
      refine lj_i2l C dL_setRegister_8 ?_
      refine lj_lastore C hG.1 ho (by decide) rfl (vin1 hl) dL_setRegister_9 ?_
      refine lj_goto (tgt := 21) C dL_setRegister_10 (by decide) ?_
      refine lj_iconst (v := 0) C dL_setRegister_21 iv_iconst_0 ?_
      exact lj_wret C dL_setRegister_22 rfl (Or.inl ⟨w, rfl, rfl, by rw [z0c]⟩)
    · cases hv
  · rcases r with w | E2
    · cases hE2
    · cases hE2
      have hm := hE _ rfl
      simp only [List.mem_cons, List.not_mem_nil, or_false] at hm
      rcases hm with rfl | rfl
      · refine ⟨13, CT.hd (by decide) (by decide) clexIAE ccexIAE rfl, fun N q hN => ?_⟩
        refine lj_astore C dL_setRegister_13 (by decide) rfl ?_
        refine lj_iconst (v := 1) C dL_setRegister_15 (by decide) ?_
        exact lj_wret C dL_setRegister_16 rfl (Or.inr ⟨_, 0, N, rfl, rfl, rfl, hN, rfl⟩)
      · refine ⟨17, CT.tl (by decide) clexIAE hG.2.1 (CT.hd (by decide) (by decide) clexISE ccexISE rfl), fun N q hN => ?_⟩
        refine lj_astore C dL_setRegister_17 (by decide) rfl ?_
        refine lj_iconst (v := 2) C dL_setRegister_19 (by decide) ?_
        exact lj_wret C dL_setRegister_20 rfl (Or.inr ⟨_, 1, N, rfl, rfl, rfl, hN, rfl⟩)
theorem dL_setWord_0 : decode cL_setWord 0 = .ok (.aload_n 3, 1) := by decide +kernel
theorem dL_setWord_1 : decode cL_setWord 1 = .ok (.iconst 0, 1) := by decide +kernel
theorem dL_setWord_2 : decode cL_setWord 2 = .ok (.aload_n 0, 1) := by decide +kernel
theorem dL_setWord_3 : decode cL_setWord 3 = .ok (.iload_n 1, 1) := by decide +kernel
theorem dL_setWord_4 : decode cL_setWord 4 = .ok (.iload_n 2, 1) := by decide +kernel
theorem dL_setWord_5 : decode cL_setWord 5 = .ok (.invokevirtual 21, 3) := by decide +kernel
theorem dL_setWord_8 : decode cL_setWord 8 = .ok (.i2l, 1) := by decide +kernel
theorem dL_setWord_9 : decode cL_setWord 9 = .ok (.lastore, 1) := by decide +kernel
theorem dL_setWord_10 : decode cL_setWord 10 = .ok (.goto 11, 3) := by decide +kernel
theorem dL_setWord_13 : decode cL_setWord 13 = .ok (.astore 4, 2) := by decide +kernel
theorem dL_setWord_15 : decode cL_setWord 15 = .ok (.iconst 1, 1) := by decide +kernel
theorem dL_setWord_16 : decode cL_setWord 16 = .ok (.ireturn, 1) := by decide +kernel
theorem dL_setWord_17 : decode cL_setWord 17 = .ok (.astore 4, 2) := by decide +kernel
theorem dL_setWord_19 : decode cL_setWord 19 = .ok (.iconst 2, 1) := by decide +kernel
theorem dL_setWord_20 : decode cL_setWord 20 = .ok (.ireturn, 1) := by decide +kernel
theorem dL_setWord_21 : decode cL_setWord 21 = .ok (.iconst 0, 1) := by decide +kernel
theorem dL_setWord_22 : decode cL_setWord 22 = .ok (.ireturn, 1) := by decide +kernel
def mL_setWord : MD := (cL_setWord, RL, yL_setWord, 5, some .int, 7, 113)
abbrev hL_setWord : List (Nat × Nat × Nat × Nat) := [(0, 10, 13, 13), (0, 10, 17, 15)]
theorem mw_setWord : MW mL_setWord hL_setWord 4 := MW.of 776 77 (by decide +kernel) (by decide +kernel) (by decide +kernel) (by decide +kernel) (by decide +kernel) rfl rfl
theorem cvL_setWord : CVs RL 21 mX10_setWord 11 := CVs.of 777 778 779 (by decide +kernel) (by decide +kernel) (by decide +kernel) _ rfl rfl
set_option maxRecDepth 100000 in
theorem wc_setWord {l : Launch} {G : Gt} (hG : Gok2 l G) {b o : Nat} {x1 : Int32} {x2 : Int32} {μ μ1 : Mm} {r : Int32 ⊕ String} (hk : mK μ b = 111) (ho : mK μ1 o = 63) (hl : mL μ1 o = 1) (h : f_X10_setWord b x1 x2 μ = some (r, μ1)) (hE : ∀ E, r = .inr E → E ∈ [exIAE, exISE]) :
    Met l mL_setWord.y (mL_setWord.wsH hL_setWord) (mL_setWord.rm (mN μ1 - mN μ) (mS μ1 - mS μ)) (PcE G [.ref b, .int x1, .int x2, .ref o] μ) (QW G (WP1 Int32.toInt64 [exIAE, exISE] o μ μ1 r)) (mN μ1 - mN μ) (mS μ1 - mS μ) (FREE G) := by
  have hz := s_X10_setWord hG.1 _ _ _ _ _ _ h
  refine wx_met mw_setWord rfl (Nat.le_of_ble_eq_true rfl) fun p e R s m args below meth c C ht => ?_
  refine lj_aload_n C dL_setWord_0 rfl (q := 3) rfl ?_
  refine lj_iconst (v := 0) C dL_setWord_1 iv_iconst_0 ?_
  refine lj_aload_n C dL_setWord_2 rfl (q := 0) rfl ?_
  refine lj_iload_n C dL_setWord_3 rfl (q := 1) rfl ?_
  refine lj_iload_n C dL_setWord_4 rfl (q := 2) rfl ?_
  refine lj_callVx (As := [.int x1, .int x2]) (c2 := 0) (s2 := 0) C ht hG.1 mf_X10_setWord cvL_setWord hk ⟨by decide, by decide⟩ rfl rfl (Nat.le_of_ble_eq_true rfl) hz (Nat.le_of_ble_eq_true rfl) dL_setWord_5 (by have := hz.1.1; omega) (by have := hz.1.2; omega) (fun v hv => ?_) (fun E hE2 => ?_)
  · rcases r with w | E
    · cases hv
      refine lj_i2l C dL_setWord_8 ?_
      refine lj_lastore C hG.1 ho (by decide) rfl (vin1 hl) dL_setWord_9 ?_
      refine lj_goto (tgt := 21) C dL_setWord_10 (by decide) ?_
      refine lj_iconst (v := 0) C dL_setWord_21 iv_iconst_0 ?_
      exact lj_wret C dL_setWord_22 rfl (Or.inl ⟨w, rfl, rfl, by rw [z0c]⟩)
    · cases hv
  · rcases r with w | E2
    · cases hE2
    · cases hE2
      have hm := hE _ rfl
      simp only [List.mem_cons, List.not_mem_nil, or_false] at hm
      rcases hm with rfl | rfl
      · refine ⟨13, CT.hd (by decide) (by decide) clexIAE ccexIAE rfl, fun N q hN => ?_⟩
        refine lj_astore C dL_setWord_13 (by decide) rfl ?_
        refine lj_iconst (v := 1) C dL_setWord_15 (by decide) ?_
        exact lj_wret C dL_setWord_16 rfl (Or.inr ⟨_, 0, N, rfl, rfl, rfl, hN, rfl⟩)
      · refine ⟨17, CT.tl (by decide) clexIAE hG.2.1 (CT.hd (by decide) (by decide) clexISE ccexISE rfl), fun N q hN => ?_⟩
        refine lj_astore C dL_setWord_17 (by decide) rfl ?_
        refine lj_iconst (v := 2) C dL_setWord_19 (by decide) ?_
        exact lj_wret C dL_setWord_20 rfl (Or.inr ⟨_, 1, N, rfl, rfl, rfl, hN, rfl⟩)
theorem dL_setWidth_0 : decode cL_setWidth 0 = .ok (.aload_n 2, 1) := by decide +kernel
theorem dL_setWidth_1 : decode cL_setWidth 1 = .ok (.iconst 0, 1) := by decide +kernel
theorem dL_setWidth_2 : decode cL_setWidth 2 = .ok (.aload_n 0, 1) := by decide +kernel
theorem dL_setWidth_3 : decode cL_setWidth 3 = .ok (.iload_n 1, 1) := by decide +kernel
theorem dL_setWidth_4 : decode cL_setWidth 4 = .ok (.invokevirtual 24, 3) := by decide +kernel
theorem dL_setWidth_7 : decode cL_setWidth 7 = .ok (.i2l, 1) := by decide +kernel
theorem dL_setWidth_8 : decode cL_setWidth 8 = .ok (.lastore, 1) := by decide +kernel
theorem dL_setWidth_9 : decode cL_setWidth 9 = .ok (.goto 9, 3) := by decide +kernel
theorem dL_setWidth_12 : decode cL_setWidth 12 = .ok (.astore_n 3, 1) := by decide +kernel
theorem dL_setWidth_13 : decode cL_setWidth 13 = .ok (.iconst 1, 1) := by decide +kernel
theorem dL_setWidth_14 : decode cL_setWidth 14 = .ok (.ireturn, 1) := by decide +kernel
theorem dL_setWidth_15 : decode cL_setWidth 15 = .ok (.astore_n 3, 1) := by decide +kernel
theorem dL_setWidth_16 : decode cL_setWidth 16 = .ok (.iconst 2, 1) := by decide +kernel
theorem dL_setWidth_17 : decode cL_setWidth 17 = .ok (.ireturn, 1) := by decide +kernel
theorem dL_setWidth_18 : decode cL_setWidth 18 = .ok (.iconst 0, 1) := by decide +kernel
theorem dL_setWidth_19 : decode cL_setWidth 19 = .ok (.ireturn, 1) := by decide +kernel
def mL_setWidth : MD := (cL_setWidth, RL, yL_setWidth, 4, some .int, 7, 112)
abbrev hL_setWidth : List (Nat × Nat × Nat × Nat) := [(0, 9, 12, 13), (0, 9, 15, 15)]
theorem mw_setWidth : MW mL_setWidth hL_setWidth 3 := MW.of 786 77 (by decide +kernel) (by decide +kernel) (by decide +kernel) (by decide +kernel) (by decide +kernel) rfl rfl
theorem cvL_setWidth : CVs RL 24 mX10_setWidth 11 := CVs.of 787 788 789 (by decide +kernel) (by decide +kernel) (by decide +kernel) _ rfl rfl
set_option maxRecDepth 100000 in
theorem wc_setWidth {l : Launch} {G : Gt} (hG : Gok2 l G) {b o : Nat} {x1 : Int32} {μ μ1 : Mm} {r : Int32 ⊕ String} (hk : mK μ b = 111) (ho : mK μ1 o = 63) (hl : mL μ1 o = 1) (h : f_X10_setWidth b x1 μ = some (r, μ1)) (hE : ∀ E, r = .inr E → E ∈ [exIAE, exISE]) :
    Met l mL_setWidth.y (mL_setWidth.wsH hL_setWidth) (mL_setWidth.rm (mN μ1 - mN μ) (mS μ1 - mS μ)) (PcE G [.ref b, .int x1, .ref o] μ) (QW G (WP1 Int32.toInt64 [exIAE, exISE] o μ μ1 r)) (mN μ1 - mN μ) (mS μ1 - mS μ) (FREE G) := by
  have hz := s_X10_setWidth hG.1 _ _ _ _ _ h
  refine wx_met mw_setWidth rfl (Nat.le_of_ble_eq_true rfl) fun p e R s m args below meth c C ht => ?_
  refine lj_aload_n C dL_setWidth_0 rfl (q := 2) rfl ?_
  refine lj_iconst (v := 0) C dL_setWidth_1 iv_iconst_0 ?_
  refine lj_aload_n C dL_setWidth_2 rfl (q := 0) rfl ?_
  refine lj_iload_n C dL_setWidth_3 rfl (q := 1) rfl ?_
  refine lj_callVx (As := [.int x1]) (c2 := 0) (s2 := 0) C ht hG.1 mf_X10_setWidth cvL_setWidth hk ⟨by decide, by decide⟩ rfl rfl (Nat.le_of_ble_eq_true rfl) hz (Nat.le_of_ble_eq_true rfl) dL_setWidth_4 (by have := hz.1.1; omega) (by have := hz.1.2; omega) (fun v hv => ?_) (fun E hE2 => ?_)
  · rcases r with w | E
    · cases hv
      refine lj_i2l C dL_setWidth_7 ?_
      refine lj_lastore C hG.1 ho (by decide) rfl (vin1 hl) dL_setWidth_8 ?_
      refine lj_goto (tgt := 18) C dL_setWidth_9 (by decide) ?_
      refine lj_iconst (v := 0) C dL_setWidth_18 iv_iconst_0 ?_
      exact lj_wret C dL_setWidth_19 rfl (Or.inl ⟨w, rfl, rfl, by rw [z0c]⟩)
    · cases hv
  · rcases r with w | E2
    · cases hE2
    · cases hE2
      have hm := hE _ rfl
      simp only [List.mem_cons, List.not_mem_nil, or_false] at hm
      rcases hm with rfl | rfl
      · refine ⟨12, CT.hd (by decide) (by decide) clexIAE ccexIAE rfl, fun N q hN => ?_⟩
        refine lj_astore_n C dL_setWidth_12 rfl (by decide) rfl ?_
        refine lj_iconst (v := 1) C dL_setWidth_13 (by decide) ?_
        exact lj_wret C dL_setWidth_14 rfl (Or.inr ⟨_, 0, N, rfl, rfl, rfl, hN, rfl⟩)
      · refine ⟨15, CT.tl (by decide) clexIAE hG.2.1 (CT.hd (by decide) (by decide) clexISE ccexISE rfl), fun N q hN => ?_⟩
        refine lj_astore_n C dL_setWidth_15 rfl (by decide) rfl ?_
        refine lj_iconst (v := 2) C dL_setWidth_16 (by decide) ?_
        exact lj_wret C dL_setWidth_17 rfl (Or.inr ⟨_, 1, N, rfl, rfl, rfl, hN, rfl⟩)
theorem dL_setBuffer_0 : decode cL_setBuffer 0 = .ok (.aload_n 2, 1) := by decide +kernel
theorem dL_setBuffer_1 : decode cL_setBuffer 1 = .ok (.iconst 0, 1) := by decide +kernel
theorem dL_setBuffer_2 : decode cL_setBuffer 2 = .ok (.aload_n 0, 1) := by decide +kernel
theorem dL_setBuffer_3 : decode cL_setBuffer 3 = .ok (.iload_n 1, 1) := by decide +kernel
theorem dL_setBuffer_4 : decode cL_setBuffer 4 = .ok (.invokevirtual 28, 3) := by decide +kernel
theorem dL_setBuffer_7 : decode cL_setBuffer 7 = .ok (.i2l, 1) := by decide +kernel
theorem dL_setBuffer_8 : decode cL_setBuffer 8 = .ok (.lastore, 1) := by decide +kernel
theorem dL_setBuffer_9 : decode cL_setBuffer 9 = .ok (.goto 9, 3) := by decide +kernel
theorem dL_setBuffer_12 : decode cL_setBuffer 12 = .ok (.astore_n 3, 1) := by decide +kernel
theorem dL_setBuffer_13 : decode cL_setBuffer 13 = .ok (.iconst 1, 1) := by decide +kernel
theorem dL_setBuffer_14 : decode cL_setBuffer 14 = .ok (.ireturn, 1) := by decide +kernel
theorem dL_setBuffer_15 : decode cL_setBuffer 15 = .ok (.astore_n 3, 1) := by decide +kernel
theorem dL_setBuffer_16 : decode cL_setBuffer 16 = .ok (.iconst 2, 1) := by decide +kernel
theorem dL_setBuffer_17 : decode cL_setBuffer 17 = .ok (.ireturn, 1) := by decide +kernel
theorem dL_setBuffer_18 : decode cL_setBuffer 18 = .ok (.iconst 0, 1) := by decide +kernel
theorem dL_setBuffer_19 : decode cL_setBuffer 19 = .ok (.ireturn, 1) := by decide +kernel
def mL_setBuffer : MD := (cL_setBuffer, RL, yL_setBuffer, 4, some .int, 7, 112)
abbrev hL_setBuffer : List (Nat × Nat × Nat × Nat) := [(0, 9, 12, 13), (0, 9, 15, 15)]
theorem mw_setBuffer : MW mL_setBuffer hL_setBuffer 3 := MW.of 793 77 (by decide +kernel) (by decide +kernel) (by decide +kernel) (by decide +kernel) (by decide +kernel) rfl rfl
theorem cvL_setBuffer : CVs RL 28 mX10_setBuffer 11 := CVs.of 794 795 796 (by decide +kernel) (by decide +kernel) (by decide +kernel) _ rfl rfl
set_option maxRecDepth 100000 in
theorem wc_setBuffer {l : Launch} {G : Gt} (hG : Gok2 l G) {b o : Nat} {x1 : Int32} {μ μ1 : Mm} {r : Int32 ⊕ String} (hk : mK μ b = 111) (ho : mK μ1 o = 63) (hl : mL μ1 o = 1) (h : f_X10_setBuffer b x1 μ = some (r, μ1)) (hE : ∀ E, r = .inr E → E ∈ [exIAE, exISE]) :
    Met l mL_setBuffer.y (mL_setBuffer.wsH hL_setBuffer) (mL_setBuffer.rm (mN μ1 - mN μ) (mS μ1 - mS μ)) (PcE G [.ref b, .int x1, .ref o] μ) (QW G (WP1 Int32.toInt64 [exIAE, exISE] o μ μ1 r)) (mN μ1 - mN μ) (mS μ1 - mS μ) (FREE G) := by
  have hz := s_X10_setBuffer hG.1 _ _ _ _ _ h
  refine wx_met mw_setBuffer rfl (Nat.le_of_ble_eq_true rfl) fun p e R s m args below meth c C ht => ?_
  refine lj_aload_n C dL_setBuffer_0 rfl (q := 2) rfl ?_
  refine lj_iconst (v := 0) C dL_setBuffer_1 iv_iconst_0 ?_
  refine lj_aload_n C dL_setBuffer_2 rfl (q := 0) rfl ?_
  refine lj_iload_n C dL_setBuffer_3 rfl (q := 1) rfl ?_
  refine lj_callVx (As := [.int x1]) (c2 := 0) (s2 := 0) C ht hG.1 mf_X10_setBuffer cvL_setBuffer hk ⟨by decide, by decide⟩ rfl rfl (Nat.le_of_ble_eq_true rfl) hz (Nat.le_of_ble_eq_true rfl) dL_setBuffer_4 (by have := hz.1.1; omega) (by have := hz.1.2; omega) (fun v hv => ?_) (fun E hE2 => ?_)
  · rcases r with w | E
    · cases hv
      refine lj_i2l C dL_setBuffer_7 ?_
      refine lj_lastore C hG.1 ho (by decide) rfl (vin1 hl) dL_setBuffer_8 ?_
      refine lj_goto (tgt := 18) C dL_setBuffer_9 (by decide) ?_
      refine lj_iconst (v := 0) C dL_setBuffer_18 iv_iconst_0 ?_
      exact lj_wret C dL_setBuffer_19 rfl (Or.inl ⟨w, rfl, rfl, by rw [z0c]⟩)
    · cases hv
  · rcases r with w | E2
    · cases hE2
    · cases hE2
      have hm := hE _ rfl
      simp only [List.mem_cons, List.not_mem_nil, or_false] at hm
      rcases hm with rfl | rfl
      · refine ⟨12, CT.hd (by decide) (by decide) clexIAE ccexIAE rfl, fun N q hN => ?_⟩
        refine lj_astore_n C dL_setBuffer_12 rfl (by decide) rfl ?_
        refine lj_iconst (v := 1) C dL_setBuffer_13 (by decide) ?_
        exact lj_wret C dL_setBuffer_14 rfl (Or.inr ⟨_, 0, N, rfl, rfl, rfl, hN, rfl⟩)
      · refine ⟨15, CT.tl (by decide) clexIAE hG.2.1 (CT.hd (by decide) (by decide) clexISE ccexISE rfl), fun N q hN => ?_⟩
        refine lj_astore_n C dL_setBuffer_15 rfl (by decide) rfl ?_
        refine lj_iconst (v := 2) C dL_setBuffer_16 (by decide) ?_
        exact lj_wret C dL_setBuffer_17 rfl (Or.inr ⟨_, 1, N, rfl, rfl, rfl, hN, rfl⟩)
theorem dL_setQueue_0 : decode cL_setQueue 0 = .ok (.aload_n 2, 1) := by decide +kernel
theorem dL_setQueue_1 : decode cL_setQueue 1 = .ok (.iconst 0, 1) := by decide +kernel
theorem dL_setQueue_2 : decode cL_setQueue 2 = .ok (.aload_n 0, 1) := by decide +kernel
theorem dL_setQueue_3 : decode cL_setQueue 3 = .ok (.iload_n 1, 1) := by decide +kernel
theorem dL_setQueue_4 : decode cL_setQueue 4 = .ok (.invokevirtual 31, 3) := by decide +kernel
theorem dL_setQueue_7 : decode cL_setQueue 7 = .ok (.i2l, 1) := by decide +kernel
theorem dL_setQueue_8 : decode cL_setQueue 8 = .ok (.lastore, 1) := by decide +kernel
theorem dL_setQueue_9 : decode cL_setQueue 9 = .ok (.goto 9, 3) := by decide +kernel
theorem dL_setQueue_12 : decode cL_setQueue 12 = .ok (.astore_n 3, 1) := by decide +kernel
theorem dL_setQueue_13 : decode cL_setQueue 13 = .ok (.iconst 1, 1) := by decide +kernel
theorem dL_setQueue_14 : decode cL_setQueue 14 = .ok (.ireturn, 1) := by decide +kernel
theorem dL_setQueue_15 : decode cL_setQueue 15 = .ok (.astore_n 3, 1) := by decide +kernel
theorem dL_setQueue_16 : decode cL_setQueue 16 = .ok (.iconst 2, 1) := by decide +kernel
theorem dL_setQueue_17 : decode cL_setQueue 17 = .ok (.ireturn, 1) := by decide +kernel
theorem dL_setQueue_18 : decode cL_setQueue 18 = .ok (.iconst 0, 1) := by decide +kernel
theorem dL_setQueue_19 : decode cL_setQueue 19 = .ok (.ireturn, 1) := by decide +kernel
def mL_setQueue : MD := (cL_setQueue, RL, yL_setQueue, 4, some .int, 7, 112)
abbrev hL_setQueue : List (Nat × Nat × Nat × Nat) := [(0, 9, 12, 13), (0, 9, 15, 15)]
theorem mw_setQueue : MW mL_setQueue hL_setQueue 3 := MW.of 800 77 (by decide +kernel) (by decide +kernel) (by decide +kernel) (by decide +kernel) (by decide +kernel) rfl rfl
theorem cvL_setQueue : CVs RL 31 mX10_setQueue 11 := CVs.of 801 802 803 (by decide +kernel) (by decide +kernel) (by decide +kernel) _ rfl rfl
set_option maxRecDepth 100000 in
theorem wc_setQueue {l : Launch} {G : Gt} (hG : Gok2 l G) {b o : Nat} {x1 : Int32} {μ μ1 : Mm} {r : Int32 ⊕ String} (hk : mK μ b = 111) (ho : mK μ1 o = 63) (hl : mL μ1 o = 1) (h : f_X10_setQueue b x1 μ = some (r, μ1)) (hE : ∀ E, r = .inr E → E ∈ [exIAE, exISE]) :
    Met l mL_setQueue.y (mL_setQueue.wsH hL_setQueue) (mL_setQueue.rm (mN μ1 - mN μ) (mS μ1 - mS μ)) (PcE G [.ref b, .int x1, .ref o] μ) (QW G (WP1 Int32.toInt64 [exIAE, exISE] o μ μ1 r)) (mN μ1 - mN μ) (mS μ1 - mS μ) (FREE G) := by
  have hz := s_X10_setQueue hG.1 _ _ _ _ _ h
  refine wx_met mw_setQueue rfl (Nat.le_of_ble_eq_true rfl) fun p e R s m args below meth c C ht => ?_
  refine lj_aload_n C dL_setQueue_0 rfl (q := 2) rfl ?_
  refine lj_iconst (v := 0) C dL_setQueue_1 iv_iconst_0 ?_
  refine lj_aload_n C dL_setQueue_2 rfl (q := 0) rfl ?_
  refine lj_iload_n C dL_setQueue_3 rfl (q := 1) rfl ?_
  refine lj_callVx (As := [.int x1]) (c2 := 0) (s2 := 0) C ht hG.1 mf_X10_setQueue cvL_setQueue hk ⟨by decide, by decide⟩ rfl rfl (Nat.le_of_ble_eq_true rfl) hz (Nat.le_of_ble_eq_true rfl) dL_setQueue_4 (by have := hz.1.1; omega) (by have := hz.1.2; omega) (fun v hv => ?_) (fun E hE2 => ?_)
  · rcases r with w | E
    · cases hv
      refine lj_i2l C dL_setQueue_7 ?_
      refine lj_lastore C hG.1 ho (by decide) rfl (vin1 hl) dL_setQueue_8 ?_
      refine lj_goto (tgt := 18) C dL_setQueue_9 (by decide) ?_
      refine lj_iconst (v := 0) C dL_setQueue_18 iv_iconst_0 ?_
      exact lj_wret C dL_setQueue_19 rfl (Or.inl ⟨w, rfl, rfl, by rw [z0c]⟩)
    · cases hv
  · rcases r with w | E2
    · cases hE2
    · cases hE2
      have hm := hE _ rfl
      simp only [List.mem_cons, List.not_mem_nil, or_false] at hm
      rcases hm with rfl | rfl
      · refine ⟨12, CT.hd (by decide) (by decide) clexIAE ccexIAE rfl, fun N q hN => ?_⟩
        refine lj_astore_n C dL_setQueue_12 rfl (by decide) rfl ?_
        refine lj_iconst (v := 1) C dL_setQueue_13 (by decide) ?_
        exact lj_wret C dL_setQueue_14 rfl (Or.inr ⟨_, 0, N, rfl, rfl, rfl, hN, rfl⟩)
      · refine ⟨15, CT.tl (by decide) clexIAE hG.2.1 (CT.hd (by decide) (by decide) clexISE ccexISE rfl), fun N q hN => ?_⟩
        refine lj_astore_n C dL_setQueue_15 rfl (by decide) rfl ?_
        refine lj_iconst (v := 2) C dL_setQueue_16 (by decide) ?_
        exact lj_wret C dL_setQueue_17 rfl (Or.inr ⟨_, 1, N, rfl, rfl, rfl, hN, rfl⟩)
theorem dL_setInner_0 : decode cL_setInner 0 = .ok (.aload_n 2, 1) := by decide +kernel
theorem dL_setInner_1 : decode cL_setInner 1 = .ok (.iconst 0, 1) := by decide +kernel
theorem dL_setInner_2 : decode cL_setInner 2 = .ok (.aload_n 0, 1) := by decide +kernel
theorem dL_setInner_3 : decode cL_setInner 3 = .ok (.iload_n 1, 1) := by decide +kernel
theorem dL_setInner_4 : decode cL_setInner 4 = .ok (.invokevirtual 34, 3) := by decide +kernel
theorem dL_setInner_7 : decode cL_setInner 7 = .ok (.i2l, 1) := by decide +kernel
theorem dL_setInner_8 : decode cL_setInner 8 = .ok (.lastore, 1) := by decide +kernel
theorem dL_setInner_9 : decode cL_setInner 9 = .ok (.goto 9, 3) := by decide +kernel
theorem dL_setInner_12 : decode cL_setInner 12 = .ok (.astore_n 3, 1) := by decide +kernel
theorem dL_setInner_13 : decode cL_setInner 13 = .ok (.iconst 1, 1) := by decide +kernel
theorem dL_setInner_14 : decode cL_setInner 14 = .ok (.ireturn, 1) := by decide +kernel
theorem dL_setInner_15 : decode cL_setInner 15 = .ok (.astore_n 3, 1) := by decide +kernel
theorem dL_setInner_16 : decode cL_setInner 16 = .ok (.iconst 2, 1) := by decide +kernel
theorem dL_setInner_17 : decode cL_setInner 17 = .ok (.ireturn, 1) := by decide +kernel
theorem dL_setInner_18 : decode cL_setInner 18 = .ok (.iconst 0, 1) := by decide +kernel
theorem dL_setInner_19 : decode cL_setInner 19 = .ok (.ireturn, 1) := by decide +kernel
def mL_setInner : MD := (cL_setInner, RL, yL_setInner, 4, some .int, 7, 112)
abbrev hL_setInner : List (Nat × Nat × Nat × Nat) := [(0, 9, 12, 13), (0, 9, 15, 15)]
theorem mw_setInner : MW mL_setInner hL_setInner 3 := MW.of 807 77 (by decide +kernel) (by decide +kernel) (by decide +kernel) (by decide +kernel) (by decide +kernel) rfl rfl
theorem cvL_setInner : CVs RL 34 mX10_setInner 11 := CVs.of 808 809 810 (by decide +kernel) (by decide +kernel) (by decide +kernel) _ rfl rfl
set_option maxRecDepth 100000 in
theorem wc_setInner {l : Launch} {G : Gt} (hG : Gok2 l G) {b o : Nat} {x1 : Int32} {μ μ1 : Mm} {r : Int32 ⊕ String} (hk : mK μ b = 111) (ho : mK μ1 o = 63) (hl : mL μ1 o = 1) (h : f_X10_setInner b x1 μ = some (r, μ1)) (hE : ∀ E, r = .inr E → E ∈ [exIAE, exISE]) :
    Met l mL_setInner.y (mL_setInner.wsH hL_setInner) (mL_setInner.rm (mN μ1 - mN μ) (mS μ1 - mS μ)) (PcE G [.ref b, .int x1, .ref o] μ) (QW G (WP1 Int32.toInt64 [exIAE, exISE] o μ μ1 r)) (mN μ1 - mN μ) (mS μ1 - mS μ) (FREE G) := by
  have hz := s_X10_setInner hG.1 _ _ _ _ _ h
  refine wx_met mw_setInner rfl (Nat.le_of_ble_eq_true rfl) fun p e R s m args below meth c C ht => ?_
  refine lj_aload_n C dL_setInner_0 rfl (q := 2) rfl ?_
  refine lj_iconst (v := 0) C dL_setInner_1 iv_iconst_0 ?_
  refine lj_aload_n C dL_setInner_2 rfl (q := 0) rfl ?_
  refine lj_iload_n C dL_setInner_3 rfl (q := 1) rfl ?_
  refine lj_callVx (As := [.int x1]) (c2 := 0) (s2 := 0) C ht hG.1 mf_X10_setInner cvL_setInner hk ⟨by decide, by decide⟩ rfl rfl (Nat.le_of_ble_eq_true rfl) hz (Nat.le_of_ble_eq_true rfl) dL_setInner_4 (by have := hz.1.1; omega) (by have := hz.1.2; omega) (fun v hv => ?_) (fun E hE2 => ?_)
  · rcases r with w | E
    · cases hv
      refine lj_i2l C dL_setInner_7 ?_
      refine lj_lastore C hG.1 ho (by decide) rfl (vin1 hl) dL_setInner_8 ?_
      refine lj_goto (tgt := 18) C dL_setInner_9 (by decide) ?_
      refine lj_iconst (v := 0) C dL_setInner_18 iv_iconst_0 ?_
      exact lj_wret C dL_setInner_19 rfl (Or.inl ⟨w, rfl, rfl, by rw [z0c]⟩)
    · cases hv
  · rcases r with w | E2
    · cases hE2
    · cases hE2
      have hm := hE _ rfl
      simp only [List.mem_cons, List.not_mem_nil, or_false] at hm
      rcases hm with rfl | rfl
      · refine ⟨12, CT.hd (by decide) (by decide) clexIAE ccexIAE rfl, fun N q hN => ?_⟩
        refine lj_astore_n C dL_setInner_12 rfl (by decide) rfl ?_
        refine lj_iconst (v := 1) C dL_setInner_13 (by decide) ?_
        exact lj_wret C dL_setInner_14 rfl (Or.inr ⟨_, 0, N, rfl, rfl, rfl, hN, rfl⟩)
      · refine ⟨15, CT.tl (by decide) clexIAE hG.2.1 (CT.hd (by decide) (by decide) clexISE ccexISE rfl), fun N q hN => ?_⟩
        refine lj_astore_n C dL_setInner_15 rfl (by decide) rfl ?_
        refine lj_iconst (v := 2) C dL_setInner_16 (by decide) ?_
        exact lj_wret C dL_setInner_17 rfl (Or.inr ⟨_, 1, N, rfl, rfl, rfl, hN, rfl⟩)
theorem dL_setHandlers_0 : decode cL_setHandlers 0 = .ok (.aload_n 3, 1) := by decide +kernel
theorem dL_setHandlers_1 : decode cL_setHandlers 1 = .ok (.iconst 0, 1) := by decide +kernel
theorem dL_setHandlers_2 : decode cL_setHandlers 2 = .ok (.aload_n 0, 1) := by decide +kernel
theorem dL_setHandlers_3 : decode cL_setHandlers 3 = .ok (.iload_n 1, 1) := by decide +kernel
theorem dL_setHandlers_4 : decode cL_setHandlers 4 = .ok (.iload_n 2, 1) := by decide +kernel
theorem dL_setHandlers_5 : decode cL_setHandlers 5 = .ok (.invokevirtual 37, 3) := by decide +kernel
theorem dL_setHandlers_8 : decode cL_setHandlers 8 = .ok (.i2l, 1) := by decide +kernel
theorem dL_setHandlers_9 : decode cL_setHandlers 9 = .ok (.lastore, 1) := by decide +kernel
theorem dL_setHandlers_10 : decode cL_setHandlers 10 = .ok (.goto 11, 3) := by decide +kernel
theorem dL_setHandlers_13 : decode cL_setHandlers 13 = .ok (.astore 4, 2) := by decide +kernel
theorem dL_setHandlers_15 : decode cL_setHandlers 15 = .ok (.iconst 1, 1) := by decide +kernel
theorem dL_setHandlers_16 : decode cL_setHandlers 16 = .ok (.ireturn, 1) := by decide +kernel
theorem dL_setHandlers_17 : decode cL_setHandlers 17 = .ok (.astore 4, 2) := by decide +kernel
theorem dL_setHandlers_19 : decode cL_setHandlers 19 = .ok (.iconst 2, 1) := by decide +kernel
theorem dL_setHandlers_20 : decode cL_setHandlers 20 = .ok (.ireturn, 1) := by decide +kernel
theorem dL_setHandlers_21 : decode cL_setHandlers 21 = .ok (.iconst 0, 1) := by decide +kernel
theorem dL_setHandlers_22 : decode cL_setHandlers 22 = .ok (.ireturn, 1) := by decide +kernel
def mL_setHandlers : MD := (cL_setHandlers, RL, yL_setHandlers, 5, some .int, 7, 113)
abbrev hL_setHandlers : List (Nat × Nat × Nat × Nat) := [(0, 10, 13, 13), (0, 10, 17, 15)]
theorem mw_setHandlers : MW mL_setHandlers hL_setHandlers 4 := MW.of 815 77 (by decide +kernel) (by decide +kernel) (by decide +kernel) (by decide +kernel) (by decide +kernel) rfl rfl
theorem cvL_setHandlers : CVs RL 37 mX10_setHandlers 11 := CVs.of 816 817 818 (by decide +kernel) (by decide +kernel) (by decide +kernel) _ rfl rfl
set_option maxRecDepth 100000 in
theorem wc_setHandlers {l : Launch} {G : Gt} (hG : Gok2 l G) {b o : Nat} {x1 : Int32} {x2 : Int32} {μ μ1 : Mm} {r : Int32 ⊕ String} (hk : mK μ b = 111) (ho : mK μ1 o = 63) (hl : mL μ1 o = 1) (h : f_X10_setHandlers b x1 x2 μ = some (r, μ1)) (hE : ∀ E, r = .inr E → E ∈ [exIAE, exISE]) :
    Met l mL_setHandlers.y (mL_setHandlers.wsH hL_setHandlers) (mL_setHandlers.rm (mN μ1 - mN μ) (mS μ1 - mS μ)) (PcE G [.ref b, .int x1, .int x2, .ref o] μ) (QW G (WP1 Int32.toInt64 [exIAE, exISE] o μ μ1 r)) (mN μ1 - mN μ) (mS μ1 - mS μ) (FREE G) := by
  have hz := s_X10_setHandlers hG.1 _ _ _ _ _ _ h
  refine wx_met mw_setHandlers rfl (Nat.le_of_ble_eq_true rfl) fun p e R s m args below meth c C ht => ?_
  refine lj_aload_n C dL_setHandlers_0 rfl (q := 3) rfl ?_
  refine lj_iconst (v := 0) C dL_setHandlers_1 iv_iconst_0 ?_
  refine lj_aload_n C dL_setHandlers_2 rfl (q := 0) rfl ?_
  refine lj_iload_n C dL_setHandlers_3 rfl (q := 1) rfl ?_
  refine lj_iload_n C dL_setHandlers_4 rfl (q := 2) rfl ?_
  refine lj_callVx (As := [.int x1, .int x2]) (c2 := 0) (s2 := 0) C ht hG.1 mf_X10_setHandlers cvL_setHandlers hk ⟨by decide, by decide⟩ rfl rfl (Nat.le_of_ble_eq_true rfl) hz (Nat.le_of_ble_eq_true rfl) dL_setHandlers_5 (by have := hz.1.1; omega) (by have := hz.1.2; omega) (fun v hv => ?_) (fun E hE2 => ?_)
  · rcases r with w | E
    · cases hv
      refine lj_i2l C dL_setHandlers_8 ?_
      refine lj_lastore C hG.1 ho (by decide) rfl (vin1 hl) dL_setHandlers_9 ?_
      refine lj_goto (tgt := 21) C dL_setHandlers_10 (by decide) ?_
      refine lj_iconst (v := 0) C dL_setHandlers_21 iv_iconst_0 ?_
      exact lj_wret C dL_setHandlers_22 rfl (Or.inl ⟨w, rfl, rfl, by rw [z0c]⟩)
    · cases hv
  · rcases r with w | E2
    · cases hE2
    · cases hE2
      have hm := hE _ rfl
      simp only [List.mem_cons, List.not_mem_nil, or_false] at hm
      rcases hm with rfl | rfl
      · refine ⟨13, CT.hd (by decide) (by decide) clexIAE ccexIAE rfl, fun N q hN => ?_⟩
        refine lj_astore C dL_setHandlers_13 (by decide) rfl ?_
        refine lj_iconst (v := 1) C dL_setHandlers_15 (by decide) ?_
        exact lj_wret C dL_setHandlers_16 rfl (Or.inr ⟨_, 0, N, rfl, rfl, rfl, hN, rfl⟩)
      · refine ⟨17, CT.tl (by decide) clexIAE hG.2.1 (CT.hd (by decide) (by decide) clexISE ccexISE rfl), fun N q hN => ?_⟩
        refine lj_astore C dL_setHandlers_17 (by decide) rfl ?_
        refine lj_iconst (v := 2) C dL_setHandlers_19 (by decide) ?_
        exact lj_wret C dL_setHandlers_20 rfl (Or.inr ⟨_, 1, N, rfl, rfl, rfl, hN, rfl⟩)
theorem dL_setTime_0 : decode cL_setTime 0 = .ok (.aload_n 3, 1) := by decide +kernel
theorem dL_setTime_1 : decode cL_setTime 1 = .ok (.iconst 0, 1) := by decide +kernel
theorem dL_setTime_2 : decode cL_setTime 2 = .ok (.aload_n 0, 1) := by decide +kernel
theorem dL_setTime_3 : decode cL_setTime 3 = .ok (.iload_n 1, 1) := by decide +kernel
theorem dL_setTime_4 : decode cL_setTime 4 = .ok (.iload_n 2, 1) := by decide +kernel
theorem dL_setTime_5 : decode cL_setTime 5 = .ok (.invokevirtual 40, 3) := by decide +kernel
theorem dL_setTime_8 : decode cL_setTime 8 = .ok (.i2l, 1) := by decide +kernel
theorem dL_setTime_9 : decode cL_setTime 9 = .ok (.lastore, 1) := by decide +kernel
theorem dL_setTime_10 : decode cL_setTime 10 = .ok (.goto 7, 3) := by decide +kernel
theorem dL_setTime_13 : decode cL_setTime 13 = .ok (.astore 4, 2) := by decide +kernel
theorem dL_setTime_15 : decode cL_setTime 15 = .ok (.iconst 1, 1) := by decide +kernel
theorem dL_setTime_16 : decode cL_setTime 16 = .ok (.ireturn, 1) := by decide +kernel
theorem dL_setTime_17 : decode cL_setTime 17 = .ok (.iconst 0, 1) := by decide +kernel
theorem dL_setTime_18 : decode cL_setTime 18 = .ok (.ireturn, 1) := by decide +kernel
def mL_setTime : MD := (cL_setTime, RL, yL_setTime, 5, some .int, 7, 113)
abbrev hL_setTime : List (Nat × Nat × Nat × Nat) := [(0, 10, 13, 13)]
theorem mw_setTime : MW mL_setTime hL_setTime 4 := MW.of 825 77 (by decide +kernel) (by decide +kernel) (by decide +kernel) (by decide +kernel) (by decide +kernel) rfl rfl
theorem cvL_setTime : CVs RL 40 mX10_setTime 11 := CVs.of 826 827 828 (by decide +kernel) (by decide +kernel) (by decide +kernel) _ rfl rfl
set_option maxRecDepth 100000 in
theorem wc_setTime {l : Launch} {G : Gt} (hG : Gok2 l G) {b o : Nat} {x1 : Int32} {x2 : Int32} {μ μ1 : Mm} {r : Int32 ⊕ String} (hk : mK μ b = 111) (ho : mK μ1 o = 63) (hl : mL μ1 o = 1) (h : f_X10_setTime b x1 x2 μ = some (r, μ1)) (hE : ∀ E, r = .inr E → E ∈ [exIAE]) :
    Met l mL_setTime.y (mL_setTime.wsH hL_setTime) (mL_setTime.rm (mN μ1 - mN μ) (mS μ1 - mS μ)) (PcE G [.ref b, .int x1, .int x2, .ref o] μ) (QW G (WP1 Int32.toInt64 [exIAE] o μ μ1 r)) (mN μ1 - mN μ) (mS μ1 - mS μ) (FREE G) := by
  have hz := s_X10_setTime hG.1 _ _ _ _ _ _ h
  refine wx_met mw_setTime rfl (Nat.le_of_ble_eq_true rfl) fun p e R s m args below meth c C ht => ?_
  refine lj_aload_n C dL_setTime_0 rfl (q := 3) rfl ?_
  refine lj_iconst (v := 0) C dL_setTime_1 iv_iconst_0 ?_
  refine lj_aload_n C dL_setTime_2 rfl (q := 0) rfl ?_
  refine lj_iload_n C dL_setTime_3 rfl (q := 1) rfl ?_
  refine lj_iload_n C dL_setTime_4 rfl (q := 2) rfl ?_
  refine lj_callVx (As := [.int x1, .int x2]) (c2 := 0) (s2 := 0) C ht hG.1 mf_X10_setTime cvL_setTime hk ⟨by decide, by decide⟩ rfl rfl (Nat.le_of_ble_eq_true rfl) hz (Nat.le_of_ble_eq_true rfl) dL_setTime_5 (by have := hz.1.1; omega) (by have := hz.1.2; omega) (fun v hv => ?_) (fun E hE2 => ?_)
  · rcases r with w | E
    · cases hv
      refine lj_i2l C dL_setTime_8 ?_
      refine lj_lastore C hG.1 ho (by decide) rfl (vin1 hl) dL_setTime_9 ?_
      refine lj_goto (tgt := 17) C dL_setTime_10 (by decide) ?_
      refine lj_iconst (v := 0) C dL_setTime_17 iv_iconst_0 ?_
      exact lj_wret C dL_setTime_18 rfl (Or.inl ⟨w, rfl, rfl, by rw [z0c]⟩)
    · cases hv
  · rcases r with w | E2
    · cases hE2
    · cases hE2
      have hm := hE _ rfl
      simp only [List.mem_cons, List.not_mem_nil, or_false] at hm
      subst hm
      refine ⟨13, CT.hd (by decide) (by decide) clexIAE ccexIAE rfl, fun N q hN => ?_⟩
      refine lj_astore C dL_setTime_13 (by decide) rfl ?_
      refine lj_iconst (v := 1) C dL_setTime_15 (by decide) ?_
      exact lj_wret C dL_setTime_16 rfl (Or.inr ⟨_, 0, N, rfl, rfl, rfl, hN, rfl⟩)
theorem dL_run_0 : decode cL_run 0 = .ok (.aload_n 2, 1) := by decide +kernel
theorem dL_run_1 : decode cL_run 1 = .ok (.iconst 0, 1) := by decide +kernel
theorem dL_run_2 : decode cL_run 2 = .ok (.aload_n 0, 1) := by decide +kernel
theorem dL_run_3 : decode cL_run 3 = .ok (.iload_n 1, 1) := by decide +kernel
theorem dL_run_4 : decode cL_run 4 = .ok (.invokevirtual 43, 3) := by decide +kernel
theorem dL_run_7 : decode cL_run 7 = .ok (.i2l, 1) := by decide +kernel
theorem dL_run_8 : decode cL_run 8 = .ok (.lastore, 1) := by decide +kernel
theorem dL_run_9 : decode cL_run 9 = .ok (.goto 9, 3) := by decide +kernel
theorem dL_run_12 : decode cL_run 12 = .ok (.astore_n 3, 1) := by decide +kernel
theorem dL_run_13 : decode cL_run 13 = .ok (.iconst 1, 1) := by decide +kernel
theorem dL_run_14 : decode cL_run 14 = .ok (.ireturn, 1) := by decide +kernel
theorem dL_run_15 : decode cL_run 15 = .ok (.astore_n 3, 1) := by decide +kernel
theorem dL_run_16 : decode cL_run 16 = .ok (.iconst 2, 1) := by decide +kernel
theorem dL_run_17 : decode cL_run 17 = .ok (.ireturn, 1) := by decide +kernel
theorem dL_run_18 : decode cL_run 18 = .ok (.iconst 0, 1) := by decide +kernel
theorem dL_run_19 : decode cL_run 19 = .ok (.ireturn, 1) := by decide +kernel
def mL_run : MD := (cL_run, RL, yL_run, 4, some .int, 12, 302)
abbrev hL_run : List (Nat × Nat × Nat × Nat) := [(0, 9, 12, 13), (0, 9, 15, 15)]
theorem mw_run : MW mL_run hL_run 3 := MW.of 832 77 (by decide +kernel) (by decide +kernel) (by decide +kernel) (by decide +kernel) (by decide +kernel) rfl rfl
theorem cvL_run : CVs RL 43 mX10_run 11 := CVs.of 833 834 835 (by decide +kernel) (by decide +kernel) (by decide +kernel) _ rfl rfl
set_option maxRecDepth 100000 in
theorem wc_run {l : Launch} {G : Gt} (hG : Gok2 l G) {b o : Nat} {x1 : Int32} {μ μ1 : Mm} {r : Int32 ⊕ String} (hk : mK μ b = 111) (ho : mK μ1 o = 63) (hl : mL μ1 o = 1) (h : f_X10_run b x1 μ = some (r, μ1)) (hE : ∀ E, r = .inr E → E ∈ [exIAE, exISE]) :
    Met l mL_run.y (mL_run.wsH hL_run) (mL_run.rm (mN μ1 - mN μ) (mS μ1 - mS μ)) (PcE G [.ref b, .int x1, .ref o] μ) (QW G (WP1 Int32.toInt64 [exIAE, exISE] o μ μ1 r)) (mN μ1 - mN μ) (mS μ1 - mS μ) (FREE G) := by
  have hz := s_X10_run hG.1 _ _ _ _ _ h
  refine wx_met mw_run rfl (Nat.le_of_ble_eq_true rfl) fun p e R s m args below meth c C ht => ?_
  refine lj_aload_n C dL_run_0 rfl (q := 2) rfl ?_
  refine lj_iconst (v := 0) C dL_run_1 iv_iconst_0 ?_
  refine lj_aload_n C dL_run_2 rfl (q := 0) rfl ?_
  refine lj_iload_n C dL_run_3 rfl (q := 1) rfl ?_
  refine lj_callVx (As := [.int x1]) (c2 := 0) (s2 := 0) C ht hG.1 mf_X10_run cvL_run hk ⟨by decide, by decide⟩ rfl rfl (Nat.le_of_ble_eq_true rfl) hz (Nat.le_of_ble_eq_true rfl) dL_run_4 (by have := hz.1.1; omega) (by have := hz.1.2; omega) (fun v hv => ?_) (fun E hE2 => ?_)
  · rcases r with w | E
    · cases hv
      refine lj_i2l C dL_run_7 ?_
      refine lj_lastore C hG.1 ho (by decide) rfl (vin1 hl) dL_run_8 ?_
      refine lj_goto (tgt := 18) C dL_run_9 (by decide) ?_
      refine lj_iconst (v := 0) C dL_run_18 iv_iconst_0 ?_
      exact lj_wret C dL_run_19 rfl (Or.inl ⟨w, rfl, rfl, by rw [z0c]⟩)
    · cases hv
  · rcases r with w | E2
    · cases hE2
    · cases hE2
      have hm := hE _ rfl
      simp only [List.mem_cons, List.not_mem_nil, or_false] at hm
      rcases hm with rfl | rfl
      · refine ⟨12, CT.hd (by decide) (by decide) clexIAE ccexIAE rfl, fun N q hN => ?_⟩
        refine lj_astore_n C dL_run_12 rfl (by decide) rfl ?_
        refine lj_iconst (v := 1) C dL_run_13 (by decide) ?_
        exact lj_wret C dL_run_14 rfl (Or.inr ⟨_, 0, N, rfl, rfl, rfl, hN, rfl⟩)
      · refine ⟨15, CT.tl (by decide) clexIAE hG.2.1 (CT.hd (by decide) (by decide) clexISE ccexISE rfl), fun N q hN => ?_⟩
        refine lj_astore_n C dL_run_15 rfl (by decide) rfl ?_
        refine lj_iconst (v := 2) C dL_run_16 (by decide) ?_
        exact lj_wret C dL_run_17 rfl (Or.inr ⟨_, 1, N, rfl, rfl, rfl, hN, rfl⟩)
theorem dL_kindAt_0 : decode cL_kindAt 0 = .ok (.aload_n 2, 1) := by decide +kernel
theorem dL_kindAt_1 : decode cL_kindAt 1 = .ok (.iconst 0, 1) := by decide +kernel
theorem dL_kindAt_2 : decode cL_kindAt 2 = .ok (.aload_n 0, 1) := by decide +kernel
theorem dL_kindAt_3 : decode cL_kindAt 3 = .ok (.iload_n 1, 1) := by decide +kernel
theorem dL_kindAt_4 : decode cL_kindAt 4 = .ok (.invokevirtual 46, 3) := by decide +kernel
theorem dL_kindAt_7 : decode cL_kindAt 7 = .ok (.i2l, 1) := by decide +kernel
theorem dL_kindAt_8 : decode cL_kindAt 8 = .ok (.lastore, 1) := by decide +kernel
theorem dL_kindAt_9 : decode cL_kindAt 9 = .ok (.goto 6, 3) := by decide +kernel
theorem dL_kindAt_12 : decode cL_kindAt 12 = .ok (.astore_n 3, 1) := by decide +kernel
theorem dL_kindAt_13 : decode cL_kindAt 13 = .ok (.iconst 1, 1) := by decide +kernel
theorem dL_kindAt_14 : decode cL_kindAt 14 = .ok (.ireturn, 1) := by decide +kernel
theorem dL_kindAt_15 : decode cL_kindAt 15 = .ok (.iconst 0, 1) := by decide +kernel
theorem dL_kindAt_16 : decode cL_kindAt 16 = .ok (.ireturn, 1) := by decide +kernel
def mL_kindAt : MD := (cL_kindAt, RL, yL_kindAt, 4, some .int, 7, 111)
abbrev hL_kindAt : List (Nat × Nat × Nat × Nat) := [(0, 9, 12, 49)]
theorem mw_kindAt : MW mL_kindAt hL_kindAt 3 := MW.of 1317 77 (by decide +kernel) (by decide +kernel) (by decide +kernel) (by decide +kernel) (by decide +kernel) rfl rfl
theorem cvL_kindAt : CVs RL 46 mX10_kindAt 11 := CVs.of 1319 1320 1321 (by decide +kernel) (by decide +kernel) (by decide +kernel) _ rfl rfl
set_option maxRecDepth 100000 in
theorem wc_kindAt {l : Launch} {G : Gt} (hG : Gok2 l G) {b o : Nat} {x1 : Int32} {μ μ1 : Mm} {r : Int32 ⊕ String} (hk : mK μ b = 111) (ho : mK μ1 o = 63) (hl : mL μ1 o = 1) (h : f_X10_kindAt b x1 μ = some (r, μ1)) (hE : ∀ E, r = .inr E → E ∈ [exIOB]) :
    Met l mL_kindAt.y (mL_kindAt.wsH hL_kindAt) (mL_kindAt.rm (mN μ1 - mN μ) (mS μ1 - mS μ)) (PcE G [.ref b, .int x1, .ref o] μ) (QW G (WP1 Int32.toInt64 [exIOB] o μ μ1 r)) (mN μ1 - mN μ) (mS μ1 - mS μ) (FREE G) := by
  have hz := s_X10_kindAt hG.1 _ _ _ _ _ h
  refine wx_met mw_kindAt rfl (Nat.le_of_ble_eq_true rfl) fun p e R s m args below meth c C ht => ?_
  refine lj_aload_n C dL_kindAt_0 rfl (q := 2) rfl ?_
  refine lj_iconst (v := 0) C dL_kindAt_1 iv_iconst_0 ?_
  refine lj_aload_n C dL_kindAt_2 rfl (q := 0) rfl ?_
  refine lj_iload_n C dL_kindAt_3 rfl (q := 1) rfl ?_
  refine lj_callVx (As := [.int x1]) (c2 := 0) (s2 := 0) C ht hG.1 mf_X10_kindAt cvL_kindAt hk ⟨by decide, by decide⟩ rfl rfl (Nat.le_of_ble_eq_true rfl) hz (Nat.le_of_ble_eq_true rfl) dL_kindAt_4 (by have := hz.1.1; omega) (by have := hz.1.2; omega) (fun v hv => ?_) (fun E hE2 => ?_)
  · rcases r with w | E
    · cases hv
      refine lj_i2l C dL_kindAt_7 ?_
      refine lj_lastore C hG.1 ho (by decide) rfl (vin1 hl) dL_kindAt_8 ?_
      refine lj_goto (tgt := 15) C dL_kindAt_9 (by decide) ?_
      refine lj_iconst (v := 0) C dL_kindAt_15 iv_iconst_0 ?_
      exact lj_wret C dL_kindAt_16 rfl (Or.inl ⟨w, rfl, rfl, by rw [z0c]⟩)
    · cases hv
  · rcases r with w | E2
    · cases hE2
    · cases hE2
      have hm := hE _ rfl
      simp only [List.mem_cons, List.not_mem_nil, or_false] at hm
      subst hm
      refine ⟨12, CT.hd (by decide) (by decide) clexIOB ccexIOB rfl, fun N q hN => ?_⟩
      refine lj_astore_n C dL_kindAt_12 rfl (by decide) rfl ?_
      refine lj_iconst (v := 1) C dL_kindAt_13 (by decide) ?_
      exact lj_wret C dL_kindAt_14 rfl (Or.inr ⟨_, 0, N, rfl, rfl, rfl, hN, rfl⟩)
theorem dL_placeAt_0 : decode cL_placeAt 0 = .ok (.aload_n 2, 1) := by decide +kernel
theorem dL_placeAt_1 : decode cL_placeAt 1 = .ok (.iconst 0, 1) := by decide +kernel
theorem dL_placeAt_2 : decode cL_placeAt 2 = .ok (.aload_n 0, 1) := by decide +kernel
theorem dL_placeAt_3 : decode cL_placeAt 3 = .ok (.iload_n 1, 1) := by decide +kernel
theorem dL_placeAt_4 : decode cL_placeAt 4 = .ok (.invokevirtual 51, 3) := by decide +kernel
theorem dL_placeAt_7 : decode cL_placeAt 7 = .ok (.i2l, 1) := by decide +kernel
theorem dL_placeAt_8 : decode cL_placeAt 8 = .ok (.lastore, 1) := by decide +kernel
theorem dL_placeAt_9 : decode cL_placeAt 9 = .ok (.goto 6, 3) := by decide +kernel
theorem dL_placeAt_12 : decode cL_placeAt 12 = .ok (.astore_n 3, 1) := by decide +kernel
theorem dL_placeAt_13 : decode cL_placeAt 13 = .ok (.iconst 1, 1) := by decide +kernel
theorem dL_placeAt_14 : decode cL_placeAt 14 = .ok (.ireturn, 1) := by decide +kernel
theorem dL_placeAt_15 : decode cL_placeAt 15 = .ok (.iconst 0, 1) := by decide +kernel
theorem dL_placeAt_16 : decode cL_placeAt 16 = .ok (.ireturn, 1) := by decide +kernel
def mL_placeAt : MD := (cL_placeAt, RL, yL_placeAt, 4, some .int, 7, 111)
abbrev hL_placeAt : List (Nat × Nat × Nat × Nat) := [(0, 9, 12, 49)]
theorem mw_placeAt : MW mL_placeAt hL_placeAt 3 := MW.of 1346 77 (by decide +kernel) (by decide +kernel) (by decide +kernel) (by decide +kernel) (by decide +kernel) rfl rfl
theorem cvL_placeAt : CVs RL 51 mX10_placeAt 11 := CVs.of 1347 1348 1349 (by decide +kernel) (by decide +kernel) (by decide +kernel) _ rfl rfl
set_option maxRecDepth 100000 in
theorem wc_placeAt {l : Launch} {G : Gt} (hG : Gok2 l G) {b o : Nat} {x1 : Int32} {μ μ1 : Mm} {r : Int32 ⊕ String} (hk : mK μ b = 111) (ho : mK μ1 o = 63) (hl : mL μ1 o = 1) (h : f_X10_placeAt b x1 μ = some (r, μ1)) (hE : ∀ E, r = .inr E → E ∈ [exIOB]) :
    Met l mL_placeAt.y (mL_placeAt.wsH hL_placeAt) (mL_placeAt.rm (mN μ1 - mN μ) (mS μ1 - mS μ)) (PcE G [.ref b, .int x1, .ref o] μ) (QW G (WP1 Int32.toInt64 [exIOB] o μ μ1 r)) (mN μ1 - mN μ) (mS μ1 - mS μ) (FREE G) := by
  have hz := s_X10_placeAt hG.1 _ _ _ _ _ h
  refine wx_met mw_placeAt rfl (Nat.le_of_ble_eq_true rfl) fun p e R s m args below meth c C ht => ?_
  refine lj_aload_n C dL_placeAt_0 rfl (q := 2) rfl ?_
  refine lj_iconst (v := 0) C dL_placeAt_1 iv_iconst_0 ?_
  refine lj_aload_n C dL_placeAt_2 rfl (q := 0) rfl ?_
  refine lj_iload_n C dL_placeAt_3 rfl (q := 1) rfl ?_
  refine lj_callVx (As := [.int x1]) (c2 := 0) (s2 := 0) C ht hG.1 mf_X10_placeAt cvL_placeAt hk ⟨by decide, by decide⟩ rfl rfl (Nat.le_of_ble_eq_true rfl) hz (Nat.le_of_ble_eq_true rfl) dL_placeAt_4 (by have := hz.1.1; omega) (by have := hz.1.2; omega) (fun v hv => ?_) (fun E hE2 => ?_)
  · rcases r with w | E
    · cases hv
      refine lj_i2l C dL_placeAt_7 ?_
      refine lj_lastore C hG.1 ho (by decide) rfl (vin1 hl) dL_placeAt_8 ?_
      refine lj_goto (tgt := 15) C dL_placeAt_9 (by decide) ?_
      refine lj_iconst (v := 0) C dL_placeAt_15 iv_iconst_0 ?_
      exact lj_wret C dL_placeAt_16 rfl (Or.inl ⟨w, rfl, rfl, by rw [z0c]⟩)
    · cases hv
  · rcases r with w | E2
    · cases hE2
    · cases hE2
      have hm := hE _ rfl
      simp only [List.mem_cons, List.not_mem_nil, or_false] at hm
      subst hm
      refine ⟨12, CT.hd (by decide) (by decide) clexIOB ccexIOB rfl, fun N q hN => ?_⟩
      refine lj_astore_n C dL_placeAt_12 rfl (by decide) rfl ?_
      refine lj_iconst (v := 1) C dL_placeAt_13 (by decide) ?_
      exact lj_wret C dL_placeAt_14 rfl (Or.inr ⟨_, 0, N, rfl, rfl, rfl, hN, rfl⟩)
theorem dL_kindByPlain_0 : decode cL_kindByPlain 0 = .ok (.aload_n 2, 1) := by decide +kernel
theorem dL_kindByPlain_1 : decode cL_kindByPlain 1 = .ok (.iconst 0, 1) := by decide +kernel
theorem dL_kindByPlain_2 : decode cL_kindByPlain 2 = .ok (.aload_n 0, 1) := by decide +kernel
theorem dL_kindByPlain_3 : decode cL_kindByPlain 3 = .ok (.iload_n 1, 1) := by decide +kernel
theorem dL_kindByPlain_4 : decode cL_kindByPlain 4 = .ok (.invokevirtual 54, 3) := by decide +kernel
theorem dL_kindByPlain_7 : decode cL_kindByPlain 7 = .ok (.i2l, 1) := by decide +kernel
theorem dL_kindByPlain_8 : decode cL_kindByPlain 8 = .ok (.lastore, 1) := by decide +kernel
theorem dL_kindByPlain_9 : decode cL_kindByPlain 9 = .ok (.goto 6, 3) := by decide +kernel
theorem dL_kindByPlain_12 : decode cL_kindByPlain 12 = .ok (.astore_n 3, 1) := by decide +kernel
theorem dL_kindByPlain_13 : decode cL_kindByPlain 13 = .ok (.iconst 1, 1) := by decide +kernel
theorem dL_kindByPlain_14 : decode cL_kindByPlain 14 = .ok (.ireturn, 1) := by decide +kernel
theorem dL_kindByPlain_15 : decode cL_kindByPlain 15 = .ok (.iconst 0, 1) := by decide +kernel
theorem dL_kindByPlain_16 : decode cL_kindByPlain 16 = .ok (.ireturn, 1) := by decide +kernel
def mL_kindByPlain : MD := (cL_kindByPlain, RL, yL_kindByPlain, 4, some .int, 7, 111)
abbrev hL_kindByPlain : List (Nat × Nat × Nat × Nat) := [(0, 9, 12, 49)]
theorem mw_kindByPlain : MW mL_kindByPlain hL_kindByPlain 3 := MW.of 1353 77 (by decide +kernel) (by decide +kernel) (by decide +kernel) (by decide +kernel) (by decide +kernel) rfl rfl
theorem cvL_kindByPlain : CVs RL 54 mX10_kindByPlain 11 := CVs.of 1354 1355 1356 (by decide +kernel) (by decide +kernel) (by decide +kernel) _ rfl rfl
set_option maxRecDepth 100000 in
theorem wc_kindByPlain {l : Launch} {G : Gt} (hG : Gok2 l G) {b o : Nat} {x1 : Int32} {μ μ1 : Mm} {r : Int32 ⊕ String} (hk : mK μ b = 111) (ho : mK μ1 o = 63) (hl : mL μ1 o = 1) (h : f_X10_kindByPlain b x1 μ = some (r, μ1)) (hE : ∀ E, r = .inr E → E ∈ [exIOB]) :
    Met l mL_kindByPlain.y (mL_kindByPlain.wsH hL_kindByPlain) (mL_kindByPlain.rm (mN μ1 - mN μ) (mS μ1 - mS μ)) (PcE G [.ref b, .int x1, .ref o] μ) (QW G (WP1 Int32.toInt64 [exIOB] o μ μ1 r)) (mN μ1 - mN μ) (mS μ1 - mS μ) (FREE G) := by
  have hz := s_X10_kindByPlain hG.1 _ _ _ _ _ h
  refine wx_met mw_kindByPlain rfl (Nat.le_of_ble_eq_true rfl) fun p e R s m args below meth c C ht => ?_
  refine lj_aload_n C dL_kindByPlain_0 rfl (q := 2) rfl ?_
  refine lj_iconst (v := 0) C dL_kindByPlain_1 iv_iconst_0 ?_
  refine lj_aload_n C dL_kindByPlain_2 rfl (q := 0) rfl ?_
  refine lj_iload_n C dL_kindByPlain_3 rfl (q := 1) rfl ?_
  refine lj_callVx (As := [.int x1]) (c2 := 0) (s2 := 0) C ht hG.1 mf_X10_kindByPlain cvL_kindByPlain hk ⟨by decide, by decide⟩ rfl rfl (Nat.le_of_ble_eq_true rfl) hz (Nat.le_of_ble_eq_true rfl) dL_kindByPlain_4 (by have := hz.1.1; omega) (by have := hz.1.2; omega) (fun v hv => ?_) (fun E hE2 => ?_)
  · rcases r with w | E
    · cases hv
      refine lj_i2l C dL_kindByPlain_7 ?_
      refine lj_lastore C hG.1 ho (by decide) rfl (vin1 hl) dL_kindByPlain_8 ?_
      refine lj_goto (tgt := 15) C dL_kindByPlain_9 (by decide) ?_
      refine lj_iconst (v := 0) C dL_kindByPlain_15 iv_iconst_0 ?_
      exact lj_wret C dL_kindByPlain_16 rfl (Or.inl ⟨w, rfl, rfl, by rw [z0c]⟩)
    · cases hv
  · rcases r with w | E2
    · cases hE2
    · cases hE2
      have hm := hE _ rfl
      simp only [List.mem_cons, List.not_mem_nil, or_false] at hm
      subst hm
      refine ⟨12, CT.hd (by decide) (by decide) clexIOB ccexIOB rfl, fun N q hN => ?_⟩
      refine lj_astore_n C dL_kindByPlain_12 rfl (by decide) rfl ?_
      refine lj_iconst (v := 1) C dL_kindByPlain_13 (by decide) ?_
      exact lj_wret C dL_kindByPlain_14 rfl (Or.inr ⟨_, 0, N, rfl, rfl, rfl, hN, rfl⟩)
theorem dL_placeByPlain_0 : decode cL_placeByPlain 0 = .ok (.aload_n 2, 1) := by decide +kernel
theorem dL_placeByPlain_1 : decode cL_placeByPlain 1 = .ok (.iconst 0, 1) := by decide +kernel
theorem dL_placeByPlain_2 : decode cL_placeByPlain 2 = .ok (.aload_n 0, 1) := by decide +kernel
theorem dL_placeByPlain_3 : decode cL_placeByPlain 3 = .ok (.iload_n 1, 1) := by decide +kernel
theorem dL_placeByPlain_4 : decode cL_placeByPlain 4 = .ok (.invokevirtual 57, 3) := by decide +kernel
theorem dL_placeByPlain_7 : decode cL_placeByPlain 7 = .ok (.i2l, 1) := by decide +kernel
theorem dL_placeByPlain_8 : decode cL_placeByPlain 8 = .ok (.lastore, 1) := by decide +kernel
theorem dL_placeByPlain_9 : decode cL_placeByPlain 9 = .ok (.goto 6, 3) := by decide +kernel
theorem dL_placeByPlain_12 : decode cL_placeByPlain 12 = .ok (.astore_n 3, 1) := by decide +kernel
theorem dL_placeByPlain_13 : decode cL_placeByPlain 13 = .ok (.iconst 1, 1) := by decide +kernel
theorem dL_placeByPlain_14 : decode cL_placeByPlain 14 = .ok (.ireturn, 1) := by decide +kernel
theorem dL_placeByPlain_15 : decode cL_placeByPlain 15 = .ok (.iconst 0, 1) := by decide +kernel
theorem dL_placeByPlain_16 : decode cL_placeByPlain 16 = .ok (.ireturn, 1) := by decide +kernel
def mL_placeByPlain : MD := (cL_placeByPlain, RL, yL_placeByPlain, 4, some .int, 7, 111)
abbrev hL_placeByPlain : List (Nat × Nat × Nat × Nat) := [(0, 9, 12, 49)]
theorem mw_placeByPlain : MW mL_placeByPlain hL_placeByPlain 3 := MW.of 1360 77 (by decide +kernel) (by decide +kernel) (by decide +kernel) (by decide +kernel) (by decide +kernel) rfl rfl
theorem cvL_placeByPlain : CVs RL 57 mX10_placeByPlain 11 := CVs.of 1361 1362 1363 (by decide +kernel) (by decide +kernel) (by decide +kernel) _ rfl rfl
set_option maxRecDepth 100000 in
theorem wc_placeByPlain {l : Launch} {G : Gt} (hG : Gok2 l G) {b o : Nat} {x1 : Int32} {μ μ1 : Mm} {r : Int32 ⊕ String} (hk : mK μ b = 111) (ho : mK μ1 o = 63) (hl : mL μ1 o = 1) (h : f_X10_placeByPlain b x1 μ = some (r, μ1)) (hE : ∀ E, r = .inr E → E ∈ [exIOB]) :
    Met l mL_placeByPlain.y (mL_placeByPlain.wsH hL_placeByPlain) (mL_placeByPlain.rm (mN μ1 - mN μ) (mS μ1 - mS μ)) (PcE G [.ref b, .int x1, .ref o] μ) (QW G (WP1 Int32.toInt64 [exIOB] o μ μ1 r)) (mN μ1 - mN μ) (mS μ1 - mS μ) (FREE G) := by
  have hz := s_X10_placeByPlain hG.1 _ _ _ _ _ h
  refine wx_met mw_placeByPlain rfl (Nat.le_of_ble_eq_true rfl) fun p e R s m args below meth c C ht => ?_
  refine lj_aload_n C dL_placeByPlain_0 rfl (q := 2) rfl ?_
  refine lj_iconst (v := 0) C dL_placeByPlain_1 iv_iconst_0 ?_
  refine lj_aload_n C dL_placeByPlain_2 rfl (q := 0) rfl ?_
  refine lj_iload_n C dL_placeByPlain_3 rfl (q := 1) rfl ?_
  refine lj_callVx (As := [.int x1]) (c2 := 0) (s2 := 0) C ht hG.1 mf_X10_placeByPlain cvL_placeByPlain hk ⟨by decide, by decide⟩ rfl rfl (Nat.le_of_ble_eq_true rfl) hz (Nat.le_of_ble_eq_true rfl) dL_placeByPlain_4 (by have := hz.1.1; omega) (by have := hz.1.2; omega) (fun v hv => ?_) (fun E hE2 => ?_)
  · rcases r with w | E
    · cases hv
      refine lj_i2l C dL_placeByPlain_7 ?_
      refine lj_lastore C hG.1 ho (by decide) rfl (vin1 hl) dL_placeByPlain_8 ?_
      refine lj_goto (tgt := 15) C dL_placeByPlain_9 (by decide) ?_
      refine lj_iconst (v := 0) C dL_placeByPlain_15 iv_iconst_0 ?_
      exact lj_wret C dL_placeByPlain_16 rfl (Or.inl ⟨w, rfl, rfl, by rw [z0c]⟩)
    · cases hv
  · rcases r with w | E2
    · cases hE2
    · cases hE2
      have hm := hE _ rfl
      simp only [List.mem_cons, List.not_mem_nil, or_false] at hm
      subst hm
      refine ⟨12, CT.hd (by decide) (by decide) clexIOB ccexIOB rfl, fun N q hN => ?_⟩
      refine lj_astore_n C dL_placeByPlain_12 rfl (by decide) rfl ?_
      refine lj_iconst (v := 1) C dL_placeByPlain_13 (by decide) ?_
      exact lj_wret C dL_placeByPlain_14 rfl (Or.inr ⟨_, 0, N, rfl, rfl, rfl, hN, rfl⟩)
theorem dL_register_0 : decode cL_register 0 = .ok (.aload_n 2, 1) := by decide +kernel
theorem dL_register_1 : decode cL_register 1 = .ok (.iconst 0, 1) := by decide +kernel
theorem dL_register_2 : decode cL_register 2 = .ok (.aload_n 0, 1) := by decide +kernel
theorem dL_register_3 : decode cL_register 3 = .ok (.iload_n 1, 1) := by decide +kernel
theorem dL_register_4 : decode cL_register 4 = .ok (.invokevirtual 60, 3) := by decide +kernel
theorem dL_register_7 : decode cL_register 7 = .ok (.i2l, 1) := by decide +kernel
theorem dL_register_8 : decode cL_register 8 = .ok (.lastore, 1) := by decide +kernel
theorem dL_register_9 : decode cL_register 9 = .ok (.goto 6, 3) := by decide +kernel
theorem dL_register_12 : decode cL_register 12 = .ok (.astore_n 3, 1) := by decide +kernel
theorem dL_register_13 : decode cL_register 13 = .ok (.iconst 1, 1) := by decide +kernel
theorem dL_register_14 : decode cL_register 14 = .ok (.ireturn, 1) := by decide +kernel
theorem dL_register_15 : decode cL_register 15 = .ok (.iconst 0, 1) := by decide +kernel
theorem dL_register_16 : decode cL_register 16 = .ok (.ireturn, 1) := by decide +kernel
def mL_register : MD := (cL_register, RL, yL_register, 4, some .int, 7, 111)
abbrev hL_register : List (Nat × Nat × Nat × Nat) := [(0, 9, 12, 13)]
theorem mw_register : MW mL_register hL_register 3 := MW.of 1367 77 (by decide +kernel) (by decide +kernel) (by decide +kernel) (by decide +kernel) (by decide +kernel) rfl rfl
theorem cvL_register : CVs RL 60 mX10_register 11 := CVs.of 1368 1369 1370 (by decide +kernel) (by decide +kernel) (by decide +kernel) _ rfl rfl
set_option maxRecDepth 100000 in
theorem wc_register {l : Launch} {G : Gt} (hG : Gok2 l G) {b o : Nat} {x1 : Int32} {μ μ1 : Mm} {r : Int32 ⊕ String} (hk : mK μ b = 111) (ho : mK μ1 o = 63) (hl : mL μ1 o = 1) (h : f_X10_register b x1 μ = some (r, μ1)) (hE : ∀ E, r = .inr E → E ∈ [exIAE]) :
    Met l mL_register.y (mL_register.wsH hL_register) (mL_register.rm (mN μ1 - mN μ) (mS μ1 - mS μ)) (PcE G [.ref b, .int x1, .ref o] μ) (QW G (WP1 Int32.toInt64 [exIAE] o μ μ1 r)) (mN μ1 - mN μ) (mS μ1 - mS μ) (FREE G) := by
  have hz := s_X10_register hG.1 _ _ _ _ _ h
  refine wx_met mw_register rfl (Nat.le_of_ble_eq_true rfl) fun p e R s m args below meth c C ht => ?_
  refine lj_aload_n C dL_register_0 rfl (q := 2) rfl ?_
  refine lj_iconst (v := 0) C dL_register_1 iv_iconst_0 ?_
  refine lj_aload_n C dL_register_2 rfl (q := 0) rfl ?_
  refine lj_iload_n C dL_register_3 rfl (q := 1) rfl ?_
  refine lj_callVx (As := [.int x1]) (c2 := 0) (s2 := 0) C ht hG.1 mf_X10_register cvL_register hk ⟨by decide, by decide⟩ rfl rfl (Nat.le_of_ble_eq_true rfl) hz (Nat.le_of_ble_eq_true rfl) dL_register_4 (by have := hz.1.1; omega) (by have := hz.1.2; omega) (fun v hv => ?_) (fun E hE2 => ?_)
  · rcases r with w | E
    · cases hv
      refine lj_i2l C dL_register_7 ?_
      refine lj_lastore C hG.1 ho (by decide) rfl (vin1 hl) dL_register_8 ?_
      refine lj_goto (tgt := 15) C dL_register_9 (by decide) ?_
      refine lj_iconst (v := 0) C dL_register_15 iv_iconst_0 ?_
      exact lj_wret C dL_register_16 rfl (Or.inl ⟨w, rfl, rfl, by rw [z0c]⟩)
    · cases hv
  · rcases r with w | E2
    · cases hE2
    · cases hE2
      have hm := hE _ rfl
      simp only [List.mem_cons, List.not_mem_nil, or_false] at hm
      subst hm
      refine ⟨12, CT.hd (by decide) (by decide) clexIAE ccexIAE rfl, fun N q hN => ?_⟩
      refine lj_astore_n C dL_register_12 rfl (by decide) rfl ?_
      refine lj_iconst (v := 1) C dL_register_13 (by decide) ?_
      exact lj_wret C dL_register_14 rfl (Or.inr ⟨_, 0, N, rfl, rfl, rfl, hN, rfl⟩)
theorem dL_registerByPlain_0 : decode cL_registerByPlain 0 = .ok (.aload_n 2, 1) := by decide +kernel
theorem dL_registerByPlain_1 : decode cL_registerByPlain 1 = .ok (.iconst 0, 1) := by decide +kernel
theorem dL_registerByPlain_2 : decode cL_registerByPlain 2 = .ok (.aload_n 0, 1) := by decide +kernel
theorem dL_registerByPlain_3 : decode cL_registerByPlain 3 = .ok (.iload_n 1, 1) := by decide +kernel
theorem dL_registerByPlain_4 : decode cL_registerByPlain 4 = .ok (.invokevirtual 63, 3) := by decide +kernel
theorem dL_registerByPlain_7 : decode cL_registerByPlain 7 = .ok (.i2l, 1) := by decide +kernel
theorem dL_registerByPlain_8 : decode cL_registerByPlain 8 = .ok (.lastore, 1) := by decide +kernel
theorem dL_registerByPlain_9 : decode cL_registerByPlain 9 = .ok (.goto 6, 3) := by decide +kernel
theorem dL_registerByPlain_12 : decode cL_registerByPlain 12 = .ok (.astore_n 3, 1) := by decide +kernel
theorem dL_registerByPlain_13 : decode cL_registerByPlain 13 = .ok (.iconst 1, 1) := by decide +kernel
theorem dL_registerByPlain_14 : decode cL_registerByPlain 14 = .ok (.ireturn, 1) := by decide +kernel
theorem dL_registerByPlain_15 : decode cL_registerByPlain 15 = .ok (.iconst 0, 1) := by decide +kernel
theorem dL_registerByPlain_16 : decode cL_registerByPlain 16 = .ok (.ireturn, 1) := by decide +kernel
def mL_registerByPlain : MD := (cL_registerByPlain, RL, yL_registerByPlain, 4, some .int, 7, 111)
abbrev hL_registerByPlain : List (Nat × Nat × Nat × Nat) := [(0, 9, 12, 13)]
theorem mw_registerByPlain : MW mL_registerByPlain hL_registerByPlain 3 := MW.of 1375 77 (by decide +kernel) (by decide +kernel) (by decide +kernel) (by decide +kernel) (by decide +kernel) rfl rfl
theorem cvL_registerByPlain : CVs RL 63 mX10_registerByPlain 11 := CVs.of 1376 1377 1378 (by decide +kernel) (by decide +kernel) (by decide +kernel) _ rfl rfl
set_option maxRecDepth 100000 in
theorem wc_registerByPlain {l : Launch} {G : Gt} (hG : Gok2 l G) {b o : Nat} {x1 : Int32} {μ μ1 : Mm} {r : Int32 ⊕ String} (hk : mK μ b = 111) (ho : mK μ1 o = 63) (hl : mL μ1 o = 1) (h : f_X10_registerByPlain b x1 μ = some (r, μ1)) (hE : ∀ E, r = .inr E → E ∈ [exIAE]) :
    Met l mL_registerByPlain.y (mL_registerByPlain.wsH hL_registerByPlain) (mL_registerByPlain.rm (mN μ1 - mN μ) (mS μ1 - mS μ)) (PcE G [.ref b, .int x1, .ref o] μ) (QW G (WP1 Int32.toInt64 [exIAE] o μ μ1 r)) (mN μ1 - mN μ) (mS μ1 - mS μ) (FREE G) := by
  have hz := s_X10_registerByPlain hG.1 _ _ _ _ _ h
  refine wx_met mw_registerByPlain rfl (Nat.le_of_ble_eq_true rfl) fun p e R s m args below meth c C ht => ?_
  refine lj_aload_n C dL_registerByPlain_0 rfl (q := 2) rfl ?_
  refine lj_iconst (v := 0) C dL_registerByPlain_1 iv_iconst_0 ?_
  refine lj_aload_n C dL_registerByPlain_2 rfl (q := 0) rfl ?_
  refine lj_iload_n C dL_registerByPlain_3 rfl (q := 1) rfl ?_
  refine lj_callVx (As := [.int x1]) (c2 := 0) (s2 := 0) C ht hG.1 mf_X10_registerByPlain cvL_registerByPlain hk ⟨by decide, by decide⟩ rfl rfl (Nat.le_of_ble_eq_true rfl) hz (Nat.le_of_ble_eq_true rfl) dL_registerByPlain_4 (by have := hz.1.1; omega) (by have := hz.1.2; omega) (fun v hv => ?_) (fun E hE2 => ?_)
  · rcases r with w | E
    · cases hv
      refine lj_i2l C dL_registerByPlain_7 ?_
      refine lj_lastore C hG.1 ho (by decide) rfl (vin1 hl) dL_registerByPlain_8 ?_
      refine lj_goto (tgt := 15) C dL_registerByPlain_9 (by decide) ?_
      refine lj_iconst (v := 0) C dL_registerByPlain_15 iv_iconst_0 ?_
      exact lj_wret C dL_registerByPlain_16 rfl (Or.inl ⟨w, rfl, rfl, by rw [z0c]⟩)
    · cases hv
  · rcases r with w | E2
    · cases hE2
    · cases hE2
      have hm := hE _ rfl
      simp only [List.mem_cons, List.not_mem_nil, or_false] at hm
      subst hm
      refine ⟨12, CT.hd (by decide) (by decide) clexIAE ccexIAE rfl, fun N q hN => ?_⟩
      refine lj_astore_n C dL_registerByPlain_12 rfl (by decide) rfl ?_
      refine lj_iconst (v := 1) C dL_registerByPlain_13 (by decide) ?_
      exact lj_wret C dL_registerByPlain_14 rfl (Or.inr ⟨_, 0, N, rfl, rfl, rfl, hN, rfl⟩)
theorem dL_word_0 : decode cL_word 0 = .ok (.aload_n 2, 1) := by decide +kernel
theorem dL_word_1 : decode cL_word 1 = .ok (.iconst 0, 1) := by decide +kernel
theorem dL_word_2 : decode cL_word 2 = .ok (.aload_n 0, 1) := by decide +kernel
theorem dL_word_3 : decode cL_word 3 = .ok (.iload_n 1, 1) := by decide +kernel
theorem dL_word_4 : decode cL_word 4 = .ok (.invokevirtual 66, 3) := by decide +kernel
theorem dL_word_7 : decode cL_word 7 = .ok (.i2l, 1) := by decide +kernel
theorem dL_word_8 : decode cL_word 8 = .ok (.lastore, 1) := by decide +kernel
theorem dL_word_9 : decode cL_word 9 = .ok (.goto 6, 3) := by decide +kernel
theorem dL_word_12 : decode cL_word 12 = .ok (.astore_n 3, 1) := by decide +kernel
theorem dL_word_13 : decode cL_word 13 = .ok (.iconst 1, 1) := by decide +kernel
theorem dL_word_14 : decode cL_word 14 = .ok (.ireturn, 1) := by decide +kernel
theorem dL_word_15 : decode cL_word 15 = .ok (.iconst 0, 1) := by decide +kernel
theorem dL_word_16 : decode cL_word 16 = .ok (.ireturn, 1) := by decide +kernel
def mL_word : MD := (cL_word, RL, yL_word, 4, some .int, 7, 111)
abbrev hL_word : List (Nat × Nat × Nat × Nat) := [(0, 9, 12, 13)]
theorem mw_word : MW mL_word hL_word 3 := MW.of 1382 77 (by decide +kernel) (by decide +kernel) (by decide +kernel) (by decide +kernel) (by decide +kernel) rfl rfl
theorem cvL_word : CVs RL 66 mX10_word 11 := CVs.of 1383 1384 1385 (by decide +kernel) (by decide +kernel) (by decide +kernel) _ rfl rfl
set_option maxRecDepth 100000 in
theorem wc_word {l : Launch} {G : Gt} (hG : Gok2 l G) {b o : Nat} {x1 : Int32} {μ μ1 : Mm} {r : Int32 ⊕ String} (hk : mK μ b = 111) (ho : mK μ1 o = 63) (hl : mL μ1 o = 1) (h : f_X10_word b x1 μ = some (r, μ1)) (hE : ∀ E, r = .inr E → E ∈ [exIAE]) :
    Met l mL_word.y (mL_word.wsH hL_word) (mL_word.rm (mN μ1 - mN μ) (mS μ1 - mS μ)) (PcE G [.ref b, .int x1, .ref o] μ) (QW G (WP1 Int32.toInt64 [exIAE] o μ μ1 r)) (mN μ1 - mN μ) (mS μ1 - mS μ) (FREE G) := by
  have hz := s_X10_word hG.1 _ _ _ _ _ h
  refine wx_met mw_word rfl (Nat.le_of_ble_eq_true rfl) fun p e R s m args below meth c C ht => ?_
  refine lj_aload_n C dL_word_0 rfl (q := 2) rfl ?_
  refine lj_iconst (v := 0) C dL_word_1 iv_iconst_0 ?_
  refine lj_aload_n C dL_word_2 rfl (q := 0) rfl ?_
  refine lj_iload_n C dL_word_3 rfl (q := 1) rfl ?_
  refine lj_callVx (As := [.int x1]) (c2 := 0) (s2 := 0) C ht hG.1 mf_X10_word cvL_word hk ⟨by decide, by decide⟩ rfl rfl (Nat.le_of_ble_eq_true rfl) hz (Nat.le_of_ble_eq_true rfl) dL_word_4 (by have := hz.1.1; omega) (by have := hz.1.2; omega) (fun v hv => ?_) (fun E hE2 => ?_)
  · rcases r with w | E
    · cases hv
      refine lj_i2l C dL_word_7 ?_
      refine lj_lastore C hG.1 ho (by decide) rfl (vin1 hl) dL_word_8 ?_
      refine lj_goto (tgt := 15) C dL_word_9 (by decide) ?_
      refine lj_iconst (v := 0) C dL_word_15 iv_iconst_0 ?_
      exact lj_wret C dL_word_16 rfl (Or.inl ⟨w, rfl, rfl, by rw [z0c]⟩)
    · cases hv
  · rcases r with w | E2
    · cases hE2
    · cases hE2
      have hm := hE _ rfl
      simp only [List.mem_cons, List.not_mem_nil, or_false] at hm
      subst hm
      refine ⟨12, CT.hd (by decide) (by decide) clexIAE ccexIAE rfl, fun N q hN => ?_⟩
      refine lj_astore_n C dL_word_12 rfl (by decide) rfl ?_
      refine lj_iconst (v := 1) C dL_word_13 (by decide) ?_
      exact lj_wret C dL_word_14 rfl (Or.inr ⟨_, 0, N, rfl, rfl, rfl, hN, rfl⟩)
theorem dL_wordByPlain_0 : decode cL_wordByPlain 0 = .ok (.aload_n 2, 1) := by decide +kernel
theorem dL_wordByPlain_1 : decode cL_wordByPlain 1 = .ok (.iconst 0, 1) := by decide +kernel
theorem dL_wordByPlain_2 : decode cL_wordByPlain 2 = .ok (.aload_n 0, 1) := by decide +kernel
theorem dL_wordByPlain_3 : decode cL_wordByPlain 3 = .ok (.iload_n 1, 1) := by decide +kernel
theorem dL_wordByPlain_4 : decode cL_wordByPlain 4 = .ok (.invokevirtual 69, 3) := by decide +kernel
theorem dL_wordByPlain_7 : decode cL_wordByPlain 7 = .ok (.i2l, 1) := by decide +kernel
theorem dL_wordByPlain_8 : decode cL_wordByPlain 8 = .ok (.lastore, 1) := by decide +kernel
theorem dL_wordByPlain_9 : decode cL_wordByPlain 9 = .ok (.goto 6, 3) := by decide +kernel
theorem dL_wordByPlain_12 : decode cL_wordByPlain 12 = .ok (.astore_n 3, 1) := by decide +kernel
theorem dL_wordByPlain_13 : decode cL_wordByPlain 13 = .ok (.iconst 1, 1) := by decide +kernel
theorem dL_wordByPlain_14 : decode cL_wordByPlain 14 = .ok (.ireturn, 1) := by decide +kernel
theorem dL_wordByPlain_15 : decode cL_wordByPlain 15 = .ok (.iconst 0, 1) := by decide +kernel
theorem dL_wordByPlain_16 : decode cL_wordByPlain 16 = .ok (.ireturn, 1) := by decide +kernel
def mL_wordByPlain : MD := (cL_wordByPlain, RL, yL_wordByPlain, 4, some .int, 7, 111)
abbrev hL_wordByPlain : List (Nat × Nat × Nat × Nat) := [(0, 9, 12, 13)]
theorem mw_wordByPlain : MW mL_wordByPlain hL_wordByPlain 3 := MW.of 1389 77 (by decide +kernel) (by decide +kernel) (by decide +kernel) (by decide +kernel) (by decide +kernel) rfl rfl
theorem cvL_wordByPlain : CVs RL 69 mX10_wordByPlain 11 := CVs.of 1390 1391 1392 (by decide +kernel) (by decide +kernel) (by decide +kernel) _ rfl rfl
set_option maxRecDepth 100000 in
theorem wc_wordByPlain {l : Launch} {G : Gt} (hG : Gok2 l G) {b o : Nat} {x1 : Int32} {μ μ1 : Mm} {r : Int32 ⊕ String} (hk : mK μ b = 111) (ho : mK μ1 o = 63) (hl : mL μ1 o = 1) (h : f_X10_wordByPlain b x1 μ = some (r, μ1)) (hE : ∀ E, r = .inr E → E ∈ [exIAE]) :
    Met l mL_wordByPlain.y (mL_wordByPlain.wsH hL_wordByPlain) (mL_wordByPlain.rm (mN μ1 - mN μ) (mS μ1 - mS μ)) (PcE G [.ref b, .int x1, .ref o] μ) (QW G (WP1 Int32.toInt64 [exIAE] o μ μ1 r)) (mN μ1 - mN μ) (mS μ1 - mS μ) (FREE G) := by
  have hz := s_X10_wordByPlain hG.1 _ _ _ _ _ h
  refine wx_met mw_wordByPlain rfl (Nat.le_of_ble_eq_true rfl) fun p e R s m args below meth c C ht => ?_
  refine lj_aload_n C dL_wordByPlain_0 rfl (q := 2) rfl ?_
  refine lj_iconst (v := 0) C dL_wordByPlain_1 iv_iconst_0 ?_
  refine lj_aload_n C dL_wordByPlain_2 rfl (q := 0) rfl ?_
  refine lj_iload_n C dL_wordByPlain_3 rfl (q := 1) rfl ?_
  refine lj_callVx (As := [.int x1]) (c2 := 0) (s2 := 0) C ht hG.1 mf_X10_wordByPlain cvL_wordByPlain hk ⟨by decide, by decide⟩ rfl rfl (Nat.le_of_ble_eq_true rfl) hz (Nat.le_of_ble_eq_true rfl) dL_wordByPlain_4 (by have := hz.1.1; omega) (by have := hz.1.2; omega) (fun v hv => ?_) (fun E hE2 => ?_)
  · rcases r with w | E
    · cases hv
      refine lj_i2l C dL_wordByPlain_7 ?_
      refine lj_lastore C hG.1 ho (by decide) rfl (vin1 hl) dL_wordByPlain_8 ?_
      refine lj_goto (tgt := 15) C dL_wordByPlain_9 (by decide) ?_
      refine lj_iconst (v := 0) C dL_wordByPlain_15 iv_iconst_0 ?_
      exact lj_wret C dL_wordByPlain_16 rfl (Or.inl ⟨w, rfl, rfl, by rw [z0c]⟩)
    · cases hv
  · rcases r with w | E2
    · cases hE2
    · cases hE2
      have hm := hE _ rfl
      simp only [List.mem_cons, List.not_mem_nil, or_false] at hm
      subst hm
      refine ⟨12, CT.hd (by decide) (by decide) clexIAE ccexIAE rfl, fun N q hN => ?_⟩
      refine lj_astore_n C dL_wordByPlain_12 rfl (by decide) rfl ?_
      refine lj_iconst (v := 1) C dL_wordByPlain_13 (by decide) ?_
      exact lj_wret C dL_wordByPlain_14 rfl (Or.inr ⟨_, 0, N, rfl, rfl, rfl, hN, rfl⟩)
theorem dL_kept_0 : decode cL_kept 0 = .ok (.aload_n 1, 1) := by decide +kernel
theorem dL_kept_1 : decode cL_kept 1 = .ok (.iconst 0, 1) := by decide +kernel
theorem dL_kept_2 : decode cL_kept 2 = .ok (.aload_n 0, 1) := by decide +kernel
theorem dL_kept_3 : decode cL_kept 3 = .ok (.invokevirtual 72, 3) := by decide +kernel
theorem dL_kept_6 : decode cL_kept 6 = .ok (.i2l, 1) := by decide +kernel
theorem dL_kept_7 : decode cL_kept 7 = .ok (.lastore, 1) := by decide +kernel
theorem dL_kept_8 : decode cL_kept 8 = .ok (.goto 6, 3) := by decide +kernel
theorem dL_kept_11 : decode cL_kept 11 = .ok (.astore_n 2, 1) := by decide +kernel
theorem dL_kept_12 : decode cL_kept 12 = .ok (.iconst 1, 1) := by decide +kernel
theorem dL_kept_13 : decode cL_kept 13 = .ok (.ireturn, 1) := by decide +kernel
theorem dL_kept_14 : decode cL_kept 14 = .ok (.iconst 0, 1) := by decide +kernel
theorem dL_kept_15 : decode cL_kept 15 = .ok (.ireturn, 1) := by decide +kernel
def mL_kept : MD := (cL_kept, RL, yL_kept, 3, some .int, 7, 110)
abbrev hL_kept : List (Nat × Nat × Nat × Nat) := [(0, 8, 11, 76)]
theorem mw_kept : MW mL_kept hL_kept 2 := MW.of 1396 77 (by decide +kernel) (by decide +kernel) (by decide +kernel) (by decide +kernel) (by decide +kernel) rfl rfl
theorem cvL_kept : CVs RL 72 mX10_kept 11 := CVs.of 1398 1399 1400 (by decide +kernel) (by decide +kernel) (by decide +kernel) _ rfl rfl
set_option maxRecDepth 100000 in
theorem wc_kept {l : Launch} {G : Gt} (hG : Gok2 l G) {b o : Nat} {μ μ1 : Mm} {r : Int32 ⊕ String} (hk : mK μ b = 111) (ho : mK μ1 o = 63) (hl : mL μ1 o = 1) (h : f_X10_kept b μ = some (r, μ1)) (hE : ∀ E, r = .inr E → E ∈ [exNSE]) :
    Met l mL_kept.y (mL_kept.wsH hL_kept) (mL_kept.rm (mN μ1 - mN μ) (mS μ1 - mS μ)) (PcE G [.ref b, .ref o] μ) (QW G (WP1 Int32.toInt64 [exNSE] o μ μ1 r)) (mN μ1 - mN μ) (mS μ1 - mS μ) (FREE G) := by
  have hz := s_X10_kept hG.1 _ _ _ _ h
  refine wx_met mw_kept rfl (Nat.le_of_ble_eq_true rfl) fun p e R s m args below meth c C ht => ?_
  refine lj_aload_n C dL_kept_0 rfl (q := 1) rfl ?_
  refine lj_iconst (v := 0) C dL_kept_1 iv_iconst_0 ?_
  refine lj_aload_n C dL_kept_2 rfl (q := 0) rfl ?_
  refine lj_callVx (As := []) (c2 := 0) (s2 := 0) C ht hG.1 mf_X10_kept cvL_kept hk ⟨by decide, by decide⟩ rfl rfl (Nat.le_of_ble_eq_true rfl) hz (Nat.le_of_ble_eq_true rfl) dL_kept_3 (by have := hz.1.1; omega) (by have := hz.1.2; omega) (fun v hv => ?_) (fun E hE2 => ?_)
  · rcases r with w | E
    · cases hv
      refine lj_i2l C dL_kept_6 ?_
      refine lj_lastore C hG.1 ho (by decide) rfl (vin1 hl) dL_kept_7 ?_
      refine lj_goto (tgt := 14) C dL_kept_8 (by decide) ?_
      refine lj_iconst (v := 0) C dL_kept_14 iv_iconst_0 ?_
      exact lj_wret C dL_kept_15 rfl (Or.inl ⟨w, rfl, rfl, by rw [z0c]⟩)
    · cases hv
  · rcases r with w | E2
    · cases hE2
    · cases hE2
      have hm := hE _ rfl
      simp only [List.mem_cons, List.not_mem_nil, or_false] at hm
      subst hm
      refine ⟨11, CT.hd (by decide) (by decide) clexNSE ccexNSE rfl, fun N q hN => ?_⟩
      refine lj_astore_n C dL_kept_11 rfl (by decide) rfl ?_
      refine lj_iconst (v := 1) C dL_kept_12 (by decide) ?_
      exact lj_wret C dL_kept_13 rfl (Or.inr ⟨_, 0, N, rfl, rfl, rfl, hN, rfl⟩)
theorem dL_life_0 : decode cL_life 0 = .ok (.aload_n 3, 1) := by decide +kernel
theorem dL_life_1 : decode cL_life 1 = .ok (.iconst 0, 1) := by decide +kernel
theorem dL_life_2 : decode cL_life 2 = .ok (.aload_n 0, 1) := by decide +kernel
theorem dL_life_3 : decode cL_life 3 = .ok (.iload_n 1, 1) := by decide +kernel
theorem dL_life_4 : decode cL_life 4 = .ok (.iload_n 2, 1) := by decide +kernel
theorem dL_life_5 : decode cL_life 5 = .ok (.invokevirtual 78, 3) := by decide +kernel
theorem dL_life_8 : decode cL_life 8 = .ok (.i2l, 1) := by decide +kernel
theorem dL_life_9 : decode cL_life 9 = .ok (.lastore, 1) := by decide +kernel
theorem dL_life_10 : decode cL_life 10 = .ok (.goto 15, 3) := by decide +kernel
theorem dL_life_13 : decode cL_life 13 = .ok (.astore 4, 2) := by decide +kernel
theorem dL_life_15 : decode cL_life 15 = .ok (.iconst 1, 1) := by decide +kernel
theorem dL_life_16 : decode cL_life 16 = .ok (.ireturn, 1) := by decide +kernel
theorem dL_life_17 : decode cL_life 17 = .ok (.astore 4, 2) := by decide +kernel
theorem dL_life_19 : decode cL_life 19 = .ok (.iconst 2, 1) := by decide +kernel
theorem dL_life_20 : decode cL_life 20 = .ok (.ireturn, 1) := by decide +kernel
theorem dL_life_21 : decode cL_life 21 = .ok (.astore 4, 2) := by decide +kernel
theorem dL_life_23 : decode cL_life 23 = .ok (.iconst 3, 1) := by decide +kernel
theorem dL_life_24 : decode cL_life 24 = .ok (.ireturn, 1) := by decide +kernel
theorem dL_life_25 : decode cL_life 25 = .ok (.iconst 0, 1) := by decide +kernel
theorem dL_life_26 : decode cL_life 26 = .ok (.ireturn, 1) := by decide +kernel
def mL_life : MD := (cL_life, RL, yL_life, 5, some .int, 7, 113)
abbrev hL_life : List (Nat × Nat × Nat × Nat) := [(0, 10, 13, 49), (0, 10, 17, 13), (0, 10, 21, 76)]
theorem mw_life : MW mL_life hL_life 4 := MW.of 1419 77 (by decide +kernel) (by decide +kernel) (by decide +kernel) (by decide +kernel) (by decide +kernel) rfl rfl
theorem cvL_life : CVs RL 78 mX10_life 11 := CVs.of 1420 1421 1422 (by decide +kernel) (by decide +kernel) (by decide +kernel) _ rfl rfl
set_option maxRecDepth 100000 in
theorem wc_life {l : Launch} {G : Gt} (hG : Gok2 l G) {b o : Nat} {x1 : Int32} {x2 : Int32} {μ μ1 : Mm} {r : Int32 ⊕ String} (hk : mK μ b = 111) (ho : mK μ1 o = 63) (hl : mL μ1 o = 1) (h : f_X10_life b x1 x2 μ = some (r, μ1)) (hE : ∀ E, r = .inr E → E ∈ [exIOB, exIAE, exNSE]) :
    Met l mL_life.y (mL_life.wsH hL_life) (mL_life.rm (mN μ1 - mN μ) (mS μ1 - mS μ)) (PcE G [.ref b, .int x1, .int x2, .ref o] μ) (QW G (WP1 Int32.toInt64 [exIOB, exIAE, exNSE] o μ μ1 r)) (mN μ1 - mN μ) (mS μ1 - mS μ) (FREE G) := by
  have hz := s_X10_life hG.1 _ _ _ _ _ _ h
  refine wx_met mw_life rfl (Nat.le_of_ble_eq_true rfl) fun p e R s m args below meth c C ht => ?_
  refine lj_aload_n C dL_life_0 rfl (q := 3) rfl ?_
  refine lj_iconst (v := 0) C dL_life_1 iv_iconst_0 ?_
  refine lj_aload_n C dL_life_2 rfl (q := 0) rfl ?_
  refine lj_iload_n C dL_life_3 rfl (q := 1) rfl ?_
  refine lj_iload_n C dL_life_4 rfl (q := 2) rfl ?_
  refine lj_callVx (As := [.int x1, .int x2]) (c2 := 0) (s2 := 0) C ht hG.1 mf_X10_life cvL_life hk ⟨by decide, by decide⟩ rfl rfl (Nat.le_of_ble_eq_true rfl) hz (Nat.le_of_ble_eq_true rfl) dL_life_5 (by have := hz.1.1; omega) (by have := hz.1.2; omega) (fun v hv => ?_) (fun E hE2 => ?_)
  · rcases r with w | E
    · cases hv
      refine lj_i2l C dL_life_8 ?_
      refine lj_lastore C hG.1 ho (by decide) rfl (vin1 hl) dL_life_9 ?_
      refine lj_goto (tgt := 25) C dL_life_10 (by decide) ?_
      refine lj_iconst (v := 0) C dL_life_25 iv_iconst_0 ?_
      exact lj_wret C dL_life_26 rfl (Or.inl ⟨w, rfl, rfl, by rw [z0c]⟩)
    · cases hv
  · rcases r with w | E2
    · cases hE2
    · cases hE2
      have hm := hE _ rfl
      simp only [List.mem_cons, List.not_mem_nil, or_false] at hm
      rcases hm with rfl | rfl | rfl
      · refine ⟨13, CT.hd (by decide) (by decide) clexIOB ccexIOB rfl, fun N q hN => ?_⟩
        refine lj_astore C dL_life_13 (by decide) rfl ?_
        refine lj_iconst (v := 1) C dL_life_15 (by decide) ?_
        exact lj_wret C dL_life_16 rfl (Or.inr ⟨_, 0, N, rfl, rfl, rfl, hN, rfl⟩)
      · refine ⟨17, CT.tl (by decide) clexIOB hG.2.2.1 (CT.hd (by decide) (by decide) clexIAE ccexIAE rfl), fun N q hN => ?_⟩
        refine lj_astore C dL_life_17 (by decide) rfl ?_
        refine lj_iconst (v := 2) C dL_life_19 (by decide) ?_
        exact lj_wret C dL_life_20 rfl (Or.inr ⟨_, 1, N, rfl, rfl, rfl, hN, rfl⟩)
      · refine ⟨21, CT.tl (by decide) clexIOB hG.2.2.2.1 (CT.tl (by decide) clexIAE hG.2.2.2.2 (CT.hd (by decide) (by decide) clexNSE ccexNSE rfl)), fun N q hN => ?_⟩
        refine lj_astore C dL_life_21 (by decide) rfl ?_
        refine lj_iconst (v := 3) C dL_life_23 (by decide) ?_
        exact lj_wret C dL_life_24 rfl (Or.inr ⟨_, 2, N, rfl, rfl, rfl, hN, rfl⟩)
theorem dL_inner_0 : decode cL_inner 0 = .ok (.aload_n 2, 1) := by decide +kernel
theorem dL_inner_1 : decode cL_inner 1 = .ok (.iconst 0, 1) := by decide +kernel
theorem dL_inner_2 : decode cL_inner 2 = .ok (.aload_n 0, 1) := by decide +kernel
theorem dL_inner_3 : decode cL_inner 3 = .ok (.iload_n 1, 1) := by decide +kernel
theorem dL_inner_4 : decode cL_inner 4 = .ok (.invokevirtual 81, 3) := by decide +kernel
theorem dL_inner_7 : decode cL_inner 7 = .ok (.i2l, 1) := by decide +kernel
theorem dL_inner_8 : decode cL_inner 8 = .ok (.lastore, 1) := by decide +kernel
theorem dL_inner_9 : decode cL_inner 9 = .ok (.goto 6, 3) := by decide +kernel
theorem dL_inner_12 : decode cL_inner 12 = .ok (.astore_n 3, 1) := by decide +kernel
theorem dL_inner_13 : decode cL_inner 13 = .ok (.iconst 1, 1) := by decide +kernel
theorem dL_inner_14 : decode cL_inner 14 = .ok (.ireturn, 1) := by decide +kernel
theorem dL_inner_15 : decode cL_inner 15 = .ok (.iconst 0, 1) := by decide +kernel
theorem dL_inner_16 : decode cL_inner 16 = .ok (.ireturn, 1) := by decide +kernel
def mL_inner : MD := (cL_inner, RL, yL_inner, 4, some .int, 7, 111)
abbrev hL_inner : List (Nat × Nat × Nat × Nat) := [(0, 9, 12, 13)]
theorem mw_inner : MW mL_inner hL_inner 3 := MW.of 1426 77 (by decide +kernel) (by decide +kernel) (by decide +kernel) (by decide +kernel) (by decide +kernel) rfl rfl
theorem cvL_inner : CVs RL 81 mX10_inner 11 := CVs.of 1427 1428 1429 (by decide +kernel) (by decide +kernel) (by decide +kernel) _ rfl rfl
set_option maxRecDepth 100000 in
theorem wc_inner {l : Launch} {G : Gt} (hG : Gok2 l G) {b o : Nat} {x1 : Int32} {μ μ1 : Mm} {r : Int32 ⊕ String} (hk : mK μ b = 111) (ho : mK μ1 o = 63) (hl : mL μ1 o = 1) (h : f_X10_inner b x1 μ = some (r, μ1)) (hE : ∀ E, r = .inr E → E ∈ [exIAE]) :
    Met l mL_inner.y (mL_inner.wsH hL_inner) (mL_inner.rm (mN μ1 - mN μ) (mS μ1 - mS μ)) (PcE G [.ref b, .int x1, .ref o] μ) (QW G (WP1 Int32.toInt64 [exIAE] o μ μ1 r)) (mN μ1 - mN μ) (mS μ1 - mS μ) (FREE G) := by
  have hz := s_X10_inner hG.1 _ _ _ _ _ h
  refine wx_met mw_inner rfl (Nat.le_of_ble_eq_true rfl) fun p e R s m args below meth c C ht => ?_
  refine lj_aload_n C dL_inner_0 rfl (q := 2) rfl ?_
  refine lj_iconst (v := 0) C dL_inner_1 iv_iconst_0 ?_
  refine lj_aload_n C dL_inner_2 rfl (q := 0) rfl ?_
  refine lj_iload_n C dL_inner_3 rfl (q := 1) rfl ?_
  refine lj_callVx (As := [.int x1]) (c2 := 0) (s2 := 0) C ht hG.1 mf_X10_inner cvL_inner hk ⟨by decide, by decide⟩ rfl rfl (Nat.le_of_ble_eq_true rfl) hz (Nat.le_of_ble_eq_true rfl) dL_inner_4 (by have := hz.1.1; omega) (by have := hz.1.2; omega) (fun v hv => ?_) (fun E hE2 => ?_)
  · rcases r with w | E
    · cases hv
      refine lj_i2l C dL_inner_7 ?_
      refine lj_lastore C hG.1 ho (by decide) rfl (vin1 hl) dL_inner_8 ?_
      refine lj_goto (tgt := 15) C dL_inner_9 (by decide) ?_
      refine lj_iconst (v := 0) C dL_inner_15 iv_iconst_0 ?_
      exact lj_wret C dL_inner_16 rfl (Or.inl ⟨w, rfl, rfl, by rw [z0c]⟩)
    · cases hv
  · rcases r with w | E2
    · cases hE2
    · cases hE2
      have hm := hE _ rfl
      simp only [List.mem_cons, List.not_mem_nil, or_false] at hm
      subst hm
      refine ⟨12, CT.hd (by decide) (by decide) clexIAE ccexIAE rfl, fun N q hN => ?_⟩
      refine lj_astore_n C dL_inner_12 rfl (by decide) rfl ?_
      refine lj_iconst (v := 1) C dL_inner_13 (by decide) ?_
      exact lj_wret C dL_inner_14 rfl (Or.inr ⟨_, 0, N, rfl, rfl, rfl, hN, rfl⟩)
theorem dL_innerAnew_0 : decode cL_innerAnew 0 = .ok (.aload_n 2, 1) := by decide +kernel
theorem dL_innerAnew_1 : decode cL_innerAnew 1 = .ok (.iconst 0, 1) := by decide +kernel
theorem dL_innerAnew_2 : decode cL_innerAnew 2 = .ok (.aload_n 0, 1) := by decide +kernel
theorem dL_innerAnew_3 : decode cL_innerAnew 3 = .ok (.iload_n 1, 1) := by decide +kernel
theorem dL_innerAnew_4 : decode cL_innerAnew 4 = .ok (.invokevirtual 84, 3) := by decide +kernel
theorem dL_innerAnew_7 : decode cL_innerAnew 7 = .ok (.i2l, 1) := by decide +kernel
theorem dL_innerAnew_8 : decode cL_innerAnew 8 = .ok (.lastore, 1) := by decide +kernel
theorem dL_innerAnew_9 : decode cL_innerAnew 9 = .ok (.goto 6, 3) := by decide +kernel
theorem dL_innerAnew_12 : decode cL_innerAnew 12 = .ok (.astore_n 3, 1) := by decide +kernel
theorem dL_innerAnew_13 : decode cL_innerAnew 13 = .ok (.iconst 1, 1) := by decide +kernel
theorem dL_innerAnew_14 : decode cL_innerAnew 14 = .ok (.ireturn, 1) := by decide +kernel
theorem dL_innerAnew_15 : decode cL_innerAnew 15 = .ok (.iconst 0, 1) := by decide +kernel
theorem dL_innerAnew_16 : decode cL_innerAnew 16 = .ok (.ireturn, 1) := by decide +kernel
def mL_innerAnew : MD := (cL_innerAnew, RL, yL_innerAnew, 4, some .int, 7, 111)
abbrev hL_innerAnew : List (Nat × Nat × Nat × Nat) := [(0, 9, 12, 13)]
theorem mw_innerAnew : MW mL_innerAnew hL_innerAnew 3 := MW.of 1433 77 (by decide +kernel) (by decide +kernel) (by decide +kernel) (by decide +kernel) (by decide +kernel) rfl rfl
theorem cvL_innerAnew : CVs RL 84 mX10_innerAnew 11 := CVs.of 1434 1435 1436 (by decide +kernel) (by decide +kernel) (by decide +kernel) _ rfl rfl
set_option maxRecDepth 100000 in
theorem wc_innerAnew {l : Launch} {G : Gt} (hG : Gok2 l G) {b o : Nat} {x1 : Int32} {μ μ1 : Mm} {r : Int32 ⊕ String} (hk : mK μ b = 111) (ho : mK μ1 o = 63) (hl : mL μ1 o = 1) (h : f_X10_innerAnew b x1 μ = some (r, μ1)) (hE : ∀ E, r = .inr E → E ∈ [exIAE]) :
    Met l mL_innerAnew.y (mL_innerAnew.wsH hL_innerAnew) (mL_innerAnew.rm (mN μ1 - mN μ) (mS μ1 - mS μ)) (PcE G [.ref b, .int x1, .ref o] μ) (QW G (WP1 Int32.toInt64 [exIAE] o μ μ1 r)) (mN μ1 - mN μ) (mS μ1 - mS μ) (FREE G) := by
  have hz := s_X10_innerAnew hG.1 _ _ _ _ _ h
  refine wx_met mw_innerAnew rfl (Nat.le_of_ble_eq_true rfl) fun p e R s m args below meth c C ht => ?_
  refine lj_aload_n C dL_innerAnew_0 rfl (q := 2) rfl ?_
  refine lj_iconst (v := 0) C dL_innerAnew_1 iv_iconst_0 ?_
  refine lj_aload_n C dL_innerAnew_2 rfl (q := 0) rfl ?_
  refine lj_iload_n C dL_innerAnew_3 rfl (q := 1) rfl ?_
  refine lj_callVx (As := [.int x1]) (c2 := 0) (s2 := 0) C ht hG.1 mf_X10_innerAnew cvL_innerAnew hk ⟨by decide, by decide⟩ rfl rfl (Nat.le_of_ble_eq_true rfl) hz (Nat.le_of_ble_eq_true rfl) dL_innerAnew_4 (by have := hz.1.1; omega) (by have := hz.1.2; omega) (fun v hv => ?_) (fun E hE2 => ?_)
  · rcases r with w | E
    · cases hv
      refine lj_i2l C dL_innerAnew_7 ?_
      refine lj_lastore C hG.1 ho (by decide) rfl (vin1 hl) dL_innerAnew_8 ?_
      refine lj_goto (tgt := 15) C dL_innerAnew_9 (by decide) ?_
      refine lj_iconst (v := 0) C dL_innerAnew_15 iv_iconst_0 ?_
      exact lj_wret C dL_innerAnew_16 rfl (Or.inl ⟨w, rfl, rfl, by rw [z0c]⟩)
    · cases hv
  · rcases r with w | E2
    · cases hE2
    · cases hE2
      have hm := hE _ rfl
      simp only [List.mem_cons, List.not_mem_nil, or_false] at hm
      subst hm
      refine ⟨12, CT.hd (by decide) (by decide) clexIAE ccexIAE rfl, fun N q hN => ?_⟩
      refine lj_astore_n C dL_innerAnew_12 rfl (by decide) rfl ?_
      refine lj_iconst (v := 1) C dL_innerAnew_13 (by decide) ?_
      exact lj_wret C dL_innerAnew_14 rfl (Or.inr ⟨_, 0, N, rfl, rfl, rfl, hN, rfl⟩)
theorem dL_stateOf_0 : decode cL_stateOf 0 = .ok (.aload_n 2, 1) := by decide +kernel
theorem dL_stateOf_1 : decode cL_stateOf 1 = .ok (.iconst 0, 1) := by decide +kernel
theorem dL_stateOf_2 : decode cL_stateOf 2 = .ok (.aload_n 0, 1) := by decide +kernel
theorem dL_stateOf_3 : decode cL_stateOf 3 = .ok (.iload_n 1, 1) := by decide +kernel
theorem dL_stateOf_4 : decode cL_stateOf 4 = .ok (.invokevirtual 87, 3) := by decide +kernel
theorem dL_stateOf_7 : decode cL_stateOf 7 = .ok (.i2l, 1) := by decide +kernel
theorem dL_stateOf_8 : decode cL_stateOf 8 = .ok (.lastore, 1) := by decide +kernel
theorem dL_stateOf_9 : decode cL_stateOf 9 = .ok (.goto 6, 3) := by decide +kernel
theorem dL_stateOf_12 : decode cL_stateOf 12 = .ok (.astore_n 3, 1) := by decide +kernel
theorem dL_stateOf_13 : decode cL_stateOf 13 = .ok (.iconst 1, 1) := by decide +kernel
theorem dL_stateOf_14 : decode cL_stateOf 14 = .ok (.ireturn, 1) := by decide +kernel
theorem dL_stateOf_15 : decode cL_stateOf 15 = .ok (.iconst 0, 1) := by decide +kernel
theorem dL_stateOf_16 : decode cL_stateOf 16 = .ok (.ireturn, 1) := by decide +kernel
def mL_stateOf : MD := (cL_stateOf, RL, yL_stateOf, 4, some .int, 7, 111)
abbrev hL_stateOf : List (Nat × Nat × Nat × Nat) := [(0, 9, 12, 49)]
theorem mw_stateOf : MW mL_stateOf hL_stateOf 3 := MW.of 1444 77 (by decide +kernel) (by decide +kernel) (by decide +kernel) (by decide +kernel) (by decide +kernel) rfl rfl
theorem cvL_stateOf : CVs RL 87 mX10_stateOf 11 := CVs.of 1445 1446 1447 (by decide +kernel) (by decide +kernel) (by decide +kernel) _ rfl rfl
set_option maxRecDepth 100000 in
theorem wc_stateOf {l : Launch} {G : Gt} (hG : Gok2 l G) {b o : Nat} {x1 : Int32} {μ μ1 : Mm} {r : Int32 ⊕ String} (hk : mK μ b = 111) (ho : mK μ1 o = 63) (hl : mL μ1 o = 1) (h : f_X10_stateOf b x1 μ = some (r, μ1)) (hE : ∀ E, r = .inr E → E ∈ [exIOB]) :
    Met l mL_stateOf.y (mL_stateOf.wsH hL_stateOf) (mL_stateOf.rm (mN μ1 - mN μ) (mS μ1 - mS μ)) (PcE G [.ref b, .int x1, .ref o] μ) (QW G (WP1 Int32.toInt64 [exIOB] o μ μ1 r)) (mN μ1 - mN μ) (mS μ1 - mS μ) (FREE G) := by
  have hz := s_X10_stateOf hG.1 _ _ _ _ _ h
  refine wx_met mw_stateOf rfl (Nat.le_of_ble_eq_true rfl) fun p e R s m args below meth c C ht => ?_
  refine lj_aload_n C dL_stateOf_0 rfl (q := 2) rfl ?_
  refine lj_iconst (v := 0) C dL_stateOf_1 iv_iconst_0 ?_
  refine lj_aload_n C dL_stateOf_2 rfl (q := 0) rfl ?_
  refine lj_iload_n C dL_stateOf_3 rfl (q := 1) rfl ?_
  refine lj_callVx (As := [.int x1]) (c2 := 0) (s2 := 0) C ht hG.1 mf_X10_stateOf cvL_stateOf hk ⟨by decide, by decide⟩ rfl rfl (Nat.le_of_ble_eq_true rfl) hz (Nat.le_of_ble_eq_true rfl) dL_stateOf_4 (by have := hz.1.1; omega) (by have := hz.1.2; omega) (fun v hv => ?_) (fun E hE2 => ?_)
  · rcases r with w | E
    · cases hv
      refine lj_i2l C dL_stateOf_7 ?_
      refine lj_lastore C hG.1 ho (by decide) rfl (vin1 hl) dL_stateOf_8 ?_
      refine lj_goto (tgt := 15) C dL_stateOf_9 (by decide) ?_
      refine lj_iconst (v := 0) C dL_stateOf_15 iv_iconst_0 ?_
      exact lj_wret C dL_stateOf_16 rfl (Or.inl ⟨w, rfl, rfl, by rw [z0c]⟩)
    · cases hv
  · rcases r with w | E2
    · cases hE2
    · cases hE2
      have hm := hE _ rfl
      simp only [List.mem_cons, List.not_mem_nil, or_false] at hm
      subst hm
      refine ⟨12, CT.hd (by decide) (by decide) clexIOB ccexIOB rfl, fun N q hN => ?_⟩
      refine lj_astore_n C dL_stateOf_12 rfl (by decide) rfl ?_
      refine lj_iconst (v := 1) C dL_stateOf_13 (by decide) ?_
      exact lj_wret C dL_stateOf_14 rfl (Or.inr ⟨_, 0, N, rfl, rfl, rfl, hN, rfl⟩)
theorem dL_isReady_0 : decode cL_isReady 0 = .ok (.aload_n 2, 1) := by decide +kernel
theorem dL_isReady_1 : decode cL_isReady 1 = .ok (.iconst 0, 1) := by decide +kernel
theorem dL_isReady_2 : decode cL_isReady 2 = .ok (.aload_n 0, 1) := by decide +kernel
theorem dL_isReady_3 : decode cL_isReady 3 = .ok (.iload_n 1, 1) := by decide +kernel
theorem dL_isReady_4 : decode cL_isReady 4 = .ok (.invokevirtual 91, 3) := by decide +kernel
theorem dL_isReady_7 : decode cL_isReady 7 = .ok (.ifCond .eq 7, 3) := by decide +kernel
theorem dL_isReady_10 : decode cL_isReady 10 = .ok (.lconst 1, 1) := by decide +kernel
theorem dL_isReady_11 : decode cL_isReady 11 = .ok (.goto 4, 3) := by decide +kernel
theorem dL_isReady_14 : decode cL_isReady 14 = .ok (.lconst 0, 1) := by decide +kernel
theorem dL_isReady_15 : decode cL_isReady 15 = .ok (.lastore, 1) := by decide +kernel
theorem dL_isReady_16 : decode cL_isReady 16 = .ok (.goto 6, 3) := by decide +kernel
theorem dL_isReady_19 : decode cL_isReady 19 = .ok (.astore_n 3, 1) := by decide +kernel
theorem dL_isReady_20 : decode cL_isReady 20 = .ok (.iconst 1, 1) := by decide +kernel
theorem dL_isReady_21 : decode cL_isReady 21 = .ok (.ireturn, 1) := by decide +kernel
theorem dL_isReady_22 : decode cL_isReady 22 = .ok (.iconst 0, 1) := by decide +kernel
theorem dL_isReady_23 : decode cL_isReady 23 = .ok (.ireturn, 1) := by decide +kernel
def mL_isReady : MD := (cL_isReady, RL, yL_isReady, 4, some .int, 7, 111)
abbrev hL_isReady : List (Nat × Nat × Nat × Nat) := [(0, 16, 19, 49)]
theorem mw_isReady : MW mL_isReady hL_isReady 3 := MW.of 1456 77 (by decide +kernel) (by decide +kernel) (by decide +kernel) (by decide +kernel) (by decide +kernel) rfl rfl
theorem cvL_isReady : CVs RL 91 mX10_isReady 11 := CVs.of 1457 1458 1459 (by decide +kernel) (by decide +kernel) (by decide +kernel) _ rfl rfl
set_option maxRecDepth 100000 in
theorem wc_isReady {l : Launch} {G : Gt} (hG : Gok2 l G) {b o : Nat} {x1 : Int32} {μ μ1 : Mm} {r : Int32 ⊕ String} (hk : mK μ b = 111) (ho : mK μ1 o = 63) (hl : mL μ1 o = 1) (h : f_X10_isReady b x1 μ = some (r, μ1)) (hE : ∀ E, r = .inr E → E ∈ [exIOB]) :
    Met l mL_isReady.y (mL_isReady.wsH hL_isReady) (mL_isReady.rm (mN μ1 - mN μ) (mS μ1 - mS μ)) (PcE G [.ref b, .int x1, .ref o] μ) (QW G (WP1 blJ [exIOB] o μ μ1 r)) (mN μ1 - mN μ) (mS μ1 - mS μ) (FREE G) := by
  have hz := s_X10_isReady hG.1 _ _ _ _ _ h
  refine wx_met mw_isReady rfl (Nat.le_of_ble_eq_true rfl) fun p e R s m args below meth c C ht => ?_
  refine lj_aload_n C dL_isReady_0 rfl (q := 2) rfl ?_
  refine lj_iconst (v := 0) C dL_isReady_1 iv_iconst_0 ?_
  refine lj_aload_n C dL_isReady_2 rfl (q := 0) rfl ?_
  refine lj_iload_n C dL_isReady_3 rfl (q := 1) rfl ?_
  refine lj_callVx (As := [.int x1]) (c2 := 0) (s2 := 0) C ht hG.1 mf_X10_isReady cvL_isReady hk ⟨by decide, by decide⟩ rfl rfl (Nat.le_of_ble_eq_true rfl) hz (Nat.le_of_ble_eq_true rfl) dL_isReady_4 (by have := hz.1.1; omega) (by have := hz.1.2; omega) (fun v hv => ?_) (fun E hE2 => ?_)
  · rcases r with w | E
    · cases hv
      by_cases hw : w = 0
      · refine lj_if_eq_t (tgt := 14) C dL_isReady_7 (by decide) hw ?_
        refine lj_lconst (v := 0) C dL_isReady_14 rfl ?_
        refine lj_lastore C hG.1 ho (by decide) rfl (vin1 hl) dL_isReady_15 ?_
        refine lj_goto (tgt := 22) C dL_isReady_16 (by decide) ?_
        refine lj_iconst (v := 0) C dL_isReady_22 iv_iconst_0 ?_
        exact lj_wret C dL_isReady_23 rfl (Or.inl ⟨w, rfl, rfl, by rw [z0c]; show sJ μ1 o 0 0 = sJ μ1 o 0 (if w = 0 then 0 else 1); rw [if_pos hw]⟩)
      · refine lj_if_eq_f (tgt := 14) C dL_isReady_7 (by decide) hw ?_
        refine lj_lconst (v := 1) C dL_isReady_10 rfl ?_
        refine lj_goto (tgt := 15) C dL_isReady_11 (by decide) ?_
        refine lj_lastore C hG.1 ho (by decide) rfl (vin1 hl) dL_isReady_15 ?_
        refine lj_goto (tgt := 22) C dL_isReady_16 (by decide) ?_
        refine lj_iconst (v := 0) C dL_isReady_22 iv_iconst_0 ?_
        exact lj_wret C dL_isReady_23 rfl (Or.inl ⟨w, rfl, rfl, by rw [z0c]; show sJ μ1 o 0 1 = sJ μ1 o 0 (if w = 0 then 0 else 1); rw [if_neg hw]⟩)
    · cases hv
  · rcases r with w | E2
    · cases hE2
    · cases hE2
      have hm := hE _ rfl
      simp only [List.mem_cons, List.not_mem_nil, or_false] at hm
      subst hm
      refine ⟨19, CT.hd (by decide) (by decide) clexIOB ccexIOB rfl, fun N q hN => ?_⟩
      refine lj_astore_n C dL_isReady_19 rfl (by decide) rfl ?_
      refine lj_iconst (v := 1) C dL_isReady_20 (by decide) ?_
      exact lj_wret C dL_isReady_21 rfl (Or.inr ⟨_, 0, N, rfl, rfl, rfl, hN, rfl⟩)
theorem dL_freeAt_0 : decode cL_freeAt 0 = .ok (.aload_n 2, 1) := by decide +kernel
theorem dL_freeAt_1 : decode cL_freeAt 1 = .ok (.iconst 0, 1) := by decide +kernel
theorem dL_freeAt_2 : decode cL_freeAt 2 = .ok (.aload_n 0, 1) := by decide +kernel
theorem dL_freeAt_3 : decode cL_freeAt 3 = .ok (.iload_n 1, 1) := by decide +kernel
theorem dL_freeAt_4 : decode cL_freeAt 4 = .ok (.invokevirtual 95, 3) := by decide +kernel
theorem dL_freeAt_7 : decode cL_freeAt 7 = .ok (.i2l, 1) := by decide +kernel
theorem dL_freeAt_8 : decode cL_freeAt 8 = .ok (.lastore, 1) := by decide +kernel
theorem dL_freeAt_9 : decode cL_freeAt 9 = .ok (.goto 6, 3) := by decide +kernel
theorem dL_freeAt_12 : decode cL_freeAt 12 = .ok (.astore_n 3, 1) := by decide +kernel
theorem dL_freeAt_13 : decode cL_freeAt 13 = .ok (.iconst 1, 1) := by decide +kernel
theorem dL_freeAt_14 : decode cL_freeAt 14 = .ok (.ireturn, 1) := by decide +kernel
theorem dL_freeAt_15 : decode cL_freeAt 15 = .ok (.iconst 0, 1) := by decide +kernel
theorem dL_freeAt_16 : decode cL_freeAt 16 = .ok (.ireturn, 1) := by decide +kernel
def mL_freeAt : MD := (cL_freeAt, RL, yL_freeAt, 4, some .int, 7, 111)
abbrev hL_freeAt : List (Nat × Nat × Nat × Nat) := [(0, 9, 12, 49)]
theorem mw_freeAt : MW mL_freeAt hL_freeAt 3 := MW.of 1464 77 (by decide +kernel) (by decide +kernel) (by decide +kernel) (by decide +kernel) (by decide +kernel) rfl rfl
theorem cvL_freeAt : CVs RL 95 mX10_freeAt 11 := CVs.of 1465 1466 1467 (by decide +kernel) (by decide +kernel) (by decide +kernel) _ rfl rfl
set_option maxRecDepth 100000 in
theorem wc_freeAt {l : Launch} {G : Gt} (hG : Gok2 l G) {b o : Nat} {x1 : Int32} {μ μ1 : Mm} {r : Int32 ⊕ String} (hk : mK μ b = 111) (ho : mK μ1 o = 63) (hl : mL μ1 o = 1) (h : f_X10_freeAt b x1 μ = some (r, μ1)) (hE : ∀ E, r = .inr E → E ∈ [exIOB]) :
    Met l mL_freeAt.y (mL_freeAt.wsH hL_freeAt) (mL_freeAt.rm (mN μ1 - mN μ) (mS μ1 - mS μ)) (PcE G [.ref b, .int x1, .ref o] μ) (QW G (WP1 Int32.toInt64 [exIOB] o μ μ1 r)) (mN μ1 - mN μ) (mS μ1 - mS μ) (FREE G) := by
  have hz := s_X10_freeAt hG.1 _ _ _ _ _ h
  refine wx_met mw_freeAt rfl (Nat.le_of_ble_eq_true rfl) fun p e R s m args below meth c C ht => ?_
  refine lj_aload_n C dL_freeAt_0 rfl (q := 2) rfl ?_
  refine lj_iconst (v := 0) C dL_freeAt_1 iv_iconst_0 ?_
  refine lj_aload_n C dL_freeAt_2 rfl (q := 0) rfl ?_
  refine lj_iload_n C dL_freeAt_3 rfl (q := 1) rfl ?_
  refine lj_callVx (As := [.int x1]) (c2 := 0) (s2 := 0) C ht hG.1 mf_X10_freeAt cvL_freeAt hk ⟨by decide, by decide⟩ rfl rfl (Nat.le_of_ble_eq_true rfl) hz (Nat.le_of_ble_eq_true rfl) dL_freeAt_4 (by have := hz.1.1; omega) (by have := hz.1.2; omega) (fun v hv => ?_) (fun E hE2 => ?_)
  · rcases r with w | E
    · cases hv
      refine lj_i2l C dL_freeAt_7 ?_
      refine lj_lastore C hG.1 ho (by decide) rfl (vin1 hl) dL_freeAt_8 ?_
      refine lj_goto (tgt := 15) C dL_freeAt_9 (by decide) ?_
      refine lj_iconst (v := 0) C dL_freeAt_15 iv_iconst_0 ?_
      exact lj_wret C dL_freeAt_16 rfl (Or.inl ⟨w, rfl, rfl, by rw [z0c]⟩)
    · cases hv
  · rcases r with w | E2
    · cases hE2
    · cases hE2
      have hm := hE _ rfl
      simp only [List.mem_cons, List.not_mem_nil, or_false] at hm
      subst hm
      refine ⟨12, CT.hd (by decide) (by decide) clexIOB ccexIOB rfl, fun N q hN => ?_⟩
      refine lj_astore_n C dL_freeAt_12 rfl (by decide) rfl ?_
      refine lj_iconst (v := 1) C dL_freeAt_13 (by decide) ?_
      exact lj_wret C dL_freeAt_14 rfl (Or.inr ⟨_, 0, N, rfl, rfl, rfl, hN, rfl⟩)
theorem dL_bufferAt_0 : decode cL_bufferAt 0 = .ok (.aload_n 2, 1) := by decide +kernel
theorem dL_bufferAt_1 : decode cL_bufferAt 1 = .ok (.iconst 0, 1) := by decide +kernel
theorem dL_bufferAt_2 : decode cL_bufferAt 2 = .ok (.aload_n 0, 1) := by decide +kernel
theorem dL_bufferAt_3 : decode cL_bufferAt 3 = .ok (.iload_n 1, 1) := by decide +kernel
theorem dL_bufferAt_4 : decode cL_bufferAt 4 = .ok (.invokevirtual 98, 3) := by decide +kernel
theorem dL_bufferAt_7 : decode cL_bufferAt 7 = .ok (.i2l, 1) := by decide +kernel
theorem dL_bufferAt_8 : decode cL_bufferAt 8 = .ok (.lastore, 1) := by decide +kernel
theorem dL_bufferAt_9 : decode cL_bufferAt 9 = .ok (.goto 6, 3) := by decide +kernel
theorem dL_bufferAt_12 : decode cL_bufferAt 12 = .ok (.astore_n 3, 1) := by decide +kernel
theorem dL_bufferAt_13 : decode cL_bufferAt 13 = .ok (.iconst 1, 1) := by decide +kernel
theorem dL_bufferAt_14 : decode cL_bufferAt 14 = .ok (.ireturn, 1) := by decide +kernel
theorem dL_bufferAt_15 : decode cL_bufferAt 15 = .ok (.iconst 0, 1) := by decide +kernel
theorem dL_bufferAt_16 : decode cL_bufferAt 16 = .ok (.ireturn, 1) := by decide +kernel
def mL_bufferAt : MD := (cL_bufferAt, RL, yL_bufferAt, 4, some .int, 7, 111)
abbrev hL_bufferAt : List (Nat × Nat × Nat × Nat) := [(0, 9, 12, 49)]
theorem mw_bufferAt : MW mL_bufferAt hL_bufferAt 3 := MW.of 1471 77 (by decide +kernel) (by decide +kernel) (by decide +kernel) (by decide +kernel) (by decide +kernel) rfl rfl
theorem cvL_bufferAt : CVs RL 98 mX10_bufferAt 11 := CVs.of 1472 1473 1474 (by decide +kernel) (by decide +kernel) (by decide +kernel) _ rfl rfl
set_option maxRecDepth 100000 in
theorem wc_bufferAt {l : Launch} {G : Gt} (hG : Gok2 l G) {b o : Nat} {x1 : Int32} {μ μ1 : Mm} {r : Int32 ⊕ String} (hk : mK μ b = 111) (ho : mK μ1 o = 63) (hl : mL μ1 o = 1) (h : f_X10_bufferAt b x1 μ = some (r, μ1)) (hE : ∀ E, r = .inr E → E ∈ [exIOB]) :
    Met l mL_bufferAt.y (mL_bufferAt.wsH hL_bufferAt) (mL_bufferAt.rm (mN μ1 - mN μ) (mS μ1 - mS μ)) (PcE G [.ref b, .int x1, .ref o] μ) (QW G (WP1 Int32.toInt64 [exIOB] o μ μ1 r)) (mN μ1 - mN μ) (mS μ1 - mS μ) (FREE G) := by
  have hz := s_X10_bufferAt hG.1 _ _ _ _ _ h
  refine wx_met mw_bufferAt rfl (Nat.le_of_ble_eq_true rfl) fun p e R s m args below meth c C ht => ?_
  refine lj_aload_n C dL_bufferAt_0 rfl (q := 2) rfl ?_
  refine lj_iconst (v := 0) C dL_bufferAt_1 iv_iconst_0 ?_
  refine lj_aload_n C dL_bufferAt_2 rfl (q := 0) rfl ?_
  refine lj_iload_n C dL_bufferAt_3 rfl (q := 1) rfl ?_
  refine lj_callVx (As := [.int x1]) (c2 := 0) (s2 := 0) C ht hG.1 mf_X10_bufferAt cvL_bufferAt hk ⟨by decide, by decide⟩ rfl rfl (Nat.le_of_ble_eq_true rfl) hz (Nat.le_of_ble_eq_true rfl) dL_bufferAt_4 (by have := hz.1.1; omega) (by have := hz.1.2; omega) (fun v hv => ?_) (fun E hE2 => ?_)
  · rcases r with w | E
    · cases hv
      refine lj_i2l C dL_bufferAt_7 ?_
      refine lj_lastore C hG.1 ho (by decide) rfl (vin1 hl) dL_bufferAt_8 ?_
      refine lj_goto (tgt := 15) C dL_bufferAt_9 (by decide) ?_
      refine lj_iconst (v := 0) C dL_bufferAt_15 iv_iconst_0 ?_
      exact lj_wret C dL_bufferAt_16 rfl (Or.inl ⟨w, rfl, rfl, by rw [z0c]⟩)
    · cases hv
  · rcases r with w | E2
    · cases hE2
    · cases hE2
      have hm := hE _ rfl
      simp only [List.mem_cons, List.not_mem_nil, or_false] at hm
      subst hm
      refine ⟨12, CT.hd (by decide) (by decide) clexIOB ccexIOB rfl, fun N q hN => ?_⟩
      refine lj_astore_n C dL_bufferAt_12 rfl (by decide) rfl ?_
      refine lj_iconst (v := 1) C dL_bufferAt_13 (by decide) ?_
      exact lj_wret C dL_bufferAt_14 rfl (Or.inr ⟨_, 0, N, rfl, rfl, rfl, hN, rfl⟩)
theorem dL_stageAt_0 : decode cL_stageAt 0 = .ok (.aload_n 2, 1) := by decide +kernel
theorem dL_stageAt_1 : decode cL_stageAt 1 = .ok (.iconst 0, 1) := by decide +kernel
theorem dL_stageAt_2 : decode cL_stageAt 2 = .ok (.aload_n 0, 1) := by decide +kernel
theorem dL_stageAt_3 : decode cL_stageAt 3 = .ok (.iload_n 1, 1) := by decide +kernel
theorem dL_stageAt_4 : decode cL_stageAt 4 = .ok (.invokevirtual 101, 3) := by decide +kernel
theorem dL_stageAt_7 : decode cL_stageAt 7 = .ok (.i2l, 1) := by decide +kernel
theorem dL_stageAt_8 : decode cL_stageAt 8 = .ok (.lastore, 1) := by decide +kernel
theorem dL_stageAt_9 : decode cL_stageAt 9 = .ok (.goto 6, 3) := by decide +kernel
theorem dL_stageAt_12 : decode cL_stageAt 12 = .ok (.astore_n 3, 1) := by decide +kernel
theorem dL_stageAt_13 : decode cL_stageAt 13 = .ok (.iconst 1, 1) := by decide +kernel
theorem dL_stageAt_14 : decode cL_stageAt 14 = .ok (.ireturn, 1) := by decide +kernel
theorem dL_stageAt_15 : decode cL_stageAt 15 = .ok (.iconst 0, 1) := by decide +kernel
theorem dL_stageAt_16 : decode cL_stageAt 16 = .ok (.ireturn, 1) := by decide +kernel
def mL_stageAt : MD := (cL_stageAt, RL, yL_stageAt, 4, some .int, 7, 111)
abbrev hL_stageAt : List (Nat × Nat × Nat × Nat) := [(0, 9, 12, 49)]
theorem mw_stageAt : MW mL_stageAt hL_stageAt 3 := MW.of 1479 77 (by decide +kernel) (by decide +kernel) (by decide +kernel) (by decide +kernel) (by decide +kernel) rfl rfl
theorem cvL_stageAt : CVs RL 101 mX10_stageAt 11 := CVs.of 1480 1481 1482 (by decide +kernel) (by decide +kernel) (by decide +kernel) _ rfl rfl
set_option maxRecDepth 100000 in
theorem wc_stageAt {l : Launch} {G : Gt} (hG : Gok2 l G) {b o : Nat} {x1 : Int32} {μ μ1 : Mm} {r : Int32 ⊕ String} (hk : mK μ b = 111) (ho : mK μ1 o = 63) (hl : mL μ1 o = 1) (h : f_X10_stageAt b x1 μ = some (r, μ1)) (hE : ∀ E, r = .inr E → E ∈ [exIOB]) :
    Met l mL_stageAt.y (mL_stageAt.wsH hL_stageAt) (mL_stageAt.rm (mN μ1 - mN μ) (mS μ1 - mS μ)) (PcE G [.ref b, .int x1, .ref o] μ) (QW G (WP1 Int32.toInt64 [exIOB] o μ μ1 r)) (mN μ1 - mN μ) (mS μ1 - mS μ) (FREE G) := by
  have hz := s_X10_stageAt hG.1 _ _ _ _ _ h
  refine wx_met mw_stageAt rfl (Nat.le_of_ble_eq_true rfl) fun p e R s m args below meth c C ht => ?_
  refine lj_aload_n C dL_stageAt_0 rfl (q := 2) rfl ?_
  refine lj_iconst (v := 0) C dL_stageAt_1 iv_iconst_0 ?_
  refine lj_aload_n C dL_stageAt_2 rfl (q := 0) rfl ?_
  refine lj_iload_n C dL_stageAt_3 rfl (q := 1) rfl ?_
  refine lj_callVx (As := [.int x1]) (c2 := 0) (s2 := 0) C ht hG.1 mf_X10_stageAt cvL_stageAt hk ⟨by decide, by decide⟩ rfl rfl (Nat.le_of_ble_eq_true rfl) hz (Nat.le_of_ble_eq_true rfl) dL_stageAt_4 (by have := hz.1.1; omega) (by have := hz.1.2; omega) (fun v hv => ?_) (fun E hE2 => ?_)
  · rcases r with w | E
    · cases hv
      refine lj_i2l C dL_stageAt_7 ?_
      refine lj_lastore C hG.1 ho (by decide) rfl (vin1 hl) dL_stageAt_8 ?_
      refine lj_goto (tgt := 15) C dL_stageAt_9 (by decide) ?_
      refine lj_iconst (v := 0) C dL_stageAt_15 iv_iconst_0 ?_
      exact lj_wret C dL_stageAt_16 rfl (Or.inl ⟨w, rfl, rfl, by rw [z0c]⟩)
    · cases hv
  · rcases r with w | E2
    · cases hE2
    · cases hE2
      have hm := hE _ rfl
      simp only [List.mem_cons, List.not_mem_nil, or_false] at hm
      subst hm
      refine ⟨12, CT.hd (by decide) (by decide) clexIOB ccexIOB rfl, fun N q hN => ?_⟩
      refine lj_astore_n C dL_stageAt_12 rfl (by decide) rfl ?_
      refine lj_iconst (v := 1) C dL_stageAt_13 (by decide) ?_
      exact lj_wret C dL_stageAt_14 rfl (Or.inr ⟨_, 0, N, rfl, rfl, rfl, hN, rfl⟩)
theorem dL_fetching_0 : decode cL_fetching 0 = .ok (.aload_n 1, 1) := by decide +kernel
theorem dL_fetching_1 : decode cL_fetching 1 = .ok (.iconst 0, 1) := by decide +kernel
theorem dL_fetching_2 : decode cL_fetching 2 = .ok (.aload_n 0, 1) := by decide +kernel
theorem dL_fetching_3 : decode cL_fetching 3 = .ok (.invokevirtual 104, 3) := by decide +kernel
theorem dL_fetching_6 : decode cL_fetching 6 = .ok (.i2l, 1) := by decide +kernel
theorem dL_fetching_7 : decode cL_fetching 7 = .ok (.lastore, 1) := by decide +kernel
theorem dL_fetching_8 : decode cL_fetching 8 = .ok (.goto 6, 3) := by decide +kernel
theorem dL_fetching_11 : decode cL_fetching 11 = .ok (.astore_n 2, 1) := by decide +kernel
theorem dL_fetching_12 : decode cL_fetching 12 = .ok (.iconst 1, 1) := by decide +kernel
theorem dL_fetching_13 : decode cL_fetching 13 = .ok (.ireturn, 1) := by decide +kernel
theorem dL_fetching_14 : decode cL_fetching 14 = .ok (.iconst 0, 1) := by decide +kernel
theorem dL_fetching_15 : decode cL_fetching 15 = .ok (.ireturn, 1) := by decide +kernel
def mL_fetching : MD := (cL_fetching, RL, yL_fetching, 3, some .int, 7, 110)
abbrev hL_fetching : List (Nat × Nat × Nat × Nat) := [(0, 8, 11, 76)]
theorem mw_fetching : MW mL_fetching hL_fetching 2 := MW.of 1486 77 (by decide +kernel) (by decide +kernel) (by decide +kernel) (by decide +kernel) (by decide +kernel) rfl rfl
theorem cvL_fetching : CVs RL 104 mX10_fetching 11 := CVs.of 1487 1488 1489 (by decide +kernel) (by decide +kernel) (by decide +kernel) _ rfl rfl
set_option maxRecDepth 100000 in
theorem wc_fetching {l : Launch} {G : Gt} (hG : Gok2 l G) {b o : Nat} {μ μ1 : Mm} {r : Int32 ⊕ String} (hk : mK μ b = 111) (ho : mK μ1 o = 63) (hl : mL μ1 o = 1) (h : f_X10_fetching b μ = some (r, μ1)) (hE : ∀ E, r = .inr E → E ∈ [exNSE]) :
    Met l mL_fetching.y (mL_fetching.wsH hL_fetching) (mL_fetching.rm (mN μ1 - mN μ) (mS μ1 - mS μ)) (PcE G [.ref b, .ref o] μ) (QW G (WP1 Int32.toInt64 [exNSE] o μ μ1 r)) (mN μ1 - mN μ) (mS μ1 - mS μ) (FREE G) := by
  have hz := s_X10_fetching hG.1 _ _ _ _ h
  refine wx_met mw_fetching rfl (Nat.le_of_ble_eq_true rfl) fun p e R s m args below meth c C ht => ?_
  refine lj_aload_n C dL_fetching_0 rfl (q := 1) rfl ?_
  refine lj_iconst (v := 0) C dL_fetching_1 iv_iconst_0 ?_
  refine lj_aload_n C dL_fetching_2 rfl (q := 0) rfl ?_
  refine lj_callVx (As := []) (c2 := 0) (s2 := 0) C ht hG.1 mf_X10_fetching cvL_fetching hk ⟨by decide, by decide⟩ rfl rfl (Nat.le_of_ble_eq_true rfl) hz (Nat.le_of_ble_eq_true rfl) dL_fetching_3 (by have := hz.1.1; omega) (by have := hz.1.2; omega) (fun v hv => ?_) (fun E hE2 => ?_)
  · rcases r with w | E
    · cases hv
      refine lj_i2l C dL_fetching_6 ?_
      refine lj_lastore C hG.1 ho (by decide) rfl (vin1 hl) dL_fetching_7 ?_
      refine lj_goto (tgt := 14) C dL_fetching_8 (by decide) ?_
      refine lj_iconst (v := 0) C dL_fetching_14 iv_iconst_0 ?_
      exact lj_wret C dL_fetching_15 rfl (Or.inl ⟨w, rfl, rfl, by rw [z0c]⟩)
    · cases hv
  · rcases r with w | E2
    · cases hE2
    · cases hE2
      have hm := hE _ rfl
      simp only [List.mem_cons, List.not_mem_nil, or_false] at hm
      subst hm
      refine ⟨11, CT.hd (by decide) (by decide) clexNSE ccexNSE rfl, fun N q hN => ?_⟩
      refine lj_astore_n C dL_fetching_11 rfl (by decide) rfl ?_
      refine lj_iconst (v := 1) C dL_fetching_12 (by decide) ?_
      exact lj_wret C dL_fetching_13 rfl (Or.inr ⟨_, 0, N, rfl, rfl, rfl, hN, rfl⟩)
theorem dL_returnAt_0 : decode cL_returnAt 0 = .ok (.aload_n 2, 1) := by decide +kernel
theorem dL_returnAt_1 : decode cL_returnAt 1 = .ok (.iconst 0, 1) := by decide +kernel
theorem dL_returnAt_2 : decode cL_returnAt 2 = .ok (.aload_n 0, 1) := by decide +kernel
theorem dL_returnAt_3 : decode cL_returnAt 3 = .ok (.iload_n 1, 1) := by decide +kernel
theorem dL_returnAt_4 : decode cL_returnAt 4 = .ok (.invokevirtual 107, 3) := by decide +kernel
theorem dL_returnAt_7 : decode cL_returnAt 7 = .ok (.i2l, 1) := by decide +kernel
theorem dL_returnAt_8 : decode cL_returnAt 8 = .ok (.lastore, 1) := by decide +kernel
theorem dL_returnAt_9 : decode cL_returnAt 9 = .ok (.goto 6, 3) := by decide +kernel
theorem dL_returnAt_12 : decode cL_returnAt 12 = .ok (.astore_n 3, 1) := by decide +kernel
theorem dL_returnAt_13 : decode cL_returnAt 13 = .ok (.iconst 1, 1) := by decide +kernel
theorem dL_returnAt_14 : decode cL_returnAt 14 = .ok (.ireturn, 1) := by decide +kernel
theorem dL_returnAt_15 : decode cL_returnAt 15 = .ok (.iconst 0, 1) := by decide +kernel
theorem dL_returnAt_16 : decode cL_returnAt 16 = .ok (.ireturn, 1) := by decide +kernel
def mL_returnAt : MD := (cL_returnAt, RL, yL_returnAt, 4, some .int, 7, 112)
abbrev hL_returnAt : List (Nat × Nat × Nat × Nat) := [(0, 9, 12, 49)]
theorem mw_returnAt : MW mL_returnAt hL_returnAt 3 := MW.of 1493 77 (by decide +kernel) (by decide +kernel) (by decide +kernel) (by decide +kernel) (by decide +kernel) rfl rfl
theorem cvL_returnAt : CVs RL 107 mX10_returnAt 11 := CVs.of 1494 1495 1496 (by decide +kernel) (by decide +kernel) (by decide +kernel) _ rfl rfl
set_option maxRecDepth 100000 in
theorem wc_returnAt {l : Launch} {G : Gt} (hG : Gok2 l G) {b o : Nat} {x1 : Int32} {μ μ1 : Mm} {r : Int32 ⊕ String} (hk : mK μ b = 111) (ho : mK μ1 o = 63) (hl : mL μ1 o = 1) (h : f_X10_returnAt b x1 μ = some (r, μ1)) (hE : ∀ E, r = .inr E → E ∈ [exIOB]) :
    Met l mL_returnAt.y (mL_returnAt.wsH hL_returnAt) (mL_returnAt.rm (mN μ1 - mN μ) (mS μ1 - mS μ)) (PcE G [.ref b, .int x1, .ref o] μ) (QW G (WP1 Int32.toInt64 [exIOB] o μ μ1 r)) (mN μ1 - mN μ) (mS μ1 - mS μ) (FREE G) := by
  have hz := s_X10_returnAt hG.1 _ _ _ _ _ h
  refine wx_met mw_returnAt rfl (Nat.le_of_ble_eq_true rfl) fun p e R s m args below meth c C ht => ?_
  refine lj_aload_n C dL_returnAt_0 rfl (q := 2) rfl ?_
  refine lj_iconst (v := 0) C dL_returnAt_1 iv_iconst_0 ?_
  refine lj_aload_n C dL_returnAt_2 rfl (q := 0) rfl ?_
  refine lj_iload_n C dL_returnAt_3 rfl (q := 1) rfl ?_
  refine lj_callVx (As := [.int x1]) (c2 := 0) (s2 := 0) C ht hG.1 mf_X10_returnAt cvL_returnAt hk ⟨by decide, by decide⟩ rfl rfl (Nat.le_of_ble_eq_true rfl) hz (Nat.le_of_ble_eq_true rfl) dL_returnAt_4 (by have := hz.1.1; omega) (by have := hz.1.2; omega) (fun v hv => ?_) (fun E hE2 => ?_)
  · rcases r with w | E
    · cases hv
      refine lj_i2l C dL_returnAt_7 ?_
      refine lj_lastore C hG.1 ho (by decide) rfl (vin1 hl) dL_returnAt_8 ?_
      refine lj_goto (tgt := 15) C dL_returnAt_9 (by decide) ?_
      refine lj_iconst (v := 0) C dL_returnAt_15 iv_iconst_0 ?_
      exact lj_wret C dL_returnAt_16 rfl (Or.inl ⟨w, rfl, rfl, by rw [z0c]⟩)
    · cases hv
  · rcases r with w | E2
    · cases hE2
    · cases hE2
      have hm := hE _ rfl
      simp only [List.mem_cons, List.not_mem_nil, or_false] at hm
      subst hm
      refine ⟨12, CT.hd (by decide) (by decide) clexIOB ccexIOB rfl, fun N q hN => ?_⟩
      refine lj_astore_n C dL_returnAt_12 rfl (by decide) rfl ?_
      refine lj_iconst (v := 1) C dL_returnAt_13 (by decide) ?_
      exact lj_wret C dL_returnAt_14 rfl (Or.inr ⟨_, 0, N, rfl, rfl, rfl, hN, rfl⟩)
theorem dL_counter_0 : decode cL_counter 0 = .ok (.aload_n 2, 1) := by decide +kernel
theorem dL_counter_1 : decode cL_counter 1 = .ok (.iconst 0, 1) := by decide +kernel
theorem dL_counter_2 : decode cL_counter 2 = .ok (.aload_n 0, 1) := by decide +kernel
theorem dL_counter_3 : decode cL_counter 3 = .ok (.iload_n 1, 1) := by decide +kernel
theorem dL_counter_4 : decode cL_counter 4 = .ok (.invokevirtual 110, 3) := by decide +kernel
theorem dL_counter_7 : decode cL_counter 7 = .ok (.i2l, 1) := by decide +kernel
theorem dL_counter_8 : decode cL_counter 8 = .ok (.lastore, 1) := by decide +kernel
theorem dL_counter_9 : decode cL_counter 9 = .ok (.goto 6, 3) := by decide +kernel
theorem dL_counter_12 : decode cL_counter 12 = .ok (.astore_n 3, 1) := by decide +kernel
theorem dL_counter_13 : decode cL_counter 13 = .ok (.iconst 1, 1) := by decide +kernel
theorem dL_counter_14 : decode cL_counter 14 = .ok (.ireturn, 1) := by decide +kernel
theorem dL_counter_15 : decode cL_counter 15 = .ok (.iconst 0, 1) := by decide +kernel
theorem dL_counter_16 : decode cL_counter 16 = .ok (.ireturn, 1) := by decide +kernel
def mL_counter : MD := (cL_counter, RL, yL_counter, 4, some .int, 7, 111)
abbrev hL_counter : List (Nat × Nat × Nat × Nat) := [(0, 9, 12, 13)]
theorem mw_counter : MW mL_counter hL_counter 3 := MW.of 1500 77 (by decide +kernel) (by decide +kernel) (by decide +kernel) (by decide +kernel) (by decide +kernel) rfl rfl
theorem cvL_counter : CVs RL 110 mX10_counter 11 := CVs.of 1501 1502 1503 (by decide +kernel) (by decide +kernel) (by decide +kernel) _ rfl rfl
set_option maxRecDepth 100000 in
theorem wc_counter {l : Launch} {G : Gt} (hG : Gok2 l G) {b o : Nat} {x1 : Int32} {μ μ1 : Mm} {r : Int32 ⊕ String} (hk : mK μ b = 111) (ho : mK μ1 o = 63) (hl : mL μ1 o = 1) (h : f_X10_counter b x1 μ = some (r, μ1)) (hE : ∀ E, r = .inr E → E ∈ [exIAE]) :
    Met l mL_counter.y (mL_counter.wsH hL_counter) (mL_counter.rm (mN μ1 - mN μ) (mS μ1 - mS μ)) (PcE G [.ref b, .int x1, .ref o] μ) (QW G (WP1 Int32.toInt64 [exIAE] o μ μ1 r)) (mN μ1 - mN μ) (mS μ1 - mS μ) (FREE G) := by
  have hz := s_X10_counter hG.1 _ _ _ _ _ h
  refine wx_met mw_counter rfl (Nat.le_of_ble_eq_true rfl) fun p e R s m args below meth c C ht => ?_
  refine lj_aload_n C dL_counter_0 rfl (q := 2) rfl ?_
  refine lj_iconst (v := 0) C dL_counter_1 iv_iconst_0 ?_
  refine lj_aload_n C dL_counter_2 rfl (q := 0) rfl ?_
  refine lj_iload_n C dL_counter_3 rfl (q := 1) rfl ?_
  refine lj_callVx (As := [.int x1]) (c2 := 0) (s2 := 0) C ht hG.1 mf_X10_counter cvL_counter hk ⟨by decide, by decide⟩ rfl rfl (Nat.le_of_ble_eq_true rfl) hz (Nat.le_of_ble_eq_true rfl) dL_counter_4 (by have := hz.1.1; omega) (by have := hz.1.2; omega) (fun v hv => ?_) (fun E hE2 => ?_)
  · rcases r with w | E
    · cases hv
      refine lj_i2l C dL_counter_7 ?_
      refine lj_lastore C hG.1 ho (by decide) rfl (vin1 hl) dL_counter_8 ?_
      refine lj_goto (tgt := 15) C dL_counter_9 (by decide) ?_
      refine lj_iconst (v := 0) C dL_counter_15 iv_iconst_0 ?_
      exact lj_wret C dL_counter_16 rfl (Or.inl ⟨w, rfl, rfl, by rw [z0c]⟩)
    · cases hv
  · rcases r with w | E2
    · cases hE2
    · cases hE2
      have hm := hE _ rfl
      simp only [List.mem_cons, List.not_mem_nil, or_false] at hm
      subst hm
      refine ⟨12, CT.hd (by decide) (by decide) clexIAE ccexIAE rfl, fun N q hN => ?_⟩
      refine lj_astore_n C dL_counter_12 rfl (by decide) rfl ?_
      refine lj_iconst (v := 1) C dL_counter_13 (by decide) ?_
      exact lj_wret C dL_counter_14 rfl (Or.inr ⟨_, 0, N, rfl, rfl, rfl, hN, rfl⟩)
theorem dL_isMarked_0 : decode cL_isMarked 0 = .ok (.aload_n 2, 1) := by decide +kernel
theorem dL_isMarked_1 : decode cL_isMarked 1 = .ok (.iconst 0, 1) := by decide +kernel
theorem dL_isMarked_2 : decode cL_isMarked 2 = .ok (.aload_n 0, 1) := by decide +kernel
theorem dL_isMarked_3 : decode cL_isMarked 3 = .ok (.iload_n 1, 1) := by decide +kernel
theorem dL_isMarked_4 : decode cL_isMarked 4 = .ok (.invokevirtual 113, 3) := by decide +kernel
theorem dL_isMarked_7 : decode cL_isMarked 7 = .ok (.ifCond .eq 7, 3) := by decide +kernel
theorem dL_isMarked_10 : decode cL_isMarked 10 = .ok (.lconst 1, 1) := by decide +kernel
theorem dL_isMarked_11 : decode cL_isMarked 11 = .ok (.goto 4, 3) := by decide +kernel
theorem dL_isMarked_14 : decode cL_isMarked 14 = .ok (.lconst 0, 1) := by decide +kernel
theorem dL_isMarked_15 : decode cL_isMarked 15 = .ok (.lastore, 1) := by decide +kernel
theorem dL_isMarked_16 : decode cL_isMarked 16 = .ok (.goto 6, 3) := by decide +kernel
theorem dL_isMarked_19 : decode cL_isMarked 19 = .ok (.astore_n 3, 1) := by decide +kernel
theorem dL_isMarked_20 : decode cL_isMarked 20 = .ok (.iconst 1, 1) := by decide +kernel
theorem dL_isMarked_21 : decode cL_isMarked 21 = .ok (.ireturn, 1) := by decide +kernel
theorem dL_isMarked_22 : decode cL_isMarked 22 = .ok (.iconst 0, 1) := by decide +kernel
theorem dL_isMarked_23 : decode cL_isMarked 23 = .ok (.ireturn, 1) := by decide +kernel
def mL_isMarked : MD := (cL_isMarked, RL, yL_isMarked, 4, some .int, 7, 111)
abbrev hL_isMarked : List (Nat × Nat × Nat × Nat) := [(0, 16, 19, 13)]
theorem mw_isMarked : MW mL_isMarked hL_isMarked 3 := MW.of 1507 77 (by decide +kernel) (by decide +kernel) (by decide +kernel) (by decide +kernel) (by decide +kernel) rfl rfl
theorem cvL_isMarked : CVs RL 113 mX10_isMarked 11 := CVs.of 1508 1509 1510 (by decide +kernel) (by decide +kernel) (by decide +kernel) _ rfl rfl
set_option maxRecDepth 100000 in
theorem wc_isMarked {l : Launch} {G : Gt} (hG : Gok2 l G) {b o : Nat} {x1 : Int32} {μ μ1 : Mm} {r : Int32 ⊕ String} (hk : mK μ b = 111) (ho : mK μ1 o = 63) (hl : mL μ1 o = 1) (h : f_X10_isMarked b x1 μ = some (r, μ1)) (hE : ∀ E, r = .inr E → E ∈ [exIAE]) :
    Met l mL_isMarked.y (mL_isMarked.wsH hL_isMarked) (mL_isMarked.rm (mN μ1 - mN μ) (mS μ1 - mS μ)) (PcE G [.ref b, .int x1, .ref o] μ) (QW G (WP1 blJ [exIAE] o μ μ1 r)) (mN μ1 - mN μ) (mS μ1 - mS μ) (FREE G) := by
  have hz := s_X10_isMarked hG.1 _ _ _ _ _ h
  refine wx_met mw_isMarked rfl (Nat.le_of_ble_eq_true rfl) fun p e R s m args below meth c C ht => ?_
  refine lj_aload_n C dL_isMarked_0 rfl (q := 2) rfl ?_
  refine lj_iconst (v := 0) C dL_isMarked_1 iv_iconst_0 ?_
  refine lj_aload_n C dL_isMarked_2 rfl (q := 0) rfl ?_
  refine lj_iload_n C dL_isMarked_3 rfl (q := 1) rfl ?_
  refine lj_callVx (As := [.int x1]) (c2 := 0) (s2 := 0) C ht hG.1 mf_X10_isMarked cvL_isMarked hk ⟨by decide, by decide⟩ rfl rfl (Nat.le_of_ble_eq_true rfl) hz (Nat.le_of_ble_eq_true rfl) dL_isMarked_4 (by have := hz.1.1; omega) (by have := hz.1.2; omega) (fun v hv => ?_) (fun E hE2 => ?_)
  · rcases r with w | E
    · cases hv
      by_cases hw : w = 0
      · refine lj_if_eq_t (tgt := 14) C dL_isMarked_7 (by decide) hw ?_
        refine lj_lconst (v := 0) C dL_isMarked_14 rfl ?_
        refine lj_lastore C hG.1 ho (by decide) rfl (vin1 hl) dL_isMarked_15 ?_
        refine lj_goto (tgt := 22) C dL_isMarked_16 (by decide) ?_
        refine lj_iconst (v := 0) C dL_isMarked_22 iv_iconst_0 ?_
        exact lj_wret C dL_isMarked_23 rfl (Or.inl ⟨w, rfl, rfl, by rw [z0c]; show sJ μ1 o 0 0 = sJ μ1 o 0 (if w = 0 then 0 else 1); rw [if_pos hw]⟩)
      · refine lj_if_eq_f (tgt := 14) C dL_isMarked_7 (by decide) hw ?_
        refine lj_lconst (v := 1) C dL_isMarked_10 rfl ?_
        refine lj_goto (tgt := 15) C dL_isMarked_11 (by decide) ?_
        refine lj_lastore C hG.1 ho (by decide) rfl (vin1 hl) dL_isMarked_15 ?_
        refine lj_goto (tgt := 22) C dL_isMarked_16 (by decide) ?_
        refine lj_iconst (v := 0) C dL_isMarked_22 iv_iconst_0 ?_
        exact lj_wret C dL_isMarked_23 rfl (Or.inl ⟨w, rfl, rfl, by rw [z0c]; show sJ μ1 o 0 1 = sJ μ1 o 0 (if w = 0 then 0 else 1); rw [if_neg hw]⟩)
    · cases hv
  · rcases r with w | E2
    · cases hE2
    · cases hE2
      have hm := hE _ rfl
      simp only [List.mem_cons, List.not_mem_nil, or_false] at hm
      subst hm
      refine ⟨19, CT.hd (by decide) (by decide) clexIAE ccexIAE rfl, fun N q hN => ?_⟩
      refine lj_astore_n C dL_isMarked_19 rfl (by decide) rfl ?_
      refine lj_iconst (v := 1) C dL_isMarked_20 (by decide) ?_
      exact lj_wret C dL_isMarked_21 rfl (Or.inr ⟨_, 0, N, rfl, rfl, rfl, hN, rfl⟩)
theorem dL_lineAt_0 : decode cL_lineAt 0 = .ok (.aload_n 2, 1) := by decide +kernel
theorem dL_lineAt_1 : decode cL_lineAt 1 = .ok (.iconst 0, 1) := by decide +kernel
theorem dL_lineAt_2 : decode cL_lineAt 2 = .ok (.aload_n 0, 1) := by decide +kernel
theorem dL_lineAt_3 : decode cL_lineAt 3 = .ok (.iload_n 1, 1) := by decide +kernel
theorem dL_lineAt_4 : decode cL_lineAt 4 = .ok (.invokevirtual 116, 3) := by decide +kernel
theorem dL_lineAt_7 : decode cL_lineAt 7 = .ok (.i2l, 1) := by decide +kernel
theorem dL_lineAt_8 : decode cL_lineAt 8 = .ok (.lastore, 1) := by decide +kernel
theorem dL_lineAt_9 : decode cL_lineAt 9 = .ok (.goto 6, 3) := by decide +kernel
theorem dL_lineAt_12 : decode cL_lineAt 12 = .ok (.astore_n 3, 1) := by decide +kernel
theorem dL_lineAt_13 : decode cL_lineAt 13 = .ok (.iconst 1, 1) := by decide +kernel
theorem dL_lineAt_14 : decode cL_lineAt 14 = .ok (.ireturn, 1) := by decide +kernel
theorem dL_lineAt_15 : decode cL_lineAt 15 = .ok (.iconst 0, 1) := by decide +kernel
theorem dL_lineAt_16 : decode cL_lineAt 16 = .ok (.ireturn, 1) := by decide +kernel
def mL_lineAt : MD := (cL_lineAt, RL, yL_lineAt, 4, some .int, 7, 111)
abbrev hL_lineAt : List (Nat × Nat × Nat × Nat) := [(0, 9, 12, 13)]
theorem mw_lineAt : MW mL_lineAt hL_lineAt 3 := MW.of 1514 77 (by decide +kernel) (by decide +kernel) (by decide +kernel) (by decide +kernel) (by decide +kernel) rfl rfl
theorem cvL_lineAt : CVs RL 116 mX10_lineAt 11 := CVs.of 1515 1516 1517 (by decide +kernel) (by decide +kernel) (by decide +kernel) _ rfl rfl
set_option maxRecDepth 100000 in
theorem wc_lineAt {l : Launch} {G : Gt} (hG : Gok2 l G) {b o : Nat} {x1 : Int32} {μ μ1 : Mm} {r : Int32 ⊕ String} (hk : mK μ b = 111) (ho : mK μ1 o = 63) (hl : mL μ1 o = 1) (h : f_X10_lineAt b x1 μ = some (r, μ1)) (hE : ∀ E, r = .inr E → E ∈ [exIAE]) :
    Met l mL_lineAt.y (mL_lineAt.wsH hL_lineAt) (mL_lineAt.rm (mN μ1 - mN μ) (mS μ1 - mS μ)) (PcE G [.ref b, .int x1, .ref o] μ) (QW G (WP1 Int32.toInt64 [exIAE] o μ μ1 r)) (mN μ1 - mN μ) (mS μ1 - mS μ) (FREE G) := by
  have hz := s_X10_lineAt hG.1 _ _ _ _ _ h
  refine wx_met mw_lineAt rfl (Nat.le_of_ble_eq_true rfl) fun p e R s m args below meth c C ht => ?_
  refine lj_aload_n C dL_lineAt_0 rfl (q := 2) rfl ?_
  refine lj_iconst (v := 0) C dL_lineAt_1 iv_iconst_0 ?_
  refine lj_aload_n C dL_lineAt_2 rfl (q := 0) rfl ?_
  refine lj_iload_n C dL_lineAt_3 rfl (q := 1) rfl ?_
  refine lj_callVx (As := [.int x1]) (c2 := 0) (s2 := 0) C ht hG.1 mf_X10_lineAt cvL_lineAt hk ⟨by decide, by decide⟩ rfl rfl (Nat.le_of_ble_eq_true rfl) hz (Nat.le_of_ble_eq_true rfl) dL_lineAt_4 (by have := hz.1.1; omega) (by have := hz.1.2; omega) (fun v hv => ?_) (fun E hE2 => ?_)
  · rcases r with w | E
    · cases hv
      refine lj_i2l C dL_lineAt_7 ?_
      refine lj_lastore C hG.1 ho (by decide) rfl (vin1 hl) dL_lineAt_8 ?_
      refine lj_goto (tgt := 15) C dL_lineAt_9 (by decide) ?_
      refine lj_iconst (v := 0) C dL_lineAt_15 iv_iconst_0 ?_
      exact lj_wret C dL_lineAt_16 rfl (Or.inl ⟨w, rfl, rfl, by rw [z0c]⟩)
    · cases hv
  · rcases r with w | E2
    · cases hE2
    · cases hE2
      have hm := hE _ rfl
      simp only [List.mem_cons, List.not_mem_nil, or_false] at hm
      subst hm
      refine ⟨12, CT.hd (by decide) (by decide) clexIAE ccexIAE rfl, fun N q hN => ?_⟩
      refine lj_astore_n C dL_lineAt_12 rfl (by decide) rfl ?_
      refine lj_iconst (v := 1) C dL_lineAt_13 (by decide) ?_
      exact lj_wret C dL_lineAt_14 rfl (Or.inr ⟨_, 0, N, rfl, rfl, rfl, hN, rfl⟩)
theorem dL_lost_0 : decode cL_lost 0 = .ok (.aload_n 2, 1) := by decide +kernel
theorem dL_lost_1 : decode cL_lost 1 = .ok (.iconst 0, 1) := by decide +kernel
theorem dL_lost_2 : decode cL_lost 2 = .ok (.aload_n 0, 1) := by decide +kernel
theorem dL_lost_3 : decode cL_lost 3 = .ok (.iload_n 1, 1) := by decide +kernel
theorem dL_lost_4 : decode cL_lost 4 = .ok (.invokevirtual 119, 3) := by decide +kernel
theorem dL_lost_7 : decode cL_lost 7 = .ok (.i2l, 1) := by decide +kernel
theorem dL_lost_8 : decode cL_lost 8 = .ok (.lastore, 1) := by decide +kernel
theorem dL_lost_9 : decode cL_lost 9 = .ok (.goto 6, 3) := by decide +kernel
theorem dL_lost_12 : decode cL_lost 12 = .ok (.astore_n 3, 1) := by decide +kernel
theorem dL_lost_13 : decode cL_lost 13 = .ok (.iconst 1, 1) := by decide +kernel
theorem dL_lost_14 : decode cL_lost 14 = .ok (.ireturn, 1) := by decide +kernel
theorem dL_lost_15 : decode cL_lost 15 = .ok (.iconst 0, 1) := by decide +kernel
theorem dL_lost_16 : decode cL_lost 16 = .ok (.ireturn, 1) := by decide +kernel
def mL_lost : MD := (cL_lost, RL, yL_lost, 4, some .int, 7, 163)
abbrev hL_lost : List (Nat × Nat × Nat × Nat) := [(0, 9, 12, 13)]
theorem mw_lost : MW mL_lost hL_lost 3 := MW.of 1521 77 (by decide +kernel) (by decide +kernel) (by decide +kernel) (by decide +kernel) (by decide +kernel) rfl rfl
theorem cvL_lost : CVs RL 119 mX10_lost 11 := CVs.of 1522 1523 1524 (by decide +kernel) (by decide +kernel) (by decide +kernel) _ rfl rfl
set_option maxRecDepth 100000 in
theorem wc_lost {l : Launch} {G : Gt} (hG : Gok2 l G) {b o : Nat} {x1 : Int32} {μ μ1 : Mm} {r : Int32 ⊕ String} (hk : mK μ b = 111) (ho : mK μ1 o = 63) (hl : mL μ1 o = 1) (h : f_X10_lost b x1 μ = some (r, μ1)) (hE : ∀ E, r = .inr E → E ∈ [exIAE]) :
    Met l mL_lost.y (mL_lost.wsH hL_lost) (mL_lost.rm (mN μ1 - mN μ) (mS μ1 - mS μ)) (PcE G [.ref b, .int x1, .ref o] μ) (QW G (WP1 Int32.toInt64 [exIAE] o μ μ1 r)) (mN μ1 - mN μ) (mS μ1 - mS μ) (FREE G) := by
  have hz := s_X10_lost hG.1 _ _ _ _ _ h
  refine wx_met mw_lost rfl (Nat.le_of_ble_eq_true rfl) fun p e R s m args below meth c C ht => ?_
  refine lj_aload_n C dL_lost_0 rfl (q := 2) rfl ?_
  refine lj_iconst (v := 0) C dL_lost_1 iv_iconst_0 ?_
  refine lj_aload_n C dL_lost_2 rfl (q := 0) rfl ?_
  refine lj_iload_n C dL_lost_3 rfl (q := 1) rfl ?_
  refine lj_callVx (As := [.int x1]) (c2 := 0) (s2 := 0) C ht hG.1 mf_X10_lost cvL_lost hk ⟨by decide, by decide⟩ rfl rfl (Nat.le_of_ble_eq_true rfl) hz (Nat.le_of_ble_eq_true rfl) dL_lost_4 (by have := hz.1.1; omega) (by have := hz.1.2; omega) (fun v hv => ?_) (fun E hE2 => ?_)
  · rcases r with w | E
    · cases hv
      refine lj_i2l C dL_lost_7 ?_
      refine lj_lastore C hG.1 ho (by decide) rfl (vin1 hl) dL_lost_8 ?_
      refine lj_goto (tgt := 15) C dL_lost_9 (by decide) ?_
      refine lj_iconst (v := 0) C dL_lost_15 iv_iconst_0 ?_
      exact lj_wret C dL_lost_16 rfl (Or.inl ⟨w, rfl, rfl, by rw [z0c]⟩)
    · cases hv
  · rcases r with w | E2
    · cases hE2
    · cases hE2
      have hm := hE _ rfl
      simp only [List.mem_cons, List.not_mem_nil, or_false] at hm
      subst hm
      refine ⟨12, CT.hd (by decide) (by decide) clexIAE ccexIAE rfl, fun N q hN => ?_⟩
      refine lj_astore_n C dL_lost_12 rfl (by decide) rfl ?_
      refine lj_iconst (v := 1) C dL_lost_13 (by decide) ?_
      exact lj_wret C dL_lost_14 rfl (Or.inr ⟨_, 0, N, rfl, rfl, rfl, hN, rfl⟩)
theorem dL_share_0 : decode cL_share 0 = .ok (.aload_n 1, 1) := by decide +kernel
theorem dL_share_1 : decode cL_share 1 = .ok (.iconst 0, 1) := by decide +kernel
theorem dL_share_2 : decode cL_share 2 = .ok (.aload_n 0, 1) := by decide +kernel
theorem dL_share_3 : decode cL_share 3 = .ok (.invokevirtual 123, 3) := by decide +kernel
theorem dL_share_6 : decode cL_share 6 = .ok (.f2d, 1) := by decide +kernel
theorem dL_share_7 : decode cL_share 7 = .ok (.dastore, 1) := by decide +kernel
theorem dL_share_8 : decode cL_share 8 = .ok (.goto 6, 3) := by decide +kernel
theorem dL_share_11 : decode cL_share 11 = .ok (.astore_n 2, 1) := by decide +kernel
theorem dL_share_12 : decode cL_share 12 = .ok (.iconst 1, 1) := by decide +kernel
theorem dL_share_13 : decode cL_share 13 = .ok (.ireturn, 1) := by decide +kernel
theorem dL_share_14 : decode cL_share 14 = .ok (.iconst 0, 1) := by decide +kernel
theorem dL_share_15 : decode cL_share 15 = .ok (.ireturn, 1) := by decide +kernel
def mL_share : MD := (cL_share, RL, yL_share, 3, some .int, 7, 110)
abbrev hL_share : List (Nat × Nat × Nat × Nat) := [(0, 8, 11, 76)]
theorem mw_share : MW mL_share hL_share 2 := MW.of 1529 77 (by decide +kernel) (by decide +kernel) (by decide +kernel) (by decide +kernel) (by decide +kernel) rfl rfl
theorem cvL_share : CVs RL 123 mX10_share 11 := CVs.of 1530 1531 1532 (by decide +kernel) (by decide +kernel) (by decide +kernel) _ rfl rfl
set_option maxRecDepth 100000 in
theorem wc_share {l : Launch} {G : Gt} (hG : Gok2 l G) {b o : Nat} {μ μ1 : Mm} {r : UInt32 ⊕ String} (hk : mK μ b = 111) (ho : mK μ1 o = 64) (hl : mL μ1 o = 1) (h : f_X10_share b μ = some (r, μ1)) (hE : ∀ E, r = .inr E → E ∈ [exNSE]) (hn : ∀ w, r = .inl w → vf_n64 (FP.f2d w)) :
    Met l mL_share.y (mL_share.wsH hL_share) (mL_share.rm (mN μ1 - mN μ) (mS μ1 - mS μ)) (PcE G [.ref b, .ref o] μ) (QW G (WP1 flJ [exNSE] o μ μ1 r)) (mN μ1 - mN μ) (mS μ1 - mS μ) (FREE G) := by
  have hz := s_X10_share hG.1 _ _ _ _ h
  refine wx_met mw_share rfl (Nat.le_of_ble_eq_true rfl) fun p e R s m args below meth c C ht => ?_
  refine lj_aload_n C dL_share_0 rfl (q := 1) rfl ?_
  refine lj_iconst (v := 0) C dL_share_1 iv_iconst_0 ?_
  refine lj_aload_n C dL_share_2 rfl (q := 0) rfl ?_
  refine lj_callVx (As := []) (c2 := 0) (s2 := 0) C ht hG.1 mf_X10_share cvL_share hk ⟨by decide, by decide⟩ rfl rfl (Nat.le_of_ble_eq_true rfl) hz (Nat.le_of_ble_eq_true rfl) dL_share_3 (by have := hz.1.1; omega) (by have := hz.1.2; omega) (fun v hv => ?_) (fun E hE2 => ?_)
  · rcases r with w | E
    · cases hv
      refine lj_f2d C dL_share_6 (hn w rfl) ?_
      refine lj_dastore C hG.1 ho (by decide) rfl (vin1 hl) dL_share_7 ?_
      refine lj_goto (tgt := 14) C dL_share_8 (by decide) ?_
      refine lj_iconst (v := 0) C dL_share_14 iv_iconst_0 ?_
      exact lj_wret C dL_share_15 rfl (Or.inl ⟨w, rfl, rfl, by rw [z0c]; rfl⟩)
    · cases hv
  · rcases r with w | E2
    · cases hE2
    · cases hE2
      have hm := hE _ rfl
      simp only [List.mem_cons, List.not_mem_nil, or_false] at hm
      subst hm
      refine ⟨11, CT.hd (by decide) (by decide) clexNSE ccexNSE rfl, fun N q hN => ?_⟩
      refine lj_astore_n C dL_share_11 rfl (by decide) rfl ?_
      refine lj_iconst (v := 1) C dL_share_12 (by decide) ?_
      exact lj_wret C dL_share_13 rfl (Or.inr ⟨_, 0, N, rfl, rfl, rfl, hN, rfl⟩)
