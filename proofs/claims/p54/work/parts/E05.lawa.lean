section LAW5
variable {l : Launch} {G : Gt} {p : Program} {e : Env} {R : Room} {s : State} {m : MethodId} {args : Array Value} {below : List Frame} {meth : Method} {c : Code} {Q : State → Prop} {b z q0 n : Nat} {xs : Nat → Int32} {A A' : Sx} {μ : Mm} {c1 s1 : Nat}
theorem dL_law_134 : decode cL_law 134 = .ok (.iload 8, 2) := by decide +kernel
theorem dL_law_136 : decode cL_law 136 = .ok (.iload_n 2, 1) := by decide +kernel
theorem dL_law_137 : decode cL_law 137 = .ok (.invokestatic 224, 3) := by decide +kernel
theorem dL_law_140 : decode cL_law 140 = .ok (.astore 15, 2) := by decide +kernel
theorem dL_law_142 : decode cL_law 142 = .ok (.aload_n 1, 1) := by decide +kernel
theorem dL_law_143 : decode cL_law 143 = .ok (.aload 15, 2) := by decide +kernel
theorem dL_law_145 : decode cL_law 145 = .ok (.invokestatic 228, 3) := by decide +kernel
theorem dL_law_148 : decode cL_law 148 = .ok (.istore 12, 2) := by decide +kernel
theorem dL_law_150 : decode cL_law 150 = .ok (.iload 12, 2) := by decide +kernel
theorem dL_law_152 : decode cL_law 152 = .ok (.ifCond .lt 7, 3) := by decide +kernel
theorem dL_law_155 : decode cL_law 155 = .ok (.iconst 1, 1) := by decide +kernel
theorem dL_law_156 : decode cL_law 156 = .ok (.goto 4, 3) := by decide +kernel
theorem dL_law_159 : decode cL_law 159 = .ok (.iconst 0, 1) := by decide +kernel
theorem dL_law_160 : decode cL_law 160 = .ok (.iload 14, 2) := by decide +kernel
theorem dL_law_162 : decode cL_law 162 = .ok (.ifCond .eq 13, 3) := by decide +kernel
theorem dL_law_165 : decode cL_law 165 = .ok (.iload_n 2, 1) := by decide +kernel
theorem dL_law_166 : decode cL_law 166 = .ok (.bipush 64, 2) := by decide +kernel
theorem dL_law_168 : decode cL_law 168 = .ok (.if_icmp .ge 7, 3) := by decide +kernel
theorem dL_law_171 : decode cL_law 171 = .ok (.iconst 1, 1) := by decide +kernel
theorem dL_law_172 : decode cL_law 172 = .ok (.goto 4, 3) := by decide +kernel
theorem dL_law_175 : decode cL_law 175 = .ok (.iconst 0, 1) := by decide +kernel
theorem dL_law_176 : decode cL_law 176 = .ok (.if_icmp .ne 14, 3) := by decide +kernel
theorem dL_law_179 : decode cL_law 179 = .ok (.iload 12, 2) := by decide +kernel
theorem dL_law_181 : decode cL_law 181 = .ok (.ifCond .lt 11, 3) := by decide +kernel
theorem dL_law_184 : decode cL_law 184 = .ok (.iload 12, 2) := by decide +kernel
theorem dL_law_186 : decode cL_law 186 = .ok (.iload_n 2, 1) := by decide +kernel
theorem dL_law_187 : decode cL_law 187 = .ok (.if_icmp .eq 5, 3) := by decide +kernel
theorem dL_law_192 : decode cL_law 192 = .ok (.iload_n 2, 1) := by decide +kernel
theorem dL_law_193 : decode cL_law 193 = .ok (.iload 12, 2) := by decide +kernel
theorem dL_law_195 : decode cL_law 195 = .ok (.ifCond .lt 7, 3) := by decide +kernel
theorem dL_law_198 : decode cL_law 198 = .ok (.iconst 1, 1) := by decide +kernel
theorem dL_law_199 : decode cL_law 199 = .ok (.goto 4, 3) := by decide +kernel
theorem dL_law_202 : decode cL_law 202 = .ok (.iconst 0, 1) := by decide +kernel
theorem dL_law_203 : decode cL_law 203 = .ok (.iadd, 1) := by decide +kernel
theorem dL_law_204 : decode cL_law 204 = .ok (.istore_n 2, 1) := by decide +kernel
theorem dL_law_205 : decode cL_law 205 = .ok (.goto 702, 3) := by decide +kernel
theorem dL_law_215 : decode cL_law 215 = .ok (.aload_n 1, 1) := by decide +kernel
theorem dL_law_216 : decode cL_law 216 = .ok (.bipush 114, 2) := by decide +kernel
theorem dL_law_218 : decode cL_law 218 = .ok (.iload 8, 2) := by decide +kernel
theorem dL_law_220 : decode cL_law 220 = .ok (.bipush 8, 2) := by decide +kernel
theorem dL_law_222 : decode cL_law 222 = .ok (.irem, 1) := by decide +kernel
theorem dL_law_223 : decode cL_law 223 = .ok (.iload 8, 2) := by decide +kernel
theorem dL_law_225 : decode cL_law 225 = .ok (.bipush 8, 2) := by decide +kernel
theorem dL_law_227 : decode cL_law 227 = .ok (.idiv, 1) := by decide +kernel
theorem dL_law_228 : decode cL_law 228 = .ok (.bipush 100, 2) := by decide +kernel
theorem dL_law_230 : decode cL_law 230 = .ok (.irem, 1) := by decide +kernel
theorem dL_law_231 : decode cL_law 231 = .ok (.invokestatic 231, 3) := by decide +kernel
theorem dL_law_234 : decode cL_law 234 = .ok (.istore 12, 2) := by decide +kernel
theorem dL_law_236 : decode cL_law 236 = .ok (.iload 12, 2) := by decide +kernel
theorem dL_law_238 : decode cL_law 238 = .ok (.ldc 18, 2) := by decide +kernel
theorem dL_law_240 : decode cL_law 240 = .ok (.if_icmp .eq 27, 3) := by decide +kernel
theorem dL_law_243 : decode cL_law 243 = .ok (.aload_n 1, 1) := by decide +kernel
theorem dL_law_244 : decode cL_law 244 = .ok (.bipush 114, 2) := by decide +kernel
theorem dL_law_246 : decode cL_law 246 = .ok (.iload 8, 2) := by decide +kernel
theorem dL_law_248 : decode cL_law 248 = .ok (.bipush 8, 2) := by decide +kernel
theorem dL_law_250 : decode cL_law 250 = .ok (.irem, 1) := by decide +kernel
theorem dL_law_251 : decode cL_law 251 = .ok (.invokestatic 191, 3) := by decide +kernel
theorem dL_law_254 : decode cL_law 254 = .ok (.iload 8, 2) := by decide +kernel
theorem dL_law_256 : decode cL_law 256 = .ok (.bipush 8, 2) := by decide +kernel
theorem dL_law_258 : decode cL_law 258 = .ok (.idiv, 1) := by decide +kernel
theorem dL_law_259 : decode cL_law 259 = .ok (.bipush 100, 2) := by decide +kernel
theorem dL_law_261 : decode cL_law 261 = .ok (.irem, 1) := by decide +kernel
theorem dL_law_262 : decode cL_law 262 = .ok (.if_icmp .eq 5, 3) := by decide +kernel
theorem dL_law_267 : decode cL_law 267 = .ok (.iload 12, 2) := by decide +kernel
theorem dL_law_269 : decode cL_law 269 = .ok (.ldc 18, 2) := by decide +kernel
theorem dL_law_271 : decode cL_law 271 = .ok (.if_icmp .ne 8, 3) := by decide +kernel
theorem dL_law_274 : decode cL_law 274 = .ok (.iload 12, 2) := by decide +kernel
theorem dL_law_276 : decode cL_law 276 = .ok (.goto 4, 3) := by decide +kernel
theorem dL_law_279 : decode cL_law 279 = .ok (.iconst 0, 1) := by decide +kernel
theorem dL_law_280 : decode cL_law 280 = .ok (.istore 12, 2) := by decide +kernel
theorem dL_law_282 : decode cL_law 282 = .ok (.goto 625, 3) := by decide +kernel
theorem dL_law_292 : decode cL_law 292 = .ok (.aload_n 1, 1) := by decide +kernel
theorem dL_law_293 : decode cL_law 293 = .ok (.bipush 119, 2) := by decide +kernel
theorem dL_law_295 : decode cL_law 295 = .ok (.iload 8, 2) := by decide +kernel
theorem dL_law_297 : decode cL_law 297 = .ok (.bipush 64, 2) := by decide +kernel
theorem dL_law_299 : decode cL_law 299 = .ok (.irem, 1) := by decide +kernel
theorem dL_law_300 : decode cL_law 300 = .ok (.iload 8, 2) := by decide +kernel
theorem dL_law_302 : decode cL_law 302 = .ok (.bipush 64, 2) := by decide +kernel
theorem dL_law_304 : decode cL_law 304 = .ok (.idiv, 1) := by decide +kernel
theorem dL_law_305 : decode cL_law 305 = .ok (.sipush 1000, 3) := by decide +kernel
theorem dL_law_308 : decode cL_law 308 = .ok (.irem, 1) := by decide +kernel
theorem dL_law_309 : decode cL_law 309 = .ok (.invokestatic 231, 3) := by decide +kernel
theorem dL_law_312 : decode cL_law 312 = .ok (.istore 12, 2) := by decide +kernel
theorem dL_law_314 : decode cL_law 314 = .ok (.iload 12, 2) := by decide +kernel
theorem dL_law_316 : decode cL_law 316 = .ok (.ldc 18, 2) := by decide +kernel
theorem dL_law_318 : decode cL_law 318 = .ok (.if_icmp .eq 28, 3) := by decide +kernel
theorem dL_law_321 : decode cL_law 321 = .ok (.aload_n 1, 1) := by decide +kernel
theorem dL_law_322 : decode cL_law 322 = .ok (.bipush 119, 2) := by decide +kernel
theorem dL_law_324 : decode cL_law 324 = .ok (.iload 8, 2) := by decide +kernel
theorem dL_law_326 : decode cL_law 326 = .ok (.bipush 64, 2) := by decide +kernel
theorem dL_law_328 : decode cL_law 328 = .ok (.irem, 1) := by decide +kernel
theorem dL_law_329 : decode cL_law 329 = .ok (.invokestatic 191, 3) := by decide +kernel
theorem dL_law_332 : decode cL_law 332 = .ok (.iload 8, 2) := by decide +kernel
theorem dL_law_334 : decode cL_law 334 = .ok (.bipush 64, 2) := by decide +kernel
theorem dL_law_336 : decode cL_law 336 = .ok (.idiv, 1) := by decide +kernel
theorem dL_law_337 : decode cL_law 337 = .ok (.sipush 1000, 3) := by decide +kernel
theorem dL_law_340 : decode cL_law 340 = .ok (.irem, 1) := by decide +kernel
theorem dL_law_341 : decode cL_law 341 = .ok (.if_icmp .eq 5, 3) := by decide +kernel
theorem dL_law_346 : decode cL_law 346 = .ok (.iload 12, 2) := by decide +kernel
theorem dL_law_348 : decode cL_law 348 = .ok (.ldc 18, 2) := by decide +kernel
theorem dL_law_350 : decode cL_law 350 = .ok (.if_icmp .ne 8, 3) := by decide +kernel
theorem dL_law_353 : decode cL_law 353 = .ok (.iload 12, 2) := by decide +kernel
theorem dL_law_355 : decode cL_law 355 = .ok (.goto 4, 3) := by decide +kernel
theorem dL_law_358 : decode cL_law 358 = .ok (.iconst 0, 1) := by decide +kernel
theorem dL_law_359 : decode cL_law 359 = .ok (.istore 12, 2) := by decide +kernel
theorem dL_law_361 : decode cL_law 361 = .ok (.goto 546, 3) := by decide +kernel
theorem dL_law_586 : decode cL_law 586 = .ok (.aload_n 1, 1) := by decide +kernel
theorem dL_law_587 : decode cL_law 587 = .ok (.invokevirtual 242, 3) := by decide +kernel
theorem dL_law_590 : decode cL_law 590 = .ok (.ifCond .eq 10, 3) := by decide +kernel
theorem dL_law_593 : decode cL_law 593 = .ok (.iload 4, 2) := by decide +kernel
theorem dL_law_595 : decode cL_law 595 = .ok (.ifCond .ne 5, 3) := by decide +kernel
theorem dL_law_600 : decode cL_law 600 = .ok (.iconst 1, 1) := by decide +kernel
theorem dL_law_601 : decode cL_law 601 = .ok (.istore 4, 2) := by decide +kernel
theorem dL_law_603 : decode cL_law 603 = .ok (.goto 304, 3) := by decide +kernel
theorem dL_law_613 : decode cL_law 613 = .ok (.aload_n 1, 1) := by decide +kernel
theorem dL_law_614 : decode cL_law 614 = .ok (.bipush 116, 2) := by decide +kernel
theorem dL_law_616 : decode cL_law 616 = .ok (.iload 8, 2) := by decide +kernel
theorem dL_law_618 : decode cL_law 618 = .ok (.bipush 16, 2) := by decide +kernel
theorem dL_law_620 : decode cL_law 620 = .ok (.irem, 1) := by decide +kernel
theorem dL_law_621 : decode cL_law 621 = .ok (.iconst 1, 1) := by decide +kernel
theorem dL_law_622 : decode cL_law 622 = .ok (.iload 8, 2) := by decide +kernel
theorem dL_law_624 : decode cL_law 624 = .ok (.bipush 16, 2) := by decide +kernel
theorem dL_law_626 : decode cL_law 626 = .ok (.idiv, 1) := by decide +kernel
theorem dL_law_627 : decode cL_law 627 = .ok (.bipush 30, 2) := by decide +kernel
theorem dL_law_629 : decode cL_law 629 = .ok (.irem, 1) := by decide +kernel
theorem dL_law_630 : decode cL_law 630 = .ok (.iadd, 1) := by decide +kernel
theorem dL_law_631 : decode cL_law 631 = .ok (.invokestatic 231, 3) := by decide +kernel
theorem dL_law_634 : decode cL_law 634 = .ok (.istore 12, 2) := by decide +kernel
theorem dL_law_636 : decode cL_law 636 = .ok (.iload 12, 2) := by decide +kernel
theorem dL_law_638 : decode cL_law 638 = .ok (.iconst 1, 1) := by decide +kernel
theorem dL_law_639 : decode cL_law 639 = .ok (.if_icmp .lt 10, 3) := by decide +kernel
theorem dL_law_642 : decode cL_law 642 = .ok (.iload 12, 2) := by decide +kernel
theorem dL_law_644 : decode cL_law 644 = .ok (.bipush 30, 2) := by decide +kernel
theorem dL_law_646 : decode cL_law 646 = .ok (.if_icmp .le 261, 3) := by decide +kernel
theorem dL_law_907 : decode cL_law 907 = .ok (.iload 12, 2) := by decide +kernel
theorem dL_law_909 : decode cL_law 909 = .ok (.ldc_w 257, 3) := by decide +kernel
theorem dL_law_912 : decode cL_law 912 = .ok (.if_icmp .ge 20, 3) := by decide +kernel
theorem dL_law_915 : decode cL_law 915 = .ok (.iload 9, 2) := by decide +kernel
theorem dL_law_917 : decode cL_law 917 = .ok (.ifCond .eq 15, 3) := by decide +kernel
theorem dL_law_920 : decode cL_law 920 = .ok (.aload_n 1, 1) := by decide +kernel
theorem dL_law_921 : decode cL_law 921 = .ok (.invokestatic 220, 3) := by decide +kernel
theorem dL_law_924 : decode cL_law 924 = .ok (.lload 10, 2) := by decide +kernel
theorem dL_law_926 : decode cL_law 926 = .ok (.lcmp, 1) := by decide +kernel
theorem dL_law_927 : decode cL_law 927 = .ok (.ifCond .eq 5, 3) := by decide +kernel
theorem dL_law_932 : decode cL_law 932 = .ok (.iinc 6 1, 3) := by decide +kernel
theorem dL_law_935 : decode cL_law 935 = .ok (.goto (-904), 3) := by decide +kernel
theorem cvP_242 : CVs RL 242 mX10_interrupt 11 := CVs.of 405 406 407 (by decide +kernel) (by decide +kernel) (by decide +kernel) _ rfl rfl
theorem law_tail (C : CW G mL_law p R s m meth c) (hG : Gok3 l G) {its : Int32} {bf : Int64} {wa be : Bool} {k inn steps pg : Nat} (h : JC b z A' μ) (hb : wa = true → bf = sumV A) (hi : its < -2000000000 → A' = A) (kk : ∀ μ2, JC b z A' μ2 → LJ l G mL_law p e R s m args below meth c Q 31 (L0 b q0 (k + 1) inn be steps pg) [] μ2 (c1 + PC A') (s1 + PS A')) : LJ l G mL_law p e R s m args below meth c Q 907 (LT its bf wa b q0 k inn be steps pg) [] μ (c1 + PC A' + 98) (s1 + PS A' + 1960) := by
  have fin : ∀ μ2, JC b z A' μ2 → LJ l G mL_law p e R s m args below meth c Q 932 (LT its bf wa b q0 k inn be steps pg) [] μ2 (c1 + PC A') (s1 + PS A') := fun μ2 h2 => by
    unfold LT
    refine lj_iinc (v := nI (k + 1)) C dL_law_932 (q := 3) rfl (nI_addL (b := 1) (by decide)) (by decide) rfl ?_
    refine lj_sub C [0, 4, 5, 6, 7, 8, 9] rfl ?_
    refine lj_goto (tgt := 31) C dL_law_935 (by decide) ?_
    exact kk μ2 h2
  have w0 : LJ l G mL_law p e R s m args below meth c Q 932 (LT its bf wa b q0 k inn be steps pg) [] μ (c1 + PC A' + 98) (s1 + PS A' + 1960) := lj_w (by omega) (by omega) (fin μ h)
  unfold LT
  refine lj_iload C dL_law_907 (q := 0) rfl ?_
  refine lj_ldcw C hG.1.1 lc_L_257 dL_law_909 ?_
  by_cases hl : its < -2000000000
  · refine lj_icmp_ge_f (tgt := 932) C dL_law_912 (by decide) (Int32.not_le.mpr hl) ?_
    refine lj_iload C dL_law_915 (q := 2) rfl ?_
    cases wa with
    | false =>
      refine lj_if_eq_t (tgt := 932) C dL_law_917 (by decide) rfl ?_
      exact w0
    | true =>
      refine lj_if_eq_f (tgt := 932) C dL_law_917 (by decide) (by decide) ?_
      refine lj_aload_n C dL_law_920 rfl (q := 8) rfl ?_
      refine lj_sum (c2 := c1 + PC A') (s2 := s1 + PS A') C hG.1 rfl ⟨by decide, by decide⟩ h (Nat.le_of_ble_eq_true rfl) dL_law_921 (by omega) (by omega) fun μ2 h2 => ?_
      refine lj_lload C dL_law_924 (q := 1) rfl ?_
      rw [hi hl, ← hb rfl]
      refine lj_lcmpG C dL_law_926 ?_
      rw [lg_cmp_self]
      refine lj_if_eq_t (tgt := 932) C dL_law_927 (by decide) rfl ?_
      have := fin μ2 h2
      rw [hi hl] at this
      exact this
  · refine lj_icmp_ge_t (tgt := 932) C dL_law_912 (by decide) (Int32.not_lt.mp hl) ?_
    exact w0
theorem law_c0 (C : CW G mL_law p R s m meth c) (hG : Gok3 l G) {kind w k inn steps pg : Nat} {bf : Int64} {wa be fi : Bool} (hw : w < 100000000) (hf : fi = decide (aS A 0 = 0)) (h : JC b z A μ) (la : LA pg be inn A) (kt : ∀ its pg2 be2 inn2 A2 μ2, JC b z A2 μ2 → LA pg2 be2 inn2 A2 → (its < -2000000000 → A2 = A) → LJ l G mL_law p e R s m args below meth c Q 907 (LT its bf wa b q0 k inn2 be2 steps pg2) [] μ2 (c1 + PC A2) (s1 + PS A2)) : LJ l G mL_law p e R s m args below meth c Q 134 (LMi fi kind bf wa w b q0 k inn be steps pg) [] μ (c1 + PC A + 12) (s1 + PS A + 240) := by
  obtain ⟨l15, l8, l2, lr⟩ := la
  unfold LMi
  refine lj_iload C dL_law_134 (q := 5) rfl ?_
  refine lj_iload_n C dL_law_136 rfl (q := 10) rfl ?_
  refine lj_drawn (c2 := c1 + PC A + 10) (s2 := s1 + PS A + 200) C hG.1 rfl ⟨by decide, by decide⟩ (by omega) h (Nat.le_of_ble_eq_true rfl) dL_law_137 (by omega) (by omega) fun a μ1 x0 x1 x2 x3 x4 h1 iv ok => ?_
  refine lj_astore C dL_law_140 (by decide) rfl ?_
  refine lj_aload_n C dL_law_142 rfl (q := 12) rfl ?_
  refine lj_aload C dL_law_143 (q := 0) rfl ?_
  refine lj_add (c2 := c1 + PC A + 0) (s2 := s1 + PS A + 0) C hG.1 rfl ⟨by decide, by decide⟩ iv h1 (Nat.le_of_ble_eq_true rfl) dL_law_145 (by omega) (by omega) fun A2 μ2 eA h2 => ?_
  rw [ok] at eA ⊢
  by_cases hk : aS A 0 = 0 ∧ aS A 15 < 64
  · have ka : kAdd A true = 0 := by unfold kAdd; rw [if_neg (by decide), if_pos hk]
    rw [ka, if_pos rfl] at eA
    rw [ka, exv_oc0, l15]
    have hp : pg < 64 := by omega
    have ef : fi = true := by rw [hf]; exact decide_eq_true hk.1
    subst ef
    have p0 : (0 : Int32) ≤ nI pg := nI_pos' (by omega)
    have pn : ¬ nI pg < 0 := Int32.not_lt.mpr p0
    refine lj_istore C dL_law_148 (by decide) rfl ?_
    refine lj_iload C dL_law_150 (q := 0) rfl ?_
    refine lj_if_lt_f (tgt := 159) C dL_law_152 (by decide) pn ?_
    refine lj_iconst (v := 1) C dL_law_155 (by decide) ?_
    refine lj_goto (tgt := 160) C dL_law_156 (by decide) ?_
    refine lj_iload C dL_law_160 (q := 2) rfl ?_
    refine lj_if_eq_f (tgt := 175) C dL_law_162 (by decide) (by decide) ?_
    refine lj_iload_n C dL_law_165 rfl (q := 11) rfl ?_
    refine lj_bipush (v := 64) C dL_law_166 (by decide) ?_
    refine lj_icmp_ge_f (tgt := 175) C dL_law_168 (by decide) (nI_ge hp (by decide)) ?_
    refine lj_iconst (v := 1) C dL_law_171 (by decide) ?_
    refine lj_goto (tgt := 176) C dL_law_172 (by decide) ?_
    refine lj_icmp_ne_f (tgt := 190) C dL_law_176 (by decide) rfl ?_
    refine lj_iload C dL_law_179 (q := 0) rfl ?_
    refine lj_if_lt_f (tgt := 192) C dL_law_181 (by decide) pn ?_
    refine lj_iload C dL_law_184 (q := 0) rfl ?_
    refine lj_iload_n C dL_law_186 rfl (q := 11) rfl ?_
    refine lj_icmp_eq_t (tgt := 192) C dL_law_187 (by decide) rfl ?_
    refine lj_iload_n C dL_law_192 rfl (q := 11) rfl ?_
    refine lj_iload C dL_law_193 (q := 0) rfl ?_
    refine lj_if_lt_f (tgt := 202) C dL_law_195 (by decide) pn ?_
    refine lj_iconst (v := 1) C dL_law_198 (by decide) ?_
    refine lj_goto (tgt := 203) C dL_law_199 (by decide) ?_
    refine lj_iaddE (v := nI (pg + 1)) C dL_law_203 (nI_addL (b := 1) (by decide)) ?_
    refine lj_istore_n C dL_law_204 rfl (by decide) rfl ?_
    refine lj_goto (tgt := 907) C dL_law_205 (by decide) ?_
    refine lj_sub C [1, 5, 6, 8, 9, 10, 11, 0, 12, 13] rfl ?_
    have e15 : aS A2 15 = aS A 15 + 1 := by rw [eA]; exact zS_at _ _ _
    have eS : ∀ i, i ≠ 15 → aS A2 i = aS A i := fun i hi => by rw [eA]; exact zS_ne _ _ hi
    have eV : ∀ q, q ≠ 5 → aV A2 q = aV A q := fun q hq => by rw [eA]; exact addP_V hq
    refine lj_w ?_ ?_ (kt _ _ be inn A2 μ2 h2 ⟨by rw [e15, l15], by rw [eS 8 (by decide)]; exact l8, fun q => by rw [eS 2 (by decide)]; exact l2 q, fun q => ?_⟩ fun q => absurd q (m2_lt p0))
    · have : PC A2 = PC A := by unfold PC; rw [eS 0 (by decide), eS 1 (by decide), eS 14 (by decide)]
      omega
    · have : PS A2 = PS A := by unfold PS; rw [eS 0 (by decide), eS 1 (by decide), eS 14 (by decide)]
      omega
    · rw [eV 1 (by decide), eV 2 (by decide)]
      exact lr hk.1
  · have ka : kAdd A true = 2 := by unfold kAdd; rw [if_neg (by decide), if_neg hk]
    rw [ka, if_neg (by decide)] at eA
    have eB := eA.symm
    subst eB
    rw [ka, exv_oc2]
    refine lj_istore C dL_law_148 (by decide) rfl ?_
    refine lj_iload C dL_law_150 (q := 0) rfl ?_
    refine lj_if_lt_t (tgt := 159) C dL_law_152 (by decide) (by decide) ?_
    refine lj_iconst (v := 0) C dL_law_159 (by decide) ?_
    refine lj_iload C dL_law_160 (q := 2) rfl ?_
    have fin : LJ l G mL_law p e R s m args below meth c Q 176 [(12, .int ((-2000000003))), (15, .ref a), (14, .int (bI fi)), (13, .int (nI kind)), (10, .long bf), (9, .int (bI wa)), (8, .int (nI w)), (6, .int (nI k)), (5, .int (nI inn)), (4, .int (bI be)), (3, .int (nI steps)), (2, .int (nI pg)), (1, .ref b), (0, .ref q0)] [.int 0, .int 0] μ2 (c1 + PC A + 0) (s1 + PS A + 0) := by
      refine lj_icmp_ne_f (tgt := 190) C dL_law_176 (by decide) rfl ?_
      refine lj_iload C dL_law_179 (q := 0) rfl ?_
      refine lj_if_lt_t (tgt := 192) C dL_law_181 (by decide) (by decide) ?_
      refine lj_iload_n C dL_law_192 rfl (q := 11) rfl ?_
      refine lj_iload C dL_law_193 (q := 0) rfl ?_
      refine lj_if_lt_t (tgt := 202) C dL_law_195 (by decide) (by decide) ?_
      refine lj_iconst (v := 0) C dL_law_202 (by decide) ?_
      refine lj_iaddE (v := nI pg) C dL_law_203 (nI_addL (b := 0) (by decide)) ?_
      refine lj_istore_n C dL_law_204 rfl (by decide) rfl ?_
      refine lj_goto (tgt := 907) C dL_law_205 (by decide) ?_
      refine lj_sub C [1, 5, 6, 8, 9, 10, 11, 0, 12, 13] rfl ?_
      exact lj_w (by omega) (by omega) (kt _ _ be inn A μ2 h2 ⟨l15, l8, l2, lr⟩ fun _ => rfl)
    by_cases h0 : aS A 0 = 0
    · have ef : fi = true := by rw [hf]; exact decide_eq_true h0
      subst ef
      refine lj_if_eq_f (tgt := 175) C dL_law_162 (by decide) (by decide) ?_
      refine lj_iload_n C dL_law_165 rfl (q := 11) rfl ?_
      refine lj_bipush (v := 64) C dL_law_166 (by decide) ?_
      refine lj_icmp_ge_t (tgt := 175) C dL_law_168 (by decide) (nI_le (a := 64) (b := pg) (by omega) (by have := h2.2.2.n15; omega)) ?_
      refine lj_iconst (v := 0) C dL_law_175 (by decide) ?_
      exact fin
    · have ef : fi = false := by rw [hf]; exact decide_eq_false h0
      subst ef
      refine lj_if_eq_t (tgt := 175) C dL_law_162 (by decide) rfl ?_
      refine lj_iconst (v := 0) C dL_law_175 (by decide) ?_
      exact fin
theorem law_c8 (C : CW G mL_law p R s m meth c) (hG : Gok3 l G) {kind w k inn steps pg : Nat} {bf : Int64} {wa be fi : Bool} (hw : w < 100000000) (hf : fi = decide (aS A 0 = 0)) (h : JC b z A μ) (la : LA pg be inn A) (kt : ∀ its pg2 be2 inn2 A2 μ2, JC b z A2 μ2 → LA pg2 be2 inn2 A2 → (its < -2000000000 → A2 = A) → LJ l G mL_law p e R s m args below meth c Q 907 (LT its bf wa b q0 k inn2 be2 steps pg2) [] μ2 (c1 + PC A2) (s1 + PS A2)) : LJ l G mL_law p e R s m args below meth c Q 215 (LMi fi kind bf wa w b q0 k inn be steps pg) [] μ (c1 + PC A + 12) (s1 + PS A + 240) := by
  obtain ⟨l15, l8, l2, lr⟩ := la
  unfold LMi
  have b1 : w % 8 < 8 := Nat.mod_lt _ (by decide)
  have b2 : w / 8 % 100 < 100 := Nat.mod_lt _ (by decide)
  have b3 : w / 8 ≤ w := Nat.div_le_self _ _
  have hx : rok (nI (w % 8)) = true := (show ∀ i, i < 8 → rok (nI i) = true by decide) _ b1
  have cl : (nI (w % 8)).toNatClampNeg = w % 8 := clN (by omega)
  refine lj_aload_n C dL_law_215 rfl (q := 11) rfl ?_
  refine lj_bipush (v := 114) C dL_law_216 (by decide) ?_
  refine lj_iload C dL_law_218 (q := 5) rfl ?_
  refine lj_bipush (v := 8) C dL_law_220 (by decide) ?_
  refine lj_iremE (v := nI (w % 8)) C dL_law_222 (by decide) (nI_mod (b := 8) (by decide) (by omega) (by decide)) ?_
  refine lj_iload C dL_law_223 (q := 5) rfl ?_
  refine lj_bipush (v := 8) C dL_law_225 (by decide) ?_
  refine lj_idivE (v := nI (w / 8)) C dL_law_227 (by decide) (nI_div (b := 8) (by decide) (by omega) (by decide)) ?_
  refine lj_bipush (v := 100) C dL_law_228 (by decide) ?_
  refine lj_iremE (v := nI (w / 8 % 100)) C dL_law_230 (by decide) (nI_mod (b := 100) (by decide) (by omega) (by decide)) ?_
  refine ls_r (c2 := c1 + PC A + 10) (s2 := s1 + PS A + 200) C hG.1 rfl ⟨by decide, by decide⟩ h (Nat.le_of_ble_eq_true rfl) dL_law_231 (by omega) (by omega) fun A2 μ2 eA h2 => ?_
  rw [hx, cl] at eA
  rw [hx, cl]
  by_cases h0 : aS A 0 = 0
  · have ka : kSet A true = 0 := by unfold kSet; rw [if_neg (by decide), if_pos h0]
    rw [ka, if_pos rfl] at eA
    rw [ka, exv_oc0]
    have t0 : (0 : Int32) ≤ aV A 1 (w % 8) := (lr h0).1 _ b1
    have eS : aS A2 = aS A := by rw [eA]; rfl
    refine lj_istore C dL_law_234 (by decide) rfl ?_
    refine lj_iload C dL_law_236 (q := 0) rfl ?_
    refine lj_ldc C hG.1.1 lc_L_18 dL_law_238 ?_
    refine lj_icmp_eq_f (tgt := 267) C dL_law_240 (by decide) (m3_ne t0) ?_
    refine lj_aload_n C dL_law_243 rfl (q := 11) rfl ?_
    refine lj_bipush (v := 114) C dL_law_244 (by decide) ?_
    refine lj_iload C dL_law_246 (q := 5) rfl ?_
    refine lj_bipush (v := 8) C dL_law_248 (by decide) ?_
    refine lj_iremE (v := nI (w % 8)) C dL_law_250 (by decide) (nI_mod (b := 8) (by decide) (by omega) (by decide)) ?_
    refine lo_r (c2 := c1 + PC A + 9) (s2 := s1 + PS A + 180) C hG.1 rfl ⟨by decide, by decide⟩ h2 (Nat.le_of_ble_eq_true rfl) dL_law_251 (by omega) (by omega) fun mh1 h1 => ?_
    refine lj_iload C dL_law_254 (q := 5) rfl ?_
    refine lj_bipush (v := 8) C dL_law_256 (by decide) ?_
    refine lj_idivE (v := nI (w / 8)) C dL_law_258 (by decide) (nI_div (b := 8) (by decide) (by omega) (by decide)) ?_
    refine lj_bipush (v := 100) C dL_law_259 (by decide) ?_
    refine lj_iremE (v := nI (w / 8 % 100)) C dL_law_261 (by decide) (nI_mod (b := 100) (by decide) (by omega) (by decide)) ?_
    have z2 : Z0 A2 := h2.2.2.2.1 (by rw [eS]; exact h0)
    have ev : gv (k01 (rok (nI (w % 8)))) (aV A2 1 (aN A2 1 (Int32.toNatClampNeg (nI (w % 8))))) exIAE = nI (w / 8 % 100) := by
      rw [hx, cl, (z2.2.2.1 _ b1).2.1]
      show aV A2 1 (w % 8) = _
      rw [eA, zV_ne _ _ _ (by decide)]
      exact zVv_at _ _ _ _
    refine lj_icmp_eq_t (tgt := 267) C dL_law_262 (by decide) ev ?_
    refine lj_iload C dL_law_267 (q := 0) rfl ?_
    refine lj_ldc C hG.1.1 lc_L_18 dL_law_269 ?_
    refine lj_icmp_ne_t (tgt := 279) C dL_law_271 (by decide) (m3_ne t0) ?_
    refine lj_iconst (v := 0) C dL_law_279 (by decide) ?_
    refine lj_istore C dL_law_280 (by decide) rfl ?_
    refine lj_goto (tgt := 907) C dL_law_282 (by decide) ?_
    refine lj_sub C [0, 3, 4, 6, 7, 8, 9, 10, 11, 12] rfl ?_
    refine lj_w ?_ ?_ (kt 0 pg be inn A2 _ h1 ⟨by rw [eS]; exact l15, by rw [eS]; exact l8, fun q => by rw [eS]; exact l2 q, ?_⟩ fun q => absurd q (by decide))
    · have : PC A2 = PC A := by unfold PC; rw [eS]
      omega
    · have : PS A2 = PS A := by unfold PS; rw [eS]
      omega
    · intro _
      refine ⟨fun r hr => ?_, fun a ha => ?_⟩
      · rw [eA, zV_ne _ _ _ (by decide)]
        by_cases e9 : r = w % 8
        · rw [e9, zVv_at]
          exact nI_pos' (by omega)
        · rw [zVv_nk _ _ e9]
          exact (lr h0).1 r hr
      · rw [eA, zV_ne _ _ _ (by decide), zV_ne _ _ _ (by decide)]
        exact (lr h0).2 a ha
  · have ka : kSet A true = 2 := by unfold kSet; rw [if_neg (by decide), if_neg h0]
    rw [ka, if_neg (by decide)] at eA
    have eB := eA.symm
    subst eB
    rw [ka, exv_oc2]
    refine lj_istore C dL_law_234 (by decide) rfl ?_
    refine lj_iload C dL_law_236 (q := 0) rfl ?_
    refine lj_ldc C hG.1.1 lc_L_18 dL_law_238 ?_
    refine lj_icmp_eq_t (tgt := 267) C dL_law_240 (by decide) rfl ?_
    refine lj_iload C dL_law_267 (q := 0) rfl ?_
    refine lj_ldc C hG.1.1 lc_L_18 dL_law_269 ?_
    refine lj_icmp_ne_f (tgt := 279) C dL_law_271 (by decide) rfl ?_
    refine lj_iload C dL_law_274 (q := 0) rfl ?_
    refine lj_goto (tgt := 280) C dL_law_276 (by decide) ?_
    refine lj_istore C dL_law_280 (by decide) rfl ?_
    refine lj_goto (tgt := 907) C dL_law_282 (by decide) ?_
    refine lj_sub C [0, 3, 4, 6, 7, 8, 9, 10, 11, 12] rfl ?_
    exact lj_w (by omega) (by omega) (kt _ pg be inn A μ2 h2 ⟨l15, l8, l2, lr⟩ fun _ => rfl)
theorem law_c9 (C : CW G mL_law p R s m meth c) (hG : Gok3 l G) {kind w k inn steps pg : Nat} {bf : Int64} {wa be fi : Bool} (hw : w < 100000000) (hf : fi = decide (aS A 0 = 0)) (h : JC b z A μ) (la : LA pg be inn A) (kt : ∀ its pg2 be2 inn2 A2 μ2, JC b z A2 μ2 → LA pg2 be2 inn2 A2 → (its < -2000000000 → A2 = A) → LJ l G mL_law p e R s m args below meth c Q 907 (LT its bf wa b q0 k inn2 be2 steps pg2) [] μ2 (c1 + PC A2) (s1 + PS A2)) : LJ l G mL_law p e R s m args below meth c Q 292 (LMi fi kind bf wa w b q0 k inn be steps pg) [] μ (c1 + PC A + 12) (s1 + PS A + 240) := by
  obtain ⟨l15, l8, l2, lr⟩ := la
  unfold LMi
  have b1 : w % 64 < 64 := Nat.mod_lt _ (by decide)
  have b2 : w / 64 % 1000 < 1000 := Nat.mod_lt _ (by decide)
  have b3 : w / 64 ≤ w := Nat.div_le_self _ _
  have hx : adok (nI (w % 64)) = true := (show ∀ i, i < 64 → adok (nI i) = true by decide) _ b1
  have cl : (nI (w % 64)).toNatClampNeg = w % 64 := clN (by omega)
  refine lj_aload_n C dL_law_292 rfl (q := 11) rfl ?_
  refine lj_bipush (v := 119) C dL_law_293 (by decide) ?_
  refine lj_iload C dL_law_295 (q := 5) rfl ?_
  refine lj_bipush (v := 64) C dL_law_297 (by decide) ?_
  refine lj_iremE (v := nI (w % 64)) C dL_law_299 (by decide) (nI_mod (b := 64) (by decide) (by omega) (by decide)) ?_
  refine lj_iload C dL_law_300 (q := 5) rfl ?_
  refine lj_bipush (v := 64) C dL_law_302 (by decide) ?_
  refine lj_idivE (v := nI (w / 64)) C dL_law_304 (by decide) (nI_div (b := 64) (by decide) (by omega) (by decide)) ?_
  refine lj_sipush (v := 1000) C dL_law_305 (by decide) ?_
  refine lj_iremE (v := nI (w / 64 % 1000)) C dL_law_308 (by decide) (nI_mod (b := 1000) (by decide) (by omega) (by decide)) ?_
  refine ls_w (c2 := c1 + PC A + 10) (s2 := s1 + PS A + 200) C hG.1 rfl ⟨by decide, by decide⟩ h (Nat.le_of_ble_eq_true rfl) dL_law_309 (by omega) (by omega) fun A2 μ2 eA h2 => ?_
  rw [hx, cl] at eA
  rw [hx, cl]
  by_cases h0 : aS A 0 = 0
  · have ka : kSet A true = 0 := by unfold kSet; rw [if_neg (by decide), if_pos h0]
    rw [ka, if_pos rfl] at eA
    rw [ka, exv_oc0]
    have t0 : (0 : Int32) ≤ aV A 2 (w % 64) := (lr h0).2 _ b1
    have eS : aS A2 = aS A := by rw [eA]; rfl
    refine lj_istore C dL_law_312 (by decide) rfl ?_
    refine lj_iload C dL_law_314 (q := 0) rfl ?_
    refine lj_ldc C hG.1.1 lc_L_18 dL_law_316 ?_
    refine lj_icmp_eq_f (tgt := 346) C dL_law_318 (by decide) (m3_ne t0) ?_
    refine lj_aload_n C dL_law_321 rfl (q := 11) rfl ?_
    refine lj_bipush (v := 119) C dL_law_322 (by decide) ?_
    refine lj_iload C dL_law_324 (q := 5) rfl ?_
    refine lj_bipush (v := 64) C dL_law_326 (by decide) ?_
    refine lj_iremE (v := nI (w % 64)) C dL_law_328 (by decide) (nI_mod (b := 64) (by decide) (by omega) (by decide)) ?_
    refine lo_w (c2 := c1 + PC A + 9) (s2 := s1 + PS A + 180) C hG.1 rfl ⟨by decide, by decide⟩ h2 (Nat.le_of_ble_eq_true rfl) dL_law_329 (by omega) (by omega) fun mh1 h1 => ?_
    refine lj_iload C dL_law_332 (q := 5) rfl ?_
    refine lj_bipush (v := 64) C dL_law_334 (by decide) ?_
    refine lj_idivE (v := nI (w / 64)) C dL_law_336 (by decide) (nI_div (b := 64) (by decide) (by omega) (by decide)) ?_
    refine lj_sipush (v := 1000) C dL_law_337 (by decide) ?_
    refine lj_iremE (v := nI (w / 64 % 1000)) C dL_law_340 (by decide) (nI_mod (b := 1000) (by decide) (by omega) (by decide)) ?_
    have ev : gv (k01 (adok (nI (w % 64)))) (aV A2 2 (Int32.toNatClampNeg (nI (w % 64)))) exIAE = nI (w / 64 % 1000) := by
      rw [hx, cl]
      show aV A2 2 (w % 64) = _
      rw [eA, zV_ne _ _ _ (by decide)]
      exact zVv_at _ _ _ _
    refine lj_icmp_eq_t (tgt := 346) C dL_law_341 (by decide) ev ?_
    refine lj_iload C dL_law_346 (q := 0) rfl ?_
    refine lj_ldc C hG.1.1 lc_L_18 dL_law_348 ?_
    refine lj_icmp_ne_t (tgt := 358) C dL_law_350 (by decide) (m3_ne t0) ?_
    refine lj_iconst (v := 0) C dL_law_358 (by decide) ?_
    refine lj_istore C dL_law_359 (by decide) rfl ?_
    refine lj_goto (tgt := 907) C dL_law_361 (by decide) ?_
    refine lj_sub C [0, 3, 4, 6, 7, 8, 9, 10, 11, 12] rfl ?_
    refine lj_w ?_ ?_ (kt 0 pg be inn A2 _ h1 ⟨by rw [eS]; exact l15, by rw [eS]; exact l8, fun q => by rw [eS]; exact l2 q, ?_⟩ fun q => absurd q (by decide))
    · have : PC A2 = PC A := by unfold PC; rw [eS]
      omega
    · have : PS A2 = PS A := by unfold PS; rw [eS]
      omega
    · intro _
      refine ⟨fun r hr => ?_, fun a ha => ?_⟩
      · rw [eA, zV_ne _ _ _ (by decide), zV_ne _ _ _ (by decide)]
        exact (lr h0).1 r hr
      · rw [eA, zV_ne _ _ _ (by decide)]
        by_cases e9 : a = w % 64
        · rw [e9, zVv_at]
          exact nI_pos' (by omega)
        · rw [zVv_nk _ _ e9]
          exact (lr h0).2 a ha
  · have ka : kSet A true = 2 := by unfold kSet; rw [if_neg (by decide), if_neg h0]
    rw [ka, if_neg (by decide)] at eA
    have eB := eA.symm
    subst eB
    rw [ka, exv_oc2]
    refine lj_istore C dL_law_312 (by decide) rfl ?_
    refine lj_iload C dL_law_314 (q := 0) rfl ?_
    refine lj_ldc C hG.1.1 lc_L_18 dL_law_316 ?_
    refine lj_icmp_eq_t (tgt := 346) C dL_law_318 (by decide) rfl ?_
    refine lj_iload C dL_law_346 (q := 0) rfl ?_
    refine lj_ldc C hG.1.1 lc_L_18 dL_law_348 ?_
    refine lj_icmp_ne_f (tgt := 358) C dL_law_350 (by decide) rfl ?_
    refine lj_iload C dL_law_353 (q := 0) rfl ?_
    refine lj_goto (tgt := 359) C dL_law_355 (by decide) ?_
    refine lj_istore C dL_law_359 (by decide) rfl ?_
    refine lj_goto (tgt := 907) C dL_law_361 (by decide) ?_
    refine lj_sub C [0, 3, 4, 6, 7, 8, 9, 10, 11, 12] rfl ?_
    exact lj_w (by omega) (by omega) (kt _ pg be inn A μ2 h2 ⟨l15, l8, l2, lr⟩ fun _ => rfl)
theorem law_c11 (C : CW G mL_law p R s m meth c) (hG : Gok3 l G) {kind w k inn steps pg : Nat} {bf : Int64} {wa be fi : Bool} (hw : w < 100000000) (hf : fi = decide (aS A 0 = 0)) (h : JC b z A μ) (la : LA pg be inn A) (kt : ∀ its pg2 be2 inn2 A2 μ2, JC b z A2 μ2 → LA pg2 be2 inn2 A2 → (its < -2000000000 → A2 = A) → LJ l G mL_law p e R s m args below meth c Q 907 (LT its bf wa b q0 k inn2 be2 steps pg2) [] μ2 (c1 + PC A2) (s1 + PS A2)) : LJ l G mL_law p e R s m args below meth c Q 586 (LMi fi kind bf wa w b q0 k inn be steps pg) [] μ (c1 + PC A + 2) (s1 + PS A + 40) := by
  obtain ⟨l15, l8, l2, lr⟩ := la
  unfold LMi
  refine lj_aload_n C dL_law_586 rfl (q := 11) rfl ?_
  refine lj_wf fun wf => ?_
  obtain ⟨fr, ⟨G1, ar, s0, hr⟩, ai⟩ := id h
  obtain ⟨μ2, ef, fr', hr', ck⟩ := c_interrupt fr hr ai.s2
  have ai' : AI (zS A 2 1) := ⟨iy_intr ai.1, fun q => z0_S (ai.2.1 q) (Or.inr (Or.inr (Or.inr ⟨rfl, by decide⟩))), ai.2.2⟩
  have h2 : JC b z (zS A 2 1) μ2 := ⟨fr', ⟨_, _, _, hr'⟩, ai'⟩
  refine lj_callV (As := []) (c2 := c1 + PC A + 2) (s2 := s1 + PS A + 40) C hG.1.1 mf_X10_interrupt cvP_242 h.kb ⟨by decide, by decide⟩ rfl rfl (Nat.le_of_ble_eq_true rfl) (s_X10_interrupt hG.1.1 _ _ _ _ ef) (Nat.le_of_ble_eq_true rfl) dL_law_587 (by have := ck.2.2.1; omega) (by have := ck.2.2.2.1; omega) ?_
  have fin : LJ l G mL_law p e R s m args below meth c Q 600 (LMi fi kind bf wa w b q0 k inn be steps pg) [] μ2 (c1 + PC A + 2) (s1 + PS A + 40) := by
    unfold LMi
    refine lj_iconst (v := 1) C dL_law_600 (by decide) ?_
    refine lj_istore C dL_law_601 (by decide) rfl ?_
    refine lj_goto (tgt := 907) C dL_law_603 (by decide) ?_
    refine lj_sub C [3, 4, 5, 7, 8, 0, 9, 10, 11, 12] rfl ?_
    have eS : ∀ i, i ≠ 2 → aS (zS A 2 1) i = aS A i := fun i hi => zS_ne _ _ hi
    refine lj_w ?_ ?_ (kt 0 pg true inn (zS A 2 1) μ2 h2 ⟨by rw [eS 15 (by decide)]; exact l15, by rw [eS 8 (by decide)]; exact l8, fun q => absurd q (by decide), fun q => lr (by rw [eS 0 (by decide)] at q; exact q)⟩ fun q => absurd q (by decide))
    · have : PC (zS A 2 1) = PC A := by unfold PC; rw [eS 0 (by decide), eS 1 (by decide), eS 14 (by decide)]
      omega
    · have : PS (zS A 2 1) = PS A := by unfold PS; rw [eS 0 (by decide), eS 1 (by decide), eS 14 (by decide)]
      omega
  unfold LMi at fin
  by_cases h9 : aS A 2 = 0
  · rw [h9]
    refine lj_if_eq_t (tgt := 600) C dL_law_590 (by decide) rfl ?_
    exact fin
  · have n9 : ¬ nI (aS A 2) = 0 := nI_ne0 (by omega) (by have := ai.s2; omega)
    have eb : be = true := by cases be with
      | true => rfl
      | false => exact absurd (l2 rfl) h9
    subst eb
    refine lj_if_eq_f (tgt := 600) C dL_law_590 (by decide) n9 ?_
    refine lj_iload C dL_law_593 (q := 8) rfl ?_
    refine lj_if_ne_t (tgt := 600) C dL_law_595 (by decide) (by decide) ?_
    exact fin
theorem law_c12 (C : CW G mL_law p R s m meth c) (hG : Gok3 l G) {kind w k inn steps pg : Nat} {bf : Int64} {wa be fi : Bool} (hw : w < 100000000) (hf : fi = decide (aS A 0 = 0)) (h : JC b z A μ) (la : LA pg be inn A) (kt : ∀ its pg2 be2 inn2 A2 μ2, JC b z A2 μ2 → LA pg2 be2 inn2 A2 → (its < -2000000000 → A2 = A) → LJ l G mL_law p e R s m args below meth c Q 907 (LT its bf wa b q0 k inn2 be2 steps pg2) [] μ2 (c1 + PC A2) (s1 + PS A2)) : LJ l G mL_law p e R s m args below meth c Q 613 (LMi fi kind bf wa w b q0 k inn be steps pg) [] μ (c1 + PC A + 4) (s1 + PS A + 80) := by
  obtain ⟨l15, l8, l2, lr⟩ := la
  unfold LMi
  have b1 : w % 16 < 16 := Nat.mod_lt _ (by decide)
  have b2 : w / 16 % 30 < 30 := Nat.mod_lt _ (by decide)
  have b3 : w / 16 ≤ w := Nat.div_le_self _ _
  have cl : (nI (w % 16)).toNatClampNeg = w % 16 := clN (by omega)
  have hk : kTm (nI (w % 16)) (nI (1 + w / 16 % 30)) = 0 := by
    have c : ∀ i, i < 16 → ∀ j, j < 30 → kTm (nI i) (nI (1 + j)) = 0 := by decide
    exact c _ b1 _ b2
  refine lj_aload_n C dL_law_613 rfl (q := 11) rfl ?_
  refine lj_bipush (v := 116) C dL_law_614 (by decide) ?_
  refine lj_iload C dL_law_616 (q := 5) rfl ?_
  refine lj_bipush (v := 16) C dL_law_618 (by decide) ?_
  refine lj_iremE (v := nI (w % 16)) C dL_law_620 (by decide) (nI_mod (b := 16) (by decide) (by omega) (by decide)) ?_
  refine lj_iconst (v := 1) C dL_law_621 (by decide) ?_
  refine lj_iload C dL_law_622 (q := 5) rfl ?_
  refine lj_bipush (v := 16) C dL_law_624 (by decide) ?_
  refine lj_idivE (v := nI (w / 16)) C dL_law_626 (by decide) (nI_div (b := 16) (by decide) (by omega) (by decide)) ?_
  refine lj_bipush (v := 30) C dL_law_627 (by decide) ?_
  refine lj_iremE (v := nI (w / 16 % 30)) C dL_law_629 (by decide) (nI_mod (b := 30) (by decide) (by omega) (by decide)) ?_
  refine lj_iaddE (v := nI (1 + w / 16 % 30)) C dL_law_630 (nI_addR (b := 1) (by decide)) ?_
  refine ls_t (c2 := c1 + PC A + 2) (s2 := s1 + PS A + 40) C hG.1 rfl ⟨by decide, by decide⟩ h (Nat.le_of_ble_eq_true rfl) dL_law_631 (by omega) (by omega) fun A2 μ2 eA h2 => ?_
  rw [hk, cl, if_pos rfl] at eA
  rw [hk, cl, exv_oc0]
  obtain ⟨t1, t2⟩ := h.2.2.a6 _ b1
  refine lj_istore C dL_law_634 (by decide) rfl ?_
  refine lj_iload C dL_law_636 (q := 0) rfl ?_
  refine lj_iconst (v := 1) C dL_law_638 (by decide) ?_
  refine lj_icmp_lt_f (tgt := 649) C dL_law_639 (by decide) (nI_nlt (a := aN A 6 (w % 16)) (b := 1) t1 (by omega)) ?_
  refine lj_iload C dL_law_642 (q := 0) rfl ?_
  refine lj_bipush (v := 30) C dL_law_644 (by decide) ?_
  refine lj_icmp_le_t (tgt := 907) C dL_law_646 (by decide) (nI_le (a := aN A 6 (w % 16)) (b := 30) t2 (by decide)) ?_
  refine lj_sub C [0, 3, 4, 6, 7, 8, 9, 10, 11, 12] rfl ?_
  have eS : aS A2 = aS A := by rw [eA]; rfl
  have eV : aV A2 = aV A := by rw [eA]; rfl
  refine lj_w ?_ ?_ (kt _ pg be inn A2 μ2 h2 ⟨by rw [eS]; exact l15, by rw [eS]; exact l8, fun q => by rw [eS]; exact l2 q, fun q => by rw [eV]; exact lr (by rw [eS] at q; exact q)⟩ fun q => absurd q (m2_lt (nI_pos' (by omega))))
  · have : PC A2 = PC A := by unfold PC; rw [eS]
    omega
  · have : PS A2 = PS A := by unfold PS; rw [eS]
    omega
end LAW5
