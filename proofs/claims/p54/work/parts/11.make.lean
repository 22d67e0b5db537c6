/-! new cells -/
def NWs (own : String) (ix ci N : Nat) : Prop := ∃ r : vw_C, vwCl[ci]? = some r ∧ r.2.2 = N ∧ Cond.classLink own ix r.1 ∈ lw_tbl ∧ Cond.instantiable r.1 N ∈ lw_tbl ∧ Cond.initialized r.1 ∈ lw_tbl
theorem NWs.of {own : String} {ix ci N : Nat} (r : vw_C) (h1 : vwCl[ci]? = some r) (h2 : r.2.2 = N) (i j k : Nat) (h3 : lw_tbl[i]? = some (Cond.classLink own ix r.1)) (h4 : lw_tbl[j]? = some (Cond.instantiable r.1 N)) (h5 : lw_tbl[k]? = some (Cond.initialized r.1)) : NWs own ix ci N := ⟨r, h1, h2, List.mem_of_getElem? h3, List.mem_of_getElem? h4, List.mem_of_getElem? h5⟩
theorem tc_dv {ty : FieldType} {t : Nat} (h : tcode ty = t) (ht : t < 9) (μ : Mm) (a k : Nat) (hi : mI μ a k = 0) (hr : mR μ a k = none) : defaultValue ty = fval t μ a k := by
  subst h
  cases ty <;> first
    | (show Value.int 0 = Value.int (mI μ a k); rw [hi])
    | (show Value.int 0 = Value.int (zb (mI μ a k)); rw [hi, zb_0])
    | (show Value.int 0 = Value.int (zc (mI μ a k)); rw [hi]; decide)
    | (show Value.null = va_rf (mR μ a k); rw [hr]; rfl)
    | (exact absurd ht (by simp [tcode]))
theorem nw_I (μ : Mm) (κ len sl : Nat) : mI (nw μ κ len sl) (mN μ) = fun _ => 0 := up1_eq _ _ _
theorem nw_R (μ : Mm) (κ len sl : Nat) : mR (nw μ κ len sl) (mN μ) = fun _ => none := up1_eq _ _ _
theorem nw_J (μ : Mm) (κ len sl : Nat) : mJ (nw μ κ len sl) (mN μ) = fun _ => 0 := up1_eq _ _ _
theorem nw_K (μ : Mm) (κ len sl : Nat) : mK (nw μ κ len sl) (mN μ) = κ := up1_eq _ _ _
theorem nw_L (μ : Mm) (κ len sl : Nat) : mL (nw μ κ len sl) (mN μ) = len := up1_eq _ _ _
theorem zft_lt (ci k : Nat) : zfc ci k < 9 := by
  unfold zfc
  have h : ∀ x ∈ zft, ∀ y ∈ x, y < 9 := by decide
  by_cases h1 : ci < zft.length
  · have e : zft.getD ci [] = zft[ci] := by simp [List.getD, h1]
    rw [e]
    by_cases h2 : k < (zft[ci]).length
    · have e2 : (zft[ci]).getD k 0 = (zft[ci])[k] := by simp [List.getD, h2]
      rw [e2]
      exact h _ (List.getElem_mem h1) _ (List.getElem_mem h2)
    · have e2 : (zft[ci]).getD k 0 = 0 := by simp [List.getD, Nat.le_of_not_lt h2]
      rw [e2]
      omega
  · have e : zft.getD ci [] = [] := by simp [List.getD, Nat.le_of_not_lt h1]
    rw [e]
    show (0 : Nat) < 9
    omega
section ZXN
variable {l : Launch} {G : Gt} {Y : MD} {pc : Nat} {L : List (Nat × Value)} {st : List Value} {μ μ' : Mm} {r : Rs}
theorem zx_new {ix ci N : Nat} (hG : Gok l G) (f : NWs Y.own ix ci N) (d : decode Y.cc pc = .ok (.new ix, 3)) (kk : ZX l G Y (pc + 3) L (.ref (mN μ) :: st) (nw μ (100 + ci) 0 N) r μ') : ZX l G Y pc L st μ r μ' := by
  obtain ⟨⟨y1, y2⟩, y3⟩ := id kk
  have y1' : mN μ + 1 ≤ mN μ' := y1
  have y2' : mS μ + N ≤ mS μ' := y2
  refine ⟨⟨by omega, by omega⟩, fun p e R s m args below meth c H locs cells slots ls C h1 h2 h3 h4 h5 hl => ?_⟩
  obtain ⟨hx, hb, hml, hown, hret, hlk, hW, C9⟩ := id C
  obtain ⟨q, f1, f2, f3, f4, f5⟩ := f
  obtain ⟨ty, z1, z2, z3, z4, z5⟩ := zC_of f1
  have hts : ∀ w ∈ u_ws q.1 q.2.1 q.2.2, w.before args s = true := fun w hw => by
    have hg : goodWord w = true := by
      obtain ⟨j, -, rfl⟩ := List.mem_map.mp hw
      unfold u_lay
      split <;> rfl
    exact zw hG hW (z2 w hw) hg args
  have hKn := (hG.K hW).1 ci _ f1
  have hz := h1.2.1
  refine W.newcK hx hb hown (zw hG hW f3 rfl args) (zw hG hW f4 rfl args) (zw hG hW f5 rfl args) rfl d (by omega) (by omega) hKn.2.1 hz fun H1 kC hkC e1 e2 e3 => ?_
  have hs1 : Sim G (nw μ (100 + ci) 0 N) H1 := h1.new (by rw [e2, hz]) (fun x hx => e3 x (by omega)) fun _ => by
    rw [zOk_obj (nw_K _ _ _ _)]
    refine ⟨q, f1, (u_born ty hts (fun w h => h) hKn hkC e1 z3).to fun k hk => ?_⟩
    exact tc_dv (z4 k hk) (zft_lt _ _) _ _ _ (by rw [nw_I]) (by rw [nw_R])
  refine y3 p e R s m args below meth c H1 _ (cells + 1) (slots + N) ls C hs1 (by omega) h3 ?_ ?_ hl
  · show cells + 1 + (mN μ' - (mN μ + 1)) ≤ R.cells
    omega
  · show slots + N + (mS μ' - (mS μ + N)) ≤ R.slots
    omega
theorem aval_nw {κ' κ len sl : Nat} (h1 : κ' = 1 ∨ κ' = 2) : aval κ' (nw μ κ len sl) (mN μ) = fun _ => .int 0 := by
  funext j
  rcases h1 with rfl | rfl
  · show Value.int (mI _ _ _) = _
    rw [nw_I]
  · show Value.int (zb (mI _ _ _)) = _
    rw [nw_I, zb_0]
theorem aval_nwR {κ' κ len sl : Nat} (h1 : κ' = 5 ∨ κ' = 6) : aval κ' (nw μ κ len sl) (mN μ) = fun _ => .null := by
  funext j
  rcases h1 with rfl | rfl
  · show va_rf (mR _ _ _) = _
    rw [nw_R]
    rfl
  · show va_rf (mR _ _ _) = _
    rw [nw_R]
    rfl
/-- new int[n], new boolean[n] -/
theorem zx_newa {n : Int32} (κ : Nat) {at9 : ArrayType} (hG : Gok l G) (hw : Cond.arrayClass (newarray.typeOf at9) ∈ lw_tbl) (hκ : κ < 100) (hm : (κ % 10 = 1 ∧ at9 = .int) ∨ (κ % 10 = 2 ∧ at9 = .boolean)) (hn : ¬ n < 0) (hsm : n.toNatClampNeg ≤ 100000) (d : decode Y.cc pc = .ok (.newarray at9, 2)) (kk : ZX l G Y (pc + 2) L (.ref (mN μ) :: st) (nw μ κ n.toNatClampNeg n.toNatClampNeg) r μ') : ZX l G Y pc L (.int n :: st) μ r μ' := by
  obtain ⟨⟨y1, y2⟩, y3⟩ := id kk
  have y1' : mN μ + 1 ≤ mN μ' := y1
  have y2' : mS μ + n.toNatClampNeg ≤ mS μ' := y2
  refine ⟨⟨by omega, by omega⟩, fun p e R s m args below meth c H locs cells slots ls C h1 h2 h3 h4 h5 hl => ?_⟩
  obtain ⟨hx, hb, hml, hown, hret, hlk, hW, C9⟩ := id C
  have hz := h1.2.1
  refine va_newaK hx hb (zw hG hW hw rfl args) rfl d rfl hn rfl ?_ (by omega) (by omega) hz fun H1 cA e1 e2 e3 hAr hNm => ?_
  · rcases hm with ⟨-, rfl⟩ | ⟨-, rfl⟩
    · show n.toNatClampNeg * 4 ≤ 536870912
      omega
    · show n.toNatClampNeg * 1 ≤ 536870912
      omega
  have hs1 : Sim G (nw μ κ n.toNatClampNeg n.toNatClampNeg) H1 := h1.new (by rw [e2, hz]) (fun x hx => e3 x (by omega)) fun _ => by
    rw [zOk_arr (nw_K _ _ _ _) hκ, nw_L, e1]
    rcases hm with ⟨hm, rfl⟩ | ⟨hm, rfl⟩
    · rw [hm, aval_nw (Or.inl rfl)]
      have hc : cA = G.2.2.1 1 := by
        have h9 := va_nm_int ((hG.K hW).2 0 _ rfl).2
        have h8 : s.vm.findClass "[I" = some cA := va_nm_int hNm
        exact Option.some.inj (h8.symm.trans h9)
      rw [hc]
      rfl
    · rw [hm, aval_nw (Or.inr rfl)]
      have hc : cA = G.2.2.1 2 := by
        have h9 := va_nm_boolean ((hG.K hW).2 1 _ rfl).2
        have h8 : s.vm.findClass "[Z" = some cA := va_nm_boolean hNm
        exact Option.some.inj (h8.symm.trans h9)
      rw [hc]
      rfl
  refine y3 p e R s m args below meth c H1 _ (cells + 1) (slots + n.toNatClampNeg) ls C hs1 (by omega) h3 ?_ ?_ hl
  · show cells + 1 + (mN μ' - (mN μ + 1)) ≤ R.cells
    omega
  · show slots + n.toNatClampNeg + (mS μ' - (mS μ + n.toNatClampNeg)) ≤ R.slots
    omega
theorem Gok.AO {s : State} (hG : Gok l G) (hW : G.1.WarmedH s.vm) {C : String} (h : Cond.arrayOver (.object C) ∈ lw_tbl) : va_AO C s := by
  obtain ⟨-, ⟨a0, h0⟩, -⟩ := hG
  exact va_AO.moved hW.alike (h0 _ h)
theorem Gok.AA {s : State} (hG : Gok l G) (hW : G.1.WarmedH s.vm) {t : FieldType} (h : Cond.arrayOver (.array t) ∈ lw_tbl) (args : Array Value) : (Cond.arrayOver (.array t)).before args s = true := by
  obtain ⟨-, ⟨a0, h0⟩, -⟩ := hG
  exact arrayOver_alikeB hW.alike (h0 _ h)
/-- new Object[n] -/
theorem zx_newO {n : Int32} {ix : Nat} (κ : Nat) (hG : Gok l G) (hw : Cond.classLink Y.own ix "java/lang/Object" ∈ lw_tbl) (ha : Cond.arrayOver (.object "java/lang/Object") ∈ lw_tbl) (hκ : κ < 100) (hm : κ % 10 = 6) (hn : ¬ n < 0) (hsm : n.toNatClampNeg ≤ 100000) (d : decode Y.cc pc = .ok (.anewarray ix, 3)) (kk : ZX l G Y (pc + 3) L (.ref (mN μ) :: st) (nw μ κ n.toNatClampNeg n.toNatClampNeg) r μ') : ZX l G Y pc L (.int n :: st) μ r μ' := by
  obtain ⟨⟨y1, y2⟩, y3⟩ := id kk
  have y1' : mN μ + 1 ≤ mN μ' := y1
  have y2' : mS μ + n.toNatClampNeg ≤ mS μ' := y2
  refine ⟨⟨by omega, by omega⟩, fun p e R s m args below meth c H locs cells slots ls C h1 h2 h3 h4 h5 hl => ?_⟩
  obtain ⟨hx, hb, hml, hown, hret, hlk, hW, C9⟩ := id C
  have hz := h1.2.1
  refine W.anew hx hb hown (zw hG hW hw rfl args) (va_AO.use (hG.AO hW ha)) rfl d rfl hn (by omega) (by omega) (by omega) fun cA kA comp g1 g2 g3 g4 => ?_
  have e2 : ∀ x9 : Cell, (H.push x9).size = H.size + 1 := fun x9 => Array.size_push ..
  have hs1 : Sim G (nw μ κ n.toNatClampNeg n.toNatClampNeg) (H.push { cls := cA, slots := Array.replicate n.toNatClampNeg .null, vm := .none }) := h1.new (e2 _) (fun q hq => by rw [Array.getElem?_push, if_neg (Nat.ne_of_lt hq)]) fun _ => by
    rw [zOk_arr (nw_K _ _ _ _) hκ, nw_L, hm, aval_nwR (Or.inr rfl), ← hz, Array.getElem?_push_size, arrV_new]
    have h9 := ((hG.K hW).2 5 _ rfl).2
    obtain ⟨kA', comp', k1, k2, k3, k4⟩ := h9
    have hc : cA = G.2.2.1 6 := Option.some.inj (g1.symm.trans k4)
    rw [hc]
  rw [hz]
  refine y3 p e R s m args below meth c _ _ (cells + 1) (slots + n.toNatClampNeg) ls C hs1 (by rw [e2]; omega) h3 ?_ ?_ hl
  · show cells + 1 + (mN μ' - (mN μ + 1)) ≤ R.cells
    omega
  · show slots + n.toNatClampNeg + (mS μ' - (mS μ + n.toNatClampNeg)) ≤ R.slots
    omega
end ZXN
