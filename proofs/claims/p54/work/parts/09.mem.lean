/-! rows of ZX that read or write the memory -/
/-- a word of the tables, wherever the walk stands -/
theorem zw {l : Launch} {G : Gt} {s : State} (hG : Gok l G) (hW : G.1.WarmedH s.vm) {w : Jvm.Cond} (hw : w ∈ lw_tbl) (hg : goodWord w = true) (args : Array Value) : w.before args s = true := by
  obtain ⟨-, ⟨a0, h⟩, -⟩ := hG
  exact word_at hW (good_of_word hg) (h w hw)
/-- the class's pool entry ix is the field k of the class ci, of the kind t -/
def FL (own : String) (ix ci k t : Nat) : Prop := ∃ (ref : String) (r : vw_C), vwCl[ci]? = some r ∧ k < r.2.2 ∧ Jvm.Cond.fieldLink own ix ref (r.2.1 k).2.1 (r.2.1 k).2.2.1 ∈ lw_tbl ∧ ((r.2.1 k).1 = ref ∨ Jvm.Cond.sameField ref (r.2.1 k).1 (r.2.1 k).2.1 (r.2.1 k).2.2.1 ∈ lw_tbl) ∧ zfc ci k = t
theorem FL.of {own : String} {ix ci k t : Nat} (r : vw_C) (h1 : vwCl[ci]? = some r) (h2 : k < r.2.2) (i : Nat) (h3 : lw_tbl[i]? = some (.fieldLink own ix (r.2.1 k).1 (r.2.1 k).2.1 (r.2.1 k).2.2.1)) (h4 : zfc ci k = t) : FL own ix ci k t := ⟨_, r, h1, h2, List.mem_of_getElem? h3, Or.inl rfl, h4⟩
theorem FL.ofS {own : String} {ix ci k t : Nat} (ref : String) (r : vw_C) (h1 : vwCl[ci]? = some r) (h2 : k < r.2.2) (i j : Nat) (h3 : lw_tbl[i]? = some (.fieldLink own ix ref (r.2.1 k).2.1 (r.2.1 k).2.2.1)) (h5 : lw_tbl[j]? = some (.sameField ref (r.2.1 k).1 (r.2.1 k).2.1 (r.2.1 k).2.2.1)) (h4 : zfc ci k = t) : FL own ix ci k t := ⟨_, r, h1, h2, List.mem_of_getElem? h3, Or.inr (List.mem_of_getElem? h5), h4⟩
theorem FL.same {l : Launch} {G : Gt} {s : State} {ref O n d : String} (hG : Gok l G) (hW : G.1.WarmedH s.vm) (h : O = ref ∨ Jvm.Cond.sameField ref O n d ∈ lw_tbl) (x : ClassId × Class × Nat × Field) (hx : s.fieldFound? O n d = some x) : s.fieldFound? ref n d = some x := by
  rcases h with h | h
  · rw [← h]; exact hx
  · exact u_same (args := #[]) (zw hG hW h rfl _) x hx
theorem Gok.K {l : Launch} {G : Gt} {s : State} (hG : Gok l G) (hW : G.1.WarmedH s.vm) : va_K G.2.1 vwCl (ztys G) s := va_K.moved hW.alike hG.2.2.1
section ZXM
variable {l : Launch} {G : Gt} {Y : MD} {pc : Nat} {L : List (Nat × Value)} {st : List Value} {μ μ' : Mm} {r : Rs}
theorem zx_get {ix ci k t a : Nat} (hG : Gok l G) (f : FL Y.own ix ci k t) (hk : mK μ a = 100 + ci) (d : decode Y.cc pc = .ok (.getfield ix, 3)) (kk : ZX l G Y (pc + 3) L (fval t μ a k :: st) μ r μ') : ZX l G Y pc L (.ref a :: st) μ r μ' := by
  refine ⟨kk.1, fun p e R s m args below meth c H locs cells slots ls C h1 h2 h3 h4 h5 hl => ?_⟩
  have k2 := kk.2 p e R s m args below meth c H locs cells slots ls C h1 h2 h3 h4 h5 hl
  obtain ⟨hx, hb, hml, hown, hret, hlk, hW, -⟩ := C
  obtain ⟨ref, q, f1, f2, f3, f4, f5⟩ := f
  obtain ⟨ty, -, z2, -⟩ := zC_of f1
  have hts : ∀ w ∈ u_ws q.1 q.2.1 q.2.2, w.before args s = true := fun w hw => by
    have hg : goodWord w = true := by
      obtain ⟨j, -, rfl⟩ := List.mem_map.mp hw
      unfold u_lay
      split <;> rfl
    exact zw hG hW (z2 w hw) hg args
  obtain ⟨r9, g1, cell, q1, q2, q3, q4⟩ := (zOk_obj hk).mp (h1.zo (a := a) (by omega) (by omega)).1
  cases Option.some.inj (g1.symm.trans f1)
  obtain ⟨hS, hfc, kC, hkC, hkind⟩ := (hG.K hW).1 ci _ f1
  obtain ⟨cf, kf, fi, fd, hi, hsl⟩ := hS k f2
  refine W.getf hx hb hown (zw hG hW f3 rfl args) (FL.same hG hW f4 _ hi) (u_facts (args := args) hfc hkC (u_lays hts (fun w h => h) f2) hi).1 q1 (by rw [q3]; exact fun h => by cases h) (v := fval t μ a k) ?_ rfl rfl d k2
  rw [hsl, q4 k f2]
  show some (fval (zfc ci k) μ a k) = _
  rw [f5]
theorem zx_getI {ix ci k a : Nat} (hG : Gok l G) (f : FL Y.own ix ci k 0) (hk : mK μ a = 100 + ci) (d : decode Y.cc pc = .ok (.getfield ix, 3)) (kk : ZX l G Y (pc + 3) L (.int (mI μ a k) :: st) μ r μ') : ZX l G Y pc L (.ref a :: st) μ r μ' := zx_get hG f hk d kk
theorem zx_getZ {ix ci k a : Nat} (hG : Gok l G) (f : FL Y.own ix ci k 1) (hk : mK μ a = 100 + ci) (d : decode Y.cc pc = .ok (.getfield ix, 3)) (kk : ZX l G Y (pc + 3) L (.int (zb (mI μ a k)) :: st) μ r μ') : ZX l G Y pc L (.ref a :: st) μ r μ' := zx_get hG f hk d kk
theorem zx_getC {ix ci k a : Nat} (hG : Gok l G) (f : FL Y.own ix ci k 2) (hk : mK μ a = 100 + ci) (d : decode Y.cc pc = .ok (.getfield ix, 3)) (kk : ZX l G Y (pc + 3) L (.int (zc (mI μ a k)) :: st) μ r μ') : ZX l G Y pc L (.ref a :: st) μ r μ' := zx_get hG f hk d kk
theorem zx_getR {ix ci k a b : Nat} (hG : Gok l G) (f : FL Y.own ix ci k 3) (hk : mK μ a = 100 + ci) (hr : mR μ a k = some b) (d : decode Y.cc pc = .ok (.getfield ix, 3)) (kk : ZX l G Y (pc + 3) L (.ref b :: st) μ r μ') : ZX l G Y pc L (.ref a :: st) μ r μ' := by
  refine zx_get hG f hk d ?_
  unfold fval
  rw [hr]
  exact kk
/-- a store into a field -/
theorem zx_put {ix ci k t a : Nat} {v : Value} {μ1 : Mm} (fin : Bool) (hG : Gok l G) (f : FL Y.own ix ci k t) (hf : ∀ q : vw_C, vwCl[ci]? = some q → (q.2.1 k).2.2.2 = fin ∧ (fin = true → Y.y.name = "<init>" ∧ (q.2.1 k).1 = Y.own)) (hk : mK μ a = 100 + ci) (hn : ∀ ty : FieldType, tcode ty = t → narrow ty v = v ∧ fits ty v = true)
    (eK : mK μ1 = mK μ) (eL : mL μ1 = mL μ) (eN : mN μ1 = mN μ) (eS : mS μ1 = mS μ) (hne : ∀ b, b ≠ a → mI μ1 b = mI μ b ∧ mR μ1 b = mR μ b ∧ mJ μ1 b = mJ μ b) (hv : ∀ j t', fval t' μ1 a j = if j = k then (if t' = t then v else fval t' μ1 a j) else fval t' μ a j)
    (d : decode Y.cc pc = .ok (.putfield ix, 3)) (kk : ZX l G Y (pc + 3) L st μ1 r μ') : ZX l G Y pc L (v :: .ref a :: st) μ r μ' := by
  refine ⟨by rw [← eN, ← eS]; exact kk.1, fun p e R s m args below meth c H locs cells slots ls C h1 h2 h3 h4 h5 hl => ?_⟩
  have C0 := C
  obtain ⟨hx, hb, hml, hown, hret, hlk, hW, -, -, -, hname, -⟩ := C
  obtain ⟨ref, q, f1, f2, f3, f4, f5⟩ := f
  obtain ⟨ty, z1, z2, z3, z4, z5⟩ := zC_of f1
  have hts : ∀ w ∈ u_ws q.1 q.2.1 q.2.2, w.before args s = true := fun w hw => by
    have hg : goodWord w = true := by
      obtain ⟨j, -, rfl⟩ := List.mem_map.mp hw
      unfold u_lay
      split <;> rfl
    exact zw hG hW (z2 w hw) hg args
  have hba : G.1.heap.size ≤ a := (h1.zo (a := a) (by omega) (by omega)).2
  obtain ⟨r9, g1, cell, q1, q2, q3, q4⟩ := (zOk_obj hk).mp (h1.zo (a := a) (by omega) (by omega)).1
  cases Option.some.inj (g1.symm.trans f1)
  have hKK := hG.K hW
  obtain ⟨hS, hfc, kC, hkC, hkind⟩ := hKK.1 ci _ f1
  have hap := va_apart (own := Y.own) hts (fun w h => h) ty z3 z5 hKK f1
  obtain ⟨cf, kf, fi, fd, hi, hsl⟩ := hS k f2
  obtain ⟨hn1, hn2⟩ := hn (ty k) ((z4 k f2).trans f5)
  have hlay := hts _ (u_in_lay f2)
  have hst := (u_facts (args := args) hfc hkC (u_lays hts (fun w h => h) f2) hi).1
  have fin1 : ∀ H' : Heap, H'[a]? = some (cell.setSlot fd.slot v) → H'.size = H.size → (∀ q, q ≠ a → H'[q]? = H[q]?) → W p l e R s m args below meth c H' (locs ++ [⟨a, fd.slot⟩]) cells slots (vx_MQ below (QcE G r μ') (XcE G r μ') args s R.cells R.slots (fun q => G.1.heap.size ≤ q)) (F0 m (pc + 3) ls st) := by
    intro H' e1 e2 e3
    refine kk.2 p e R s m args below meth c H' _ cells slots ls C0 (h1.put hba eK eL eN hne e2 e3 fun _ => ?_) (by omega) ?_ (by rw [eN]; exact h4) (by rw [eS]; exact h5) hl
    · rw [zOk_obj (ci := ci) (by rw [eK]; exact hk)]
      refine ⟨_, f1, t_OB.to (V := updV (fun k => fval (zfc ci k) μ a k) k v) ⟨_, e1, q2, q3, ?_⟩ fun j hj => ?_⟩
      · rw [hsl]
        exact t_set q4 hap f2 v
      · unfold updV
        rw [hv]
        split
        · rename_i ej
          rw [ej, f5, if_pos rfl]
        · rfl
    · intro q9 h9
      rcases List.mem_append.mp h9 with h9 | h9
      · exact h3 q9 h9
      · rw [List.mem_singleton.mp h9]
        exact hba
  unfold u_lay at hlay
  obtain ⟨hf1, hf2⟩ := hf _ f1
  cases fin with
  | false =>
    rw [if_neg (by rw [hf1]; decide)] at hlay
    exact W.putK hx hb (f := fd) ⟨hown, zw hG hW f3 rfl args, ⟨_, _, _, FL.same hG hW f4 _ hi⟩, hst⟩ (by rw [q2]; exact u_store hfc hkC hkind hlay hi (z3 k f2) hn1 hn2) q1 q3 (by rw [hsl]; exact k2_hasslot (q4 k f2)) rfl rfl d fin1
  | true =>
    rw [if_pos hf1] at hlay
    obtain ⟨hin2, hdecl⟩ := hf2 rfl
    have hcf : m.cls = cf := by
      obtain ⟨_, _, c', _, _, _, -, -, hf', -, -, -, hown2, -⟩ := Cond.laysFinal_spec hlay
      have e1 : c' = cf := by have := hi.symm.trans hf'; simp at this; exact this.1.symm
      rw [hdecl] at hown2
      rw [← e1]; exact Option.some.inj (hown.symm.trans hown2)
    exact W.putFinK hx hb hown (zw hG hW f3 rfl args) (FL.same hG hW f4 _ hi) hst hcf (hname.trans hin2) (by rw [q2]; exact u_fits hfc hkC hkind (Or.inr hlay) hi (z3 k f2) hn1 hn2) q1 q3 (by rw [hsl]; exact k2_hasslot (q4 k f2)) rfl rfl d fin1
theorem tc0 {ty : FieldType} (h : tcode ty = 0) (v : Int32) : narrow ty (.int v) = .int v ∧ fits ty (.int v) = true := by
  cases ty <;> first | exact ⟨rfl, rfl⟩ | exact absurd h (by simp [tcode])
theorem tc1 {ty : FieldType} (h : tcode ty = 1) {v : Int32} (hv : zb v = v) : narrow ty (.int v) = .int v ∧ fits ty (.int v) = true := by
  cases ty <;> first | exact ⟨by rw [zb_nar, hv], by rw [← hv]; exact zb_fit v⟩ | exact absurd h (by simp [tcode])
theorem tc2 {ty : FieldType} (h : tcode ty = 2) {v : Int32} (hv : zc v = v) : narrow ty (.int v) = .int v ∧ fits ty (.int v) = true := by
  cases ty <;> first | exact ⟨by rw [zc_nar, hv], by rw [← hv]; exact zc_fit v⟩ | exact absurd h (by simp [tcode])
theorem tc3 {ty : FieldType} (h : tcode ty = 3) (b : Nat) : narrow ty (.ref b) = .ref b ∧ fits ty (.ref b) = true := by
  cases ty <;> first | exact ⟨rfl, rfl⟩ | exact absurd h (by simp [tcode])
theorem sI_ne (μ : Mm) (a k : Nat) (v : Int32) : ∀ b, b ≠ a → mI (sI μ a k v) b = mI μ b ∧ mR (sI μ a k v) b = mR μ b ∧ mJ (sI μ a k v) b = mJ μ b := fun b h => ⟨up2_ne _ _ _ h, rfl, rfl⟩
theorem sR_ne (μ : Mm) (a k : Nat) (v : Option Nat) : ∀ b, b ≠ a → mI (sR μ a k v) b = mI μ b ∧ mR (sR μ a k v) b = mR μ b ∧ mJ (sR μ a k v) b = mJ μ b := fun b h => ⟨rfl, up2_ne _ _ _ h, rfl⟩
theorem sJ_ne (μ : Mm) (a k : Nat) (v : Int64) : ∀ b, b ≠ a → mI (sJ μ a k v) b = mI μ b ∧ mR (sJ μ a k v) b = mR μ b ∧ mJ (sJ μ a k v) b = mJ μ b := fun b h => ⟨rfl, rfl, up2_ne _ _ _ h⟩
theorem mI_sI (μ : Mm) (a k : Nat) (v : Int32) : mI (sI μ a k v) = up2 (mI μ) a k v := rfl
theorem mR_sR (μ : Mm) (a k : Nat) (v : Option Nat) : mR (sR μ a k v) = up2 (mR μ) a k v := rfl
theorem mJ_sJ (μ : Mm) (a k : Nat) (v : Int64) : mJ (sJ μ a k v) = up2 (mJ μ) a k v := rfl
theorem sI_fv (μ : Mm) (a k : Nat) (x v : Int32) (t : Nat) (hx : fval t (sI μ a k x) a k = .int v) : ∀ j t', fval t' (sI μ a k x) a j = if j = k then (if t' = t then .int v else fval t' (sI μ a k x) a j) else fval t' μ a j := by
  intro j t'
  by_cases hj : j = k
  · rw [if_pos hj]
    by_cases ht : t' = t
    · rw [if_pos ht, ht, hj]; exact hx
    · rw [if_neg ht]
  · rw [if_neg hj]
    have e : mI (sI μ a k x) a j = mI μ a j := by rw [mI_sI, up2_eq, up1_ne _ _ hj]
    unfold fval
    rw [e]
    rfl
theorem sI_at (μ : Mm) (a k : Nat) (v : Int32) : mI (sI μ a k v) a k = v := by rw [mI_sI, up2_eq, up1_eq]
theorem sR_at (μ : Mm) (a k : Nat) (v : Option Nat) : mR (sR μ a k v) a k = v := by rw [mR_sR, up2_eq, up1_eq]
theorem sR_fv (μ : Mm) (a k b : Nat) : ∀ j t', fval t' (sR μ a k (some b)) a j = if j = k then (if t' = 3 then .ref b else fval t' (sR μ a k (some b)) a j) else fval t' μ a j := by
  intro j t'
  by_cases hj : j = k
  · rw [if_pos hj]
    by_cases ht : t' = 3
    · rw [if_pos ht, ht, hj]
      show va_rf (mR (sR μ a k (some b)) a k) = _
      rw [sR_at]
      rfl
    · rw [if_neg ht]
  · rw [if_neg hj]
    have e : mR (sR μ a k (some b)) a j = mR μ a j := by rw [mR_sR, up2_eq, up1_ne _ _ hj]
    unfold fval
    rw [e]
    rfl
/-- whether a field is final -/
def FN (ci k : Nat) (fin : Bool) : Prop := ∀ q : vw_C, vwCl[ci]? = some q → (q.2.1 k).2.2.2 = fin
def FO (ci k : Nat) (own : String) : Prop := ∀ q : vw_C, vwCl[ci]? = some q → (q.2.1 k).2.2.2 = true ∧ (q.2.1 k).1 = own
theorem FN.hf {ci k : Nat} {a b : String} (h : FN ci k false) : ∀ q : vw_C, vwCl[ci]? = some q → (q.2.1 k).2.2.2 = false ∧ (false = true → a = "<init>" ∧ (q.2.1 k).1 = b) := fun q hq => ⟨h q hq, fun e => by cases e⟩
theorem FO.hf {ci k : Nat} {a b : String} (h : FO ci k b) (hn : a = "<init>") : ∀ q : vw_C, vwCl[ci]? = some q → (q.2.1 k).2.2.2 = true ∧ (true = true → a = "<init>" ∧ (q.2.1 k).1 = b) := fun q hq => ⟨(h q hq).1, fun _ => ⟨hn, (h q hq).2⟩⟩
theorem zx_putI {ix ci k a : Nat} {v : Int32} (hG : Gok l G) (f : FL Y.own ix ci k 0) (hf : FN ci k false) (hk : mK μ a = 100 + ci) (d : decode Y.cc pc = .ok (.putfield ix, 3)) (kk : ZX l G Y (pc + 3) L st (sI μ a k v) r μ') : ZX l G Y pc L (.int v :: .ref a :: st) μ r μ' := zx_put (μ1 := sI μ a k v) false hG f hf.hf hk (fun ty h => tc0 h v) rfl rfl rfl rfl (sI_ne μ a k v) (sI_fv μ a k v v 0 (congrArg Value.int (sI_at μ a k v))) d kk
theorem zx_putIF {ix ci k a : Nat} {v : Int32} (hG : Gok l G) (f : FL Y.own ix ci k 0) (hf : FO ci k Y.own) (hn : Y.y.name = "<init>") (hk : mK μ a = 100 + ci) (d : decode Y.cc pc = .ok (.putfield ix, 3)) (kk : ZX l G Y (pc + 3) L st (sI μ a k v) r μ') : ZX l G Y pc L (.int v :: .ref a :: st) μ r μ' := zx_put (μ1 := sI μ a k v) true hG f (hf.hf hn) hk (fun ty h => tc0 h v) rfl rfl rfl rfl (sI_ne μ a k v) (sI_fv μ a k v v 0 (congrArg Value.int (sI_at μ a k v))) d kk
theorem zx_putZ {ix ci k a : Nat} {v : Int32} (hG : Gok l G) (f : FL Y.own ix ci k 1) (hf : FN ci k false) (hk : mK μ a = 100 + ci) (hv : zb v = v) (d : decode Y.cc pc = .ok (.putfield ix, 3)) (kk : ZX l G Y (pc + 3) L st (sI μ a k v) r μ') : ZX l G Y pc L (.int v :: .ref a :: st) μ r μ' := zx_put (μ1 := sI μ a k v) false hG f hf.hf hk (fun ty h => tc1 h hv) rfl rfl rfl rfl (sI_ne μ a k v) (sI_fv μ a k v v 1 (congrArg Value.int ((congrArg zb (sI_at μ a k v)).trans hv))) d kk
theorem zx_putZF {ix ci k a : Nat} {v : Int32} (hG : Gok l G) (f : FL Y.own ix ci k 1) (hf : FO ci k Y.own) (hn : Y.y.name = "<init>") (hk : mK μ a = 100 + ci) (hv : zb v = v) (d : decode Y.cc pc = .ok (.putfield ix, 3)) (kk : ZX l G Y (pc + 3) L st (sI μ a k v) r μ') : ZX l G Y pc L (.int v :: .ref a :: st) μ r μ' := zx_put (μ1 := sI μ a k v) true hG f (hf.hf hn) hk (fun ty h => tc1 h hv) rfl rfl rfl rfl (sI_ne μ a k v) (sI_fv μ a k v v 1 (congrArg Value.int ((congrArg zb (sI_at μ a k v)).trans hv))) d kk
theorem zx_putC {ix ci k a : Nat} {v : Int32} (hG : Gok l G) (f : FL Y.own ix ci k 2) (hf : FN ci k false) (hk : mK μ a = 100 + ci) (hv : zc v = v) (d : decode Y.cc pc = .ok (.putfield ix, 3)) (kk : ZX l G Y (pc + 3) L st (sI μ a k v) r μ') : ZX l G Y pc L (.int v :: .ref a :: st) μ r μ' := zx_put (μ1 := sI μ a k v) false hG f hf.hf hk (fun ty h => tc2 h hv) rfl rfl rfl rfl (sI_ne μ a k v) (sI_fv μ a k v v 2 (congrArg Value.int ((congrArg zc (sI_at μ a k v)).trans hv))) d kk
theorem zx_putCF {ix ci k a : Nat} {v : Int32} (hG : Gok l G) (f : FL Y.own ix ci k 2) (hf : FO ci k Y.own) (hn : Y.y.name = "<init>") (hk : mK μ a = 100 + ci) (hv : zc v = v) (d : decode Y.cc pc = .ok (.putfield ix, 3)) (kk : ZX l G Y (pc + 3) L st (sI μ a k v) r μ') : ZX l G Y pc L (.int v :: .ref a :: st) μ r μ' := zx_put (μ1 := sI μ a k v) true hG f (hf.hf hn) hk (fun ty h => tc2 h hv) rfl rfl rfl rfl (sI_ne μ a k v) (sI_fv μ a k v v 2 (congrArg Value.int ((congrArg zc (sI_at μ a k v)).trans hv))) d kk
theorem zx_putR {ix ci k a b : Nat} (hG : Gok l G) (f : FL Y.own ix ci k 3) (hf : FN ci k false) (hk : mK μ a = 100 + ci) (d : decode Y.cc pc = .ok (.putfield ix, 3)) (kk : ZX l G Y (pc + 3) L st (sR μ a k (some b)) r μ') : ZX l G Y pc L (.ref b :: .ref a :: st) μ r μ' := zx_put (μ1 := sR μ a k (some b)) false hG f hf.hf hk (fun ty h => tc3 h b) rfl rfl rfl rfl (sR_ne μ a k (some b)) (sR_fv μ a k b) d kk
theorem zx_putRF {ix ci k a b : Nat} (hG : Gok l G) (f : FL Y.own ix ci k 3) (hf : FO ci k Y.own) (hn : Y.y.name = "<init>") (hk : mK μ a = 100 + ci) (d : decode Y.cc pc = .ok (.putfield ix, 3)) (kk : ZX l G Y (pc + 3) L st (sR μ a k (some b)) r μ') : ZX l G Y pc L (.ref b :: .ref a :: st) μ r μ' := zx_put (μ1 := sR μ a k (some b)) true hG f (hf.hf hn) hk (fun ty h => tc3 h b) rfl rfl rfl rfl (sR_ne μ a k (some b)) (sR_fv μ a k b) d kk
/-- the cell of an array -/
theorem Sim.arr {G : Gt} {H : Heap} {a κ : Nat} (h : Sim G μ H) (hk : mK μ a = κ) (h0 : κ ≠ 0) (h1 : κ < 100) (h26 : κ ≠ 26 ∨ 0 < mL μ a) : H[a]? = some (arrV (G.2.2.1 (κ % 10)) (mL μ a) (aval (κ % 10) μ a)) := (zOk_arr hk h1).mp (h.zo (by rw [hk]; exact h0) (by rw [hk]; exact h26)).1
theorem Sim.arrB {G : Gt} {H : Heap} {a κ : Nat} (h : Sim G μ H) (hk : mK μ a = κ) (h0 : κ ≠ 0) (h1 : 0 < mL μ a) : G.1.heap.size ≤ a := (h.zo (by rw [hk]; exact h0) (Or.inr h1)).2
/-- any row: its class, its slots -/
theorem Sim.arrS {G : Gt} {H : Heap} {a κ : Nat} (h : Sim G μ H) (hk : mK μ a = κ) (h0 : κ ≠ 0) (h1 : κ < 100) : ∃ cell : Cell, H[a]? = some cell ∧ cell.cls = G.2.2.1 (κ % 10) ∧ cell.slots.size.toInt32 = nI (mL μ a) ∧ (cell.slots = (arrV (G.2.2.1 (κ % 10)) (mL μ a) (aval (κ % 10) μ a)).slots ∨ mL μ a = 0) ∧ cell.vm.isStatics = false ∧ cell.vm ≠ .unknown := by
  rcases h.2.2.2 a (by rw [hk]; exact h0) with q | ⟨q1, q2, cell, q3, q4, q5, q6, q7⟩
  · exact ⟨_, (zOk_arr hk h1).mp q.1, rfl, by rw [arrV_size]; rfl, Or.inl rfl, rfl, fun q => by cases q⟩
  · have k6 : κ % 10 = 6 := by omega
    exact ⟨cell, q3, by rw [k6]; exact q4, by rw [q5, q2]; rfl, Or.inr q2, q6, q7⟩
theorem vp_lt {i : Int32} {n : Nat} (h : vp_in i n) : i.toNatClampNeg < n := Nat.not_le.mp fun q => h (Or.inr q)
theorem zx_iald {a κ : Nat} {i : Int32} (hG : Gok l G) (hk : mK μ a = κ) (h1k : κ < 100) (hm : κ % 10 = 1) (hin : vp_in i (mL μ a)) (d : decode Y.cc pc = .ok (.iaload, 1)) (kk : ZX l G Y (pc + 1) L (.int (mI μ a i.toNatClampNeg) :: st) μ r μ') : ZX l G Y pc L (.int i :: .ref a :: st) μ r μ' := by
  refine ⟨kk.1, fun p e R s m args below meth c H locs cells slots ls C h1 h2 h3 h4 h5 hl => ?_⟩
  have k2 := kk.2 p e R s m args below meth c H locs cells slots ls C h1 h2 h3 h4 h5 hl
  have hc := h1.arr hk (by omega) h1k (by omega)
  rw [hm] at hc
  obtain ⟨hx, hb, hml, hown, hret, hlk, hW, -⟩ := C
  exact W.iald (v := .int (mI μ a i.toNatClampNeg)) hx hb hc (((hG.K hW).2 0 _ rfl).1 _ _) (fun q => by cases q) (by rw [arrV_size]; exact hin) (by rw [arrV_read _ _ (vp_lt hin)]; rfl) rfl rfl d k2
theorem zx_zald {a κ : Nat} {i : Int32} (hG : Gok l G) (hk : mK μ a = κ) (h1k : κ < 100) (hm : κ % 10 = 2) (hin : vp_in i (mL μ a)) (d : decode Y.cc pc = .ok (.baload, 1)) (kk : ZX l G Y (pc + 1) L (.int (zb (mI μ a i.toNatClampNeg)) :: st) μ r μ') : ZX l G Y pc L (.int i :: .ref a :: st) μ r μ' := by
  refine ⟨kk.1, fun p e R s m args below meth c H locs cells slots ls C h1 h2 h3 h4 h5 hl => ?_⟩
  have k2 := kk.2 p e R s m args below meth c H locs cells slots ls C h1 h2 h3 h4 h5 hl
  have hc := h1.arr hk (by omega) h1k (by omega)
  rw [hm] at hc
  obtain ⟨hx, hb, hml, hown, hret, hlk, hW, -⟩ := C
  exact W.zald (v := .int (zb (mI μ a i.toNatClampNeg))) hx hb hc (((hG.K hW).2 1 _ rfl).1 _ _) (fun q => by cases q) (by rw [arrV_size]; exact hin) (by rw [arrV_read _ _ (vp_lt hin)]; rfl) rfl rfl d k2
/-- a reference out of a row of rows (5) or of objects (6) -/
theorem zx_aald {a b κ : Nat} {i : Int32} (hG : Gok l G) (hk : mK μ a = κ) (h1k : κ < 100) (hm : κ % 10 = 5 ∨ κ % 10 = 6) (hin : vp_in i (mL μ a)) (hr : mR μ a i.toNatClampNeg = some b) (d : decode Y.cc pc = .ok (.aaload, 1)) (kk : ZX l G Y (pc + 1) L (.ref b :: st) μ r μ') : ZX l G Y pc L (.int i :: .ref a :: st) μ r μ' := by
  refine ⟨kk.1, fun p e R s m args below meth c H locs cells slots ls C h1 h2 h3 h4 h5 hl => ?_⟩
  have k2 := kk.2 p e R s m args below meth c H locs cells slots ls C h1 h2 h3 h4 h5 hl
  have hc := h1.arr hk (by omega) h1k (Or.inr (Nat.lt_of_le_of_lt (Nat.zero_le _) (vp_lt hin)))
  obtain ⟨hx, hb, hml, hown, hret, hlk, hW, -⟩ := C
  have hv : va_rf (mR μ a i.toNatClampNeg) = .ref b := by rw [hr]; rfl
  rcases hm with hm | hm <;> rw [hm] at hc
  · exact W.aald (ty := .object "java/lang/Object") (v := .ref b) hx hb hc (((hG.K hW).2 4 _ rfl).1 _ _) rfl (fun q => by cases q) (by rw [arrV_size]; exact hin) (by rw [arrV_read _ _ (vp_lt hin), ← hv]; rfl) rfl rfl d k2
  · exact W.aald (ty := .object "java/lang/Object") (v := .ref b) hx hb hc (((hG.K hW).2 5 _ rfl).1 _ _) rfl (fun q => by cases q) (by rw [arrV_size]; exact hin) (by rw [arrV_read _ _ (vp_lt hin), ← hv]; rfl) rfl rfl d k2
theorem zx_alen {a κ : Nat} (hG : Gok l G) (hk : mK μ a = κ) (h1k : κ < 100) (hm : κ % 10 = 1 ∨ κ % 10 = 2 ∨ κ % 10 = 5 ∨ κ % 10 = 6) (d : decode Y.cc pc = .ok (.arraylength, 1)) (kk : ZX l G Y (pc + 1) L (.int (nI (mL μ a)) :: st) μ r μ') : ZX l G Y pc L (.ref a :: st) μ r μ' := by
  refine ⟨kk.1, fun p e R s m args below meth c H locs cells slots ls C h1 h2 h3 h4 h5 hl => ?_⟩
  have k2 := kk.2 p e R s m args below meth c H locs cells slots ls C h1 h2 h3 h4 h5 hl
  obtain ⟨cell, hc, hcl, hsz, -, hst, hun⟩ := h1.arrS hk (by omega) h1k
  obtain ⟨hx, hb, hml, hown, hret, hlk, hW, -⟩ := C
  have hv : ∀ k, cell.vm ≠ .statics k := fun k h => by rw [h] at hst; cases hst
  rcases hm with hm | hm | hm | hm <;> rw [hm] at hcl
  · exact W.alen (ty := .int) hx hb hc ⟨hv, by rw [hcl]; exact (((hG.K hW).2 0 _ rfl).1 0 fun _ => .null).2⟩ hsz rfl rfl d k2
  · exact W.alen (ty := .boolean) hx hb hc ⟨hv, by rw [hcl]; exact (((hG.K hW).2 1 _ rfl).1 0 fun _ => .null).2⟩ hsz rfl rfl d k2
  · exact W.alen (ty := .object "java/lang/Object") hx hb hc ⟨hv, by rw [hcl]; exact (((hG.K hW).2 4 _ rfl).1 0 fun _ => .null).2⟩ hsz rfl rfl d k2
  · exact W.alen (ty := .object "java/lang/Object") hx hb hc ⟨hv, by rw [hcl]; exact (((hG.K hW).2 5 _ rfl).1 0 fun _ => .null).2⟩ hsz rfl rfl d k2
theorem aval_set {κ a i : Nat} {v : Value} {μ1 : Mm} (hne : ∀ j, j ≠ i → aval κ μ1 a j = aval κ μ a j) (he : aval κ μ1 a i = v) (cA : ClassId) (n : Nat) : (arrV cA n (aval κ μ a)).setSlot i v = arrV cA n (aval κ μ1 a) := by
  rw [arrV_store]
  congr 1
  funext j
  unfold updV
  by_cases h : j = i
  · rw [if_pos h, h, he]
  · rw [if_neg h, hne j h]
theorem zx_iast {a κ : Nat} {i v : Int32} (hG : Gok l G) (hk : mK μ a = κ) (h1k : κ < 100) (hm : κ % 10 = 1) (hin : vp_in i (mL μ a)) (d : decode Y.cc pc = .ok (.iastore, 1)) (kk : ZX l G Y (pc + 1) L st (sI μ a i.toNatClampNeg v) r μ') : ZX l G Y pc L (.int v :: .int i :: .ref a :: st) μ r μ' := by
  refine ⟨kk.1, fun p e R s m args below meth c H locs cells slots ls C h1 h2 h3 h4 h5 hl => ?_⟩
  have hc := h1.arr hk (by omega) h1k (by omega)
  have hba := h1.arrB hk (by omega) (Nat.lt_of_le_of_lt (Nat.zero_le _) (vp_lt hin))
  rw [hm] at hc
  obtain ⟨hx, hb, hml, hown, hret, hlk, hW, C9⟩ := id C
  refine W.iast hx hb hc (((hG.K hW).2 0 _ rfl).1 _ _) (fun q => by cases q) (by rw [arrV_size]; exact hin) rfl rfl d fun H1 e1 e2 e3 => ?_
  refine kk.2 p e R s m args below meth c H1 _ cells slots ls C (h1.put hba rfl rfl rfl (sI_ne μ a _ v) e2 e3 fun _ => ?_) (by omega) ?_ h4 h5 hl
  · rw [zOk_arr (μ := sI μ a i.toNatClampNeg v) (κ := κ) hk h1k, e1, hm]
    have e9 := aval_set (μ := μ) (a := a) (κ := 1) (i := i.toNatClampNeg) (v := .int v) (μ1 := sI μ a i.toNatClampNeg v) (fun j hj => by show Value.int _ = Value.int _; rw [mI_sI, up2_eq, up1_ne _ _ hj]) (by show Value.int _ = Value.int _; rw [sI_at]) (G.2.2.1 1) (mL μ a)
    rw [e9]
    rfl
  · intro q9 h9
    rcases List.mem_append.mp h9 with h9 | h9
    · exact h3 q9 h9
    · rw [List.mem_singleton.mp h9]
      exact hba
theorem zx_zast {a κ : Nat} {i v : Int32} (hG : Gok l G) (hk : mK μ a = κ) (h1k : κ < 100) (hm : κ % 10 = 2) (hin : vp_in i (mL μ a)) (d : decode Y.cc pc = .ok (.bastore, 1)) (kk : ZX l G Y (pc + 1) L st (sI μ a i.toNatClampNeg v) r μ') : ZX l G Y pc L (.int v :: .int i :: .ref a :: st) μ r μ' := by
  refine ⟨kk.1, fun p e R s m args below meth c H locs cells slots ls C h1 h2 h3 h4 h5 hl => ?_⟩
  have hc := h1.arr hk (by omega) h1k (by omega)
  have hba := h1.arrB hk (by omega) (Nat.lt_of_le_of_lt (Nat.zero_le _) (vp_lt hin))
  rw [hm] at hc
  obtain ⟨hx, hb, hml, hown, hret, hlk, hW, C9⟩ := id C
  refine W.zast hx hb hc (((hG.K hW).2 1 _ rfl).1 _ _) (fun q => by cases q) (by rw [arrV_size]; exact hin) rfl rfl d fun H1 e1 e2 e3 => ?_
  refine kk.2 p e R s m args below meth c H1 _ cells slots ls C (h1.put hba rfl rfl rfl (sI_ne μ a _ v) e2 e3 fun _ => ?_) (by omega) ?_ h4 h5 hl
  · rw [zOk_arr (μ := sI μ a i.toNatClampNeg v) (κ := κ) hk h1k, e1, hm]
    have e9 := aval_set (μ := μ) (a := a) (κ := 2) (i := i.toNatClampNeg) (v := narrow .boolean (.int v)) (μ1 := sI μ a i.toNatClampNeg v) (fun j hj => by show Value.int _ = Value.int _; rw [mI_sI, up2_eq, up1_ne _ _ hj]) (by show Value.int _ = narrow .boolean (.int v); rw [sI_at]; rfl) (G.2.2.1 2) (mL μ a)
    rw [e9]
    rfl
  · intro q9 h9
    rcases List.mem_append.mp h9 with h9 | h9
    · exact h3 q9 h9
    · rw [List.mem_singleton.mp h9]
      exact hba
end ZXM
