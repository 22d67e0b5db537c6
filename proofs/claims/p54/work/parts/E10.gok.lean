/-! what the start gives -/
theorem zInst {ci : Nat} {r : vw_C} (h : vwCl[ci]? = some r) : ∃ n, Cond.instantiable r.1 n ∈ lw_tbl := by
  match ci, h with
  | 0, h => cases h; exact ⟨3, List.mem_of_getElem? (i := 84) (by decide +kernel)⟩
  | 1, h => cases h; exact ⟨18, List.mem_of_getElem? (i := 78) (by decide +kernel)⟩
  | 2, h => cases h; exact ⟨7, List.mem_of_getElem? (i := 142) (by decide +kernel)⟩
  | 3, h => cases h; exact ⟨5, List.mem_of_getElem? (i := 891) (by decide +kernel)⟩
  | 4, h => cases h; exact ⟨17, List.mem_of_getElem? (i := 1138) (by decide +kernel)⟩
  | 5, h => cases h; exact ⟨7, List.mem_of_getElem? (i := 293) (by decide +kernel)⟩
  | 6, h => cases h; exact ⟨7, List.mem_of_getElem? (i := 223) (by decide +kernel)⟩
  | 7, h => cases h; exact ⟨6, List.mem_of_getElem? (i := 591) (by decide +kernel)⟩
  | 8, h => cases h; exact ⟨5, List.mem_of_getElem? (i := 268) (by decide +kernel)⟩
  | 9, h => cases h; exact ⟨5, List.mem_of_getElem? (i := 195) (by decide +kernel)⟩
  | 10, h => cases h; exact ⟨5, List.mem_of_getElem? (i := 110) (by decide +kernel)⟩
  | 11, h => cases h; exact ⟨1, List.mem_of_getElem? (i := 70) (by decide +kernel)⟩
  | n + 12, h => exact absurd h (by simp [vwCl])
theorem zStr {s : State} {own tx : String} {k q0 n9 : Nat} {bs : List Int32} (hsm : n9 < 2 ^ 31) (hl : (Cond.stringRef own k tx).before #[.ref q0] s = true) (h1 : (Cond.exactly (.string own k) "java/lang/String").before #[.ref q0] s = true) (h2 : (Cond.eq (.field (.string own k) "java/lang/String" "coder" "B") (.int 0)).before #[.ref q0] s = true) (h3 : (Cond.arrayOf (.field (.string own k) "java/lang/String" "value" "[B") .byte).before #[.ref q0] s = true) (h4 : (Cond.eq (.length (.field (.string own k) "java/lang/String" "value" "[B")) (.int (Int32.ofNat n9))).before #[.ref q0] s = true) (h5 : ∀ j : Nat, j < n9 → (Cond.eq (.elem (.field (.string own k) "java/lang/String" "value" "[B") (.int (Int32.ofNat j))) (.int (bs.getD j 0))).before #[.ref q0] s = true) : ∃ a, vk_R own k tx a s ∧ ∃ adV : Nat → Nat, vk_S 1 [n9] [bs] (fun _ => a) adV (fun q => s.heap.size ≤ q) s s.heap := by
  obtain ⟨adK, adV, g1, g2⟩ := vk_Sof (N := 1) (tm := fun _ => Term.string own k) (len := [n9]) (byt := [bs]) (A := fun q => s.heap.size ≤ q) (args := #[.ref q0]) (s := s) (fun i hi => by
      have : i = 0 := by omega
      subst this
      exact hsm) (fun i hi => h1) (fun i hi => h2) (fun i hi => h3) (fun i hi => by
      have : i = 0 := by omega
      subst this
      exact h4) (fun i hi j hj => by
      have : i = 0 := by omega
      subst this
      exact h5 j hj) (fun i j hi hj hij => absurd (show i = j by omega) hij) (fun a ha => Nat.not_le.mpr ha)
  refine ⟨adK 0, vk_R.of hl (g2 0 (by decide)), adV, fun i hi => ?_, fun i j hi hj _ => by omega⟩
  have : i = 0 := by omega
  subst this
  exact g1.1 0 (by decide)
theorem zArr {s : State} {cA : ClassId} {kA : Class} {comp : ClassId} {ty : FieldType} (h2 : s.vm.classes[cA]? = some kA) (h3 : kA.kind = .array comp ty) : ArrOfT s cA ty := fun n z => ⟨fun k h => (by cases h), kA, h2, comp, h3⟩
set_option maxRecDepth 100000 in
theorem gok_of {p : Program} {l : Launch} {s : State} {m : MethodId} {meth : Method} {c : Code} {q0 L : Nat} {xs : Nat → Int32} (hl : l.stackTraces = false) (C0 : lw_At p s m meth c q0 L xs) : ∃ G : Gt, G.1 = s ∧ Gok3 l G ∧ ∃ cell : Cell, s.heap[G.2.2.2 0]? = some cell ∧ cell.cls = G.2.2.1 6 ∧ cell.slots.size.toInt32 = 0 ∧ cell.vm.isStatics = false ∧ cell.vm ≠ .unknown := by
  obtain ⟨-, -, -, -, hown, ha, -, hbl, -, hgv⟩ := C0
  have hs := flat_of_before _ hgv
  have hA : ∀ a : Nat, a < s.heap.size → ¬ s.heap.size ≤ a := fun a h => Nat.not_le.mpr h
  have k0 : ∀ ci : Nat, ∃ q9 : ClassId × (Nat → Nat), ∀ r : vw_C, vwCl[ci]? = some r → u_Kn s r.1 r.2.1 r.2.2 q9.1 q9.2 := fun ci => by
    cases hr : vwCl[ci]? with
    | none => exact ⟨(0, fun _ => 0), fun r h => by cases h⟩
    | some r =>
      obtain ⟨ty, z1, z2, -⟩ := zC_of hr
      obtain ⟨n, hi⟩ := zInst hr
      obtain ⟨cC, iS, hk⟩ := u_known (ws := lw_tbl) ha z2 (ha _ hi)
      exact ⟨(cC, iS), fun r' hr' => by cases hr'; exact hk⟩
  obtain ⟨D, hD⟩ := Classical.axiomOfChoice k0
  obtain ⟨cI, kI, pI, iI1, iI2, iI3⟩ := Cond.arrayClass_spec (ha (.arrayClass .int) (List.mem_of_getElem? (i := 193) (by decide +kernel)))
  obtain ⟨cZ, kZ, pZ, iZ1, iZ2, iZ3⟩ := Cond.arrayClass_spec (ha (.arrayClass .boolean) (List.mem_of_getElem? (i := 266) (by decide +kernel)))
  obtain ⟨pO, cO, kO, iO0, -, iO2, iO3, iO1⟩ := Cond.arrayOver_spec (ha (.arrayOver (.object "java/lang/Object")) (List.mem_of_getElem? (i := 684) (by decide +kernel)))
  have en : ("[" ++ (FieldType.object "java/lang/Object").toString) = "[Ljava/lang/Object;" := by decide +kernel
  -- the empty row
  have hx : (Cond.exactly (.static "java/util/ArrayList" "DEFAULTCAPACITY_EMPTY_ELEMENTDATA" "[Ljava/lang/Object;") "[Ljava/lang/Object;").before #[.ref q0] s = true := hs _ (by decide +kernel)
  have hz0 : (Cond.eq (.length (.static "java/util/ArrayList" "DEFAULTCAPACITY_EMPTY_ELEMENTDATA" "[Ljava/lang/Object;")) (.int 0)).before #[.ref q0] s = true := hs _ (by decide +kernel)
  obtain ⟨aZ, cZ9, cell, kZ9, x1, x2, x3, x4, x5, x6, -⟩ := Cond.exactly_spec hx
  obtain ⟨aZ2, cell2, y1, y2, y3⟩ := Term.length_spec (va_eqt hz0)
  obtain ⟨y4, y5, -, -⟩ := State.arrayAt?_spec y2
  cases x1.symm.trans y1
  cases x3.symm.trans y4
  have hz1 : cell.slots.size.toInt32 = 0 := (Value.int.inj y3).symm
  rw [en] at iO1
  have hz2 : cell.cls = cO := by
    rw [x6]
    exact Option.some.inj (x2.symm.trans iO1)
  -- the texts
  obtain ⟨sA, rsA, vsA⟩ := zStr (s := s) (own := "Reorderium") (tx := "itfqxmbd") (k := 286) (q0 := q0) (n9 := 8) (bs := zsb) (by decide) (ha _ (List.mem_of_getElem? (i := 929) (by decide +kernel))) (hs _ (by decide +kernel)) (hs _ (by decide +kernel)) (hs _ (by decide +kernel)) (hs _ (by decide +kernel)) (fun j hj => by
      have hc : j = 0 ∨ j = 1 ∨ j = 2 ∨ j = 3 ∨ j = 4 ∨ j = 5 ∨ j = 6 ∨ j = 7 := by omega
      rcases hc with rfl | rfl | rfl | rfl | rfl | rfl | rfl | rfl <;> exact hs _ (by decide +kernel))
  obtain ⟨sB, rsB, vsB⟩ := zStr (s := s) (own := "Reorderium$Counts") (tx := "itfqxmbd") (k := 9) (q0 := q0) (n9 := 8) (bs := zsb) (by decide) (ha _ (List.mem_of_getElem? (i := 147) (by decide +kernel))) (hs _ (by decide +kernel)) (hs _ (by decide +kernel)) (hs _ (by decide +kernel)) (hs _ (by decide +kernel)) (fun j hj => by
      have hc : j = 0 ∨ j = 1 ∨ j = 2 ∨ j = 3 ∨ j = 4 ∨ j = 5 ∨ j = 6 ∨ j = 7 := by omega
      rcases hc with rfl | rfl | rfl | rfl | rfl | rfl | rfl | rfl <;> exact hs _ (by decide +kernel))
  obtain ⟨sC, rsC, vsC⟩ := zStr (s := s) (own := "ReorderiumLaw") (tx := "dbqih") (k := 235) (q0 := q0) (n9 := 5) (bs := tx5) (by decide) (ha _ (List.mem_of_getElem? (i := 1439) (by decide +kernel))) (hs _ (by decide +kernel)) (hs _ (by decide +kernel)) (hs _ (by decide +kernel)) (hs _ (by decide +kernel)) (fun j hj => by
      have hc : j = 0 ∨ j = 1 ∨ j = 2 ∨ j = 3 ∨ j = 4 := by omega
      rcases hc with rfl | rfl | rfl | rfl | rfl <;> exact hs _ (by decide +kernel))
  obtain ⟨sD, rsD, vsD⟩ := zStr (s := s) (own := "ReorderiumLaw") (tx := "kplq") (k := 258) (q0 := q0) (n9 := 4) (bs := tx4) (by decide) (ha _ (List.mem_of_getElem? (i := 1441) (by decide +kernel))) (hs _ (by decide +kernel)) (hs _ (by decide +kernel)) (hs _ (by decide +kernel)) (hs _ (by decide +kernel)) (fun j hj => by
      have hc : j = 0 ∨ j = 1 ∨ j = 2 ∨ j = 3 := by omega
      rcases hc with rfl | rfl | rfl | rfl <;> exact hs _ (by decide +kernel))
  obtain ⟨aM, hM⟩ := va_Mi.of (show (Cond.isRef (.mirror "[Ljava/lang/Object;")).before #[.ref q0] s = true from hs _ (by decide +kernel))
  have nc : ∀ x y : String, (Cond.not (.castable x y)).before #[.ref q0] s = true → va_Nc x y s := fun x y h => va_Nc.of h
  obtain ⟨adC, gC, -⟩ := vsC
  obtain ⟨adD, gD, -⟩ := vsD
  refine ⟨(s, (fun c => (D c).1, fun c => (D c).2), fun t => [cI, cI, cZ, cI, cI, cO, cO].getD t cI, fun k => [aZ, sA, sB, aM, sC, sD].getD k 0), rfl, ⟨⟨⟨hl, ⟨_, ha⟩, ⟨fun ci r hr => hD ci r hr, fun k q hk => ?_⟩, ⟨?_, ?_⟩, ⟨?_, ?_, ?_⟩, ⟨fun k hk => ?_, rsA, rsB⟩, hM⟩, nc _ _ (hs _ (by decide +kernel)), nc _ _ (hs _ (by decide +kernel)), nc _ _ (hs _ (by decide +kernel)), nc _ _ (hs _ (by decide +kernel))⟩, ⟨rsC, adC 0, gC 0 (by decide)⟩, ⟨rsD, adD 0, gD 0 (by decide)⟩⟩, cell, x3, hz2, hz1, x5, y5⟩
  · match k, hk with
    | 0, hk => cases hk; exact ⟨zArr iI2 iI3, iI1⟩
    | 1, hk => cases hk; exact ⟨zArr iZ2 iZ3, iZ1⟩
    | 2, hk => cases hk; exact ⟨zArr iI2 iI3, iI1⟩
    | 3, hk => cases hk; exact ⟨zArr iI2 iI3, iI1⟩
    | 4, hk => cases hk; exact ⟨zArr iO2 iO3, kO, pO, iO2, iO3, iO0, by rw [en]; exact iO1⟩
    | 5, hk => cases hk; exact ⟨zArr iO2 iO3, kO, pO, iO2, iO3, iO0, by rw [en]; exact iO1⟩
    | n + 6, hk => exact absurd hk (by simp [ztys])
  · exact vx_Zqof (ha _ (List.mem_of_getElem? (i := 538) (by decide +kernel))) (ha _ (List.mem_of_getElem? (i := 53) (by decide +kernel))) (show (Cond.isRef (.static "java/lang/Throwable" "UNASSIGNED_STACK" "[Ljava/lang/StackTraceElement;")).before #[.ref q0] s = true from hs _ (by decide +kernel)) hA
  · exact vx_Zqof (ha _ (List.mem_of_getElem? (i := 540) (by decide +kernel))) (ha _ (List.mem_of_getElem? (i := 53) (by decide +kernel))) (show (Cond.isRef (.static "java/lang/Throwable" "SUPPRESSED_SENTINEL" "Ljava/util/List;")).before #[.ref q0] s = true from hs _ (by decide +kernel)) hA
  · exact va_Zof (ha _ (List.mem_of_getElem? (i := 96) (by decide +kernel))) (ha _ (List.mem_of_getElem? (i := 43) (by decide +kernel))) x1 hA
  · exact va_Zof (ha _ (List.mem_of_getElem? (i := 157) (by decide +kernel))) (ha _ (List.mem_of_getElem? (i := 46) (by decide +kernel))) (va_eqt (show (Cond.eq (.static "java/lang/String" "COMPACT_STRINGS" "Z") (.int 1)).before #[.ref q0] s = true from hs _ (by decide +kernel))) hA
  · exact va_Zqof (ha _ (List.mem_of_getElem? (i := 946) (by decide +kernel))) (ha _ (List.mem_of_getElem? (i := 52) (by decide +kernel))) (show (Cond.isRef (.static "jdk/internal/util/Preconditions" "SIOOBE_FORMATTER" "Ljava/util/function/BiFunction;")).before #[.ref q0] s = true from hs _ (by decide +kernel)) hA
  · rcases hk with rfl | rfl
    · exact vsA
    · exact vsB
