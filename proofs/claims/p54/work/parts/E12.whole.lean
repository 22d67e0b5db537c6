/-! from the entry to the end -/
theorem whole_start {p : Program} {e : Env} {s : State} {m : MethodId} {below : List Frame} {meth : Method} {c : Code} (l : Launch) (hflags : l.flags = flags0) {b L : Nat} {xs : Nat → Int32} (hL : L ≤ 260) (C0 : lw_At p s m meth c b L xs) : W p l e room_1 s m #[Value.ref b] below meth c s.heap [] 0 0 (lw_Z below #[Value.ref b] s) (entryFrame m ([Value.ref b] : List Value).toArray 20) := by
  have hst : l.stackTraces = false := by
    unfold Launch.stackTraces
    rw [hflags]
    decide +kernel
  obtain ⟨G, hG1, hG, hc⟩ := gok_of hst C0
  obtain ⟨hx, hb, hr, hml, hown, ha, hX, hbl, hlk, hgv⟩ := C0
  subst hG1
  have hz : G.2.2.2 0 < G.1.heap.size := by
    obtain ⟨cell, h1, -⟩ := hc
    exact (Array.getElem?_eq_some_iff.mp h1).1
  have C : CW G mL_law p room_1 G.1 m meth c := ⟨hx, hb, hml, hown, hr, hlk, State.WarmedH.refl _, rfl, rfl⟩
  have hl := lv_entry [Value.ref b] (n := 20) (Nat.le_of_ble_eq_true rfl)
  rw [lg_entry_eq]
  refine law_start C hG hX hbl hL hz (fun L μ c1 s1 => ?_) G.1.heap [] 0 0 _ (mu0_sim hG.1.1 (by omega) hc) (Nat.le_refl _) (fun q hq => nomatch hq) (by decide) (by decide) hl
  intro H locs cells slots ls h1 h2 h3 h4 h5 hl
  have r1 : room_1.cells = 600086 := rfl
  have r2 : room_1.slots = 7301442 := rfl
  rw [r1] at h4
  rw [r2] at h5
  exact W.widen (k := 600086) (n := 7301442) (by omega) (by omega) (va_forget h3 (W.base (lw_ret (Drawn.sameBut.refl G.1.drawn lw_cs) hx hb hr hlk dL_law_1772)))
