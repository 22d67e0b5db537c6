/-! CONSTRUCTORS: cells made from a base on, with what they hold -/
section AMS
variable {b z t : Nat} {μ0 μ μ' : Mm} {Q : Mm → Prop}
/-- kind and length of each cell from the base on; numbers; references (1000: the lists' empty row, else from the base on) -/
abbrev XM : Type := List (Nat × Nat) × (Nat → Nat → Int32) × (Nat → Nat → Option Nat)
def xO : XM := ([], fun _ _ => 0, fun _ _ => none)
def xN (X : XM) (κ l : Nat) : XM := (X.1 ++ [(κ, l)], X.2)
def xM (X : XM) (κo κi n k : Nat) : XM := (X.1 ++ ((κo, n) :: List.replicate n (κi, k)), X.2.1, up1 X.2.2 X.1.length (fun i => if i < n then some (X.1.length + 1 + i) else none))
def xI (X : XM) (o k : Nat) (v : Int32) : XM := (X.1, up2 X.2.1 o k v, X.2.2)
def xR (X : XM) (o k r : Nat) : XM := (X.1, X.2.1, up2 X.2.2 o k (some r))
def xF (X : XM) (o n : Nat) (v : Nat → Int32) : XM := (X.1, fun o' => if o' = o then (fun k => if k < n then v k else X.2.1 o k) else X.2.1 o', X.2.2)
def rl (b z r : Nat) : Nat := if r = 1000 then z else b + r
def AM (b z : Nat) (X : XM) (t : Nat) (μ0 μ : Mm) : Prop :=
  (mN μ = b + X.1.length ∧ mS μ = mS μ0 + t) ∧ (∀ a, a < b → mK μ a = mK μ0 a ∧ mL μ a = mL μ0 a ∧ mI μ a = mI μ0 a ∧ mR μ a = mR μ0 a ∧ mJ μ a = mJ μ0 a) ∧
  (∀ i, i < X.1.length → mK μ (b + i) = (X.1.getD i (0, 0)).1 ∧ mL μ (b + i) = (X.1.getD i (0, 0)).2 ∧ (∀ k, mI μ (b + i) k = X.2.1 i k) ∧ ∀ k, mR μ (b + i) k = (X.2.2 i k).map (rl b z)) ∧
  (∀ i, X.1.length ≤ i → (∀ k, X.2.1 i k = 0) ∧ ∀ k, X.2.2 i k = none) ∧ ∀ a, b + X.1.length ≤ a → mK μ a = 0
variable {X Y : XM}
theorem AM.cg (h : AM b z X t μ0 μ) (h1 : X.1 = Y.1) (h2 : ∀ o k, X.2.1 o k = Y.2.1 o k) (h3 : ∀ o k, X.2.2 o k = Y.2.2 o k) : AM b z Y t μ0 μ := by
  obtain ⟨a1, a2, a3, a4, a5⟩ := h
  rw [h1] at a1 a3 a4 a5
  refine ⟨a1, a2, fun i hi => ?_, fun i hi => ?_, a5⟩
  · obtain ⟨c1, c2, c3, c4⟩ := a3 i hi
    exact ⟨c1, c2, fun k => by rw [c3, h2], fun k => by rw [c4, h3]⟩
  · obtain ⟨c1, c2⟩ := a4 i hi
    exact ⟨fun k => by rw [← h2]; exact c1 k, fun k => by rw [← h3]; exact c2 k⟩
theorem AM.newC {κ l s : Nat} (h : AM b z X t μ0 μ) : AM b z (xN X κ l) (t + s) μ0 (nw μ κ l s) := by
  obtain ⟨⟨a1, aS⟩, a2, a3, a4, a5⟩ := h
  have el : (xN X κ l).1.length = X.1.length + 1 := by
    show (X.1 ++ [(κ, l)]).length = _
    rw [List.length_append]
    rfl
  refine ⟨⟨?_, ?_⟩, fun a ha => ?_, fun i hi => ?_, fun i hi => a4 i (by omega), fun a ha => ?_⟩
  · rw [el]
    show mN μ + 1 = _
    omega
  · show mS μ + s = _
    omega
  · have ne : a ≠ mN μ := by omega
    rw [nwK _ _ _ _ ne, nwL _ _ _ _ ne, nwI _ _ _ _ ne, nwR _ _ _ _ ne, nwJ _ _ _ _ ne]
    exact a2 a ha
  · rw [el] at hi
    by_cases e : i = X.1.length
    · have eN : b + i = mN μ := by omega
      obtain ⟨z1, z2⟩ := a4 i (by omega)
      have g : (xN X κ l).1.getD i (0, 0) = (κ, l) := by
        show (X.1 ++ [(κ, l)]).getD i (0, 0) = _
        rw [e, List.getD_eq_getElem?_getD, List.getElem?_append_right (Nat.le_refl _), Nat.sub_self]
        rfl
      rw [g, eN]
      refine ⟨nwKa _ _ _ _, nwLa _ _ _ _, fun k => ?_, fun k => ?_⟩
      · show up1 (mI μ) (mN μ) (fun _ => 0) (mN μ) k = X.2.1 i k
        rw [up1_eq, z1]
      · show up1 (mR μ) (mN μ) (fun _ => none) (mN μ) k = (X.2.2 i k).map (rl b z)
        rw [up1_eq, z2]
        rfl
    · have ne : b + i ≠ mN μ := by omega
      have g : (xN X κ l).1.getD i (0, 0) = X.1.getD i (0, 0) := by
        show (X.1 ++ [(κ, l)]).getD i (0, 0) = _
        rw [List.getD_eq_getElem?_getD, List.getElem?_append_left (by omega), ← List.getD_eq_getElem?_getD]
      rw [g, nwK _ _ _ _ ne, nwL _ _ _ _ ne, nwI _ _ _ _ ne, nwR _ _ _ _ ne]
      exact a3 i (by omega)
  · rw [el] at ha
    rw [nwK _ _ _ _ (by omega)]
    exact a5 a (by omega)
theorem AM.pI {o k : Nat} {v : Int32} (h : AM b z X t μ0 μ) (ho : o < X.1.length) : AM b z (xI X o k v) t μ0 (sI μ (b + o) k v) := by
  obtain ⟨a1, a2, a3, a4, a5⟩ := h
  refine ⟨a1, fun a ha => ?_, fun i hi => ?_, fun i hi => ?_, a5⟩
  · rw [mI_row _ _ (show a ≠ b + o by omega)]
    exact a2 a ha
  · obtain ⟨c1, c2, c3, c4⟩ := a3 i hi
    refine ⟨c1, c2, fun j => ?_, c4⟩
    show up2 (mI μ) (b + o) k v (b + i) j = up2 X.2.1 o k v i j
    by_cases e : i = o
    · subst e
      rw [up2_eq, up2_eq, up1_if, up1_if, c3]
    · rw [up2_ne _ _ _ (by omega), up2_ne _ _ _ e, c3]
  · refine ⟨fun j => ?_, (a4 i hi).2⟩
    show up2 X.2.1 o k v i j = 0
    rw [up2_ne _ _ _ (show i ≠ o from fun e => by
      have hi2 : X.1.length ≤ i := hi
      omega)]
    exact (a4 i hi).1 j
theorem AM.pR {o k r : Nat} (h : AM b z X t μ0 μ) (ho : o < X.1.length) : AM b z (xR X o k r) t μ0 (sR μ (b + o) k (some (rl b z r))) := by
  obtain ⟨a1, a2, a3, a4, a5⟩ := h
  refine ⟨a1, fun a ha => ?_, fun i hi => ?_, fun i hi => ?_, a5⟩
  · rw [mR_row _ _ (show a ≠ b + o by omega)]
    exact a2 a ha
  · obtain ⟨c1, c2, c3, c4⟩ := a3 i hi
    refine ⟨c1, c2, c3, fun j => ?_⟩
    show up2 (mR μ) (b + o) k (some (rl b z r)) (b + i) j = (up2 X.2.2 o k (some r) i j).map (rl b z)
    by_cases e : i = o
    · subst e
      rw [up2_eq, up2_eq, up1_if, up1_if]
      split
      · rfl
      · exact c4 j
    · rw [up2_ne _ _ _ (by omega), up2_ne _ _ _ e, c4]
  · refine ⟨(a4 i hi).1, fun j => ?_⟩
    show up2 X.2.2 o k (some r) i j = none
    rw [up2_ne _ _ _ (show i ≠ o from fun e => by
      have hi2 : X.1.length ≤ i := hi
      omega)]
    exact (a4 i hi).2 j
/-- one more of a row -/
theorem AM.pF {o j : Nat} {v : Nat → Int32} (h : AM b z (xF X o j v) t μ0 μ) (ho : o < X.1.length) : AM b z (xF X o (j + 1) v) t μ0 (sI μ (b + o) j (v j)) := by
  have g := h.pI (k := j) (v := v j) (o := o) ho
  refine g.cg rfl (fun o' k => ?_) (fun _ _ => rfl)
  show up2 (xF X o j v).2.1 o j (v j) o' k = (xF X o (j + 1) v).2.1 o' k
  by_cases e : o' = o
  · subst e
    rw [up2_eq, up1_if]
    show (if k = j then v j else (if o' = o' then (fun k => if k < j then v k else X.2.1 o' k) else X.2.1 o') k) = (if o' = o' then (fun k => if k < j + 1 then v k else X.2.1 o' k) else X.2.1 o') k
    rw [if_pos rfl, if_pos rfl]
    by_cases e2 : k = j
    · rw [if_pos e2]
      show v j = if k < j + 1 then v k else X.2.1 o' k
      rw [if_pos (by omega), e2]
    · rw [if_neg e2]
      show (if k < j then v k else X.2.1 o' k) = if k < j + 1 then v k else X.2.1 o' k
      by_cases l : k < j
      · rw [if_pos l, if_pos (by omega)]
      · rw [if_neg l, if_neg (by omega)]
  · rw [up2_ne _ _ _ e]
    show (if o' = o then _ else X.2.1 o') k = (if o' = o then _ else X.2.1 o') k
    rw [if_neg e, if_neg e]
theorem AM.f0 {o : Nat} {v : Nat → Int32} (h : AM b z X t μ0 μ) : AM b z (xF X o 0 v) t μ0 μ := h.cg rfl (fun o' k => by
  show X.2.1 o' k = (if o' = o then (fun k => if k < 0 then v k else X.2.1 o k) else X.2.1 o') k
  by_cases e : o' = o
  · subst e
    rw [if_pos rfl]
    rfl
  · rw [if_neg e]) (fun _ _ => rfl)
/-- from such a memory the function ends well -/
def RU (b z : Nat) (X : XM) (t : Nat) (μ0 : Mm) (F : Mm → Option (Unit × Mm)) (Q : Mm → Prop) : Prop := ∀ μ, AM b z X t μ0 μ → ∃ μ', F μ = some ((), μ') ∧ Q μ'
variable {F : Mm → Option (Unit × Mm)}
theorem ru_nw {K : Nat → Mm → Option (Unit × Mm)} {l0 s0 κ : Nat} (n l s : Nat) (en : X.1.length = n) (el : l0 = l) (es : s0 = s) (h : RU b z (xN X κ l) (t + s) μ0 (K (b + n)) Q) : RU b z X t μ0 (fun μ => zl (mN μ) fun p => zl (nw μ κ l0 s0) fun μ' => K p μ') Q := fun μ hμ => by
  subst el es
  obtain ⟨μ', e, q⟩ := h (nw μ κ l0 s0) hμ.newC
  refine ⟨μ', ?_, q⟩
  rw [← e, ← en, ← hμ.1.1]
  rfl
theorem ru_ck {c : Prop} [Decidable c] (hc : c) (h : RU b z X t μ0 F Q) : RU b z X t μ0 (fun μ => ck c (F μ)) Q := fun μ hμ => by
  obtain ⟨μ', e, q⟩ := h μ hμ
  exact ⟨μ', (ck_t hc).trans e, q⟩
theorem ru_k (o κ : Nat) (ho : o < X.1.length) (hk : (X.1.getD o (0, 0)).1 = κ) (h : RU b z X t μ0 F Q) : RU b z X t μ0 (fun μ => ck (mK μ (b + o) = κ) (F μ)) Q := fun μ hμ => by
  obtain ⟨μ', e, q⟩ := h μ hμ
  have : mK μ (b + o) = κ := by rw [(hμ.2.2.1 o ho).1, hk]
  exact ⟨μ', (ck_t this).trans e, q⟩
theorem ru_sI (o k : Nat) {v : Int32} (ho : o < X.1.length) (h : RU b z (xI X o k v) t μ0 F Q) : RU b z X t μ0 (fun μ => zl (sI μ (b + o) k v) fun μ' => F μ') Q := fun μ hμ => h _ (hμ.pI ho)
theorem ru_sR (o k r : Nat) (hr : r < 1000) (ho : o < X.1.length) (h : RU b z (xR X o k r) t μ0 F Q) : RU b z X t μ0 (fun μ => zl (sR μ (b + o) k (some (b + r))) fun μ' => F μ') Q := fun μ hμ => by
  have g := hμ.pR (r := r) (k := k) ho
  unfold rl at g
  rw [if_neg (by omega)] at g
  exact h _ g
theorem ru_sZ (o k : Nat) (ho : o < X.1.length) (h : RU b z (xR X o k 1000) t μ0 F Q) : RU b z X t μ0 (fun μ => zl (sR μ (b + o) k (some z)) fun μ' => F μ') Q := fun μ hμ => h _ (hμ.pR (r := 1000) (k := k) ho)
theorem ru_end (h : ∀ μ, AM b z X t μ0 μ → Q μ) : RU b z X t μ0 (fun μ => some ((), μ)) Q := fun μ hμ => ⟨μ, rfl, h μ hμ⟩
theorem ru_cl {t' : Nat} {K : Mm → Option (Unit × Mm)} (h : RU b z X t μ0 F (AM b z Y t' μ0)) (k : RU b z Y t' μ0 K Q) : RU b z X t μ0 (fun μ => cl (F μ) fun _ μ' => K μ') Q := fun μ hμ => by
  obtain ⟨μ1, e1, q1⟩ := h μ hμ
  obtain ⟨μ2, e2, q2⟩ := k μ1 q1
  exact ⟨μ2, (cl_t e1).trans e2, q2⟩
theorem ru_bd {K : Nat → Mm → Option (Unit × Mm)} {i s : Nat} (h0 : 0 < b) (hs : mR μ0 0 i = some s) (h : RU b z X t μ0 (K s) Q) : RU b z X t μ0 (fun μ => bd (mR μ 0 i) fun q => K q μ) Q := fun μ hμ => by
  obtain ⟨μ', e, q⟩ := h μ hμ
  have : mR μ 0 i = some s := by rw [(hμ.2.1 0 h0).2.2.2.1]; exact hs
  exact ⟨μ', (bd_t this).trans e, q⟩
/-- a loop over rows -/
theorem ru_loop {K : Mm → Option (Unit × Mm)} {L : Nat → Int32 → Mm → Option (Unit × Mm)} (n : Nat) (hn : n < 4000) (Xs : Nat → XM) (x0 : ∀ μ, AM b z X t μ0 μ → AM b z (Xs 0) t μ0 μ) (step : ∀ j fu μ, j < n → AM b z (Xs j) t μ0 μ → ∃ μ', AM b z (Xs (j + 1)) t μ0 μ' ∧ L (fu + 1) (nI j) μ = L fu (nI (j + 1)) μ') (stop : ∀ fu μ, AM b z (Xs n) t μ0 μ → L (fu + 1) (nI n) μ = K μ) (k : RU b z (Xs n) t μ0 K Q) : RU b z X t μ0 (fun μ => L 5000 0 μ) Q := fun μ hμ => by
  have key : ∀ (m j fu : Nat) (μ : Mm), j + m = n → m < fu → AM b z (Xs j) t μ0 μ → ∃ μ', L fu (nI j) μ = some ((), μ') ∧ Q μ' := by
    intro m
    induction m with
    | zero =>
      intro j fu μ hj hf ha
      obtain ⟨fu, rfl⟩ : ∃ n, fu = n + 1 := ⟨fu - 1, by omega⟩
      have e : j = n := by omega
      subst e
      obtain ⟨μ', e1, q⟩ := k μ ha
      exact ⟨μ', by rw [stop fu μ ha]; exact e1, q⟩
    | succ m ih =>
      intro j fu μ hj hf ha
      obtain ⟨fu, rfl⟩ : ∃ n, fu = n + 1 := ⟨fu - 1, by omega⟩
      obtain ⟨μ1, a1, e1⟩ := step j fu μ (by omega) ha
      obtain ⟨μ2, e2, q⟩ := ih (j + 1) fu μ1 (by omega) (by omega) a1
      exact ⟨μ2, by rw [e1]; exact e2, q⟩
  exact key n 0 5000 μ (Nat.zero_add _) (by omega) (x0 μ hμ)
end AMS
/-! cells written by a loop; a list made -/
section AMW
variable {b z t : Nat} {μ0 μ μ' : Mm} {Q : Mm → Prop} {X Y : XM} {F : Mm → Option (Unit × Mm)} {p p' : Nat → Nat → Bool} {v : Nat → Nat → Int32}
def xW (X : XM) (p : Nat → Nat → Bool) (v : Nat → Nat → Int32) : XM := (X.1, fun o k => if p o k = true then v o k else X.2.1 o k, X.2.2)
theorem AM.w0 (h : AM b z X t μ0 μ) (h0 : ∀ o k, p o k = false) : AM b z (xW X p v) t μ0 μ := h.cg rfl (fun o k => by
  show _ = if p o k = true then v o k else X.2.1 o k
  rw [h0, if_neg Bool.false_ne_true]) (fun _ _ => rfl)
theorem AM.wS (h : AM b z (xW X p v) t μ0 μ) (e : ∀ o k, p o k = p' o k) : AM b z (xW X p' v) t μ0 μ := h.cg rfl (fun o k => by
  show (if p o k = true then v o k else X.2.1 o k) = if p' o k = true then v o k else X.2.1 o k
  rw [e]) (fun _ _ => rfl)
theorem AM.pW {o j : Nat} {w : Int32} (h : AM b z (xW X p v) t μ0 μ) (ho : o < X.1.length) (hw : w = v o j) : AM b z (xW X (fun o' k => p o' k || (o' == o && k == j)) v) t μ0 (sI μ (b + o) j w) := by
  subst hw
  refine (h.pI (k := j) (v := v o j) (o := o) ho).cg rfl (fun o' k => ?_) (fun _ _ => rfl)
  show up2 (xW X p v).2.1 o j (v o j) o' k = if (p o' k || (o' == o && k == j)) = true then v o' k else X.2.1 o' k
  by_cases e : o' = o
  · subst e
    rw [up2_eq, up1_if]
    by_cases e2 : k = j
    · subst e2
      rw [if_pos rfl, if_pos (by simp)]
    · rw [if_neg e2]
      show (if p o' k = true then v o' k else X.2.1 o' k) = _
      have : (p o' k || (o' == o' && k == j)) = p o' k := by simp [e2]
      rw [this]
  · rw [up2_ne _ _ _ e]
    show (if p o' k = true then v o' k else X.2.1 o' k) = _
    have : (p o' k || (o' == o && k == j)) = p o' k := by simp [e]
    rw [this]
theorem AM.k (h : AM b z X t μ0 μ) {o : Nat} (κ : Nat) (ho : o < X.1.length) (hk : (X.1.getD o (0, 0)).1 = κ) : mK μ (b + o) = κ := by rw [(h.2.2.1 o ho).1, hk]
theorem AM.l (h : AM b z X t μ0 μ) {o : Nat} (c : Nat) (ho : o < X.1.length) (hk : (X.1.getD o (0, 0)).2 = c) : mL μ (b + o) = c := by rw [(h.2.2.1 o ho).2.1, hk]
theorem AM.i (h : AM b z X t μ0 μ) {o k : Nat} (w : Int32) (ho : o < X.1.length) (hk : X.2.1 o k = w) : mI μ (b + o) k = w := by rw [(h.2.2.1 o ho).2.2.1, hk]
theorem AM.r (h : AM b z X t μ0 μ) {o k : Nat} (r : Nat) (hr : r < 1000) (ho : o < X.1.length) (hk : X.2.2 o k = some r) : mR μ (b + o) k = some (b + r) := by
  rw [(h.2.2.1 o ho).2.2.2, hk]
  show some (if r = 1000 then z else b + r) = _
  rw [if_neg (by omega)]
theorem AM.rz (h : AM b z X t μ0 μ) {o k : Nat} (ho : o < X.1.length) (hk : X.2.2 o k = some 1000) : mR μ (b + o) k = some z := by
  rw [(h.2.2.1 o ho).2.2.2, hk]
  rfl
theorem i_list (o : Nat) (h0 : 0 < b) (hz : mR μ0 0 0 = some z) (ho : o < X.1.length) (hk : (X.1.getD o (0, 0)).1 = 100) : RU b z X t μ0 (fun μ => f_Jx4a65c_init_da8c8 (b + o) μ) (AM b z (xR (xI X o 0 0) o 1 1000) t μ0) := fun μ hμ => by
  have k1 := hμ.k 100 ho hk
  have g1 := hμ.pI (o := o) (k := 0) (v := 0) ho
  have g2 := g1.pR (o := o) (k := 1) (r := 1000) ho
  have z1 : mR (sI μ (b + o) 0 0) 0 0 = some z := by
    show mR μ 0 0 = _
    rw [(hμ.2.1 0 h0).2.2.2.1]
    exact hz
  refine ⟨sR (sI μ (b + o) 0 0) (b + o) 1 (some z), ?_, g2⟩
  simp only [f_Jx4a65c_init_da8c8, f_Jxc12de_init_da8c8, f_Jxa1e45_init_da8c8, bdS, k1, ckT, zlS, clS, z1, mK_sI]
end AMW
