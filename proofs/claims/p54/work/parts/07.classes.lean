/-! the classes of the memory, as the tables have them -/
theorem zCin_0 : ∀ w ∈ u_ws RJx4a65c TJx4a65c 3, w ∈ lw_tbl := zC_X 0 _ _ _ tyJx4a65c [106, 102, 104] (by decide +kernel)
theorem zCty_0 : ∀ k, k < 3 → tcode (tyJx4a65c k) = zfc 0 k := by decide +kernel
theorem zCin_1 : ∀ w ∈ u_ws RX0 TX0 18, w ∈ lw_tbl := zC_X 1 _ _ _ tyX0 [364, 366, 368, 370, 372, 374, 376, 378, 380, 382, 384, 386, 388, 390, 392, 394, 396, 398] (by decide +kernel)
theorem zCty_1 : ∀ k, k < 18 → tcode (tyX0 k) = zfc 1 k := by decide +kernel
theorem zCin_2 : ∀ w ∈ u_ws RX1 TX1 7, w ∈ lw_tbl := zC_X 2 _ _ _ tyX1 [177, 179, 181, 183, 185, 187, 189] (by decide +kernel)
theorem zCty_2 : ∀ k, k < 7 → tcode (tyX1 k) = zfc 2 k := by decide +kernel
theorem zCin_3 : ∀ w ∈ u_ws RX2 TX2 5, w ∈ lw_tbl := zC_X 3 _ _ _ tyX2 [910, 912, 914, 916, 918] (by decide +kernel)
theorem zCty_3 : ∀ k, k < 5 → tcode (tyX2 k) = zfc 3 k := by decide +kernel
theorem zCin_4 : ∀ w ∈ u_ws RX3 TX3 17, w ∈ lw_tbl := zC_X 4 _ _ _ tyX3 [1187, 1189, 1191, 1193, 1195, 1197, 1199, 1201, 1203, 1205, 1207, 1209, 1211, 1213, 1215, 1217, 1219] (by decide +kernel)
theorem zCty_4 : ∀ k, k < 17 → tcode (tyX3 k) = zfc 4 k := by decide +kernel
theorem zCin_5 : ∀ w ∈ u_ws RX4 TX4 7, w ∈ lw_tbl := zC_X 5 _ _ _ tyX4 [315, 317, 319, 321, 323, 325, 327] (by decide +kernel)
theorem zCty_5 : ∀ k, k < 7 → tcode (tyX4 k) = zfc 5 k := by decide +kernel
theorem zCin_6 : ∀ w ∈ u_ws RX5 TX5 7, w ∈ lw_tbl := zC_X 6 _ _ _ tyX5 [251, 253, 255, 257, 259, 261, 263] (by decide +kernel)
theorem zCty_6 : ∀ k, k < 7 → tcode (tyX5 k) = zfc 6 k := by decide +kernel
theorem zCin_7 : ∀ w ∈ u_ws RX6 TX6 6, w ∈ lw_tbl := zC_X 7 _ _ _ tyX6 [618, 620, 622, 624, 626, 628] (by decide +kernel)
theorem zCty_7 : ∀ k, k < 6 → tcode (tyX6 k) = zfc 7 k := by decide +kernel
theorem zCin_8 : ∀ w ∈ u_ws RX7 TX7 5, w ∈ lw_tbl := zC_X 8 _ _ _ tyX7 [281, 283, 285, 287, 289] (by decide +kernel)
theorem zCty_8 : ∀ k, k < 5 → tcode (tyX7 k) = zfc 8 k := by decide +kernel
theorem zCin_9 : ∀ w ∈ u_ws RX8 TX8 5, w ∈ lw_tbl := zC_X 9 _ _ _ tyX8 [211, 213, 215, 217, 219] (by decide +kernel)
theorem zCty_9 : ∀ k, k < 5 → tcode (tyX8 k) = zfc 9 k := by decide +kernel
theorem zCin_10 : ∀ w ∈ u_ws RX9 TX9 5, w ∈ lw_tbl := zC_X 10 _ _ _ tyX9 [130, 132, 134, 136, 138] (by decide +kernel)
theorem zCty_10 : ∀ k, k < 5 → tcode (tyX9 k) = zfc 10 k := by decide +kernel
theorem zCin_11 : ∀ w ∈ u_ws RX10 TX10 1, w ∈ lw_tbl := zC_X 11 _ _ _ tyX10 [402] (by decide +kernel)
theorem zCty_11 : ∀ k, k < 1 → tcode (tyX10 k) = zfc 11 k := by decide +kernel
/-- a class of the memory: its words stand in the tables, its types, its kinds; its names are apart -/
def ZC (ci : Nat) (C : String) (T : u_T) (N : Nat) (ty : Nat → FieldType) : Prop := vwCl[ci]? = some (C, T, N) ∧ (∀ w ∈ u_ws C T N, w ∈ lw_tbl) ∧ (∀ k, k < N → parseFieldDescriptor (T k).2.2.1 = some (ty k)) ∧ (∀ k, k < N → tcode (ty k) = zfc ci k) ∧ ∀ a, a < N → ∀ b, b < N → a ≠ b → (T a).2.1 ≠ (T b).2.1
theorem zC_0 : ZC 0 RJx4a65c TJx4a65c 3 tyJx4a65c := ⟨rfl, zCin_0, tyJx4a65c_ok, zCty_0, by decide +kernel⟩
theorem zC_1 : ZC 1 RX0 TX0 18 tyX0 := ⟨rfl, zCin_1, tyX0_ok, zCty_1, by decide +kernel⟩
theorem zC_2 : ZC 2 RX1 TX1 7 tyX1 := ⟨rfl, zCin_2, tyX1_ok, zCty_2, by decide +kernel⟩
theorem zC_3 : ZC 3 RX2 TX2 5 tyX2 := ⟨rfl, zCin_3, tyX2_ok, zCty_3, by decide +kernel⟩
theorem zC_4 : ZC 4 RX3 TX3 17 tyX3 := ⟨rfl, zCin_4, tyX3_ok, zCty_4, by decide +kernel⟩
theorem zC_5 : ZC 5 RX4 TX4 7 tyX4 := ⟨rfl, zCin_5, tyX4_ok, zCty_5, by decide +kernel⟩
theorem zC_6 : ZC 6 RX5 TX5 7 tyX5 := ⟨rfl, zCin_6, tyX5_ok, zCty_6, by decide +kernel⟩
theorem zC_7 : ZC 7 RX6 TX6 6 tyX6 := ⟨rfl, zCin_7, tyX6_ok, zCty_7, by decide +kernel⟩
theorem zC_8 : ZC 8 RX7 TX7 5 tyX7 := ⟨rfl, zCin_8, tyX7_ok, zCty_8, by decide +kernel⟩
theorem zC_9 : ZC 9 RX8 TX8 5 tyX8 := ⟨rfl, zCin_9, tyX8_ok, zCty_9, by decide +kernel⟩
theorem zC_10 : ZC 10 RX9 TX9 5 tyX9 := ⟨rfl, zCin_10, tyX9_ok, zCty_10, by decide +kernel⟩
theorem zC_11 : ZC 11 RX10 TX10 1 tyX10 := ⟨rfl, zCin_11, tyX10_ok, zCty_11, by decide +kernel⟩
theorem zC_of {ci : Nat} {r : vw_C} (h : vwCl[ci]? = some r) : ∃ ty : Nat → FieldType, ZC ci r.1 r.2.1 r.2.2 ty := by
  match ci, h with
  | 0, h => cases h; exact ⟨_, zC_0⟩
  | 1, h => cases h; exact ⟨_, zC_1⟩
  | 2, h => cases h; exact ⟨_, zC_2⟩
  | 3, h => cases h; exact ⟨_, zC_3⟩
  | 4, h => cases h; exact ⟨_, zC_4⟩
  | 5, h => cases h; exact ⟨_, zC_5⟩
  | 6, h => cases h; exact ⟨_, zC_6⟩
  | 7, h => cases h; exact ⟨_, zC_7⟩
  | 8, h => cases h; exact ⟨_, zC_8⟩
  | 9, h => cases h; exact ⟨_, zC_9⟩
  | 10, h => cases h; exact ⟨_, zC_10⟩
  | 11, h => cases h; exact ⟨_, zC_11⟩
  | n + 12, h => exact absurd h (by simp [vwCl])
