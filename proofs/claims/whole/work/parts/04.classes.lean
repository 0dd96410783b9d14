/-- a class of the world: its words stand in the tables, its fields have types, their names differ -/
def zcok (q : vw_C) : Prop := (∀ w ∈ u_ws q.1 q.2.1 q.2.2, w ∈ zT) ∧ (∃ ty : Nat → FieldType, ∀ k, k < q.2.2 → parseFieldDescriptor (q.2.1 k).2.2.1 = some (ty k)) ∧ (∀ a, a < q.2.2 → ∀ b, b < q.2.2 → a ≠ b → (q.2.1 a).2.1 ≠ (q.2.1 b).2.1)
theorem zT_all {ws : List Cond} (h1 : ∀ w ∈ ws, w ∈ lw_tbl) (h2 : ∀ w ∈ ws, goodWord w = true) : ∀ w ∈ ws, w ∈ zT := fun w h => List.mem_filter.mpr ⟨h1 w h, h2 w h⟩

theorem zcok_X0 : zcok (RX0, TX0, 2) := ⟨zT_all (by decide +kernel) (by decide +kernel), ⟨tyX0, tyX0_ok⟩, nmX0⟩
theorem zcok_X1 : zcok (RX1, TX1, 11) := ⟨zT_all (by decide +kernel) (by decide +kernel), ⟨tyX1, tyX1_ok⟩, nmX1⟩
theorem zcok_X2 : zcok (RX2, TX2, 13) := ⟨zT_all (by decide +kernel) (by decide +kernel), ⟨tyX2, tyX2_ok⟩, nmX2⟩
theorem zcok_X3 : zcok (RX3, TX3, 4) := ⟨zT_all (by decide +kernel) (by decide +kernel), ⟨tyX3, tyX3_ok⟩, nmX3⟩
theorem zcok_X4 : zcok (RX4, TX4, 4) := ⟨zT_all (by decide +kernel) (by decide +kernel), ⟨tyX4, tyX4_ok⟩, nmX4⟩
theorem zcok_X5 : zcok (RX5, TX5, 11) := ⟨zT_all (by decide +kernel) (by decide +kernel), ⟨tyX5, tyX5_ok⟩, nmX5⟩
theorem zcok_X6 : zcok (RX6, TX6, 9) := ⟨zT_all (by decide +kernel) (by decide +kernel), ⟨tyX6, tyX6_ok⟩, nmX6⟩
theorem zcok_X7 : zcok (RX7, TX7, 13) := ⟨zT_all (by decide +kernel) (by decide +kernel), ⟨tyX7, tyX7_ok⟩, nmX7⟩
theorem zcok_X8 : zcok (RX8, TX8, 2) := ⟨zT_all (by decide +kernel) (by decide +kernel), ⟨tyX8, tyX8_ok⟩, nmX8⟩
theorem zcok_X9 : zcok (RX9, TX9, 8) := ⟨zT_all (by decide +kernel) (by decide +kernel), ⟨tyX9, tyX9_ok⟩, nmX9⟩
theorem zcok_X10 : zcok (RX10, TX10, 4) := ⟨zT_all (by decide +kernel) (by decide +kernel), ⟨tyX10, tyX10_ok⟩, nmX10⟩
theorem zcok_X11 : zcok (RX11, TX11, 12) := ⟨zT_all (by decide +kernel) (by decide +kernel), ⟨tyX11, tyX11_ok⟩, nmX11⟩
theorem zcok_X12 : zcok (RX12, TX12, 85) := ⟨zT_all (by decide +kernel) (by decide +kernel), ⟨tyX12, tyX12_ok⟩, nmX12⟩
theorem zcok_all {ci : Nat} {q : vw_C} (h : classes[ci]? = some q) : zcok q := by
  have hm : q ∈ classes := List.mem_of_getElem? h
  simp only [classes, List.mem_cons, List.not_mem_nil, or_false] at hm
  rcases hm with rfl | rfl | rfl | rfl | rfl | rfl | rfl | rfl | rfl | rfl | rfl | rfl | rfl
  · exact zcok_X0
  · exact zcok_X1
  · exact zcok_X2
  · exact zcok_X3
  · exact zcok_X4
  · exact zcok_X5
  · exact zcok_X6
  · exact zcok_X7
  · exact zcok_X8
  · exact zcok_X9
  · exact zcok_X10
  · exact zcok_X11
  · exact zcok_X12
