/-- of each class: its words, its fields' types, the names apart, each field its own -/
def clF (q : vw_C) : Prop := (∀ w ∈ u_ws q.1 q.2.1 q.2.2, w ∈ AT) ∧ (∃ ty0 : Nat → FieldType, ∀ k, k < q.2.2 → parseFieldDescriptor (q.2.1 k).2.2.1 = some (ty0 k)) ∧ (∀ a, a < q.2.2 → ∀ b, b < q.2.2 → a ≠ b → (q.2.1 a).2.1 ≠ (q.2.1 b).2.1) ∧ ∀ k, k < q.2.2 → (q.2.1 k).1 = q.1
theorem clF_in {ws : List Cond} (h : ∀ w ∈ ws, w ∈ tables_1) (hg : ws.all goodWord = true) : ∀ w ∈ ws, w ∈ AT := fun w hw => List.mem_filter.mpr ⟨List.mem_append_right _ (h w hw), List.all_eq_true.mp hg w hw⟩
theorem clF_0 : clF (RX0, TX0, 16) := ⟨clF_in (by decide +kernel) (by decide +kernel), ⟨tyX0, tyX0_ok⟩, nmX0, by decide +kernel⟩
theorem clF_1 : clF (RX1, TX1, 11) := ⟨clF_in (by decide +kernel) (by decide +kernel), ⟨tyX1, tyX1_ok⟩, nmX1, by decide +kernel⟩
theorem clF_2 : clF (RX2, TX2, 3) := ⟨clF_in (by decide +kernel) (by decide +kernel), ⟨tyX2, tyX2_ok⟩, nmX2, by decide +kernel⟩
theorem clF_3 : clF (RX3, TX3, 4) := ⟨clF_in (by decide +kernel) (by decide +kernel), ⟨tyX3, tyX3_ok⟩, nmX3, by decide +kernel⟩
theorem clF_4 : clF (RX4, TX4, 4) := ⟨clF_in (by decide +kernel) (by decide +kernel), ⟨tyX4, tyX4_ok⟩, nmX4, by decide +kernel⟩
theorem clF_5 : clF (RX5, TX5, 6) := ⟨clF_in (by decide +kernel) (by decide +kernel), ⟨tyX5, tyX5_ok⟩, nmX5, by decide +kernel⟩
theorem clF_6 : clF (RX6, TX6, 14) := ⟨clF_in (by decide +kernel) (by decide +kernel), ⟨tyX6, tyX6_ok⟩, nmX6, by decide +kernel⟩
theorem clF_7 : clF (RX7, TX7, 7) := ⟨clF_in (by decide +kernel) (by decide +kernel), ⟨tyX7, tyX7_ok⟩, nmX7, by decide +kernel⟩
theorem clF_8 : clF (RX8, TX8, 5) := ⟨clF_in (by decide +kernel) (by decide +kernel), ⟨tyX8, tyX8_ok⟩, nmX8, by decide +kernel⟩
theorem clF_9 : clF (RX9, TX9, 4) := ⟨clF_in (by decide +kernel) (by decide +kernel), ⟨tyX9, tyX9_ok⟩, nmX9, by decide +kernel⟩
theorem clF_10 : clF (RX10, TX10, 18) := ⟨clF_in (by decide +kernel) (by decide +kernel), ⟨tyX10, tyX10_ok⟩, nmX10, by decide +kernel⟩
theorem clF_11 : clF (RX11, TX11, 54) := ⟨clF_in (by decide +kernel) (by decide +kernel), ⟨tyX11, tyX11_ok⟩, nmX11, by decide +kernel⟩
theorem clF_of {ci : Nat} {q : vw_C} (h : vwCl[ci]? = some q) : clF q := by
  match ci, h with
  | 0, h => cases h; exact clF_0
  | 1, h => cases h; exact clF_1
  | 2, h => cases h; exact clF_2
  | 3, h => cases h; exact clF_3
  | 4, h => cases h; exact clF_4
  | 5, h => cases h; exact clF_5
  | 6, h => cases h; exact clF_6
  | 7, h => cases h; exact clF_7
  | 8, h => cases h; exact clF_8
  | 9, h => cases h; exact clF_9
  | 10, h => cases h; exact clF_10
  | 11, h => cases h; exact clF_11
  | n + 12, h => simp at h
