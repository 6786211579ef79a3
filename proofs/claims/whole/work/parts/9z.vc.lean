/-! All calls together. -/
theorem ops_all : OPS 2000 (Rel 2000) := by
  have hN : 2000 ≤ 2000 := Nat.le_refl _
  exact ⟨op_feed hN, op_end, op_bank hN, op_fault, op_cell hN, op_owner, op_gust, op_comes hN, op_faces hN, op_gains hN, op_blow hN, op_set hN, op_fell hN, op_oil hN, op_point hN, op_undo hN, op_now hN, op_fence hN, op_more, op_has hN, op_rests hN, op_oiled hN, op_oiledAt, op_suit hN, op_worth hN, op_drawn hN, op_odds hN, op_richest hN, op_best hN, op_plan hN, op_judge hN, op_judged, op_sentence hN, op_said hN, op_image hN, op_restore hN, op_count⟩
theorem i_vc : Claimed_1_1 ∧ Claimed_1_2 := vc_of ops_all (rel_0 2000)
