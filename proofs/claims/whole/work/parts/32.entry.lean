/-- both constructors, and the law's row, with the places tested -/
def f_ini2 : Option (Int32 × List CD) := dnw [] 10 (fun D q => if q = ordC 0 0 0 then dcal (f_X10_init q D) (fun D => dnw D 11 (fun D q => if q = ordC 10 0 0 then dcal (f_X11_init q D) (fun D => dna D 3 1 (fun D q => if q = ordC 11 0 0 then rt 0 D else none)) else none)) else none)
def f_ini2B : Bool := match f_ini2 with
  | some q => eqD q.2 Dfin
  | none => false
theorem f_ini2_ok : f_ini2B = true := by decide +kernel
theorem f_ini2_sat : SAT f_ini2 (fun _ D => D = Dfin) := by
  have h := f_ini2_ok
  unfold f_ini2B at h
  split at h
  · rename_i q hq
    rw [hq]
    exact eqD_ok h
  · cases h
theorem sat_if {K : Int32 → List CD → Prop} {c : Prop} [Decidable c] {a : Option (Int32 × List CD)} (h : SAT (if c then a else none) K) : c ∧ SAT a K := by
  by_cases hc : c
  · rw [if_pos hc] at h
    exact ⟨hc, h⟩
  · rw [if_neg hc] at h
    exact h.elim
section RULES
variable {l : Launch} {G : GX} {R : Room} {cs sl : Nat} {mt : MT} {Z : State → Array Value → List Frame → State → Prop} {pc : Nat} {lv : List (Nat × Value)} {st : List Value}
/-- from the row of cells to the memory -/
theorem ad_ab (hg : ∀ k i j, gA G k i j = gS G + ordC k i j) (k : AB l G R cs sl mt Z pc lv st (C0m, X0m)) : AD l G R cs sl mt Z pc lv st Dfin :=
  fun p e s m args below meth c H locs ls C _ hH hS hl => k p e s m args below meth c H locs ls C (hold_init hg hH) hS hl
end RULES
set_option maxRecDepth 8000 in
theorem law_entry {l : Launch} (hfl : l.stackTraces = false) {G : GX} {N : Nat} {Rel : CM → XM → Prop} (hg : ∀ k i j, gA G k i j = gS G + ordC k i j) (hL : gL G ≤ 3072) (H : OPS N Rel) (h0 : Rel C0m X0m) : AD l G room_1 0 0 mt_law (ZL G) 0 [(0, .ref (gF G 2))] [] [] := by
  have h := f_ini2_sat
  unfold f_ini2 at h
  refine ad_new (ci := 10) h rfl tyX10_ok (by decide +kernel) rfl (at_1 24 rfl rfl) (at_1 25 rfl rfl) (at_1 1 rfl rfl) (Nat.le_of_ble_eq_true rfl) (Nat.le_of_ble_eq_true rfl) dL_law_0 (fun D1 q1 h => ?_)
  obtain ⟨hq1, h⟩ := sat_if h
  refine ad_dup dL_law_3 rfl ?_
  refine ad_init (mtc := mt_X10_init) h (fun Q h => ct_X10_init q1 D1 h) mw_X10_init (at_1 27 rfl rfl) rfl rfl (Or.inr (at_1 26 rfl rfl)) ⟨Nat.le_of_ble_eq_true rfl, Nat.le_of_ble_eq_true rfl⟩ (Nat.le_of_ble_eq_true rfl) (Nat.le_of_ble_eq_true rfl) (Nat.le_of_ble_eq_true rfl) dL_law_4 (fun D2 h => ?_)
  refine ad_astoren (lv' := [(0, .ref (gF G 2)), (1, .ref (gS G + q1))]) dL_law_7 rfl (Nat.le_of_ble_eq_true rfl) rfl ?_
  refine ad_new (ci := 11) h rfl tyX11_ok (by decide +kernel) rfl (at_6 24 rfl rfl) (at_6 18 rfl rfl) (at_1 12 rfl rfl) (Nat.le_of_ble_eq_true rfl) (Nat.le_of_ble_eq_true rfl) dL_law_8 (fun D3 q2 h => ?_)
  obtain ⟨hq2, h⟩ := sat_if h
  refine ad_dup dL_law_11 rfl ?_
  refine ad_init (mtc := mt_X11_init) h (fun Q h => ct_X11_init q2 D3 h) mw_X11_init (at_6 26 rfl rfl) rfl rfl (Or.inr (at_6 25 rfl rfl)) ⟨Nat.le_of_ble_eq_true rfl, Nat.le_of_ble_eq_true rfl⟩ (Nat.le_of_ble_eq_true rfl) (Nat.le_of_ble_eq_true rfl) (Nat.le_of_ble_eq_true rfl) dL_law_12 (fun D4 h => ?_)
  refine ad_astoren (lv' := [(0, .ref (gF G 2)), (1, .ref (gS G + q1)), (2, .ref (gS G + q2))]) dL_law_15 rfl (Nat.le_of_ble_eq_true rfl) rfl ?_
  refine ad_iconst (v := 1) dL_law_16 (by decide) ?_
  refine ad_newa (atype := .long) (t := 3) (len := 1) h (by decide) rfl (at_6 216 rfl rfl) (by decide) (by decide) (Nat.le_of_ble_eq_true rfl) (Nat.le_of_ble_eq_true rfl) (Nat.le_of_ble_eq_true rfl) dL_law_17 (fun D5 q3 h => ?_)
  obtain ⟨hq3, h⟩ := sat_if h
  refine ad_astoren (lv' := [(0, .ref (gF G 2)), (1, .ref (gS G + q1)), (2, .ref (gS G + q2)), (3, .ref (gS G + q3))]) dL_law_19 rfl (Nat.le_of_ble_eq_true rfl) rfl ?_
  refine ad_iconst (v := 0) dL_law_20 (by decide) ?_
  refine ad_istore (lv' := [(0, .ref (gF G 2)), (1, .ref (gS G + q1)), (2, .ref (gS G + q2)), (3, .ref (gS G + q3)), (4, .int 0)]) dL_law_21 rfl (Nat.le_of_ble_eq_true rfl) rfl ?_
  have hD : D5 = Dfin := h
  rw [hD, hq1, hq2, hq3, ← hg, ← hg, ← hg]
  exact ad_ab hg (law_loop hfl hL H 512 0 251 19574 C0m X0m (by omega) (Nat.zero_le _) (by decide) (by decide) h0)
