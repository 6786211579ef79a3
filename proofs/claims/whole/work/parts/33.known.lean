theorem ar_prim {args : Array Value} {s : State} {ty : FieldType} (hra : ∀ cA, s.vm.findClass ("[" ++ ty.toString) = some cA → va_RA s cA ty) (h : (Cond.arrayClass ty).before args s = true) : ∃ cA, ArrOfT s cA ty ∧ va_RA s cA ty := by
  obtain ⟨c, k, comp, h1, h2, h3⟩ := Cond.arrayClass_spec h
  exact ⟨c, fun n z => ⟨fun k h => (by cases h), k, h2, comp, h3⟩, hra c h1⟩
theorem ar_obj {s : State} {C : String} (h : va_AO C s) : ∃ cA, ArrOfT s cA (.object C) ∧ va_RA s cA (.object C) := by
  obtain ⟨comp, c, k, h1, h2, h3, h4, h5⟩ := Cond.arrayOver_spec h
  exact ⟨c, fun n z => ⟨fun k h => (by cases h), k, h3, comp, h4⟩, k, comp, h3, h4, h1, h5⟩
theorem inst_of {ci : Nat} {q : vw_C} (h : vwCl[ci]? = some q) : Cond.instantiable q.1 q.2.2 ∈ lw_tbl := by
  match ci, h with
  | 0, h => cases h; decide +kernel
  | 1, h => cases h; decide +kernel
  | 2, h => cases h; decide +kernel
  | 3, h => cases h; decide +kernel
  | 4, h => cases h; decide +kernel
  | 5, h => cases h; decide +kernel
  | 6, h => cases h; decide +kernel
  | 7, h => cases h; decide +kernel
  | 8, h => cases h; decide +kernel
  | 9, h => cases h; decide +kernel
  | 10, h => cases h; decide +kernel
  | 11, h => cases h; decide +kernel
  | n + 12, h => simp at h
abbrev tmX : Term := .static "GaleBank" "STEP_X" "[I"
abbrev tmY : Term := .static "GaleBank" "STEP_Y" "[I"
abbrev tmS : Term := .string "GaleBank$Text" 62
abbrev nrw : Cond := Jvm.Cond.and given_1 narrow_1
theorem el_X : ∀ j : Nat, j < 8 → Cond.eq (.elem tmX (.int (Int32.ofNat j))) (.int (tbX j)) ∈ flatC nrw := by decide +kernel
theorem el_Y : ∀ j : Nat, j < 8 → Cond.eq (.elem tmY (.int (Int32.ofNat j))) (.int (tbY j)) ∈ flatC nrw := by decide +kernel
theorem el_S : ∀ j : Nat, j < 119 → Cond.eq (.elem (.field tmS "java/lang/String" "value" "[B") (.int (Int32.ofNat j))) (.int ((([byW] : List (List Int32)).getD 0 []).getD j 0)) ∈ flatC nrw := by decide +kernel
theorem nest_in : ∀ q ∈ nestL, Cond.methodLinkNest q.1 q.2.1 q.2.2 "GaleBank" ∈ lw_tbl := by decide +kernel
/-- the launch's numbers, and what the tables and the start say of them -/
theorem known_of {args : Array Value} {s : State} {b L : Nat} {xs : Nat → Int32} (hts : ∀ w ∈ lw_tbl, w.before args s = true) (hX : va_X b L xs s s.heap) (hb : b < s.heap.size) (hgv : nrw.before args s = true) :
    ∃ G : GX, (∀ k i j, gA G k i j = gS G + ordC k i j) ∧ gS G = s.heap.size ∧ gF G 2 = b ∧ gL G = L ∧ gX G = xs ∧ Kx G s ∧ Kn s := by
  have hs := flat_of_before _ hgv
  have hA : ∀ a : Nat, a < s.heap.size → ¬ (s.heap.size ≤ a) := fun a h => Nat.not_le.mpr h
  have hc : ∀ ci : Nat, ∃ D : ClassId × (Nat → Nat), ∀ q : vw_C, vwCl[ci]? = some q → u_Kn s q.1 q.2.1 q.2.2 D.1 D.2 := by
    intro ci
    cases hq : vwCl[ci]? with
    | none => exact ⟨(0, fun _ => 0), fun q h => by cases h⟩
    | some q =>
      obtain ⟨cC, iS, h⟩ := u_known (ws := AT) (fun w hw => hts w (List.mem_filter.mp hw).1) (clF_of hq).1 (hts _ (inst_of hq))
      exact ⟨(cC, iS), fun q' h' => by cases h'; exact h⟩
  obtain ⟨cD, hcD⟩ := Classical.axiomOfChoice hc
  have hAO4 : va_AO "GaleBank$State" s := va_AO.of (hts _ (by decide +kernel))
  have hAO5 : va_AO "GaleBank$Whole" s := va_AO.of (hts _ (by decide +kernel))
  obtain ⟨c0, a0⟩ := ar_prim (ty := .int) (fun _ h => h) (hts _ (by decide +kernel))
  obtain ⟨c1, a1⟩ := ar_prim (ty := .byte) (fun _ h => h) (hts _ (by decide +kernel))
  obtain ⟨c2, a2⟩ := ar_prim (ty := .boolean) (fun _ h => h) (hts _ (by decide +kernel))
  obtain ⟨c3, a3⟩ := ar_prim (ty := .long) (fun _ h => h) (hts _ (by decide +kernel))
  obtain ⟨c4, a4⟩ := ar_obj hAO4
  obtain ⟨c5, a5⟩ := ar_obj hAO5
  obtain ⟨tx, hx1, hx2⟩ := va_Tof (args := args) (tm := tmX) (ty := .int) (N := 8) (f := fun j => .int (tbX j)) (A := fun q => s.heap.size ≤ q) (by decide) (hs _ (by decide +kernel)) (va_eqt (hs _ (by decide +kernel))) (fun j hj => va_eqt (hs _ (el_X j hj))) hA
  obtain ⟨ty, hy1, hy2⟩ := va_Tof (args := args) (tm := tmY) (ty := .int) (N := 8) (f := fun j => .int (tbY j)) (A := fun q => s.heap.size ≤ q) (by decide) (hs _ (by decide +kernel)) (va_eqt (hs _ (by decide +kernel))) (fun j hj => va_eqt (hs _ (el_Y j hj))) hA
  obtain ⟨adK, adV, hS, hK⟩ := vk_Sof (args := args) (s := s) (N := 1) (tm := fun _ => tmS) (len := [lnW]) (byt := [byW]) (A := fun q => s.heap.size ≤ q)
    (fun i hi => by cases Nat.lt_one_iff.mp hi; decide) (fun i hi => hs _ (by decide +kernel)) (fun i hi => hs _ (by decide +kernel)) (fun i hi => hs _ (by decide +kernel))
    (fun i hi => by cases Nat.lt_one_iff.mp hi; exact hs _ (by decide +kernel)) (fun i hi j hj => by cases Nat.lt_one_iff.mp hi; exact hs _ (el_S j hj)) (fun i j hi hj h => absurd ((Nat.lt_one_iff.mp hi).trans (Nat.lt_one_iff.mp hj).symm) h) hA
  refine ⟨((fun c => (cD c).1, fun c => (cD c).2), fun t => match t with | 0 => c0 | 1 => c1 | 2 => c2 | 3 => c3 | 4 => c4 | _ => c5, fun k i j => s.heap.size + ordC k i j, s.heap.size, fun n => match n with | 0 => tx | 1 => ty | 2 => b | 3 => adK 0 | _ => adV 0, L, xs), fun _ _ _ => rfl, rfl, rfl, rfl, rfl, ?_, ?_⟩
  · refine ⟨gok_of (fun _ _ _ => rfl), ⟨fun c q hq => hcD c q hq, fun k q hk => ?_⟩, Nat.le_refl _, ⟨va_Nw.of rfl (hts _ (by decide +kernel)), va_Nw.of rfl (hts _ (by decide +kernel))⟩,
      ⟨va_Zref (args := args) (hts _ (by decide +kernel)) (hts _ (by decide +kernel)) hx1 hA, hx2⟩, ⟨va_Zref (args := args) (hts _ (by decide +kernel)) (hts _ (by decide +kernel)) hy1 hA, hy2⟩, hX, hb,
      ⟨vk_R.of (hts _ (by decide +kernel)) (hK 0 (by decide)), ?_⟩, ⟨va_Zof (args := args) (hts _ (by decide +kernel)) (hts _ (by decide +kernel)) (va_eqt (hs _ (by decide +kernel))) hA, va_Zqof (args := args) (hts _ (by decide +kernel)) (hts _ (by decide +kernel)) (hs _ (by decide +kernel)) hA⟩,
      vx_Zqof (args := args) (hts _ (by decide +kernel)) (hts _ (by decide +kernel)) (hs _ (by decide +kernel)) hA, vx_Zqof (args := args) (hts _ (by decide +kernel)) (hts _ (by decide +kernel)) (hs _ (by decide +kernel)) hA,
      va_Nw.of rfl (hts _ (by decide +kernel)), va_Nw.of rfl (hts _ (by decide +kernel)), va_Nw.of rfl (hts _ (by decide +kernel)), va_Nw.of rfl (hts _ (by decide +kernel))⟩
    · match k, hk with
      | 0, h => cases h; exact a0
      | 1, h => cases h; exact a1
      | 2, h => cases h; exact a2
      | 3, h => cases h; exact a3
      | 4, h => cases h; exact a4
      | 5, h => cases h; exact a5
      | n + 6, h => simp [tysG] at h
    · refine ⟨fun i hi => ?_, fun i j hi hj _ => (Nat.lt_one_iff.mp hi).trans (Nat.lt_one_iff.mp hj).symm⟩
      cases Nat.lt_one_iff.mp hi
      exact hS.1 0 (by decide)
  · exact ⟨fun q hq => va_Nw.of rfl (hts _ (nest_in q hq)), hAO4, hAO5⟩
