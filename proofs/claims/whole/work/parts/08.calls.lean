section RULES
variable {l : Launch} {G : GX} {R : Room} {cs sl : Nat} {mt : MT} {Z : State → Array Value → List Frame → State → Prop} {pc : Nat} {lv : List (Nat × Value)} {st : List Value} {M : Mem}
theorem ab_iret {d : Nat} {Q : Int32 → Mem → Prop} {v : Int32} {ty : FieldType} (hq : Q v M) (hr : mt.2.2.2 = some ty) (hn : narrow ty (.int v) = .int v) (hd : decode mt.2.1 pc = .ok (.ireturn, 1)) : AB l G (rmD d) 0 0 mt (ZQ G mt Q) pc lv [.int v] M := by
  intro p e s m args below meth c H locs ls C hH hS hl
  obtain ⟨hx', hb, hret, hml, hlk, hown, hts, hK⟩ := C
  exact W.zret hx' hb (hret.trans hr) hn (fun t ht hW => ⟨⟨v, M, by unfold rv; rw [hr], hq, by rw [ht]; exact hH⟩, hS.F ht⟩) hS.2.2 hd (hlocks := hlk.1)
theorem ab_vret {d : Nat} {Q : Int32 → Mem → Prop} (hq : Q 0 M) (hr : mt.2.2.2 = none) (hd : decode mt.2.1 pc = .ok (.return_, 1)) : AB l G (rmD d) 0 0 mt (ZQ G mt Q) pc lv [] M := by
  intro p e s m args below meth c H locs ls C hH hS hl
  obtain ⟨hx', hb, hret, hml, hlk, hown, hts, hK⟩ := C
  exact W.vret hx' hb (hret.trans hr) (fun t ht hW => ⟨⟨0, M, by unfold rv; rw [hr], hq, by rw [ht]; exact hH⟩, hS.F ht⟩) hS.2.2 hd (hlocks := hlk.1)
theorem isB_n {v : Int32} (h : isB v = true) : narrow .boolean (.int v) = .int v := by
  simp only [isB, Bool.or_eq_true, decide_eq_true_eq] at h
  rcases h with h | h <;> rw [h] <;> rfl
/-- behind a call -/
theorem run_go {p : Program} {e : Env} {s : State} {m : MethodId} {args : Array Value} {below : List Frame} {meth : Method} {c : Code} {H : Heap} {locs : List Loc} {Qf : State → Prop} {mtc : MT} {Q : Int32 → Mem → Prop} {ls : Array Slot} {st0 rest : List Value} {a : Array Value}
    (hr : va_Run p l e R s m args below meth c H locs cs sl 0 0 (F0 m pc ls st0) rest (Qx G mtc Q a) (gP G)) (hS : va_S (gP G) s.heap H locs)
    (kk : ∀ (v : Int32) (M' : Mem) (H1 : Heap) (locs1 : List Loc), Q v M' → Hold G M' H1 → va_S (gP G) s.heap H1 locs1 → W p l e R s m args below meth c H1 locs1 cs sl Qf (F0 m (pc + 3) ls ((rv mtc v).toList ++ rest))) : W p l e R s m args below meth c H locs cs sl Qf (F0 m pc ls st0) := by
  intro T hT X
  obtain ⟨v, st₀, t, T', L, h0, X', hL, e1, e2, ⟨⟨r, M', hv, hq, hM⟩, hz, hk⟩, stp⟩ := hr T hT X
  have hv := Outcome.returned.inj hv
  subst hv
  rw [h0] at hz hk
  obtain ⟨t2, a1, b1⟩ := kk r M' T'.heap (locs ++ L) hq (by rw [e1]; exact hM)
    ⟨Nat.le_trans hS.1 (by rw [e1]; exact hz), fun q h1 h2 => by rw [e1, hk q (Nat.lt_of_lt_of_le h1 hS.1) h2]; exact hS.2.1 q h1 h2, fun q hq => by
      rcases List.mem_append.mp hq with h | h
      · exact hS.2.2 q h
      · exact hL q h⟩ T' rfl X'
  exact ⟨t2, stp t2 a1, b1⟩
/-- the words of a method that is called -/
def MWs (mtc : MT) (n : Nat) : Prop := Cond.initialized mtc.1.cls ∈ AT ∧ Cond.code mtc.1 mtc.2.1 mtc.2.2.1 mtc.2.2.2 ∈ AT ∧ mtc.1.cls ≠ "java/lang/invoke/MethodHandle" ∧ mtc.1.cls ≠ "java/lang/invoke/VarHandle" ∧ (parseMethodDescriptor mtc.1.desc).map (fun d => d.parameters.length) = some n
def MWv (mtc : MT) (n : Nat) : Prop := (Cond.instanceMethod mtc.1 ∈ AT ∧ Cond.selects mtc.1.cls mtc.1 mtc.1 ∈ AT) ∧ MWs mtc n
theorem good_all {ws : List Cond} (h : ∀ w ∈ ws, w ∈ AT) : GoodIn AT ws := fun w hw => ⟨h w hw, good_of_word (at_g (h w hw))⟩
theorem ab_callV {mtc : MT} {d n k i j ci index : Nat} {r : vw_C} {As st0 : List Value} {Q : Int32 → Mem → Prop} (hct : CT l G d mtc (.ref (gA G k i j) :: As) M Q) (hv : vd k i j) (hc : ck k j = .inr ci) (hr : vwCl[ci]? = some r) (hcls : mtc.1.cls = r.1) (hm : MWv mtc n) (hlink : Cond.methodLink mt.1.cls index mtc.1 ∈ AT) (hn : As.length = n)
    (hR : d + 1 ≤ R.frames ∧ 8 + (mtc.2.2.1 + 11) + 60 * d ≤ R.locals) (hcs : cs ≤ R.cells ∧ sl ≤ R.slots) (hst : (st.map fun v => v.category).sum ≤ 8) (hs0 : st0 = As.reverse ++ .ref (gA G k i j) :: st) (hd : decode mt.2.1 pc = .ok (.invokevirtual index, 3))
    (kk : ∀ (v : Int32) (M' : Mem), Q v M' → AB l G R cs sl mt Z (pc + 3) lv ((rv mtc v).toList ++ st) M') : AB l G R cs sl mt Z pc lv st0 M := by
  intro p e s m args below meth c H locs ls C hH hS hl
  obtain ⟨hx', hb, hret, hml, hlk, hown, hts, hK⟩ := id C
  have h0 := hH k i j hv
  unfold celO at h0
  rw [hc] at h0
  obtain ⟨r', hr', cell, q1, q2, q3, q4⟩ := h0
  cases Option.some.inj (hr.symm.trans hr')
  obtain ⟨⟨hm1, hm2⟩, hm3, hm4, hm5, hm6, hm7⟩ := hm
  have hG : GoodIn AT (wsV mt.1.cls index mtc.1.cls mtc.1 (Cond.code mtc.1 mtc.2.1 mtc.2.2.1 mtc.2.2.2 :: AT)) := good_all (by
    intro w hw
    simp only [wsV, List.cons_append, List.nil_append, List.mem_cons] at hw
    rcases hw with h | h | h | h | h | h
    · rw [h]; exact hlink
    · rw [h]; exact hm1
    · rw [h]; exact hm2
    · rw [h]; exact hm3
    · rw [h]; exact hm4
    · exact h)
  refine run_go (mtc := mtc) (Q := Q) (rest := st) (va_runV (As := As) (rest := st) (b := gA G k i j) (C := mtc.1.cls) ⟨hx', hb, hml, hown, hts⟩ hct (cwV n hts hG rfl rfl rfl ⟨rfl, hm5, hm6, hm7⟩ hR) ⟨ct_blind, ⟨cell, q1, by rw [q3]; rfl, by rw [q2, hcls]; exact (hK.2.1.1 ci _ hr).2.1⟩, fun U hU hW => ⟨rfl, by rw [hU]; exact hH, hK.at hS hU hW⟩⟩ rfl hn hl.1 hs0 (lv_room hst) hd hcs) hS ?_
  intro v M' H1 locs1 hq hM hS1
  exact kk v M' hq p e s m args below meth c H1 locs1 ls C hM hS1 hl
theorem ab_callS {mtc : MT} {d n index : Nat} {As st0 : List Value} {Q : Int32 → Mem → Prop} (hct : CT l G d mtc As M Q) (hm : MWs mtc n) (hstt : Cond.static mtc.1 ∈ AT) (hlink : Cond.methodLink mt.1.cls index mtc.1 ∈ AT) (hn : As.length = n)
    (hR : d + 1 ≤ R.frames ∧ 8 + (mtc.2.2.1 + 11) + 60 * d ≤ R.locals) (hcs : cs ≤ R.cells ∧ sl ≤ R.slots) (hst : (st.map fun v => v.category).sum ≤ 8) (hs0 : st0 = As.reverse ++ st) (hd : decode mt.2.1 pc = .ok (.invokestatic index, 3))
    (kk : ∀ (v : Int32) (M' : Mem), Q v M' → AB l G R cs sl mt Z (pc + 3) lv ((rv mtc v).toList ++ st) M') : AB l G R cs sl mt Z pc lv st0 M := by
  intro p e s m args below meth c H locs ls C hH hS hl
  obtain ⟨hx', hb, hret, hml, hlk, hown, hts, hK⟩ := id C
  obtain ⟨hm3, hm4, hm5, hm6, hm7⟩ := hm
  have hG : GoodIn AT (Cond.code mtc.1 mtc.2.1 mtc.2.2.1 mtc.2.2.2 :: AT) := good_all (by
    intro w hw
    rcases List.mem_cons.mp hw with h | h
    · rw [h]; exact hm4
    · exact h)
  refine run_go (mtc := mtc) (Q := Q) (rest := st) (va_runS (As := As) (rest := st) ⟨hx', hb, hml, hown, hts⟩ hct ⟨callB_of n hts hG rfl rfl rfl (hts _ hm3) (hts _ hlink) ⟨hm5, hm6, hm7⟩ hR, hts _ hstt⟩ ⟨ct_blind, fun U hU hW => ⟨rfl, by rw [hU]; exact hH, hK.at hS hU hW⟩⟩ rfl hn hl.1 hs0 (lv_room hst) hd hcs) hS ?_
  intro v M' H1 locs1 hq hM hS1
  exact kk v M' hq p e s m args below meth c H1 locs1 ls C hM hS1 hl
theorem ab_mmin {x y : Int32} {index : Nat} (hw : Cond.methodLink mt.1.cls index Lib.Math.min.name ∈ AT) (h1 : Cond.static Lib.Math.min.name ∈ AT) (h2 : Cond.initialized "java/lang/Math" ∈ AT) (h3 : Cond.code Lib.Math.min.name Lib.Math.min.code 2 (some .int) ∈ AT) (hR : 1 ≤ R.frames ∧ (st.map fun v => v.category).sum + 13 ≤ R.locals) (hcs : cs ≤ R.cells ∧ sl ≤ R.slots) (hd : decode mt.2.1 pc = .ok (.invokestatic index, 3))
    (kk : AB l G R cs sl mt Z (pc + 3) lv (.int (imin x y) :: st) M) : AB l G R cs sl mt Z pc lv (.int y :: .int x :: st) M := by
  intro p e s m args below meth c H locs ls C hH hS hl
  obtain ⟨hx', hb, hret, hml, hlk, hown, hts, hK⟩ := id C
  exact va_mmin hx' hb (hml.trans hl.1.symm) hown (hts _ hw) (hts _ h1) (hts _ h2) (hts _ h3) hR.1 hR.2 hcs.1 hcs.2 hd (kk p e s m args below meth c H locs ls C hH hS hl)
theorem ab_mmax {x y : Int32} {index : Nat} (hw : Cond.methodLink mt.1.cls index Lib.Math.max.name ∈ AT) (h1 : Cond.static Lib.Math.max.name ∈ AT) (h2 : Cond.initialized "java/lang/Math" ∈ AT) (h3 : Cond.code Lib.Math.max.name Lib.Math.max.code 2 (some .int) ∈ AT) (hR : 1 ≤ R.frames ∧ (st.map fun v => v.category).sum + 13 ≤ R.locals) (hcs : cs ≤ R.cells ∧ sl ≤ R.slots) (hd : decode mt.2.1 pc = .ok (.invokestatic index, 3))
    (kk : AB l G R cs sl mt Z (pc + 3) lv (.int (imax x y) :: st) M) : AB l G R cs sl mt Z pc lv (.int y :: .int x :: st) M := by
  intro p e s m args below meth c H locs ls C hH hS hl
  obtain ⟨hx', hb, hret, hml, hlk, hown, hts, hK⟩ := id C
  exact va_mmax hx' hb (hml.trans hl.1.symm) hown (hts _ hw) (hts _ h1) (hts _ h2) (hts _ h3) hR.1 hR.2 hcs.1 hcs.2 hd (kk p e s m args below meth c H locs ls C hH hS hl)
/-- a whole row copied -/
theorem vl_rwC {C : CM} {X : XM} {k i j : Nat} {r : Nat → Int32} (hk : k ≠ 10) (ht : ∀ x, tc k j x = 0) : ∀ k' i' j' x', vd k' i' j' → vl G (rwC C k i j r, X) k' i' j' x' = if k' = k ∧ i' = i ∧ j' = j then .int (r x') else vl G (C, X) k' i' j' x' := by
  intro k' i' j' x' _
  by_cases he : k' = k ∧ i' = i ∧ j' = j
  · obtain ⟨rfl, rfl, rfl⟩ := he
    rw [if_pos ⟨rfl, rfl, rfl⟩]
    unfold vl vI
    rw [ht]
    simp [rwC, hk]
  · rw [if_neg he]
    unfold vl vI vL vr rwC
    simp only
    rw [if_neg he]
theorem ab_copy {C : CM} {X : XM} {k i j k2 i2 j2 n index : Nat} {v : Int32} (hv : vd k i j) (hv2 : vd k2 i2 j2) (hc : ck k j = .inl (0, n)) (hc2 : ck k2 j2 = .inl (0, n)) (hk : k ≠ 10) (hk2 : k2 ≠ 10) (ht : ∀ x, tc k j x = 0) (ht2 : ∀ x, tc k2 j2 x = 0) (hn : v.toNatClampNeg = n) (hn0 : ¬ v < 0)
    (hw : Cond.methodLink mt.1.cls index arraycopyName ∈ AT) (h1 : Cond.native arraycopyName ∈ AT) (h2 : Cond.static arraycopyName ∈ AT) (h3 : Cond.initialized "java/lang/System" ∈ AT) (hR : 1 ≤ R.frames ∧ (st.map fun v => v.category).sum + (nativeFrameWords "java/lang/System" "arraycopy" 5 + 11) ≤ R.locals) (hd : decode mt.2.1 pc = .ok (.invokestatic index, 3))
    (kk : AB l G R cs sl mt Z (pc + 3) lv st (rwC C k2 i2 j2 (C.1 k i j), X)) : AB l G R cs sl mt Z pc lv (.int v :: .int 0 :: .ref (gA G k2 i2 j2) :: .int 0 :: .ref (gA G k i j) :: st) (C, X) := by
  intro p e s m args below meth c H locs ls CC hH hS hl
  obtain ⟨hx', hb, hret, hml, hlk, hown, hts, hK⟩ := id CC
  have e0 : vl G (C, X) k i j = fun x => .int (C.1 k i j x) := funext fun x => vl_I hk (ht x)
  have e1 : vl G (C, X) k2 i2 j2 = fun x => .int (C.1 k2 i2 j2 x) := funext fun x => vl_I hk2 (ht2 x)
  have hc0 : H[gA G k i j]? = some (vp_cell (G.2.1 0) (n, .inl (C.1 k i j))) := by rw [arr_at hH hv hc, e0]; rfl
  have hc1 : H[gA G k2 i2 j2]? = some (vp_cell (G.2.1 0) (n, .inl (C.1 k2 i2 j2))) := by rw [arr_at hH hv2 hc2, e1]; rfl
  have nn : ∀ z : Int32, ¬ z < 0 → z.toInt = (z.toNatClampNeg : Int) := by
    intro z hz
    have hz0 : (0 : Int) ≤ z.toInt := by
      have := Int32.not_lt.mp hz
      simpa using Int32.le_iff_toInt_le.mp this
    show z.toInt = ((z.toInt.toNat : Nat) : Int)
    omega
  intro T hT S
  obtain ⟨-, k0, hk0, cm0, hkk0⟩ := arr_of hK (t := 0) (by decide) n (fun x => .int (C.1 k i j x))
  obtain ⟨-, k1, hk1, cm1, hkk1⟩ := arr_of hK (t := 0) (by decide) n (fun x => .int (C.1 k2 i2 j2 x))
  have z0 : (0 : Int32).toNatClampNeg = 0 := by decide
  obtain ⟨vm', X', step⟩ := S.arraycopy hx' hown (hts _ hw) (hts _ h1) (hts _ h2) (hts _ h3) (src := gA G k i j) (dst := gA G k2 i2 j2) (cs := vp_cell (G.2.1 0) (n, .inl (C.1 k i j))) (cd := vp_cell (G.2.1 0) (n, .inl (C.1 k2 i2 j2))) (srcPos := 0) (destPos := 0) (n := v) (by rw [hT]; exact hc0) (by rw [hT]; exact hc1)
    (fun _ h => by cases h) (fun _ h => by cases h) (fun h => by cases h) (fun h => by cases h) hk0 hk1 hkk0 hkk1 (by simp [refKind, tyE]) (by decide) (by decide) hn0
    (by rw [nn v hn0]; show ¬ _ > ((arrV (G.2.1 0) n (fun x => .int (C.1 k i j x))).slots.size : Int); rw [arrV_size, hn]; simp)
    (by rw [nn v hn0]; show ¬ _ > ((arrV (G.2.1 0) n (fun x => .int (C.1 k2 i2 j2 x))).slots.size : Int); rw [arrV_size, hn]; simp)
    (fun vm₁ _ x hx => by
      have e : (vp_cell (G.2.1 0) (n, .inl (C.1 k i j))).slots.getD ((0 : Int32).toNatClampNeg + x) .null = .int (C.1 k i j ((0 : Int32).toNatClampNeg + x)) := by
        show (arrV (G.2.1 0) n (fun x => .int (C.1 k i j x))).slots.getD _ _ = _
        rw [Array.getD_eq_getD_getElem?, arrV_read _ _ (by rw [z0]; omega)]
        rfl
      refine ⟨?_, ?_⟩
      · rw [e]; rfl
      · rw [e]; exact trivial)
    (g := F0 m pc ls (.int v :: .int 0 :: .ref (gA G k2 i2 j2) :: .int 0 :: .ref (gA G k i j) :: st)) rfl (by rw [hml]; exact hl.1) (rest := st) rfl (by rw [hb]; exact hd) hR.1 (by show 2 * 0 + _ + _ ≤ _; have := hR.2; omega)
  have e2 : copied (vp_cell (G.2.1 0) (n, .inl (C.1 k i j))) (vp_cell (G.2.1 0) (n, .inl (C.1 k2 i2 j2))) 0 0 v = arrV (G.2.1 0) n (fun x => .int (C.1 k i j x)) := by
    have e9 : copied (vp_cell (G.2.1 0) (n, .inl (C.1 k i j))) (vp_cell (G.2.1 0) (n, .inl (C.1 k2 i2 j2))) 0 0 v = vp_cell (G.2.1 0) (n, .inl (va_cpy (C.1 k i j) (C.1 k2 i2 j2) (0 : Int32).toNatClampNeg (0 : Int32).toNatClampNeg v.toNatClampNeg)) := va_copied (fun z => .int z) (G.2.1 0) (G.2.1 0) (C.1 k i j) (C.1 k2 i2 j2) (by rw [z0, hn]; omega)
    rw [e9, vp_cell_i]
    unfold arrV
    congr 1
    apply congrArg
    funext z
    have : va_cpy (C.1 k i j) (C.1 k2 i2 j2) (0 : Int32).toNatClampNeg (0 : Int32).toNatClampNeg v.toNatClampNeg z.val = C.1 k i j z.val := by
      rw [z0, hn, pk_cpy_in (Nat.zero_le _) (by have := z.isLt; omega)]
      simp
    exact congrArg Value.int this
  rw [e2] at X' step
  have hlt : gA G k2 i2 j2 < H.size := (Array.getElem?_eq_some_iff.mp hc1).1
  have hheap : ((T.setVm vm').setCell (gA G k2 i2 j2) (arrV (G.2.1 0) n (fun x => .int (C.1 k i j x)))).heap = H.setIfInBounds (gA G k2 i2 j2) (arrV (G.2.1 0) n (fun x => .int (C.1 k i j x))) := by rw [← hT]; rfl
  have oq : ∀ q : Nat, q ≠ gA G k2 i2 j2 → (H.setIfInBounds (gA G k2 i2 j2) (arrV (G.2.1 0) n (fun x => .int (C.1 k i j x))))[q]? = H[q]? := fun q hq => by simp [Array.getElem?_setIfInBounds, Ne.symm hq]
  obtain ⟨t, a1, b1⟩ := kk p e s m args below meth c (H.setIfInBounds (gA G k2 i2 j2) (arrV (G.2.1 0) n (fun x => .int (C.1 k i j x)))) _ ls CC
    (hold_row hK.1 hv2 hH (V := fun x => .int (C.1 k i j x)) (by
      unfold celO; rw [hc2]
      show (H.setIfInBounds _ _)[_]? = some _
      simp [Array.getElem?_setIfInBounds, hlt]) oq (vl_rwC hk2 ht2))
    ⟨by simp; exact hS.1, fun q g1 g2 => by
      rw [oq q (fun e => g2 (by rw [e]; exact hK.1.2 _ _ _ hv2))]
      exact hS.2.1 q g1 g2, fun q hq => by
      rcases List.mem_append.mp hq with h | h
      · exact hS.2.2 q h
      · obtain ⟨z, -, hz⟩ := List.mem_map.mp h
        rw [← hz]
        exact hK.1.2 _ _ _ hv2⟩ hl _ hheap X'
  exact ⟨t, step t a1, b1⟩
theorem fC_iret {C : CM} {X : XM} {d : Nat} {Q : Int32 → Mem → Prop} {v : Int32} {ty : FieldType} (h : SAT (rt v C) (fun v c => Q v (c, X))) (hr : mt.2.2.2 = some ty) (hn : narrow ty (.int v) = .int v) (hd : decode mt.2.1 pc = .ok (.ireturn, 1)) : AB l G (rmD d) 0 0 mt (ZQ G mt Q) pc lv [.int v] (C, X) := ab_iret h hr hn hd
theorem fC_iretb {C : CM} {X : XM} {d : Nat} {Q : Int32 → Mem → Prop} {v : Int32} (h : SAT (chk (isB v) (rt v C)) (fun v c => Q v (c, X))) (hr : mt.2.2.2 = some .boolean) (hd : decode mt.2.1 pc = .ok (.ireturn, 1)) : AB l G (rmD d) 0 0 mt (ZQ G mt Q) pc lv [.int v] (C, X) := ab_iret (sat_chk h).2 hr (isB_n (sat_chk h).1) hd
theorem fC_vret {C : CM} {X : XM} {d : Nat} {Q : Int32 → Mem → Prop} (h : SAT (rt 0 C) (fun v c => Q v (c, X))) (hr : mt.2.2.2 = none) (hd : decode mt.2.1 pc = .ok (.return_, 1)) : AB l G (rmD d) 0 0 mt (ZQ G mt Q) pc lv [] (C, X) := ab_vret h hr hd
theorem fC_Vi {C : CM} {X : XM} {β : Type} {K : Int32 → β → Prop} {mtc : MT} {d n k i j ci index : Nat} {r : vw_C} {As st0 : List Value} {ty : FieldType} {o : Option (Int32 × CM)} {f : Int32 → CM → Option (Int32 × β)} (h : SAT (cal o f) K) (hct : ∀ Q : Int32 → Mem → Prop, SAT o (fun v c => Q v (c, X)) → CT l G d mtc (.ref (gA G k i j) :: As) (C, X) Q) (hv : vd k i j) (hc : ck k j = .inr ci) (hr : vwCl[ci]? = some r) (hcls : mtc.1.cls = r.1) (hm : MWv mtc n) (hlink : Cond.methodLink mt.1.cls index mtc.1 ∈ AT) (hn : As.length = n) (hret : mtc.2.2.2 = some ty)
    (hR : d + 1 ≤ R.frames ∧ 8 + (mtc.2.2.1 + 11) + 60 * d ≤ R.locals) (hcs : cs ≤ R.cells ∧ sl ≤ R.slots) (hst : (st.map fun v => v.category).sum ≤ 8) (hs0 : st0 = As.reverse ++ .ref (gA G k i j) :: st) (hd : decode mt.2.1 pc = .ok (.invokevirtual index, 3))
    (kk : ∀ (v : Int32) (c : CM), SAT (f v c) K → AB l G R cs sl mt Z (pc + 3) lv (.int v :: st) (c, X)) : AB l G R cs sl mt Z pc lv st0 (C, X) := by
  obtain ⟨v, c, rfl, h⟩ := sat_cal h
  refine ab_callV (hct (fun v' M' => v' = v ∧ M' = (c, X)) ⟨rfl, rfl⟩) hv hc hr hcls hm hlink hn hR hcs hst hs0 hd ?_
  rintro v' M' ⟨rfl, rfl⟩
  unfold rv
  rw [hret]
  exact kk _ _ h
theorem fC_Vv {C : CM} {X : XM} {β : Type} {K : Int32 → β → Prop} {mtc : MT} {d n k i j ci index : Nat} {r : vw_C} {As st0 : List Value} {o : Option (Int32 × CM)} {f : Int32 → CM → Option (Int32 × β)} (h : SAT (cal o f) K) (hct : ∀ Q : Int32 → Mem → Prop, SAT o (fun v c => Q v (c, X)) → CT l G d mtc (.ref (gA G k i j) :: As) (C, X) Q) (hv : vd k i j) (hc : ck k j = .inr ci) (hr : vwCl[ci]? = some r) (hcls : mtc.1.cls = r.1) (hm : MWv mtc n) (hlink : Cond.methodLink mt.1.cls index mtc.1 ∈ AT) (hn : As.length = n) (hret : mtc.2.2.2 = none)
    (hR : d + 1 ≤ R.frames ∧ 8 + (mtc.2.2.1 + 11) + 60 * d ≤ R.locals) (hcs : cs ≤ R.cells ∧ sl ≤ R.slots) (hst : (st.map fun v => v.category).sum ≤ 8) (hs0 : st0 = As.reverse ++ .ref (gA G k i j) :: st) (hd : decode mt.2.1 pc = .ok (.invokevirtual index, 3))
    (kk : ∀ (v : Int32) (c : CM), SAT (f v c) K → AB l G R cs sl mt Z (pc + 3) lv st (c, X)) : AB l G R cs sl mt Z pc lv st0 (C, X) := by
  obtain ⟨v, c, rfl, h⟩ := sat_cal h
  refine ab_callV (hct (fun v' M' => v' = v ∧ M' = (c, X)) ⟨rfl, rfl⟩) hv hc hr hcls hm hlink hn hR hcs hst hs0 hd ?_
  rintro v' M' ⟨rfl, rfl⟩
  unfold rv
  rw [hret]
  exact kk _ _ h
theorem fC_Si {C : CM} {X : XM} {β : Type} {K : Int32 → β → Prop} {mtc : MT} {d n index : Nat} {As st0 : List Value} {ty : FieldType} {o : Option (Int32 × CM)} {f : Int32 → CM → Option (Int32 × β)} (h : SAT (cal o f) K) (hct : ∀ Q : Int32 → Mem → Prop, SAT o (fun v c => Q v (c, X)) → CT l G d mtc As (C, X) Q) (hm : MWs mtc n) (hstt : Cond.static mtc.1 ∈ AT) (hlink : Cond.methodLink mt.1.cls index mtc.1 ∈ AT) (hn : As.length = n) (hret : mtc.2.2.2 = some ty)
    (hR : d + 1 ≤ R.frames ∧ 8 + (mtc.2.2.1 + 11) + 60 * d ≤ R.locals) (hcs : cs ≤ R.cells ∧ sl ≤ R.slots) (hst : (st.map fun v => v.category).sum ≤ 8) (hs0 : st0 = As.reverse ++ st) (hd : decode mt.2.1 pc = .ok (.invokestatic index, 3))
    (kk : ∀ (v : Int32) (c : CM), SAT (f v c) K → AB l G R cs sl mt Z (pc + 3) lv (.int v :: st) (c, X)) : AB l G R cs sl mt Z pc lv st0 (C, X) := by
  obtain ⟨v, c, rfl, h⟩ := sat_cal h
  refine ab_callS (hct (fun v' M' => v' = v ∧ M' = (c, X)) ⟨rfl, rfl⟩) hm hstt hlink hn hR hcs hst hs0 hd ?_
  rintro v' M' ⟨rfl, rfl⟩
  unfold rv
  rw [hret]
  exact kk _ _ h
theorem fC_Sv {C : CM} {X : XM} {β : Type} {K : Int32 → β → Prop} {mtc : MT} {d n index : Nat} {As st0 : List Value} {o : Option (Int32 × CM)} {f : Int32 → CM → Option (Int32 × β)} (h : SAT (cal o f) K) (hct : ∀ Q : Int32 → Mem → Prop, SAT o (fun v c => Q v (c, X)) → CT l G d mtc As (C, X) Q) (hm : MWs mtc n) (hstt : Cond.static mtc.1 ∈ AT) (hlink : Cond.methodLink mt.1.cls index mtc.1 ∈ AT) (hn : As.length = n) (hret : mtc.2.2.2 = none)
    (hR : d + 1 ≤ R.frames ∧ 8 + (mtc.2.2.1 + 11) + 60 * d ≤ R.locals) (hcs : cs ≤ R.cells ∧ sl ≤ R.slots) (hst : (st.map fun v => v.category).sum ≤ 8) (hs0 : st0 = As.reverse ++ st) (hd : decode mt.2.1 pc = .ok (.invokestatic index, 3))
    (kk : ∀ (v : Int32) (c : CM), SAT (f v c) K → AB l G R cs sl mt Z (pc + 3) lv st (c, X)) : AB l G R cs sl mt Z pc lv st0 (C, X) := by
  obtain ⟨v, c, rfl, h⟩ := sat_cal h
  refine ab_callS (hct (fun v' M' => v' = v ∧ M' = (c, X)) ⟨rfl, rfl⟩) hm hstt hlink hn hR hcs hst hs0 hd ?_
  rintro v' M' ⟨rfl, rfl⟩
  unfold rv
  rw [hret]
  exact kk _ _ h
theorem fX_iret {C : CM} {X : XM} {d : Nat} {Q : Int32 → Mem → Prop} {v : Int32} {ty : FieldType} (h : SAT (rt v X) (fun v c => Q v (C, c))) (hr : mt.2.2.2 = some ty) (hn : narrow ty (.int v) = .int v) (hd : decode mt.2.1 pc = .ok (.ireturn, 1)) : AB l G (rmD d) 0 0 mt (ZQ G mt Q) pc lv [.int v] (C, X) := ab_iret h hr hn hd
theorem fX_iretb {C : CM} {X : XM} {d : Nat} {Q : Int32 → Mem → Prop} {v : Int32} (h : SAT (chk (isB v) (rt v X)) (fun v c => Q v (C, c))) (hr : mt.2.2.2 = some .boolean) (hd : decode mt.2.1 pc = .ok (.ireturn, 1)) : AB l G (rmD d) 0 0 mt (ZQ G mt Q) pc lv [.int v] (C, X) := ab_iret (sat_chk h).2 hr (isB_n (sat_chk h).1) hd
theorem fX_vret {C : CM} {X : XM} {d : Nat} {Q : Int32 → Mem → Prop} (h : SAT (rt 0 X) (fun v c => Q v (C, c))) (hr : mt.2.2.2 = none) (hd : decode mt.2.1 pc = .ok (.return_, 1)) : AB l G (rmD d) 0 0 mt (ZQ G mt Q) pc lv [] (C, X) := ab_vret h hr hd
theorem fX_Vi {C : CM} {X : XM} {β : Type} {K : Int32 → β → Prop} {mtc : MT} {d n k i j ci index : Nat} {r : vw_C} {As st0 : List Value} {ty : FieldType} {o : Option (Int32 × XM)} {f : Int32 → XM → Option (Int32 × β)} (h : SAT (cal o f) K) (hct : ∀ Q : Int32 → Mem → Prop, SAT o (fun v c => Q v (C, c)) → CT l G d mtc (.ref (gA G k i j) :: As) (C, X) Q) (hv : vd k i j) (hc : ck k j = .inr ci) (hr : vwCl[ci]? = some r) (hcls : mtc.1.cls = r.1) (hm : MWv mtc n) (hlink : Cond.methodLink mt.1.cls index mtc.1 ∈ AT) (hn : As.length = n) (hret : mtc.2.2.2 = some ty)
    (hR : d + 1 ≤ R.frames ∧ 8 + (mtc.2.2.1 + 11) + 60 * d ≤ R.locals) (hcs : cs ≤ R.cells ∧ sl ≤ R.slots) (hst : (st.map fun v => v.category).sum ≤ 8) (hs0 : st0 = As.reverse ++ .ref (gA G k i j) :: st) (hd : decode mt.2.1 pc = .ok (.invokevirtual index, 3))
    (kk : ∀ (v : Int32) (c : XM), SAT (f v c) K → AB l G R cs sl mt Z (pc + 3) lv (.int v :: st) (C, c)) : AB l G R cs sl mt Z pc lv st0 (C, X) := by
  obtain ⟨v, c, rfl, h⟩ := sat_cal h
  refine ab_callV (hct (fun v' M' => v' = v ∧ M' = (C, c)) ⟨rfl, rfl⟩) hv hc hr hcls hm hlink hn hR hcs hst hs0 hd ?_
  rintro v' M' ⟨rfl, rfl⟩
  unfold rv
  rw [hret]
  exact kk _ _ h
theorem fX_Vv {C : CM} {X : XM} {β : Type} {K : Int32 → β → Prop} {mtc : MT} {d n k i j ci index : Nat} {r : vw_C} {As st0 : List Value} {o : Option (Int32 × XM)} {f : Int32 → XM → Option (Int32 × β)} (h : SAT (cal o f) K) (hct : ∀ Q : Int32 → Mem → Prop, SAT o (fun v c => Q v (C, c)) → CT l G d mtc (.ref (gA G k i j) :: As) (C, X) Q) (hv : vd k i j) (hc : ck k j = .inr ci) (hr : vwCl[ci]? = some r) (hcls : mtc.1.cls = r.1) (hm : MWv mtc n) (hlink : Cond.methodLink mt.1.cls index mtc.1 ∈ AT) (hn : As.length = n) (hret : mtc.2.2.2 = none)
    (hR : d + 1 ≤ R.frames ∧ 8 + (mtc.2.2.1 + 11) + 60 * d ≤ R.locals) (hcs : cs ≤ R.cells ∧ sl ≤ R.slots) (hst : (st.map fun v => v.category).sum ≤ 8) (hs0 : st0 = As.reverse ++ .ref (gA G k i j) :: st) (hd : decode mt.2.1 pc = .ok (.invokevirtual index, 3))
    (kk : ∀ (v : Int32) (c : XM), SAT (f v c) K → AB l G R cs sl mt Z (pc + 3) lv st (C, c)) : AB l G R cs sl mt Z pc lv st0 (C, X) := by
  obtain ⟨v, c, rfl, h⟩ := sat_cal h
  refine ab_callV (hct (fun v' M' => v' = v ∧ M' = (C, c)) ⟨rfl, rfl⟩) hv hc hr hcls hm hlink hn hR hcs hst hs0 hd ?_
  rintro v' M' ⟨rfl, rfl⟩
  unfold rv
  rw [hret]
  exact kk _ _ h
theorem fX_Si {C : CM} {X : XM} {β : Type} {K : Int32 → β → Prop} {mtc : MT} {d n index : Nat} {As st0 : List Value} {ty : FieldType} {o : Option (Int32 × XM)} {f : Int32 → XM → Option (Int32 × β)} (h : SAT (cal o f) K) (hct : ∀ Q : Int32 → Mem → Prop, SAT o (fun v c => Q v (C, c)) → CT l G d mtc As (C, X) Q) (hm : MWs mtc n) (hstt : Cond.static mtc.1 ∈ AT) (hlink : Cond.methodLink mt.1.cls index mtc.1 ∈ AT) (hn : As.length = n) (hret : mtc.2.2.2 = some ty)
    (hR : d + 1 ≤ R.frames ∧ 8 + (mtc.2.2.1 + 11) + 60 * d ≤ R.locals) (hcs : cs ≤ R.cells ∧ sl ≤ R.slots) (hst : (st.map fun v => v.category).sum ≤ 8) (hs0 : st0 = As.reverse ++ st) (hd : decode mt.2.1 pc = .ok (.invokestatic index, 3))
    (kk : ∀ (v : Int32) (c : XM), SAT (f v c) K → AB l G R cs sl mt Z (pc + 3) lv (.int v :: st) (C, c)) : AB l G R cs sl mt Z pc lv st0 (C, X) := by
  obtain ⟨v, c, rfl, h⟩ := sat_cal h
  refine ab_callS (hct (fun v' M' => v' = v ∧ M' = (C, c)) ⟨rfl, rfl⟩) hm hstt hlink hn hR hcs hst hs0 hd ?_
  rintro v' M' ⟨rfl, rfl⟩
  unfold rv
  rw [hret]
  exact kk _ _ h
theorem fX_Sv {C : CM} {X : XM} {β : Type} {K : Int32 → β → Prop} {mtc : MT} {d n index : Nat} {As st0 : List Value} {o : Option (Int32 × XM)} {f : Int32 → XM → Option (Int32 × β)} (h : SAT (cal o f) K) (hct : ∀ Q : Int32 → Mem → Prop, SAT o (fun v c => Q v (C, c)) → CT l G d mtc As (C, X) Q) (hm : MWs mtc n) (hstt : Cond.static mtc.1 ∈ AT) (hlink : Cond.methodLink mt.1.cls index mtc.1 ∈ AT) (hn : As.length = n) (hret : mtc.2.2.2 = none)
    (hR : d + 1 ≤ R.frames ∧ 8 + (mtc.2.2.1 + 11) + 60 * d ≤ R.locals) (hcs : cs ≤ R.cells ∧ sl ≤ R.slots) (hst : (st.map fun v => v.category).sum ≤ 8) (hs0 : st0 = As.reverse ++ st) (hd : decode mt.2.1 pc = .ok (.invokestatic index, 3))
    (kk : ∀ (v : Int32) (c : XM), SAT (f v c) K → AB l G R cs sl mt Z (pc + 3) lv st (C, c)) : AB l G R cs sl mt Z pc lv st0 (C, X) := by
  obtain ⟨v, c, rfl, h⟩ := sat_cal h
  refine ab_callS (hct (fun v' M' => v' = v ∧ M' = (C, c)) ⟨rfl, rfl⟩) hm hstt hlink hn hR hcs hst hs0 hd ?_
  rintro v' M' ⟨rfl, rfl⟩
  unfold rv
  rw [hret]
  exact kk _ _ h
theorem fC_gi {C : CM} {X : XM} {k i j ci x index : Nat} {r : vw_C} (hv : vd k i j) (hc : ck k j = .inr ci) (hr : vwCl[ci]? = some r) (hx : x < r.2.2) (hw : Cond.fieldLink mt.1.cls index r.1 (r.2.1 x).2.1 (r.2.1 x).2.2.1 ∈ AT) (hk : k ≠ 10) (ht : tc k j x = 0) (hd : decode mt.2.1 pc = .ok (.getfield index, 3)) (kk : AB l G R cs sl mt Z (pc + 3) lv (.int (C.1 k i j x) :: st) (C, X)) : AB l G R cs sl mt Z pc lv (.ref (gA G k i j) :: st) (C, X) := ab_gf hv hc hr hx hw hd (by rw [vl_I hk ht]; exact kk)
theorem fX_gi {C : CM} {X : XM} {ci x index : Nat} {r : vw_C} (hv : vd 10 0 0) (hc : ck 10 0 = .inr ci) (hr : vwCl[ci]? = some r) (hx : x < r.2.2) (hw : Cond.fieldLink mt.1.cls index r.1 (r.2.1 x).2.1 (r.2.1 x).2.2.1 ∈ AT) (ht : tc 10 0 x = 0) (hd : decode mt.2.1 pc = .ok (.getfield index, 3)) (kk : AB l G R cs sl mt Z (pc + 3) lv (.int (X.1 0 x) :: st) (C, X)) : AB l G R cs sl mt Z pc lv (.ref (gA G 10 0 0) :: st) (C, X) := ab_gf hv hc hr hx hw hd (by rw [vl_X ht]; exact kk)
theorem fX_gl {C : CM} {X : XM} {ci x index : Nat} {r : vw_C} (hv : vd 10 0 0) (hc : ck 10 0 = .inr ci) (hr : vwCl[ci]? = some r) (hx : x < r.2.2) (hw : Cond.fieldLink mt.1.cls index r.1 (r.2.1 x).2.1 (r.2.1 x).2.2.1 ∈ AT) (ht : tc 10 0 x = 1) (hd : decode mt.2.1 pc = .ok (.getfield index, 3)) (kk : AB l G R cs sl mt Z (pc + 3) lv (.long (X.2 0 x) :: st) (C, X)) : AB l G R cs sl mt Z pc lv (.ref (gA G 10 0 0) :: st) (C, X) := ab_gf hv hc hr hx hw hd (by rw [vl_L ht]; exact kk)
theorem f_gr {k2 i2 j2 : Nat} {k i j ci x index : Nat} {r : vw_C} (hv : vd k i j) (hc : ck k j = .inr ci) (hr : vwCl[ci]? = some r) (hx : x < r.2.2) (hw : Cond.fieldLink mt.1.cls index r.1 (r.2.1 x).2.1 (r.2.1 x).2.2.1 ∈ AT) (ht : tc k j x = 2) (hrf : rf M.1.2 i k j x = (k2, i2, j2)) (hd : decode mt.2.1 pc = .ok (.getfield index, 3)) (kk : AB l G R cs sl mt Z (pc + 3) lv (.ref (gA G k2 i2 j2) :: st) M) : AB l G R cs sl mt Z pc lv (.ref (gA G k i j) :: st) M := ab_gf hv hc hr hx hw hd (by rw [vl_R ht hrf]; exact kk)
theorem fC_gd {C : CM} {X : XM} {β : Type} {K : Int32 → β → Prop} {n k2 : Nat} {f : Nat → Option (Int32 × β)} {k i j ci x index : Nat} {r : vw_C} (hv : vd k i j) (hc : ck k j = .inr ci) (hr : vwCl[ci]? = some r) (hx : x < r.2.2) (hw : Cond.fieldLink mt.1.cls index r.1 (r.2.1 x).2.1 (r.2.1 x).2.2.1 ∈ AT) (ht : tc k j x = 2) (h : SAT (ldR (C.2 k i x) n f) K) (hrf : rf C.2 i k j x = (k2, C.2 k i x, 0)) (hd : decode mt.2.1 pc = .ok (.getfield index, 3)) (kk : ∀ y : Nat, y < n → SAT (f y) K → AB l G R cs sl mt Z (pc + 3) lv (.ref (gA G k2 y 0) :: st) (C, X)) : AB l G R cs sl mt Z pc lv (.ref (gA G k i j) :: st) (C, X) := f_gr hv hc hr hx hw ht hrf hd (kk _ (sat_ldR h).1 (sat_ldR h).2)
theorem fC_pi {C : CM} {X : XM} {K : Int32 → CM → Prop} {v : Int32} {ty : FieldType} {f : CM → Option (Int32 × CM)} {k i j ci x index : Nat} {r : vw_C} (hv : vd k i j) (hc : ck k j = .inr ci) (hr : vwCl[ci]? = some r) (hx : x < r.2.2) (hw : Cond.fieldLink mt.1.cls index r.1 (r.2.1 x).2.1 (r.2.1 x).2.2.1 ∈ AT) (hk : k ≠ 10) (ht : tc k j x = 0) (h : SAT (bnd (stC C k i j x v) f) K) (hfin : (r.2.1 x).2.2.2 = false) (hty : parseFieldDescriptor (r.2.1 x).2.2.1 = some ty) (hn : narrow ty (.int v) = .int v) (hfit : fits ty (.int v) = true) (hd : decode mt.2.1 pc = .ok (.putfield index, 3))
    (kk : ∀ c : CM, SAT (f c) K → AB l G R cs sl mt Z (pc + 3) lv st (c, X)) : AB l G R cs sl mt Z pc lv (.int v :: .ref (gA G k i j) :: st) (C, X) := ab_pf hv hc hr hx hw hfin hty hn hfit hd (vl_stC hk ht) (kk _ h)
theorem fX_pi {C : CM} {X : XM} {K : Int32 → XM → Prop} {v : Int32} {ty : FieldType} {f : XM → Option (Int32 × XM)} {ci x index : Nat} {r : vw_C} (hv : vd 10 0 0) (hc : ck 10 0 = .inr ci) (hr : vwCl[ci]? = some r) (hx : x < r.2.2) (hw : Cond.fieldLink mt.1.cls index r.1 (r.2.1 x).2.1 (r.2.1 x).2.2.1 ∈ AT) (ht : tc 10 0 x = 0) (h : SAT (bnd (stX X 0 x v) f) K) (hfin : (r.2.1 x).2.2.2 = false) (hty : parseFieldDescriptor (r.2.1 x).2.2.1 = some ty) (hn : narrow ty (.int v) = .int v) (hfit : fits ty (.int v) = true) (hd : decode mt.2.1 pc = .ok (.putfield index, 3))
    (kk : ∀ c : XM, SAT (f c) K → AB l G R cs sl mt Z (pc + 3) lv st (C, c)) : AB l G R cs sl mt Z pc lv (.int v :: .ref (gA G 10 0 0) :: st) (C, X) := ab_pf hv hc hr hx hw hfin hty hn hfit hd (vl_stX ht) (kk _ h)
theorem fX_pl {C : CM} {X : XM} {K : Int32 → XM → Prop} {v : Int64} {ty : FieldType} {f : XM → Option (Int32 × XM)} {ci x index : Nat} {r : vw_C} (hv : vd 10 0 0) (hc : ck 10 0 = .inr ci) (hr : vwCl[ci]? = some r) (hx : x < r.2.2) (hw : Cond.fieldLink mt.1.cls index r.1 (r.2.1 x).2.1 (r.2.1 x).2.2.1 ∈ AT) (ht : tc 10 0 x = 1) (h : SAT (bnd (stL X 0 x v) f) K) (hfin : (r.2.1 x).2.2.2 = false) (hty : parseFieldDescriptor (r.2.1 x).2.2.1 = some ty) (hn : narrow ty (.long v) = .long v) (hfit : fits ty (.long v) = true) (hd : decode mt.2.1 pc = .ok (.putfield index, 3))
    (kk : ∀ c : XM, SAT (f c) K → AB l G R cs sl mt Z (pc + 3) lv st (C, c)) : AB l G R cs sl mt Z pc lv (.long v :: .ref (gA G 10 0 0) :: st) (C, X) := ab_pf hv hc hr hx hw hfin hty hn hfit hd (vl_stL (by decide) ht) (kk _ h)
theorem fC_pr {C : CM} {X : XM} {K : Int32 → CM → Prop} {y : Nat} {ty : FieldType} {f : CM → Option (Int32 × CM)} {k i ci x index : Nat} {r : vw_C} (hv : vd k i 0) (hc : ck k 0 = .inr ci) (hr : vwCl[ci]? = some r) (hx : x < r.2.2) (hw : Cond.fieldLink mt.1.cls index r.1 (r.2.1 x).2.1 (r.2.1 x).2.2.1 ∈ AT) (hdy : dynR k x = true) (h : SAT (bnd (rfC C k i x y) f) K) (hfin : (r.2.1 x).2.2.2 = false) (hty : parseFieldDescriptor (r.2.1 x).2.2.1 = some ty) (hn : narrow ty (.ref (gA G (dynK k x) y 0)) = .ref (gA G (dynK k x) y 0)) (hfit : fits ty (.ref (gA G (dynK k x) y 0)) = true) (hd : decode mt.2.1 pc = .ok (.putfield index, 3))
    (kk : ∀ c : CM, SAT (f c) K → AB l G R cs sl mt Z (pc + 3) lv st (c, X)) : AB l G R cs sl mt Z pc lv (.ref (gA G (dynK k x) y 0) :: .ref (gA G k i 0) :: st) (C, X) := ab_pf hv hc hr hx hw hfin hty hn hfit hd (vl_rfC hdy) (kk _ h)
theorem fC_iald {C : CM} {X : XM} {β : Type} {K : Int32 → β → Prop} {k i j n : Nat} {x : Int32} (hv : vd k i j) {f : Int32 → Option (Int32 × β)} (hc : ck k j = .inl (0, n)) (hk : k ≠ 10) (ht : ∀ x, tc k j x = 0) (h : SAT (ldA (C.1 k i j) n x f) K) (hd : decode mt.2.1 pc = .ok (.iaload, 1)) (kk : ∀ v : Int32, SAT (f v) K → AB l G R cs sl mt Z (pc + 1) lv (.int v :: st) (C, X)) : AB l G R cs sl mt Z pc lv (.int x :: .ref (gA G k i j) :: st) (C, X) := ab_iald hv hc (sat_ldA h).1 (vl_I hk (ht _)) hd (kk _ (sat_ldA h).2)
theorem fX_iald {C : CM} {X : XM} {β : Type} {K : Int32 → β → Prop} {j n : Nat} {x : Int32} (hv : vd 10 0 j) {f : Int32 → Option (Int32 × β)} (hc : ck 10 j = .inl (0, n)) (ht : ∀ x, tc 10 j x = 0) (h : SAT (ldA (X.1 j) n x f) K) (hd : decode mt.2.1 pc = .ok (.iaload, 1)) (kk : ∀ v : Int32, SAT (f v) K → AB l G R cs sl mt Z (pc + 1) lv (.int v :: st) (C, X)) : AB l G R cs sl mt Z pc lv (.int x :: .ref (gA G 10 0 j) :: st) (C, X) := ab_iald hv hc (sat_ldA h).1 (vl_X (ht _)) hd (kk _ (sat_ldA h).2)
theorem fC_bald {C : CM} {X : XM} {β : Type} {K : Int32 → β → Prop} {k i j n : Nat} {x : Int32} (hv : vd k i j) {f : Int32 → Option (Int32 × β)} (hc : ck k j = .inl (1, n)) (hk : k ≠ 10) (ht : ∀ x, tc k j x = 0) (h : SAT (ldA (C.1 k i j) n x f) K) (hd : decode mt.2.1 pc = .ok (.baload, 1)) (kk : ∀ v : Int32, SAT (f v) K → AB l G R cs sl mt Z (pc + 1) lv (.int v :: st) (C, X)) : AB l G R cs sl mt Z pc lv (.int x :: .ref (gA G k i j) :: st) (C, X) := ab_bald hv hc (sat_ldA h).1 (vl_I hk (ht _)) hd (kk _ (sat_ldA h).2)
theorem fX_bald {C : CM} {X : XM} {β : Type} {K : Int32 → β → Prop} {j n : Nat} {x : Int32} (hv : vd 10 0 j) {f : Int32 → Option (Int32 × β)} (hc : ck 10 j = .inl (1, n)) (ht : ∀ x, tc 10 j x = 0) (h : SAT (ldA (X.1 j) n x f) K) (hd : decode mt.2.1 pc = .ok (.baload, 1)) (kk : ∀ v : Int32, SAT (f v) K → AB l G R cs sl mt Z (pc + 1) lv (.int v :: st) (C, X)) : AB l G R cs sl mt Z pc lv (.int x :: .ref (gA G 10 0 j) :: st) (C, X) := ab_bald hv hc (sat_ldA h).1 (vl_X (ht _)) hd (kk _ (sat_ldA h).2)
theorem fC_zald {C : CM} {X : XM} {β : Type} {K : Int32 → β → Prop} {k i j n : Nat} {x : Int32} (hv : vd k i j) {f : Int32 → Option (Int32 × β)} (hc : ck k j = .inl (2, n)) (hk : k ≠ 10) (ht : ∀ x, tc k j x = 0) (h : SAT (ldA (C.1 k i j) n x f) K) (hd : decode mt.2.1 pc = .ok (.baload, 1)) (kk : ∀ v : Int32, SAT (f v) K → AB l G R cs sl mt Z (pc + 1) lv (.int v :: st) (C, X)) : AB l G R cs sl mt Z pc lv (.int x :: .ref (gA G k i j) :: st) (C, X) := ab_zald hv hc (sat_ldA h).1 (vl_I hk (ht _)) hd (kk _ (sat_ldA h).2)
theorem fX_zald {C : CM} {X : XM} {β : Type} {K : Int32 → β → Prop} {j n : Nat} {x : Int32} (hv : vd 10 0 j) {f : Int32 → Option (Int32 × β)} (hc : ck 10 j = .inl (2, n)) (ht : ∀ x, tc 10 j x = 0) (h : SAT (ldA (X.1 j) n x f) K) (hd : decode mt.2.1 pc = .ok (.baload, 1)) (kk : ∀ v : Int32, SAT (f v) K → AB l G R cs sl mt Z (pc + 1) lv (.int v :: st) (C, X)) : AB l G R cs sl mt Z pc lv (.int x :: .ref (gA G 10 0 j) :: st) (C, X) := ab_zald hv hc (sat_ldA h).1 (vl_X (ht _)) hd (kk _ (sat_ldA h).2)
theorem fC_iast {C : CM} {X : XM} {K : Int32 → CM → Prop} {v : Int32} {k i j n : Nat} {x : Int32} (hv : vd k i j) {f : CM → Option (Int32 × CM)} (hc : ck k j = .inl (0, n)) (hk : k ≠ 10) (ht : ∀ x, tc k j x = 0) (h : SAT (stA C k i j n x v f) K) (hd : decode mt.2.1 pc = .ok (.iastore, 1)) (kk : ∀ c : CM, SAT (f c) K → AB l G R cs sl mt Z (pc + 1) lv st (c, X)) : AB l G R cs sl mt Z pc lv (.int v :: .int x :: .ref (gA G k i j) :: st) (C, X) := ab_iast hv hc (sat_stA h).1 hd (vl_stC hk (ht _)) (kk _ (sat_stA h).2)
theorem fX_iast {C : CM} {X : XM} {K : Int32 → XM → Prop} {v : Int32} {j n : Nat} {x : Int32} (hv : vd 10 0 j) {f : XM → Option (Int32 × XM)} (hc : ck 10 j = .inl (0, n)) (ht : ∀ x, tc 10 j x = 0) (h : SAT (sxA X j n x v f) K) (hd : decode mt.2.1 pc = .ok (.iastore, 1)) (kk : ∀ c : XM, SAT (f c) K → AB l G R cs sl mt Z (pc + 1) lv st (C, c)) : AB l G R cs sl mt Z pc lv (.int v :: .int x :: .ref (gA G 10 0 j) :: st) (C, X) := ab_iast hv hc (sat_sxA h).1 hd (vl_stX (ht _)) (kk _ (sat_sxA h).2)
theorem fC_bast {C : CM} {X : XM} {K : Int32 → CM → Prop} {v : Int32} {k i j n : Nat} {x : Int32} (hv : vd k i j) {f : CM → Option (Int32 × CM)} (hc : ck k j = .inl (1, n)) (hk : k ≠ 10) (ht : ∀ x, tc k j x = 0) (h : SAT (stA C k i j n x (nrB v) f) K) (hd : decode mt.2.1 pc = .ok (.bastore, 1)) (kk : ∀ c : CM, SAT (f c) K → AB l G R cs sl mt Z (pc + 1) lv st (c, X)) : AB l G R cs sl mt Z pc lv (.int v :: .int x :: .ref (gA G k i j) :: st) (C, X) := ab_bast hv hc (sat_stA h).1 hd (vl_stC hk (ht _)) (kk _ (sat_stA h).2)
theorem fX_bast {C : CM} {X : XM} {K : Int32 → XM → Prop} {v : Int32} {j n : Nat} {x : Int32} (hv : vd 10 0 j) {f : XM → Option (Int32 × XM)} (hc : ck 10 j = .inl (1, n)) (ht : ∀ x, tc 10 j x = 0) (h : SAT (sxA X j n x (nrB v) f) K) (hd : decode mt.2.1 pc = .ok (.bastore, 1)) (kk : ∀ c : XM, SAT (f c) K → AB l G R cs sl mt Z (pc + 1) lv st (C, c)) : AB l G R cs sl mt Z pc lv (.int v :: .int x :: .ref (gA G 10 0 j) :: st) (C, X) := ab_bast hv hc (sat_sxA h).1 hd (vl_stX (ht _)) (kk _ (sat_sxA h).2)
theorem fC_zast {C : CM} {X : XM} {K : Int32 → CM → Prop} {v : Int32} {k i j n : Nat} {x : Int32} (hv : vd k i j) {f : CM → Option (Int32 × CM)} (hc : ck k j = .inl (2, n)) (hk : k ≠ 10) (ht : ∀ x, tc k j x = 0) (h : SAT (stA C k i j n x (nrZ v) f) K) (hd : decode mt.2.1 pc = .ok (.bastore, 1)) (kk : ∀ c : CM, SAT (f c) K → AB l G R cs sl mt Z (pc + 1) lv st (c, X)) : AB l G R cs sl mt Z pc lv (.int v :: .int x :: .ref (gA G k i j) :: st) (C, X) := ab_zast hv hc (sat_stA h).1 hd (vl_stC hk (ht _)) (kk _ (sat_stA h).2)
theorem fX_zast {C : CM} {X : XM} {K : Int32 → XM → Prop} {v : Int32} {j n : Nat} {x : Int32} (hv : vd 10 0 j) {f : XM → Option (Int32 × XM)} (hc : ck 10 j = .inl (2, n)) (ht : ∀ x, tc 10 j x = 0) (h : SAT (sxA X j n x (nrZ v) f) K) (hd : decode mt.2.1 pc = .ok (.bastore, 1)) (kk : ∀ c : XM, SAT (f c) K → AB l G R cs sl mt Z (pc + 1) lv st (C, c)) : AB l G R cs sl mt Z pc lv (.int v :: .int x :: .ref (gA G 10 0 j) :: st) (C, X) := ab_zast hv hc (sat_sxA h).1 hd (vl_stX (ht _)) (kk _ (sat_sxA h).2)
theorem fX_lald {C : CM} {X : XM} {β : Type} {K : Int32 → β → Prop} {j n : Nat} {x : Int32} (hv : vd 10 0 j) {f : Int64 → Option (Int32 × β)} (hc : ck 10 j = .inl (3, n)) (ht : ∀ x, tc 10 j x = 1) (h : SAT (ldL (X.2 j) n x f) K) (hd : decode mt.2.1 pc = .ok (.laload, 1)) (kk : ∀ v : Int64, SAT (f v) K → AB l G R cs sl mt Z (pc + 1) lv (.long v :: st) (C, X)) : AB l G R cs sl mt Z pc lv (.int x :: .ref (gA G 10 0 j) :: st) (C, X) := ab_lald hv hc (sat_ldL h).1 (vl_L (ht _)) hd (kk _ (sat_ldL h).2)
theorem fX_last {C : CM} {X : XM} {K : Int32 → XM → Prop} {v : Int64} {j n : Nat} {x : Int32} (hv : vd 10 0 j) {f : XM → Option (Int32 × XM)} (hc : ck 10 j = .inl (3, n)) (hj : j ≠ 20) (ht : ∀ x, tc 10 j x = 1) (h : SAT (slA X j n x v f) K) (hd : decode mt.2.1 pc = .ok (.lastore, 1)) (kk : ∀ c : XM, SAT (f c) K → AB l G R cs sl mt Z (pc + 1) lv st (C, c)) : AB l G R cs sl mt Z pc lv (.long v :: .int x :: .ref (gA G 10 0 j) :: st) (C, X) := ab_last hv hc (sat_slA h).1 hd (vl_stL hj (ht _)) (kk _ (sat_slA h).2)
theorem f_aald {β : Type} {K : Int32 → β → Prop} {k i j t n k2 b : Nat} {x : Int32} (hv : vd k i j) {f : Nat → Option (Int32 × β)} (hc : ck k j = .inl (t, n)) (ht : t = 4 ∨ t = 5) (hrf : ∀ y, vl G M k i j y = .ref (gA G k2 (b + y) 0)) (h : SAT (ldQ n x f) K) (hd : decode mt.2.1 pc = .ok (.aaload, 1)) (kk : ∀ y : Nat, y < n → SAT (f y) K → AB l G R cs sl mt Z (pc + 1) lv (.ref (gA G k2 (b + y) 0) :: st) M) : AB l G R cs sl mt Z pc lv (.int x :: .ref (gA G k i j) :: st) M := ab_aald hv hc ht (sat_ldQ h).1 (hrf _) hd (kk _ (inB_lt (sat_ldQ h).1) (sat_ldQ h).2)
theorem f_sti {β : Type} {K : Int32 → β → Prop} {b : Nat} {x : Int32} {f : Int32 → Option (Int32 × β)} {g : Nat → Int32} (hb : b = 0 ∨ b = 1) (hg : (if b = 0 then tbX else tbY) = g) (h : SAT (ldA g 8 x f) K) (hd : decode mt.2.1 pc = .ok (.iaload, 1)) (kk : ∀ v : Int32, SAT (f v) K → AB l G R cs sl mt Z (pc + 1) lv (.int v :: st) M) : AB l G R cs sl mt Z pc lv (.int x :: .ref (gF G b) :: st) M := by
  subst hg
  exact ab_sti (n := 0) hb (sat_ldA h).1 rfl hd (kk _ (sat_ldA h).2)
theorem f_idiv {β : Type} {K : Int32 → β → Prop} {x y : Int32} {o : Option (Int32 × β)} (h : SAT (chk (decide (y ≠ 0)) o) K) (hd : decode mt.2.1 pc = .ok (.idiv, 1)) (kk : SAT o K → AB l G R cs sl mt Z (pc + 1) lv (.int (x / y) :: st) M) : AB l G R cs sl mt Z pc lv (.int y :: .int x :: st) M := ab_idiv hd (of_decide_eq_true (sat_chk h).1) (kk (sat_chk h).2)
theorem f_irem {β : Type} {K : Int32 → β → Prop} {x y : Int32} {o : Option (Int32 × β)} (h : SAT (chk (decide (y ≠ 0)) o) K) (hd : decode mt.2.1 pc = .ok (.irem, 1)) (kk : SAT o K → AB l G R cs sl mt Z (pc + 1) lv (.int (x - x / y * y) :: st) M) : AB l G R cs sl mt Z pc lv (.int y :: .int x :: st) M := ab_irem hd (of_decide_eq_true (sat_chk h).1) (kk (sat_chk h).2)
end RULES
