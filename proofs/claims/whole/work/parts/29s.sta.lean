theorem vl_stO {G : GX} {C : CM} {X : XM} {v : Int64} : ∀ k' i' j' x', vd k' i' j' → vl G (C, stL X 20 0 v) k' i' j' x' = if k' = 11 ∧ i' = 0 ∧ j' = 0 ∧ x' = 0 then .long v else vl G (C, X) k' i' j' x' := by
  intro k' i' j' x' hv
  have hj : j' < 20 := by
    have := hv.2
    unfold prtK at this
    split at this <;> omega
  by_cases hk : k' = 11
  · subst hk
    have h0 : i' = 0 := by have := hv.1; simp [cntK] at this; omega
    have h1 : j' = 0 := by have := hv.2; simp [prtK] at this; omega
    subst h0; subst h1
    have ht : tc 11 0 x' = 1 := rfl
    unfold vl vL
    rw [ht]
    by_cases hx : x' = 0
    · subst hx
      simp [stL]
    · simp [stL, hx]
  · rw [if_neg (fun z => hk z.1)]
    unfold vl
    split
    · rfl
    · unfold vL stL
      simp only
      rw [if_neg hk, if_neg (fun z => by omega)]
    · rfl
def rmS : Room := { frames := 21, cells := 1, slots := 6, locals := 1300 }
def hhS : List (Nat × Nat × Nat × Nat) := [(0, 10, 13, 13)]
def mt_L_cell : MT := (yL_cell, cL_cell, 5, some .int)
def mt_L_owner : MT := (yL_owner, cL_owner, 5, some .int)
def XF : String → State → State → Prop := fun _ _ _ => False
/-- a method of the law with a table -/
def CTS (l : Launch) (G : GX) (mt : MT) (av : List Value) (M : Mem) (Q : Int32 → Mem → Prop) : Prop :=
  vx_Met l mt.1 (Cond.codeWith mt.1 mt.2.1 mt.2.2.1 mt.2.2.2 hhS :: AT) rmS (va_Pc av (fun U => Hold G M U.heap ∧ Kx G U)) (Qx G mt Q) XF 1 6 (gP G)
theorem xrun_go {l : Launch} {G : GX} {R : Room} {cs sl mc ms pc : Nat} {p : Program} {e : Env} {s : State} {m : MethodId} {args : Array Value} {below : List Frame} {meth : Method} {c : Code} {H : Heap} {locs : List Loc} {Qf : State → Prop} {mtc : MT} {Q : Int32 → Mem → Prop} {QX : Mem → Prop} {ls : Array Slot} {st0 rest : List Value} {a : Array Value}
    (hr : vx_Run p l e R s m args below meth c H locs cs sl mc ms (F0 m pc ls st0) rest (Qx G mtc Q a) (XQ G QX) (gP G)) (hS : va_S (gP G) s.heap H locs)
    (kk : ∀ (v : Int32) (M' : Mem) (H1 : Heap) (locs1 : List Loc), Q v M' → Hold G M' H1 → va_S (gP G) s.heap H1 locs1 → W p l e R s m args below meth c H1 locs1 (cs + mc) (sl + ms) Qf (F0 m (pc + 3) ls ((rv mtc v).toList ++ rest)))
    (kx : ∀ (q : Addr) (ce : Cell) (M' : Mem) (H1 : Heap) (locs1 : List Loc), QX M' → Hold G M' H1 → va_S (gP G) s.heap H1 locs1 → H1[q]? = some ce → ce.vm = .none → s.vm.findClass exN = some ce.cls → vx_W p l e R s m args below meth c H1 locs1 (cs + mc) (sl + ms) Qf (F0 m pc ls rest) q) : W p l e R s m args below meth c H locs cs sl Qf (F0 m pc ls st0) := by
  intro T hT X
  rcases hr T hT X with ⟨v, st₀, t, T', L, h0, X', hL, e1, e2, ⟨⟨r, M', hv, hq, hM⟩, hz, hk⟩, stp⟩ | ⟨q, st₀, t, T', L, E, ce, h0, X', hL, e1, e2, ⟨hE, ⟨M', hq, hM⟩, hz, hk⟩, hce, hcv, hcl, stp⟩
  · have hv := Outcome.returned.inj hv
    subst hv
    rw [h0] at hz hk
    obtain ⟨t2, a1, b1⟩ := kk r M' T'.heap (locs ++ L) hq (by rw [e1]; exact hM)
      ⟨Nat.le_trans hS.1 (by rw [e1]; exact hz), fun q h1 h2 => by rw [e1, hk q (Nat.lt_of_lt_of_le h1 hS.1) h2]; exact hS.2.1 q h1 h2, fun q hq => by
        rcases List.mem_append.mp hq with h | h
        · exact hS.2.2 q h
        · exact hL q h⟩ T' rfl X'
    exact ⟨t2, stp t2 a1, b1⟩
  · subst hE
    rw [h0] at hz hk
    obtain ⟨t2, a1, b1⟩ := kx q ce M' T'.heap (locs ++ L) hq (by rw [e1]; exact hM)
      ⟨Nat.le_trans hS.1 (by rw [e1]; exact hz), fun q h1 h2 => by rw [e1, hk q (Nat.lt_of_lt_of_le h1 hS.1) h2]; exact hS.2.1 q h1 h2, fun q hq => by
        rcases List.mem_append.mp hq with h | h
        · exact hS.2.2 q h
        · exact hL q h⟩ (by rw [e1]; exact hce) hcv hcl T' rfl X'
    exact ⟨t2, stp.trans a1, b1⟩
theorem cts_of {l : Launch} {G : GX} {mt mtc : MT} {index ci : Nat} {r : vw_C} {a1 a2 : Int32} {C : CM} {X : XM} {Q : Int32 → Mem → Prop} {o : Option (Int32 × (CM × Bool))}
    (hy : mt.1.cls = "GaleBankLaw") (hm : mt.2.2 = (5, some .int)) (hmc : mtc.2.2.2 = some .int) (hmL : mtc.2.2.1 ≤ 10) (hc : ck 0 0 = .inr ci) (hr : vwCl[ci]? = some r) (hcls : mtc.1.cls = r.1) (hmw : MWv mtc 2)
    (hlink : Cond.methodLink "GaleBankLaw" index mtc.1 ∈ AT) (hcx : Cond.classLink "GaleBankLaw" 13 exN ∈ AT)
    (hct : ∀ (Q : Int32 → Mem → Prop) (QX : Mem → Prop), SAT o (fun v c => if c.2 = true then QX (c.1, X) else Q v (c.1, X)) → CTX l G mtc [.ref (gA G 0 0 0), .int a1, .int a2] (C, X) Q QX)
    (h : SAT o (fun v c => if c.2 = true then Q 1 (c.1, X) else Q 0 (c.1, stL X 20 0 v.toInt64)))
    (d0 : decode mt.2.1 0 = .ok (.aload_n 3, 1)) (d1 : decode mt.2.1 1 = .ok (.iconst 0, 1)) (d2 : decode mt.2.1 2 = .ok (.aload_n 0, 1)) (d3 : decode mt.2.1 3 = .ok (.iload_n 1, 1)) (d4 : decode mt.2.1 4 = .ok (.iload_n 2, 1))
    (d5 : decode mt.2.1 5 = .ok (.invokevirtual index, 3)) (d8 : decode mt.2.1 8 = .ok (.i2l, 1)) (d9 : decode mt.2.1 9 = .ok (.lastore, 1)) (d10 : decode mt.2.1 10 = .ok (.goto 7, 3)) (d13 : decode mt.2.1 13 = .ok (.astore 4, 2))
    (d15 : decode mt.2.1 15 = .ok (.iconst 1, 1)) (d16 : decode mt.2.1 16 = .ok (.ireturn, 1)) (d17 : decode mt.2.1 17 = .ok (.iconst 0, 1)) (d18 : decode mt.2.1 18 = .ok (.ireturn, 1)) :
    CTS l G mt [.ref (gA G 0 0 0), .int a1, .int a2, .ref (gA G 11 0 0)] (C, X) Q := by
  have hct := hct (fun v M => Q 0 (M.1, stL M.2 20 0 v.toInt64)) (fun M => Q 1 M) h
  have hm1 : mt.2.2.1 = 5 := by rw [hm]
  have hm2 : mt.2.2.2 = some .int := by rw [hm]
  refine vx_ofWH (cc := mt.2.1) (maxL := mt.2.2.1) (ret := mt.2.2.2) (hh := hhS) (by rw [hy]; decide) rfl ?_
  intro p e s m args below meth c s₁ B hml hv
  obtain ⟨rfl, hH, hK⟩ := hv
  have hts0 := atoms_spec (ws := Cond.codeWith mt.1 mt.2.1 mt.2.2.1 mt.2.2.2 hhS :: AT) B.pre
  have htab : c.exceptionTable.toList = tableOf hhS := vx_table (x := mt.1) B (hts0 _ List.mem_cons_self)
  have hts : ∀ w ∈ AT, w.before _ s = true := fun w h => hts0 w (List.mem_cons_of_mem _ h)
  have hown : s.vm.findClass "GaleBankLaw" = some m.cls := by rw [← hy]; exact findClass_of_methodNamed B.named
  have hl := lv_entry [.ref (gA G 0 0 0), .int a1, .int a2, .ref (gA G 11 0 0)] (n := mt.2.2.1) (by rw [hm1]; exact Nat.le_of_ble_eq_true rfl)
  have hx := B.exec
  have hb := B.bytes
  rw [lg_entry_eq]
  refine lv_aload_n hx hb d0 rfl (lv_at hl 3 rfl) ?_
  refine lv_iconst hx hb d1 (v := 0) (by decide) ?_
  refine lv_aload_n hx hb d2 rfl (lv_at hl 0 rfl) ?_
  refine lv_iload_n hx hb d3 rfl (lv_at hl 1 rfl) ?_
  refine lv_iload_n hx hb d4 rfl (lv_at hl 2 rfl) ?_
  have h0 := hH 0 0 0 ⟨by decide, by decide⟩
  unfold celO at h0
  rw [hc] at h0
  obtain ⟨r', hr', cell, q1, q2, q3, q4⟩ := h0
  cases Option.some.inj (hr.symm.trans hr')
  obtain ⟨⟨hw1, hw2⟩, hw3, hw4, hw5, hw6, hw7⟩ := hmw
  have hG : GoodIn AT (wsV "GaleBankLaw" index mtc.1.cls mtc.1 (Cond.code mtc.1 mtc.2.1 mtc.2.2.1 mtc.2.2.2 :: AT)) := good_all (by
    intro w hw
    simp only [wsV, List.cons_append, List.nil_append, List.mem_cons] at hw
    rcases hw with h | h | h | h | h | h
    · rw [h]; exact hlink
    · rw [h]; exact hw1
    · rw [h]; exact hw2
    · rw [h]; exact hw3
    · rw [h]; exact hw4
    · exact h)
  refine xrun_go (mtc := mtc) (rest := [.int 0, .ref (gA G 11 0 0)]) (vx_runV (As := [.int a1, .int a2]) (rest := [.int 0, .ref (gA G 11 0 0)]) (b := gA G 0 0 0) (C := mtc.1.cls) ⟨hx, hb, hml, hown, hts⟩ hct (cwV 2 hts hG rfl rfl rfl ⟨rfl, hw5, hw6, hw7⟩ ⟨Nat.le_of_ble_eq_true rfl, by show 8 + (_ + 11) + 1200 ≤ 1300; omega⟩) ⟨ct_blind, ⟨cell, q1, by rw [q3]; rfl, by rw [q2, hcls]; exact (hK.2.1.1 ci _ hr).2.1⟩, fun U hU hW => ⟨rfl, by rw [hU]; exact hH, hK.at va_S.rf hU hW⟩⟩ rfl rfl hl.1 rfl (lv_room (Nat.le_of_ble_eq_true rfl)) d5 ⟨Nat.le_of_ble_eq_true rfl, Nat.le_of_ble_eq_true rfl⟩) va_S.rf ?_ ?_
  · intro v M' H1 locs1 hq hM hS1
    have hrv : rv mtc v = some (.int v) := by unfold rv; rw [hmc]
    rw [hrv]
    show W p l e _ s m _ below meth c H1 locs1 1 6 _ (F0 m 8 _ [.int v, .int 0, .ref (gA G 11 0 0)])
    refine lv_i2l hx hb d8 rfl ?_
    refine W.last hx hb (arr_at (k := 11) (i := 0) (j := 0) hM ⟨by decide, by decide⟩ (rfl : ck 11 0 = .inl (3, 1))) (arr_of hK (t := 3) (by decide) 1 _) (fun q => by cases q) (by rw [arrV_size]; exact inB_in (by decide)) rfl rfl d9 fun H2 e1 e2 e3 => ?_
    have hold2 : Hold G (M'.1, stL M'.2 20 0 v.toInt64) H2 := by
      refine hold_put (k := 11) (i := 0) (j := 0) (x := 0) hK.1 ⟨by decide, by decide⟩ hM (v := .long v.toInt64) ?_ e3 vl_stO
      unfold celO
      show H2[_]? = _
      rw [e1, arrV_store]
      rfl
    have hS2 := fun k : Nat => hS1.put (k := k) e2 e3 (hK.1.2 11 0 0 ⟨by decide, by decide⟩)
    refine lv_goto (pc := 10) (tgt := 17) hx hb d10 (by decide) ?_
    refine lv_iconst hx hb d17 (v := 0) (by decide) ?_
    exact vx_ret (W.zret hx hb (B.returns.trans hm2) rfl (fun t ht hW => ⟨⟨0, _, by unfold rv; rw [hm2], hq, by rw [ht]; exact hold2⟩, (hS2 0).F ht⟩) (hS2 _).2.2 d18 (hlocks := B.notSynchronized))
  · intro q ce M' H1 locs1 hq hM hS1 hce hcv hcl
    refine vx_catch (own := "GaleBankLaw") (name := exN) (E := exN) hown [] ⟨0, 10, 13, 13⟩ [] (by rw [htab]; rfl) (fun z hz => nomatch hz) (by decide) (by decide) (hts _ hcx) (va_Nw.use rfl hK.2.2.2.2.2.2.2.2.2.2.2.2.1) hce hcv hcl ?_
    refine lv_astore hx hb d13 hl (by rw [hm1]; decide) rfl (fun ls' hl' => ?_)
    refine lv_iconst hx hb d15 (v := 1) (by decide) ?_
    show W p l e _ s m _ below meth c H1 locs1 1 6 _ _
    exact vx_ret (W.zret hx hb (B.returns.trans hm2) rfl (fun t ht hW => ⟨⟨1, M', by unfold rv; rw [hm2], hq, by rw [ht]; exact hM⟩, hS1.F ht⟩) hS1.2.2 d16 (hlocks := B.notSynchronized))
theorem mw_X10_cell : MWv mt_X10_cell 2 := ⟨⟨at_5 176 rfl rfl, at_5 177 rfl rfl⟩, at_1 1 rfl rfl, at_5 178 rfl rfl, by decide, by decide, by decide +kernel⟩
theorem mw_X10_owner : MWv mt_X10_owner 2 := ⟨⟨at_6 4 rfl rfl, at_6 5 rfl rfl⟩, at_1 1 rfl rfl, at_6 6 rfl rfl, by decide, by decide, by decide +kernel⟩
theorem cts_L_cell {l : Launch} {G : GX} (hfl : l.stackTraces = false) {C : CM} {X : XM} {Q : Int32 → Mem → Prop} (a1 a2 : Int32) (h : SAT (f_X10_cell a1 a2 C) (fun v c => if c.2 = true then Q 1 (c.1, X) else Q 0 (c.1, stL X 20 0 v.toInt64))) : CTS l G mt_L_cell [.ref (gA G 0 0 0), .int a1, .int a2, .ref (gA G 11 0 0)] (C, X) Q :=
  cts_of (mtc := mt_X10_cell) (index := 7) rfl rfl rfl (Nat.le_of_ble_eq_true rfl) rfl rfl rfl mw_X10_cell (at_5 175 rfl rfl) (at_5 174 rfl rfl) (fun Q QX h => ctx_X10_cell hfl a1 a2 C h) h dL_cell_0 dL_cell_1 dL_cell_2 dL_cell_3 dL_cell_4 dL_cell_5 dL_cell_8 dL_cell_9 dL_cell_10 dL_cell_13 dL_cell_15 dL_cell_16 dL_cell_17 dL_cell_18
theorem cts_L_owner {l : Launch} {G : GX} (hfl : l.stackTraces = false) {C : CM} {X : XM} {Q : Int32 → Mem → Prop} (a1 a2 : Int32) (h : SAT (f_X10_owner a1 a2 C) (fun v c => if c.2 = true then Q 1 (c.1, X) else Q 0 (c.1, stL X 20 0 v.toInt64))) : CTS l G mt_L_owner [.ref (gA G 0 0 0), .int a1, .int a2, .ref (gA G 11 0 0)] (C, X) Q :=
  cts_of (mtc := mt_X10_owner) (index := 15) rfl rfl rfl (Nat.le_of_ble_eq_true rfl) rfl rfl rfl mw_X10_owner (at_6 3 rfl rfl) (at_5 174 rfl rfl) (fun Q QX h => ctx_X10_owner hfl a1 a2 C h) h dL_owner_0 dL_owner_1 dL_owner_2 dL_owner_3 dL_owner_4 dL_owner_5 dL_owner_8 dL_owner_9 dL_owner_10 dL_owner_13 dL_owner_15 dL_owner_16 dL_owner_17 dL_owner_18
section RULES
variable {l : Launch} {G : GX} {R : Room} {cs sl : Nat} {mt : MT} {Z : State → Array Value → List Frame → State → Prop} {pc : Nat} {lv : List (Nat × Value)} {st : List Value} {M : Mem}
/-- a call of such a method -/
theorem ab_callX {mtc : MT} {n index : Nat} {As st0 : List Value} {Q : Int32 → Mem → Prop} (hct : CTS l G mtc As M Q) (hcw : Cond.codeWith mtc.1 mtc.2.1 mtc.2.2.1 mtc.2.2.2 hhS ∈ AT) (hini : Cond.initialized mtc.1.cls ∈ AT) (hstt : Cond.static mtc.1 ∈ AT) (hlink : Cond.methodLink mt.1.cls index mtc.1 ∈ AT) (hd3 : mtc.1.cls ≠ "java/lang/invoke/MethodHandle" ∧ mtc.1.cls ≠ "java/lang/invoke/VarHandle" ∧ (parseMethodDescriptor mtc.1.desc).map (fun d => d.parameters.length) = some n) (hn : As.length = n)
    (hR : rmS.frames + 1 ≤ R.frames ∧ 8 + (mtc.2.2.1 + 11) + rmS.locals ≤ R.locals) (hcs : cs + 1 ≤ R.cells ∧ sl + 6 ≤ R.slots) (hst : (st.map fun v => v.category).sum ≤ 8) (hs0 : st0 = As.reverse ++ st) (hd : decode mt.2.1 pc = .ok (.invokestatic index, 3))
    (kk : ∀ (v : Int32) (M' : Mem), Q v M' → AB l G R (cs + 1) (sl + 6) mt Z (pc + 3) lv ((rv mtc v).toList ++ st) M') : AB l G R cs sl mt Z pc lv st0 M := by
  intro p e s m args below meth c H locs ls C hH hS hl
  obtain ⟨hx', hb, hret, hml, hlk, hown, hts, hK⟩ := id C
  have hG : GoodIn AT (va_wsS mt.1.cls index mtc.1 (Cond.codeWith mtc.1 mtc.2.1 mtc.2.2.1 mtc.2.2.2 hhS :: AT)) := good_all (by
    intro w hw
    simp only [va_wsS, List.cons_append, List.nil_append, List.mem_cons] at hw
    rcases hw with h | h | h | h | h
    · rw [h]; exact hlink
    · rw [h]; exact hstt
    · rw [h]; exact hini
    · rw [h]; exact hcw
    · exact h)
  intro T hT X
  rcases vx_runSX (As := As) (rest := st) (g := F0 m pc ls st0) (hh := hhS) (S := ⟨hx', hb, hml, hown, hts⟩) hct (vx_cwSW n hts hG rfl rfl rfl hd3 hR) ⟨ct_blind, fun U hU hW => ⟨rfl, by rw [hU]; exact hH, hK.at hS hU hW⟩⟩ rfl hn hl.1 hs0 (lv_room hst) hd hcs T hT X with ⟨v, st₀, t, T', L, h0, X', hL, e1, e2, ⟨⟨r, M', hv, hq, hM⟩, hz, hk⟩, stp⟩ | ⟨q, st₀, t, T', L, E, ce, h0, X', hL, e1, e2, hF, -⟩
  · have hv := Outcome.returned.inj hv
    subst hv
    rw [h0] at hz hk
    obtain ⟨t2, a1, b1⟩ := kk r M' hq p e s m args below meth c T'.heap (locs ++ L) ls C (by rw [e1]; exact hM)
      ⟨Nat.le_trans hS.1 (by rw [e1]; exact hz), fun q h1 h2 => by rw [e1, hk q (Nat.lt_of_lt_of_le h1 hS.1) h2]; exact hS.2.1 q h1 h2, fun q hq => by
        rcases List.mem_append.mp hq with h | h
        · exact hS.2.2 q h
        · exact hL q h⟩ hl T' rfl X'
    exact ⟨t2, stp t2 a1, b1⟩
  · exact hF.elim
end RULES
