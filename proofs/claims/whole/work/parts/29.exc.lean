theorem wd_1214 : Cond.fieldLink "GaleBank" 168 "GaleBank$Bank" "eddy" "[I" ∈ AT := at_1 171 rfl rfl
theorem wd_1215 : Cond.fieldLink "GaleBank" 178 "GaleBank$Owners" "home" "[I" ∈ AT := at_1 92 rfl rfl
theorem wd_1216 : Cond.fieldLink "GaleBank" 189 "GaleBank$Owners" "share" "[I" ∈ AT := at_1 99 rfl rfl
theorem wd_1217 : Cond.fieldLink "GaleBank" 192 "GaleBank$State" "stick" "[I" ∈ AT := at_2 7 rfl rfl
theorem wd_1218 : Cond.fieldLink "GaleBank" 198 "GaleBank$State" "stuck" "[I" ∈ AT := at_2 14 rfl rfl
theorem wd_1219 : Cond.fieldLink "GaleBank" 201 "GaleBank$Owners" "pact" "[I" ∈ AT := at_1 111 rfl rfl
theorem wd_1220 : Cond.fieldLink "GaleBank" 207 "GaleBank$State" "lost" "[I" ∈ AT := at_2 17 rfl rfl
theorem wd_1221 : Cond.fieldLink "GaleBank" 210 "GaleBank$State" "had" "[I" ∈ AT := at_2 20 rfl rfl
def rmX : Room := { frames := 20, cells := 1, slots := 6, locals := 1200 }
/-- a method that may throw: what it ends with -/
def XQ (G : GX) (QX : Mem → Prop) : String → State → State → Prop := fun E st t => E = exN ∧ (∃ M : Mem, QX M ∧ Hold G M t.heap) ∧ va_F (gP G) st t
def ZX (G : GX) (mt : MT) (Q : Int32 → Mem → Prop) (QX : Mem → Prop) : State → Array Value → List Frame → State → Prop := fun s args below => vx_MQ below (Qx G mt Q) (XQ G QX) args s 1 6 (gP G)
def CTX (l : Launch) (G : GX) (mt : MT) (av : List Value) (M : Mem) (Q : Int32 → Mem → Prop) (QX : Mem → Prop) : Prop :=
  vx_Met l mt.1 (Cond.code mt.1 mt.2.1 mt.2.2.1 mt.2.2.2 :: AT) rmX (va_Pc av (fun U => Hold G M U.heap ∧ Kx G U)) (Qx G mt Q) (XQ G QX) 1 6 (gP G)
def nmT : List String := ["java/lang/RuntimeException", "java/lang/Exception"]
def BADW : List Cond := [Cond.castable exN exN, Cond.declares (Bundle.init0 "java/lang/RuntimeException"), Cond.declares (Bundle.init0 "java/lang/Exception"), Cond.declares (Bundle.init0 Bundle.tN)]
def L0T : List Cond := vx_at0 "GaleBank" 164 exN nmT
theorem L0T_good : ∀ w ∈ L0T.filter goodWord, w ∈ lw_tbl := by decide +kernel
theorem L0T_bad : ∀ w ∈ L0T.filter (fun w => !goodWord w), w ∈ BADW := by decide +kernel
theorem L0T_ot : ∀ w ∈ Cond.classLink "GaleBank" 162 exN :: Cond.initialized exN :: L0T, vx_ot w = true := by decide +kernel
theorem hold_kept {G : GX} {M : Mem} {H H1 : Heap} (hH : Hold G M H) (hk : ∀ q : Nat, q < H.size → H1[q]? = H[q]?) : Hold G M H1 := by
  intro k i j hv
  have h0 := hH k i j hv
  unfold celO at h0 ⊢
  split
  · rename_i t n hck
    rw [hck] at h0
    have h0 : H[gA G k i j]? = some (arrV (G.2.1 t) n (vl G M k i j)) := h0
    rw [hk _ (Array.getElem?_eq_some_iff.mp h0).1]; exact h0
  · rename_i ci hck
    rw [hck] at h0
    obtain ⟨r, h1, h2⟩ := h0
    obtain ⟨cell, q1, q2⟩ := id h2
    exact ⟨r, h1, h2.kept (hk _ (Array.getElem?_eq_some_iff.mp q1).1)⟩
theorem ctx_of {l : Launch} {G : GX} {mt : MT} {av : List Value} {M : Mem} {Q : Int32 → Mem → Prop} {QX : Mem → Prop} (hy : plainName mt.1.cls = true) (hn : (lg_sl av).length ≤ mt.2.2.1)
    (k : AB l G rmX 0 0 mt (ZX G mt Q QX) 0 (lv_args 0 av) [] M) : CTX l G mt av M Q QX := by
  refine vx_ofW (cc := mt.2.1) (maxL := mt.2.2.1) (ret := mt.2.2.2) hy rfl ?_
  intro p e s m args below meth c s₁ B hml ht hv
  obtain ⟨rfl, hH, hK⟩ := hv
  have hts := atoms_spec (ws := Cond.code mt.1 mt.2.1 mt.2.2.1 mt.2.2.2 :: AT) B.pre
  have hl := lv_entry av (n := mt.2.2.1) hn
  rw [lg_entry_eq]
  exact k p e s m _ below meth c s.heap [] _ ⟨B.exec, B.bytes, B.returns, hml, ⟨B.notSynchronized, ht⟩, findClass_of_methodNamed B.named, fun w h => hts w (List.mem_cons_of_mem _ h), hK⟩ hH va_S.rf hl
section RULES
variable {l : Launch} {G : GX} {R : Room} {cs sl : Nat} {mt : MT} {pc : Nat} {lv : List (Nat × Value)} {st : List Value}
theorem xC_ret {C : CM} {X : XM} {Q : Int32 → Mem → Prop} {QX : Mem → Prop} {v : Int32} {ty : FieldType} (h : SAT (rt v (C, false)) (fun v c => if c.2 = true then QX (c.1, X) else Q v (c.1, X))) (hr : mt.2.2.2 = some ty) (hn : narrow ty (.int v) = .int v) (hd : decode mt.2.1 pc = .ok (.ireturn, 1)) : AB l G rmX 0 0 mt (ZX G mt Q QX) pc lv [.int v] (C, X) := by
  have h : Q v (C, X) := by simpa [SAT, rt] using h
  intro p e s m args below meth c H locs ls CC hH hS hl
  obtain ⟨hx', hb, hret, hml, hlk, hown, hts, hK⟩ := CC
  refine vx_ret (W.widen (k := 1) (n := 6) (Nat.zero_le _) (Nat.zero_le _) ?_)
  exact W.zret hx' hb (hret.trans hr) hn (fun t ht hW => ⟨⟨v, _, by unfold rv; rw [hr], h, by rw [ht]; exact hH⟩, hS.F ht⟩) hS.2.2 hd (hlocks := hlk.1)
theorem xC_thr {C : CM} {X : XM} {Q : Int32 → Mem → Prop} {QX : Mem → Prop} (hfl : l.stackTraces = false) (h : SAT (rt 0 (C, true)) (fun v c => if c.2 = true then QX (c.1, X) else Q v (c.1, X))) (hcls : mt.1.cls = "GaleBank")
    (d0 : decode mt.2.1 pc = .ok (.new 162, 3)) (d3 : decode mt.2.1 (pc + 3) = .ok (.dup, 1)) (d4 : decode mt.2.1 (pc + 4) = .ok (.invokespecial 164, 3)) (d7 : decode mt.2.1 (pc + 7) = .ok (.athrow, 1)) (hst : (st.map fun v => v.category).sum ≤ 8) : AB l G rmX 0 0 mt (ZX G mt Q QX) pc lv st (C, X) := by
  have h : QX (C, X) := by simpa [SAT, rt] using h
  intro p e s m args below meth c H locs ls CC hH hS hl
  obtain ⟨hx', hb, hret, hml, hlk, hown, hts, hK⟩ := CC
  rw [hcls] at hown
  obtain ⟨-, -, -, -, -, -, -, -, -, -, u1, u2, k1⟩ := hK
  have hat : ∀ w ∈ L0T, w.before args s = true := vx_hat (B := BADW) (fun w hw => hts w (List.mem_filter.mpr ⟨L0T_good w hw, (List.mem_filter.mp hw).2⟩)) L0T_bad (vx_c (va_Nw.use rfl k1.1) (vx_c (va_Nw.use rfl k1.2.1) (vx_c (va_Nw.use rfl k1.2.2.1) (vx_c (va_Nw.use rfl k1.2.2.2) vx_n))))
  refine vx_throw0 (names := nmT) (A := gP G) hx' hb hfl hown (by decide +kernel) (by decide +kernel) (hts _ (at_5 179 rfl rfl)) (hts _ (at_1 22 rfl rfl)) hat L0T_ot u1 u2 hS (hl.1.trans hml.symm) d0 d3 d4 d7 (fun x hx => (hlk.2 x hx).elim) (by decide) ?_ (by decide) (by decide) hlk.1 ?_ hS.2.2 (by decide) (by decide)
  · show _ + (13 * (2 + 1) + 42) ≤ 1200
    omega
  · intro t hal hz hk
    exact ⟨rfl, ⟨_, h, hold_kept hH hk⟩, Nat.le_trans hS.1 hz, fun q g1 g2 => by rw [hk q (Nat.lt_of_lt_of_le g1 hS.1)]; exact hS.2.1 q g1 g2⟩
end RULES
def f_X10_cell_86 (C : CM) : Option (Int32 × (CM × Bool)) := (rt (-1) (C, false))
def f_X10_cell_23 (C : CM) : Option (Int32 × (CM × Bool)) := (rt 0 (C, true))
def f_X10_cell (a1 : Int32) (a2 : Int32) (C : CM) : Option (Int32 × (CM × Bool)) := ldR (C.2 2 0 1) 4 (fun y1 => cal (f_X0_isCell y1 a1 C) (fun v3 C4 => (if v3 = 0 then (f_X10_cell_23 C4) else (if a2 < 0 then (f_X10_cell_23 C4) else (if a2 ≤ 2 then ldA (C4.1 4 0 8) 100 a1 (fun v8 => (if a2 = 0 then (rt (v8 >>> (4 &&& 31)) (C4, false)) else if a2 = 1 then (if v8 = 0 then (f_X10_cell_86 C4) else (if v8 = 48 then (f_X10_cell_86 C4) else (rt (v8 &&& 15) (C4, false)))) else ldR (C4.2 2 0 1) 4 (fun y13 => ldA (C4.1 3 y13 2) 100 a1 (fun v15 => (rt v15 (C4, false)))))) else (f_X10_cell_23 C4))))))
set_option maxRecDepth 8000 in
theorem t_X10_cell_86 {l : Launch} {G : GX} (hfl : l.stackTraces = false) {X : XM} {Q : Int32 → Mem → Prop} {QX : Mem → Prop} (C : CM) (h : SAT (f_X10_cell_86 C) (fun v c => if c.2 = true then QX (c.1, X) else Q v (c.1, X))) : AB l G rmX 0 0 mt_X10_cell (ZX G mt_X10_cell Q QX) 86 [] [] (C, X) := by
  unfold f_X10_cell_86 at h
  refine ab_iconst (v := (-1)) dX10_cell_86 (by decide) ?_
  refine ab_goto (tgt := 94) dX10_cell_87 (by decide) ?_
  exact xC_ret h rfl rfl dX10_cell_94
set_option maxRecDepth 8000 in
theorem t_X10_cell_23 {l : Launch} {G : GX} (hfl : l.stackTraces = false) {X : XM} {Q : Int32 → Mem → Prop} {QX : Mem → Prop} (C : CM) (h : SAT (f_X10_cell_23 C) (fun v c => if c.2 = true then QX (c.1, X) else Q v (c.1, X))) : AB l G rmX 0 0 mt_X10_cell (ZX G mt_X10_cell Q QX) 23 [] [] (C, X) := by
  unfold f_X10_cell_23 at h
  exact xC_thr hfl h rfl dX10_cell_23 dX10_cell_26 dX10_cell_27 dX10_cell_30 (Nat.le_of_ble_eq_true rfl)
set_option maxRecDepth 8000 in
theorem t_X10_cell_0 {l : Launch} {G : GX} (hfl : l.stackTraces = false) {X : XM} {Q : Int32 → Mem → Prop} {QX : Mem → Prop} (a1 : Int32) (a2 : Int32) (C : CM) (h : SAT (f_X10_cell a1 a2 C) (fun v c => if c.2 = true then QX (c.1, X) else Q v (c.1, X))) : AB l G rmX 0 0 mt_X10_cell (ZX G mt_X10_cell Q QX) 0 [(0, .ref (gA G 0 0 0)), (1, .int a1), (2, .int a2)] [] (C, X) := by
  unfold f_X10_cell at h
  refine ab_aloadn 0 dX10_cell_0 rfl ?_
  refine f_gr (x := 4) (k2 := 2) (i2 := 0) (j2 := 0) ⟨by decide, by decide⟩ rfl rfl (Nat.le_of_ble_eq_true rfl) wd_124 rfl rfl dX10_cell_1 ?_
  refine fC_gd (x := 1) ⟨by decide, by decide⟩ rfl rfl (Nat.le_of_ble_eq_true rfl) wd_125 rfl h rfl dX10_cell_4 (fun y1 hy2 h => ?_)
  refine ab_iloadn 1 dX10_cell_7 rfl ?_
  refine fC_Vi (mtc := mt_X0_isCell) (As := [.int a1]) h (fun Q h => ct_X0_isCell y1 hy2 a1 C h) ⟨hy2, by decide⟩ rfl rfl rfl mw_X0_isCell wd_208 rfl rfl ⟨Nat.le_of_ble_eq_true rfl, Nat.le_of_ble_eq_true rfl⟩ ⟨Nat.zero_le _, Nat.zero_le _⟩ (Nat.le_of_ble_eq_true rfl) rfl dX10_cell_8 (fun v3 C4 h => ?_)
  refine ab_if_eq (tgt := 23) dX10_cell_11 (by decide) (fun hc5 => ?_) (fun hc5 => ?_)
  · have h := sat_t hc5 h
    refine ab_sub [] rfl ?_
    exact t_X10_cell_23 hfl C4 h
  · have h := sat_f hc5 h
    refine ab_iloadn 2 dX10_cell_14 rfl ?_
    refine ab_if_lt (tgt := 23) dX10_cell_15 (by decide) (fun hc6 => ?_) (fun hc6 => ?_)
    · have h := sat_t hc6 h
      refine ab_sub [] rfl ?_
      exact t_X10_cell_23 hfl C4 h
    · have h := sat_f hc6 h
      refine ab_iloadn 2 dX10_cell_18 rfl ?_
      refine ab_iconst (v := 2) dX10_cell_19 (by decide) ?_
      refine ab_icmp_le (tgt := 31) dX10_cell_20 (by decide) (fun hc7 => ?_) (fun hc7 => ?_)
      · have h := sat_t hc7 h
        refine ab_aloadn 0 dX10_cell_31 rfl ?_
        refine f_gr (x := 4) (k2 := 2) (i2 := 0) (j2 := 0) ⟨by decide, by decide⟩ rfl rfl (Nat.le_of_ble_eq_true rfl) wd_124 rfl rfl dX10_cell_32 ?_
        refine f_gr (x := 2) (k2 := 4) (i2 := 0) (j2 := 0) ⟨by decide, by decide⟩ rfl rfl (Nat.le_of_ble_eq_true rfl) wd_126 rfl rfl dX10_cell_35 ?_
        refine f_gr (x := 13) (k2 := 4) (i2 := 0) (j2 := 8) ⟨by decide, by decide⟩ rfl rfl (Nat.le_of_ble_eq_true rfl) wd_212 rfl rfl dX10_cell_38 ?_
        refine ab_iloadn 1 dX10_cell_41 rfl ?_
        refine fC_iald ⟨by decide, by decide⟩ rfl (by decide) (fun _ => rfl) h dX10_cell_42 (fun v8 h => ?_)
        refine ab_istoren (lv' := [(0, .ref (gA G 0 0 0)), (1, .int a1), (2, .int a2), (3, .int v8)]) dX10_cell_43 rfl (Nat.le_of_ble_eq_true rfl) rfl ?_
        refine ab_iloadn 2 dX10_cell_44 rfl ?_
        by_cases hc9 : a2 = 0
        · have h := sat_t hc9 h
          refine ab_lsw (tgt := 72) (off := 27) (by decide) (by rw [hc9]; decide) (by decide) dX10_cell_45 ?_
          refine ab_iloadn 3 dX10_cell_72 rfl ?_
          refine ab_iconst (v := 4) dX10_cell_73 (by decide) ?_
          refine ab_ishr dX10_cell_74 ?_
          exact xC_ret h rfl rfl dX10_cell_75
        have h := sat_f hc9 h
        by_cases hc10 : a2 = 1
        · have h := sat_t hc10 h
          refine ab_lsw (tgt := 76) (off := 31) (by decide) (by rw [hc10]; decide) (by decide) dX10_cell_45 ?_
          refine ab_iloadn 3 dX10_cell_76 rfl ?_
          refine ab_if_eq (tgt := 86) dX10_cell_77 (by decide) (fun hc11 => ?_) (fun hc11 => ?_)
          · have h := sat_t hc11 h
            refine ab_sub [] rfl ?_
            exact t_X10_cell_86 hfl C4 h
          · have h := sat_f hc11 h
            refine ab_iloadn 3 dX10_cell_80 rfl ?_
            refine ab_bipush (v := 48) dX10_cell_81 (by decide) ?_
            refine ab_icmp_ne (tgt := 90) dX10_cell_83 (by decide) (fun hc12 => ?_) (fun hc12 => ?_)
            · have h := sat_f hc12 h
              refine ab_iloadn 3 dX10_cell_90 rfl ?_
              refine ab_bipush (v := 15) dX10_cell_91 (by decide) ?_
              refine ab_iand dX10_cell_93 ?_
              exact xC_ret h rfl rfl dX10_cell_94
            · have h := sat_t hc12 h
              refine ab_sub [] rfl ?_
              exact t_X10_cell_86 hfl C4 h
        have h := sat_f hc10 h
        refine ab_lsw (tgt := 95) (off := 50) (by decide) (by refine (lv_osw hc9 (by decide)).trans ?_; refine (lv_osw hc10 (by decide)).trans ?_; rfl) (by decide) dX10_cell_45 ?_
        refine ab_aloadn 0 dX10_cell_95 rfl ?_
        refine f_gr (x := 4) (k2 := 2) (i2 := 0) (j2 := 0) ⟨by decide, by decide⟩ rfl rfl (Nat.le_of_ble_eq_true rfl) wd_124 rfl rfl dX10_cell_96 ?_
        refine fC_gd (x := 1) ⟨by decide, by decide⟩ rfl rfl (Nat.le_of_ble_eq_true rfl) wd_125 rfl h rfl dX10_cell_99 (fun y13 hy14 h => ?_)
        refine f_gr (x := 12) (k2 := 3) (i2 := y13) (j2 := 2) ⟨hy14, by decide⟩ rfl rfl (Nat.le_of_ble_eq_true rfl) wd_1214 rfl rfl dX10_cell_102 ?_
        refine ab_iloadn 1 dX10_cell_105 rfl ?_
        refine fC_iald ⟨hy14, by decide⟩ rfl (by decide) (fun _ => rfl) h dX10_cell_106 (fun v15 h => ?_)
        exact xC_ret h rfl rfl dX10_cell_107
      · have h := sat_f hc7 h
        refine ab_sub [] rfl ?_
        exact t_X10_cell_23 hfl C4 h
theorem ctx_X10_cell {l : Launch} {G : GX} (hfl : l.stackTraces = false) {X : XM} {Q : Int32 → Mem → Prop} {QX : Mem → Prop} (a1 a2 : Int32) (C : CM) (h : SAT (f_X10_cell a1 a2 C) (fun v c => if c.2 = true then QX (c.1, X) else Q v (c.1, X))) : CTX l G mt_X10_cell [.ref (gA G 0 0 0), .int a1, .int a2] (C, X) Q QX := ctx_of pn_X10 (Nat.le_of_ble_eq_true rfl) (t_X10_cell_0 hfl a1 a2 C h)
def f_X10_owner_24 (C : CM) : Option (Int32 × (CM × Bool)) := (rt 0 (C, true))
def f_X10_owner (a1 : Int32) (a2 : Int32) (C : CM) : Option (Int32 × (CM × Bool)) := ldR (C.2 2 0 1) 4 (fun y1 => cal (f_X0_isOwner y1 a1 C) (fun v3 C4 => (if v3 = 0 then (f_X10_owner_24 C4) else (if a2 < 0 then (f_X10_owner_24 C4) else (if a2 ≤ 10 then ldR (C4.2 2 0 1) 4 (fun y8 => (if a2 = 0 then ldA (C4.1 3 y8 8) 8 a1 (fun v11 => (rt v11 (C4, false))) else if a2 = 1 then ldA (C4.1 4 0 1) 8 a1 (fun v13 => (rt v13 (C4, false))) else if a2 = 2 then ldA (C4.1 4 0 2) 8 a1 (fun v15 => (rt v15 (C4, false))) else if a2 = 3 then ldA (C4.1 3 y8 10) 8 a1 (fun v17 => (rt v17 (C4, false))) else if a2 = 4 then ldA (C4.1 4 0 3) 8 a1 (fun v19 => (rt v19 (C4, false))) else if a2 = 5 then ldA (C4.1 4 0 4) 8 a1 (fun v21 => (rt v21 (C4, false))) else if a2 = 6 then ldA (C4.1 4 0 5) 8 a1 (fun v23 => (rt v23 (C4, false))) else if a2 = 7 then ldA (C4.1 3 y8 13) 8 a1 (fun v25 => (rt v25 (C4, false))) else if a2 = 8 then ldA (C4.1 3 y8 14) 8 a1 (fun v27 => (rt v27 (C4, false))) else if a2 = 9 then ldA (C4.1 4 0 6) 8 a1 (fun v29 => (rt v29 (C4, false))) else ldA (C4.1 4 0 7) 8 a1 (fun v30 => (rt v30 (C4, false))))) else (f_X10_owner_24 C4))))))
set_option maxRecDepth 8000 in
theorem t_X10_owner_24 {l : Launch} {G : GX} (hfl : l.stackTraces = false) {X : XM} {Q : Int32 → Mem → Prop} {QX : Mem → Prop} (C : CM) (h : SAT (f_X10_owner_24 C) (fun v c => if c.2 = true then QX (c.1, X) else Q v (c.1, X))) : AB l G rmX 0 0 mt_X10_owner (ZX G mt_X10_owner Q QX) 24 [] [] (C, X) := by
  unfold f_X10_owner_24 at h
  exact xC_thr hfl h rfl dX10_owner_24 dX10_owner_27 dX10_owner_28 dX10_owner_31 (Nat.le_of_ble_eq_true rfl)
set_option maxRecDepth 8000 in
theorem t_X10_owner_0 {l : Launch} {G : GX} (hfl : l.stackTraces = false) {X : XM} {Q : Int32 → Mem → Prop} {QX : Mem → Prop} (a1 : Int32) (a2 : Int32) (C : CM) (h : SAT (f_X10_owner a1 a2 C) (fun v c => if c.2 = true then QX (c.1, X) else Q v (c.1, X))) : AB l G rmX 0 0 mt_X10_owner (ZX G mt_X10_owner Q QX) 0 [(0, .ref (gA G 0 0 0)), (1, .int a1), (2, .int a2)] [] (C, X) := by
  unfold f_X10_owner at h
  refine ab_aloadn 0 dX10_owner_0 rfl ?_
  refine f_gr (x := 4) (k2 := 2) (i2 := 0) (j2 := 0) ⟨by decide, by decide⟩ rfl rfl (Nat.le_of_ble_eq_true rfl) wd_124 rfl rfl dX10_owner_1 ?_
  refine fC_gd (x := 1) ⟨by decide, by decide⟩ rfl rfl (Nat.le_of_ble_eq_true rfl) wd_125 rfl h rfl dX10_owner_4 (fun y1 hy2 h => ?_)
  refine ab_iloadn 1 dX10_owner_7 rfl ?_
  refine fC_Vi (mtc := mt_X0_isOwner) (As := [.int a1]) h (fun Q h => ct_X0_isOwner y1 hy2 a1 C h) ⟨hy2, by decide⟩ rfl rfl rfl mw_X0_isOwner wd_232 rfl rfl ⟨Nat.le_of_ble_eq_true rfl, Nat.le_of_ble_eq_true rfl⟩ ⟨Nat.zero_le _, Nat.zero_le _⟩ (Nat.le_of_ble_eq_true rfl) rfl dX10_owner_8 (fun v3 C4 h => ?_)
  refine ab_if_eq (tgt := 24) dX10_owner_11 (by decide) (fun hc5 => ?_) (fun hc5 => ?_)
  · have h := sat_t hc5 h
    refine ab_sub [] rfl ?_
    exact t_X10_owner_24 hfl C4 h
  · have h := sat_f hc5 h
    refine ab_iloadn 2 dX10_owner_14 rfl ?_
    refine ab_if_lt (tgt := 24) dX10_owner_15 (by decide) (fun hc6 => ?_) (fun hc6 => ?_)
    · have h := sat_t hc6 h
      refine ab_sub [] rfl ?_
      exact t_X10_owner_24 hfl C4 h
    · have h := sat_f hc6 h
      refine ab_iloadn 2 dX10_owner_18 rfl ?_
      refine ab_bipush (v := 10) dX10_owner_19 (by decide) ?_
      refine ab_icmp_le (tgt := 32) dX10_owner_21 (by decide) (fun hc7 => ?_) (fun hc7 => ?_)
      · have h := sat_t hc7 h
        refine ab_aloadn 0 dX10_owner_32 rfl ?_
        refine f_gr (x := 4) (k2 := 2) (i2 := 0) (j2 := 0) ⟨by decide, by decide⟩ rfl rfl (Nat.le_of_ble_eq_true rfl) wd_124 rfl rfl dX10_owner_33 ?_
        refine fC_gd (x := 1) ⟨by decide, by decide⟩ rfl rfl (Nat.le_of_ble_eq_true rfl) wd_125 rfl h rfl dX10_owner_36 (fun y8 hy9 h => ?_)
        refine f_gr (x := 10) (k2 := 3) (i2 := y8) (j2 := 6) ⟨hy9, by decide⟩ rfl rfl (Nat.le_of_ble_eq_true rfl) wd_202 rfl rfl dX10_owner_39 ?_
        refine ab_astoren (lv' := [(0, .ref (gA G 0 0 0)), (1, .int a1), (2, .int a2), (3, .ref (gA G 3 y8 6))]) dX10_owner_42 rfl (Nat.le_of_ble_eq_true rfl) rfl ?_
        refine ab_aloadn 0 dX10_owner_43 rfl ?_
        refine f_gr (x := 4) (k2 := 2) (i2 := 0) (j2 := 0) ⟨by decide, by decide⟩ rfl rfl (Nat.le_of_ble_eq_true rfl) wd_124 rfl rfl dX10_owner_44 ?_
        refine f_gr (x := 2) (k2 := 4) (i2 := 0) (j2 := 0) ⟨by decide, by decide⟩ rfl rfl (Nat.le_of_ble_eq_true rfl) wd_126 rfl rfl dX10_owner_47 ?_
        refine ab_astore (lv' := [(0, .ref (gA G 0 0 0)), (1, .int a1), (2, .int a2), (3, .ref (gA G 3 y8 6)), (4, .ref (gA G 4 0 0))]) dX10_owner_50 rfl (Nat.le_of_ble_eq_true rfl) rfl ?_
        refine ab_iloadn 2 dX10_owner_52 rfl ?_
        by_cases hc10 : a2 = 0
        · have h := sat_t hc10 h
          refine ab_tin (tgt := 108) (off := 55) hc10 (by decide) (by decide) (by decide) (by decide) dX10_owner_53 ?_
          refine ab_aloadn 3 dX10_owner_108 rfl ?_
          refine f_gr (x := 3) (k2 := 3) (i2 := y8) (j2 := 8) ⟨hy9, by decide⟩ rfl rfl (Nat.le_of_ble_eq_true rfl) wd_1215 rfl rfl dX10_owner_109 ?_
          refine ab_iloadn 1 dX10_owner_112 rfl ?_
          refine fC_iald ⟨hy9, by decide⟩ rfl (by decide) (fun _ => rfl) h dX10_owner_113 (fun v11 h => ?_)
          exact xC_ret h rfl rfl dX10_owner_114
        have h := sat_f hc10 h
        by_cases hc12 : a2 = 1
        · have h := sat_t hc12 h
          refine ab_tin (tgt := 115) (off := 62) hc12 (by decide) (by decide) (by decide) (by decide) dX10_owner_53 ?_
          refine ab_aload 4 dX10_owner_115 rfl ?_
          refine f_gr (x := 6) (k2 := 4) (i2 := 0) (j2 := 1) ⟨by decide, by decide⟩ rfl rfl (Nat.le_of_ble_eq_true rfl) wd_187 rfl rfl dX10_owner_117 ?_
          refine ab_iloadn 1 dX10_owner_120 rfl ?_
          refine fC_iald ⟨by decide, by decide⟩ rfl (by decide) (fun _ => rfl) h dX10_owner_121 (fun v13 h => ?_)
          exact xC_ret h rfl rfl dX10_owner_122
        have h := sat_f hc12 h
        by_cases hc14 : a2 = 2
        · have h := sat_t hc14 h
          refine ab_tin (tgt := 123) (off := 70) hc14 (by decide) (by decide) (by decide) (by decide) dX10_owner_53 ?_
          refine ab_aload 4 dX10_owner_123 rfl ?_
          refine f_gr (x := 7) (k2 := 4) (i2 := 0) (j2 := 2) ⟨by decide, by decide⟩ rfl rfl (Nat.le_of_ble_eq_true rfl) wd_190 rfl rfl dX10_owner_125 ?_
          refine ab_iloadn 1 dX10_owner_128 rfl ?_
          refine fC_iald ⟨by decide, by decide⟩ rfl (by decide) (fun _ => rfl) h dX10_owner_129 (fun v15 h => ?_)
          exact xC_ret h rfl rfl dX10_owner_130
        have h := sat_f hc14 h
        by_cases hc16 : a2 = 3
        · have h := sat_t hc16 h
          refine ab_tin (tgt := 131) (off := 78) hc16 (by decide) (by decide) (by decide) (by decide) dX10_owner_53 ?_
          refine ab_aloadn 3 dX10_owner_131 rfl ?_
          refine f_gr (x := 5) (k2 := 3) (i2 := y8) (j2 := 10) ⟨hy9, by decide⟩ rfl rfl (Nat.le_of_ble_eq_true rfl) wd_1216 rfl rfl dX10_owner_132 ?_
          refine ab_iloadn 1 dX10_owner_135 rfl ?_
          refine fC_iald ⟨hy9, by decide⟩ rfl (by decide) (fun _ => rfl) h dX10_owner_136 (fun v17 h => ?_)
          exact xC_ret h rfl rfl dX10_owner_137
        have h := sat_f hc16 h
        by_cases hc18 : a2 = 4
        · have h := sat_t hc18 h
          refine ab_tin (tgt := 138) (off := 85) hc18 (by decide) (by decide) (by decide) (by decide) dX10_owner_53 ?_
          refine ab_aload 4 dX10_owner_138 rfl ?_
          refine f_gr (x := 8) (k2 := 4) (i2 := 0) (j2 := 3) ⟨by decide, by decide⟩ rfl rfl (Nat.le_of_ble_eq_true rfl) wd_1217 rfl rfl dX10_owner_140 ?_
          refine ab_iloadn 1 dX10_owner_143 rfl ?_
          refine fC_iald ⟨by decide, by decide⟩ rfl (by decide) (fun _ => rfl) h dX10_owner_144 (fun v19 h => ?_)
          exact xC_ret h rfl rfl dX10_owner_145
        have h := sat_f hc18 h
        by_cases hc20 : a2 = 5
        · have h := sat_t hc20 h
          refine ab_tin (tgt := 146) (off := 93) hc20 (by decide) (by decide) (by decide) (by decide) dX10_owner_53 ?_
          refine ab_aload 4 dX10_owner_146 rfl ?_
          refine f_gr (x := 9) (k2 := 4) (i2 := 0) (j2 := 4) ⟨by decide, by decide⟩ rfl rfl (Nat.le_of_ble_eq_true rfl) wd_302 rfl rfl dX10_owner_148 ?_
          refine ab_iloadn 1 dX10_owner_151 rfl ?_
          refine fC_iald ⟨by decide, by decide⟩ rfl (by decide) (fun _ => rfl) h dX10_owner_152 (fun v21 h => ?_)
          exact xC_ret h rfl rfl dX10_owner_153
        have h := sat_f hc20 h
        by_cases hc22 : a2 = 6
        · have h := sat_t hc22 h
          refine ab_tin (tgt := 154) (off := 101) hc22 (by decide) (by decide) (by decide) (by decide) dX10_owner_53 ?_
          refine ab_aload 4 dX10_owner_154 rfl ?_
          refine f_gr (x := 10) (k2 := 4) (i2 := 0) (j2 := 5) ⟨by decide, by decide⟩ rfl rfl (Nat.le_of_ble_eq_true rfl) wd_1218 rfl rfl dX10_owner_156 ?_
          refine ab_iloadn 1 dX10_owner_159 rfl ?_
          refine fC_iald ⟨by decide, by decide⟩ rfl (by decide) (fun _ => rfl) h dX10_owner_160 (fun v23 h => ?_)
          exact xC_ret h rfl rfl dX10_owner_161
        have h := sat_f hc22 h
        by_cases hc24 : a2 = 7
        · have h := sat_t hc24 h
          refine ab_tin (tgt := 162) (off := 109) hc24 (by decide) (by decide) (by decide) (by decide) dX10_owner_53 ?_
          refine ab_aloadn 3 dX10_owner_162 rfl ?_
          refine f_gr (x := 8) (k2 := 3) (i2 := y8) (j2 := 13) ⟨hy9, by decide⟩ rfl rfl (Nat.le_of_ble_eq_true rfl) wd_1219 rfl rfl dX10_owner_163 ?_
          refine ab_iloadn 1 dX10_owner_166 rfl ?_
          refine fC_iald ⟨hy9, by decide⟩ rfl (by decide) (fun _ => rfl) h dX10_owner_167 (fun v25 h => ?_)
          exact xC_ret h rfl rfl dX10_owner_168
        have h := sat_f hc24 h
        by_cases hc26 : a2 = 8
        · have h := sat_t hc26 h
          refine ab_tin (tgt := 169) (off := 116) hc26 (by decide) (by decide) (by decide) (by decide) dX10_owner_53 ?_
          refine ab_aloadn 3 dX10_owner_169 rfl ?_
          refine f_gr (x := 9) (k2 := 3) (i2 := y8) (j2 := 14) ⟨hy9, by decide⟩ rfl rfl (Nat.le_of_ble_eq_true rfl) wd_278 rfl rfl dX10_owner_170 ?_
          refine ab_iloadn 1 dX10_owner_173 rfl ?_
          refine fC_iald ⟨hy9, by decide⟩ rfl (by decide) (fun _ => rfl) h dX10_owner_174 (fun v27 h => ?_)
          exact xC_ret h rfl rfl dX10_owner_175
        have h := sat_f hc26 h
        by_cases hc28 : a2 = 9
        · have h := sat_t hc28 h
          refine ab_tin (tgt := 176) (off := 123) hc28 (by decide) (by decide) (by decide) (by decide) dX10_owner_53 ?_
          refine ab_aload 4 dX10_owner_176 rfl ?_
          refine f_gr (x := 11) (k2 := 4) (i2 := 0) (j2 := 6) ⟨by decide, by decide⟩ rfl rfl (Nat.le_of_ble_eq_true rfl) wd_1220 rfl rfl dX10_owner_178 ?_
          refine ab_iloadn 1 dX10_owner_181 rfl ?_
          refine fC_iald ⟨by decide, by decide⟩ rfl (by decide) (fun _ => rfl) h dX10_owner_182 (fun v29 h => ?_)
          exact xC_ret h rfl rfl dX10_owner_183
        have h := sat_f hc28 h
        refine ab_tout (tgt := 184) (by have := ne_toI hc10 (show Int32.toInt 0 = 0 by decide); have := ne_toI hc12 (show Int32.toInt 1 = 1 by decide); have := ne_toI hc14 (show Int32.toInt 2 = 2 by decide); have := ne_toI hc16 (show Int32.toInt 3 = 3 by decide); have := ne_toI hc18 (show Int32.toInt 4 = 4 by decide); have := ne_toI hc20 (show Int32.toInt 5 = 5 by decide); have := ne_toI hc22 (show Int32.toInt 6 = 6 by decide); have := ne_toI hc24 (show Int32.toInt 7 = 7 by decide); have := ne_toI hc26 (show Int32.toInt 8 = 8 by decide); have := ne_toI hc28 (show Int32.toInt 9 = 9 by decide); omega) (by decide) dX10_owner_53 ?_
        refine ab_aload 4 dX10_owner_184 rfl ?_
        refine f_gr (x := 12) (k2 := 4) (i2 := 0) (j2 := 7) ⟨by decide, by decide⟩ rfl rfl (Nat.le_of_ble_eq_true rfl) wd_1221 rfl rfl dX10_owner_186 ?_
        refine ab_iloadn 1 dX10_owner_189 rfl ?_
        refine fC_iald ⟨by decide, by decide⟩ rfl (by decide) (fun _ => rfl) h dX10_owner_190 (fun v30 h => ?_)
        exact xC_ret h rfl rfl dX10_owner_191
      · have h := sat_f hc7 h
        refine ab_sub [] rfl ?_
        exact t_X10_owner_24 hfl C4 h
theorem ctx_X10_owner {l : Launch} {G : GX} (hfl : l.stackTraces = false) {X : XM} {Q : Int32 → Mem → Prop} {QX : Mem → Prop} (a1 a2 : Int32) (C : CM) (h : SAT (f_X10_owner a1 a2 C) (fun v c => if c.2 = true then QX (c.1, X) else Q v (c.1, X))) : CTX l G mt_X10_owner [.ref (gA G 0 0 0), .int a1, .int a2] (C, X) Q QX := ctx_of pn_X10 (Nat.le_of_ble_eq_true rfl) (t_X10_owner_0 hfl a1 a2 C h)
