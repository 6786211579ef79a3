def mt_J0_length : MT := (yJ0_length_8abf5, cJ0_length_8abf5, 1, (some .int))
theorem mw_J0_length : MWv mt_J0_length 0 := ⟨⟨(at_3 47 rfl rfl), (at_3 48 rfl rfl)⟩, (at_1 14 rfl rfl), (at_3 49 rfl rfl), by decide, by decide, by decide +kernel⟩
def mt_J0_charAt : MT := (yJ0_charAt_5068e, cJ0_charAt_5068e, 2, (some .char))
theorem mw_J0_charAt : MWv mt_J0_charAt 1 := ⟨⟨(at_3 57 rfl rfl), (at_3 58 rfl rfl)⟩, (at_1 14 rfl rfl), (at_3 59 rfl rfl), by decide, by decide, by decide +kernel⟩
def mt_J0_coder : MT := (yJ0_coder_7d493, cJ0_coder_7d493, 1, (some .byte))
theorem mw_J0_coder : MWv mt_J0_coder 0 := ⟨⟨(at_3 51 rfl rfl), (at_3 52 rfl rfl)⟩, (at_1 14 rfl rfl), (at_3 53 rfl rfl), by decide, by decide, by decide +kernel⟩
def mt_J0_isLatin1 : MT := (yJ0_isLatin1_aae02, cJ0_isLatin1_aae02, 1, (some .boolean))
theorem mw_J0_isLatin1 : MWv mt_J0_isLatin1 0 := ⟨⟨(at_3 61 rfl rfl), (at_3 62 rfl rfl)⟩, (at_1 14 rfl rfl), (at_3 63 rfl rfl), by decide, by decide, by decide +kernel⟩
def mt_J0_checkIndex : MT := (yJ0_checkIndex_df160, cJ0_checkIndex_df160, 2, none)
theorem mw_J0_checkIndex : MWs mt_J0_checkIndex 2 := ⟨(at_1 14 rfl rfl), (at_3 69 rfl rfl), by decide, by decide, by decide +kernel⟩
theorem ms_J0_checkIndex : Cond.static mt_J0_checkIndex.1 ∈ AT := (at_3 68 rfl rfl)
def mt_J1_charAt : MT := (yJ1_charAt_3b067, cJ1_charAt_3b067, 2, (some .char))
theorem mw_J1_charAt : MWs mt_J1_charAt 2 := ⟨(at_1 15 rfl rfl), (at_3 66 rfl rfl), by decide, by decide, by decide +kernel⟩
theorem ms_J1_charAt : Cond.static mt_J1_charAt.1 ∈ AT := (at_3 65 rfl rfl)
def mt_J3_checkIndex : MT := (yJ3_checkIndex_8e157, cJ3_checkIndex_8e157, 3, (some .int))
theorem mw_J3_checkIndex : MWs mt_J3_checkIndex 3 := ⟨(at_1 16 rfl rfl), (at_3 74 rfl rfl), by decide, by decide, by decide +kernel⟩
theorem ms_J3_checkIndex : Cond.static mt_J3_checkIndex.1 ∈ AT := (at_3 73 rfl rfl)
/-- the row of words, char by char -/
def byC (j : Nat) : Int32 := byW.getD j 0 &&& 255
section RULES
variable {l : Launch} {G : GX} {R : Room} {cs sl : Nat} {mt : MT} {Z : State → Array Value → List Frame → State → Prop} {pc : Nat} {lv : List (Nat × Value)} {st : List Value} {M : Mem}
theorem ab_i2c {x v : Int32} (hd : decode mt.2.1 pc = .ok (.i2c, 1)) (hv : (x.toUInt32 % 65536).toInt32 = v) (k : AB l G R cs sl mt Z (pc + 1) lv (.int v :: st) M) : AB l G R cs sl mt Z pc lv (.int x :: st) M :=
  fun p e s m args below meth c H locs ls C hH hS hl => lv_i2c C.1 C.2.1 hd hv (k p e s m args below meth c H locs ls C hH hS hl)
theorem ab_ldcS (hcls : mt.1.cls = "GaleBank$Text") (hd : decode mt.2.1 pc = .ok (.ldc 62, 2)) (k : AB l G R cs sl mt Z (pc + 2) lv (.ref (gF G 3) :: st) M) : AB l G R cs sl mt Z pc lv st M := by
  intro p e s m args below meth c H locs ls C hH hS hl
  obtain ⟨hx', hb, hret, hml, hlk, hown, hts, hK⟩ := id C
  rw [hcls] at hown
  exact va_ldcS hx' hb hown hK.2.2.2.2.2.2.2.2.1.1 hd (k p e s m args below meth c H locs ls C hH hS hl)
theorem ab_gsc (hcls : mt.1.cls = "java/lang/String") (hd : decode mt.2.1 pc = .ok (.getstatic 38, 3)) (k : AB l G R cs sl mt Z (pc + 3) lv (.int 1 :: st) M) : AB l G R cs sl mt Z pc lv st M := by
  intro p e s m args below meth c H locs ls C hH hS hl
  obtain ⟨hx', hb, hret, hml, hlk, hown, hts, hK⟩ := id C
  rw [hcls] at hown
  exact va_gets hx' hb hK.2.2.2.2.2.2.2.2.2.1.1 hS hown (hts _ (at_3 54 rfl rfl)) (fun _ h => h) hd (k p e s m args below meth c H locs ls C hH hS hl)
theorem ab_gso (hcls : mt.1.cls = "java/lang/String") (hd : decode mt.2.1 pc = .ok (.getstatic 1053, 3)) (k1 : AB l G R cs sl mt Z (pc + 3) lv (.null :: st) M) (k2 : ∀ t : Nat, AB l G R cs sl mt Z (pc + 3) lv (.ref t :: st) M) : AB l G R cs sl mt Z pc lv st M := by
  intro p e s m args below meth c H locs ls C hH hS hl
  obtain ⟨hx', hb, hret, hml, hlk, hown, hts, hK⟩ := id C
  rw [hcls] at hown
  rcases hK.2.2.2.2.2.2.2.2.2.1.2 with h | ⟨t, h⟩
  · exact va_gets hx' hb h hS hown (hts _ (at_3 70 rfl rfl)) (fun _ h => h) hd (k1 p e s m args below meth c H locs ls C hH hS hl)
  · exact va_gets hx' hb h hS hown (hts _ (at_3 70 rfl rfl)) (fun _ h => h) hd (k2 t p e s m args below meth c H locs ls C hH hS hl)
theorem ab_gcd (hcls : mt.1.cls = "java/lang/String") (hd : decode mt.2.1 pc = .ok (.getfield 15, 3)) (k : AB l G R cs sl mt Z (pc + 3) lv (.int 0 :: st) M) : AB l G R cs sl mt Z pc lv (.ref (gF G 3) :: st) M := by
  intro p e s m args below meth c H locs ls C hH hS hl
  obtain ⟨hx', hb, hret, hml, hlk, hown, hts, hK⟩ := id C
  rw [hcls] at hown
  exact vk_getf hx' hb (hK.2.2.2.2.2.2.2.2.1.2.1 0 (by decide)).2.1 hS hown (hts _ (at_8 165 rfl rfl)) (fun _ h => h) hd (k p e s m args below meth c H locs ls C hH hS hl)
theorem ab_gvl (hcls : mt.1.cls = "java/lang/String") (hd : decode mt.2.1 pc = .ok (.getfield 9, 3)) (k : AB l G R cs sl mt Z (pc + 3) lv (.ref (gF G 4) :: st) M) : AB l G R cs sl mt Z pc lv (.ref (gF G 3) :: st) M := by
  intro p e s m args below meth c H locs ls C hH hS hl
  obtain ⟨hx', hb, hret, hml, hlk, hown, hts, hK⟩ := id C
  rw [hcls] at hown
  exact vk_getf hx' hb (hK.2.2.2.2.2.2.2.2.1.2.1 0 (by decide)).2.2.1 hS hown (hts _ (at_8 164 rfl rfl)) (fun _ h => h) hd (k p e s m args below meth c H locs ls C hH hS hl)
theorem ab_sbl {v : Int32} (hv : Int32.ofNat lnW = v) (hd : decode mt.2.1 pc = .ok (.arraylength, 1)) (k : AB l G R cs sl mt Z (pc + 1) lv (.int v :: st) M) : AB l G R cs sl mt Z pc lv (.ref (gF G 4) :: st) M := by
  intro p e s m args below meth c H locs ls C hH hS hl
  obtain ⟨hx', hb, hret, hml, hlk, hown, hts, hK⟩ := id C
  exact va_tlen hx' hb (hK.2.2.2.2.2.2.2.2.1.2.1 0 (by decide)).2.2.2 hS hv hd (k p e s m args below meth c H locs ls C hH hS hl)
theorem ab_sbd {x : Int32} (hx : inB x lnW = true) (hd : decode mt.2.1 pc = .ok (.baload, 1)) (k : AB l G R cs sl mt Z (pc + 1) lv (.int (byW.getD x.toNatClampNeg 0) :: st) M) : AB l G R cs sl mt Z pc lv (.int x :: .ref (gF G 4) :: st) M := by
  intro p e s m args below meth c H locs ls C hH hS hl
  obtain ⟨hx', hb, hret, hml, hlk, hown, hts, hK⟩ := id C
  exact va_tb hx' hb (hK.2.2.2.2.2.2.2.2.1.2.1 0 (by decide)).2.2.2 hS (inB_in hx) rfl hd (k p e s m args below meth c H locs ls C hH hS hl)
theorem ab_callQ {mtc : MT} {d n index : Nat} {As st0 : List Value} {Q : Int32 → Mem → Prop} (hct : CT l G d mtc (.ref (gF G 3) :: As) M Q) (hcls : mtc.1.cls = "java/lang/String") (hm : MWv mtc n) (hlink : Cond.methodLink mt.1.cls index mtc.1 ∈ AT) (hn : As.length = n)
    (hR : d + 1 ≤ R.frames ∧ 8 + (mtc.2.2.1 + 11) + 60 * d ≤ R.locals) (hcs : cs ≤ R.cells ∧ sl ≤ R.slots) (hst : (st.map fun v => v.category).sum ≤ 8) (hs0 : st0 = As.reverse ++ .ref (gF G 3) :: st) (hd : decode mt.2.1 pc = .ok (.invokevirtual index, 3))
    (kk : ∀ (v : Int32) (M' : Mem), Q v M' → AB l G R cs sl mt Z (pc + 3) lv ((rv mtc v).toList ++ st) M') : AB l G R cs sl mt Z pc lv st0 M := by
  intro p e s m args below meth c H locs ls C hH hS hl
  obtain ⟨hx', hb, hret, hml, hlk, hown, hts, hK⟩ := id C
  obtain ⟨⟨hm1, hm2⟩, hm3, hm4, hm5, hm6, hm7⟩ := hm
  have hG : GoodIn AT (wsV mt.1.cls index mtc.1.cls mtc.1 (Cond.code mtc.1 mtc.2.1 mtc.2.2.1 mtc.2.2.2 :: AT)) := good_all (by
    intro w hw
    simp only [wsV, List.cons_append, List.nil_append, List.mem_cons] at hw
    rcases hw with h | h | h | h | h | h
    · rw [h]; exact hlink
    · rw [h]; exact hm1
    · rw [h]; exact hm2
    · rw [h]; exact hm3
    · rw [h]; exact hm4
    · exact h)
  refine run_go (mtc := mtc) (Q := Q) (rest := st) (va_runV (As := As) (rest := st) (b := gF G 3) (C := mtc.1.cls) ⟨hx', hb, hml, hown, hts⟩ hct (cwV n hts hG rfl rfl rfl ⟨rfl, hm5, hm6, hm7⟩ hR) ⟨ct_blind, by rw [hcls]; exact vk_recv (i := 0) hK.2.2.2.2.2.2.2.2.1.2 (by decide) hS, fun U hU hW => ⟨rfl, by rw [hU]; exact hH, hK.at hS hU hW⟩⟩ rfl hn hl.1 hs0 (lv_room hst) hd hcs) hS ?_
  intro v M' H1 locs1 hq hM hS1
  exact kk v M' hq p e s m args below meth c H1 locs1 ls C hM hS1 hl
theorem ct_coder {Q : Int32 → Mem → Prop} (hq : Q 0 M) : CT l G 1 mt_J0_coder [.ref (gF G 3)] M Q := by
  refine ct_of pn_J0 (Nat.le_of_ble_eq_true rfl) ?_
  show AB l G (rmD 1) 0 0 mt_J0_coder (ZQ G mt_J0_coder Q) 0 [(0, .ref (gF G 3))] [] M
  refine ab_gsc rfl dJ0_coder_0 ?_
  refine ab_if_eq (tgt := 13) dJ0_coder_3 (by decide) (fun h => absurd h (by decide)) (fun _ => ?_)
  refine ab_aloadn 0 dJ0_coder_6 rfl ?_
  refine ab_gcd rfl dJ0_coder_7 ?_
  refine ab_goto (tgt := 14) dJ0_coder_10 (by decide) ?_
  exact ab_iret (ty := .byte) hq rfl rfl dJ0_coder_14
theorem ct_isLatin1 {Q : Int32 → Mem → Prop} (hq : Q 1 M) : CT l G 1 mt_J0_isLatin1 [.ref (gF G 3)] M Q := by
  refine ct_of pn_J0 (Nat.le_of_ble_eq_true rfl) ?_
  show AB l G (rmD 1) 0 0 mt_J0_isLatin1 (ZQ G mt_J0_isLatin1 Q) 0 [(0, .ref (gF G 3))] [] M
  refine ab_gsc rfl dJ0_isLatin1_0 ?_
  refine ab_if_eq (tgt := 17) dJ0_isLatin1_3 (by decide) (fun h => absurd h (by decide)) (fun _ => ?_)
  refine ab_aloadn 0 dJ0_isLatin1_6 rfl ?_
  refine ab_gcd rfl dJ0_isLatin1_7 ?_
  refine ab_if_ne (tgt := 17) dJ0_isLatin1_10 (by decide) (fun h => absurd rfl h) (fun _ => ?_)
  refine ab_iconst (v := 1) dJ0_isLatin1_13 (by decide) ?_
  refine ab_goto (tgt := 18) dJ0_isLatin1_14 (by decide) ?_
  exact ab_iret (ty := .boolean) hq rfl rfl dJ0_isLatin1_18
theorem ct_strlen {Q : Int32 → Mem → Prop} (hq : Q 119 M) : CT l G 2 mt_J0_length [.ref (gF G 3)] M Q := by
  refine ct_of pn_J0 (Nat.le_of_ble_eq_true rfl) ?_
  show AB l G (rmD 2) 0 0 mt_J0_length (ZQ G mt_J0_length Q) 0 [(0, .ref (gF G 3))] [] M
  refine ab_aloadn 0 dJ0_length_0 rfl ?_
  refine ab_gvl rfl dJ0_length_1 ?_
  refine ab_sbl (v := 119) (by decide) dJ0_length_4 ?_
  refine ab_aloadn 0 dJ0_length_5 rfl ?_
  refine ab_callQ (mtc := mt_J0_coder) (As := []) (st := [.int 119]) (Q := fun v M' => v = 0 ∧ M' = M) (ct_coder ⟨rfl, rfl⟩) rfl mw_J0_coder (at_3 50 rfl rfl) rfl ⟨Nat.le_of_ble_eq_true rfl, Nat.le_of_ble_eq_true rfl⟩ ⟨Nat.zero_le _, Nat.zero_le _⟩ (Nat.le_of_ble_eq_true rfl) rfl dJ0_length_6 ?_
  rintro v M' ⟨rfl, rfl⟩
  show AB l G (rmD 2) 0 0 mt_J0_length (ZQ G mt_J0_length Q) 9 [(0, .ref (gF G 3))] [.int 0, .int 119] M'
  refine ab_ishr dJ0_length_9 ?_
  exact ab_iret (ty := .int) (by rw [show (119 : Int32) >>> ((0 : Int32) &&& 31) = 119 by decide]; exact hq) rfl rfl dJ0_length_10
theorem ct_pci {x n : Int32} {w : Value} {Q : Int32 → Mem → Prop} (hw : w = .null ∨ ∃ t, w = .ref t) (h1 : ¬ x < 0) (h2 : x < n) (hq : Q x M) : CT l G 1 mt_J3_checkIndex [.int x, .int n, w] M Q := by
  have key : ∀ w : Value, AB l G (rmD 1) 0 0 mt_J3_checkIndex (ZQ G mt_J3_checkIndex Q) 0 [(0, .int x), (1, .int n), (2, w)] [] M := by
    intro w
    refine ab_iloadn 0 dJ3_checkIndex_0 rfl ?_
    refine ab_if_lt (tgt := 9) dJ3_checkIndex_1 (by decide) (fun h => absurd h h1) (fun _ => ?_)
    refine ab_iloadn 0 dJ3_checkIndex_4 rfl ?_
    refine ab_iloadn 1 dJ3_checkIndex_5 rfl ?_
    refine ab_icmp_lt (tgt := 16) dJ3_checkIndex_6 (by decide) (fun _ => ?_) (fun h => absurd h2 h)
    refine ab_iloadn 0 dJ3_checkIndex_16 rfl ?_
    exact ab_iret (ty := .int) hq rfl rfl dJ3_checkIndex_17
  rcases hw with rfl | ⟨t, rfl⟩
  · exact ct_of pn_J3 (Nat.le_of_ble_eq_true rfl) (key _)
  · exact ct_of pn_J3 (Nat.le_of_ble_eq_true rfl) (key _)
theorem ct_sci {x n : Int32} {Q : Int32 → Mem → Prop} (h1 : ¬ x < 0) (h2 : x < n) (hq : Q 0 M) : CT l G 2 mt_J0_checkIndex [.int x, .int n] M Q := by
  refine ct_of pn_J0 (Nat.le_of_ble_eq_true rfl) ?_
  show AB l G (rmD 2) 0 0 mt_J0_checkIndex (ZQ G mt_J0_checkIndex Q) 0 [(0, .int x), (1, .int n)] [] M
  refine ab_iloadn 0 dJ0_checkIndex_0 rfl ?_
  refine ab_iloadn 1 dJ0_checkIndex_1 rfl ?_
  refine ab_gso rfl dJ0_checkIndex_2 ?_ (fun t => ?_)
  · refine ab_callS (mtc := mt_J3_checkIndex) (As := [.int x, .int n, .null]) (st := []) (Q := fun v M' => v = x ∧ M' = M) (ct_pci (Or.inl rfl) h1 h2 ⟨rfl, rfl⟩) mw_J3_checkIndex ms_J3_checkIndex (at_3 72 rfl rfl) rfl ⟨Nat.le_of_ble_eq_true rfl, Nat.le_of_ble_eq_true rfl⟩ ⟨Nat.zero_le _, Nat.zero_le _⟩ (Nat.le_of_ble_eq_true rfl) rfl dJ0_checkIndex_5 ?_
    rintro v M' ⟨rfl, rfl⟩
    show AB l G (rmD 2) 0 0 mt_J0_checkIndex (ZQ G mt_J0_checkIndex Q) 8 [(0, .int v), (1, .int n)] [.int v] M'
    refine ab_pop dJ0_checkIndex_8 rfl ?_
    exact ab_vret hq rfl dJ0_checkIndex_9
  · refine ab_callS (mtc := mt_J3_checkIndex) (As := [.int x, .int n, .ref t]) (st := []) (Q := fun v M' => v = x ∧ M' = M) (ct_pci (Or.inr ⟨t, rfl⟩) h1 h2 ⟨rfl, rfl⟩) mw_J3_checkIndex ms_J3_checkIndex (at_3 72 rfl rfl) rfl ⟨Nat.le_of_ble_eq_true rfl, Nat.le_of_ble_eq_true rfl⟩ ⟨Nat.zero_le _, Nat.zero_le _⟩ (Nat.le_of_ble_eq_true rfl) rfl dJ0_checkIndex_5 ?_
    rintro v M' ⟨rfl, rfl⟩
    show AB l G (rmD 2) 0 0 mt_J0_checkIndex (ZQ G mt_J0_checkIndex Q) 8 [(0, .int v), (1, .int n)] [.int v] M'
    refine ab_pop dJ0_checkIndex_8 rfl ?_
    exact ab_vret hq rfl dJ0_checkIndex_9
theorem inB_pos {x : Int32} {n : Nat} (h : inB x n = true) : ¬ x < 0 := by
  simp only [inB, Bool.and_eq_true, Bool.not_eq_true', decide_eq_false_iff_not] at h
  exact h.1
theorem inB_ltI {x v : Int32} {n : Nat} (h : inB x n = true) (hn : n < 2 ^ 31) (hv : Int32.ofNat n = v) : x < v := by
  obtain ⟨j, hj, rfl⟩ := nI_of (inB_pos h)
  have h2 := inB_lt h
  rw [nI_clamp hj] at h2
  rw [← hv]
  exact nI_lt h2 hn
theorem ct_l1c {x : Int32} {Q : Int32 → Mem → Prop} (hx : inB x lnW = true) (hq : Q (byC x.toNatClampNeg) M) : CT l G 3 mt_J1_charAt [.ref (gF G 4), .int x] M Q := by
  refine ct_of pn_J1 (Nat.le_of_ble_eq_true rfl) ?_
  show AB l G (rmD 3) 0 0 mt_J1_charAt (ZQ G mt_J1_charAt Q) 0 [(0, .ref (gF G 4)), (1, .int x)] [] M
  refine ab_iloadn 1 dJ1_charAt_0 rfl ?_
  refine ab_aloadn 0 dJ1_charAt_1 rfl ?_
  refine ab_sbl (v := 119) (by decide) dJ1_charAt_2 ?_
  refine ab_callS (mtc := mt_J0_checkIndex) (As := [.int x, .int 119]) (st := []) (Q := fun v M' => v = 0 ∧ M' = M) (ct_sci (inB_pos hx) (inB_ltI hx (by decide) (by decide)) ⟨rfl, rfl⟩) mw_J0_checkIndex ms_J0_checkIndex (at_3 67 rfl rfl) rfl ⟨Nat.le_of_ble_eq_true rfl, Nat.le_of_ble_eq_true rfl⟩ ⟨Nat.zero_le _, Nat.zero_le _⟩ (Nat.le_of_ble_eq_true rfl) rfl dJ1_charAt_3 ?_
  rintro v M' ⟨rfl, rfl⟩
  show AB l G (rmD 3) 0 0 mt_J1_charAt (ZQ G mt_J1_charAt Q) 6 [(0, .ref (gF G 4)), (1, .int x)] [] M'
  refine ab_aloadn 0 dJ1_charAt_6 rfl ?_
  refine ab_iloadn 1 dJ1_charAt_7 rfl ?_
  refine ab_sbd hx dJ1_charAt_8 ?_
  refine ab_sipush (v := 255) dJ1_charAt_9 (by decide) ?_
  refine ab_iand dJ1_charAt_12 ?_
  refine ab_i2c (v := byC x.toNatClampNeg) dJ1_charAt_13 (sc_c2 _) ?_
  exact ab_iret (ty := .char) hq rfl (sc_nar _) dJ1_charAt_14
theorem ct_charAt {x : Int32} {Q : Int32 → Mem → Prop} (hx : inB x lnW = true) (hq : Q (byC x.toNatClampNeg) M) : CT l G 4 mt_J0_charAt [.ref (gF G 3), .int x] M Q := by
  refine ct_of pn_J0 (Nat.le_of_ble_eq_true rfl) ?_
  show AB l G (rmD 4) 0 0 mt_J0_charAt (ZQ G mt_J0_charAt Q) 0 [(0, .ref (gF G 3)), (1, .int x)] [] M
  refine ab_aloadn 0 dJ0_charAt_0 rfl ?_
  refine ab_callQ (mtc := mt_J0_isLatin1) (As := []) (st := []) (Q := fun v M' => v = 1 ∧ M' = M) (ct_isLatin1 ⟨rfl, rfl⟩) rfl mw_J0_isLatin1 (at_3 60 rfl rfl) rfl ⟨Nat.le_of_ble_eq_true rfl, Nat.le_of_ble_eq_true rfl⟩ ⟨Nat.zero_le _, Nat.zero_le _⟩ (Nat.le_of_ble_eq_true rfl) rfl dJ0_charAt_1 ?_
  rintro v M' ⟨rfl, rfl⟩
  show AB l G (rmD 4) 0 0 mt_J0_charAt (ZQ G mt_J0_charAt Q) 4 [(0, .ref (gF G 3)), (1, .int x)] [.int 1] M'
  refine ab_if_eq (tgt := 16) dJ0_charAt_4 (by decide) (fun h => absurd h (by decide)) (fun _ => ?_)
  refine ab_aloadn 0 dJ0_charAt_7 rfl ?_
  refine ab_gvl rfl dJ0_charAt_8 ?_
  refine ab_iloadn 1 dJ0_charAt_11 rfl ?_
  refine ab_callS (mtc := mt_J1_charAt) (As := [.ref (gF G 4), .int x]) (st := []) (Q := fun v M'' => v = byC x.toNatClampNeg ∧ M'' = M') (ct_l1c hx ⟨rfl, rfl⟩) mw_J1_charAt ms_J1_charAt (at_3 64 rfl rfl) rfl ⟨Nat.le_of_ble_eq_true rfl, Nat.le_of_ble_eq_true rfl⟩ ⟨Nat.zero_le _, Nat.zero_le _⟩ (Nat.le_of_ble_eq_true rfl) rfl dJ0_charAt_12 ?_
  rintro v M' ⟨rfl, rfl⟩
  show AB l G (rmD 4) 0 0 mt_J0_charAt (ZQ G mt_J0_charAt Q) 15 [(0, .ref (gF G 3)), (1, .int x)] [.int (byC x.toNatClampNeg)] M'
  exact ab_iret (ty := .char) hq rfl (sc_nar _) dJ0_charAt_15
theorem f_slen (hlink : Cond.methodLink mt.1.cls 64 mt_J0_length.1 ∈ AT) (hR : 3 ≤ R.frames ∧ 140 ≤ R.locals) (hcs : cs ≤ R.cells ∧ sl ≤ R.slots) (hst : (st.map fun v => v.category).sum ≤ 8) (hd : decode mt.2.1 pc = .ok (.invokevirtual 64, 3)) (kk : AB l G R cs sl mt Z (pc + 3) lv (.int 119 :: st) M) : AB l G R cs sl mt Z pc lv (.ref (gF G 3) :: st) M := by
  refine ab_callQ (mtc := mt_J0_length) (As := []) (Q := fun v M' => v = 119 ∧ M' = M) (ct_strlen ⟨rfl, rfl⟩) rfl mw_J0_length hlink rfl ⟨hR.1, Nat.le_trans (Nat.le_of_ble_eq_true rfl) hR.2⟩ hcs hst rfl hd ?_
  rintro v M' ⟨rfl, rfl⟩
  exact kk
theorem f_schr {β : Type} {K : Int32 → β → Prop} {x : Int32} {f : Int32 → Option (Int32 × β)} (h : SAT (ldA byC lnW x f) K) (hlink : Cond.methodLink mt.1.cls 70 mt_J0_charAt.1 ∈ AT) (hR : 5 ≤ R.frames ∧ 270 ≤ R.locals) (hcs : cs ≤ R.cells ∧ sl ≤ R.slots) (hst : (st.map fun v => v.category).sum ≤ 8) (hd : decode mt.2.1 pc = .ok (.invokevirtual 70, 3)) (kk : ∀ v : Int32, SAT (f v) K → AB l G R cs sl mt Z (pc + 3) lv (.int v :: st) M) : AB l G R cs sl mt Z pc lv (.int x :: .ref (gF G 3) :: st) M := by
  refine ab_callQ (mtc := mt_J0_charAt) (As := [.int x]) (Q := fun v M' => v = byC x.toNatClampNeg ∧ M' = M) (ct_charAt (sat_ldA h).1 ⟨rfl, rfl⟩) rfl mw_J0_charAt hlink rfl ⟨hR.1, Nat.le_trans (Nat.le_of_ble_eq_true rfl) hR.2⟩ hcs hst rfl hd ?_
  rintro v M' ⟨rfl, rfl⟩
  exact kk _ (sat_ldA h).2
end RULES
