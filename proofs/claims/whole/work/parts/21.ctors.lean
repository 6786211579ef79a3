theorem wo_oi : Cond.code Lib.objectInit ⟨#[0xb1]⟩ 1 none ∈ AT := at_1 31 (by decide +kernel) rfl
theorem we_0 : Cond.code ⟨"GaleBank$Text", "<init>", "()V"⟩ prog_9_method_1_code 1 none ∈ AT := at_1 36 rfl rfl
theorem we_1 : Cond.methodLink "GaleBank$Text" 3 ⟨"java/lang/Object", "<init>", "()V"⟩ ∈ AT := at_1 37 rfl rfl
theorem we_2 : Cond.instanceMethod ⟨"java/lang/Object", "<init>", "()V"⟩ ∈ AT := at_1 30 rfl rfl
theorem we_3 : Cond.arrayClass .int ∈ AT := at_1 63 rfl rfl
theorem we_4 : Cond.code ⟨"GaleBank$Owners", "<init>", "()V"⟩ prog_3_method_1_code 1 none ∈ AT := at_1 80 rfl rfl
theorem we_5 : Cond.methodLink "GaleBank$Owners" 3 ⟨"java/lang/Object", "<init>", "()V"⟩ ∈ AT := at_1 81 rfl rfl
theorem we_6 : Cond.code ⟨"GaleBank$Bank", "<init>", "()V"⟩ prog_2_method_1_code 1 none ∈ AT := at_1 74 rfl rfl
theorem we_7 : Cond.methodLink "GaleBank$Bank" 3 ⟨"java/lang/Object", "<init>", "()V"⟩ ∈ AT := at_1 75 rfl rfl
theorem we_8 : Cond.classLink "GaleBank$Bank" 43 "GaleBank$Owners" ∈ AT := at_1 76 rfl rfl
theorem we_9 : Cond.instantiable "GaleBank$Owners" 11 ∈ AT := at_1 77 rfl rfl
theorem we_10 : Cond.instanceMethod ⟨"GaleBank$Owners", "<init>", "()V"⟩ ∈ AT := at_1 79 rfl rfl
theorem we_11 : Cond.code ⟨"GaleBank$State", "<init>", "()V"⟩ prog_8_method_1_code 1 none ∈ AT := at_1 217 rfl rfl
theorem we_12 : Cond.methodLink "GaleBank$State" 3 ⟨"java/lang/Object", "<init>", "()V"⟩ ∈ AT := at_1 218 rfl rfl
theorem we_13 : Cond.code ⟨"GaleBank$Plan", "<init>", "()V"⟩ prog_5_method_1_code 1 none ∈ AT := at_2 57 rfl rfl
theorem we_14 : Cond.methodLink "GaleBank$Plan" 3 ⟨"java/lang/Object", "<init>", "()V"⟩ ∈ AT := at_2 58 rfl rfl
theorem we_15 : Cond.code ⟨"GaleBank$Sentence", "<init>", "()V"⟩ prog_7_method_1_code 1 none ∈ AT := at_2 77 rfl rfl
theorem we_16 : Cond.methodLink "GaleBank$Sentence" 3 ⟨"java/lang/Object", "<init>", "()V"⟩ ∈ AT := at_2 78 rfl rfl
theorem we_17 : Cond.code ⟨"GaleBank$Whole", "<init>", "()V"⟩ prog_10_method_1_code 1 none ∈ AT := at_1 68 rfl rfl
theorem we_18 : Cond.methodLink "GaleBank$Whole" 1 ⟨"java/lang/Object", "<init>", "()V"⟩ ∈ AT := at_1 69 rfl rfl
theorem we_19 : Cond.fieldLink "GaleBank$Whole" 7 "GaleBank$Whole" "kept" "Z" ∈ AT := at_2 99 rfl rfl
theorem we_20 : Cond.classLink "GaleBank$Whole" 13 "GaleBank$Bank" ∈ AT := at_1 70 rfl rfl
theorem we_21 : Cond.instantiable "GaleBank$Bank" 16 ∈ AT := at_1 71 rfl rfl
theorem we_22 : Cond.instanceMethod ⟨"GaleBank$Bank", "<init>", "()V"⟩ ∈ AT := at_1 73 rfl rfl
theorem we_23 : Cond.classLink "GaleBank$Whole" 20 "GaleBank$State" ∈ AT := at_1 213 rfl rfl
theorem we_24 : Cond.instantiable "GaleBank$State" 14 ∈ AT := at_1 214 rfl rfl
theorem we_25 : Cond.instanceMethod ⟨"GaleBank$State", "<init>", "()V"⟩ ∈ AT := at_1 216 rfl rfl
theorem we_26 : Cond.classLink "GaleBank$Whole" 27 "GaleBank$Plan" ∈ AT := at_2 53 rfl rfl
theorem we_27 : Cond.instantiable "GaleBank$Plan" 4 ∈ AT := at_2 54 rfl rfl
theorem we_28 : Cond.instanceMethod ⟨"GaleBank$Plan", "<init>", "()V"⟩ ∈ AT := at_2 56 rfl rfl
theorem we_29 : Cond.classLink "GaleBank$Whole" 34 "GaleBank$Sentence" ∈ AT := at_2 73 rfl rfl
theorem we_30 : Cond.instantiable "GaleBank$Sentence" 6 ∈ AT := at_2 74 rfl rfl
theorem we_31 : Cond.instanceMethod ⟨"GaleBank$Sentence", "<init>", "()V"⟩ ∈ AT := at_2 76 rfl rfl
theorem we_32 : Cond.code ⟨"GaleBank$Past", "<init>", "()V"⟩ prog_4_method_1_code 2 none ∈ AT := at_2 131 rfl rfl
theorem we_33 : Cond.methodLink "GaleBank$Past" 3 ⟨"java/lang/Object", "<init>", "()V"⟩ ∈ AT := at_2 132 rfl rfl
theorem we_34 : Cond.classLink "GaleBank$Past" 9 "GaleBank$State" ∈ AT := at_2 133 rfl rfl
theorem we_35 : Cond.code ⟨"GaleBank$Wind", "<init>", "()V"⟩ prog_11_method_1_code 1 none ∈ AT := at_2 151 rfl rfl
theorem we_36 : Cond.methodLink "GaleBank$Wind" 3 ⟨"java/lang/Object", "<init>", "()V"⟩ ∈ AT := at_2 152 rfl rfl
theorem we_37 : Cond.code ⟨"GaleBank$Plots", "<init>", "()V"⟩ prog_6_method_1_code 1 none ∈ AT := at_2 170 rfl rfl
theorem we_38 : Cond.methodLink "GaleBank$Plots" 3 ⟨"java/lang/Object", "<init>", "()V"⟩ ∈ AT := at_2 171 rfl rfl
theorem we_39 : Cond.code ⟨"GaleBank", "<init>", "()V"⟩ prog_1_method_1_code 2 none ∈ AT := at_1 28 rfl rfl
theorem we_40 : Cond.methodLink "GaleBank" 3 ⟨"java/lang/Object", "<init>", "()V"⟩ ∈ AT := at_1 29 rfl rfl
theorem we_41 : Cond.arrayClass .byte ∈ AT := at_1 62 rfl rfl
theorem we_42 : Cond.classLink "GaleBank" 17 "GaleBank$Text" ∈ AT := at_1 32 rfl rfl
theorem we_43 : Cond.instantiable "GaleBank$Text" 7 ∈ AT := at_1 33 rfl rfl
theorem we_44 : Cond.instanceMethod ⟨"GaleBank$Text", "<init>", "()V"⟩ ∈ AT := at_1 35 rfl rfl
theorem we_45 : Cond.classLink "GaleBank" 27 "GaleBank$Whole" ∈ AT := at_1 64 rfl rfl
theorem we_46 : Cond.instantiable "GaleBank$Whole" 5 ∈ AT := at_1 65 rfl rfl
theorem we_47 : Cond.instanceMethod ⟨"GaleBank$Whole", "<init>", "()V"⟩ ∈ AT := at_1 67 rfl rfl
theorem we_48 : Cond.classLink "GaleBank" 38 "GaleBank$Bank" ∈ AT := at_2 121 rfl rfl
theorem we_49 : Cond.classLink "GaleBank" 45 "GaleBank$Plan" ∈ AT := at_2 123 rfl rfl
theorem we_50 : Cond.classLink "GaleBank" 52 "GaleBank$Sentence" ∈ AT := at_2 125 rfl rfl
theorem we_51 : Cond.classLink "GaleBank" 59 "GaleBank$Past" ∈ AT := at_2 127 rfl rfl
theorem we_52 : Cond.instantiable "GaleBank$Past" 3 ∈ AT := at_2 128 rfl rfl
theorem we_53 : Cond.methodLink "GaleBank" 61 ⟨"GaleBank$Past", "<init>", "()V"⟩ ∈ AT := at_2 129 rfl rfl
theorem we_54 : Cond.instanceMethod ⟨"GaleBank$Past", "<init>", "()V"⟩ ∈ AT := at_2 130 rfl rfl
theorem we_55 : Cond.classLink "GaleBank" 66 "GaleBank$Wind" ∈ AT := at_2 147 rfl rfl
theorem we_56 : Cond.instantiable "GaleBank$Wind" 4 ∈ AT := at_2 148 rfl rfl
theorem we_57 : Cond.instanceMethod ⟨"GaleBank$Wind", "<init>", "()V"⟩ ∈ AT := at_2 150 rfl rfl
theorem we_58 : Cond.classLink "GaleBank" 73 "GaleBank$Plots" ∈ AT := at_2 166 rfl rfl
theorem we_59 : Cond.instantiable "GaleBank$Plots" 4 ∈ AT := at_2 167 rfl rfl
theorem we_60 : Cond.instanceMethod ⟨"GaleBank$Plots", "<init>", "()V"⟩ ∈ AT := at_2 169 rfl rfl
theorem we_61 : Cond.classLink "GaleBank" 80 "GaleBank$State" ∈ AT := at_2 188 rfl rfl
theorem we_62 : Cond.code ⟨"GaleBankModel", "<init>", "()V"⟩ prog_13_method_10_code 1 none ∈ AT := at_6 27 rfl rfl
theorem we_63 : Cond.methodLink "GaleBankModel" 27 ⟨"java/lang/Object", "<init>", "()V"⟩ ∈ AT := at_6 28 rfl rfl
theorem we_64 : Cond.arrayClass .long ∈ AT := at_6 216 rfl rfl
theorem we_65 : Cond.arrayClass .boolean ∈ AT := at_6 217 rfl rfl
def mt_X7_init : MT := (yX7_init, cX7_init, 1, none)
theorem mw_X7_init : MWs mt_X7_init 0 := ⟨wd_500, we_0, by decide, by decide, by decide +kernel⟩
def mt_X1_init : MT := (yX1_init, cX1_init, 1, none)
theorem mw_X1_init : MWs mt_X1_init 0 := ⟨wd_568, we_4, by decide, by decide, by decide +kernel⟩
def mt_X0_init : MT := (yX0_init, cX0_init, 1, none)
theorem mw_X0_init : MWs mt_X0_init 0 := ⟨wd_572, we_6, by decide, by decide, by decide +kernel⟩
def mt_X6_init : MT := (yX6_init, cX6_init, 1, none)
theorem mw_X6_init : MWs mt_X6_init 0 := ⟨wd_640, we_11, by decide, by decide, by decide +kernel⟩
def mt_X3_init : MT := (yX3_init, cX3_init, 1, none)
theorem mw_X3_init : MWs mt_X3_init 0 := ⟨wd_651, we_13, by decide, by decide, by decide +kernel⟩
def mt_X5_init : MT := (yX5_init, cX5_init, 1, none)
theorem mw_X5_init : MWs mt_X5_init 0 := ⟨wd_516, we_15, by decide, by decide, by decide +kernel⟩
def mt_X8_init : MT := (yX8_init, cX8_init, 1, none)
theorem mw_X8_init : MWs mt_X8_init 0 := ⟨wd_893, we_17, by decide, by decide, by decide +kernel⟩
def mt_X2_init : MT := (yX2_init, cX2_init, 2, none)
theorem mw_X2_init : MWs mt_X2_init 0 := ⟨wd_644, we_32, by decide, by decide, by decide +kernel⟩
def mt_X9_init : MT := (yX9_init, cX9_init, 1, none)
theorem mw_X9_init : MWs mt_X9_init 0 := ⟨wd_698, we_35, by decide, by decide, by decide +kernel⟩
def mt_X4_init : MT := (yX4_init, cX4_init, 1, none)
theorem mw_X4_init : MWs mt_X4_init 0 := ⟨wd_805, we_37, by decide, by decide, by decide +kernel⟩
def mt_X10_init : MT := (yX10_init, cX10_init, 2, none)
theorem mw_X10_init : MWs mt_X10_init 0 := ⟨wd_542, we_39, by decide, by decide, by decide +kernel⟩
def mt_X11_init : MT := (yX11_init, cX11_init, 1, none)
theorem mw_X11_init : MWs mt_X11_init 0 := ⟨wd_903, we_62, by decide, by decide, by decide +kernel⟩
def f_X7_init (t0 : Nat) (D : List CD) : Option (Int32 × List CD) := dna D 0 941 (fun D2 q1 => dpf D2 t0 7 0 (.inr (.inr (some q1))) (fun D3 => dna D3 0 941 (fun D5 q4 => dpf D5 t0 7 1 (.inr (.inr (some q4))) (fun D6 => dna D6 0 941 (fun D8 q7 => dpf D8 t0 7 2 (.inr (.inr (some q7))) (fun D9 => dpf D9 t0 7 3 (.inl 0) (fun D10 => dpf D10 t0 7 4 (.inl 0) (fun D11 => dpf D11 t0 7 5 (.inl 0) (fun D12 => dpf D12 t0 7 6 (.inl 0) (fun D13 => (rt 0 D13)))))))))))
set_option maxRecDepth 8000 in
theorem ct_X7_init {l : Launch} {G : GX} {Q : List CD → Prop} (t0 : Nat) (D : List CD) (h : SAT (f_X7_init t0 D) (fun _ c => Q c)) : CTD l G 1 3 2823 mt_X7_init [.ref (gS G + t0)] D Q := by
  refine ctd_of pn_X7 (Nat.le_of_ble_eq_true rfl) ?_
  show AD l G (rmE 1 3 2823) 0 0 mt_X7_init (ZD G Q 3 2823) 0 [(0, .ref (gS G + t0))] [] D
  unfold f_X7_init at h
  refine ad_aloadn 0 dX7_init_0 rfl ?_
  refine ad_oi we_1 we_2 wo_oi ⟨(Nat.le_of_ble_eq_true rfl), (Nat.le_of_ble_eq_true rfl)⟩ dX7_init_1 ?_
  refine ad_aloadn 0 dX7_init_4 rfl ?_
  refine ad_sipush (v := 941) dX7_init_5 (by decide) ?_
  refine ad_newa (atype := .int) (t := 0) (len := 941) h (by decide) rfl we_3 (by decide) (by decide) (Nat.le_of_ble_eq_true rfl) (Nat.le_of_ble_eq_true rfl) (Nat.le_of_ble_eq_true rfl) dX7_init_8 (fun D2 q1 h => ?_)
  refine ad_pf (ci := 7) (x := 0) (v := (.inr (.inr (some q1)))) (ty := (.array .int)) h rfl (Nat.le_of_ble_eq_true rfl) wd_2 rfl (by decide +kernel) rfl rfl rfl rfl dX7_init_10 (fun D3 h => ?_)
  refine ad_aloadn 0 dX7_init_13 rfl ?_
  refine ad_sipush (v := 941) dX7_init_14 (by decide) ?_
  refine ad_newa (atype := .int) (t := 0) (len := 941) h (by decide) rfl we_3 (by decide) (by decide) (Nat.le_of_ble_eq_true rfl) (Nat.le_of_ble_eq_true rfl) (Nat.le_of_ble_eq_true rfl) dX7_init_17 (fun D5 q4 h => ?_)
  refine ad_pf (ci := 7) (x := 1) (v := (.inr (.inr (some q4)))) (ty := (.array .int)) h rfl (Nat.le_of_ble_eq_true rfl) wd_3 rfl (by decide +kernel) rfl rfl rfl rfl dX7_init_19 (fun D6 h => ?_)
  refine ad_aloadn 0 dX7_init_22 rfl ?_
  refine ad_sipush (v := 941) dX7_init_23 (by decide) ?_
  refine ad_newa (atype := .int) (t := 0) (len := 941) h (by decide) rfl we_3 (by decide) (by decide) (Nat.le_of_ble_eq_true rfl) (Nat.le_of_ble_eq_true rfl) (Nat.le_of_ble_eq_true rfl) dX7_init_26 (fun D8 q7 h => ?_)
  refine ad_pf (ci := 7) (x := 2) (v := (.inr (.inr (some q7)))) (ty := (.array .int)) h rfl (Nat.le_of_ble_eq_true rfl) wd_7 rfl (by decide +kernel) rfl rfl rfl rfl dX7_init_28 (fun D9 h => ?_)
  refine ad_aloadn 0 dX7_init_31 rfl ?_
  refine ad_iconst (v := 0) dX7_init_32 (by decide) ?_
  refine ad_pf (ci := 7) (x := 3) (v := (.inl 0)) (ty := .int) h rfl (Nat.le_of_ble_eq_true rfl) wd_1 rfl (by decide +kernel) rfl rfl rfl rfl dX7_init_33 (fun D10 h => ?_)
  refine ad_aloadn 0 dX7_init_36 rfl ?_
  refine ad_iconst (v := 0) dX7_init_37 (by decide) ?_
  refine ad_pf (ci := 7) (x := 4) (v := (.inl 0)) (ty := .int) h rfl (Nat.le_of_ble_eq_true rfl) wd_0 rfl (by decide +kernel) rfl rfl rfl rfl dX7_init_38 (fun D11 h => ?_)
  refine ad_aloadn 0 dX7_init_41 rfl ?_
  refine ad_iconst (v := 0) dX7_init_42 (by decide) ?_
  refine ad_pf (ci := 7) (x := 5) (v := (.inl 0)) (ty := .int) h rfl (Nat.le_of_ble_eq_true rfl) wd_6 rfl (by decide +kernel) rfl rfl rfl rfl dX7_init_43 (fun D12 h => ?_)
  refine ad_aloadn 0 dX7_init_46 rfl ?_
  refine ad_iconst (v := 0) dX7_init_47 (by decide) ?_
  refine ad_pf (ci := 7) (x := 6) (v := (.inl 0)) (ty := .int) h rfl (Nat.le_of_ble_eq_true rfl) wd_8 rfl (by decide +kernel) rfl rfl rfl rfl dX7_init_48 (fun D13 h => ?_)
  exact ad_ret h (Nat.le_of_ble_eq_true rfl) (Nat.le_of_ble_eq_true rfl) rfl dX7_init_51
def f_X1_init (t0 : Nat) (D : List CD) : Option (Int32 × List CD) := dpf D t0 1 0 (.inl 0) (fun D1 => dpf D1 t0 1 1 (.inl 0) (fun D2 => dna D2 0 8 (fun D4 q3 => dpf D4 t0 1 2 (.inr (.inr (some q3))) (fun D5 => dna D5 0 8 (fun D7 q6 => dpf D7 t0 1 3 (.inr (.inr (some q6))) (fun D8 => dna D8 0 8 (fun D10 q9 => dpf D10 t0 1 4 (.inr (.inr (some q9))) (fun D11 => dna D11 0 8 (fun D13 q12 => dpf D13 t0 1 5 (.inr (.inr (some q12))) (fun D14 => dna D14 0 8 (fun D16 q15 => dpf D16 t0 1 6 (.inr (.inr (some q15))) (fun D17 => dna D17 0 8 (fun D19 q18 => dpf D19 t0 1 7 (.inr (.inr (some q18))) (fun D20 => dna D20 0 8 (fun D22 q21 => dpf D22 t0 1 8 (.inr (.inr (some q21))) (fun D23 => dna D23 0 8 (fun D25 q24 => dpf D25 t0 1 9 (.inr (.inr (some q24))) (fun D26 => dna D26 0 8 (fun D28 q27 => dpf D28 t0 1 10 (.inr (.inr (some q27))) (fun D29 => (rt 0 D29)))))))))))))))))))))
set_option maxRecDepth 8000 in
theorem ct_X1_init {l : Launch} {G : GX} {Q : List CD → Prop} (t0 : Nat) (D : List CD) (h : SAT (f_X1_init t0 D) (fun _ c => Q c)) : CTD l G 1 9 72 mt_X1_init [.ref (gS G + t0)] D Q := by
  refine ctd_of pn_X1 (Nat.le_of_ble_eq_true rfl) ?_
  show AD l G (rmE 1 9 72) 0 0 mt_X1_init (ZD G Q 9 72) 0 [(0, .ref (gS G + t0))] [] D
  unfold f_X1_init at h
  refine ad_aloadn 0 dX1_init_0 rfl ?_
  refine ad_oi we_5 we_2 wo_oi ⟨(Nat.le_of_ble_eq_true rfl), (Nat.le_of_ble_eq_true rfl)⟩ dX1_init_1 ?_
  refine ad_aloadn 0 dX1_init_4 rfl ?_
  refine ad_iconst (v := 0) dX1_init_5 (by decide) ?_
  refine ad_pf (ci := 1) (x := 0) (v := (.inl 0)) (ty := .int) h rfl (Nat.le_of_ble_eq_true rfl) wd_63 rfl (by decide +kernel) rfl rfl rfl rfl dX1_init_6 (fun D1 h => ?_)
  refine ad_aloadn 0 dX1_init_9 rfl ?_
  refine ad_iconst (v := 0) dX1_init_10 (by decide) ?_
  refine ad_pf (ci := 1) (x := 1) (v := (.inl 0)) (ty := .int) h rfl (Nat.le_of_ble_eq_true rfl) wd_64 rfl (by decide +kernel) rfl rfl rfl rfl dX1_init_11 (fun D2 h => ?_)
  refine ad_aloadn 0 dX1_init_14 rfl ?_
  refine ad_bipush (v := 8) dX1_init_15 (by decide) ?_
  refine ad_newa (atype := .int) (t := 0) (len := 8) h (by decide) rfl we_3 (by decide) (by decide) (Nat.le_of_ble_eq_true rfl) (Nat.le_of_ble_eq_true rfl) (Nat.le_of_ble_eq_true rfl) dX1_init_17 (fun D4 q3 h => ?_)
  refine ad_pf (ci := 1) (x := 2) (v := (.inr (.inr (some q3)))) (ty := (.array .int)) h rfl (Nat.le_of_ble_eq_true rfl) wd_84 rfl (by decide +kernel) rfl rfl rfl rfl dX1_init_19 (fun D5 h => ?_)
  refine ad_aloadn 0 dX1_init_22 rfl ?_
  refine ad_bipush (v := 8) dX1_init_23 (by decide) ?_
  refine ad_newa (atype := .int) (t := 0) (len := 8) h (by decide) rfl we_3 (by decide) (by decide) (Nat.le_of_ble_eq_true rfl) (Nat.le_of_ble_eq_true rfl) (Nat.le_of_ble_eq_true rfl) dX1_init_25 (fun D7 q6 h => ?_)
  refine ad_pf (ci := 1) (x := 3) (v := (.inr (.inr (some q6)))) (ty := (.array .int)) h rfl (Nat.le_of_ble_eq_true rfl) wd_330 rfl (by decide +kernel) rfl rfl rfl rfl dX1_init_27 (fun D8 h => ?_)
  refine ad_aloadn 0 dX1_init_30 rfl ?_
  refine ad_bipush (v := 8) dX1_init_31 (by decide) ?_
  refine ad_newa (atype := .int) (t := 0) (len := 8) h (by decide) rfl we_3 (by decide) (by decide) (Nat.le_of_ble_eq_true rfl) (Nat.le_of_ble_eq_true rfl) (Nat.le_of_ble_eq_true rfl) dX1_init_33 (fun D10 q9 h => ?_)
  refine ad_pf (ci := 1) (x := 4) (v := (.inr (.inr (some q9)))) (ty := (.array .int)) h rfl (Nat.le_of_ble_eq_true rfl) wd_65 rfl (by decide +kernel) rfl rfl rfl rfl dX1_init_35 (fun D11 h => ?_)
  refine ad_aloadn 0 dX1_init_38 rfl ?_
  refine ad_bipush (v := 8) dX1_init_39 (by decide) ?_
  refine ad_newa (atype := .int) (t := 0) (len := 8) h (by decide) rfl we_3 (by decide) (by decide) (Nat.le_of_ble_eq_true rfl) (Nat.le_of_ble_eq_true rfl) (Nat.le_of_ble_eq_true rfl) dX1_init_41 (fun D13 q12 h => ?_)
  refine ad_pf (ci := 1) (x := 5) (v := (.inr (.inr (some q12)))) (ty := (.array .int)) h rfl (Nat.le_of_ble_eq_true rfl) wd_119 rfl (by decide +kernel) rfl rfl rfl rfl dX1_init_43 (fun D14 h => ?_)
  refine ad_aloadn 0 dX1_init_46 rfl ?_
  refine ad_bipush (v := 8) dX1_init_47 (by decide) ?_
  refine ad_newa (atype := .int) (t := 0) (len := 8) h (by decide) rfl we_3 (by decide) (by decide) (Nat.le_of_ble_eq_true rfl) (Nat.le_of_ble_eq_true rfl) (Nat.le_of_ble_eq_true rfl) dX1_init_49 (fun D16 q15 h => ?_)
  refine ad_pf (ci := 1) (x := 6) (v := (.inr (.inr (some q15)))) (ty := (.array .int)) h rfl (Nat.le_of_ble_eq_true rfl) wd_66 rfl (by decide +kernel) rfl rfl rfl rfl dX1_init_51 (fun D17 h => ?_)
  refine ad_aloadn 0 dX1_init_54 rfl ?_
  refine ad_bipush (v := 8) dX1_init_55 (by decide) ?_
  refine ad_newa (atype := .int) (t := 0) (len := 8) h (by decide) rfl we_3 (by decide) (by decide) (Nat.le_of_ble_eq_true rfl) (Nat.le_of_ble_eq_true rfl) (Nat.le_of_ble_eq_true rfl) dX1_init_57 (fun D19 q18 h => ?_)
  refine ad_pf (ci := 1) (x := 7) (v := (.inr (.inr (some q18)))) (ty := (.array .int)) h rfl (Nat.le_of_ble_eq_true rfl) wd_67 rfl (by decide +kernel) rfl rfl rfl rfl dX1_init_59 (fun D20 h => ?_)
  refine ad_aloadn 0 dX1_init_62 rfl ?_
  refine ad_bipush (v := 8) dX1_init_63 (by decide) ?_
  refine ad_newa (atype := .int) (t := 0) (len := 8) h (by decide) rfl we_3 (by decide) (by decide) (Nat.le_of_ble_eq_true rfl) (Nat.le_of_ble_eq_true rfl) (Nat.le_of_ble_eq_true rfl) dX1_init_65 (fun D22 q21 h => ?_)
  refine ad_pf (ci := 1) (x := 8) (v := (.inr (.inr (some q21)))) (ty := (.array .int)) h rfl (Nat.le_of_ble_eq_true rfl) wd_68 rfl (by decide +kernel) rfl rfl rfl rfl dX1_init_67 (fun D23 h => ?_)
  refine ad_aloadn 0 dX1_init_70 rfl ?_
  refine ad_bipush (v := 8) dX1_init_71 (by decide) ?_
  refine ad_newa (atype := .int) (t := 0) (len := 8) h (by decide) rfl we_3 (by decide) (by decide) (Nat.le_of_ble_eq_true rfl) (Nat.le_of_ble_eq_true rfl) (Nat.le_of_ble_eq_true rfl) dX1_init_73 (fun D25 q24 h => ?_)
  refine ad_pf (ci := 1) (x := 9) (v := (.inr (.inr (some q24)))) (ty := (.array .int)) h rfl (Nat.le_of_ble_eq_true rfl) wd_69 rfl (by decide +kernel) rfl rfl rfl rfl dX1_init_75 (fun D26 h => ?_)
  refine ad_aloadn 0 dX1_init_78 rfl ?_
  refine ad_bipush (v := 8) dX1_init_79 (by decide) ?_
  refine ad_newa (atype := .int) (t := 0) (len := 8) h (by decide) rfl we_3 (by decide) (by decide) (Nat.le_of_ble_eq_true rfl) (Nat.le_of_ble_eq_true rfl) (Nat.le_of_ble_eq_true rfl) dX1_init_81 (fun D28 q27 h => ?_)
  refine ad_pf (ci := 1) (x := 10) (v := (.inr (.inr (some q27)))) (ty := (.array .int)) h rfl (Nat.le_of_ble_eq_true rfl) wd_118 rfl (by decide +kernel) rfl rfl rfl rfl dX1_init_83 (fun D29 h => ?_)
  exact ad_ret h (Nat.le_of_ble_eq_true rfl) (Nat.le_of_ble_eq_true rfl) rfl dX1_init_86
def f_X0_init (t0 : Nat) (D : List CD) : Option (Int32 × List CD) := dpf D t0 0 0 (.inl 0) (fun D1 => dpf D1 t0 0 1 (.inl 0) (fun D2 => dpf D2 t0 0 2 (.inl 0) (fun D3 => dpf D3 t0 0 3 (.inl 0) (fun D4 => dpf D4 t0 0 4 (.inl 0) (fun D5 => dpf D5 t0 0 5 (.inl 0) (fun D6 => dpf D6 t0 0 6 (.inl 0) (fun D7 => dpf D7 t0 0 7 (.inl 0) (fun D8 => dpf D8 t0 0 8 (.inl 0) (fun D9 => dpf D9 t0 0 9 (.inl 0) (fun D10 => dnw D10 1 (fun D12 q11 => dcal (f_X1_init q11 D12) (fun D13 => dpf D13 t0 0 10 (.inr (.inr (some q11))) (fun D14 => dna D14 0 100 (fun D16 q15 => dpf D16 t0 0 11 (.inr (.inr (some q15))) (fun D17 => dna D17 0 100 (fun D19 q18 => dpf D19 t0 0 12 (.inr (.inr (some q18))) (fun D20 => dna D20 0 12 (fun D22 q21 => dpf D22 t0 0 13 (.inr (.inr (some q21))) (fun D23 => dna D23 0 48 (fun D25 q24 => dpf D25 t0 0 14 (.inr (.inr (some q24))) (fun D26 => dna D26 0 48 (fun D28 q27 => dpf D28 t0 0 15 (.inr (.inr (some q27))) (fun D29 => (rt 0 D29))))))))))))))))))))))))
set_option maxRecDepth 8000 in
theorem ct_X0_init {l : Launch} {G : GX} {Q : List CD → Prop} (t0 : Nat) (D : List CD) (h : SAT (f_X0_init t0 D) (fun _ c => Q c)) : CTD l G 2 15 391 mt_X0_init [.ref (gS G + t0)] D Q := by
  refine ctd_of pn_X0 (Nat.le_of_ble_eq_true rfl) ?_
  show AD l G (rmE 2 15 391) 0 0 mt_X0_init (ZD G Q 15 391) 0 [(0, .ref (gS G + t0))] [] D
  unfold f_X0_init at h
  refine ad_aloadn 0 dX0_init_0 rfl ?_
  refine ad_oi we_7 we_2 wo_oi ⟨(Nat.le_of_ble_eq_true rfl), (Nat.le_of_ble_eq_true rfl)⟩ dX0_init_1 ?_
  refine ad_aloadn 0 dX0_init_4 rfl ?_
  refine ad_iconst (v := 0) dX0_init_5 (by decide) ?_
  refine ad_pf (ci := 0) (x := 0) (v := (.inl 0)) (ty := .int) h rfl (Nat.le_of_ble_eq_true rfl) wd_52 rfl (by decide +kernel) rfl rfl rfl rfl dX0_init_6 (fun D1 h => ?_)
  refine ad_aloadn 0 dX0_init_9 rfl ?_
  refine ad_iconst (v := 0) dX0_init_10 (by decide) ?_
  refine ad_pf (ci := 0) (x := 1) (v := (.inl 0)) (ty := .int) h rfl (Nat.le_of_ble_eq_true rfl) wd_53 rfl (by decide +kernel) rfl rfl rfl rfl dX0_init_11 (fun D2 h => ?_)
  refine ad_aloadn 0 dX0_init_14 rfl ?_
  refine ad_iconst (v := 0) dX0_init_15 (by decide) ?_
  refine ad_pf (ci := 0) (x := 2) (v := (.inl 0)) (ty := .int) h rfl (Nat.le_of_ble_eq_true rfl) wd_54 rfl (by decide +kernel) rfl rfl rfl rfl dX0_init_16 (fun D3 h => ?_)
  refine ad_aloadn 0 dX0_init_19 rfl ?_
  refine ad_iconst (v := 0) dX0_init_20 (by decide) ?_
  refine ad_pf (ci := 0) (x := 3) (v := (.inl 0)) (ty := .int) h rfl (Nat.le_of_ble_eq_true rfl) wd_55 rfl (by decide +kernel) rfl rfl rfl rfl dX0_init_21 (fun D4 h => ?_)
  refine ad_aloadn 0 dX0_init_24 rfl ?_
  refine ad_iconst (v := 0) dX0_init_25 (by decide) ?_
  refine ad_pf (ci := 0) (x := 4) (v := (.inl 0)) (ty := .int) h rfl (Nat.le_of_ble_eq_true rfl) wd_56 rfl (by decide +kernel) rfl rfl rfl rfl dX0_init_26 (fun D5 h => ?_)
  refine ad_aloadn 0 dX0_init_29 rfl ?_
  refine ad_iconst (v := 0) dX0_init_30 (by decide) ?_
  refine ad_pf (ci := 0) (x := 5) (v := (.inl 0)) (ty := .int) h rfl (Nat.le_of_ble_eq_true rfl) wd_57 rfl (by decide +kernel) rfl rfl rfl rfl dX0_init_31 (fun D6 h => ?_)
  refine ad_aloadn 0 dX0_init_34 rfl ?_
  refine ad_iconst (v := 0) dX0_init_35 (by decide) ?_
  refine ad_pf (ci := 0) (x := 6) (v := (.inl 0)) (ty := .int) h rfl (Nat.le_of_ble_eq_true rfl) wd_58 rfl (by decide +kernel) rfl rfl rfl rfl dX0_init_36 (fun D7 h => ?_)
  refine ad_aloadn 0 dX0_init_39 rfl ?_
  refine ad_iconst (v := 0) dX0_init_40 (by decide) ?_
  refine ad_pf (ci := 0) (x := 7) (v := (.inl 0)) (ty := .boolean) h rfl (Nat.le_of_ble_eq_true rfl) wd_59 rfl (by decide +kernel) rfl rfl rfl rfl dX0_init_41 (fun D8 h => ?_)
  refine ad_aloadn 0 dX0_init_44 rfl ?_
  refine ad_iconst (v := 0) dX0_init_45 (by decide) ?_
  refine ad_pf (ci := 0) (x := 8) (v := (.inl 0)) (ty := .int) h rfl (Nat.le_of_ble_eq_true rfl) wd_60 rfl (by decide +kernel) rfl rfl rfl rfl dX0_init_46 (fun D9 h => ?_)
  refine ad_aloadn 0 dX0_init_49 rfl ?_
  refine ad_iconst (v := 0) dX0_init_50 (by decide) ?_
  refine ad_pf (ci := 0) (x := 9) (v := (.inl 0)) (ty := .int) h rfl (Nat.le_of_ble_eq_true rfl) wd_61 rfl (by decide +kernel) rfl rfl rfl rfl dX0_init_51 (fun D10 h => ?_)
  refine ad_aloadn 0 dX0_init_54 rfl ?_
  refine ad_new (ci := 1) h rfl tyX1_ok (by decide +kernel) rfl we_8 we_9 wd_568 (Nat.le_of_ble_eq_true rfl) (Nat.le_of_ble_eq_true rfl) dX0_init_55 (fun D12 q11 h => ?_)
  refine ad_dup dX0_init_58 rfl ?_
  refine ad_init (mtc := mt_X1_init) h (fun Q h => ct_X1_init q11 D12 h) mw_X1_init we_10 rfl rfl (Or.inl (List.mem_of_getElem? (i := 3) rfl)) ⟨(Nat.le_of_ble_eq_true rfl), (Nat.le_of_ble_eq_true rfl)⟩ (Nat.le_of_ble_eq_true rfl) (Nat.le_of_ble_eq_true rfl) (Nat.le_of_ble_eq_true rfl) dX0_init_59 (fun D13 h => ?_)
  refine ad_pf (ci := 0) (x := 10) (v := (.inr (.inr (some q11)))) (ty := .object "GaleBank$Owners") h rfl (Nat.le_of_ble_eq_true rfl) wd_62 rfl (by decide +kernel) rfl rfl rfl rfl dX0_init_62 (fun D14 h => ?_)
  refine ad_aloadn 0 dX0_init_65 rfl ?_
  refine ad_bipush (v := 100) dX0_init_66 (by decide) ?_
  refine ad_newa (atype := .int) (t := 0) (len := 100) h (by decide) rfl we_3 (by decide) (by decide) (Nat.le_of_ble_eq_true rfl) (Nat.le_of_ble_eq_true rfl) (Nat.le_of_ble_eq_true rfl) dX0_init_68 (fun D16 q15 h => ?_)
  refine ad_pf (ci := 0) (x := 11) (v := (.inr (.inr (some q15)))) (ty := (.array .int)) h rfl (Nat.le_of_ble_eq_true rfl) wd_71 rfl (by decide +kernel) rfl rfl rfl rfl dX0_init_70 (fun D17 h => ?_)
  refine ad_aloadn 0 dX0_init_73 rfl ?_
  refine ad_bipush (v := 100) dX0_init_74 (by decide) ?_
  refine ad_newa (atype := .int) (t := 0) (len := 100) h (by decide) rfl we_3 (by decide) (by decide) (Nat.le_of_ble_eq_true rfl) (Nat.le_of_ble_eq_true rfl) (Nat.le_of_ble_eq_true rfl) dX0_init_76 (fun D19 q18 h => ?_)
  refine ad_pf (ci := 0) (x := 12) (v := (.inr (.inr (some q18)))) (ty := (.array .int)) h rfl (Nat.le_of_ble_eq_true rfl) wd_72 rfl (by decide +kernel) rfl rfl rfl rfl dX0_init_78 (fun D20 h => ?_)
  refine ad_aloadn 0 dX0_init_81 rfl ?_
  refine ad_bipush (v := 12) dX0_init_82 (by decide) ?_
  refine ad_newa (atype := .int) (t := 0) (len := 12) h (by decide) rfl we_3 (by decide) (by decide) (Nat.le_of_ble_eq_true rfl) (Nat.le_of_ble_eq_true rfl) (Nat.le_of_ble_eq_true rfl) dX0_init_84 (fun D22 q21 h => ?_)
  refine ad_pf (ci := 0) (x := 13) (v := (.inr (.inr (some q21)))) (ty := (.array .int)) h rfl (Nat.le_of_ble_eq_true rfl) wd_104 rfl (by decide +kernel) rfl rfl rfl rfl dX0_init_86 (fun D23 h => ?_)
  refine ad_aloadn 0 dX0_init_89 rfl ?_
  refine ad_bipush (v := 48) dX0_init_90 (by decide) ?_
  refine ad_newa (atype := .int) (t := 0) (len := 48) h (by decide) rfl we_3 (by decide) (by decide) (Nat.le_of_ble_eq_true rfl) (Nat.le_of_ble_eq_true rfl) (Nat.le_of_ble_eq_true rfl) dX0_init_92 (fun D25 q24 h => ?_)
  refine ad_pf (ci := 0) (x := 14) (v := (.inr (.inr (some q24)))) (ty := (.array .int)) h rfl (Nat.le_of_ble_eq_true rfl) wd_108 rfl (by decide +kernel) rfl rfl rfl rfl dX0_init_94 (fun D26 h => ?_)
  refine ad_aloadn 0 dX0_init_97 rfl ?_
  refine ad_bipush (v := 48) dX0_init_98 (by decide) ?_
  refine ad_newa (atype := .int) (t := 0) (len := 48) h (by decide) rfl we_3 (by decide) (by decide) (Nat.le_of_ble_eq_true rfl) (Nat.le_of_ble_eq_true rfl) (Nat.le_of_ble_eq_true rfl) dX0_init_100 (fun D28 q27 h => ?_)
  refine ad_pf (ci := 0) (x := 15) (v := (.inr (.inr (some q27)))) (ty := (.array .int)) h rfl (Nat.le_of_ble_eq_true rfl) wd_73 rfl (by decide +kernel) rfl rfl rfl rfl dX0_init_102 (fun D29 h => ?_)
  exact ad_ret h (Nat.le_of_ble_eq_true rfl) (Nat.le_of_ble_eq_true rfl) rfl dX0_init_105
def f_X6_init (t0 : Nat) (D : List CD) : Option (Int32 × List CD) := dpf D t0 6 0 (.inl 0) (fun D1 => dpf D1 t0 6 1 (.inl 0) (fun D2 => dpf D2 t0 6 2 (.inl 0) (fun D3 => dpf D3 t0 6 3 (.inl 0) (fun D4 => dpf D4 t0 6 4 (.inl (-1)) (fun D5 => dpf D5 t0 6 5 (.inl 0) (fun D6 => dna D6 0 8 (fun D8 q7 => dpf D8 t0 6 6 (.inr (.inr (some q7))) (fun D9 => dna D9 0 8 (fun D11 q10 => dpf D11 t0 6 7 (.inr (.inr (some q10))) (fun D12 => dna D12 0 8 (fun D14 q13 => dpf D14 t0 6 8 (.inr (.inr (some q13))) (fun D15 => dna D15 0 8 (fun D17 q16 => dpf D17 t0 6 9 (.inr (.inr (some q16))) (fun D18 => dna D18 0 8 (fun D20 q19 => dpf D20 t0 6 10 (.inr (.inr (some q19))) (fun D21 => dna D21 0 8 (fun D23 q22 => dpf D23 t0 6 11 (.inr (.inr (some q22))) (fun D24 => dna D24 0 8 (fun D26 q25 => dpf D26 t0 6 12 (.inr (.inr (some q25))) (fun D27 => dna D27 0 100 (fun D29 q28 => dpf D29 t0 6 13 (.inr (.inr (some q28))) (fun D30 => (rt 0 D30)))))))))))))))))))))))
set_option maxRecDepth 8000 in
theorem ct_X6_init {l : Launch} {G : GX} {Q : List CD → Prop} (t0 : Nat) (D : List CD) (h : SAT (f_X6_init t0 D) (fun _ c => Q c)) : CTD l G 1 8 156 mt_X6_init [.ref (gS G + t0)] D Q := by
  refine ctd_of pn_X6 (Nat.le_of_ble_eq_true rfl) ?_
  show AD l G (rmE 1 8 156) 0 0 mt_X6_init (ZD G Q 8 156) 0 [(0, .ref (gS G + t0))] [] D
  unfold f_X6_init at h
  refine ad_aloadn 0 dX6_init_0 rfl ?_
  refine ad_oi we_12 we_2 wo_oi ⟨(Nat.le_of_ble_eq_true rfl), (Nat.le_of_ble_eq_true rfl)⟩ dX6_init_1 ?_
  refine ad_aloadn 0 dX6_init_4 rfl ?_
  refine ad_iconst (v := 0) dX6_init_5 (by decide) ?_
  refine ad_pf (ci := 6) (x := 0) (v := (.inl 0)) (ty := .int) h rfl (Nat.le_of_ble_eq_true rfl) wd_127 rfl (by decide +kernel) rfl rfl rfl rfl dX6_init_6 (fun D1 h => ?_)
  refine ad_aloadn 0 dX6_init_9 rfl ?_
  refine ad_iconst (v := 0) dX6_init_10 (by decide) ?_
  refine ad_pf (ci := 6) (x := 1) (v := (.inl 0)) (ty := .int) h rfl (Nat.le_of_ble_eq_true rfl) wd_128 rfl (by decide +kernel) rfl rfl rfl rfl dX6_init_11 (fun D2 h => ?_)
  refine ad_aloadn 0 dX6_init_14 rfl ?_
  refine ad_iconst (v := 0) dX6_init_15 (by decide) ?_
  refine ad_pf (ci := 6) (x := 2) (v := (.inl 0)) (ty := .int) h rfl (Nat.le_of_ble_eq_true rfl) wd_130 rfl (by decide +kernel) rfl rfl rfl rfl dX6_init_16 (fun D3 h => ?_)
  refine ad_aloadn 0 dX6_init_19 rfl ?_
  refine ad_iconst (v := 0) dX6_init_20 (by decide) ?_
  refine ad_pf (ci := 6) (x := 3) (v := (.inl 0)) (ty := .int) h rfl (Nat.le_of_ble_eq_true rfl) wd_132 rfl (by decide +kernel) rfl rfl rfl rfl dX6_init_21 (fun D4 h => ?_)
  refine ad_aloadn 0 dX6_init_24 rfl ?_
  refine ad_iconst (v := (-1)) dX6_init_25 (by decide) ?_
  refine ad_pf (ci := 6) (x := 4) (v := (.inl (-1))) (ty := .int) h rfl (Nat.le_of_ble_eq_true rfl) wd_133 rfl (by decide +kernel) rfl rfl rfl rfl dX6_init_26 (fun D5 h => ?_)
  refine ad_aloadn 0 dX6_init_29 rfl ?_
  refine ad_iconst (v := 0) dX6_init_30 (by decide) ?_
  refine ad_pf (ci := 6) (x := 5) (v := (.inl 0)) (ty := .int) h rfl (Nat.le_of_ble_eq_true rfl) wd_134 rfl (by decide +kernel) rfl rfl rfl rfl dX6_init_31 (fun D6 h => ?_)
  refine ad_aloadn 0 dX6_init_34 rfl ?_
  refine ad_bipush (v := 8) dX6_init_35 (by decide) ?_
  refine ad_newa (atype := .int) (t := 0) (len := 8) h (by decide) rfl we_3 (by decide) (by decide) (Nat.le_of_ble_eq_true rfl) (Nat.le_of_ble_eq_true rfl) (Nat.le_of_ble_eq_true rfl) dX6_init_37 (fun D8 q7 h => ?_)
  refine ad_pf (ci := 6) (x := 6) (v := (.inr (.inr (some q7)))) (ty := (.array .int)) h rfl (Nat.le_of_ble_eq_true rfl) wd_141 rfl (by decide +kernel) rfl rfl rfl rfl dX6_init_39 (fun D9 h => ?_)
  refine ad_aloadn 0 dX6_init_42 rfl ?_
  refine ad_bipush (v := 8) dX6_init_43 (by decide) ?_
  refine ad_newa (atype := .int) (t := 0) (len := 8) h (by decide) rfl we_3 (by decide) (by decide) (Nat.le_of_ble_eq_true rfl) (Nat.le_of_ble_eq_true rfl) (Nat.le_of_ble_eq_true rfl) dX6_init_45 (fun D11 q10 h => ?_)
  refine ad_pf (ci := 6) (x := 7) (v := (.inr (.inr (some q10)))) (ty := (.array .int)) h rfl (Nat.le_of_ble_eq_true rfl) wd_144 rfl (by decide +kernel) rfl rfl rfl rfl dX6_init_47 (fun D12 h => ?_)
  refine ad_aloadn 0 dX6_init_50 rfl ?_
  refine ad_bipush (v := 8) dX6_init_51 (by decide) ?_
  refine ad_newa (atype := .int) (t := 0) (len := 8) h (by decide) rfl we_3 (by decide) (by decide) (Nat.le_of_ble_eq_true rfl) (Nat.le_of_ble_eq_true rfl) (Nat.le_of_ble_eq_true rfl) dX6_init_53 (fun D14 q13 h => ?_)
  refine ad_pf (ci := 6) (x := 8) (v := (.inr (.inr (some q13)))) (ty := (.array .int)) h rfl (Nat.le_of_ble_eq_true rfl) wd_145 rfl (by decide +kernel) rfl rfl rfl rfl dX6_init_55 (fun D15 h => ?_)
  refine ad_aloadn 0 dX6_init_58 rfl ?_
  refine ad_bipush (v := 8) dX6_init_59 (by decide) ?_
  refine ad_newa (atype := .int) (t := 0) (len := 8) h (by decide) rfl we_3 (by decide) (by decide) (Nat.le_of_ble_eq_true rfl) (Nat.le_of_ble_eq_true rfl) (Nat.le_of_ble_eq_true rfl) dX6_init_61 (fun D17 q16 h => ?_)
  refine ad_pf (ci := 6) (x := 9) (v := (.inr (.inr (some q16)))) (ty := (.array .int)) h rfl (Nat.le_of_ble_eq_true rfl) wd_147 rfl (by decide +kernel) rfl rfl rfl rfl dX6_init_63 (fun D18 h => ?_)
  refine ad_aloadn 0 dX6_init_66 rfl ?_
  refine ad_bipush (v := 8) dX6_init_67 (by decide) ?_
  refine ad_newa (atype := .int) (t := 0) (len := 8) h (by decide) rfl we_3 (by decide) (by decide) (Nat.le_of_ble_eq_true rfl) (Nat.le_of_ble_eq_true rfl) (Nat.le_of_ble_eq_true rfl) dX6_init_69 (fun D20 q19 h => ?_)
  refine ad_pf (ci := 6) (x := 10) (v := (.inr (.inr (some q19)))) (ty := (.array .int)) h rfl (Nat.le_of_ble_eq_true rfl) wd_149 rfl (by decide +kernel) rfl rfl rfl rfl dX6_init_71 (fun D21 h => ?_)
  refine ad_aloadn 0 dX6_init_74 rfl ?_
  refine ad_bipush (v := 8) dX6_init_75 (by decide) ?_
  refine ad_newa (atype := .int) (t := 0) (len := 8) h (by decide) rfl we_3 (by decide) (by decide) (Nat.le_of_ble_eq_true rfl) (Nat.le_of_ble_eq_true rfl) (Nat.le_of_ble_eq_true rfl) dX6_init_77 (fun D23 q22 h => ?_)
  refine ad_pf (ci := 6) (x := 11) (v := (.inr (.inr (some q22)))) (ty := (.array .int)) h rfl (Nat.le_of_ble_eq_true rfl) wd_150 rfl (by decide +kernel) rfl rfl rfl rfl dX6_init_79 (fun D24 h => ?_)
  refine ad_aloadn 0 dX6_init_82 rfl ?_
  refine ad_bipush (v := 8) dX6_init_83 (by decide) ?_
  refine ad_newa (atype := .int) (t := 0) (len := 8) h (by decide) rfl we_3 (by decide) (by decide) (Nat.le_of_ble_eq_true rfl) (Nat.le_of_ble_eq_true rfl) (Nat.le_of_ble_eq_true rfl) dX6_init_85 (fun D26 q25 h => ?_)
  refine ad_pf (ci := 6) (x := 12) (v := (.inr (.inr (some q25)))) (ty := (.array .int)) h rfl (Nat.le_of_ble_eq_true rfl) wd_151 rfl (by decide +kernel) rfl rfl rfl rfl dX6_init_87 (fun D27 h => ?_)
  refine ad_aloadn 0 dX6_init_90 rfl ?_
  refine ad_bipush (v := 100) dX6_init_91 (by decide) ?_
  refine ad_newa (atype := .int) (t := 0) (len := 100) h (by decide) rfl we_3 (by decide) (by decide) (Nat.le_of_ble_eq_true rfl) (Nat.le_of_ble_eq_true rfl) (Nat.le_of_ble_eq_true rfl) dX6_init_93 (fun D29 q28 h => ?_)
  refine ad_pf (ci := 6) (x := 13) (v := (.inr (.inr (some q28)))) (ty := (.array .int)) h rfl (Nat.le_of_ble_eq_true rfl) wd_136 rfl (by decide +kernel) rfl rfl rfl rfl dX6_init_95 (fun D30 h => ?_)
  exact ad_ret h (Nat.le_of_ble_eq_true rfl) (Nat.le_of_ble_eq_true rfl) rfl dX6_init_98
def f_X3_init (t0 : Nat) (D : List CD) : Option (Int32 × List CD) := dpf D t0 3 0 (.inl 0) (fun D1 => dna D1 0 30 (fun D3 q2 => dpf D3 t0 3 1 (.inr (.inr (some q2))) (fun D4 => dna D4 0 30 (fun D6 q5 => dpf D6 t0 3 2 (.inr (.inr (some q5))) (fun D7 => dna D7 0 30 (fun D9 q8 => dpf D9 t0 3 3 (.inr (.inr (some q8))) (fun D10 => (rt 0 D10))))))))
set_option maxRecDepth 8000 in
theorem ct_X3_init {l : Launch} {G : GX} {Q : List CD → Prop} (t0 : Nat) (D : List CD) (h : SAT (f_X3_init t0 D) (fun _ c => Q c)) : CTD l G 1 3 90 mt_X3_init [.ref (gS G + t0)] D Q := by
  refine ctd_of pn_X3 (Nat.le_of_ble_eq_true rfl) ?_
  show AD l G (rmE 1 3 90) 0 0 mt_X3_init (ZD G Q 3 90) 0 [(0, .ref (gS G + t0))] [] D
  unfold f_X3_init at h
  refine ad_aloadn 0 dX3_init_0 rfl ?_
  refine ad_oi we_14 we_2 wo_oi ⟨(Nat.le_of_ble_eq_true rfl), (Nat.le_of_ble_eq_true rfl)⟩ dX3_init_1 ?_
  refine ad_aloadn 0 dX3_init_4 rfl ?_
  refine ad_iconst (v := 0) dX3_init_5 (by decide) ?_
  refine ad_pf (ci := 3) (x := 0) (v := (.inl 0)) (ty := .int) h rfl (Nat.le_of_ble_eq_true rfl) wd_165 rfl (by decide +kernel) rfl rfl rfl rfl dX3_init_6 (fun D1 h => ?_)
  refine ad_aloadn 0 dX3_init_9 rfl ?_
  refine ad_bipush (v := 30) dX3_init_10 (by decide) ?_
  refine ad_newa (atype := .int) (t := 0) (len := 30) h (by decide) rfl we_3 (by decide) (by decide) (Nat.le_of_ble_eq_true rfl) (Nat.le_of_ble_eq_true rfl) (Nat.le_of_ble_eq_true rfl) dX3_init_12 (fun D3 q2 h => ?_)
  refine ad_pf (ci := 3) (x := 1) (v := (.inr (.inr (some q2)))) (ty := (.array .int)) h rfl (Nat.le_of_ble_eq_true rfl) wd_170 rfl (by decide +kernel) rfl rfl rfl rfl dX3_init_14 (fun D4 h => ?_)
  refine ad_aloadn 0 dX3_init_17 rfl ?_
  refine ad_bipush (v := 30) dX3_init_18 (by decide) ?_
  refine ad_newa (atype := .int) (t := 0) (len := 30) h (by decide) rfl we_3 (by decide) (by decide) (Nat.le_of_ble_eq_true rfl) (Nat.le_of_ble_eq_true rfl) (Nat.le_of_ble_eq_true rfl) dX3_init_20 (fun D6 q5 h => ?_)
  refine ad_pf (ci := 3) (x := 2) (v := (.inr (.inr (some q5)))) (ty := (.array .int)) h rfl (Nat.le_of_ble_eq_true rfl) wd_172 rfl (by decide +kernel) rfl rfl rfl rfl dX3_init_22 (fun D7 h => ?_)
  refine ad_aloadn 0 dX3_init_25 rfl ?_
  refine ad_bipush (v := 30) dX3_init_26 (by decide) ?_
  refine ad_newa (atype := .int) (t := 0) (len := 30) h (by decide) rfl we_3 (by decide) (by decide) (Nat.le_of_ble_eq_true rfl) (Nat.le_of_ble_eq_true rfl) (Nat.le_of_ble_eq_true rfl) dX3_init_28 (fun D9 q8 h => ?_)
  refine ad_pf (ci := 3) (x := 3) (v := (.inr (.inr (some q8)))) (ty := (.array .int)) h rfl (Nat.le_of_ble_eq_true rfl) wd_171 rfl (by decide +kernel) rfl rfl rfl rfl dX3_init_30 (fun D10 h => ?_)
  exact ad_ret h (Nat.le_of_ble_eq_true rfl) (Nat.le_of_ble_eq_true rfl) rfl dX3_init_33
def f_X5_init (t0 : Nat) (D : List CD) : Option (Int32 × List CD) := dpf D t0 5 0 (.inl 0) (fun D1 => dpf D1 t0 5 1 (.inl 0) (fun D2 => dna D2 0 40 (fun D4 q3 => dpf D4 t0 5 2 (.inr (.inr (some q3))) (fun D5 => dna D5 0 40 (fun D7 q6 => dpf D7 t0 5 3 (.inr (.inr (some q6))) (fun D8 => dna D8 0 40 (fun D10 q9 => dpf D10 t0 5 4 (.inr (.inr (some q9))) (fun D11 => dna D11 0 20 (fun D13 q12 => dpf D13 t0 5 5 (.inr (.inr (some q12))) (fun D14 => (rt 0 D14)))))))))))
set_option maxRecDepth 8000 in
theorem ct_X5_init {l : Launch} {G : GX} {Q : List CD → Prop} (t0 : Nat) (D : List CD) (h : SAT (f_X5_init t0 D) (fun _ c => Q c)) : CTD l G 1 4 140 mt_X5_init [.ref (gS G + t0)] D Q := by
  refine ctd_of pn_X5 (Nat.le_of_ble_eq_true rfl) ?_
  show AD l G (rmE 1 4 140) 0 0 mt_X5_init (ZD G Q 4 140) 0 [(0, .ref (gS G + t0))] [] D
  unfold f_X5_init at h
  refine ad_aloadn 0 dX5_init_0 rfl ?_
  refine ad_oi we_16 we_2 wo_oi ⟨(Nat.le_of_ble_eq_true rfl), (Nat.le_of_ble_eq_true rfl)⟩ dX5_init_1 ?_
  refine ad_aloadn 0 dX5_init_4 rfl ?_
  refine ad_iconst (v := 0) dX5_init_5 (by decide) ?_
  refine ad_pf (ci := 5) (x := 0) (v := (.inl 0)) (ty := .int) h rfl (Nat.le_of_ble_eq_true rfl) wd_10 rfl (by decide +kernel) rfl rfl rfl rfl dX5_init_6 (fun D1 h => ?_)
  refine ad_aloadn 0 dX5_init_9 rfl ?_
  refine ad_iconst (v := 0) dX5_init_10 (by decide) ?_
  refine ad_pf (ci := 5) (x := 1) (v := (.inl 0)) (ty := .int) h rfl (Nat.le_of_ble_eq_true rfl) wd_18 rfl (by decide +kernel) rfl rfl rfl rfl dX5_init_11 (fun D2 h => ?_)
  refine ad_aloadn 0 dX5_init_14 rfl ?_
  refine ad_bipush (v := 40) dX5_init_15 (by decide) ?_
  refine ad_newa (atype := .int) (t := 0) (len := 40) h (by decide) rfl we_3 (by decide) (by decide) (Nat.le_of_ble_eq_true rfl) (Nat.le_of_ble_eq_true rfl) (Nat.le_of_ble_eq_true rfl) dX5_init_17 (fun D4 q3 h => ?_)
  refine ad_pf (ci := 5) (x := 2) (v := (.inr (.inr (some q3)))) (ty := (.array .int)) h rfl (Nat.le_of_ble_eq_true rfl) wd_19 rfl (by decide +kernel) rfl rfl rfl rfl dX5_init_19 (fun D5 h => ?_)
  refine ad_aloadn 0 dX5_init_22 rfl ?_
  refine ad_bipush (v := 40) dX5_init_23 (by decide) ?_
  refine ad_newa (atype := .int) (t := 0) (len := 40) h (by decide) rfl we_3 (by decide) (by decide) (Nat.le_of_ble_eq_true rfl) (Nat.le_of_ble_eq_true rfl) (Nat.le_of_ble_eq_true rfl) dX5_init_25 (fun D7 q6 h => ?_)
  refine ad_pf (ci := 5) (x := 3) (v := (.inr (.inr (some q6)))) (ty := (.array .int)) h rfl (Nat.le_of_ble_eq_true rfl) wd_20 rfl (by decide +kernel) rfl rfl rfl rfl dX5_init_27 (fun D8 h => ?_)
  refine ad_aloadn 0 dX5_init_30 rfl ?_
  refine ad_bipush (v := 40) dX5_init_31 (by decide) ?_
  refine ad_newa (atype := .int) (t := 0) (len := 40) h (by decide) rfl we_3 (by decide) (by decide) (Nat.le_of_ble_eq_true rfl) (Nat.le_of_ble_eq_true rfl) (Nat.le_of_ble_eq_true rfl) dX5_init_33 (fun D10 q9 h => ?_)
  refine ad_pf (ci := 5) (x := 4) (v := (.inr (.inr (some q9)))) (ty := (.array .int)) h rfl (Nat.le_of_ble_eq_true rfl) wd_21 rfl (by decide +kernel) rfl rfl rfl rfl dX5_init_35 (fun D11 h => ?_)
  refine ad_aloadn 0 dX5_init_38 rfl ?_
  refine ad_bipush (v := 20) dX5_init_39 (by decide) ?_
  refine ad_newa (atype := .int) (t := 0) (len := 20) h (by decide) rfl we_3 (by decide) (by decide) (Nat.le_of_ble_eq_true rfl) (Nat.le_of_ble_eq_true rfl) (Nat.le_of_ble_eq_true rfl) dX5_init_41 (fun D13 q12 h => ?_)
  refine ad_pf (ci := 5) (x := 5) (v := (.inr (.inr (some q12)))) (ty := (.array .int)) h rfl (Nat.le_of_ble_eq_true rfl) wd_317 rfl (by decide +kernel) rfl rfl rfl rfl dX5_init_43 (fun D14 h => ?_)
  exact ad_ret h (Nat.le_of_ble_eq_true rfl) (Nat.le_of_ble_eq_true rfl) rfl dX5_init_46
def f_X8_init (t0 : Nat) (D : List CD) : Option (Int32 × List CD) := dpf D t0 8 0 (.inl 0) (fun D1 => dnw D1 0 (fun D3 q2 => dcal (f_X0_init q2 D3) (fun D4 => dpf D4 t0 8 1 (.inr (.inr (some q2))) (fun D5 => dnw D5 6 (fun D7 q6 => dcal (f_X6_init q6 D7) (fun D8 => dpf D8 t0 8 2 (.inr (.inr (some q6))) (fun D9 => dnw D9 3 (fun D11 q10 => dcal (f_X3_init q10 D11) (fun D12 => dpf D12 t0 8 3 (.inr (.inr (some q10))) (fun D13 => dnw D13 5 (fun D15 q14 => dcal (f_X5_init q14 D15) (fun D16 => dpf D16 t0 8 4 (.inr (.inr (some q14))) (fun D17 => (rt 0 D17))))))))))))))
set_option maxRecDepth 8000 in
theorem ct_X8_init {l : Launch} {G : GX} {Q : List CD → Prop} (t0 : Nat) (D : List CD) (h : SAT (f_X8_init t0 D) (fun _ c => Q c)) : CTD l G 3 34 817 mt_X8_init [.ref (gS G + t0)] D Q := by
  refine ctd_of pn_X8 (Nat.le_of_ble_eq_true rfl) ?_
  show AD l G (rmE 3 34 817) 0 0 mt_X8_init (ZD G Q 34 817) 0 [(0, .ref (gS G + t0))] [] D
  unfold f_X8_init at h
  refine ad_aloadn 0 dX8_init_0 rfl ?_
  refine ad_oi we_18 we_2 wo_oi ⟨(Nat.le_of_ble_eq_true rfl), (Nat.le_of_ble_eq_true rfl)⟩ dX8_init_1 ?_
  refine ad_aloadn 0 dX8_init_4 rfl ?_
  refine ad_iconst (v := 0) dX8_init_5 (by decide) ?_
  refine ad_pf (ci := 8) (x := 0) (v := (.inl 0)) (ty := .boolean) h rfl (Nat.le_of_ble_eq_true rfl) we_19 rfl (by decide +kernel) rfl rfl rfl rfl dX8_init_6 (fun D1 h => ?_)
  refine ad_aloadn 0 dX8_init_9 rfl ?_
  refine ad_new (ci := 0) h rfl tyX0_ok (by decide +kernel) rfl we_20 we_21 wd_572 (Nat.le_of_ble_eq_true rfl) (Nat.le_of_ble_eq_true rfl) dX8_init_10 (fun D3 q2 h => ?_)
  refine ad_dup dX8_init_13 rfl ?_
  refine ad_init (mtc := mt_X0_init) h (fun Q h => ct_X0_init q2 D3 h) mw_X0_init we_22 rfl rfl (Or.inl (List.mem_of_getElem? (i := 2) rfl)) ⟨(Nat.le_of_ble_eq_true rfl), (Nat.le_of_ble_eq_true rfl)⟩ (Nat.le_of_ble_eq_true rfl) (Nat.le_of_ble_eq_true rfl) (Nat.le_of_ble_eq_true rfl) dX8_init_14 (fun D4 h => ?_)
  refine ad_pf (ci := 8) (x := 1) (v := (.inr (.inr (some q2)))) (ty := .object "GaleBank$Bank") h rfl (Nat.le_of_ble_eq_true rfl) wd_328 rfl (by decide +kernel) rfl rfl rfl rfl dX8_init_17 (fun D5 h => ?_)
  refine ad_aloadn 0 dX8_init_20 rfl ?_
  refine ad_new (ci := 6) h rfl tyX6_ok (by decide +kernel) rfl we_23 we_24 wd_640 (Nat.le_of_ble_eq_true rfl) (Nat.le_of_ble_eq_true rfl) dX8_init_21 (fun D7 q6 h => ?_)
  refine ad_dup dX8_init_24 rfl ?_
  refine ad_init (mtc := mt_X6_init) h (fun Q h => ct_X6_init q6 D7 h) mw_X6_init we_25 rfl rfl (Or.inl (List.mem_of_getElem? (i := 4) rfl)) ⟨(Nat.le_of_ble_eq_true rfl), (Nat.le_of_ble_eq_true rfl)⟩ (Nat.le_of_ble_eq_true rfl) (Nat.le_of_ble_eq_true rfl) (Nat.le_of_ble_eq_true rfl) dX8_init_25 (fun D8 h => ?_)
  refine ad_pf (ci := 8) (x := 2) (v := (.inr (.inr (some q6)))) (ty := .object "GaleBank$State") h rfl (Nat.le_of_ble_eq_true rfl) wd_334 rfl (by decide +kernel) rfl rfl rfl rfl dX8_init_28 (fun D9 h => ?_)
  refine ad_aloadn 0 dX8_init_31 rfl ?_
  refine ad_new (ci := 3) h rfl tyX3_ok (by decide +kernel) rfl we_26 we_27 wd_651 (Nat.le_of_ble_eq_true rfl) (Nat.le_of_ble_eq_true rfl) dX8_init_32 (fun D11 q10 h => ?_)
  refine ad_dup dX8_init_35 rfl ?_
  refine ad_init (mtc := mt_X3_init) h (fun Q h => ct_X3_init q10 D11 h) mw_X3_init we_28 rfl rfl (Or.inl (List.mem_of_getElem? (i := 5) rfl)) ⟨(Nat.le_of_ble_eq_true rfl), (Nat.le_of_ble_eq_true rfl)⟩ (Nat.le_of_ble_eq_true rfl) (Nat.le_of_ble_eq_true rfl) (Nat.le_of_ble_eq_true rfl) dX8_init_36 (fun D12 h => ?_)
  refine ad_pf (ci := 8) (x := 3) (v := (.inr (.inr (some q10)))) (ty := .object "GaleBank$Plan") h rfl (Nat.le_of_ble_eq_true rfl) wd_336 rfl (by decide +kernel) rfl rfl rfl rfl dX8_init_39 (fun D13 h => ?_)
  refine ad_aloadn 0 dX8_init_42 rfl ?_
  refine ad_new (ci := 5) h rfl tyX5_ok (by decide +kernel) rfl we_29 we_30 wd_516 (Nat.le_of_ble_eq_true rfl) (Nat.le_of_ble_eq_true rfl) dX8_init_43 (fun D15 q14 h => ?_)
  refine ad_dup dX8_init_46 rfl ?_
  refine ad_init (mtc := mt_X5_init) h (fun Q h => ct_X5_init q14 D15 h) mw_X5_init we_31 rfl rfl (Or.inl (List.mem_of_getElem? (i := 6) rfl)) ⟨(Nat.le_of_ble_eq_true rfl), (Nat.le_of_ble_eq_true rfl)⟩ (Nat.le_of_ble_eq_true rfl) (Nat.le_of_ble_eq_true rfl) (Nat.le_of_ble_eq_true rfl) dX8_init_47 (fun D16 h => ?_)
  refine ad_pf (ci := 8) (x := 4) (v := (.inr (.inr (some q14)))) (ty := .object "GaleBank$Sentence") h rfl (Nat.le_of_ble_eq_true rfl) wd_339 rfl (by decide +kernel) rfl rfl rfl rfl dX8_init_50 (fun D17 h => ?_)
  exact ad_ret h (Nat.le_of_ble_eq_true rfl) (Nat.le_of_ble_eq_true rfl) rfl dX8_init_53
def f_X2_init (t0 : Nat) (D : List CD) : Option (Int32 × List CD) := dna D 4 8 (fun D2 q1 => dpf D2 t0 2 0 (.inr (.inr (some q1))) (fun D3 => dpf D3 t0 2 1 (.inl 0) (fun D4 => dpf D4 t0 2 2 (.inl 0) (fun D5 => dgr D5 t0 2 0 (fun q6 => dnw D5 6 (fun D8 q7 => dcal (f_X6_init q7 D8) (fun D9 => daq D9 q7 6 q6 4 0 (fun D10 => dgr D10 t0 2 0 (fun q11 => dnw D10 6 (fun D13 q12 => dcal (f_X6_init q12 D13) (fun D14 => daq D14 q12 6 q11 4 1 (fun D15 => dgr D15 t0 2 0 (fun q16 => dnw D15 6 (fun D18 q17 => dcal (f_X6_init q17 D18) (fun D19 => daq D19 q17 6 q16 4 2 (fun D20 => dgr D20 t0 2 0 (fun q21 => dnw D20 6 (fun D23 q22 => dcal (f_X6_init q22 D23) (fun D24 => daq D24 q22 6 q21 4 3 (fun D25 => dgr D25 t0 2 0 (fun q26 => dnw D25 6 (fun D28 q27 => dcal (f_X6_init q27 D28) (fun D29 => daq D29 q27 6 q26 4 4 (fun D30 => dgr D30 t0 2 0 (fun q31 => dnw D30 6 (fun D33 q32 => dcal (f_X6_init q32 D33) (fun D34 => daq D34 q32 6 q31 4 5 (fun D35 => dgr D35 t0 2 0 (fun q36 => dnw D35 6 (fun D38 q37 => dcal (f_X6_init q37 D38) (fun D39 => daq D39 q37 6 q36 4 6 (fun D40 => dgr D40 t0 2 0 (fun q41 => dnw D40 6 (fun D43 q42 => dcal (f_X6_init q42 D43) (fun D44 => daq D44 q42 6 q41 4 7 (fun D45 => (rt 0 D45)))))))))))))))))))))))))))))))))))))
set_option maxRecDepth 8000 in
theorem ct_X2_init {l : Launch} {G : GX} {Q : List CD → Prop} (t0 : Nat) (D : List CD) (h : SAT (f_X2_init t0 D) (fun _ c => Q c)) : CTD l G 2 73 1368 mt_X2_init [.ref (gS G + t0)] D Q := by
  refine ctd_of pn_X2 (Nat.le_of_ble_eq_true rfl) ?_
  show AD l G (rmE 2 73 1368) 0 0 mt_X2_init (ZD G Q 73 1368) 0 [(0, .ref (gS G + t0))] [] D
  unfold f_X2_init at h
  refine ad_aloadn 0 dX2_init_0 rfl ?_
  refine ad_oi we_33 we_2 wo_oi ⟨(Nat.le_of_ble_eq_true rfl), (Nat.le_of_ble_eq_true rfl)⟩ dX2_init_1 ?_
  refine ad_aloadn 0 dX2_init_4 rfl ?_
  refine ad_bipush (v := 8) dX2_init_5 (by decide) ?_
  refine ad_newq (t := 4) (len := 8) h (by decide) rfl we_34 (by decide) (by decide) (Nat.le_of_ble_eq_true rfl) (Nat.le_of_ble_eq_true rfl) (Nat.le_of_ble_eq_true rfl) dX2_init_7 (by decide) (fun D2 q1 h => ?_)
  refine ad_pf (ci := 2) (x := 0) (v := (.inr (.inr (some q1)))) (ty := (.array (.object "GaleBank$State"))) h rfl (Nat.le_of_ble_eq_true rfl) wd_249 rfl (by decide +kernel) rfl rfl rfl rfl dX2_init_10 (fun D3 h => ?_)
  refine ad_aloadn 0 dX2_init_13 rfl ?_
  refine ad_iconst (v := 0) dX2_init_14 (by decide) ?_
  refine ad_pf (ci := 2) (x := 1) (v := (.inl 0)) (ty := .int) h rfl (Nat.le_of_ble_eq_true rfl) wd_250 rfl (by decide +kernel) rfl rfl rfl rfl dX2_init_15 (fun D4 h => ?_)
  refine ad_aloadn 0 dX2_init_18 rfl ?_
  refine ad_iconst (v := 0) dX2_init_19 (by decide) ?_
  refine ad_pf (ci := 2) (x := 2) (v := (.inl 0)) (ty := .int) h rfl (Nat.le_of_ble_eq_true rfl) wd_158 rfl (by decide +kernel) rfl rfl rfl rfl dX2_init_20 (fun D5 h => ?_)
  refine ad_iconst (v := 0) dX2_init_23 (by decide) ?_
  refine ad_istoren (lv' := [(0, .ref (gS G + t0)), (1, .int 0)]) dX2_init_24 rfl (Nat.le_of_ble_eq_true rfl) rfl ?_
  refine ad_iloadn 1 dX2_init_25 rfl ?_
  refine ad_bipush (v := 8) dX2_init_26 (by decide) ?_
  refine ad_icmp_ge (tgt := 50) dX2_init_28 (by decide) (fun h => absurd h (by decide)) (fun _ => ?_)
  refine ad_aloadn 0 dX2_init_31 rfl ?_
  refine ad_gr (ci := 2) (x := 0) h rfl (Nat.le_of_ble_eq_true rfl) wd_249 dX2_init_32 (fun q6 h => ?_)
  refine ad_iloadn 1 dX2_init_35 rfl ?_
  refine ad_new (ci := 6) h rfl tyX6_ok (by decide +kernel) rfl we_34 we_24 wd_640 (Nat.le_of_ble_eq_true rfl) (Nat.le_of_ble_eq_true rfl) dX2_init_36 (fun D8 q7 h => ?_)
  refine ad_dup dX2_init_39 rfl ?_
  refine ad_init (mtc := mt_X6_init) h (fun Q h => ct_X6_init q7 D8 h) mw_X6_init we_25 rfl rfl (Or.inl (List.mem_of_getElem? (i := 10) rfl)) ⟨(Nat.le_of_ble_eq_true rfl), (Nat.le_of_ble_eq_true rfl)⟩ (Nat.le_of_ble_eq_true rfl) (Nat.le_of_ble_eq_true rfl) (Nat.le_of_ble_eq_true rfl) dX2_init_40 (fun D9 h => ?_)
  refine ad_aast (fs := []) (ci := 6) (t := 4) (x := 0) h (by decide) rfl rfl (by decide) (by decide) rfl dX2_init_43 (fun D10 h => ?_)
  refine ad_iinc (q := 1) (v := 1) (lv' := [(0, .ref (gS G + t0)), (1, .int 1)]) dX2_init_44 rfl (by decide) rfl (Nat.le_of_ble_eq_true rfl) rfl ?_
  refine ad_goto (tgt := 25) dX2_init_47 (by decide) ?_
  refine ad_iloadn 1 dX2_init_25 rfl ?_
  refine ad_bipush (v := 8) dX2_init_26 (by decide) ?_
  refine ad_icmp_ge (tgt := 50) dX2_init_28 (by decide) (fun h => absurd h (by decide)) (fun _ => ?_)
  refine ad_aloadn 0 dX2_init_31 rfl ?_
  refine ad_gr (ci := 2) (x := 0) h rfl (Nat.le_of_ble_eq_true rfl) wd_249 dX2_init_32 (fun q11 h => ?_)
  refine ad_iloadn 1 dX2_init_35 rfl ?_
  refine ad_new (ci := 6) h rfl tyX6_ok (by decide +kernel) rfl we_34 we_24 wd_640 (Nat.le_of_ble_eq_true rfl) (Nat.le_of_ble_eq_true rfl) dX2_init_36 (fun D13 q12 h => ?_)
  refine ad_dup dX2_init_39 rfl ?_
  refine ad_init (mtc := mt_X6_init) h (fun Q h => ct_X6_init q12 D13 h) mw_X6_init we_25 rfl rfl (Or.inl (List.mem_of_getElem? (i := 10) rfl)) ⟨(Nat.le_of_ble_eq_true rfl), (Nat.le_of_ble_eq_true rfl)⟩ (Nat.le_of_ble_eq_true rfl) (Nat.le_of_ble_eq_true rfl) (Nat.le_of_ble_eq_true rfl) dX2_init_40 (fun D14 h => ?_)
  refine ad_aast (fs := []) (ci := 6) (t := 4) (x := 1) h (by decide) rfl rfl (by decide) (by decide) rfl dX2_init_43 (fun D15 h => ?_)
  refine ad_iinc (q := 1) (v := 2) (lv' := [(0, .ref (gS G + t0)), (1, .int 2)]) dX2_init_44 rfl (by decide) rfl (Nat.le_of_ble_eq_true rfl) rfl ?_
  refine ad_goto (tgt := 25) dX2_init_47 (by decide) ?_
  refine ad_iloadn 1 dX2_init_25 rfl ?_
  refine ad_bipush (v := 8) dX2_init_26 (by decide) ?_
  refine ad_icmp_ge (tgt := 50) dX2_init_28 (by decide) (fun h => absurd h (by decide)) (fun _ => ?_)
  refine ad_aloadn 0 dX2_init_31 rfl ?_
  refine ad_gr (ci := 2) (x := 0) h rfl (Nat.le_of_ble_eq_true rfl) wd_249 dX2_init_32 (fun q16 h => ?_)
  refine ad_iloadn 1 dX2_init_35 rfl ?_
  refine ad_new (ci := 6) h rfl tyX6_ok (by decide +kernel) rfl we_34 we_24 wd_640 (Nat.le_of_ble_eq_true rfl) (Nat.le_of_ble_eq_true rfl) dX2_init_36 (fun D18 q17 h => ?_)
  refine ad_dup dX2_init_39 rfl ?_
  refine ad_init (mtc := mt_X6_init) h (fun Q h => ct_X6_init q17 D18 h) mw_X6_init we_25 rfl rfl (Or.inl (List.mem_of_getElem? (i := 10) rfl)) ⟨(Nat.le_of_ble_eq_true rfl), (Nat.le_of_ble_eq_true rfl)⟩ (Nat.le_of_ble_eq_true rfl) (Nat.le_of_ble_eq_true rfl) (Nat.le_of_ble_eq_true rfl) dX2_init_40 (fun D19 h => ?_)
  refine ad_aast (fs := []) (ci := 6) (t := 4) (x := 2) h (by decide) rfl rfl (by decide) (by decide) rfl dX2_init_43 (fun D20 h => ?_)
  refine ad_iinc (q := 1) (v := 3) (lv' := [(0, .ref (gS G + t0)), (1, .int 3)]) dX2_init_44 rfl (by decide) rfl (Nat.le_of_ble_eq_true rfl) rfl ?_
  refine ad_goto (tgt := 25) dX2_init_47 (by decide) ?_
  refine ad_iloadn 1 dX2_init_25 rfl ?_
  refine ad_bipush (v := 8) dX2_init_26 (by decide) ?_
  refine ad_icmp_ge (tgt := 50) dX2_init_28 (by decide) (fun h => absurd h (by decide)) (fun _ => ?_)
  refine ad_aloadn 0 dX2_init_31 rfl ?_
  refine ad_gr (ci := 2) (x := 0) h rfl (Nat.le_of_ble_eq_true rfl) wd_249 dX2_init_32 (fun q21 h => ?_)
  refine ad_iloadn 1 dX2_init_35 rfl ?_
  refine ad_new (ci := 6) h rfl tyX6_ok (by decide +kernel) rfl we_34 we_24 wd_640 (Nat.le_of_ble_eq_true rfl) (Nat.le_of_ble_eq_true rfl) dX2_init_36 (fun D23 q22 h => ?_)
  refine ad_dup dX2_init_39 rfl ?_
  refine ad_init (mtc := mt_X6_init) h (fun Q h => ct_X6_init q22 D23 h) mw_X6_init we_25 rfl rfl (Or.inl (List.mem_of_getElem? (i := 10) rfl)) ⟨(Nat.le_of_ble_eq_true rfl), (Nat.le_of_ble_eq_true rfl)⟩ (Nat.le_of_ble_eq_true rfl) (Nat.le_of_ble_eq_true rfl) (Nat.le_of_ble_eq_true rfl) dX2_init_40 (fun D24 h => ?_)
  refine ad_aast (fs := []) (ci := 6) (t := 4) (x := 3) h (by decide) rfl rfl (by decide) (by decide) rfl dX2_init_43 (fun D25 h => ?_)
  refine ad_iinc (q := 1) (v := 4) (lv' := [(0, .ref (gS G + t0)), (1, .int 4)]) dX2_init_44 rfl (by decide) rfl (Nat.le_of_ble_eq_true rfl) rfl ?_
  refine ad_goto (tgt := 25) dX2_init_47 (by decide) ?_
  refine ad_iloadn 1 dX2_init_25 rfl ?_
  refine ad_bipush (v := 8) dX2_init_26 (by decide) ?_
  refine ad_icmp_ge (tgt := 50) dX2_init_28 (by decide) (fun h => absurd h (by decide)) (fun _ => ?_)
  refine ad_aloadn 0 dX2_init_31 rfl ?_
  refine ad_gr (ci := 2) (x := 0) h rfl (Nat.le_of_ble_eq_true rfl) wd_249 dX2_init_32 (fun q26 h => ?_)
  refine ad_iloadn 1 dX2_init_35 rfl ?_
  refine ad_new (ci := 6) h rfl tyX6_ok (by decide +kernel) rfl we_34 we_24 wd_640 (Nat.le_of_ble_eq_true rfl) (Nat.le_of_ble_eq_true rfl) dX2_init_36 (fun D28 q27 h => ?_)
  refine ad_dup dX2_init_39 rfl ?_
  refine ad_init (mtc := mt_X6_init) h (fun Q h => ct_X6_init q27 D28 h) mw_X6_init we_25 rfl rfl (Or.inl (List.mem_of_getElem? (i := 10) rfl)) ⟨(Nat.le_of_ble_eq_true rfl), (Nat.le_of_ble_eq_true rfl)⟩ (Nat.le_of_ble_eq_true rfl) (Nat.le_of_ble_eq_true rfl) (Nat.le_of_ble_eq_true rfl) dX2_init_40 (fun D29 h => ?_)
  refine ad_aast (fs := []) (ci := 6) (t := 4) (x := 4) h (by decide) rfl rfl (by decide) (by decide) rfl dX2_init_43 (fun D30 h => ?_)
  refine ad_iinc (q := 1) (v := 5) (lv' := [(0, .ref (gS G + t0)), (1, .int 5)]) dX2_init_44 rfl (by decide) rfl (Nat.le_of_ble_eq_true rfl) rfl ?_
  refine ad_goto (tgt := 25) dX2_init_47 (by decide) ?_
  refine ad_iloadn 1 dX2_init_25 rfl ?_
  refine ad_bipush (v := 8) dX2_init_26 (by decide) ?_
  refine ad_icmp_ge (tgt := 50) dX2_init_28 (by decide) (fun h => absurd h (by decide)) (fun _ => ?_)
  refine ad_aloadn 0 dX2_init_31 rfl ?_
  refine ad_gr (ci := 2) (x := 0) h rfl (Nat.le_of_ble_eq_true rfl) wd_249 dX2_init_32 (fun q31 h => ?_)
  refine ad_iloadn 1 dX2_init_35 rfl ?_
  refine ad_new (ci := 6) h rfl tyX6_ok (by decide +kernel) rfl we_34 we_24 wd_640 (Nat.le_of_ble_eq_true rfl) (Nat.le_of_ble_eq_true rfl) dX2_init_36 (fun D33 q32 h => ?_)
  refine ad_dup dX2_init_39 rfl ?_
  refine ad_init (mtc := mt_X6_init) h (fun Q h => ct_X6_init q32 D33 h) mw_X6_init we_25 rfl rfl (Or.inl (List.mem_of_getElem? (i := 10) rfl)) ⟨(Nat.le_of_ble_eq_true rfl), (Nat.le_of_ble_eq_true rfl)⟩ (Nat.le_of_ble_eq_true rfl) (Nat.le_of_ble_eq_true rfl) (Nat.le_of_ble_eq_true rfl) dX2_init_40 (fun D34 h => ?_)
  refine ad_aast (fs := []) (ci := 6) (t := 4) (x := 5) h (by decide) rfl rfl (by decide) (by decide) rfl dX2_init_43 (fun D35 h => ?_)
  refine ad_iinc (q := 1) (v := 6) (lv' := [(0, .ref (gS G + t0)), (1, .int 6)]) dX2_init_44 rfl (by decide) rfl (Nat.le_of_ble_eq_true rfl) rfl ?_
  refine ad_goto (tgt := 25) dX2_init_47 (by decide) ?_
  refine ad_iloadn 1 dX2_init_25 rfl ?_
  refine ad_bipush (v := 8) dX2_init_26 (by decide) ?_
  refine ad_icmp_ge (tgt := 50) dX2_init_28 (by decide) (fun h => absurd h (by decide)) (fun _ => ?_)
  refine ad_aloadn 0 dX2_init_31 rfl ?_
  refine ad_gr (ci := 2) (x := 0) h rfl (Nat.le_of_ble_eq_true rfl) wd_249 dX2_init_32 (fun q36 h => ?_)
  refine ad_iloadn 1 dX2_init_35 rfl ?_
  refine ad_new (ci := 6) h rfl tyX6_ok (by decide +kernel) rfl we_34 we_24 wd_640 (Nat.le_of_ble_eq_true rfl) (Nat.le_of_ble_eq_true rfl) dX2_init_36 (fun D38 q37 h => ?_)
  refine ad_dup dX2_init_39 rfl ?_
  refine ad_init (mtc := mt_X6_init) h (fun Q h => ct_X6_init q37 D38 h) mw_X6_init we_25 rfl rfl (Or.inl (List.mem_of_getElem? (i := 10) rfl)) ⟨(Nat.le_of_ble_eq_true rfl), (Nat.le_of_ble_eq_true rfl)⟩ (Nat.le_of_ble_eq_true rfl) (Nat.le_of_ble_eq_true rfl) (Nat.le_of_ble_eq_true rfl) dX2_init_40 (fun D39 h => ?_)
  refine ad_aast (fs := []) (ci := 6) (t := 4) (x := 6) h (by decide) rfl rfl (by decide) (by decide) rfl dX2_init_43 (fun D40 h => ?_)
  refine ad_iinc (q := 1) (v := 7) (lv' := [(0, .ref (gS G + t0)), (1, .int 7)]) dX2_init_44 rfl (by decide) rfl (Nat.le_of_ble_eq_true rfl) rfl ?_
  refine ad_goto (tgt := 25) dX2_init_47 (by decide) ?_
  refine ad_iloadn 1 dX2_init_25 rfl ?_
  refine ad_bipush (v := 8) dX2_init_26 (by decide) ?_
  refine ad_icmp_ge (tgt := 50) dX2_init_28 (by decide) (fun h => absurd h (by decide)) (fun _ => ?_)
  refine ad_aloadn 0 dX2_init_31 rfl ?_
  refine ad_gr (ci := 2) (x := 0) h rfl (Nat.le_of_ble_eq_true rfl) wd_249 dX2_init_32 (fun q41 h => ?_)
  refine ad_iloadn 1 dX2_init_35 rfl ?_
  refine ad_new (ci := 6) h rfl tyX6_ok (by decide +kernel) rfl we_34 we_24 wd_640 (Nat.le_of_ble_eq_true rfl) (Nat.le_of_ble_eq_true rfl) dX2_init_36 (fun D43 q42 h => ?_)
  refine ad_dup dX2_init_39 rfl ?_
  refine ad_init (mtc := mt_X6_init) h (fun Q h => ct_X6_init q42 D43 h) mw_X6_init we_25 rfl rfl (Or.inl (List.mem_of_getElem? (i := 10) rfl)) ⟨(Nat.le_of_ble_eq_true rfl), (Nat.le_of_ble_eq_true rfl)⟩ (Nat.le_of_ble_eq_true rfl) (Nat.le_of_ble_eq_true rfl) (Nat.le_of_ble_eq_true rfl) dX2_init_40 (fun D44 h => ?_)
  refine ad_aast (fs := []) (ci := 6) (t := 4) (x := 7) h (by decide) rfl rfl (by decide) (by decide) rfl dX2_init_43 (fun D45 h => ?_)
  refine ad_iinc (q := 1) (v := 8) (lv' := [(0, .ref (gS G + t0)), (1, .int 8)]) dX2_init_44 rfl (by decide) rfl (Nat.le_of_ble_eq_true rfl) rfl ?_
  refine ad_goto (tgt := 25) dX2_init_47 (by decide) ?_
  refine ad_iloadn 1 dX2_init_25 rfl ?_
  refine ad_bipush (v := 8) dX2_init_26 (by decide) ?_
  refine ad_icmp_ge (tgt := 50) dX2_init_28 (by decide) (fun _ => ?_) (fun h => absurd (by decide) h)
  exact ad_ret h (Nat.le_of_ble_eq_true rfl) (Nat.le_of_ble_eq_true rfl) rfl dX2_init_50
def f_X9_init (t0 : Nat) (D : List CD) : Option (Int32 × List CD) := dna D 0 8 (fun D2 q1 => dpf D2 t0 9 0 (.inr (.inr (some q1))) (fun D3 => dna D3 0 8 (fun D5 q4 => dpf D5 t0 9 1 (.inr (.inr (some q4))) (fun D6 => dna D6 0 8 (fun D8 q7 => dpf D8 t0 9 2 (.inr (.inr (some q7))) (fun D9 => dpf D9 t0 9 3 (.inl 0) (fun D10 => (rt 0 D10))))))))
set_option maxRecDepth 8000 in
theorem ct_X9_init {l : Launch} {G : GX} {Q : List CD → Prop} (t0 : Nat) (D : List CD) (h : SAT (f_X9_init t0 D) (fun _ c => Q c)) : CTD l G 1 3 24 mt_X9_init [.ref (gS G + t0)] D Q := by
  refine ctd_of pn_X9 (Nat.le_of_ble_eq_true rfl) ?_
  show AD l G (rmE 1 3 24) 0 0 mt_X9_init (ZD G Q 3 24) 0 [(0, .ref (gS G + t0))] [] D
  unfold f_X9_init at h
  refine ad_aloadn 0 dX9_init_0 rfl ?_
  refine ad_oi we_36 we_2 wo_oi ⟨(Nat.le_of_ble_eq_true rfl), (Nat.le_of_ble_eq_true rfl)⟩ dX9_init_1 ?_
  refine ad_aloadn 0 dX9_init_4 rfl ?_
  refine ad_bipush (v := 8) dX9_init_5 (by decide) ?_
  refine ad_newa (atype := .int) (t := 0) (len := 8) h (by decide) rfl we_3 (by decide) (by decide) (Nat.le_of_ble_eq_true rfl) (Nat.le_of_ble_eq_true rfl) (Nat.le_of_ble_eq_true rfl) dX9_init_7 (fun D2 q1 h => ?_)
  refine ad_pf (ci := 9) (x := 0) (v := (.inr (.inr (some q1)))) (ty := (.array .int)) h rfl (Nat.le_of_ble_eq_true rfl) wd_236 rfl (by decide +kernel) rfl rfl rfl rfl dX9_init_9 (fun D3 h => ?_)
  refine ad_aloadn 0 dX9_init_12 rfl ?_
  refine ad_bipush (v := 8) dX9_init_13 (by decide) ?_
  refine ad_newa (atype := .int) (t := 0) (len := 8) h (by decide) rfl we_3 (by decide) (by decide) (Nat.le_of_ble_eq_true rfl) (Nat.le_of_ble_eq_true rfl) (Nat.le_of_ble_eq_true rfl) dX9_init_15 (fun D5 q4 h => ?_)
  refine ad_pf (ci := 9) (x := 1) (v := (.inr (.inr (some q4)))) (ty := (.array .int)) h rfl (Nat.le_of_ble_eq_true rfl) wd_237 rfl (by decide +kernel) rfl rfl rfl rfl dX9_init_17 (fun D6 h => ?_)
  refine ad_aloadn 0 dX9_init_20 rfl ?_
  refine ad_bipush (v := 8) dX9_init_21 (by decide) ?_
  refine ad_newa (atype := .int) (t := 0) (len := 8) h (by decide) rfl we_3 (by decide) (by decide) (Nat.le_of_ble_eq_true rfl) (Nat.le_of_ble_eq_true rfl) (Nat.le_of_ble_eq_true rfl) dX9_init_23 (fun D8 q7 h => ?_)
  refine ad_pf (ci := 9) (x := 2) (v := (.inr (.inr (some q7)))) (ty := (.array .int)) h rfl (Nat.le_of_ble_eq_true rfl) wd_240 rfl (by decide +kernel) rfl rfl rfl rfl dX9_init_25 (fun D9 h => ?_)
  refine ad_aloadn 0 dX9_init_28 rfl ?_
  refine ad_iconst (v := 0) dX9_init_29 (by decide) ?_
  refine ad_pf (ci := 9) (x := 3) (v := (.inl 0)) (ty := .int) h rfl (Nat.le_of_ble_eq_true rfl) wd_303 rfl (by decide +kernel) rfl rfl rfl rfl dX9_init_30 (fun D10 h => ?_)
  exact ad_ret h (Nat.le_of_ble_eq_true rfl) (Nat.le_of_ble_eq_true rfl) rfl dX9_init_33
def f_X4_init (t0 : Nat) (D : List CD) : Option (Int32 × List CD) := dpf D t0 4 0 (.inl 0) (fun D1 => dpf D1 t0 4 1 (.inl 0) (fun D2 => dna D2 0 256 (fun D4 q3 => dpf D4 t0 4 2 (.inr (.inr (some q3))) (fun D5 => dna D5 0 2048 (fun D7 q6 => dpf D7 t0 4 3 (.inr (.inr (some q6))) (fun D8 => (rt 0 D8)))))))
set_option maxRecDepth 8000 in
theorem ct_X4_init {l : Launch} {G : GX} {Q : List CD → Prop} (t0 : Nat) (D : List CD) (h : SAT (f_X4_init t0 D) (fun _ c => Q c)) : CTD l G 1 2 2304 mt_X4_init [.ref (gS G + t0)] D Q := by
  refine ctd_of pn_X4 (Nat.le_of_ble_eq_true rfl) ?_
  show AD l G (rmE 1 2 2304) 0 0 mt_X4_init (ZD G Q 2 2304) 0 [(0, .ref (gS G + t0))] [] D
  unfold f_X4_init at h
  refine ad_aloadn 0 dX4_init_0 rfl ?_
  refine ad_oi we_38 we_2 wo_oi ⟨(Nat.le_of_ble_eq_true rfl), (Nat.le_of_ble_eq_true rfl)⟩ dX4_init_1 ?_
  refine ad_aloadn 0 dX4_init_4 rfl ?_
  refine ad_iconst (v := 0) dX4_init_5 (by decide) ?_
  refine ad_pf (ci := 4) (x := 0) (v := (.inl 0)) (ty := .boolean) h rfl (Nat.le_of_ble_eq_true rfl) wd_282 rfl (by decide +kernel) rfl rfl rfl rfl dX4_init_6 (fun D1 h => ?_)
  refine ad_aloadn 0 dX4_init_9 rfl ?_
  refine ad_iconst (v := 0) dX4_init_10 (by decide) ?_
  refine ad_pf (ci := 4) (x := 1) (v := (.inl 0)) (ty := .int) h rfl (Nat.le_of_ble_eq_true rfl) wd_281 rfl (by decide +kernel) rfl rfl rfl rfl dX4_init_11 (fun D2 h => ?_)
  refine ad_aloadn 0 dX4_init_14 rfl ?_
  refine ad_sipush (v := 256) dX4_init_15 (by decide) ?_
  refine ad_newa (atype := .int) (t := 0) (len := 256) h (by decide) rfl we_3 (by decide) (by decide) (Nat.le_of_ble_eq_true rfl) (Nat.le_of_ble_eq_true rfl) (Nat.le_of_ble_eq_true rfl) dX4_init_18 (fun D4 q3 h => ?_)
  refine ad_pf (ci := 4) (x := 2) (v := (.inr (.inr (some q3)))) (ty := (.array .int)) h rfl (Nat.le_of_ble_eq_true rfl) wd_285 rfl (by decide +kernel) rfl rfl rfl rfl dX4_init_20 (fun D5 h => ?_)
  refine ad_aloadn 0 dX4_init_23 rfl ?_
  refine ad_sipush (v := 2048) dX4_init_24 (by decide) ?_
  refine ad_newa (atype := .int) (t := 0) (len := 2048) h (by decide) rfl we_3 (by decide) (by decide) (Nat.le_of_ble_eq_true rfl) (Nat.le_of_ble_eq_true rfl) (Nat.le_of_ble_eq_true rfl) dX4_init_27 (fun D7 q6 h => ?_)
  refine ad_pf (ci := 4) (x := 3) (v := (.inr (.inr (some q6)))) (ty := (.array .int)) h rfl (Nat.le_of_ble_eq_true rfl) wd_283 rfl (by decide +kernel) rfl rfl rfl rfl dX4_init_29 (fun D8 h => ?_)
  exact ad_ret h (Nat.le_of_ble_eq_true rfl) (Nat.le_of_ble_eq_true rfl) rfl dX4_init_32
def f_X10_init (t0 : Nat) (D : List CD) : Option (Int32 × List CD) := dna D 1 940 (fun D2 q1 => dpf D2 t0 10 0 (.inr (.inr (some q1))) (fun D3 => dpf D3 t0 10 1 (.inl 0) (fun D4 => dnw D4 7 (fun D6 q5 => dcal (f_X7_init q5 D6) (fun D7 => dpf D7 t0 10 2 (.inr (.inr (some q5))) (fun D8 => dpf D8 t0 10 3 (.inl 0) (fun D9 => dnw D9 8 (fun D11 q10 => dcal (f_X8_init q10 D11) (fun D12 => dpf D12 t0 10 4 (.inr (.inr (some q10))) (fun D13 => dna D13 5 2 (fun D15 q14 => dpf D15 t0 10 5 (.inr (.inr (some q14))) (fun D16 => dnw D16 0 (fun D18 q17 => dcal (f_X0_init q17 D18) (fun D19 => dpf D19 t0 10 6 (.inr (.inr (some q17))) (fun D20 => dnw D20 3 (fun D22 q21 => dcal (f_X3_init q21 D22) (fun D23 => dpf D23 t0 10 7 (.inr (.inr (some q21))) (fun D24 => dnw D24 5 (fun D26 q25 => dcal (f_X5_init q25 D26) (fun D27 => dpf D27 t0 10 8 (.inr (.inr (some q25))) (fun D28 => dnw D28 2 (fun D30 q29 => dcal (f_X2_init q29 D30) (fun D31 => dpf D31 t0 10 9 (.inr (.inr (some q29))) (fun D32 => dnw D32 9 (fun D34 q33 => dcal (f_X9_init q33 D34) (fun D35 => dpf D35 t0 10 10 (.inr (.inr (some q33))) (fun D36 => dnw D36 4 (fun D38 q37 => dcal (f_X4_init q37 D38) (fun D39 => dpf D39 t0 10 11 (.inr (.inr (some q37))) (fun D40 => dnw D40 6 (fun D42 q41 => dcal (f_X6_init q41 D42) (fun D43 => dpf D43 t0 10 12 (.inr (.inr (some q41))) (fun D44 => dpf D44 t0 10 13 (.inl (-1)) (fun D45 => dna D45 0 384 (fun D47 q46 => dpf D47 t0 10 14 (.inr (.inr (some q46))) (fun D48 => dpf D48 t0 10 15 (.inl 0) (fun D49 => dna D49 0 48 (fun D51 q50 => dpf D51 t0 10 16 (.inr (.inr (some q50))) (fun D52 => dna D52 0 5 (fun D54 q53 => das D54 q53 0 0 (.inl (-1)) (fun D55 => das D55 q53 0 1 (.inl (-1)) (fun D56 => das D56 q53 0 2 (.inl (-1)) (fun D57 => das D57 q53 0 3 (.inl (-1)) (fun D58 => das D58 q53 0 4 (.inl (-1)) (fun D59 => dpf D59 t0 10 17 (.inr (.inr (some q53))) (fun D60 => dgr D60 t0 10 5 (fun q61 => dnw D60 8 (fun D63 q62 => dcal (f_X8_init q62 D63) (fun D64 => daq D64 q62 8 q61 5 0 (fun D65 => dgr D65 t0 10 5 (fun q66 => dnw D65 8 (fun D68 q67 => dcal (f_X8_init q67 D68) (fun D69 => daq D69 q67 8 q66 5 1 (fun D70 => (rt 0 D70)))))))))))))))))))))))))))))))))))))))))))))))))))))))
set_option maxRecDepth 8000 in
theorem ct_X10_init {l : Launch} {G : GX} {Q : List CD → Prop} (t0 : Nat) (D : List CD) (h : SAT (f_X10_init t0 D) (fun _ c => Q c)) : CTD l G 4 229 11199 mt_X10_init [.ref (gS G + t0)] D Q := by
  refine ctd_of pn_X10 (Nat.le_of_ble_eq_true rfl) ?_
  show AD l G (rmE 4 229 11199) 0 0 mt_X10_init (ZD G Q 229 11199) 0 [(0, .ref (gS G + t0))] [] D
  unfold f_X10_init at h
  refine ad_aloadn 0 dX10_init_0 rfl ?_
  refine ad_oi we_40 we_2 wo_oi ⟨(Nat.le_of_ble_eq_true rfl), (Nat.le_of_ble_eq_true rfl)⟩ dX10_init_1 ?_
  refine ad_aloadn 0 dX10_init_4 rfl ?_
  refine ad_sipush (v := 940) dX10_init_5 (by decide) ?_
  refine ad_newa (atype := .byte) (t := 1) (len := 940) h (by decide) rfl we_41 (by decide) (by decide) (Nat.le_of_ble_eq_true rfl) (Nat.le_of_ble_eq_true rfl) (Nat.le_of_ble_eq_true rfl) dX10_init_8 (fun D2 q1 h => ?_)
  refine ad_pf (ci := 10) (x := 0) (v := (.inr (.inr (some q1)))) (ty := (.array .byte)) h rfl (Nat.le_of_ble_eq_true rfl) wd_31 rfl (by decide +kernel) rfl rfl rfl rfl dX10_init_10 (fun D3 h => ?_)
  refine ad_aloadn 0 dX10_init_13 rfl ?_
  refine ad_iconst (v := 0) dX10_init_14 (by decide) ?_
  refine ad_pf (ci := 10) (x := 1) (v := (.inl 0)) (ty := .int) h rfl (Nat.le_of_ble_eq_true rfl) wd_30 rfl (by decide +kernel) rfl rfl rfl rfl dX10_init_15 (fun D4 h => ?_)
  refine ad_aloadn 0 dX10_init_18 rfl ?_
  refine ad_new (ci := 7) h rfl tyX7_ok (by decide +kernel) rfl we_42 we_43 wd_500 (Nat.le_of_ble_eq_true rfl) (Nat.le_of_ble_eq_true rfl) dX10_init_19 (fun D6 q5 h => ?_)
  refine ad_dup dX10_init_22 rfl ?_
  refine ad_init (mtc := mt_X7_init) h (fun Q h => ct_X7_init q5 D6 h) mw_X7_init we_44 rfl rfl (Or.inl (List.mem_of_getElem? (i := 0) rfl)) ⟨(Nat.le_of_ble_eq_true rfl), (Nat.le_of_ble_eq_true rfl)⟩ (Nat.le_of_ble_eq_true rfl) (Nat.le_of_ble_eq_true rfl) (Nat.le_of_ble_eq_true rfl) dX10_init_23 (fun D7 h => ?_)
  refine ad_pf (ci := 10) (x := 2) (v := (.inr (.inr (some q5)))) (ty := .object "GaleBank$Text") h rfl (Nat.le_of_ble_eq_true rfl) wd_33 rfl (by decide +kernel) rfl rfl rfl rfl dX10_init_26 (fun D8 h => ?_)
  refine ad_aloadn 0 dX10_init_29 rfl ?_
  refine ad_iconst (v := 0) dX10_init_30 (by decide) ?_
  refine ad_pf (ci := 10) (x := 3) (v := (.inl 0)) (ty := .int) h rfl (Nat.le_of_ble_eq_true rfl) wd_123 rfl (by decide +kernel) rfl rfl rfl rfl dX10_init_31 (fun D9 h => ?_)
  refine ad_aloadn 0 dX10_init_34 rfl ?_
  refine ad_new (ci := 8) h rfl tyX8_ok (by decide +kernel) rfl we_45 we_46 wd_893 (Nat.le_of_ble_eq_true rfl) (Nat.le_of_ble_eq_true rfl) dX10_init_35 (fun D11 q10 h => ?_)
  refine ad_dup dX10_init_38 rfl ?_
  refine ad_init (mtc := mt_X8_init) h (fun Q h => ct_X8_init q10 D11 h) mw_X8_init we_47 rfl rfl (Or.inl (List.mem_of_getElem? (i := 1) rfl)) ⟨(Nat.le_of_ble_eq_true rfl), (Nat.le_of_ble_eq_true rfl)⟩ (Nat.le_of_ble_eq_true rfl) (Nat.le_of_ble_eq_true rfl) (Nat.le_of_ble_eq_true rfl) dX10_init_39 (fun D12 h => ?_)
  refine ad_pf (ci := 10) (x := 4) (v := (.inr (.inr (some q10)))) (ty := .object "GaleBank$Whole") h rfl (Nat.le_of_ble_eq_true rfl) wd_124 rfl (by decide +kernel) rfl rfl rfl rfl dX10_init_42 (fun D13 h => ?_)
  refine ad_aloadn 0 dX10_init_45 rfl ?_
  refine ad_iconst (v := 2) dX10_init_46 (by decide) ?_
  refine ad_newq (t := 5) (len := 2) h (by decide) rfl we_45 (by decide) (by decide) (Nat.le_of_ble_eq_true rfl) (Nat.le_of_ble_eq_true rfl) (Nat.le_of_ble_eq_true rfl) dX10_init_47 (by decide) (fun D15 q14 h => ?_)
  refine ad_pf (ci := 10) (x := 5) (v := (.inr (.inr (some q14)))) (ty := (.array (.object "GaleBank$Whole"))) h rfl (Nat.le_of_ble_eq_true rfl) wd_327 rfl (by decide +kernel) rfl rfl rfl rfl dX10_init_50 (fun D16 h => ?_)
  refine ad_aloadn 0 dX10_init_53 rfl ?_
  refine ad_new (ci := 0) h rfl tyX0_ok (by decide +kernel) rfl we_48 we_21 wd_572 (Nat.le_of_ble_eq_true rfl) (Nat.le_of_ble_eq_true rfl) dX10_init_54 (fun D18 q17 h => ?_)
  refine ad_dup dX10_init_57 rfl ?_
  refine ad_init (mtc := mt_X0_init) h (fun Q h => ct_X0_init q17 D18 h) mw_X0_init we_22 rfl rfl (Or.inl (List.mem_of_getElem? (i := 7) rfl)) ⟨(Nat.le_of_ble_eq_true rfl), (Nat.le_of_ble_eq_true rfl)⟩ (Nat.le_of_ble_eq_true rfl) (Nat.le_of_ble_eq_true rfl) (Nat.le_of_ble_eq_true rfl) dX10_init_58 (fun D19 h => ?_)
  refine ad_pf (ci := 10) (x := 6) (v := (.inr (.inr (some q17)))) (ty := .object "GaleBank$Bank") h rfl (Nat.le_of_ble_eq_true rfl) wd_51 rfl (by decide +kernel) rfl rfl rfl rfl dX10_init_61 (fun D20 h => ?_)
  refine ad_aloadn 0 dX10_init_64 rfl ?_
  refine ad_new (ci := 3) h rfl tyX3_ok (by decide +kernel) rfl we_49 we_27 wd_651 (Nat.le_of_ble_eq_true rfl) (Nat.le_of_ble_eq_true rfl) dX10_init_65 (fun D22 q21 h => ?_)
  refine ad_dup dX10_init_68 rfl ?_
  refine ad_init (mtc := mt_X3_init) h (fun Q h => ct_X3_init q21 D22 h) mw_X3_init we_28 rfl rfl (Or.inl (List.mem_of_getElem? (i := 8) rfl)) ⟨(Nat.le_of_ble_eq_true rfl), (Nat.le_of_ble_eq_true rfl)⟩ (Nat.le_of_ble_eq_true rfl) (Nat.le_of_ble_eq_true rfl) (Nat.le_of_ble_eq_true rfl) dX10_init_69 (fun D23 h => ?_)
  refine ad_pf (ci := 10) (x := 7) (v := (.inr (.inr (some q21)))) (ty := .object "GaleBank$Plan") h rfl (Nat.le_of_ble_eq_true rfl) wd_164 rfl (by decide +kernel) rfl rfl rfl rfl dX10_init_72 (fun D24 h => ?_)
  refine ad_aloadn 0 dX10_init_75 rfl ?_
  refine ad_new (ci := 5) h rfl tyX5_ok (by decide +kernel) rfl we_50 we_30 wd_516 (Nat.le_of_ble_eq_true rfl) (Nat.le_of_ble_eq_true rfl) dX10_init_76 (fun D26 q25 h => ?_)
  refine ad_dup dX10_init_79 rfl ?_
  refine ad_init (mtc := mt_X5_init) h (fun Q h => ct_X5_init q25 D26 h) mw_X5_init we_31 rfl rfl (Or.inl (List.mem_of_getElem? (i := 9) rfl)) ⟨(Nat.le_of_ble_eq_true rfl), (Nat.le_of_ble_eq_true rfl)⟩ (Nat.le_of_ble_eq_true rfl) (Nat.le_of_ble_eq_true rfl) (Nat.le_of_ble_eq_true rfl) dX10_init_80 (fun D27 h => ?_)
  refine ad_pf (ci := 10) (x := 8) (v := (.inr (.inr (some q25)))) (ty := .object "GaleBank$Sentence") h rfl (Nat.le_of_ble_eq_true rfl) wd_180 rfl (by decide +kernel) rfl rfl rfl rfl dX10_init_83 (fun D28 h => ?_)
  refine ad_aloadn 0 dX10_init_86 rfl ?_
  refine ad_new (ci := 2) h rfl tyX2_ok (by decide +kernel) rfl we_51 we_52 wd_644 (Nat.le_of_ble_eq_true rfl) (Nat.le_of_ble_eq_true rfl) dX10_init_87 (fun D30 q29 h => ?_)
  refine ad_dup dX10_init_90 rfl ?_
  refine ad_init (mtc := mt_X2_init) h (fun Q h => ct_X2_init q29 D30 h) mw_X2_init we_54 rfl rfl (Or.inr we_53) ⟨(Nat.le_of_ble_eq_true rfl), (Nat.le_of_ble_eq_true rfl)⟩ (Nat.le_of_ble_eq_true rfl) (Nat.le_of_ble_eq_true rfl) (Nat.le_of_ble_eq_true rfl) dX10_init_91 (fun D31 h => ?_)
  refine ad_pf (ci := 10) (x := 9) (v := (.inr (.inr (some q29)))) (ty := .object "GaleBank$Past") h rfl (Nat.le_of_ble_eq_true rfl) wd_157 rfl (by decide +kernel) rfl rfl rfl rfl dX10_init_94 (fun D32 h => ?_)
  refine ad_aloadn 0 dX10_init_97 rfl ?_
  refine ad_new (ci := 9) h rfl tyX9_ok (by decide +kernel) rfl we_55 we_56 wd_698 (Nat.le_of_ble_eq_true rfl) (Nat.le_of_ble_eq_true rfl) dX10_init_98 (fun D34 q33 h => ?_)
  refine ad_dup dX10_init_101 rfl ?_
  refine ad_init (mtc := mt_X9_init) h (fun Q h => ct_X9_init q33 D34 h) mw_X9_init we_57 rfl rfl (Or.inl (List.mem_of_getElem? (i := 11) rfl)) ⟨(Nat.le_of_ble_eq_true rfl), (Nat.le_of_ble_eq_true rfl)⟩ (Nat.le_of_ble_eq_true rfl) (Nat.le_of_ble_eq_true rfl) (Nat.le_of_ble_eq_true rfl) dX10_init_102 (fun D35 h => ?_)
  refine ad_pf (ci := 10) (x := 10) (v := (.inr (.inr (some q33)))) (ty := .object "GaleBank$Wind") h rfl (Nat.le_of_ble_eq_true rfl) wd_218 rfl (by decide +kernel) rfl rfl rfl rfl dX10_init_105 (fun D36 h => ?_)
  refine ad_aloadn 0 dX10_init_108 rfl ?_
  refine ad_new (ci := 4) h rfl tyX4_ok (by decide +kernel) rfl we_58 we_59 wd_805 (Nat.le_of_ble_eq_true rfl) (Nat.le_of_ble_eq_true rfl) dX10_init_109 (fun D38 q37 h => ?_)
  refine ad_dup dX10_init_112 rfl ?_
  refine ad_init (mtc := mt_X4_init) h (fun Q h => ct_X4_init q37 D38 h) mw_X4_init we_60 rfl rfl (Or.inl (List.mem_of_getElem? (i := 12) rfl)) ⟨(Nat.le_of_ble_eq_true rfl), (Nat.le_of_ble_eq_true rfl)⟩ (Nat.le_of_ble_eq_true rfl) (Nat.le_of_ble_eq_true rfl) (Nat.le_of_ble_eq_true rfl) dX10_init_113 (fun D39 h => ?_)
  refine ad_pf (ci := 10) (x := 11) (v := (.inr (.inr (some q37)))) (ty := .object "GaleBank$Plots") h rfl (Nat.le_of_ble_eq_true rfl) wd_160 rfl (by decide +kernel) rfl rfl rfl rfl dX10_init_116 (fun D40 h => ?_)
  refine ad_aloadn 0 dX10_init_119 rfl ?_
  refine ad_new (ci := 6) h rfl tyX6_ok (by decide +kernel) rfl we_61 we_24 wd_640 (Nat.le_of_ble_eq_true rfl) (Nat.le_of_ble_eq_true rfl) dX10_init_120 (fun D42 q41 h => ?_)
  refine ad_dup dX10_init_123 rfl ?_
  refine ad_init (mtc := mt_X6_init) h (fun Q h => ct_X6_init q41 D42 h) mw_X6_init we_25 rfl rfl (Or.inl (List.mem_of_getElem? (i := 13) rfl)) ⟨(Nat.le_of_ble_eq_true rfl), (Nat.le_of_ble_eq_true rfl)⟩ (Nat.le_of_ble_eq_true rfl) (Nat.le_of_ble_eq_true rfl) (Nat.le_of_ble_eq_true rfl) dX10_init_124 (fun D43 h => ?_)
  refine ad_pf (ci := 10) (x := 12) (v := (.inr (.inr (some q41)))) (ty := .object "GaleBank$State") h rfl (Nat.le_of_ble_eq_true rfl) wd_216 rfl (by decide +kernel) rfl rfl rfl rfl dX10_init_127 (fun D44 h => ?_)
  refine ad_aloadn 0 dX10_init_130 rfl ?_
  refine ad_iconst (v := (-1)) dX10_init_131 (by decide) ?_
  refine ad_pf (ci := 10) (x := 13) (v := (.inl (-1))) (ty := .int) h rfl (Nat.le_of_ble_eq_true rfl) wd_277 rfl (by decide +kernel) rfl rfl rfl rfl dX10_init_132 (fun D45 h => ?_)
  refine ad_aloadn 0 dX10_init_135 rfl ?_
  refine ad_sipush (v := 384) dX10_init_136 (by decide) ?_
  refine ad_newa (atype := .int) (t := 0) (len := 384) h (by decide) rfl we_3 (by decide) (by decide) (Nat.le_of_ble_eq_true rfl) (Nat.le_of_ble_eq_true rfl) (Nat.le_of_ble_eq_true rfl) dX10_init_139 (fun D47 q46 h => ?_)
  refine ad_pf (ci := 10) (x := 14) (v := (.inr (.inr (some q46)))) (ty := (.array .int)) h rfl (Nat.le_of_ble_eq_true rfl) wd_298 rfl (by decide +kernel) rfl rfl rfl rfl dX10_init_141 (fun D48 h => ?_)
  refine ad_aloadn 0 dX10_init_144 rfl ?_
  refine ad_iconst (v := 0) dX10_init_145 (by decide) ?_
  refine ad_pf (ci := 10) (x := 15) (v := (.inl 0)) (ty := .int) h rfl (Nat.le_of_ble_eq_true rfl) wd_292 rfl (by decide +kernel) rfl rfl rfl rfl dX10_init_146 (fun D49 h => ?_)
  refine ad_aloadn 0 dX10_init_149 rfl ?_
  refine ad_bipush (v := 48) dX10_init_150 (by decide) ?_
  refine ad_newa (atype := .int) (t := 0) (len := 48) h (by decide) rfl we_3 (by decide) (by decide) (Nat.le_of_ble_eq_true rfl) (Nat.le_of_ble_eq_true rfl) (Nat.le_of_ble_eq_true rfl) dX10_init_152 (fun D51 q50 h => ?_)
  refine ad_pf (ci := 10) (x := 16) (v := (.inr (.inr (some q50)))) (ty := (.array .int)) h rfl (Nat.le_of_ble_eq_true rfl) wd_300 rfl (by decide +kernel) rfl rfl rfl rfl dX10_init_154 (fun D52 h => ?_)
  refine ad_aloadn 0 dX10_init_157 rfl ?_
  refine ad_iconst (v := 5) dX10_init_158 (by decide) ?_
  refine ad_newa (atype := .int) (t := 0) (len := 5) h (by decide) rfl we_3 (by decide) (by decide) (Nat.le_of_ble_eq_true rfl) (Nat.le_of_ble_eq_true rfl) (Nat.le_of_ble_eq_true rfl) dX10_init_159 (fun D54 q53 h => ?_)
  refine ad_dup dX10_init_161 rfl ?_
  refine ad_iconst (v := 0) dX10_init_162 (by decide) ?_
  refine ad_iconst (v := (-1)) dX10_init_163 (by decide) ?_
  refine ad_iast (x := 0) h (by decide) (by decide) dX10_init_164 (fun D55 h => ?_)
  refine ad_dup dX10_init_165 rfl ?_
  refine ad_iconst (v := 1) dX10_init_166 (by decide) ?_
  refine ad_iconst (v := (-1)) dX10_init_167 (by decide) ?_
  refine ad_iast (x := 1) h (by decide) (by decide) dX10_init_168 (fun D56 h => ?_)
  refine ad_dup dX10_init_169 rfl ?_
  refine ad_iconst (v := 2) dX10_init_170 (by decide) ?_
  refine ad_iconst (v := (-1)) dX10_init_171 (by decide) ?_
  refine ad_iast (x := 2) h (by decide) (by decide) dX10_init_172 (fun D57 h => ?_)
  refine ad_dup dX10_init_173 rfl ?_
  refine ad_iconst (v := 3) dX10_init_174 (by decide) ?_
  refine ad_iconst (v := (-1)) dX10_init_175 (by decide) ?_
  refine ad_iast (x := 3) h (by decide) (by decide) dX10_init_176 (fun D58 h => ?_)
  refine ad_dup dX10_init_177 rfl ?_
  refine ad_iconst (v := 4) dX10_init_178 (by decide) ?_
  refine ad_iconst (v := (-1)) dX10_init_179 (by decide) ?_
  refine ad_iast (x := 4) h (by decide) (by decide) dX10_init_180 (fun D59 h => ?_)
  refine ad_pf (ci := 10) (x := 17) (v := (.inr (.inr (some q53)))) (ty := (.array .int)) h rfl (Nat.le_of_ble_eq_true rfl) wd_316 rfl (by decide +kernel) rfl rfl rfl rfl dX10_init_181 (fun D60 h => ?_)
  refine ad_iconst (v := 0) dX10_init_184 (by decide) ?_
  refine ad_istoren (lv' := [(0, .ref (gS G + t0)), (1, .int 0)]) dX10_init_185 rfl (Nat.le_of_ble_eq_true rfl) rfl ?_
  refine ad_iloadn 1 dX10_init_186 rfl ?_
  refine ad_iconst (v := 2) dX10_init_187 (by decide) ?_
  refine ad_icmp_ge (tgt := 210) dX10_init_188 (by decide) (fun h => absurd h (by decide)) (fun _ => ?_)
  refine ad_aloadn 0 dX10_init_191 rfl ?_
  refine ad_gr (ci := 10) (x := 5) h rfl (Nat.le_of_ble_eq_true rfl) wd_327 dX10_init_192 (fun q61 h => ?_)
  refine ad_iloadn 1 dX10_init_195 rfl ?_
  refine ad_new (ci := 8) h rfl tyX8_ok (by decide +kernel) rfl we_45 we_46 wd_893 (Nat.le_of_ble_eq_true rfl) (Nat.le_of_ble_eq_true rfl) dX10_init_196 (fun D63 q62 h => ?_)
  refine ad_dup dX10_init_199 rfl ?_
  refine ad_init (mtc := mt_X8_init) h (fun Q h => ct_X8_init q62 D63 h) mw_X8_init we_47 rfl rfl (Or.inl (List.mem_of_getElem? (i := 1) rfl)) ⟨(Nat.le_of_ble_eq_true rfl), (Nat.le_of_ble_eq_true rfl)⟩ (Nat.le_of_ble_eq_true rfl) (Nat.le_of_ble_eq_true rfl) (Nat.le_of_ble_eq_true rfl) dX10_init_200 (fun D64 h => ?_)
  refine ad_aast (fs := []) (ci := 8) (t := 5) (x := 0) h (by decide) rfl rfl (by decide) (by decide) rfl dX10_init_203 (fun D65 h => ?_)
  refine ad_iinc (q := 1) (v := 1) (lv' := [(0, .ref (gS G + t0)), (1, .int 1)]) dX10_init_204 rfl (by decide) rfl (Nat.le_of_ble_eq_true rfl) rfl ?_
  refine ad_goto (tgt := 186) dX10_init_207 (by decide) ?_
  refine ad_iloadn 1 dX10_init_186 rfl ?_
  refine ad_iconst (v := 2) dX10_init_187 (by decide) ?_
  refine ad_icmp_ge (tgt := 210) dX10_init_188 (by decide) (fun h => absurd h (by decide)) (fun _ => ?_)
  refine ad_aloadn 0 dX10_init_191 rfl ?_
  refine ad_gr (ci := 10) (x := 5) h rfl (Nat.le_of_ble_eq_true rfl) wd_327 dX10_init_192 (fun q66 h => ?_)
  refine ad_iloadn 1 dX10_init_195 rfl ?_
  refine ad_new (ci := 8) h rfl tyX8_ok (by decide +kernel) rfl we_45 we_46 wd_893 (Nat.le_of_ble_eq_true rfl) (Nat.le_of_ble_eq_true rfl) dX10_init_196 (fun D68 q67 h => ?_)
  refine ad_dup dX10_init_199 rfl ?_
  refine ad_init (mtc := mt_X8_init) h (fun Q h => ct_X8_init q67 D68 h) mw_X8_init we_47 rfl rfl (Or.inl (List.mem_of_getElem? (i := 1) rfl)) ⟨(Nat.le_of_ble_eq_true rfl), (Nat.le_of_ble_eq_true rfl)⟩ (Nat.le_of_ble_eq_true rfl) (Nat.le_of_ble_eq_true rfl) (Nat.le_of_ble_eq_true rfl) dX10_init_200 (fun D69 h => ?_)
  refine ad_aast (fs := []) (ci := 8) (t := 5) (x := 1) h (by decide) rfl rfl (by decide) (by decide) rfl dX10_init_203 (fun D70 h => ?_)
  refine ad_iinc (q := 1) (v := 2) (lv' := [(0, .ref (gS G + t0)), (1, .int 2)]) dX10_init_204 rfl (by decide) rfl (Nat.le_of_ble_eq_true rfl) rfl ?_
  refine ad_goto (tgt := 186) dX10_init_207 (by decide) ?_
  refine ad_iloadn 1 dX10_init_186 rfl ?_
  refine ad_iconst (v := 2) dX10_init_187 (by decide) ?_
  refine ad_icmp_ge (tgt := 210) dX10_init_188 (by decide) (fun _ => ?_) (fun h => absurd (by decide) h)
  exact ad_ret h (Nat.le_of_ble_eq_true rfl) (Nat.le_of_ble_eq_true rfl) rfl dX10_init_210
def f_X11_init (t0 : Nat) (D : List CD) : Option (Int32 × List CD) := dna D 1 940 (fun D2 q1 => dpf D2 t0 11 1 (.inr (.inr (some q1))) (fun D3 => dna D3 0 845 (fun D5 q4 => dpf D5 t0 11 6 (.inr (.inr (some q4))) (fun D6 => dna D6 0 371 (fun D8 q7 => dpf D8 t0 11 7 (.inr (.inr (some q7))) (fun D9 => dna D9 0 135 (fun D11 q10 => dpf D11 t0 11 8 (.inr (.inr (some q10))) (fun D12 => dna D12 3 16 (fun D14 q13 => dpf D14 t0 11 9 (.inr (.inr (some q13))) (fun D15 => dna D15 3 24 (fun D17 q16 => dpf D17 t0 11 10 (.inr (.inr (some q16))) (fun D18 => dna D18 0 8 (fun D20 q19 => dpf D20 t0 11 29 (.inr (.inr (some q19))) (fun D21 => dna D21 0 8 (fun D23 q22 => dpf D23 t0 11 30 (.inr (.inr (some q22))) (fun D24 => dna D24 0 172 (fun D26 q25 => dpf D26 t0 11 31 (.inr (.inr (some q25))) (fun D27 => dna D27 0 1376 (fun D29 q28 => dpf D29 t0 11 32 (.inr (.inr (some q28))) (fun D30 => dna D30 0 2048 (fun D32 q31 => dpf D32 t0 11 36 (.inr (.inr (some q31))) (fun D33 => dna D33 0 384 (fun D35 q34 => dpf D35 t0 11 37 (.inr (.inr (some q34))) (fun D36 => dna D36 0 5 (fun D38 q37 => dpf D38 t0 11 41 (.inr (.inr (some q37))) (fun D39 => dna D39 0 172 (fun D41 q40 => dpf D41 t0 11 42 (.inr (.inr (some q40))) (fun D42 => dna D42 0 45 (fun D44 q43 => dpf D44 t0 11 44 (.inr (.inr (some q43))) (fun D45 => dna D45 2 45 (fun D47 q46 => dpf D47 t0 11 50 (.inr (.inr (some q46))) (fun D48 => dna D48 0 1690 (fun D50 q49 => dpf D50 t0 11 51 (.inr (.inr (some q49))) (fun D51 => dna D51 3 16 (fun D53 q52 => dpf D53 t0 11 52 (.inr (.inr (some q52))) (fun D54 => dna D54 2 2 (fun D56 q55 => dpf D56 t0 11 53 (.inr (.inr (some q55))) (fun D57 => dgr D57 t0 11 10 (fun q58 => das D57 q58 3 0 (.inr (.inl 2036429412)) (fun D59 => dgr D59 t0 11 10 (fun q60 => das D59 q60 3 1 (.inr (.inl 478745093490)) (fun D61 => dgr D61 t0 11 10 (fun q62 => das D61 q62 3 2 (.inr (.inl 1986096741)) (fun D63 => dgr D63 t0 11 10 (fun q64 => das D63 q64 3 3 (.inr (.inl 1953654117)) (fun D65 => dgr D65 t0 11 10 (fun q66 => das D65 q66 3 4 (.inr (.inl 439788397413)) (fun D67 => dgr D67 t0 11 10 (fun q68 => das D67 q68 3 5 (.inr (.inl 1701078137)) (fun D69 => dgr D69 t0 11 10 (fun q70 => das D69 q70 3 6 (.inr (.inl 1735750516)) (fun D71 => dgr D71 t0 11 10 (fun q72 => das D71 q72 3 7 (.inr (.inl 1885430644)) (fun D73 => dgr D73 t0 11 10 (fun q74 => das D73 q74 3 8 (.inr (.inl 1886154612)) (fun D75 => dgr D75 t0 11 10 (fun q76 => das D75 q76 3 9 (.inr (.inl 7501166)) (fun D77 => dgr D77 t0 11 10 (fun q78 => das D77 q78 3 10 (.inr (.inl 7562612)) (fun D79 => dgr D79 t0 11 10 (fun q80 => das D79 q80 3 11 (.inr (.inl 1717922924)) (fun D81 => dgr D81 t0 11 10 (fun q82 => das D81 q82 3 12 (.inr (.inl 7301484)) (fun D83 => dgr D83 t0 11 10 (fun q84 => das D83 q84 3 13 (.inr (.inl 482905517684)) (fun D85 => dgr D85 t0 11 10 (fun q86 => das D85 q86 3 14 (.inr (.inl 1651273591)) (fun D87 => dgr D87 t0 11 10 (fun q88 => das D87 q88 3 15 (.inr (.inl 28530)) (fun D89 => dgr D89 t0 11 10 (fun q90 => das D89 q90 3 16 (.inr (.inl 6385252)) (fun D91 => dgr D91 t0 11 10 (fun q92 => das D91 q92 3 17 (.inr (.inl 7237492)) (fun D93 => dgr D93 t0 11 10 (fun q94 => das D93 q94 3 18 (.inr (.inl 439720568179)) (fun D95 => dgr D95 t0 11 10 (fun q96 => das D95 q96 3 19 (.inr (.inl 1735355492)) (fun D97 => dgr D97 t0 11 10 (fun q98 => das D97 q98 3 20 (.inr (.inl 483006772069)) (fun D99 => dgr D99 t0 11 10 (fun q100 => das D99 q100 3 21 (.inr (.inl 495874302827)) (fun D101 => dgr D101 t0 11 10 (fun q102 => das D101 q102 3 22 (.inr (.inl 6580594)) (fun D103 => dgr D103 t0 11 10 (fun q104 => das D103 q104 3 23 (.inr (.inl 482854658917)) (fun D105 => (rt 0 D105)))))))))))))))))))))))))))))))))))))))))))))))))))))))))))))))))))))))))))))))))))))))
set_option maxRecDepth 8000 in
theorem ct_X11_init {l : Launch} {G : GX} {Q : List CD → Prop} (t0 : Nat) (D : List CD) (h : SAT (f_X11_init t0 D) (fun _ c => Q c)) : CTD l G 1 19 8302 mt_X11_init [.ref (gS G + t0)] D Q := by
  refine ctd_of pn_X11 (Nat.le_of_ble_eq_true rfl) ?_
  show AD l G (rmE 1 19 8302) 0 0 mt_X11_init (ZD G Q 19 8302) 0 [(0, .ref (gS G + t0))] [] D
  unfold f_X11_init at h
  refine ad_aloadn 0 dX11_init_0 rfl ?_
  refine ad_oi we_63 we_2 wo_oi ⟨(Nat.le_of_ble_eq_true rfl), (Nat.le_of_ble_eq_true rfl)⟩ dX11_init_1 ?_
  refine ad_aloadn 0 dX11_init_4 rfl ?_
  refine ad_sipush (v := 940) dX11_init_5 (by decide) ?_
  refine ad_newa (atype := .byte) (t := 1) (len := 940) h (by decide) rfl we_41 (by decide) (by decide) (Nat.le_of_ble_eq_true rfl) (Nat.le_of_ble_eq_true rfl) (Nat.le_of_ble_eq_true rfl) dX11_init_8 (fun D2 q1 h => ?_)
  refine ad_pf (ci := 11) (x := 1) (v := (.inr (.inr (some q1)))) (ty := (.array .byte)) h rfl (Nat.le_of_ble_eq_true rfl) wd_346 rfl (by decide +kernel) rfl rfl rfl rfl dX11_init_10 (fun D3 h => ?_)
  refine ad_aloadn 0 dX11_init_13 rfl ?_
  refine ad_sipush (v := 845) dX11_init_14 (by decide) ?_
  refine ad_newa (atype := .int) (t := 0) (len := 845) h (by decide) rfl we_3 (by decide) (by decide) (Nat.le_of_ble_eq_true rfl) (Nat.le_of_ble_eq_true rfl) (Nat.le_of_ble_eq_true rfl) dX11_init_17 (fun D5 q4 h => ?_)
  refine ad_pf (ci := 11) (x := 6) (v := (.inr (.inr (some q4)))) (ty := (.array .int)) h rfl (Nat.le_of_ble_eq_true rfl) wd_406 rfl (by decide +kernel) rfl rfl rfl rfl dX11_init_19 (fun D6 h => ?_)
  refine ad_aloadn 0 dX11_init_22 rfl ?_
  refine ad_sipush (v := 371) dX11_init_23 (by decide) ?_
  refine ad_newa (atype := .int) (t := 0) (len := 371) h (by decide) rfl we_3 (by decide) (by decide) (Nat.le_of_ble_eq_true rfl) (Nat.le_of_ble_eq_true rfl) (Nat.le_of_ble_eq_true rfl) dX11_init_26 (fun D8 q7 h => ?_)
  refine ad_pf (ci := 11) (x := 7) (v := (.inr (.inr (some q7)))) (ty := (.array .int)) h rfl (Nat.le_of_ble_eq_true rfl) wd_370 rfl (by decide +kernel) rfl rfl rfl rfl dX11_init_28 (fun D9 h => ?_)
  refine ad_aloadn 0 dX11_init_31 rfl ?_
  refine ad_sipush (v := 135) dX11_init_32 (by decide) ?_
  refine ad_newa (atype := .int) (t := 0) (len := 135) h (by decide) rfl we_3 (by decide) (by decide) (Nat.le_of_ble_eq_true rfl) (Nat.le_of_ble_eq_true rfl) (Nat.le_of_ble_eq_true rfl) dX11_init_35 (fun D11 q10 h => ?_)
  refine ad_pf (ci := 11) (x := 8) (v := (.inr (.inr (some q10)))) (ty := (.array .int)) h rfl (Nat.le_of_ble_eq_true rfl) wd_462 rfl (by decide +kernel) rfl rfl rfl rfl dX11_init_37 (fun D12 h => ?_)
  refine ad_aloadn 0 dX11_init_40 rfl ?_
  refine ad_bipush (v := 16) dX11_init_41 (by decide) ?_
  refine ad_newa (atype := .long) (t := 3) (len := 16) h (by decide) rfl we_64 (by decide) (by decide) (Nat.le_of_ble_eq_true rfl) (Nat.le_of_ble_eq_true rfl) (Nat.le_of_ble_eq_true rfl) dX11_init_43 (fun D14 q13 h => ?_)
  refine ad_pf (ci := 11) (x := 9) (v := (.inr (.inr (some q13)))) (ty := (.array .long)) h rfl (Nat.le_of_ble_eq_true rfl) wd_390 rfl (by decide +kernel) rfl rfl rfl rfl dX11_init_45 (fun D15 h => ?_)
  refine ad_aloadn 0 dX11_init_48 rfl ?_
  refine ad_bipush (v := 24) dX11_init_49 (by decide) ?_
  refine ad_newa (atype := .long) (t := 3) (len := 24) h (by decide) rfl we_64 (by decide) (by decide) (Nat.le_of_ble_eq_true rfl) (Nat.le_of_ble_eq_true rfl) (Nat.le_of_ble_eq_true rfl) dX11_init_51 (fun D17 q16 h => ?_)
  refine ad_pf (ci := 11) (x := 10) (v := (.inr (.inr (some q16)))) (ty := (.array .long)) h rfl (Nat.le_of_ble_eq_true rfl) wd_388 rfl (by decide +kernel) rfl rfl rfl rfl dX11_init_53 (fun D18 h => ?_)
  refine ad_aloadn 0 dX11_init_56 rfl ?_
  refine ad_bipush (v := 8) dX11_init_57 (by decide) ?_
  refine ad_newa (atype := .int) (t := 0) (len := 8) h (by decide) rfl we_3 (by decide) (by decide) (Nat.le_of_ble_eq_true rfl) (Nat.le_of_ble_eq_true rfl) (Nat.le_of_ble_eq_true rfl) dX11_init_59 (fun D20 q19 h => ?_)
  refine ad_pf (ci := 11) (x := 29) (v := (.inr (.inr (some q19)))) (ty := (.array .int)) h rfl (Nat.le_of_ble_eq_true rfl) wd_429 rfl (by decide +kernel) rfl rfl rfl rfl dX11_init_61 (fun D21 h => ?_)
  refine ad_aloadn 0 dX11_init_64 rfl ?_
  refine ad_bipush (v := 8) dX11_init_65 (by decide) ?_
  refine ad_newa (atype := .int) (t := 0) (len := 8) h (by decide) rfl we_3 (by decide) (by decide) (Nat.le_of_ble_eq_true rfl) (Nat.le_of_ble_eq_true rfl) (Nat.le_of_ble_eq_true rfl) dX11_init_67 (fun D23 q22 h => ?_)
  refine ad_pf (ci := 11) (x := 30) (v := (.inr (.inr (some q22)))) (ty := (.array .int)) h rfl (Nat.le_of_ble_eq_true rfl) wd_430 rfl (by decide +kernel) rfl rfl rfl rfl dX11_init_69 (fun D24 h => ?_)
  refine ad_aloadn 0 dX11_init_72 rfl ?_
  refine ad_sipush (v := 172) dX11_init_73 (by decide) ?_
  refine ad_newa (atype := .int) (t := 0) (len := 172) h (by decide) rfl we_3 (by decide) (by decide) (Nat.le_of_ble_eq_true rfl) (Nat.le_of_ble_eq_true rfl) (Nat.le_of_ble_eq_true rfl) dX11_init_76 (fun D26 q25 h => ?_)
  refine ad_pf (ci := 11) (x := 31) (v := (.inr (.inr (some q25)))) (ty := (.array .int)) h rfl (Nat.le_of_ble_eq_true rfl) wd_423 rfl (by decide +kernel) rfl rfl rfl rfl dX11_init_78 (fun D27 h => ?_)
  refine ad_aloadn 0 dX11_init_81 rfl ?_
  refine ad_sipush (v := 1376) dX11_init_82 (by decide) ?_
  refine ad_newa (atype := .int) (t := 0) (len := 1376) h (by decide) rfl we_3 (by decide) (by decide) (Nat.le_of_ble_eq_true rfl) (Nat.le_of_ble_eq_true rfl) (Nat.le_of_ble_eq_true rfl) dX11_init_85 (fun D29 q28 h => ?_)
  refine ad_pf (ci := 11) (x := 32) (v := (.inr (.inr (some q28)))) (ty := (.array .int)) h rfl (Nat.le_of_ble_eq_true rfl) wd_434 rfl (by decide +kernel) rfl rfl rfl rfl dX11_init_87 (fun D30 h => ?_)
  refine ad_aloadn 0 dX11_init_90 rfl ?_
  refine ad_sipush (v := 2048) dX11_init_91 (by decide) ?_
  refine ad_newa (atype := .int) (t := 0) (len := 2048) h (by decide) rfl we_3 (by decide) (by decide) (Nat.le_of_ble_eq_true rfl) (Nat.le_of_ble_eq_true rfl) (Nat.le_of_ble_eq_true rfl) dX11_init_94 (fun D32 q31 h => ?_)
  refine ad_pf (ci := 11) (x := 36) (v := (.inr (.inr (some q31)))) (ty := (.array .int)) h rfl (Nat.le_of_ble_eq_true rfl) wd_452 rfl (by decide +kernel) rfl rfl rfl rfl dX11_init_96 (fun D33 h => ?_)
  refine ad_aloadn 0 dX11_init_99 rfl ?_
  refine ad_sipush (v := 384) dX11_init_100 (by decide) ?_
  refine ad_newa (atype := .int) (t := 0) (len := 384) h (by decide) rfl we_3 (by decide) (by decide) (Nat.le_of_ble_eq_true rfl) (Nat.le_of_ble_eq_true rfl) (Nat.le_of_ble_eq_true rfl) dX11_init_103 (fun D35 q34 h => ?_)
  refine ad_pf (ci := 11) (x := 37) (v := (.inr (.inr (some q34)))) (ty := (.array .int)) h rfl (Nat.le_of_ble_eq_true rfl) wd_456 rfl (by decide +kernel) rfl rfl rfl rfl dX11_init_105 (fun D36 h => ?_)
  refine ad_aloadn 0 dX11_init_108 rfl ?_
  refine ad_iconst (v := 5) dX11_init_109 (by decide) ?_
  refine ad_newa (atype := .int) (t := 0) (len := 5) h (by decide) rfl we_3 (by decide) (by decide) (Nat.le_of_ble_eq_true rfl) (Nat.le_of_ble_eq_true rfl) (Nat.le_of_ble_eq_true rfl) dX11_init_110 (fun D38 q37 h => ?_)
  refine ad_pf (ci := 11) (x := 41) (v := (.inr (.inr (some q37)))) (ty := (.array .int)) h rfl (Nat.le_of_ble_eq_true rfl) wd_470 rfl (by decide +kernel) rfl rfl rfl rfl dX11_init_112 (fun D39 h => ?_)
  refine ad_aloadn 0 dX11_init_115 rfl ?_
  refine ad_sipush (v := 172) dX11_init_116 (by decide) ?_
  refine ad_newa (atype := .int) (t := 0) (len := 172) h (by decide) rfl we_3 (by decide) (by decide) (Nat.le_of_ble_eq_true rfl) (Nat.le_of_ble_eq_true rfl) (Nat.le_of_ble_eq_true rfl) dX11_init_119 (fun D41 q40 h => ?_)
  refine ad_pf (ci := 11) (x := 42) (v := (.inr (.inr (some q40)))) (ty := (.array .int)) h rfl (Nat.le_of_ble_eq_true rfl) wd_469 rfl (by decide +kernel) rfl rfl rfl rfl dX11_init_121 (fun D42 h => ?_)
  refine ad_aloadn 0 dX11_init_124 rfl ?_
  refine ad_bipush (v := 45) dX11_init_125 (by decide) ?_
  refine ad_newa (atype := .int) (t := 0) (len := 45) h (by decide) rfl we_3 (by decide) (by decide) (Nat.le_of_ble_eq_true rfl) (Nat.le_of_ble_eq_true rfl) (Nat.le_of_ble_eq_true rfl) dX11_init_127 (fun D44 q43 h => ?_)
  refine ad_pf (ci := 11) (x := 44) (v := (.inr (.inr (some q43)))) (ty := (.array .int)) h rfl (Nat.le_of_ble_eq_true rfl) wd_478 rfl (by decide +kernel) rfl rfl rfl rfl dX11_init_129 (fun D45 h => ?_)
  refine ad_aloadn 0 dX11_init_132 rfl ?_
  refine ad_bipush (v := 45) dX11_init_133 (by decide) ?_
  refine ad_newa (atype := .boolean) (t := 2) (len := 45) h (by decide) rfl we_65 (by decide) (by decide) (Nat.le_of_ble_eq_true rfl) (Nat.le_of_ble_eq_true rfl) (Nat.le_of_ble_eq_true rfl) dX11_init_135 (fun D47 q46 h => ?_)
  refine ad_pf (ci := 11) (x := 50) (v := (.inr (.inr (some q46)))) (ty := (.array .boolean)) h rfl (Nat.le_of_ble_eq_true rfl) wd_494 rfl (by decide +kernel) rfl rfl rfl rfl dX11_init_137 (fun D48 h => ?_)
  refine ad_aloadn 0 dX11_init_140 rfl ?_
  refine ad_sipush (v := 1690) dX11_init_141 (by decide) ?_
  refine ad_newa (atype := .int) (t := 0) (len := 1690) h (by decide) rfl we_3 (by decide) (by decide) (Nat.le_of_ble_eq_true rfl) (Nat.le_of_ble_eq_true rfl) (Nat.le_of_ble_eq_true rfl) dX11_init_144 (fun D50 q49 h => ?_)
  refine ad_pf (ci := 11) (x := 51) (v := (.inr (.inr (some q49)))) (ty := (.array .int)) h rfl (Nat.le_of_ble_eq_true rfl) wd_497 rfl (by decide +kernel) rfl rfl rfl rfl dX11_init_146 (fun D51 h => ?_)
  refine ad_aloadn 0 dX11_init_149 rfl ?_
  refine ad_bipush (v := 16) dX11_init_150 (by decide) ?_
  refine ad_newa (atype := .long) (t := 3) (len := 16) h (by decide) rfl we_64 (by decide) (by decide) (Nat.le_of_ble_eq_true rfl) (Nat.le_of_ble_eq_true rfl) (Nat.le_of_ble_eq_true rfl) dX11_init_152 (fun D53 q52 h => ?_)
  refine ad_pf (ci := 11) (x := 52) (v := (.inr (.inr (some q52)))) (ty := (.array .long)) h rfl (Nat.le_of_ble_eq_true rfl) wd_499 rfl (by decide +kernel) rfl rfl rfl rfl dX11_init_154 (fun D54 h => ?_)
  refine ad_aloadn 0 dX11_init_157 rfl ?_
  refine ad_iconst (v := 2) dX11_init_158 (by decide) ?_
  refine ad_newa (atype := .boolean) (t := 2) (len := 2) h (by decide) rfl we_65 (by decide) (by decide) (Nat.le_of_ble_eq_true rfl) (Nat.le_of_ble_eq_true rfl) (Nat.le_of_ble_eq_true rfl) dX11_init_159 (fun D56 q55 h => ?_)
  refine ad_pf (ci := 11) (x := 53) (v := (.inr (.inr (some q55)))) (ty := (.array .boolean)) h rfl (Nat.le_of_ble_eq_true rfl) wd_498 rfl (by decide +kernel) rfl rfl rfl rfl dX11_init_161 (fun D57 h => ?_)
  refine ad_aloadn 0 dX11_init_164 rfl ?_
  refine ad_gr (ci := 11) (x := 10) h rfl (Nat.le_of_ble_eq_true rfl) wd_388 dX11_init_165 (fun q58 h => ?_)
  refine ad_iconst (v := 0) dX11_init_168 (by decide) ?_
  refine ad_ldc2 wd_371 dX11_init_169 ?_
  refine ad_last (x := 0) h (by decide) (by decide) dX11_init_172 (fun D59 h => ?_)
  refine ad_aloadn 0 dX11_init_173 rfl ?_
  refine ad_gr (ci := 11) (x := 10) h rfl (Nat.le_of_ble_eq_true rfl) wd_388 dX11_init_174 (fun q60 h => ?_)
  refine ad_iconst (v := 1) dX11_init_177 (by decide) ?_
  refine ad_ldc2 wd_373 dX11_init_178 ?_
  refine ad_last (x := 1) h (by decide) (by decide) dX11_init_181 (fun D61 h => ?_)
  refine ad_aloadn 0 dX11_init_182 rfl ?_
  refine ad_gr (ci := 11) (x := 10) h rfl (Nat.le_of_ble_eq_true rfl) wd_388 dX11_init_183 (fun q62 h => ?_)
  refine ad_iconst (v := 2) dX11_init_186 (by decide) ?_
  refine ad_ldc2 wd_374 dX11_init_187 ?_
  refine ad_last (x := 2) h (by decide) (by decide) dX11_init_190 (fun D63 h => ?_)
  refine ad_aloadn 0 dX11_init_191 rfl ?_
  refine ad_gr (ci := 11) (x := 10) h rfl (Nat.le_of_ble_eq_true rfl) wd_388 dX11_init_192 (fun q64 h => ?_)
  refine ad_iconst (v := 3) dX11_init_195 (by decide) ?_
  refine ad_ldc2 wd_375 dX11_init_196 ?_
  refine ad_last (x := 3) h (by decide) (by decide) dX11_init_199 (fun D65 h => ?_)
  refine ad_aloadn 0 dX11_init_200 rfl ?_
  refine ad_gr (ci := 11) (x := 10) h rfl (Nat.le_of_ble_eq_true rfl) wd_388 dX11_init_201 (fun q66 h => ?_)
  refine ad_iconst (v := 4) dX11_init_204 (by decide) ?_
  refine ad_ldc2 wd_376 dX11_init_205 ?_
  refine ad_last (x := 4) h (by decide) (by decide) dX11_init_208 (fun D67 h => ?_)
  refine ad_aloadn 0 dX11_init_209 rfl ?_
  refine ad_gr (ci := 11) (x := 10) h rfl (Nat.le_of_ble_eq_true rfl) wd_388 dX11_init_210 (fun q68 h => ?_)
  refine ad_iconst (v := 5) dX11_init_213 (by decide) ?_
  refine ad_ldc2 wd_377 dX11_init_214 ?_
  refine ad_last (x := 5) h (by decide) (by decide) dX11_init_217 (fun D69 h => ?_)
  refine ad_aloadn 0 dX11_init_218 rfl ?_
  refine ad_gr (ci := 11) (x := 10) h rfl (Nat.le_of_ble_eq_true rfl) wd_388 dX11_init_219 (fun q70 h => ?_)
  refine ad_bipush (v := 6) dX11_init_222 (by decide) ?_
  refine ad_ldc2 wd_378 dX11_init_224 ?_
  refine ad_last (x := 6) h (by decide) (by decide) dX11_init_227 (fun D71 h => ?_)
  refine ad_aloadn 0 dX11_init_228 rfl ?_
  refine ad_gr (ci := 11) (x := 10) h rfl (Nat.le_of_ble_eq_true rfl) wd_388 dX11_init_229 (fun q72 h => ?_)
  refine ad_bipush (v := 7) dX11_init_232 (by decide) ?_
  refine ad_ldc2 wd_379 dX11_init_234 ?_
  refine ad_last (x := 7) h (by decide) (by decide) dX11_init_237 (fun D73 h => ?_)
  refine ad_aloadn 0 dX11_init_238 rfl ?_
  refine ad_gr (ci := 11) (x := 10) h rfl (Nat.le_of_ble_eq_true rfl) wd_388 dX11_init_239 (fun q74 h => ?_)
  refine ad_bipush (v := 8) dX11_init_242 (by decide) ?_
  refine ad_ldc2 wd_380 dX11_init_244 ?_
  refine ad_last (x := 8) h (by decide) (by decide) dX11_init_247 (fun D75 h => ?_)
  refine ad_aloadn 0 dX11_init_248 rfl ?_
  refine ad_gr (ci := 11) (x := 10) h rfl (Nat.le_of_ble_eq_true rfl) wd_388 dX11_init_249 (fun q76 h => ?_)
  refine ad_bipush (v := 9) dX11_init_252 (by decide) ?_
  refine ad_ldc2 wd_381 dX11_init_254 ?_
  refine ad_last (x := 9) h (by decide) (by decide) dX11_init_257 (fun D77 h => ?_)
  refine ad_aloadn 0 dX11_init_258 rfl ?_
  refine ad_gr (ci := 11) (x := 10) h rfl (Nat.le_of_ble_eq_true rfl) wd_388 dX11_init_259 (fun q78 h => ?_)
  refine ad_bipush (v := 10) dX11_init_262 (by decide) ?_
  refine ad_ldc2 wd_463 dX11_init_264 ?_
  refine ad_last (x := 10) h (by decide) (by decide) dX11_init_267 (fun D79 h => ?_)
  refine ad_aloadn 0 dX11_init_268 rfl ?_
  refine ad_gr (ci := 11) (x := 10) h rfl (Nat.le_of_ble_eq_true rfl) wd_388 dX11_init_269 (fun q80 h => ?_)
  refine ad_bipush (v := 11) dX11_init_272 (by decide) ?_
  refine ad_ldc2 wd_464 dX11_init_274 ?_
  refine ad_last (x := 11) h (by decide) (by decide) dX11_init_277 (fun D81 h => ?_)
  refine ad_aloadn 0 dX11_init_278 rfl ?_
  refine ad_gr (ci := 11) (x := 10) h rfl (Nat.le_of_ble_eq_true rfl) wd_388 dX11_init_279 (fun q82 h => ?_)
  refine ad_bipush (v := 12) dX11_init_282 (by decide) ?_
  refine ad_ldc2 wd_465 dX11_init_284 ?_
  refine ad_last (x := 12) h (by decide) (by decide) dX11_init_287 (fun D83 h => ?_)
  refine ad_aloadn 0 dX11_init_288 rfl ?_
  refine ad_gr (ci := 11) (x := 10) h rfl (Nat.le_of_ble_eq_true rfl) wd_388 dX11_init_289 (fun q84 h => ?_)
  refine ad_bipush (v := 13) dX11_init_292 (by decide) ?_
  refine ad_ldc2 wd_466 dX11_init_294 ?_
  refine ad_last (x := 13) h (by decide) (by decide) dX11_init_297 (fun D85 h => ?_)
  refine ad_aloadn 0 dX11_init_298 rfl ?_
  refine ad_gr (ci := 11) (x := 10) h rfl (Nat.le_of_ble_eq_true rfl) wd_388 dX11_init_299 (fun q86 h => ?_)
  refine ad_bipush (v := 14) dX11_init_302 (by decide) ?_
  refine ad_ldc2 wd_467 dX11_init_304 ?_
  refine ad_last (x := 14) h (by decide) (by decide) dX11_init_307 (fun D87 h => ?_)
  refine ad_aloadn 0 dX11_init_308 rfl ?_
  refine ad_gr (ci := 11) (x := 10) h rfl (Nat.le_of_ble_eq_true rfl) wd_388 dX11_init_309 (fun q88 h => ?_)
  refine ad_bipush (v := 15) dX11_init_312 (by decide) ?_
  refine ad_ldc2 wd_492 dX11_init_314 ?_
  refine ad_last (x := 15) h (by decide) (by decide) dX11_init_317 (fun D89 h => ?_)
  refine ad_aloadn 0 dX11_init_318 rfl ?_
  refine ad_gr (ci := 11) (x := 10) h rfl (Nat.le_of_ble_eq_true rfl) wd_388 dX11_init_319 (fun q90 h => ?_)
  refine ad_bipush (v := 16) dX11_init_322 (by decide) ?_
  refine ad_ldc2 wd_491 dX11_init_324 ?_
  refine ad_last (x := 16) h (by decide) (by decide) dX11_init_327 (fun D91 h => ?_)
  refine ad_aloadn 0 dX11_init_328 rfl ?_
  refine ad_gr (ci := 11) (x := 10) h rfl (Nat.le_of_ble_eq_true rfl) wd_388 dX11_init_329 (fun q92 h => ?_)
  refine ad_bipush (v := 17) dX11_init_332 (by decide) ?_
  refine ad_ldc2 wd_482 dX11_init_334 ?_
  refine ad_last (x := 17) h (by decide) (by decide) dX11_init_337 (fun D93 h => ?_)
  refine ad_aloadn 0 dX11_init_338 rfl ?_
  refine ad_gr (ci := 11) (x := 10) h rfl (Nat.le_of_ble_eq_true rfl) wd_388 dX11_init_339 (fun q94 h => ?_)
  refine ad_bipush (v := 18) dX11_init_342 (by decide) ?_
  refine ad_ldc2 wd_483 dX11_init_344 ?_
  refine ad_last (x := 18) h (by decide) (by decide) dX11_init_347 (fun D95 h => ?_)
  refine ad_aloadn 0 dX11_init_348 rfl ?_
  refine ad_gr (ci := 11) (x := 10) h rfl (Nat.le_of_ble_eq_true rfl) wd_388 dX11_init_349 (fun q96 h => ?_)
  refine ad_bipush (v := 19) dX11_init_352 (by decide) ?_
  refine ad_ldc2 wd_484 dX11_init_354 ?_
  refine ad_last (x := 19) h (by decide) (by decide) dX11_init_357 (fun D97 h => ?_)
  refine ad_aloadn 0 dX11_init_358 rfl ?_
  refine ad_gr (ci := 11) (x := 10) h rfl (Nat.le_of_ble_eq_true rfl) wd_388 dX11_init_359 (fun q98 h => ?_)
  refine ad_bipush (v := 20) dX11_init_362 (by decide) ?_
  refine ad_ldc2 wd_485 dX11_init_364 ?_
  refine ad_last (x := 20) h (by decide) (by decide) dX11_init_367 (fun D99 h => ?_)
  refine ad_aloadn 0 dX11_init_368 rfl ?_
  refine ad_gr (ci := 11) (x := 10) h rfl (Nat.le_of_ble_eq_true rfl) wd_388 dX11_init_369 (fun q100 h => ?_)
  refine ad_bipush (v := 21) dX11_init_372 (by decide) ?_
  refine ad_ldc2 wd_486 dX11_init_374 ?_
  refine ad_last (x := 21) h (by decide) (by decide) dX11_init_377 (fun D101 h => ?_)
  refine ad_aloadn 0 dX11_init_378 rfl ?_
  refine ad_gr (ci := 11) (x := 10) h rfl (Nat.le_of_ble_eq_true rfl) wd_388 dX11_init_379 (fun q102 h => ?_)
  refine ad_bipush (v := 22) dX11_init_382 (by decide) ?_
  refine ad_ldc2 wd_487 dX11_init_384 ?_
  refine ad_last (x := 22) h (by decide) (by decide) dX11_init_387 (fun D103 h => ?_)
  refine ad_aloadn 0 dX11_init_388 rfl ?_
  refine ad_gr (ci := 11) (x := 10) h rfl (Nat.le_of_ble_eq_true rfl) wd_388 dX11_init_389 (fun q104 h => ?_)
  refine ad_bipush (v := 23) dX11_init_392 (by decide) ?_
  refine ad_ldc2 wd_488 dX11_init_394 ?_
  refine ad_last (x := 23) h (by decide) (by decide) dX11_init_397 (fun D105 h => ?_)
  exact ad_ret h (Nat.le_of_ble_eq_true rfl) (Nat.le_of_ble_eq_true rfl) rfl dX11_init_398
