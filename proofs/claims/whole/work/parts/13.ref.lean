def f_X11_thrown (X : XM) : Option (Int32 × XM) := (rt (X.1 0 0) X)
set_option maxRecDepth 8000 in
theorem t_X11_thrown_0 {l : Launch} {G : GX} {C : CM} {Q : Int32 → Mem → Prop} (X : XM) (h : SAT (f_X11_thrown X) (fun v c => Q v (C, c))) : AB l G (rmD 1) 0 0 mt_X11_thrown (ZQ G mt_X11_thrown Q) 0 [(0, .ref (gA G 10 0 0))] [] (C, X) := by
  unfold f_X11_thrown at h
  refine ab_aloadn 0 dX11_thrown_0 rfl ?_
  refine fX_gi (x := 0) ⟨by decide, by decide⟩ rfl rfl (Nat.le_of_ble_eq_true rfl) wd_344 rfl dX11_thrown_1 ?_
  exact fX_iret h rfl rfl dX11_thrown_4
theorem ct_X11_thrown {l : Launch} {G : GX} {C : CM} {Q : Int32 → Mem → Prop} (X : XM) (h : SAT (f_X11_thrown X) (fun v c => Q v (C, c))) : CT l G 1 mt_X11_thrown [.ref (gA G 10 0 0)] (C, X) Q := ct_of pn_X11 (Nat.le_of_ble_eq_true rfl) (t_X11_thrown_0 X h)
def f_X11_four_3 (N : Nat) (a1 : Int32) : Nat → Int32 → XM → Option (Int32 × XM)
  | 0, _, _ => none
  | n + 1, a2, X => (if a2 < 0 then (rt 0 X) else sxA X 1 940 (X.1 0 2) (nrB (Int8.toInt32 (Int32.toInt8 (a1 >>> (a2 &&& 31))))) (fun X2 => bnd (stX X2 0 2 ((X2.1 0 2) + 1)) (fun X3 => (f_X11_four_3 N a1 n (a2 - 8) X3))))
def f_X11_four (N : Nat) (a1 : Int32) (X : XM) : Option (Int32 × XM) := (f_X11_four_3 N a1 N 24 X)
set_option maxRecDepth 8000 in
theorem t_X11_four_3 {l : Launch} {G : GX} {C : CM} {Q : Int32 → Mem → Prop} (N : Nat) (a1 : Int32) : ∀ (n : Nat) (a2 : Int32) (X : XM), SAT (f_X11_four_3 N a1 n a2 X) (fun v c => Q v (C, c)) → AB l G (rmD 1) 0 0 mt_X11_four (ZQ G mt_X11_four Q) 3 [(0, .ref (gA G 10 0 0)), (1, .int a1), (2, .int a2)] [] (C, X) := by
  intro n
  induction n with
  | zero => intro a2 X h; exact h.elim
  | succ n ih =>
    intro a2 X h
    rw [f_X11_four_3] at h
    refine ab_iloadn 2 dX11_four_3 rfl ?_
    refine ab_if_lt (tgt := 36) dX11_four_4 (by decide) (fun hc1 => ?_) (fun hc1 => ?_)
    · have h := sat_t hc1 h
      exact fX_vret h rfl dX11_four_36
    · have h := sat_f hc1 h
      refine ab_aloadn 0 dX11_four_7 rfl ?_
      refine f_gr (x := 1) (k2 := 10) (i2 := 0) (j2 := 1) ⟨by decide, by decide⟩ rfl rfl (Nat.le_of_ble_eq_true rfl) wd_346 rfl rfl dX11_four_8 ?_
      refine ab_aloadn 0 dX11_four_11 rfl ?_
      refine fX_gi (x := 2) ⟨by decide, by decide⟩ rfl rfl (Nat.le_of_ble_eq_true rfl) wd_345 rfl dX11_four_12 ?_
      refine ab_iloadn 1 dX11_four_15 rfl ?_
      refine ab_iloadn 2 dX11_four_16 rfl ?_
      refine ab_ishr dX11_four_17 ?_
      refine ab_i2b dX11_four_18 ?_
      refine fX_bast ⟨by decide, by decide⟩ rfl (fun _ => rfl) h dX11_four_19 (fun X2 h => ?_)
      refine ab_aloadn 0 dX11_four_20 rfl ?_
      refine ab_dup dX11_four_21 rfl ?_
      refine fX_gi (x := 2) ⟨by decide, by decide⟩ rfl rfl (Nat.le_of_ble_eq_true rfl) wd_345 rfl dX11_four_22 ?_
      refine ab_iconst (v := 1) dX11_four_25 (by decide) ?_
      refine ab_iadd dX11_four_26 ?_
      refine fX_pi (x := 2) (ty := .int) ⟨by decide, by decide⟩ rfl rfl (Nat.le_of_ble_eq_true rfl) wd_345 rfl h rfl (by decide +kernel) rfl rfl dX11_four_27 (fun X3 h => ?_)
      refine ab_iinc (q := 2) (v := (a2 - 8)) (lv' := [(0, .ref (gA G 10 0 0)), (1, .int a1), (2, .int (a2 - 8))]) dX11_four_30 rfl (ii_m8 _) rfl (Nat.le_of_ble_eq_true rfl) rfl ?_
      refine ab_goto (tgt := 3) dX11_four_33 (by decide) ?_
      exact ih (a2 - 8) X3 h
set_option maxRecDepth 8000 in
theorem t_X11_four_0 {l : Launch} {G : GX} {C : CM} {Q : Int32 → Mem → Prop} (N : Nat) (a1 : Int32) (X : XM) (h : SAT (f_X11_four N a1 X) (fun v c => Q v (C, c))) : AB l G (rmD 1) 0 0 mt_X11_four (ZQ G mt_X11_four Q) 0 [(0, .ref (gA G 10 0 0)), (1, .int a1)] [] (C, X) := by
  unfold f_X11_four at h
  refine ab_bipush (v := 24) dX11_four_0 (by decide) ?_
  refine ab_istoren (lv' := [(0, .ref (gA G 10 0 0)), (1, .int a1), (2, .int 24)]) dX11_four_2 rfl (Nat.le_of_ble_eq_true rfl) rfl ?_
  exact t_X11_four_3 N a1 N 24 X h
theorem ct_X11_four {l : Launch} {G : GX} {C : CM} {Q : Int32 → Mem → Prop} (N : Nat) (a1 : Int32) (X : XM) (h : SAT (f_X11_four N a1 X) (fun v c => Q v (C, c))) : CT l G 1 mt_X11_four [.ref (gA G 10 0 0), .int a1] (C, X) Q := ct_of pn_X11 (Nat.le_of_ble_eq_true rfl) (t_X11_four_0 N a1 X h)
def f_X11_feed (N : Nat) (a1 : Int32) (a2 : Int32) (a3 : Int32) (a4 : Int32) (a5 : Int32) (X : XM) : Option (Int32 × XM) := bnd (stX X 0 0 0) (fun X1 => (if ((X1.1 0 2) + 20) ≤ 940 then cal (f_X11_four N a1 X1) (fun v3 X4 => cal (f_X11_four N a2 X4) (fun v5 X6 => cal (f_X11_four N a3 X6) (fun v7 X8 => cal (f_X11_four N a4 X8) (fun v9 X10 => cal (f_X11_four N a5 X10) (fun v11 X12 => (rt (X12.1 0 2) X12)))))) else (rt (-1) X1)))
set_option maxRecDepth 8000 in
theorem t_X11_feed_0 {l : Launch} {G : GX} {C : CM} {Q : Int32 → Mem → Prop} (N : Nat) (a1 : Int32) (a2 : Int32) (a3 : Int32) (a4 : Int32) (a5 : Int32) (X : XM) (h : SAT (f_X11_feed N a1 a2 a3 a4 a5 X) (fun v c => Q v (C, c))) : AB l G (rmD 2) 0 0 mt_X11_feed (ZQ G mt_X11_feed Q) 0 [(0, .ref (gA G 10 0 0)), (1, .int a1), (2, .int a2), (3, .int a3), (4, .int a4), (5, .int a5)] [] (C, X) := by
  unfold f_X11_feed at h
  refine ab_aloadn 0 dX11_feed_0 rfl ?_
  refine ab_iconst (v := 0) dX11_feed_1 (by decide) ?_
  refine fX_pi (x := 0) (ty := .int) ⟨by decide, by decide⟩ rfl rfl (Nat.le_of_ble_eq_true rfl) wd_344 rfl h rfl (by decide +kernel) rfl rfl dX11_feed_2 (fun X1 h => ?_)
  refine ab_aloadn 0 dX11_feed_5 rfl ?_
  refine fX_gi (x := 2) ⟨by decide, by decide⟩ rfl rfl (Nat.le_of_ble_eq_true rfl) wd_345 rfl dX11_feed_6 ?_
  refine ab_bipush (v := 20) dX11_feed_9 (by decide) ?_
  refine ab_iadd dX11_feed_11 ?_
  refine ab_sipush (v := 940) dX11_feed_12 (by decide) ?_
  refine ab_icmp_le (tgt := 20) dX11_feed_15 (by decide) (fun hc2 => ?_) (fun hc2 => ?_)
  · have h := sat_t hc2 h
    refine ab_aloadn 0 dX11_feed_20 rfl ?_
    refine ab_iloadn 1 dX11_feed_21 rfl ?_
    refine fX_Vv (mtc := mt_X11_four) (As := [.int a1]) h (fun Q h => ct_X11_four N a1 X1 h) ⟨by decide, by decide⟩ rfl rfl rfl mw_X11_four wd_347 rfl rfl ⟨Nat.le_of_ble_eq_true rfl, Nat.le_of_ble_eq_true rfl⟩ ⟨Nat.zero_le _, Nat.zero_le _⟩ (Nat.le_of_ble_eq_true rfl) rfl dX11_feed_22 (fun v3 X4 h => ?_)
    refine ab_aloadn 0 dX11_feed_25 rfl ?_
    refine ab_iloadn 2 dX11_feed_26 rfl ?_
    refine fX_Vv (mtc := mt_X11_four) (As := [.int a2]) h (fun Q h => ct_X11_four N a2 X4 h) ⟨by decide, by decide⟩ rfl rfl rfl mw_X11_four wd_347 rfl rfl ⟨Nat.le_of_ble_eq_true rfl, Nat.le_of_ble_eq_true rfl⟩ ⟨Nat.zero_le _, Nat.zero_le _⟩ (Nat.le_of_ble_eq_true rfl) rfl dX11_feed_27 (fun v5 X6 h => ?_)
    refine ab_aloadn 0 dX11_feed_30 rfl ?_
    refine ab_iloadn 3 dX11_feed_31 rfl ?_
    refine fX_Vv (mtc := mt_X11_four) (As := [.int a3]) h (fun Q h => ct_X11_four N a3 X6 h) ⟨by decide, by decide⟩ rfl rfl rfl mw_X11_four wd_347 rfl rfl ⟨Nat.le_of_ble_eq_true rfl, Nat.le_of_ble_eq_true rfl⟩ ⟨Nat.zero_le _, Nat.zero_le _⟩ (Nat.le_of_ble_eq_true rfl) rfl dX11_feed_32 (fun v7 X8 h => ?_)
    refine ab_aloadn 0 dX11_feed_35 rfl ?_
    refine ab_iload 4 dX11_feed_36 rfl ?_
    refine fX_Vv (mtc := mt_X11_four) (As := [.int a4]) h (fun Q h => ct_X11_four N a4 X8 h) ⟨by decide, by decide⟩ rfl rfl rfl mw_X11_four wd_347 rfl rfl ⟨Nat.le_of_ble_eq_true rfl, Nat.le_of_ble_eq_true rfl⟩ ⟨Nat.zero_le _, Nat.zero_le _⟩ (Nat.le_of_ble_eq_true rfl) rfl dX11_feed_38 (fun v9 X10 h => ?_)
    refine ab_aloadn 0 dX11_feed_41 rfl ?_
    refine ab_iload 5 dX11_feed_42 rfl ?_
    refine fX_Vv (mtc := mt_X11_four) (As := [.int a5]) h (fun Q h => ct_X11_four N a5 X10 h) ⟨by decide, by decide⟩ rfl rfl rfl mw_X11_four wd_347 rfl rfl ⟨Nat.le_of_ble_eq_true rfl, Nat.le_of_ble_eq_true rfl⟩ ⟨Nat.zero_le _, Nat.zero_le _⟩ (Nat.le_of_ble_eq_true rfl) rfl dX11_feed_44 (fun v11 X12 h => ?_)
    refine ab_aloadn 0 dX11_feed_47 rfl ?_
    refine fX_gi (x := 2) ⟨by decide, by decide⟩ rfl rfl (Nat.le_of_ble_eq_true rfl) wd_345 rfl dX11_feed_48 ?_
    exact fX_iret h rfl rfl dX11_feed_51
  · have h := sat_f hc2 h
    refine ab_iconst (v := (-1)) dX11_feed_18 (by decide) ?_
    exact fX_iret h rfl rfl dX11_feed_19
theorem ct_X11_feed {l : Launch} {G : GX} {C : CM} {Q : Int32 → Mem → Prop} (N : Nat) (a1 : Int32) (a2 : Int32) (a3 : Int32) (a4 : Int32) (a5 : Int32) (X : XM) (h : SAT (f_X11_feed N a1 a2 a3 a4 a5 X) (fun v c => Q v (C, c))) : CT l G 2 mt_X11_feed [.ref (gA G 10 0 0), .int a1, .int a2, .int a3, .int a4, .int a5] (C, X) Q := ct_of pn_X11 (Nat.le_of_ble_eq_true rfl) (t_X11_feed_0 N a1 a2 a3 a4 a5 X h)
def f_X11_end (a1 : Int32) (X : XM) : Option (Int32 × XM) := bnd (stX X 0 0 0) (fun X1 => (if a1 < 0 then (rt 0 X1) else (if a1 ≤ (X1.1 0 2) then bnd (stX X1 0 2 a1) (fun X4 => (rt 1 X4)) else (rt 0 X1))))
set_option maxRecDepth 8000 in
theorem t_X11_end_0 {l : Launch} {G : GX} {C : CM} {Q : Int32 → Mem → Prop} (a1 : Int32) (X : XM) (h : SAT (f_X11_end a1 X) (fun v c => Q v (C, c))) : AB l G (rmD 1) 0 0 mt_X11_end (ZQ G mt_X11_end Q) 0 [(0, .ref (gA G 10 0 0)), (1, .int a1)] [] (C, X) := by
  unfold f_X11_end at h
  refine ab_aloadn 0 dX11_end_0 rfl ?_
  refine ab_iconst (v := 0) dX11_end_1 (by decide) ?_
  refine fX_pi (x := 0) (ty := .int) ⟨by decide, by decide⟩ rfl rfl (Nat.le_of_ble_eq_true rfl) wd_344 rfl h rfl (by decide +kernel) rfl rfl dX11_end_2 (fun X1 h => ?_)
  refine ab_iloadn 1 dX11_end_5 rfl ?_
  refine ab_if_lt (tgt := 17) dX11_end_6 (by decide) (fun hc2 => ?_) (fun hc2 => ?_)
  · have h := sat_t hc2 h
    refine ab_iconst (v := 0) dX11_end_17 (by decide) ?_
    exact fX_iret h rfl rfl dX11_end_18
  · have h := sat_f hc2 h
    refine ab_iloadn 1 dX11_end_9 rfl ?_
    refine ab_aloadn 0 dX11_end_10 rfl ?_
    refine fX_gi (x := 2) ⟨by decide, by decide⟩ rfl rfl (Nat.le_of_ble_eq_true rfl) wd_345 rfl dX11_end_11 ?_
    refine ab_icmp_le (tgt := 19) dX11_end_14 (by decide) (fun hc3 => ?_) (fun hc3 => ?_)
    · have h := sat_t hc3 h
      refine ab_aloadn 0 dX11_end_19 rfl ?_
      refine ab_iloadn 1 dX11_end_20 rfl ?_
      refine fX_pi (x := 2) (ty := .int) ⟨by decide, by decide⟩ rfl rfl (Nat.le_of_ble_eq_true rfl) wd_345 rfl h rfl (by decide +kernel) rfl rfl dX11_end_21 (fun X4 h => ?_)
      refine ab_iconst (v := 1) dX11_end_24 (by decide) ?_
      exact fX_iret h rfl rfl dX11_end_25
    · have h := sat_f hc3 h
      refine ab_iconst (v := 0) dX11_end_17 (by decide) ?_
      exact fX_iret h rfl rfl dX11_end_18
theorem ct_X11_end {l : Launch} {G : GX} {C : CM} {Q : Int32 → Mem → Prop} (a1 : Int32) (X : XM) (h : SAT (f_X11_end a1 X) (fun v c => Q v (C, c))) : CT l G 1 mt_X11_end [.ref (gA G 10 0 0), .int a1] (C, X) Q := ct_of pn_X11 (Nat.le_of_ble_eq_true rfl) (t_X11_end_0 a1 X h)
def f_X11_taken (a1 : Int32) (X : XM) : Option (Int32 × XM) := bnd (stX X 0 3 (X.1 0 2)) (fun X1 => bnd (stX X1 0 2 0) (fun X2 => bnd (stX X2 0 4 0) (fun X3 => bnd (stX X3 0 5 a1) (fun X4 => (rt 0 X4)))))
set_option maxRecDepth 8000 in
theorem t_X11_taken_0 {l : Launch} {G : GX} {C : CM} {Q : Int32 → Mem → Prop} (a1 : Int32) (X : XM) (h : SAT (f_X11_taken a1 X) (fun v c => Q v (C, c))) : AB l G (rmD 1) 0 0 mt_X11_taken (ZQ G mt_X11_taken Q) 0 [(0, .ref (gA G 10 0 0)), (1, .int a1)] [] (C, X) := by
  unfold f_X11_taken at h
  refine ab_aloadn 0 dX11_taken_0 rfl ?_
  refine ab_aloadn 0 dX11_taken_1 rfl ?_
  refine fX_gi (x := 2) ⟨by decide, by decide⟩ rfl rfl (Nat.le_of_ble_eq_true rfl) wd_345 rfl dX11_taken_2 ?_
  refine fX_pi (x := 3) (ty := .int) ⟨by decide, by decide⟩ rfl rfl (Nat.le_of_ble_eq_true rfl) wd_348 rfl h rfl (by decide +kernel) rfl rfl dX11_taken_5 (fun X1 h => ?_)
  refine ab_aloadn 0 dX11_taken_8 rfl ?_
  refine ab_iconst (v := 0) dX11_taken_9 (by decide) ?_
  refine fX_pi (x := 2) (ty := .int) ⟨by decide, by decide⟩ rfl rfl (Nat.le_of_ble_eq_true rfl) wd_345 rfl h rfl (by decide +kernel) rfl rfl dX11_taken_10 (fun X2 h => ?_)
  refine ab_aloadn 0 dX11_taken_13 rfl ?_
  refine ab_iconst (v := 0) dX11_taken_14 (by decide) ?_
  refine fX_pi (x := 4) (ty := .int) ⟨by decide, by decide⟩ rfl rfl (Nat.le_of_ble_eq_true rfl) wd_349 rfl h rfl (by decide +kernel) rfl rfl dX11_taken_15 (fun X3 h => ?_)
  refine ab_aloadn 0 dX11_taken_18 rfl ?_
  refine ab_iloadn 1 dX11_taken_19 rfl ?_
  refine fX_pi (x := 5) (ty := .int) ⟨by decide, by decide⟩ rfl rfl (Nat.le_of_ble_eq_true rfl) wd_350 rfl h rfl (by decide +kernel) rfl rfl dX11_taken_20 (fun X4 h => ?_)
  exact fX_vret h rfl dX11_taken_23
theorem ct_X11_taken {l : Launch} {G : GX} {C : CM} {Q : Int32 → Mem → Prop} (a1 : Int32) (X : XM) (h : SAT (f_X11_taken a1 X) (fun v c => Q v (C, c))) : CT l G 1 mt_X11_taken [.ref (gA G 10 0 0), .int a1] (C, X) Q := ct_of pn_X11 (Nat.le_of_ble_eq_true rfl) (t_X11_taken_0 a1 X h)
def f_X11_peek (X : XM) : Option (Int32 × XM) := (if (X.1 0 3) ≤ (X.1 0 4) then (rt (-1) X) else ldA (X.1 1) 940 (X.1 0 4) (fun v2 => (rt (v2 &&& 255) X)))
set_option maxRecDepth 8000 in
theorem t_X11_peek_0 {l : Launch} {G : GX} {C : CM} {Q : Int32 → Mem → Prop} (X : XM) (h : SAT (f_X11_peek X) (fun v c => Q v (C, c))) : AB l G (rmD 1) 0 0 mt_X11_peek (ZQ G mt_X11_peek Q) 0 [(0, .ref (gA G 10 0 0))] [] (C, X) := by
  unfold f_X11_peek at h
  refine ab_aloadn 0 dX11_peek_0 rfl ?_
  refine fX_gi (x := 4) ⟨by decide, by decide⟩ rfl rfl (Nat.le_of_ble_eq_true rfl) wd_349 rfl dX11_peek_1 ?_
  refine ab_aloadn 0 dX11_peek_4 rfl ?_
  refine fX_gi (x := 3) ⟨by decide, by decide⟩ rfl rfl (Nat.le_of_ble_eq_true rfl) wd_348 rfl dX11_peek_5 ?_
  refine ab_icmp_ge (tgt := 27) dX11_peek_8 (by decide) (fun hc1 => ?_) (fun hc1 => ?_)
  · have h := sat_t hc1 h
    refine ab_iconst (v := (-1)) dX11_peek_27 (by decide) ?_
    exact fX_iret h rfl rfl dX11_peek_28
  · have h := sat_f hc1 h
    refine ab_aloadn 0 dX11_peek_11 rfl ?_
    refine f_gr (x := 1) (k2 := 10) (i2 := 0) (j2 := 1) ⟨by decide, by decide⟩ rfl rfl (Nat.le_of_ble_eq_true rfl) wd_346 rfl rfl dX11_peek_12 ?_
    refine ab_aloadn 0 dX11_peek_15 rfl ?_
    refine fX_gi (x := 4) ⟨by decide, by decide⟩ rfl rfl (Nat.le_of_ble_eq_true rfl) wd_349 rfl dX11_peek_16 ?_
    refine fX_bald ⟨by decide, by decide⟩ rfl (fun _ => rfl) h dX11_peek_19 (fun v2 h => ?_)
    refine ab_sipush (v := 255) dX11_peek_20 (by decide) ?_
    refine ab_iand dX11_peek_23 ?_
    refine ab_goto (tgt := 28) dX11_peek_24 (by decide) ?_
    exact fX_iret h rfl rfl dX11_peek_28
theorem ct_X11_peek {l : Launch} {G : GX} {C : CM} {Q : Int32 → Mem → Prop} (X : XM) (h : SAT (f_X11_peek X) (fun v c => Q v (C, c))) : CT l G 1 mt_X11_peek [.ref (gA G 10 0 0)] (C, X) Q := ct_of pn_X11 (Nat.le_of_ble_eq_true rfl) (t_X11_peek_0 X h)
def f_X11_isSmall (a0 : Int32) (X : XM) : Option (Int32 × XM) := (if a0 < 97 then (rt 0 X) else (if 122 < a0 then (rt 0 X) else (rt 1 X)))
set_option maxRecDepth 8000 in
theorem t_X11_isSmall_0 {l : Launch} {G : GX} {C : CM} {Q : Int32 → Mem → Prop} (a0 : Int32) (X : XM) (h : SAT (f_X11_isSmall a0 X) (fun v c => Q v (C, c))) : AB l G (rmD 1) 0 0 mt_X11_isSmall (ZQ G mt_X11_isSmall Q) 0 [(0, .int a0)] [] (C, X) := by
  unfold f_X11_isSmall at h
  refine ab_iloadn 0 dX11_isSmall_0 rfl ?_
  refine ab_bipush (v := 97) dX11_isSmall_1 (by decide) ?_
  refine ab_icmp_lt (tgt := 16) dX11_isSmall_3 (by decide) (fun hc1 => ?_) (fun hc1 => ?_)
  · have h := sat_t hc1 h
    refine ab_iconst (v := 0) dX11_isSmall_16 (by decide) ?_
    exact fX_iret h rfl rfl dX11_isSmall_17
  · have h := sat_f hc1 h
    refine ab_iloadn 0 dX11_isSmall_6 rfl ?_
    refine ab_bipush (v := 122) dX11_isSmall_7 (by decide) ?_
    refine ab_icmp_gt (tgt := 16) dX11_isSmall_9 (by decide) (fun hc2 => ?_) (fun hc2 => ?_)
    · have h := sat_t hc2 h
      refine ab_iconst (v := 0) dX11_isSmall_16 (by decide) ?_
      exact fX_iret h rfl rfl dX11_isSmall_17
    · have h := sat_f hc2 h
      refine ab_iconst (v := 1) dX11_isSmall_12 (by decide) ?_
      refine ab_goto (tgt := 17) dX11_isSmall_13 (by decide) ?_
      exact fX_iret h rfl rfl dX11_isSmall_17
theorem ct_X11_isSmall {l : Launch} {G : GX} {C : CM} {Q : Int32 → Mem → Prop} (a0 : Int32) (X : XM) (h : SAT (f_X11_isSmall a0 X) (fun v c => Q v (C, c))) : CT l G 1 mt_X11_isSmall [.int a0] (C, X) Q := ct_of pn_X11 (Nat.le_of_ble_eq_true rfl) (t_X11_isSmall_0 a0 X h)
def f_X11_isDigit (a0 : Int32) (X : XM) : Option (Int32 × XM) := (if a0 < 48 then (rt 0 X) else (if 57 < a0 then (rt 0 X) else (rt 1 X)))
set_option maxRecDepth 8000 in
theorem t_X11_isDigit_0 {l : Launch} {G : GX} {C : CM} {Q : Int32 → Mem → Prop} (a0 : Int32) (X : XM) (h : SAT (f_X11_isDigit a0 X) (fun v c => Q v (C, c))) : AB l G (rmD 1) 0 0 mt_X11_isDigit (ZQ G mt_X11_isDigit Q) 0 [(0, .int a0)] [] (C, X) := by
  unfold f_X11_isDigit at h
  refine ab_iloadn 0 dX11_isDigit_0 rfl ?_
  refine ab_bipush (v := 48) dX11_isDigit_1 (by decide) ?_
  refine ab_icmp_lt (tgt := 16) dX11_isDigit_3 (by decide) (fun hc1 => ?_) (fun hc1 => ?_)
  · have h := sat_t hc1 h
    refine ab_iconst (v := 0) dX11_isDigit_16 (by decide) ?_
    exact fX_iret h rfl rfl dX11_isDigit_17
  · have h := sat_f hc1 h
    refine ab_iloadn 0 dX11_isDigit_6 rfl ?_
    refine ab_bipush (v := 57) dX11_isDigit_7 (by decide) ?_
    refine ab_icmp_gt (tgt := 16) dX11_isDigit_9 (by decide) (fun hc2 => ?_) (fun hc2 => ?_)
    · have h := sat_t hc2 h
      refine ab_iconst (v := 0) dX11_isDigit_16 (by decide) ?_
      exact fX_iret h rfl rfl dX11_isDigit_17
    · have h := sat_f hc2 h
      refine ab_iconst (v := 1) dX11_isDigit_12 (by decide) ?_
      refine ab_goto (tgt := 17) dX11_isDigit_13 (by decide) ?_
      exact fX_iret h rfl rfl dX11_isDigit_17
theorem ct_X11_isDigit {l : Launch} {G : GX} {C : CM} {Q : Int32 → Mem → Prop} (a0 : Int32) (X : XM) (h : SAT (f_X11_isDigit a0 X) (fun v c => Q v (C, c))) : CT l G 1 mt_X11_isDigit [.int a0] (C, X) Q := ct_of pn_X11 (Nat.le_of_ble_eq_true rfl) (t_X11_isDigit_0 a0 X h)
def f_X11_next_333 (N : Nat) (as0 : Int32) (X : XM) : Option (Int32 × XM) := bnd (stX X 0 11 as0) (fun X1 => (rt 0 X1))
def f_X11_next_320 (N : Nat) (X : XM) : Option (Int32 × XM) := (f_X11_next_333 N 4 X)
def f_X11_next_317 (N : Nat) (a2 : Int32) (as0 : Int32) (as1 : Int32) (X : XM) : Option (Int32 × XM) := (if as1 ≤ as0 then (if a2 = 0 then (f_X11_next_333 N 2 X) else (f_X11_next_333 N 1 X)) else (f_X11_next_320 N X))
def f_X11_next_275 (N : Nat) (k181 : Int32 → XM → Option (Int32 × XM)) (a2 : Int32) (a3 : Int32) (X : XM) : Option (Int32 × XM) := bnd (stX X 0 13 ((X.1 0 13) + 1)) (fun X1 => bnd (stX X1 0 4 ((X1.1 0 4) + 1)) (fun X2 => (k181 a3 X2)))
def f_X11_next_248 (N : Nat) (k181 : Int32 → XM → Option (Int32 × XM)) (a2 : Int32) (a3 : Int32) (X : XM) : Option (Int32 × XM) := (if 3 ≤ (X.1 0 13) then (f_X11_next_275 N k181 a2 a3 X) else cal (f_X11_peek X) (fun v2 X3 => bnd (stX X3 0 14 (((10 * (X.1 0 14)) + v2) - 48)) (fun X4 => (f_X11_next_275 N k181 a2 a3 X4))))
def f_X11_next_221 (N : Nat) (k181 : Int32 → XM → Option (Int32 × XM)) (a2 : Int32) (as0 : Int32) (X : XM) : Option (Int32 × XM) := (if 6 ≤ (X.1 0 13) then (f_X11_next_248 N k181 a2 as0 X) else cal (f_X11_peek X) (fun v2 X3 => bnd (stL X3 0 17 (((X.2 0 17) <<< (Int32.toInt64 8 &&& 63)) ||| (Int32.toInt64 v2))) (fun X4 => (f_X11_next_248 N k181 a2 as0 X4))))
def f_X11_next_220 (N : Nat) (k181 : Int32 → XM → Option (Int32 × XM)) (a2 : Int32) (X : XM) : Option (Int32 × XM) := (f_X11_next_221 N k181 a2 0 X)
def f_X11_next_201 (N : Nat) (k181 : Int32 → XM → Option (Int32 × XM)) (a2 : Int32) (a3 : Int32) (X : XM) : Option (Int32 × XM) := (if a3 = 0 then (f_X11_next_220 N k181 a2 X) else cal (f_X11_peek X) (fun v2 X3 => cal (f_X11_isSmall v2 X3) (fun v4 X5 => (if v4 = a2 then (f_X11_next_221 N k181 a2 1 X5) else (f_X11_next_220 N k181 a2 X5)))))
def f_X11_next_181 (N : Nat) (a2 : Int32) : Nat → Int32 → XM → Option (Int32 × XM)
  | 0, _, _ => none
  | n + 1, a3, X => cal (f_X11_peek X) (fun v1 X2 => cal (f_X11_isSmall v1 X2) (fun v3 X4 => (if v3 = 0 then cal (f_X11_peek X4) (fun v6 X7 => cal (f_X11_isDigit v6 X7) (fun v8 X9 => (if v8 = 0 then (if a3 = 0 then (f_X11_next_320 N X9) else (if a2 = 0 then (f_X11_next_317 N a2 3 (X9.1 0 13) X9) else (f_X11_next_317 N a2 6 (X9.1 0 13) X9))) else (f_X11_next_201 N (fun z3 c => f_X11_next_181 N a2 n z3 c) a2 a3 X9)))) else (f_X11_next_201 N (fun z3 c => f_X11_next_181 N a2 n z3 c) a2 a3 X4))))
def f_X11_next_164 (N : Nat) (a1 : Int32) (X : XM) : Option (Int32 × XM) := cal (f_X11_isSmall a1 X) (fun v1 X2 => bnd (stL X2 0 17 0) (fun X3 => bnd (stX X3 0 14 0) (fun X4 => (f_X11_next_181 N v1 N 1 X4))))
def f_X11_next_145 (N : Nat) (a1 : Int32) (as0 : Int32) (X : XM) : Option (Int32 × XM) := bnd (stX X 0 11 as0) (fun X1 => bnd (stX X1 0 14 a1) (fun X2 => bnd (stX X2 0 4 ((X2.1 0 4) + 1)) (fun X3 => (rt 0 X3))))
def f_X11_next_144 (N : Nat) (a1 : Int32) (X : XM) : Option (Int32 × XM) := (f_X11_next_145 N a1 4 X)
def f_X11_next_140 (N : Nat) (a1 : Int32) (X : XM) : Option (Int32 × XM) := (f_X11_next_145 N a1 3 X)
def f_X11_next_80 (N : Nat) (X : XM) : Option (Int32 × XM) := cal (f_X11_peek X) (fun v1 X2 => (if 0 ≤ v1 then cal (f_X11_isSmall v1 X2) (fun v4 X5 => (if v4 = 0 then cal (f_X11_isDigit v1 X5) (fun v7 X8 => (if v7 = 0 then (if v1 = 59 then (f_X11_next_140 N v1 X8) else (if v1 = 40 then (f_X11_next_140 N v1 X8) else (if v1 = 41 then (f_X11_next_140 N v1 X8) else (if v1 < 60 then (f_X11_next_144 N v1 X8) else (if 62 < v1 then (f_X11_next_144 N v1 X8) else (f_X11_next_140 N v1 X8)))))) else (f_X11_next_164 N v1 X8))) else (f_X11_next_164 N v1 X5))) else bnd (stX X2 0 11 0) (fun X15 => (rt 0 X15))))
def f_X11_next_18 (N : Nat) (k0 : XM → Option (Int32 × XM)) (X : XM) : Option (Int32 × XM) := bnd (stX X 0 4 ((X.1 0 4) + 1)) (fun X1 => (k0 X1))
def f_X11_next_0 (N : Nat) : Nat → XM → Option (Int32 × XM)
  | 0, _ => none
  | n + 1, X => cal (f_X11_peek X) (fun v1 X2 => (if v1 = 32 then (f_X11_next_18 N (fun c => f_X11_next_0 N n c) X2) else cal (f_X11_peek X2) (fun v4 X5 => (if v4 = 10 then (f_X11_next_18 N (fun c => f_X11_next_0 N n c) X5) else bnd (stX X5 0 12 (X5.1 0 4)) (fun X7 => bnd (stX X7 0 13 0) (fun X8 => (if (X8.1 0 3) ≤ (X8.1 0 5) then (f_X11_next_80 N X8) else (if (X8.1 0 4) < (X8.1 0 5) then (f_X11_next_80 N X8) else bnd (stX X8 0 12 (X8.1 0 5)) (fun X11 => bnd (stX X11 0 11 4) (fun X12 => (rt 0 X12)))))))))))
set_option maxRecDepth 8000 in
theorem t_X11_next_333 {l : Launch} {G : GX} {C : CM} {Q : Int32 → Mem → Prop} (N : Nat) (as0 : Int32) (X : XM) (h : SAT (f_X11_next_333 N as0 X) (fun v c => Q v (C, c))) : AB l G (rmD 2) 0 0 mt_X11_next (ZQ G mt_X11_next Q) 333 [] [.int as0, .ref (gA G 10 0 0)] (C, X) := by
  unfold f_X11_next_333 at h
  refine fX_pi (x := 11) (ty := .int) ⟨by decide, by decide⟩ rfl rfl (Nat.le_of_ble_eq_true rfl) wd_362 rfl h rfl (by decide +kernel) rfl rfl dX11_next_333 (fun X1 h => ?_)
  exact fX_vret h rfl dX11_next_336
set_option maxRecDepth 8000 in
theorem t_X11_next_320 {l : Launch} {G : GX} {C : CM} {Q : Int32 → Mem → Prop} (N : Nat) (X : XM) (h : SAT (f_X11_next_320 N X) (fun v c => Q v (C, c))) : AB l G (rmD 2) 0 0 mt_X11_next (ZQ G mt_X11_next Q) 320 [] [.ref (gA G 10 0 0)] (C, X) := by
  unfold f_X11_next_320 at h
  refine ab_iconst (v := 4) dX11_next_320 (by decide) ?_
  refine ab_goto (tgt := 333) dX11_next_321 (by decide) ?_
  exact t_X11_next_333 N 4 X h
set_option maxRecDepth 8000 in
theorem t_X11_next_317 {l : Launch} {G : GX} {C : CM} {Q : Int32 → Mem → Prop} (N : Nat) (a2 : Int32) (as0 : Int32) (as1 : Int32) (X : XM) (h : SAT (f_X11_next_317 N a2 as0 as1 X) (fun v c => Q v (C, c))) : AB l G (rmD 2) 0 0 mt_X11_next (ZQ G mt_X11_next Q) 317 [(2, .int a2)] [.int as0, .int as1, .ref (gA G 10 0 0)] (C, X) := by
  unfold f_X11_next_317 at h
  refine ab_icmp_le (tgt := 324) dX11_next_317 (by decide) (fun hc1 => ?_) (fun hc1 => ?_)
  · have h := sat_t hc1 h
    refine ab_iloadn 0 dX11_next_324 rfl ?_
    refine ab_if_eq (tgt := 332) dX11_next_325 (by decide) (fun hc2 => ?_) (fun hc2 => ?_)
    · have h := sat_t hc2 h
      refine ab_iconst (v := 2) dX11_next_332 (by decide) ?_
      refine ab_sub [] rfl ?_
      exact t_X11_next_333 N 2 X h
    · have h := sat_f hc2 h
      refine ab_iconst (v := 1) dX11_next_328 (by decide) ?_
      refine ab_goto (tgt := 333) dX11_next_329 (by decide) ?_
      refine ab_sub [] rfl ?_
      exact t_X11_next_333 N 1 X h
  · have h := sat_f hc1 h
    refine ab_sub [] rfl ?_
    exact t_X11_next_320 N X h
set_option maxRecDepth 8000 in
theorem t_X11_next_275 {l : Launch} {G : GX} {C : CM} {Q : Int32 → Mem → Prop} (N : Nat) (k181 : Int32 → XM → Option (Int32 × XM)) (a2 : Int32) (a3 : Int32) (hk181 : ∀ (ac3 : Int32) (X : XM), SAT (k181 ac3 X) (fun v c => Q v (C, c)) → AB l G (rmD 2) 0 0 mt_X11_next (ZQ G mt_X11_next Q) 181 [(0, .ref (gA G 10 0 0)), (2, .int a2), (3, .int ac3)] [] (C, X)) (X : XM) (h : SAT (f_X11_next_275 N k181 a2 a3 X) (fun v c => Q v (C, c))) : AB l G (rmD 2) 0 0 mt_X11_next (ZQ G mt_X11_next Q) 275 [(0, .ref (gA G 10 0 0)), (2, .int a2), (3, .int a3)] [] (C, X) := by
  unfold f_X11_next_275 at h
  refine ab_aloadn 0 dX11_next_275 rfl ?_
  refine ab_dup dX11_next_276 rfl ?_
  refine fX_gi (x := 13) ⟨by decide, by decide⟩ rfl rfl (Nat.le_of_ble_eq_true rfl) wd_361 rfl dX11_next_277 ?_
  refine ab_iconst (v := 1) dX11_next_280 (by decide) ?_
  refine ab_iadd dX11_next_281 ?_
  refine fX_pi (x := 13) (ty := .int) ⟨by decide, by decide⟩ rfl rfl (Nat.le_of_ble_eq_true rfl) wd_361 rfl h rfl (by decide +kernel) rfl rfl dX11_next_282 (fun X1 h => ?_)
  refine ab_aloadn 0 dX11_next_285 rfl ?_
  refine ab_dup dX11_next_286 rfl ?_
  refine fX_gi (x := 4) ⟨by decide, by decide⟩ rfl rfl (Nat.le_of_ble_eq_true rfl) wd_349 rfl dX11_next_287 ?_
  refine ab_iconst (v := 1) dX11_next_290 (by decide) ?_
  refine ab_iadd dX11_next_291 ?_
  refine fX_pi (x := 4) (ty := .int) ⟨by decide, by decide⟩ rfl rfl (Nat.le_of_ble_eq_true rfl) wd_349 rfl h rfl (by decide +kernel) rfl rfl dX11_next_292 (fun X2 h => ?_)
  refine ab_goto (tgt := 181) dX11_next_295 (by decide) ?_
  exact hk181 a3 X2 h
set_option maxRecDepth 8000 in
theorem t_X11_next_248 {l : Launch} {G : GX} {C : CM} {Q : Int32 → Mem → Prop} (N : Nat) (k181 : Int32 → XM → Option (Int32 × XM)) (a2 : Int32) (a3 : Int32) (hk181 : ∀ (ac3 : Int32) (X : XM), SAT (k181 ac3 X) (fun v c => Q v (C, c)) → AB l G (rmD 2) 0 0 mt_X11_next (ZQ G mt_X11_next Q) 181 [(0, .ref (gA G 10 0 0)), (2, .int a2), (3, .int ac3)] [] (C, X)) (X : XM) (h : SAT (f_X11_next_248 N k181 a2 a3 X) (fun v c => Q v (C, c))) : AB l G (rmD 2) 0 0 mt_X11_next (ZQ G mt_X11_next Q) 248 [(0, .ref (gA G 10 0 0)), (2, .int a2), (3, .int a3)] [] (C, X) := by
  unfold f_X11_next_248 at h
  refine ab_aloadn 0 dX11_next_248 rfl ?_
  refine fX_gi (x := 13) ⟨by decide, by decide⟩ rfl rfl (Nat.le_of_ble_eq_true rfl) wd_361 rfl dX11_next_249 ?_
  refine ab_iconst (v := 3) dX11_next_252 (by decide) ?_
  refine ab_icmp_ge (tgt := 275) dX11_next_253 (by decide) (fun hc1 => ?_) (fun hc1 => ?_)
  · have h := sat_t hc1 h
    exact t_X11_next_275 N k181 a2 a3 hk181 X h
  · have h := sat_f hc1 h
    refine ab_aloadn 0 dX11_next_256 rfl ?_
    refine ab_bipush (v := 10) dX11_next_257 (by decide) ?_
    refine ab_aloadn 0 dX11_next_259 rfl ?_
    refine fX_gi (x := 14) ⟨by decide, by decide⟩ rfl rfl (Nat.le_of_ble_eq_true rfl) wd_367 rfl dX11_next_260 ?_
    refine ab_imul dX11_next_263 ?_
    refine ab_aloadn 0 dX11_next_264 rfl ?_
    refine fX_Vi (mtc := mt_X11_peek) (As := []) h (fun Q h => ct_X11_peek X h) ⟨by decide, by decide⟩ rfl rfl rfl mw_X11_peek wd_359 rfl rfl ⟨Nat.le_of_ble_eq_true rfl, Nat.le_of_ble_eq_true rfl⟩ ⟨Nat.zero_le _, Nat.zero_le _⟩ (Nat.le_of_ble_eq_true rfl) rfl dX11_next_265 (fun v2 X3 h => ?_)
    refine ab_iadd dX11_next_268 ?_
    refine ab_bipush (v := 48) dX11_next_269 (by decide) ?_
    refine ab_isub dX11_next_271 ?_
    refine fX_pi (x := 14) (ty := .int) ⟨by decide, by decide⟩ rfl rfl (Nat.le_of_ble_eq_true rfl) wd_367 rfl h rfl (by decide +kernel) rfl rfl dX11_next_272 (fun X4 h => ?_)
    exact t_X11_next_275 N k181 a2 a3 hk181 X4 h
set_option maxRecDepth 8000 in
theorem t_X11_next_221 {l : Launch} {G : GX} {C : CM} {Q : Int32 → Mem → Prop} (N : Nat) (k181 : Int32 → XM → Option (Int32 × XM)) (a2 : Int32) (as0 : Int32) (hk181 : ∀ (ac3 : Int32) (X : XM), SAT (k181 ac3 X) (fun v c => Q v (C, c)) → AB l G (rmD 2) 0 0 mt_X11_next (ZQ G mt_X11_next Q) 181 [(0, .ref (gA G 10 0 0)), (2, .int a2), (3, .int ac3)] [] (C, X)) (X : XM) (h : SAT (f_X11_next_221 N k181 a2 as0 X) (fun v c => Q v (C, c))) : AB l G (rmD 2) 0 0 mt_X11_next (ZQ G mt_X11_next Q) 221 [(0, .ref (gA G 10 0 0)), (2, .int a2)] [.int as0] (C, X) := by
  unfold f_X11_next_221 at h
  refine ab_istoren (lv' := [(0, .ref (gA G 10 0 0)), (2, .int a2), (3, .int as0)]) dX11_next_221 rfl (Nat.le_of_ble_eq_true rfl) rfl ?_
  refine ab_aloadn 0 dX11_next_222 rfl ?_
  refine fX_gi (x := 13) ⟨by decide, by decide⟩ rfl rfl (Nat.le_of_ble_eq_true rfl) wd_361 rfl dX11_next_223 ?_
  refine ab_bipush (v := 6) dX11_next_226 (by decide) ?_
  refine ab_icmp_ge (tgt := 248) dX11_next_228 (by decide) (fun hc1 => ?_) (fun hc1 => ?_)
  · have h := sat_t hc1 h
    exact t_X11_next_248 N k181 a2 as0 hk181 X h
  · have h := sat_f hc1 h
    refine ab_aloadn 0 dX11_next_231 rfl ?_
    refine ab_aloadn 0 dX11_next_232 rfl ?_
    refine fX_gl (x := 17) ⟨by decide, by decide⟩ rfl rfl (Nat.le_of_ble_eq_true rfl) wd_368 rfl dX11_next_233 ?_
    refine ab_bipush (v := 8) dX11_next_236 (by decide) ?_
    refine ab_lshl dX11_next_238 ?_
    refine ab_aloadn 0 dX11_next_239 rfl ?_
    refine fX_Vi (mtc := mt_X11_peek) (As := []) h (fun Q h => ct_X11_peek X h) ⟨by decide, by decide⟩ rfl rfl rfl mw_X11_peek wd_359 rfl rfl ⟨Nat.le_of_ble_eq_true rfl, Nat.le_of_ble_eq_true rfl⟩ ⟨Nat.zero_le _, Nat.zero_le _⟩ (Nat.le_of_ble_eq_true rfl) rfl dX11_next_240 (fun v2 X3 h => ?_)
    refine ab_i2l dX11_next_243 ?_
    refine ab_lor dX11_next_244 ?_
    refine fX_pl (x := 17) (ty := .long) ⟨by decide, by decide⟩ rfl rfl (Nat.le_of_ble_eq_true rfl) wd_368 rfl h rfl (by decide +kernel) rfl rfl dX11_next_245 (fun X4 h => ?_)
    exact t_X11_next_248 N k181 a2 as0 hk181 X4 h
set_option maxRecDepth 8000 in
theorem t_X11_next_220 {l : Launch} {G : GX} {C : CM} {Q : Int32 → Mem → Prop} (N : Nat) (k181 : Int32 → XM → Option (Int32 × XM)) (a2 : Int32) (hk181 : ∀ (ac3 : Int32) (X : XM), SAT (k181 ac3 X) (fun v c => Q v (C, c)) → AB l G (rmD 2) 0 0 mt_X11_next (ZQ G mt_X11_next Q) 181 [(0, .ref (gA G 10 0 0)), (2, .int a2), (3, .int ac3)] [] (C, X)) (X : XM) (h : SAT (f_X11_next_220 N k181 a2 X) (fun v c => Q v (C, c))) : AB l G (rmD 2) 0 0 mt_X11_next (ZQ G mt_X11_next Q) 220 [(0, .ref (gA G 10 0 0)), (2, .int a2)] [] (C, X) := by
  unfold f_X11_next_220 at h
  refine ab_iconst (v := 0) dX11_next_220 (by decide) ?_
  exact t_X11_next_221 N k181 a2 0 hk181 X h
set_option maxRecDepth 8000 in
theorem t_X11_next_201 {l : Launch} {G : GX} {C : CM} {Q : Int32 → Mem → Prop} (N : Nat) (k181 : Int32 → XM → Option (Int32 × XM)) (a2 : Int32) (a3 : Int32) (hk181 : ∀ (ac3 : Int32) (X : XM), SAT (k181 ac3 X) (fun v c => Q v (C, c)) → AB l G (rmD 2) 0 0 mt_X11_next (ZQ G mt_X11_next Q) 181 [(0, .ref (gA G 10 0 0)), (2, .int a2), (3, .int ac3)] [] (C, X)) (X : XM) (h : SAT (f_X11_next_201 N k181 a2 a3 X) (fun v c => Q v (C, c))) : AB l G (rmD 2) 0 0 mt_X11_next (ZQ G mt_X11_next Q) 201 [(0, .ref (gA G 10 0 0)), (2, .int a2), (3, .int a3)] [] (C, X) := by
  unfold f_X11_next_201 at h
  refine ab_iloadn 2 dX11_next_201 rfl ?_
  refine ab_if_eq (tgt := 220) dX11_next_202 (by decide) (fun hc1 => ?_) (fun hc1 => ?_)
  · have h := sat_t hc1 h
    refine ab_sub [0, 1] rfl ?_
    exact t_X11_next_220 N k181 a2 hk181 X h
  · have h := sat_f hc1 h
    refine ab_aloadn 0 dX11_next_205 rfl ?_
    refine fX_Vi (mtc := mt_X11_peek) (As := []) h (fun Q h => ct_X11_peek X h) ⟨by decide, by decide⟩ rfl rfl rfl mw_X11_peek wd_359 rfl rfl ⟨Nat.le_of_ble_eq_true rfl, Nat.le_of_ble_eq_true rfl⟩ ⟨Nat.zero_le _, Nat.zero_le _⟩ (Nat.le_of_ble_eq_true rfl) rfl dX11_next_206 (fun v2 X3 h => ?_)
    refine fX_Si (mtc := mt_X11_isSmall) (As := [.int v2]) h (fun Q h => ct_X11_isSmall v2 X3 h) mw_X11_isSmall wd_363 wd_364 rfl rfl ⟨Nat.le_of_ble_eq_true rfl, Nat.le_of_ble_eq_true rfl⟩ ⟨Nat.zero_le _, Nat.zero_le _⟩ (Nat.le_of_ble_eq_true rfl) rfl dX11_next_209 (fun v4 X5 h => ?_)
    refine ab_iloadn 1 dX11_next_212 rfl ?_
    refine ab_icmp_ne (tgt := 220) dX11_next_213 (by decide) (fun hc6 => ?_) (fun hc6 => ?_)
    · have h := sat_f hc6 h
      refine ab_sub [0, 1] rfl ?_
      exact t_X11_next_220 N k181 a2 hk181 X5 h
    · have h := sat_t hc6 h
      refine ab_iconst (v := 1) dX11_next_216 (by decide) ?_
      refine ab_goto (tgt := 221) dX11_next_217 (by decide) ?_
      refine ab_sub [0, 1] rfl ?_
      exact t_X11_next_221 N k181 a2 1 hk181 X5 h
set_option maxRecDepth 8000 in
theorem t_X11_next_181 {l : Launch} {G : GX} {C : CM} {Q : Int32 → Mem → Prop} (N : Nat) (a2 : Int32) : ∀ (n : Nat) (a3 : Int32) (X : XM), SAT (f_X11_next_181 N a2 n a3 X) (fun v c => Q v (C, c)) → AB l G (rmD 2) 0 0 mt_X11_next (ZQ G mt_X11_next Q) 181 [(0, .ref (gA G 10 0 0)), (2, .int a2), (3, .int a3)] [] (C, X) := by
  intro n
  induction n with
  | zero => intro a3 X h; exact h.elim
  | succ n ih =>
    intro a3 X h
    rw [f_X11_next_181] at h
    refine ab_aloadn 0 dX11_next_181 rfl ?_
    refine fX_Vi (mtc := mt_X11_peek) (As := []) h (fun Q h => ct_X11_peek X h) ⟨by decide, by decide⟩ rfl rfl rfl mw_X11_peek wd_359 rfl rfl ⟨Nat.le_of_ble_eq_true rfl, Nat.le_of_ble_eq_true rfl⟩ ⟨Nat.zero_le _, Nat.zero_le _⟩ (Nat.le_of_ble_eq_true rfl) rfl dX11_next_182 (fun v1 X2 h => ?_)
    refine fX_Si (mtc := mt_X11_isSmall) (As := [.int v1]) h (fun Q h => ct_X11_isSmall v1 X2 h) mw_X11_isSmall wd_363 wd_364 rfl rfl ⟨Nat.le_of_ble_eq_true rfl, Nat.le_of_ble_eq_true rfl⟩ ⟨Nat.zero_le _, Nat.zero_le _⟩ (Nat.le_of_ble_eq_true rfl) rfl dX11_next_185 (fun v3 X4 h => ?_)
    refine ab_if_ne (tgt := 201) dX11_next_188 (by decide) (fun hc5 => ?_) (fun hc5 => ?_)
    · have h := sat_f hc5 h
      exact t_X11_next_201 N (fun z3 c => f_X11_next_181 N a2 n z3 c) a2 a3 ih X4 h
    · have h := sat_t hc5 h
      refine ab_aloadn 0 dX11_next_191 rfl ?_
      refine fX_Vi (mtc := mt_X11_peek) (As := []) h (fun Q h => ct_X11_peek X4 h) ⟨by decide, by decide⟩ rfl rfl rfl mw_X11_peek wd_359 rfl rfl ⟨Nat.le_of_ble_eq_true rfl, Nat.le_of_ble_eq_true rfl⟩ ⟨Nat.zero_le _, Nat.zero_le _⟩ (Nat.le_of_ble_eq_true rfl) rfl dX11_next_192 (fun v6 X7 h => ?_)
      refine fX_Si (mtc := mt_X11_isDigit) (As := [.int v6]) h (fun Q h => ct_X11_isDigit v6 X7 h) mw_X11_isDigit wd_365 wd_366 rfl rfl ⟨Nat.le_of_ble_eq_true rfl, Nat.le_of_ble_eq_true rfl⟩ ⟨Nat.zero_le _, Nat.zero_le _⟩ (Nat.le_of_ble_eq_true rfl) rfl dX11_next_195 (fun v8 X9 h => ?_)
      refine ab_if_eq (tgt := 298) dX11_next_198 (by decide) (fun hc10 => ?_) (fun hc10 => ?_)
      · have h := sat_t hc10 h
        refine ab_aloadn 0 dX11_next_298 rfl ?_
        refine ab_iloadn 2 dX11_next_299 rfl ?_
        refine ab_if_eq (tgt := 320) dX11_next_300 (by decide) (fun hc11 => ?_) (fun hc11 => ?_)
        · have h := sat_t hc11 h
          refine ab_sub [] rfl ?_
          exact t_X11_next_320 N X9 h
        · have h := sat_f hc11 h
          refine ab_aloadn 0 dX11_next_303 rfl ?_
          refine fX_gi (x := 13) ⟨by decide, by decide⟩ rfl rfl (Nat.le_of_ble_eq_true rfl) wd_361 rfl dX11_next_304 ?_
          refine ab_iloadn 1 dX11_next_307 rfl ?_
          refine ab_if_eq (tgt := 316) dX11_next_308 (by decide) (fun hc12 => ?_) (fun hc12 => ?_)
          · have h := sat_t hc12 h
            refine ab_iconst (v := 3) dX11_next_316 (by decide) ?_
            refine ab_sub [1] rfl ?_
            exact t_X11_next_317 N a2 3 (X9.1 0 13) X9 h
          · have h := sat_f hc12 h
            refine ab_bipush (v := 6) dX11_next_311 (by decide) ?_
            refine ab_goto (tgt := 317) dX11_next_313 (by decide) ?_
            refine ab_sub [1] rfl ?_
            exact t_X11_next_317 N a2 6 (X9.1 0 13) X9 h
      · have h := sat_f hc10 h
        exact t_X11_next_201 N (fun z3 c => f_X11_next_181 N a2 n z3 c) a2 a3 ih X9 h
set_option maxRecDepth 8000 in
theorem t_X11_next_164 {l : Launch} {G : GX} {C : CM} {Q : Int32 → Mem → Prop} (N : Nat) (a1 : Int32) (X : XM) (h : SAT (f_X11_next_164 N a1 X) (fun v c => Q v (C, c))) : AB l G (rmD 2) 0 0 mt_X11_next (ZQ G mt_X11_next Q) 164 [(0, .ref (gA G 10 0 0)), (1, .int a1)] [] (C, X) := by
  unfold f_X11_next_164 at h
  refine ab_iloadn 1 dX11_next_164 rfl ?_
  refine fX_Si (mtc := mt_X11_isSmall) (As := [.int a1]) h (fun Q h => ct_X11_isSmall a1 X h) mw_X11_isSmall wd_363 wd_364 rfl rfl ⟨Nat.le_of_ble_eq_true rfl, Nat.le_of_ble_eq_true rfl⟩ ⟨Nat.zero_le _, Nat.zero_le _⟩ (Nat.le_of_ble_eq_true rfl) rfl dX11_next_165 (fun v1 X2 h => ?_)
  refine ab_istoren (lv' := [(0, .ref (gA G 10 0 0)), (1, .int a1), (2, .int v1)]) dX11_next_168 rfl (Nat.le_of_ble_eq_true rfl) rfl ?_
  refine ab_iconst (v := 1) dX11_next_169 (by decide) ?_
  refine ab_istoren (lv' := [(0, .ref (gA G 10 0 0)), (1, .int a1), (2, .int v1), (3, .int 1)]) dX11_next_170 rfl (Nat.le_of_ble_eq_true rfl) rfl ?_
  refine ab_aloadn 0 dX11_next_171 rfl ?_
  refine ab_lconst (v := 0) dX11_next_172 (by decide) ?_
  refine fX_pl (x := 17) (ty := .long) ⟨by decide, by decide⟩ rfl rfl (Nat.le_of_ble_eq_true rfl) wd_368 rfl h rfl (by decide +kernel) rfl rfl dX11_next_173 (fun X3 h => ?_)
  refine ab_aloadn 0 dX11_next_176 rfl ?_
  refine ab_iconst (v := 0) dX11_next_177 (by decide) ?_
  refine fX_pi (x := 14) (ty := .int) ⟨by decide, by decide⟩ rfl rfl (Nat.le_of_ble_eq_true rfl) wd_367 rfl h rfl (by decide +kernel) rfl rfl dX11_next_178 (fun X4 h => ?_)
  refine ab_sub [0, 2, 3] rfl ?_
  exact t_X11_next_181 N v1 N 1 X4 h
set_option maxRecDepth 8000 in
theorem t_X11_next_145 {l : Launch} {G : GX} {C : CM} {Q : Int32 → Mem → Prop} (N : Nat) (a1 : Int32) (as0 : Int32) (X : XM) (h : SAT (f_X11_next_145 N a1 as0 X) (fun v c => Q v (C, c))) : AB l G (rmD 2) 0 0 mt_X11_next (ZQ G mt_X11_next Q) 145 [(0, .ref (gA G 10 0 0)), (1, .int a1)] [.int as0, .ref (gA G 10 0 0)] (C, X) := by
  unfold f_X11_next_145 at h
  refine fX_pi (x := 11) (ty := .int) ⟨by decide, by decide⟩ rfl rfl (Nat.le_of_ble_eq_true rfl) wd_362 rfl h rfl (by decide +kernel) rfl rfl dX11_next_145 (fun X1 h => ?_)
  refine ab_aloadn 0 dX11_next_148 rfl ?_
  refine ab_iloadn 1 dX11_next_149 rfl ?_
  refine fX_pi (x := 14) (ty := .int) ⟨by decide, by decide⟩ rfl rfl (Nat.le_of_ble_eq_true rfl) wd_367 rfl h rfl (by decide +kernel) rfl rfl dX11_next_150 (fun X2 h => ?_)
  refine ab_aloadn 0 dX11_next_153 rfl ?_
  refine ab_dup dX11_next_154 rfl ?_
  refine fX_gi (x := 4) ⟨by decide, by decide⟩ rfl rfl (Nat.le_of_ble_eq_true rfl) wd_349 rfl dX11_next_155 ?_
  refine ab_iconst (v := 1) dX11_next_158 (by decide) ?_
  refine ab_iadd dX11_next_159 ?_
  refine fX_pi (x := 4) (ty := .int) ⟨by decide, by decide⟩ rfl rfl (Nat.le_of_ble_eq_true rfl) wd_349 rfl h rfl (by decide +kernel) rfl rfl dX11_next_160 (fun X3 h => ?_)
  exact fX_vret h rfl dX11_next_163
set_option maxRecDepth 8000 in
theorem t_X11_next_144 {l : Launch} {G : GX} {C : CM} {Q : Int32 → Mem → Prop} (N : Nat) (a1 : Int32) (X : XM) (h : SAT (f_X11_next_144 N a1 X) (fun v c => Q v (C, c))) : AB l G (rmD 2) 0 0 mt_X11_next (ZQ G mt_X11_next Q) 144 [(0, .ref (gA G 10 0 0)), (1, .int a1)] [.ref (gA G 10 0 0)] (C, X) := by
  unfold f_X11_next_144 at h
  refine ab_iconst (v := 4) dX11_next_144 (by decide) ?_
  exact t_X11_next_145 N a1 4 X h
set_option maxRecDepth 8000 in
theorem t_X11_next_140 {l : Launch} {G : GX} {C : CM} {Q : Int32 → Mem → Prop} (N : Nat) (a1 : Int32) (X : XM) (h : SAT (f_X11_next_140 N a1 X) (fun v c => Q v (C, c))) : AB l G (rmD 2) 0 0 mt_X11_next (ZQ G mt_X11_next Q) 140 [(0, .ref (gA G 10 0 0)), (1, .int a1)] [.ref (gA G 10 0 0)] (C, X) := by
  unfold f_X11_next_140 at h
  refine ab_iconst (v := 3) dX11_next_140 (by decide) ?_
  refine ab_goto (tgt := 145) dX11_next_141 (by decide) ?_
  exact t_X11_next_145 N a1 3 X h
set_option maxRecDepth 8000 in
theorem t_X11_next_80 {l : Launch} {G : GX} {C : CM} {Q : Int32 → Mem → Prop} (N : Nat) (X : XM) (h : SAT (f_X11_next_80 N X) (fun v c => Q v (C, c))) : AB l G (rmD 2) 0 0 mt_X11_next (ZQ G mt_X11_next Q) 80 [(0, .ref (gA G 10 0 0))] [] (C, X) := by
  unfold f_X11_next_80 at h
  refine ab_aloadn 0 dX11_next_80 rfl ?_
  refine fX_Vi (mtc := mt_X11_peek) (As := []) h (fun Q h => ct_X11_peek X h) ⟨by decide, by decide⟩ rfl rfl rfl mw_X11_peek wd_359 rfl rfl ⟨Nat.le_of_ble_eq_true rfl, Nat.le_of_ble_eq_true rfl⟩ ⟨Nat.zero_le _, Nat.zero_le _⟩ (Nat.le_of_ble_eq_true rfl) rfl dX11_next_81 (fun v1 X2 h => ?_)
  refine ab_istoren (lv' := [(0, .ref (gA G 10 0 0)), (1, .int v1)]) dX11_next_84 rfl (Nat.le_of_ble_eq_true rfl) rfl ?_
  refine ab_iloadn 1 dX11_next_85 rfl ?_
  refine ab_if_ge (tgt := 95) dX11_next_86 (by decide) (fun hc3 => ?_) (fun hc3 => ?_)
  · have h := sat_t hc3 h
    refine ab_iloadn 1 dX11_next_95 rfl ?_
    refine fX_Si (mtc := mt_X11_isSmall) (As := [.int v1]) h (fun Q h => ct_X11_isSmall v1 X2 h) mw_X11_isSmall wd_363 wd_364 rfl rfl ⟨Nat.le_of_ble_eq_true rfl, Nat.le_of_ble_eq_true rfl⟩ ⟨Nat.zero_le _, Nat.zero_le _⟩ (Nat.le_of_ble_eq_true rfl) rfl dX11_next_96 (fun v4 X5 h => ?_)
    refine ab_if_ne (tgt := 164) dX11_next_99 (by decide) (fun hc6 => ?_) (fun hc6 => ?_)
    · have h := sat_f hc6 h
      exact t_X11_next_164 N v1 X5 h
    · have h := sat_t hc6 h
      refine ab_iloadn 1 dX11_next_102 rfl ?_
      refine fX_Si (mtc := mt_X11_isDigit) (As := [.int v1]) h (fun Q h => ct_X11_isDigit v1 X5 h) mw_X11_isDigit wd_365 wd_366 rfl rfl ⟨Nat.le_of_ble_eq_true rfl, Nat.le_of_ble_eq_true rfl⟩ ⟨Nat.zero_le _, Nat.zero_le _⟩ (Nat.le_of_ble_eq_true rfl) rfl dX11_next_103 (fun v7 X8 h => ?_)
      refine ab_if_ne (tgt := 164) dX11_next_106 (by decide) (fun hc9 => ?_) (fun hc9 => ?_)
      · have h := sat_f hc9 h
        exact t_X11_next_164 N v1 X8 h
      · have h := sat_t hc9 h
        refine ab_aloadn 0 dX11_next_109 rfl ?_
        refine ab_iloadn 1 dX11_next_110 rfl ?_
        refine ab_bipush (v := 59) dX11_next_111 (by decide) ?_
        refine ab_icmp_eq (tgt := 140) dX11_next_113 (by decide) (fun hc10 => ?_) (fun hc10 => ?_)
        · have h := sat_t hc10 h
          exact t_X11_next_140 N v1 X8 h
        · have h := sat_f hc10 h
          refine ab_iloadn 1 dX11_next_116 rfl ?_
          refine ab_bipush (v := 40) dX11_next_117 (by decide) ?_
          refine ab_icmp_eq (tgt := 140) dX11_next_119 (by decide) (fun hc11 => ?_) (fun hc11 => ?_)
          · have h := sat_t hc11 h
            exact t_X11_next_140 N v1 X8 h
          · have h := sat_f hc11 h
            refine ab_iloadn 1 dX11_next_122 rfl ?_
            refine ab_bipush (v := 41) dX11_next_123 (by decide) ?_
            refine ab_icmp_eq (tgt := 140) dX11_next_125 (by decide) (fun hc12 => ?_) (fun hc12 => ?_)
            · have h := sat_t hc12 h
              exact t_X11_next_140 N v1 X8 h
            · have h := sat_f hc12 h
              refine ab_iloadn 1 dX11_next_128 rfl ?_
              refine ab_bipush (v := 60) dX11_next_129 (by decide) ?_
              refine ab_icmp_lt (tgt := 144) dX11_next_131 (by decide) (fun hc13 => ?_) (fun hc13 => ?_)
              · have h := sat_t hc13 h
                exact t_X11_next_144 N v1 X8 h
              · have h := sat_f hc13 h
                refine ab_iloadn 1 dX11_next_134 rfl ?_
                refine ab_bipush (v := 62) dX11_next_135 (by decide) ?_
                refine ab_icmp_gt (tgt := 144) dX11_next_137 (by decide) (fun hc14 => ?_) (fun hc14 => ?_)
                · have h := sat_t hc14 h
                  exact t_X11_next_144 N v1 X8 h
                · have h := sat_f hc14 h
                  exact t_X11_next_140 N v1 X8 h
  · have h := sat_f hc3 h
    refine ab_aloadn 0 dX11_next_89 rfl ?_
    refine ab_iconst (v := 0) dX11_next_90 (by decide) ?_
    refine fX_pi (x := 11) (ty := .int) ⟨by decide, by decide⟩ rfl rfl (Nat.le_of_ble_eq_true rfl) wd_362 rfl h rfl (by decide +kernel) rfl rfl dX11_next_91 (fun X15 h => ?_)
    exact fX_vret h rfl dX11_next_94
set_option maxRecDepth 8000 in
theorem t_X11_next_18 {l : Launch} {G : GX} {C : CM} {Q : Int32 → Mem → Prop} (N : Nat) (k0 : XM → Option (Int32 × XM)) (hk0 : ∀ (X : XM), SAT (k0 X) (fun v c => Q v (C, c)) → AB l G (rmD 2) 0 0 mt_X11_next (ZQ G mt_X11_next Q) 0 [(0, .ref (gA G 10 0 0))] [] (C, X)) (X : XM) (h : SAT (f_X11_next_18 N k0 X) (fun v c => Q v (C, c))) : AB l G (rmD 2) 0 0 mt_X11_next (ZQ G mt_X11_next Q) 18 [(0, .ref (gA G 10 0 0))] [] (C, X) := by
  unfold f_X11_next_18 at h
  refine ab_aloadn 0 dX11_next_18 rfl ?_
  refine ab_dup dX11_next_19 rfl ?_
  refine fX_gi (x := 4) ⟨by decide, by decide⟩ rfl rfl (Nat.le_of_ble_eq_true rfl) wd_349 rfl dX11_next_20 ?_
  refine ab_iconst (v := 1) dX11_next_23 (by decide) ?_
  refine ab_iadd dX11_next_24 ?_
  refine fX_pi (x := 4) (ty := .int) ⟨by decide, by decide⟩ rfl rfl (Nat.le_of_ble_eq_true rfl) wd_349 rfl h rfl (by decide +kernel) rfl rfl dX11_next_25 (fun X1 h => ?_)
  refine ab_goto (tgt := 0) dX11_next_28 (by decide) ?_
  exact hk0 X1 h
set_option maxRecDepth 8000 in
theorem t_X11_next_0 {l : Launch} {G : GX} {C : CM} {Q : Int32 → Mem → Prop} (N : Nat) : ∀ (n : Nat) (X : XM), SAT (f_X11_next_0 N n X) (fun v c => Q v (C, c)) → AB l G (rmD 2) 0 0 mt_X11_next (ZQ G mt_X11_next Q) 0 [(0, .ref (gA G 10 0 0))] [] (C, X) := by
  intro n
  induction n with
  | zero => intro X h; exact h.elim
  | succ n ih =>
    intro X h
    rw [f_X11_next_0] at h
    refine ab_aloadn 0 dX11_next_0 rfl ?_
    refine fX_Vi (mtc := mt_X11_peek) (As := []) h (fun Q h => ct_X11_peek X h) ⟨by decide, by decide⟩ rfl rfl rfl mw_X11_peek wd_359 rfl rfl ⟨Nat.le_of_ble_eq_true rfl, Nat.le_of_ble_eq_true rfl⟩ ⟨Nat.zero_le _, Nat.zero_le _⟩ (Nat.le_of_ble_eq_true rfl) rfl dX11_next_1 (fun v1 X2 h => ?_)
    refine ab_bipush (v := 32) dX11_next_4 (by decide) ?_
    refine ab_icmp_eq (tgt := 18) dX11_next_6 (by decide) (fun hc3 => ?_) (fun hc3 => ?_)
    · have h := sat_t hc3 h
      exact t_X11_next_18 N (fun c => f_X11_next_0 N n c) ih X2 h
    · have h := sat_f hc3 h
      refine ab_aloadn 0 dX11_next_9 rfl ?_
      refine fX_Vi (mtc := mt_X11_peek) (As := []) h (fun Q h => ct_X11_peek X2 h) ⟨by decide, by decide⟩ rfl rfl rfl mw_X11_peek wd_359 rfl rfl ⟨Nat.le_of_ble_eq_true rfl, Nat.le_of_ble_eq_true rfl⟩ ⟨Nat.zero_le _, Nat.zero_le _⟩ (Nat.le_of_ble_eq_true rfl) rfl dX11_next_10 (fun v4 X5 h => ?_)
      refine ab_bipush (v := 10) dX11_next_13 (by decide) ?_
      refine ab_icmp_ne (tgt := 31) dX11_next_15 (by decide) (fun hc6 => ?_) (fun hc6 => ?_)
      · have h := sat_f hc6 h
        refine ab_aloadn 0 dX11_next_31 rfl ?_
        refine ab_aloadn 0 dX11_next_32 rfl ?_
        refine fX_gi (x := 4) ⟨by decide, by decide⟩ rfl rfl (Nat.le_of_ble_eq_true rfl) wd_349 rfl dX11_next_33 ?_
        refine fX_pi (x := 12) (ty := .int) ⟨by decide, by decide⟩ rfl rfl (Nat.le_of_ble_eq_true rfl) wd_360 rfl h rfl (by decide +kernel) rfl rfl dX11_next_36 (fun X7 h => ?_)
        refine ab_aloadn 0 dX11_next_39 rfl ?_
        refine ab_iconst (v := 0) dX11_next_40 (by decide) ?_
        refine fX_pi (x := 13) (ty := .int) ⟨by decide, by decide⟩ rfl rfl (Nat.le_of_ble_eq_true rfl) wd_361 rfl h rfl (by decide +kernel) rfl rfl dX11_next_41 (fun X8 h => ?_)
        refine ab_aloadn 0 dX11_next_44 rfl ?_
        refine fX_gi (x := 3) ⟨by decide, by decide⟩ rfl rfl (Nat.le_of_ble_eq_true rfl) wd_348 rfl dX11_next_45 ?_
        refine ab_aloadn 0 dX11_next_48 rfl ?_
        refine fX_gi (x := 5) ⟨by decide, by decide⟩ rfl rfl (Nat.le_of_ble_eq_true rfl) wd_350 rfl dX11_next_49 ?_
        refine ab_icmp_le (tgt := 80) dX11_next_52 (by decide) (fun hc9 => ?_) (fun hc9 => ?_)
        · have h := sat_t hc9 h
          exact t_X11_next_80 N X8 h
        · have h := sat_f hc9 h
          refine ab_aloadn 0 dX11_next_55 rfl ?_
          refine fX_gi (x := 4) ⟨by decide, by decide⟩ rfl rfl (Nat.le_of_ble_eq_true rfl) wd_349 rfl dX11_next_56 ?_
          refine ab_aloadn 0 dX11_next_59 rfl ?_
          refine fX_gi (x := 5) ⟨by decide, by decide⟩ rfl rfl (Nat.le_of_ble_eq_true rfl) wd_350 rfl dX11_next_60 ?_
          refine ab_icmp_lt (tgt := 80) dX11_next_63 (by decide) (fun hc10 => ?_) (fun hc10 => ?_)
          · have h := sat_t hc10 h
            exact t_X11_next_80 N X8 h
          · have h := sat_f hc10 h
            refine ab_aloadn 0 dX11_next_66 rfl ?_
            refine ab_aloadn 0 dX11_next_67 rfl ?_
            refine fX_gi (x := 5) ⟨by decide, by decide⟩ rfl rfl (Nat.le_of_ble_eq_true rfl) wd_350 rfl dX11_next_68 ?_
            refine fX_pi (x := 12) (ty := .int) ⟨by decide, by decide⟩ rfl rfl (Nat.le_of_ble_eq_true rfl) wd_360 rfl h rfl (by decide +kernel) rfl rfl dX11_next_71 (fun X11 h => ?_)
            refine ab_aloadn 0 dX11_next_74 rfl ?_
            refine ab_iconst (v := 4) dX11_next_75 (by decide) ?_
            refine fX_pi (x := 11) (ty := .int) ⟨by decide, by decide⟩ rfl rfl (Nat.le_of_ble_eq_true rfl) wd_362 rfl h rfl (by decide +kernel) rfl rfl dX11_next_76 (fun X12 h => ?_)
            exact fX_vret h rfl dX11_next_79
      · have h := sat_t hc6 h
        exact t_X11_next_18 N (fun c => f_X11_next_0 N n c) ih X5 h
def f_X11_next (N : Nat) (X : XM) : Option (Int32 × XM) := f_X11_next_0 N N X
theorem te_X11_next_0 {l : Launch} {G : GX} {C : CM} {Q : Int32 → Mem → Prop} (N : Nat) (X : XM) (h : SAT (f_X11_next N X) (fun v c => Q v (C, c))) : AB l G (rmD 2) 0 0 mt_X11_next (ZQ G mt_X11_next Q) 0 [(0, .ref (gA G 10 0 0))] [] (C, X) := by
  unfold f_X11_next at h
  exact t_X11_next_0 N N X h
theorem ct_X11_next {l : Launch} {G : GX} {C : CM} {Q : Int32 → Mem → Prop} (N : Nat) (X : XM) (h : SAT (f_X11_next N X) (fun v c => Q v (C, c))) : CT l G 2 mt_X11_next [.ref (gA G 10 0 0)] (C, X) Q := ct_of pn_X11 (Nat.le_of_ble_eq_true rfl) (te_X11_next_0 N X h)
def f_X11_isWord (a1 : Int64) (X : XM) : Option (Int32 × XM) := (if (X.1 0 11) = 1 then (if (lg_cmp (X.2 0 17) a1) = 0 then (rt 1 X) else (rt 0 X)) else (rt 0 X))
set_option maxRecDepth 8000 in
theorem t_X11_isWord_0 {l : Launch} {G : GX} {C : CM} {Q : Int32 → Mem → Prop} (a1 : Int64) (X : XM) (h : SAT (f_X11_isWord a1 X) (fun v c => Q v (C, c))) : AB l G (rmD 1) 0 0 mt_X11_isWord (ZQ G mt_X11_isWord Q) 0 [(0, .ref (gA G 10 0 0)), (1, .long a1)] [] (C, X) := by
  unfold f_X11_isWord at h
  refine ab_aloadn 0 dX11_isWord_0 rfl ?_
  refine fX_gi (x := 11) ⟨by decide, by decide⟩ rfl rfl (Nat.le_of_ble_eq_true rfl) wd_362 rfl dX11_isWord_1 ?_
  refine ab_iconst (v := 1) dX11_isWord_4 (by decide) ?_
  refine ab_icmp_ne (tgt := 21) dX11_isWord_5 (by decide) (fun hc1 => ?_) (fun hc1 => ?_)
  · have h := sat_f hc1 h
    refine ab_iconst (v := 0) dX11_isWord_21 (by decide) ?_
    exact fX_iret h rfl rfl dX11_isWord_22
  · have h := sat_t hc1 h
    refine ab_aloadn 0 dX11_isWord_8 rfl ?_
    refine fX_gl (x := 17) ⟨by decide, by decide⟩ rfl rfl (Nat.le_of_ble_eq_true rfl) wd_368 rfl dX11_isWord_9 ?_
    refine ab_lloadn 1 dX11_isWord_12 rfl ?_
    refine ab_lcmp dX11_isWord_13 ?_
    refine ab_if_ne (tgt := 21) dX11_isWord_14 (by decide) (fun hc2 => ?_) (fun hc2 => ?_)
    · have h := sat_f hc2 h
      refine ab_iconst (v := 0) dX11_isWord_21 (by decide) ?_
      exact fX_iret h rfl rfl dX11_isWord_22
    · have h := sat_t hc2 h
      refine ab_iconst (v := 1) dX11_isWord_17 (by decide) ?_
      refine ab_goto (tgt := 22) dX11_isWord_18 (by decide) ?_
      exact fX_iret h rfl rfl dX11_isWord_22
theorem ct_X11_isWord {l : Launch} {G : GX} {C : CM} {Q : Int32 → Mem → Prop} (a1 : Int64) (X : XM) (h : SAT (f_X11_isWord a1 X) (fun v c => Q v (C, c))) : CT l G 1 mt_X11_isWord [.ref (gA G 10 0 0), .long a1] (C, X) Q := ct_of pn_X11 (Nat.le_of_ble_eq_true rfl) (t_X11_isWord_0 a1 X h)
def f_X11_isIn (a0 : Int32) (a1 : Int32) (a2 : Int32) (X : XM) : Option (Int32 × XM) := (if a0 < a1 then (rt 0 X) else (if a2 < a0 then (rt 0 X) else (rt 1 X)))
set_option maxRecDepth 8000 in
theorem t_X11_isIn_0 {l : Launch} {G : GX} {C : CM} {Q : Int32 → Mem → Prop} (a0 : Int32) (a1 : Int32) (a2 : Int32) (X : XM) (h : SAT (f_X11_isIn a0 a1 a2 X) (fun v c => Q v (C, c))) : AB l G (rmD 1) 0 0 mt_X11_isIn (ZQ G mt_X11_isIn Q) 0 [(0, .int a0), (1, .int a1), (2, .int a2)] [] (C, X) := by
  unfold f_X11_isIn at h
  refine ab_iloadn 0 dX11_isIn_0 rfl ?_
  refine ab_iloadn 1 dX11_isIn_1 rfl ?_
  refine ab_icmp_lt (tgt := 14) dX11_isIn_2 (by decide) (fun hc1 => ?_) (fun hc1 => ?_)
  · have h := sat_t hc1 h
    refine ab_iconst (v := 0) dX11_isIn_14 (by decide) ?_
    exact fX_iret h rfl rfl dX11_isIn_15
  · have h := sat_f hc1 h
    refine ab_iloadn 0 dX11_isIn_5 rfl ?_
    refine ab_iloadn 2 dX11_isIn_6 rfl ?_
    refine ab_icmp_gt (tgt := 14) dX11_isIn_7 (by decide) (fun hc2 => ?_) (fun hc2 => ?_)
    · have h := sat_t hc2 h
      refine ab_iconst (v := 0) dX11_isIn_14 (by decide) ?_
      exact fX_iret h rfl rfl dX11_isIn_15
    · have h := sat_f hc2 h
      refine ab_iconst (v := 1) dX11_isIn_10 (by decide) ?_
      refine ab_goto (tgt := 15) dX11_isIn_11 (by decide) ?_
      exact fX_iret h rfl rfl dX11_isIn_15
theorem ct_X11_isIn {l : Launch} {G : GX} {C : CM} {Q : Int32 → Mem → Prop} (a0 : Int32) (a1 : Int32) (a2 : Int32) (X : XM) (h : SAT (f_X11_isIn a0 a1 a2 X) (fun v c => Q v (C, c))) : CT l G 1 mt_X11_isIn [.int a0, .int a1, .int a2] (C, X) Q := ct_of pn_X11 (Nat.le_of_ble_eq_true rfl) (t_X11_isIn_0 a0 a1 a2 X h)
def f_X11_bad (a1 : Int32) (X : XM) : Option (Int32 × XM) := bnd (stX X 0 15 a1) (fun X1 => bnd (stX X1 0 16 (X1.1 0 12)) (fun X2 => (rt 0 X2)))
set_option maxRecDepth 8000 in
theorem t_X11_bad_0 {l : Launch} {G : GX} {C : CM} {Q : Int32 → Mem → Prop} (a1 : Int32) (X : XM) (h : SAT (f_X11_bad a1 X) (fun v c => Q v (C, c))) : AB l G (rmD 1) 0 0 mt_X11_bad (ZQ G mt_X11_bad Q) 0 [(0, .ref (gA G 10 0 0)), (1, .int a1)] [] (C, X) := by
  unfold f_X11_bad at h
  refine ab_aloadn 0 dX11_bad_0 rfl ?_
  refine ab_iloadn 1 dX11_bad_1 rfl ?_
  refine fX_pi (x := 15) (ty := .int) ⟨by decide, by decide⟩ rfl rfl (Nat.le_of_ble_eq_true rfl) wd_352 rfl h rfl (by decide +kernel) rfl rfl dX11_bad_2 (fun X1 h => ?_)
  refine ab_aloadn 0 dX11_bad_5 rfl ?_
  refine ab_aloadn 0 dX11_bad_6 rfl ?_
  refine fX_gi (x := 12) ⟨by decide, by decide⟩ rfl rfl (Nat.le_of_ble_eq_true rfl) wd_360 rfl dX11_bad_7 ?_
  refine fX_pi (x := 16) (ty := .int) ⟨by decide, by decide⟩ rfl rfl (Nat.le_of_ble_eq_true rfl) wd_385 rfl h rfl (by decide +kernel) rfl rfl dX11_bad_10 (fun X2 h => ?_)
  refine ab_iconst (v := 0) dX11_bad_13 (by decide) ?_
  exact fX_iret h rfl rfl dX11_bad_14
theorem ct_X11_bad {l : Launch} {G : GX} {C : CM} {Q : Int32 → Mem → Prop} (a1 : Int32) (X : XM) (h : SAT (f_X11_bad a1 X) (fun v c => Q v (C, c))) : CT l G 1 mt_X11_bad [.ref (gA G 10 0 0), .int a1] (C, X) Q := ct_of pn_X11 (Nat.le_of_ble_eq_true rfl) (t_X11_bad_0 a1 X h)
def f_X11_takes (N : Nat) (a1 : Int32) (a2 : Int32) (X : XM) : Option (Int32 × XM) := (if (X.1 0 11) = 2 then cal (f_X11_isIn (X.1 0 14) a1 a2 X) (fun v2 X3 => (if v2 = 0 then cal (f_X11_bad 2 X3) (fun v8 X9 => (chk (isB v8) (rt v8 X9))) else bnd (stX X3 0 18 (X3.1 0 14)) (fun X5 => cal (f_X11_next N X5) (fun v6 X7 => (rt 1 X7))))) else cal (f_X11_bad 1 X) (fun v10 X11 => (chk (isB v10) (rt v10 X11))))
set_option maxRecDepth 8000 in
theorem t_X11_takes_0 {l : Launch} {G : GX} {C : CM} {Q : Int32 → Mem → Prop} (N : Nat) (a1 : Int32) (a2 : Int32) (X : XM) (h : SAT (f_X11_takes N a1 a2 X) (fun v c => Q v (C, c))) : AB l G (rmD 3) 0 0 mt_X11_takes (ZQ G mt_X11_takes Q) 0 [(0, .ref (gA G 10 0 0)), (1, .int a1), (2, .int a2)] [] (C, X) := by
  unfold f_X11_takes at h
  refine ab_aloadn 0 dX11_takes_0 rfl ?_
  refine fX_gi (x := 11) ⟨by decide, by decide⟩ rfl rfl (Nat.le_of_ble_eq_true rfl) wd_362 rfl dX11_takes_1 ?_
  refine ab_iconst (v := 2) dX11_takes_4 (by decide) ?_
  refine ab_icmp_eq (tgt := 14) dX11_takes_5 (by decide) (fun hc1 => ?_) (fun hc1 => ?_)
  · have h := sat_t hc1 h
    refine ab_aloadn 0 dX11_takes_14 rfl ?_
    refine fX_gi (x := 14) ⟨by decide, by decide⟩ rfl rfl (Nat.le_of_ble_eq_true rfl) wd_367 rfl dX11_takes_15 ?_
    refine ab_iloadn 1 dX11_takes_18 rfl ?_
    refine ab_iloadn 2 dX11_takes_19 rfl ?_
    refine fX_Si (mtc := mt_X11_isIn) (As := [.int (X.1 0 14), .int a1, .int a2]) h (fun Q h => ct_X11_isIn (X.1 0 14) a1 a2 X h) mw_X11_isIn wd_382 wd_383 rfl rfl ⟨Nat.le_of_ble_eq_true rfl, Nat.le_of_ble_eq_true rfl⟩ ⟨Nat.zero_le _, Nat.zero_le _⟩ (Nat.le_of_ble_eq_true rfl) rfl dX11_takes_20 (fun v2 X3 h => ?_)
    refine ab_if_ne (tgt := 32) dX11_takes_23 (by decide) (fun hc4 => ?_) (fun hc4 => ?_)
    · have h := sat_f hc4 h
      refine ab_aloadn 0 dX11_takes_32 rfl ?_
      refine ab_aloadn 0 dX11_takes_33 rfl ?_
      refine fX_gi (x := 14) ⟨by decide, by decide⟩ rfl rfl (Nat.le_of_ble_eq_true rfl) wd_367 rfl dX11_takes_34 ?_
      refine fX_pi (x := 18) (ty := .int) ⟨by decide, by decide⟩ rfl rfl (Nat.le_of_ble_eq_true rfl) wd_384 rfl h rfl (by decide +kernel) rfl rfl dX11_takes_37 (fun X5 h => ?_)
      refine ab_aloadn 0 dX11_takes_40 rfl ?_
      refine fX_Vv (mtc := mt_X11_next) (As := []) h (fun Q h => ct_X11_next N X5 h) ⟨by decide, by decide⟩ rfl rfl rfl mw_X11_next wd_369 rfl rfl ⟨Nat.le_of_ble_eq_true rfl, Nat.le_of_ble_eq_true rfl⟩ ⟨Nat.zero_le _, Nat.zero_le _⟩ (Nat.le_of_ble_eq_true rfl) rfl dX11_takes_41 (fun v6 X7 h => ?_)
      refine ab_iconst (v := 1) dX11_takes_44 (by decide) ?_
      exact fX_iret h rfl rfl dX11_takes_45
    · have h := sat_t hc4 h
      refine ab_aloadn 0 dX11_takes_26 rfl ?_
      refine ab_iconst (v := 2) dX11_takes_27 (by decide) ?_
      refine fX_Vi (mtc := mt_X11_bad) (As := [.int 2]) h (fun Q h => ct_X11_bad 2 X3 h) ⟨by decide, by decide⟩ rfl rfl rfl mw_X11_bad wd_386 rfl rfl ⟨Nat.le_of_ble_eq_true rfl, Nat.le_of_ble_eq_true rfl⟩ ⟨Nat.zero_le _, Nat.zero_le _⟩ (Nat.le_of_ble_eq_true rfl) rfl dX11_takes_28 (fun v8 X9 h => ?_)
      exact fX_iretb h rfl dX11_takes_31
  · have h := sat_f hc1 h
    refine ab_aloadn 0 dX11_takes_8 rfl ?_
    refine ab_iconst (v := 1) dX11_takes_9 (by decide) ?_
    refine fX_Vi (mtc := mt_X11_bad) (As := [.int 1]) h (fun Q h => ct_X11_bad 1 X h) ⟨by decide, by decide⟩ rfl rfl rfl mw_X11_bad wd_386 rfl rfl ⟨Nat.le_of_ble_eq_true rfl, Nat.le_of_ble_eq_true rfl⟩ ⟨Nat.zero_le _, Nat.zero_le _⟩ (Nat.le_of_ble_eq_true rfl) rfl dX11_takes_10 (fun v10 X11 h => ?_)
    exact fX_iretb h rfl dX11_takes_13
theorem ct_X11_takes {l : Launch} {G : GX} {C : CM} {Q : Int32 → Mem → Prop} (N : Nat) (a1 : Int32) (a2 : Int32) (X : XM) (h : SAT (f_X11_takes N a1 a2 X) (fun v c => Q v (C, c))) : CT l G 3 mt_X11_takes [.ref (gA G 10 0 0), .int a1, .int a2] (C, X) Q := ct_of pn_X11 (Nat.le_of_ble_eq_true rfl) (t_X11_takes_0 N a1 a2 X h)
def f_X11_isName_45 (N : Nat) (k16 : Int32 → Int32 → XM → Option (Int32 × XM)) (a2 : Int32) (as0 : Int32) (X : XM) : Option (Int32 × XM) := (k16 as0 (a2 + 1) X)
def f_X11_isName_44 (N : Nat) (k16 : Int32 → Int32 → XM → Option (Int32 × XM)) (a2 : Int32) (X : XM) : Option (Int32 × XM) := (f_X11_isName_45 N k16 a2 0 X)
def f_X11_isName_16 (N : Nat) : Nat → Int32 → Int32 → XM → Option (Int32 × XM)
  | 0, _, _, _ => none
  | n + 1, a1, a2, X => (if 24 ≤ a2 then (chk (isB a1) (rt a1 X)) else (if a1 = 0 then (f_X11_isName_44 N (fun z1 z2 c => f_X11_isName_16 N n z1 z2 c) a2 X) else ldL (X.2 6) 24 a2 (fun v3 => (if (lg_cmp (X.2 0 17) v3) = 0 then (f_X11_isName_44 N (fun z1 z2 c => f_X11_isName_16 N n z1 z2 c) a2 X) else (f_X11_isName_45 N (fun z1 z2 c => f_X11_isName_16 N n z1 z2 c) a2 1 X)))))
def f_X11_isName_13 (N : Nat) (as0 : Int32) (X : XM) : Option (Int32 × XM) := (f_X11_isName_16 N N as0 0 X)
def f_X11_isName (N : Nat) (X : XM) : Option (Int32 × XM) := (if (X.1 0 11) = 1 then (f_X11_isName_13 N 1 X) else (f_X11_isName_13 N 0 X))
set_option maxRecDepth 8000 in
theorem t_X11_isName_45 {l : Launch} {G : GX} {C : CM} {Q : Int32 → Mem → Prop} (N : Nat) (k16 : Int32 → Int32 → XM → Option (Int32 × XM)) (a2 : Int32) (as0 : Int32) (hk16 : ∀ (ac1 : Int32) (ac2 : Int32) (X : XM), SAT (k16 ac1 ac2 X) (fun v c => Q v (C, c)) → AB l G (rmD 1) 0 0 mt_X11_isName (ZQ G mt_X11_isName Q) 16 [(0, .ref (gA G 10 0 0)), (1, .int ac1), (2, .int ac2)] [] (C, X)) (X : XM) (h : SAT (f_X11_isName_45 N k16 a2 as0 X) (fun v c => Q v (C, c))) : AB l G (rmD 1) 0 0 mt_X11_isName (ZQ G mt_X11_isName Q) 45 [(0, .ref (gA G 10 0 0)), (2, .int a2)] [.int as0] (C, X) := by
  unfold f_X11_isName_45 at h
  refine ab_istoren (lv' := [(0, .ref (gA G 10 0 0)), (2, .int a2), (1, .int as0)]) dX11_isName_45 rfl (Nat.le_of_ble_eq_true rfl) rfl ?_
  refine ab_iinc (q := 1) (v := (a2 + 1)) (lv' := [(0, .ref (gA G 10 0 0)), (2, .int (a2 + 1)), (1, .int as0)]) dX11_isName_46 rfl rfl rfl (Nat.le_of_ble_eq_true rfl) rfl ?_
  refine ab_goto (tgt := 16) dX11_isName_49 (by decide) ?_
  refine ab_sub [0, 2, 1] rfl ?_
  exact hk16 as0 (a2 + 1) X h
set_option maxRecDepth 8000 in
theorem t_X11_isName_44 {l : Launch} {G : GX} {C : CM} {Q : Int32 → Mem → Prop} (N : Nat) (k16 : Int32 → Int32 → XM → Option (Int32 × XM)) (a2 : Int32) (hk16 : ∀ (ac1 : Int32) (ac2 : Int32) (X : XM), SAT (k16 ac1 ac2 X) (fun v c => Q v (C, c)) → AB l G (rmD 1) 0 0 mt_X11_isName (ZQ G mt_X11_isName Q) 16 [(0, .ref (gA G 10 0 0)), (1, .int ac1), (2, .int ac2)] [] (C, X)) (X : XM) (h : SAT (f_X11_isName_44 N k16 a2 X) (fun v c => Q v (C, c))) : AB l G (rmD 1) 0 0 mt_X11_isName (ZQ G mt_X11_isName Q) 44 [(0, .ref (gA G 10 0 0)), (2, .int a2)] [] (C, X) := by
  unfold f_X11_isName_44 at h
  refine ab_iconst (v := 0) dX11_isName_44 (by decide) ?_
  exact t_X11_isName_45 N k16 a2 0 hk16 X h
set_option maxRecDepth 8000 in
theorem t_X11_isName_16 {l : Launch} {G : GX} {C : CM} {Q : Int32 → Mem → Prop} (N : Nat) : ∀ (n : Nat) (a1 : Int32) (a2 : Int32) (X : XM), SAT (f_X11_isName_16 N n a1 a2 X) (fun v c => Q v (C, c)) → AB l G (rmD 1) 0 0 mt_X11_isName (ZQ G mt_X11_isName Q) 16 [(0, .ref (gA G 10 0 0)), (1, .int a1), (2, .int a2)] [] (C, X) := by
  intro n
  induction n with
  | zero => intro a1 a2 X h; exact h.elim
  | succ n ih =>
    intro a1 a2 X h
    rw [f_X11_isName_16] at h
    refine ab_iloadn 2 dX11_isName_16 rfl ?_
    refine ab_bipush (v := 24) dX11_isName_17 (by decide) ?_
    refine ab_icmp_ge (tgt := 52) dX11_isName_19 (by decide) (fun hc1 => ?_) (fun hc1 => ?_)
    · have h := sat_t hc1 h
      refine ab_iloadn 1 dX11_isName_52 rfl ?_
      exact fX_iretb h rfl dX11_isName_53
    · have h := sat_f hc1 h
      refine ab_iloadn 1 dX11_isName_22 rfl ?_
      refine ab_if_eq (tgt := 44) dX11_isName_23 (by decide) (fun hc2 => ?_) (fun hc2 => ?_)
      · have h := sat_t hc2 h
        refine ab_sub [0, 2] rfl ?_
        exact t_X11_isName_44 N (fun z1 z2 c => f_X11_isName_16 N n z1 z2 c) a2 ih X h
      · have h := sat_f hc2 h
        refine ab_aloadn 0 dX11_isName_26 rfl ?_
        refine fX_gl (x := 17) ⟨by decide, by decide⟩ rfl rfl (Nat.le_of_ble_eq_true rfl) wd_368 rfl dX11_isName_27 ?_
        refine ab_aloadn 0 dX11_isName_30 rfl ?_
        refine f_gr (x := 10) (k2 := 10) (i2 := 0) (j2 := 6) ⟨by decide, by decide⟩ rfl rfl (Nat.le_of_ble_eq_true rfl) wd_388 rfl rfl dX11_isName_31 ?_
        refine ab_iloadn 2 dX11_isName_34 rfl ?_
        refine fX_lald ⟨by decide, by decide⟩ rfl (fun _ => rfl) h dX11_isName_35 (fun v3 h => ?_)
        refine ab_lcmp dX11_isName_36 ?_
        refine ab_if_eq (tgt := 44) dX11_isName_37 (by decide) (fun hc4 => ?_) (fun hc4 => ?_)
        · have h := sat_t hc4 h
          refine ab_sub [0, 2] rfl ?_
          exact t_X11_isName_44 N (fun z1 z2 c => f_X11_isName_16 N n z1 z2 c) a2 ih X h
        · have h := sat_f hc4 h
          refine ab_iconst (v := 1) dX11_isName_40 (by decide) ?_
          refine ab_goto (tgt := 45) dX11_isName_41 (by decide) ?_
          refine ab_sub [0, 2] rfl ?_
          exact t_X11_isName_45 N (fun z1 z2 c => f_X11_isName_16 N n z1 z2 c) a2 1 ih X h
set_option maxRecDepth 8000 in
theorem t_X11_isName_13 {l : Launch} {G : GX} {C : CM} {Q : Int32 → Mem → Prop} (N : Nat) (as0 : Int32) (X : XM) (h : SAT (f_X11_isName_13 N as0 X) (fun v c => Q v (C, c))) : AB l G (rmD 1) 0 0 mt_X11_isName (ZQ G mt_X11_isName Q) 13 [(0, .ref (gA G 10 0 0))] [.int as0] (C, X) := by
  unfold f_X11_isName_13 at h
  refine ab_istoren (lv' := [(0, .ref (gA G 10 0 0)), (1, .int as0)]) dX11_isName_13 rfl (Nat.le_of_ble_eq_true rfl) rfl ?_
  refine ab_iconst (v := 0) dX11_isName_14 (by decide) ?_
  refine ab_istoren (lv' := [(0, .ref (gA G 10 0 0)), (1, .int as0), (2, .int 0)]) dX11_isName_15 rfl (Nat.le_of_ble_eq_true rfl) rfl ?_
  exact t_X11_isName_16 N N as0 0 X h
set_option maxRecDepth 8000 in
theorem t_X11_isName_0 {l : Launch} {G : GX} {C : CM} {Q : Int32 → Mem → Prop} (N : Nat) (X : XM) (h : SAT (f_X11_isName N X) (fun v c => Q v (C, c))) : AB l G (rmD 1) 0 0 mt_X11_isName (ZQ G mt_X11_isName Q) 0 [(0, .ref (gA G 10 0 0))] [] (C, X) := by
  unfold f_X11_isName at h
  refine ab_aloadn 0 dX11_isName_0 rfl ?_
  refine fX_gi (x := 11) ⟨by decide, by decide⟩ rfl rfl (Nat.le_of_ble_eq_true rfl) wd_362 rfl dX11_isName_1 ?_
  refine ab_iconst (v := 1) dX11_isName_4 (by decide) ?_
  refine ab_icmp_ne (tgt := 12) dX11_isName_5 (by decide) (fun hc1 => ?_) (fun hc1 => ?_)
  · have h := sat_f hc1 h
    refine ab_iconst (v := 0) dX11_isName_12 (by decide) ?_
    exact t_X11_isName_13 N 0 X h
  · have h := sat_t hc1 h
    refine ab_iconst (v := 1) dX11_isName_8 (by decide) ?_
    refine ab_goto (tgt := 13) dX11_isName_9 (by decide) ?_
    exact t_X11_isName_13 N 1 X h
theorem ct_X11_isName {l : Launch} {G : GX} {C : CM} {Q : Int32 → Mem → Prop} (N : Nat) (X : XM) (h : SAT (f_X11_isName N X) (fun v c => Q v (C, c))) : CT l G 1 mt_X11_isName [.ref (gA G 10 0 0)] (C, X) Q := ct_of pn_X11 (Nat.le_of_ble_eq_true rfl) (t_X11_isName_0 N X h)
def f_X11_find_2 (N : Nat) (a1 : Int32) (a2 : Int32) : Nat → Int32 → XM → Option (Int32 × XM)
  | 0, _, _ => none
  | n + 1, a3, X => (if a2 ≤ a3 then (rt (-1) X) else ldL (X.2 5) 16 (a1 + a3) (fun v2 => (if (lg_cmp v2 (X.2 0 17)) = 0 then (rt a3 X) else (f_X11_find_2 N a1 a2 n (a3 + 1) X))))
def f_X11_find (N : Nat) (a1 : Int32) (a2 : Int32) (X : XM) : Option (Int32 × XM) := (f_X11_find_2 N a1 a2 N 0 X)
set_option maxRecDepth 8000 in
theorem t_X11_find_2 {l : Launch} {G : GX} {C : CM} {Q : Int32 → Mem → Prop} (N : Nat) (a1 : Int32) (a2 : Int32) : ∀ (n : Nat) (a3 : Int32) (X : XM), SAT (f_X11_find_2 N a1 a2 n a3 X) (fun v c => Q v (C, c)) → AB l G (rmD 1) 0 0 mt_X11_find (ZQ G mt_X11_find Q) 2 [(0, .ref (gA G 10 0 0)), (1, .int a1), (2, .int a2), (3, .int a3)] [] (C, X) := by
  intro n
  induction n with
  | zero => intro a3 X h; exact h.elim
  | succ n ih =>
    intro a3 X h
    rw [f_X11_find_2] at h
    refine ab_iloadn 3 dX11_find_2 rfl ?_
    refine ab_iloadn 2 dX11_find_3 rfl ?_
    refine ab_icmp_ge (tgt := 31) dX11_find_4 (by decide) (fun hc1 => ?_) (fun hc1 => ?_)
    · have h := sat_t hc1 h
      refine ab_iconst (v := (-1)) dX11_find_31 (by decide) ?_
      exact fX_iret h rfl rfl dX11_find_32
    · have h := sat_f hc1 h
      refine ab_aloadn 0 dX11_find_7 rfl ?_
      refine f_gr (x := 9) (k2 := 10) (i2 := 0) (j2 := 5) ⟨by decide, by decide⟩ rfl rfl (Nat.le_of_ble_eq_true rfl) wd_390 rfl rfl dX11_find_8 ?_
      refine ab_iloadn 1 dX11_find_11 rfl ?_
      refine ab_iloadn 3 dX11_find_12 rfl ?_
      refine ab_iadd dX11_find_13 ?_
      refine fX_lald ⟨by decide, by decide⟩ rfl (fun _ => rfl) h dX11_find_14 (fun v2 h => ?_)
      refine ab_aloadn 0 dX11_find_15 rfl ?_
      refine fX_gl (x := 17) ⟨by decide, by decide⟩ rfl rfl (Nat.le_of_ble_eq_true rfl) wd_368 rfl dX11_find_16 ?_
      refine ab_lcmp dX11_find_19 ?_
      refine ab_if_ne (tgt := 25) dX11_find_20 (by decide) (fun hc3 => ?_) (fun hc3 => ?_)
      · have h := sat_f hc3 h
        refine ab_iinc (q := 3) (v := (a3 + 1)) (lv' := [(0, .ref (gA G 10 0 0)), (1, .int a1), (2, .int a2), (3, .int (a3 + 1))]) dX11_find_25 rfl rfl rfl (Nat.le_of_ble_eq_true rfl) rfl ?_
        refine ab_goto (tgt := 2) dX11_find_28 (by decide) ?_
        exact ih (a3 + 1) X h
      · have h := sat_t hc3 h
        refine ab_iloadn 3 dX11_find_23 rfl ?_
        exact fX_iret h rfl rfl dX11_find_24
set_option maxRecDepth 8000 in
theorem t_X11_find_0 {l : Launch} {G : GX} {C : CM} {Q : Int32 → Mem → Prop} (N : Nat) (a1 : Int32) (a2 : Int32) (X : XM) (h : SAT (f_X11_find N a1 a2 X) (fun v c => Q v (C, c))) : AB l G (rmD 1) 0 0 mt_X11_find (ZQ G mt_X11_find Q) 0 [(0, .ref (gA G 10 0 0)), (1, .int a1), (2, .int a2)] [] (C, X) := by
  unfold f_X11_find at h
  refine ab_iconst (v := 0) dX11_find_0 (by decide) ?_
  refine ab_istoren (lv' := [(0, .ref (gA G 10 0 0)), (1, .int a1), (2, .int a2), (3, .int 0)]) dX11_find_1 rfl (Nat.le_of_ble_eq_true rfl) rfl ?_
  exact t_X11_find_2 N a1 a2 N 0 X h
theorem ct_X11_find {l : Launch} {G : GX} {C : CM} {Q : Int32 → Mem → Prop} (N : Nat) (a1 : Int32) (a2 : Int32) (X : XM) (h : SAT (f_X11_find N a1 a2 X) (fun v c => Q v (C, c))) : CT l G 1 mt_X11_find [.ref (gA G 10 0 0), .int a1, .int a2] (C, X) Q := ct_of pn_X11 (Nat.le_of_ble_eq_true rfl) (t_X11_find_0 N a1 a2 X h)
def f_X11_bitOf (a0 : Int32) (a1 : Int32) (X : XM) : Option (Int32 × XM) := (if ((a0 >>> (a1 &&& 31)) &&& 1) = 1 then (rt 1 X) else (rt 0 X))
set_option maxRecDepth 8000 in
theorem t_X11_bitOf_0 {l : Launch} {G : GX} {C : CM} {Q : Int32 → Mem → Prop} (a0 : Int32) (a1 : Int32) (X : XM) (h : SAT (f_X11_bitOf a0 a1 X) (fun v c => Q v (C, c))) : AB l G (rmD 1) 0 0 mt_X11_bitOf (ZQ G mt_X11_bitOf Q) 0 [(0, .int a0), (1, .int a1)] [] (C, X) := by
  unfold f_X11_bitOf at h
  refine ab_iloadn 0 dX11_bitOf_0 rfl ?_
  refine ab_iloadn 1 dX11_bitOf_1 rfl ?_
  refine ab_ishr dX11_bitOf_2 ?_
  refine ab_iconst (v := 1) dX11_bitOf_3 (by decide) ?_
  refine ab_iand dX11_bitOf_4 ?_
  refine ab_iconst (v := 1) dX11_bitOf_5 (by decide) ?_
  refine ab_icmp_ne (tgt := 13) dX11_bitOf_6 (by decide) (fun hc1 => ?_) (fun hc1 => ?_)
  · have h := sat_f hc1 h
    refine ab_iconst (v := 0) dX11_bitOf_13 (by decide) ?_
    exact fX_iret h rfl rfl dX11_bitOf_14
  · have h := sat_t hc1 h
    refine ab_iconst (v := 1) dX11_bitOf_9 (by decide) ?_
    refine ab_goto (tgt := 14) dX11_bitOf_10 (by decide) ?_
    exact fX_iret h rfl rfl dX11_bitOf_14
theorem ct_X11_bitOf {l : Launch} {G : GX} {C : CM} {Q : Int32 → Mem → Prop} (a0 : Int32) (a1 : Int32) (X : XM) (h : SAT (f_X11_bitOf a0 a1 X) (fun v c => Q v (C, c))) : CT l G 1 mt_X11_bitOf [.int a0, .int a1] (C, X) Q := ct_of pn_X11 (Nat.le_of_ble_eq_true rfl) (t_X11_bitOf_0 a0 a1 X h)
def f_X11_takesOwner_38 (N : Nat) (X : XM) : Option (Int32 × XM) := cal (f_X11_bad 3 X) (fun v1 X2 => (chk (isB v1) (rt v1 X2)))
def f_X11_takesOwner (N : Nat) (a1 : Int32) (X : XM) : Option (Int32 × XM) := cal (f_X11_isName N X) (fun v1 X2 => (if v1 = 0 then cal (f_X11_bad 1 X2) (fun v14 X15 => (chk (isB v14) (rt v14 X15))) else ldA (X2.1 3) 371 2 (fun v4 => cal (f_X11_find N 8 v4 X2) (fun v5 X6 => (if v5 < 0 then (f_X11_takesOwner_38 N X6) else cal (f_X11_bitOf a1 v5 X6) (fun v8 X9 => (if v8 = 0 then bnd (stX X9 0 18 v5) (fun X11 => cal (f_X11_next N X11) (fun v12 X13 => (rt 1 X13))) else (f_X11_takesOwner_38 N X9))))))))
set_option maxRecDepth 8000 in
theorem t_X11_takesOwner_38 {l : Launch} {G : GX} {C : CM} {Q : Int32 → Mem → Prop} (N : Nat) (X : XM) (h : SAT (f_X11_takesOwner_38 N X) (fun v c => Q v (C, c))) : AB l G (rmD 3) 0 0 mt_X11_takesOwner (ZQ G mt_X11_takesOwner Q) 38 [(0, .ref (gA G 10 0 0))] [] (C, X) := by
  unfold f_X11_takesOwner_38 at h
  refine ab_aloadn 0 dX11_takesOwner_38 rfl ?_
  refine ab_iconst (v := 3) dX11_takesOwner_39 (by decide) ?_
  refine fX_Vi (mtc := mt_X11_bad) (As := [.int 3]) h (fun Q h => ct_X11_bad 3 X h) ⟨by decide, by decide⟩ rfl rfl rfl mw_X11_bad wd_386 rfl rfl ⟨Nat.le_of_ble_eq_true rfl, Nat.le_of_ble_eq_true rfl⟩ ⟨Nat.zero_le _, Nat.zero_le _⟩ (Nat.le_of_ble_eq_true rfl) rfl dX11_takesOwner_40 (fun v1 X2 h => ?_)
  exact fX_iretb h rfl dX11_takesOwner_43
set_option maxRecDepth 8000 in
theorem t_X11_takesOwner_0 {l : Launch} {G : GX} {C : CM} {Q : Int32 → Mem → Prop} (N : Nat) (a1 : Int32) (X : XM) (h : SAT (f_X11_takesOwner N a1 X) (fun v c => Q v (C, c))) : AB l G (rmD 3) 0 0 mt_X11_takesOwner (ZQ G mt_X11_takesOwner Q) 0 [(0, .ref (gA G 10 0 0)), (1, .int a1)] [] (C, X) := by
  unfold f_X11_takesOwner at h
  refine ab_aloadn 0 dX11_takesOwner_0 rfl ?_
  refine fX_Vi (mtc := mt_X11_isName) (As := []) h (fun Q h => ct_X11_isName N X h) ⟨by decide, by decide⟩ rfl rfl rfl mw_X11_isName wd_389 rfl rfl ⟨Nat.le_of_ble_eq_true rfl, Nat.le_of_ble_eq_true rfl⟩ ⟨Nat.zero_le _, Nat.zero_le _⟩ (Nat.le_of_ble_eq_true rfl) rfl dX11_takesOwner_1 (fun v1 X2 h => ?_)
  refine ab_if_ne (tgt := 13) dX11_takesOwner_4 (by decide) (fun hc3 => ?_) (fun hc3 => ?_)
  · have h := sat_f hc3 h
    refine ab_aloadn 0 dX11_takesOwner_13 rfl ?_
    refine ab_bipush (v := 8) dX11_takesOwner_14 (by decide) ?_
    refine ab_aloadn 0 dX11_takesOwner_16 rfl ?_
    refine f_gr (x := 7) (k2 := 10) (i2 := 0) (j2 := 3) ⟨by decide, by decide⟩ rfl rfl (Nat.le_of_ble_eq_true rfl) wd_370 rfl rfl dX11_takesOwner_17 ?_
    refine ab_iconst (v := 2) dX11_takesOwner_20 (by decide) ?_
    refine fX_iald ⟨by decide, by decide⟩ rfl (fun _ => rfl) h dX11_takesOwner_21 (fun v4 h => ?_)
    refine fX_Vi (mtc := mt_X11_find) (As := [.int 8, .int v4]) h (fun Q h => ct_X11_find N 8 v4 X2 h) ⟨by decide, by decide⟩ rfl rfl rfl mw_X11_find wd_391 rfl rfl ⟨Nat.le_of_ble_eq_true rfl, Nat.le_of_ble_eq_true rfl⟩ ⟨Nat.zero_le _, Nat.zero_le _⟩ (Nat.le_of_ble_eq_true rfl) rfl dX11_takesOwner_22 (fun v5 X6 h => ?_)
    refine ab_istoren (lv' := [(0, .ref (gA G 10 0 0)), (1, .int a1), (2, .int v5)]) dX11_takesOwner_25 rfl (Nat.le_of_ble_eq_true rfl) rfl ?_
    refine ab_iloadn 2 dX11_takesOwner_26 rfl ?_
    refine ab_if_lt (tgt := 38) dX11_takesOwner_27 (by decide) (fun hc7 => ?_) (fun hc7 => ?_)
    · have h := sat_t hc7 h
      refine ab_sub [0] rfl ?_
      exact t_X11_takesOwner_38 N X6 h
    · have h := sat_f hc7 h
      refine ab_iloadn 1 dX11_takesOwner_30 rfl ?_
      refine ab_iloadn 2 dX11_takesOwner_31 rfl ?_
      refine fX_Si (mtc := mt_X11_bitOf) (As := [.int a1, .int v5]) h (fun Q h => ct_X11_bitOf a1 v5 X6 h) mw_X11_bitOf wd_392 wd_393 rfl rfl ⟨Nat.le_of_ble_eq_true rfl, Nat.le_of_ble_eq_true rfl⟩ ⟨Nat.zero_le _, Nat.zero_le _⟩ (Nat.le_of_ble_eq_true rfl) rfl dX11_takesOwner_32 (fun v8 X9 h => ?_)
      refine ab_if_eq (tgt := 44) dX11_takesOwner_35 (by decide) (fun hc10 => ?_) (fun hc10 => ?_)
      · have h := sat_t hc10 h
        refine ab_aloadn 0 dX11_takesOwner_44 rfl ?_
        refine ab_iloadn 2 dX11_takesOwner_45 rfl ?_
        refine fX_pi (x := 18) (ty := .int) ⟨by decide, by decide⟩ rfl rfl (Nat.le_of_ble_eq_true rfl) wd_384 rfl h rfl (by decide +kernel) rfl rfl dX11_takesOwner_46 (fun X11 h => ?_)
        refine ab_aloadn 0 dX11_takesOwner_49 rfl ?_
        refine fX_Vv (mtc := mt_X11_next) (As := []) h (fun Q h => ct_X11_next N X11 h) ⟨by decide, by decide⟩ rfl rfl rfl mw_X11_next wd_369 rfl rfl ⟨Nat.le_of_ble_eq_true rfl, Nat.le_of_ble_eq_true rfl⟩ ⟨Nat.zero_le _, Nat.zero_le _⟩ (Nat.le_of_ble_eq_true rfl) rfl dX11_takesOwner_50 (fun v12 X13 h => ?_)
        refine ab_iconst (v := 1) dX11_takesOwner_53 (by decide) ?_
        exact fX_iret h rfl rfl dX11_takesOwner_54
      · have h := sat_f hc10 h
        refine ab_sub [0] rfl ?_
        exact t_X11_takesOwner_38 N X9 h
  · have h := sat_t hc3 h
    refine ab_aloadn 0 dX11_takesOwner_7 rfl ?_
    refine ab_iconst (v := 1) dX11_takesOwner_8 (by decide) ?_
    refine fX_Vi (mtc := mt_X11_bad) (As := [.int 1]) h (fun Q h => ct_X11_bad 1 X2 h) ⟨by decide, by decide⟩ rfl rfl rfl mw_X11_bad wd_386 rfl rfl ⟨Nat.le_of_ble_eq_true rfl, Nat.le_of_ble_eq_true rfl⟩ ⟨Nat.zero_le _, Nat.zero_le _⟩ (Nat.le_of_ble_eq_true rfl) rfl dX11_takesOwner_9 (fun v14 X15 h => ?_)
    exact fX_iretb h rfl dX11_takesOwner_12
theorem ct_X11_takesOwner {l : Launch} {G : GX} {C : CM} {Q : Int32 → Mem → Prop} (N : Nat) (a1 : Int32) (X : XM) (h : SAT (f_X11_takesOwner N a1 X) (fun v c => Q v (C, c))) : CT l G 3 mt_X11_takesOwner [.ref (gA G 10 0 0), .int a1] (C, X) Q := ct_of pn_X11 (Nat.le_of_ble_eq_true rfl) (t_X11_takesOwner_0 N a1 X h)
def f_X11_looksAtCell (N : Nat) (X : XM) : Option (Int32 × XM) := ldA (X.1 3) 371 0 (fun v1 => cal (f_X11_takes N 0 (v1 - 1) X) (fun v2 X3 => (if v2 = 0 then (rt 0 X3) else bnd (stX X3 0 25 (X3.1 0 18)) (fun X5 => (if (X5.1 0 11) = 2 then ldA (X5.1 3) 371 1 (fun v7 => (if (X5.1 0 14) < v7 then bnd (stX X5 0 18 ((10 * (X5.1 0 14)) + (X5.1 0 25))) (fun X9 => (rt 1 X9)) else cal (f_X11_bad 2 X5) (fun v10 X11 => (chk (isB v10) (rt v10 X11))))) else cal (f_X11_bad 1 X5) (fun v12 X13 => (chk (isB v12) (rt v12 X13))))))))
set_option maxRecDepth 8000 in
theorem t_X11_looksAtCell_0 {l : Launch} {G : GX} {C : CM} {Q : Int32 → Mem → Prop} (N : Nat) (X : XM) (h : SAT (f_X11_looksAtCell N X) (fun v c => Q v (C, c))) : AB l G (rmD 4) 0 0 mt_X11_looksAtCell (ZQ G mt_X11_looksAtCell Q) 0 [(0, .ref (gA G 10 0 0))] [] (C, X) := by
  unfold f_X11_looksAtCell at h
  refine ab_aloadn 0 dX11_looksAtCell_0 rfl ?_
  refine ab_iconst (v := 0) dX11_looksAtCell_1 (by decide) ?_
  refine ab_aloadn 0 dX11_looksAtCell_2 rfl ?_
  refine f_gr (x := 7) (k2 := 10) (i2 := 0) (j2 := 3) ⟨by decide, by decide⟩ rfl rfl (Nat.le_of_ble_eq_true rfl) wd_370 rfl rfl dX11_looksAtCell_3 ?_
  refine ab_iconst (v := 0) dX11_looksAtCell_6 (by decide) ?_
  refine fX_iald ⟨by decide, by decide⟩ rfl (fun _ => rfl) h dX11_looksAtCell_7 (fun v1 h => ?_)
  refine ab_iconst (v := 1) dX11_looksAtCell_8 (by decide) ?_
  refine ab_isub dX11_looksAtCell_9 ?_
  refine fX_Vi (mtc := mt_X11_takes) (As := [.int 0, .int (v1 - 1)]) h (fun Q h => ct_X11_takes N 0 (v1 - 1) X h) ⟨by decide, by decide⟩ rfl rfl rfl mw_X11_takes wd_387 rfl rfl ⟨Nat.le_of_ble_eq_true rfl, Nat.le_of_ble_eq_true rfl⟩ ⟨Nat.zero_le _, Nat.zero_le _⟩ (Nat.le_of_ble_eq_true rfl) rfl dX11_looksAtCell_10 (fun v2 X3 h => ?_)
  refine ab_if_ne (tgt := 18) dX11_looksAtCell_13 (by decide) (fun hc4 => ?_) (fun hc4 => ?_)
  · have h := sat_f hc4 h
    refine ab_aloadn 0 dX11_looksAtCell_18 rfl ?_
    refine ab_aloadn 0 dX11_looksAtCell_19 rfl ?_
    refine fX_gi (x := 18) ⟨by decide, by decide⟩ rfl rfl (Nat.le_of_ble_eq_true rfl) wd_384 rfl dX11_looksAtCell_20 ?_
    refine fX_pi (x := 25) (ty := .int) ⟨by decide, by decide⟩ rfl rfl (Nat.le_of_ble_eq_true rfl) wd_395 rfl h rfl (by decide +kernel) rfl rfl dX11_looksAtCell_23 (fun X5 h => ?_)
    refine ab_aloadn 0 dX11_looksAtCell_26 rfl ?_
    refine fX_gi (x := 11) ⟨by decide, by decide⟩ rfl rfl (Nat.le_of_ble_eq_true rfl) wd_362 rfl dX11_looksAtCell_27 ?_
    refine ab_iconst (v := 2) dX11_looksAtCell_30 (by decide) ?_
    refine ab_icmp_eq (tgt := 40) dX11_looksAtCell_31 (by decide) (fun hc6 => ?_) (fun hc6 => ?_)
    · have h := sat_t hc6 h
      refine ab_aloadn 0 dX11_looksAtCell_40 rfl ?_
      refine fX_gi (x := 14) ⟨by decide, by decide⟩ rfl rfl (Nat.le_of_ble_eq_true rfl) wd_367 rfl dX11_looksAtCell_41 ?_
      refine ab_aloadn 0 dX11_looksAtCell_44 rfl ?_
      refine f_gr (x := 7) (k2 := 10) (i2 := 0) (j2 := 3) ⟨by decide, by decide⟩ rfl rfl (Nat.le_of_ble_eq_true rfl) wd_370 rfl rfl dX11_looksAtCell_45 ?_
      refine ab_iconst (v := 1) dX11_looksAtCell_48 (by decide) ?_
      refine fX_iald ⟨by decide, by decide⟩ rfl (fun _ => rfl) h dX11_looksAtCell_49 (fun v7 h => ?_)
      refine ab_icmp_lt (tgt := 59) dX11_looksAtCell_50 (by decide) (fun hc8 => ?_) (fun hc8 => ?_)
      · have h := sat_t hc8 h
        refine ab_aloadn 0 dX11_looksAtCell_59 rfl ?_
        refine ab_bipush (v := 10) dX11_looksAtCell_60 (by decide) ?_
        refine ab_aloadn 0 dX11_looksAtCell_62 rfl ?_
        refine fX_gi (x := 14) ⟨by decide, by decide⟩ rfl rfl (Nat.le_of_ble_eq_true rfl) wd_367 rfl dX11_looksAtCell_63 ?_
        refine ab_imul dX11_looksAtCell_66 ?_
        refine ab_aloadn 0 dX11_looksAtCell_67 rfl ?_
        refine fX_gi (x := 25) ⟨by decide, by decide⟩ rfl rfl (Nat.le_of_ble_eq_true rfl) wd_395 rfl dX11_looksAtCell_68 ?_
        refine ab_iadd dX11_looksAtCell_71 ?_
        refine fX_pi (x := 18) (ty := .int) ⟨by decide, by decide⟩ rfl rfl (Nat.le_of_ble_eq_true rfl) wd_384 rfl h rfl (by decide +kernel) rfl rfl dX11_looksAtCell_72 (fun X9 h => ?_)
        refine ab_iconst (v := 1) dX11_looksAtCell_75 (by decide) ?_
        exact fX_iret h rfl rfl dX11_looksAtCell_76
      · have h := sat_f hc8 h
        refine ab_aloadn 0 dX11_looksAtCell_53 rfl ?_
        refine ab_iconst (v := 2) dX11_looksAtCell_54 (by decide) ?_
        refine fX_Vi (mtc := mt_X11_bad) (As := [.int 2]) h (fun Q h => ct_X11_bad 2 X5 h) ⟨by decide, by decide⟩ rfl rfl rfl mw_X11_bad wd_386 rfl rfl ⟨Nat.le_of_ble_eq_true rfl, Nat.le_of_ble_eq_true rfl⟩ ⟨Nat.zero_le _, Nat.zero_le _⟩ (Nat.le_of_ble_eq_true rfl) rfl dX11_looksAtCell_55 (fun v10 X11 h => ?_)
        exact fX_iretb h rfl dX11_looksAtCell_58
    · have h := sat_f hc6 h
      refine ab_aloadn 0 dX11_looksAtCell_34 rfl ?_
      refine ab_iconst (v := 1) dX11_looksAtCell_35 (by decide) ?_
      refine fX_Vi (mtc := mt_X11_bad) (As := [.int 1]) h (fun Q h => ct_X11_bad 1 X5 h) ⟨by decide, by decide⟩ rfl rfl rfl mw_X11_bad wd_386 rfl rfl ⟨Nat.le_of_ble_eq_true rfl, Nat.le_of_ble_eq_true rfl⟩ ⟨Nat.zero_le _, Nat.zero_le _⟩ (Nat.le_of_ble_eq_true rfl) rfl dX11_looksAtCell_36 (fun v12 X13 h => ?_)
      exact fX_iretb h rfl dX11_looksAtCell_39
  · have h := sat_t hc4 h
    refine ab_iconst (v := 0) dX11_looksAtCell_16 (by decide) ?_
    exact fX_iret h rfl rfl dX11_looksAtCell_17
theorem ct_X11_looksAtCell {l : Launch} {G : GX} {C : CM} {Q : Int32 → Mem → Prop} (N : Nat) (X : XM) (h : SAT (f_X11_looksAtCell N X) (fun v c => Q v (C, c))) : CT l G 4 mt_X11_looksAtCell [.ref (gA G 10 0 0)] (C, X) Q := ct_of pn_X11 (Nat.le_of_ble_eq_true rfl) (t_X11_looksAtCell_0 N X h)
def f_X11_readPlot_68 (N : Nat) (a2 : Int32) : Nat → Int32 → XM → Option (Int32 × XM)
  | 0, _, _ => none
  | n + 1, a3, X => (if 8 ≤ a3 then sxA X 3 371 (55 + a2) ((X.1 0 18) + 1) (fun X2 => cal (f_X11_next N X2) (fun v3 X4 => (rt 1 X4))) else ldA (X.1 3) 371 (55 + a3) (fun v5 => (if v5 = ((X.1 0 18) + 1) then cal (f_X11_bad 3 X) (fun v7 X8 => (chk (isB v7) (rt v7 X8))) else (f_X11_readPlot_68 N a2 n (a3 + 1) X))))
def f_X11_readPlot_34 (N : Nat) (k8 : Int32 → Int32 → XM → Option (Int32 × XM)) (a2 : Int32) (as0 : Int32) (as1 : Int32) (X : XM) : Option (Int32 × XM) := (k8 (as1 ||| as0) (a2 + 1) X)
def f_X11_readPlot_8 (N : Nat) : Nat → Int32 → Int32 → XM → Option (Int32 × XM)
  | 0, _, _, _ => none
  | n + 1, a1, a2, X => (if 8 ≤ a2 then cal (f_X11_takesOwner N a1 X) (fun v2 X3 => (if v2 = 0 then (rt 0 X3) else cal (f_X11_looksAtCell N X3) (fun v5 X6 => (if v5 = 0 then (rt 0 X6) else (f_X11_readPlot_68 N (X3.1 0 18) N 0 X6))))) else ldA (X.1 3) 371 (55 + a2) (fun v8 => (if v8 ≤ 0 then (f_X11_readPlot_34 N (fun z1 z2 c => f_X11_readPlot_8 N n z1 z2 c) a2 0 a1 X) else (f_X11_readPlot_34 N (fun z1 z2 c => f_X11_readPlot_8 N n z1 z2 c) a2 ((1 : Int32) <<< (a2 &&& 31)) a1 X))))
def f_X11_readPlot (N : Nat) (X : XM) : Option (Int32 × XM) := cal (f_X11_next N X) (fun v1 X2 => (f_X11_readPlot_8 N N 0 0 X2))
set_option maxRecDepth 8000 in
theorem t_X11_readPlot_68 {l : Launch} {G : GX} {C : CM} {Q : Int32 → Mem → Prop} (N : Nat) (a2 : Int32) : ∀ (n : Nat) (a3 : Int32) (X : XM), SAT (f_X11_readPlot_68 N a2 n a3 X) (fun v c => Q v (C, c)) → AB l G (rmD 5) 0 0 mt_X11_readPlot (ZQ G mt_X11_readPlot Q) 68 [(0, .ref (gA G 10 0 0)), (2, .int a2), (3, .int a3)] [] (C, X) := by
  intro n
  induction n with
  | zero => intro a3 X h; exact h.elim
  | succ n ih =>
    intro a3 X h
    rw [f_X11_readPlot_68] at h
    refine ab_iloadn 2 dX11_readPlot_68 rfl ?_
    refine ab_bipush (v := 8) dX11_readPlot_69 (by decide) ?_
    refine ab_icmp_ge (tgt := 104) dX11_readPlot_71 (by decide) (fun hc1 => ?_) (fun hc1 => ?_)
    · have h := sat_t hc1 h
      refine ab_aloadn 0 dX11_readPlot_104 rfl ?_
      refine f_gr (x := 7) (k2 := 10) (i2 := 0) (j2 := 3) ⟨by decide, by decide⟩ rfl rfl (Nat.le_of_ble_eq_true rfl) wd_370 rfl rfl dX11_readPlot_105 ?_
      refine ab_bipush (v := 55) dX11_readPlot_108 (by decide) ?_
      refine ab_iloadn 1 dX11_readPlot_110 rfl ?_
      refine ab_iadd dX11_readPlot_111 ?_
      refine ab_aloadn 0 dX11_readPlot_112 rfl ?_
      refine fX_gi (x := 18) ⟨by decide, by decide⟩ rfl rfl (Nat.le_of_ble_eq_true rfl) wd_384 rfl dX11_readPlot_113 ?_
      refine ab_iconst (v := 1) dX11_readPlot_116 (by decide) ?_
      refine ab_iadd dX11_readPlot_117 ?_
      refine fX_iast ⟨by decide, by decide⟩ rfl (fun _ => rfl) h dX11_readPlot_118 (fun X2 h => ?_)
      refine ab_aloadn 0 dX11_readPlot_119 rfl ?_
      refine fX_Vv (mtc := mt_X11_next) (As := []) h (fun Q h => ct_X11_next N X2 h) ⟨by decide, by decide⟩ rfl rfl rfl mw_X11_next wd_369 rfl rfl ⟨Nat.le_of_ble_eq_true rfl, Nat.le_of_ble_eq_true rfl⟩ ⟨Nat.zero_le _, Nat.zero_le _⟩ (Nat.le_of_ble_eq_true rfl) rfl dX11_readPlot_120 (fun v3 X4 h => ?_)
      refine ab_iconst (v := 1) dX11_readPlot_123 (by decide) ?_
      exact fX_iret h rfl rfl dX11_readPlot_124
    · have h := sat_f hc1 h
      refine ab_aloadn 0 dX11_readPlot_74 rfl ?_
      refine f_gr (x := 7) (k2 := 10) (i2 := 0) (j2 := 3) ⟨by decide, by decide⟩ rfl rfl (Nat.le_of_ble_eq_true rfl) wd_370 rfl rfl dX11_readPlot_75 ?_
      refine ab_bipush (v := 55) dX11_readPlot_78 (by decide) ?_
      refine ab_iloadn 2 dX11_readPlot_80 rfl ?_
      refine ab_iadd dX11_readPlot_81 ?_
      refine fX_iald ⟨by decide, by decide⟩ rfl (fun _ => rfl) h dX11_readPlot_82 (fun v5 h => ?_)
      refine ab_aloadn 0 dX11_readPlot_83 rfl ?_
      refine fX_gi (x := 18) ⟨by decide, by decide⟩ rfl rfl (Nat.le_of_ble_eq_true rfl) wd_384 rfl dX11_readPlot_84 ?_
      refine ab_iconst (v := 1) dX11_readPlot_87 (by decide) ?_
      refine ab_iadd dX11_readPlot_88 ?_
      refine ab_icmp_ne (tgt := 98) dX11_readPlot_89 (by decide) (fun hc6 => ?_) (fun hc6 => ?_)
      · have h := sat_f hc6 h
        refine ab_iinc (q := 2) (v := (a3 + 1)) (lv' := [(0, .ref (gA G 10 0 0)), (2, .int a2), (3, .int (a3 + 1))]) dX11_readPlot_98 rfl rfl rfl (Nat.le_of_ble_eq_true rfl) rfl ?_
        refine ab_goto (tgt := 68) dX11_readPlot_101 (by decide) ?_
        exact ih (a3 + 1) X h
      · have h := sat_t hc6 h
        refine ab_aloadn 0 dX11_readPlot_92 rfl ?_
        refine ab_iconst (v := 3) dX11_readPlot_93 (by decide) ?_
        refine fX_Vi (mtc := mt_X11_bad) (As := [.int 3]) h (fun Q h => ct_X11_bad 3 X h) ⟨by decide, by decide⟩ rfl rfl rfl mw_X11_bad wd_386 rfl rfl ⟨Nat.le_of_ble_eq_true rfl, Nat.le_of_ble_eq_true rfl⟩ ⟨Nat.zero_le _, Nat.zero_le _⟩ (Nat.le_of_ble_eq_true rfl) rfl dX11_readPlot_94 (fun v7 X8 h => ?_)
        exact fX_iretb h rfl dX11_readPlot_97
set_option maxRecDepth 8000 in
theorem t_X11_readPlot_34 {l : Launch} {G : GX} {C : CM} {Q : Int32 → Mem → Prop} (N : Nat) (k8 : Int32 → Int32 → XM → Option (Int32 × XM)) (a2 : Int32) (as0 : Int32) (as1 : Int32) (hk8 : ∀ (ac1 : Int32) (ac2 : Int32) (X : XM), SAT (k8 ac1 ac2 X) (fun v c => Q v (C, c)) → AB l G (rmD 5) 0 0 mt_X11_readPlot (ZQ G mt_X11_readPlot Q) 8 [(0, .ref (gA G 10 0 0)), (1, .int ac1), (2, .int ac2)] [] (C, X)) (X : XM) (h : SAT (f_X11_readPlot_34 N k8 a2 as0 as1 X) (fun v c => Q v (C, c))) : AB l G (rmD 5) 0 0 mt_X11_readPlot (ZQ G mt_X11_readPlot Q) 34 [(0, .ref (gA G 10 0 0)), (2, .int a2)] [.int as0, .int as1] (C, X) := by
  unfold f_X11_readPlot_34 at h
  refine ab_ior dX11_readPlot_34 ?_
  refine ab_istoren (lv' := [(0, .ref (gA G 10 0 0)), (2, .int a2), (1, .int (as1 ||| as0))]) dX11_readPlot_35 rfl (Nat.le_of_ble_eq_true rfl) rfl ?_
  refine ab_iinc (q := 1) (v := (a2 + 1)) (lv' := [(0, .ref (gA G 10 0 0)), (2, .int (a2 + 1)), (1, .int (as1 ||| as0))]) dX11_readPlot_36 rfl rfl rfl (Nat.le_of_ble_eq_true rfl) rfl ?_
  refine ab_goto (tgt := 8) dX11_readPlot_39 (by decide) ?_
  refine ab_sub [0, 2, 1] rfl ?_
  exact hk8 (as1 ||| as0) (a2 + 1) X h
set_option maxRecDepth 8000 in
theorem t_X11_readPlot_8 {l : Launch} {G : GX} {C : CM} {Q : Int32 → Mem → Prop} (N : Nat) : ∀ (n : Nat) (a1 : Int32) (a2 : Int32) (X : XM), SAT (f_X11_readPlot_8 N n a1 a2 X) (fun v c => Q v (C, c)) → AB l G (rmD 5) 0 0 mt_X11_readPlot (ZQ G mt_X11_readPlot Q) 8 [(0, .ref (gA G 10 0 0)), (1, .int a1), (2, .int a2)] [] (C, X) := by
  intro n
  induction n with
  | zero => intro a1 a2 X h; exact h.elim
  | succ n ih =>
    intro a1 a2 X h
    rw [f_X11_readPlot_8] at h
    refine ab_iloadn 2 dX11_readPlot_8 rfl ?_
    refine ab_bipush (v := 8) dX11_readPlot_9 (by decide) ?_
    refine ab_icmp_ge (tgt := 42) dX11_readPlot_11 (by decide) (fun hc1 => ?_) (fun hc1 => ?_)
    · have h := sat_t hc1 h
      refine ab_aloadn 0 dX11_readPlot_42 rfl ?_
      refine ab_iloadn 1 dX11_readPlot_43 rfl ?_
      refine fX_Vi (mtc := mt_X11_takesOwner) (As := [.int a1]) h (fun Q h => ct_X11_takesOwner N a1 X h) ⟨by decide, by decide⟩ rfl rfl rfl mw_X11_takesOwner wd_394 rfl rfl ⟨Nat.le_of_ble_eq_true rfl, Nat.le_of_ble_eq_true rfl⟩ ⟨Nat.zero_le _, Nat.zero_le _⟩ (Nat.le_of_ble_eq_true rfl) rfl dX11_readPlot_44 (fun v2 X3 h => ?_)
      refine ab_if_ne (tgt := 52) dX11_readPlot_47 (by decide) (fun hc4 => ?_) (fun hc4 => ?_)
      · have h := sat_f hc4 h
        refine ab_aloadn 0 dX11_readPlot_52 rfl ?_
        refine fX_gi (x := 18) ⟨by decide, by decide⟩ rfl rfl (Nat.le_of_ble_eq_true rfl) wd_384 rfl dX11_readPlot_53 ?_
        refine ab_istoren (lv' := [(0, .ref (gA G 10 0 0)), (1, .int a1), (2, .int (X3.1 0 18))]) dX11_readPlot_56 rfl (Nat.le_of_ble_eq_true rfl) rfl ?_
        refine ab_aloadn 0 dX11_readPlot_57 rfl ?_
        refine fX_Vi (mtc := mt_X11_looksAtCell) (As := []) h (fun Q h => ct_X11_looksAtCell N X3 h) ⟨by decide, by decide⟩ rfl rfl rfl mw_X11_looksAtCell wd_396 rfl rfl ⟨Nat.le_of_ble_eq_true rfl, Nat.le_of_ble_eq_true rfl⟩ ⟨Nat.zero_le _, Nat.zero_le _⟩ (Nat.le_of_ble_eq_true rfl) rfl dX11_readPlot_58 (fun v5 X6 h => ?_)
        refine ab_if_ne (tgt := 66) dX11_readPlot_61 (by decide) (fun hc7 => ?_) (fun hc7 => ?_)
        · have h := sat_f hc7 h
          refine ab_iconst (v := 0) dX11_readPlot_66 (by decide) ?_
          refine ab_istoren (lv' := [(0, .ref (gA G 10 0 0)), (1, .int a1), (2, .int (X3.1 0 18)), (3, .int 0)]) dX11_readPlot_67 rfl (Nat.le_of_ble_eq_true rfl) rfl ?_
          refine ab_sub [0, 2, 3] rfl ?_
          exact t_X11_readPlot_68 N (X3.1 0 18) N 0 X6 h
        · have h := sat_t hc7 h
          refine ab_iconst (v := 0) dX11_readPlot_64 (by decide) ?_
          exact fX_iret h rfl rfl dX11_readPlot_65
      · have h := sat_t hc4 h
        refine ab_iconst (v := 0) dX11_readPlot_50 (by decide) ?_
        exact fX_iret h rfl rfl dX11_readPlot_51
    · have h := sat_f hc1 h
      refine ab_iloadn 1 dX11_readPlot_14 rfl ?_
      refine ab_aloadn 0 dX11_readPlot_15 rfl ?_
      refine f_gr (x := 7) (k2 := 10) (i2 := 0) (j2 := 3) ⟨by decide, by decide⟩ rfl rfl (Nat.le_of_ble_eq_true rfl) wd_370 rfl rfl dX11_readPlot_16 ?_
      refine ab_bipush (v := 55) dX11_readPlot_19 (by decide) ?_
      refine ab_iloadn 2 dX11_readPlot_21 rfl ?_
      refine ab_iadd dX11_readPlot_22 ?_
      refine fX_iald ⟨by decide, by decide⟩ rfl (fun _ => rfl) h dX11_readPlot_23 (fun v8 h => ?_)
      refine ab_if_le (tgt := 33) dX11_readPlot_24 (by decide) (fun hc9 => ?_) (fun hc9 => ?_)
      · have h := sat_t hc9 h
        refine ab_iconst (v := 0) dX11_readPlot_33 (by decide) ?_
        refine ab_sub [0, 2] rfl ?_
        exact t_X11_readPlot_34 N (fun z1 z2 c => f_X11_readPlot_8 N n z1 z2 c) a2 0 a1 ih X h
      · have h := sat_f hc9 h
        refine ab_iconst (v := 1) dX11_readPlot_27 (by decide) ?_
        refine ab_iloadn 2 dX11_readPlot_28 rfl ?_
        refine ab_ishl dX11_readPlot_29 ?_
        refine ab_goto (tgt := 34) dX11_readPlot_30 (by decide) ?_
        refine ab_sub [0, 2] rfl ?_
        exact t_X11_readPlot_34 N (fun z1 z2 c => f_X11_readPlot_8 N n z1 z2 c) a2 ((1 : Int32) <<< (a2 &&& 31)) a1 ih X h
set_option maxRecDepth 8000 in
theorem t_X11_readPlot_0 {l : Launch} {G : GX} {C : CM} {Q : Int32 → Mem → Prop} (N : Nat) (X : XM) (h : SAT (f_X11_readPlot N X) (fun v c => Q v (C, c))) : AB l G (rmD 5) 0 0 mt_X11_readPlot (ZQ G mt_X11_readPlot Q) 0 [(0, .ref (gA G 10 0 0))] [] (C, X) := by
  unfold f_X11_readPlot at h
  refine ab_aloadn 0 dX11_readPlot_0 rfl ?_
  refine fX_Vv (mtc := mt_X11_next) (As := []) h (fun Q h => ct_X11_next N X h) ⟨by decide, by decide⟩ rfl rfl rfl mw_X11_next wd_369 rfl rfl ⟨Nat.le_of_ble_eq_true rfl, Nat.le_of_ble_eq_true rfl⟩ ⟨Nat.zero_le _, Nat.zero_le _⟩ (Nat.le_of_ble_eq_true rfl) rfl dX11_readPlot_1 (fun v1 X2 h => ?_)
  refine ab_iconst (v := 0) dX11_readPlot_4 (by decide) ?_
  refine ab_istoren (lv' := [(0, .ref (gA G 10 0 0)), (1, .int 0)]) dX11_readPlot_5 rfl (Nat.le_of_ble_eq_true rfl) rfl ?_
  refine ab_iconst (v := 0) dX11_readPlot_6 (by decide) ?_
  refine ab_istoren (lv' := [(0, .ref (gA G 10 0 0)), (1, .int 0), (2, .int 0)]) dX11_readPlot_7 rfl (Nat.le_of_ble_eq_true rfl) rfl ?_
  exact t_X11_readPlot_8 N N 0 0 X2 h
theorem ct_X11_readPlot {l : Launch} {G : GX} {C : CM} {Q : Int32 → Mem → Prop} (N : Nat) (X : XM) (h : SAT (f_X11_readPlot N X) (fun v c => Q v (C, c))) : CT l G 5 mt_X11_readPlot [.ref (gA G 10 0 0)] (C, X) Q := ct_of pn_X11 (Nat.le_of_ble_eq_true rfl) (t_X11_readPlot_0 N X h)
def f_X11_readPact_34 (N : Nat) (k8 : Int32 → Int32 → XM → Option (Int32 × XM)) (a2 : Int32) (as0 : Int32) (as1 : Int32) (X : XM) : Option (Int32 × XM) := (k8 (as1 ||| as0) (a2 + 1) X)
def f_X11_readPact_8 (N : Nat) : Nat → Int32 → Int32 → XM → Option (Int32 × XM)
  | 0, _, _, _ => none
  | n + 1, a1, a2, X => (if 8 ≤ a2 then cal (f_X11_takesOwner N a1 X) (fun v2 X3 => (if v2 = 0 then (rt 0 X3) else cal (f_X11_takesOwner N ((1 : Int32) <<< ((X3.1 0 18) &&& 31)) X3) (fun v5 X6 => (if v5 = 0 then (rt 0 X6) else sxA X6 3 371 (47 + (X3.1 0 18)) ((X6.1 0 18) + 1) (fun X8 => (rt 1 X8)))))) else ldA (X.1 3) 371 (47 + a2) (fun v9 => (if v9 ≤ 0 then (f_X11_readPact_34 N (fun z1 z2 c => f_X11_readPact_8 N n z1 z2 c) a2 0 a1 X) else (f_X11_readPact_34 N (fun z1 z2 c => f_X11_readPact_8 N n z1 z2 c) a2 ((1 : Int32) <<< (a2 &&& 31)) a1 X))))
def f_X11_readPact (N : Nat) (X : XM) : Option (Int32 × XM) := cal (f_X11_next N X) (fun v1 X2 => (f_X11_readPact_8 N N 0 0 X2))
set_option maxRecDepth 8000 in
theorem t_X11_readPact_34 {l : Launch} {G : GX} {C : CM} {Q : Int32 → Mem → Prop} (N : Nat) (k8 : Int32 → Int32 → XM → Option (Int32 × XM)) (a2 : Int32) (as0 : Int32) (as1 : Int32) (hk8 : ∀ (ac1 : Int32) (ac2 : Int32) (X : XM), SAT (k8 ac1 ac2 X) (fun v c => Q v (C, c)) → AB l G (rmD 4) 0 0 mt_X11_readPact (ZQ G mt_X11_readPact Q) 8 [(0, .ref (gA G 10 0 0)), (1, .int ac1), (2, .int ac2)] [] (C, X)) (X : XM) (h : SAT (f_X11_readPact_34 N k8 a2 as0 as1 X) (fun v c => Q v (C, c))) : AB l G (rmD 4) 0 0 mt_X11_readPact (ZQ G mt_X11_readPact Q) 34 [(0, .ref (gA G 10 0 0)), (2, .int a2)] [.int as0, .int as1] (C, X) := by
  unfold f_X11_readPact_34 at h
  refine ab_ior dX11_readPact_34 ?_
  refine ab_istoren (lv' := [(0, .ref (gA G 10 0 0)), (2, .int a2), (1, .int (as1 ||| as0))]) dX11_readPact_35 rfl (Nat.le_of_ble_eq_true rfl) rfl ?_
  refine ab_iinc (q := 1) (v := (a2 + 1)) (lv' := [(0, .ref (gA G 10 0 0)), (2, .int (a2 + 1)), (1, .int (as1 ||| as0))]) dX11_readPact_36 rfl rfl rfl (Nat.le_of_ble_eq_true rfl) rfl ?_
  refine ab_goto (tgt := 8) dX11_readPact_39 (by decide) ?_
  refine ab_sub [0, 2, 1] rfl ?_
  exact hk8 (as1 ||| as0) (a2 + 1) X h
set_option maxRecDepth 8000 in
theorem t_X11_readPact_8 {l : Launch} {G : GX} {C : CM} {Q : Int32 → Mem → Prop} (N : Nat) : ∀ (n : Nat) (a1 : Int32) (a2 : Int32) (X : XM), SAT (f_X11_readPact_8 N n a1 a2 X) (fun v c => Q v (C, c)) → AB l G (rmD 4) 0 0 mt_X11_readPact (ZQ G mt_X11_readPact Q) 8 [(0, .ref (gA G 10 0 0)), (1, .int a1), (2, .int a2)] [] (C, X) := by
  intro n
  induction n with
  | zero => intro a1 a2 X h; exact h.elim
  | succ n ih =>
    intro a1 a2 X h
    rw [f_X11_readPact_8] at h
    refine ab_iloadn 2 dX11_readPact_8 rfl ?_
    refine ab_bipush (v := 8) dX11_readPact_9 (by decide) ?_
    refine ab_icmp_ge (tgt := 42) dX11_readPact_11 (by decide) (fun hc1 => ?_) (fun hc1 => ?_)
    · have h := sat_t hc1 h
      refine ab_aloadn 0 dX11_readPact_42 rfl ?_
      refine ab_iloadn 1 dX11_readPact_43 rfl ?_
      refine fX_Vi (mtc := mt_X11_takesOwner) (As := [.int a1]) h (fun Q h => ct_X11_takesOwner N a1 X h) ⟨by decide, by decide⟩ rfl rfl rfl mw_X11_takesOwner wd_394 rfl rfl ⟨Nat.le_of_ble_eq_true rfl, Nat.le_of_ble_eq_true rfl⟩ ⟨Nat.zero_le _, Nat.zero_le _⟩ (Nat.le_of_ble_eq_true rfl) rfl dX11_readPact_44 (fun v2 X3 h => ?_)
      refine ab_if_ne (tgt := 52) dX11_readPact_47 (by decide) (fun hc4 => ?_) (fun hc4 => ?_)
      · have h := sat_f hc4 h
        refine ab_aloadn 0 dX11_readPact_52 rfl ?_
        refine fX_gi (x := 18) ⟨by decide, by decide⟩ rfl rfl (Nat.le_of_ble_eq_true rfl) wd_384 rfl dX11_readPact_53 ?_
        refine ab_istoren (lv' := [(0, .ref (gA G 10 0 0)), (1, .int a1), (2, .int (X3.1 0 18))]) dX11_readPact_56 rfl (Nat.le_of_ble_eq_true rfl) rfl ?_
        refine ab_aloadn 0 dX11_readPact_57 rfl ?_
        refine ab_iconst (v := 1) dX11_readPact_58 (by decide) ?_
        refine ab_iloadn 2 dX11_readPact_59 rfl ?_
        refine ab_ishl dX11_readPact_60 ?_
        refine fX_Vi (mtc := mt_X11_takesOwner) (As := [.int ((1 : Int32) <<< ((X3.1 0 18) &&& 31))]) h (fun Q h => ct_X11_takesOwner N ((1 : Int32) <<< ((X3.1 0 18) &&& 31)) X3 h) ⟨by decide, by decide⟩ rfl rfl rfl mw_X11_takesOwner wd_394 rfl rfl ⟨Nat.le_of_ble_eq_true rfl, Nat.le_of_ble_eq_true rfl⟩ ⟨Nat.zero_le _, Nat.zero_le _⟩ (Nat.le_of_ble_eq_true rfl) rfl dX11_readPact_61 (fun v5 X6 h => ?_)
        refine ab_if_ne (tgt := 69) dX11_readPact_64 (by decide) (fun hc7 => ?_) (fun hc7 => ?_)
        · have h := sat_f hc7 h
          refine ab_aloadn 0 dX11_readPact_69 rfl ?_
          refine f_gr (x := 7) (k2 := 10) (i2 := 0) (j2 := 3) ⟨by decide, by decide⟩ rfl rfl (Nat.le_of_ble_eq_true rfl) wd_370 rfl rfl dX11_readPact_70 ?_
          refine ab_bipush (v := 47) dX11_readPact_73 (by decide) ?_
          refine ab_iloadn 2 dX11_readPact_75 rfl ?_
          refine ab_iadd dX11_readPact_76 ?_
          refine ab_aloadn 0 dX11_readPact_77 rfl ?_
          refine fX_gi (x := 18) ⟨by decide, by decide⟩ rfl rfl (Nat.le_of_ble_eq_true rfl) wd_384 rfl dX11_readPact_78 ?_
          refine ab_iconst (v := 1) dX11_readPact_81 (by decide) ?_
          refine ab_iadd dX11_readPact_82 ?_
          refine fX_iast ⟨by decide, by decide⟩ rfl (fun _ => rfl) h dX11_readPact_83 (fun X8 h => ?_)
          refine ab_iconst (v := 1) dX11_readPact_84 (by decide) ?_
          exact fX_iret h rfl rfl dX11_readPact_85
        · have h := sat_t hc7 h
          refine ab_iconst (v := 0) dX11_readPact_67 (by decide) ?_
          exact fX_iret h rfl rfl dX11_readPact_68
      · have h := sat_t hc4 h
        refine ab_iconst (v := 0) dX11_readPact_50 (by decide) ?_
        exact fX_iret h rfl rfl dX11_readPact_51
    · have h := sat_f hc1 h
      refine ab_iloadn 1 dX11_readPact_14 rfl ?_
      refine ab_aloadn 0 dX11_readPact_15 rfl ?_
      refine f_gr (x := 7) (k2 := 10) (i2 := 0) (j2 := 3) ⟨by decide, by decide⟩ rfl rfl (Nat.le_of_ble_eq_true rfl) wd_370 rfl rfl dX11_readPact_16 ?_
      refine ab_bipush (v := 47) dX11_readPact_19 (by decide) ?_
      refine ab_iloadn 2 dX11_readPact_21 rfl ?_
      refine ab_iadd dX11_readPact_22 ?_
      refine fX_iald ⟨by decide, by decide⟩ rfl (fun _ => rfl) h dX11_readPact_23 (fun v9 h => ?_)
      refine ab_if_le (tgt := 33) dX11_readPact_24 (by decide) (fun hc10 => ?_) (fun hc10 => ?_)
      · have h := sat_t hc10 h
        refine ab_iconst (v := 0) dX11_readPact_33 (by decide) ?_
        refine ab_sub [0, 2] rfl ?_
        exact t_X11_readPact_34 N (fun z1 z2 c => f_X11_readPact_8 N n z1 z2 c) a2 0 a1 ih X h
      · have h := sat_f hc10 h
        refine ab_iconst (v := 1) dX11_readPact_27 (by decide) ?_
        refine ab_iloadn 2 dX11_readPact_28 rfl ?_
        refine ab_ishl dX11_readPact_29 ?_
        refine ab_goto (tgt := 34) dX11_readPact_30 (by decide) ?_
        refine ab_sub [0, 2] rfl ?_
        exact t_X11_readPact_34 N (fun z1 z2 c => f_X11_readPact_8 N n z1 z2 c) a2 ((1 : Int32) <<< (a2 &&& 31)) a1 ih X h
set_option maxRecDepth 8000 in
theorem t_X11_readPact_0 {l : Launch} {G : GX} {C : CM} {Q : Int32 → Mem → Prop} (N : Nat) (X : XM) (h : SAT (f_X11_readPact N X) (fun v c => Q v (C, c))) : AB l G (rmD 4) 0 0 mt_X11_readPact (ZQ G mt_X11_readPact Q) 0 [(0, .ref (gA G 10 0 0))] [] (C, X) := by
  unfold f_X11_readPact at h
  refine ab_aloadn 0 dX11_readPact_0 rfl ?_
  refine fX_Vv (mtc := mt_X11_next) (As := []) h (fun Q h => ct_X11_next N X h) ⟨by decide, by decide⟩ rfl rfl rfl mw_X11_next wd_369 rfl rfl ⟨Nat.le_of_ble_eq_true rfl, Nat.le_of_ble_eq_true rfl⟩ ⟨Nat.zero_le _, Nat.zero_le _⟩ (Nat.le_of_ble_eq_true rfl) rfl dX11_readPact_1 (fun v1 X2 h => ?_)
  refine ab_iconst (v := 0) dX11_readPact_4 (by decide) ?_
  refine ab_istoren (lv' := [(0, .ref (gA G 10 0 0)), (1, .int 0)]) dX11_readPact_5 rfl (Nat.le_of_ble_eq_true rfl) rfl ?_
  refine ab_iconst (v := 0) dX11_readPact_6 (by decide) ?_
  refine ab_istoren (lv' := [(0, .ref (gA G 10 0 0)), (1, .int 0), (2, .int 0)]) dX11_readPact_7 rfl (Nat.le_of_ble_eq_true rfl) rfl ?_
  exact t_X11_readPact_8 N N 0 0 X2 h
theorem ct_X11_readPact {l : Launch} {G : GX} {C : CM} {Q : Int32 → Mem → Prop} (N : Nat) (X : XM) (h : SAT (f_X11_readPact N X) (fun v c => Q v (C, c))) : CT l G 4 mt_X11_readPact [.ref (gA G 10 0 0)] (C, X) Q := ct_of pn_X11 (Nat.le_of_ble_eq_true rfl) (t_X11_readPact_0 N X h)
def f_X11_readGust (N : Nat) (X : XM) : Option (Int32 × XM) := ldA (X.1 3) 371 4 (fun v1 => (if v1 = 30 then cal (f_X11_bad 4 X) (fun v27 X28 => (chk (isB v27) (rt v27 X28))) else cal (f_X11_next N X) (fun v3 X4 => (if (X4.1 0 11) = 2 then (if (X4.1 0 14) ≤ 47 then ldA (X4.1 3) 371 (223 + (X4.1 0 14)) (fun v7 => (if v7 ≤ 0 then cal (f_X11_next N X4) (fun v9 X10 => cal (f_X11_takes N 0 7 X10) (fun v11 X12 => (if v11 = 0 then (rt 0 X12) else sxA X12 3 371 (175 + (X4.1 0 14)) (X12.1 0 18) (fun X14 => cal (f_X11_takes N 1 9 X14) (fun v15 X16 => (if v15 = 0 then (rt 0 X16) else sxA X16 3 371 (223 + (X4.1 0 14)) (X16.1 0 18) (fun X18 => ldA (X18.1 3) 371 4 (fun v19 => sxA X18 3 371 4 (v19 + 1) (fun X20 => (rt 1 X20)))))))))) else cal (f_X11_bad 3 X4) (fun v21 X22 => (chk (isB v21) (rt v21 X22))))) else cal (f_X11_bad 2 X4) (fun v23 X24 => (chk (isB v23) (rt v23 X24)))) else cal (f_X11_bad 1 X4) (fun v25 X26 => (chk (isB v25) (rt v25 X26)))))))
set_option maxRecDepth 8000 in
theorem t_X11_readGust_0 {l : Launch} {G : GX} {C : CM} {Q : Int32 → Mem → Prop} (N : Nat) (X : XM) (h : SAT (f_X11_readGust N X) (fun v c => Q v (C, c))) : AB l G (rmD 4) 0 0 mt_X11_readGust (ZQ G mt_X11_readGust Q) 0 [(0, .ref (gA G 10 0 0))] [] (C, X) := by
  unfold f_X11_readGust at h
  refine ab_aloadn 0 dX11_readGust_0 rfl ?_
  refine f_gr (x := 7) (k2 := 10) (i2 := 0) (j2 := 3) ⟨by decide, by decide⟩ rfl rfl (Nat.le_of_ble_eq_true rfl) wd_370 rfl rfl dX11_readGust_1 ?_
  refine ab_iconst (v := 4) dX11_readGust_4 (by decide) ?_
  refine fX_iald ⟨by decide, by decide⟩ rfl (fun _ => rfl) h dX11_readGust_5 (fun v1 h => ?_)
  refine ab_bipush (v := 30) dX11_readGust_6 (by decide) ?_
  refine ab_icmp_ne (tgt := 17) dX11_readGust_8 (by decide) (fun hc2 => ?_) (fun hc2 => ?_)
  · have h := sat_f hc2 h
    refine ab_aloadn 0 dX11_readGust_17 rfl ?_
    refine fX_Vv (mtc := mt_X11_next) (As := []) h (fun Q h => ct_X11_next N X h) ⟨by decide, by decide⟩ rfl rfl rfl mw_X11_next wd_369 rfl rfl ⟨Nat.le_of_ble_eq_true rfl, Nat.le_of_ble_eq_true rfl⟩ ⟨Nat.zero_le _, Nat.zero_le _⟩ (Nat.le_of_ble_eq_true rfl) rfl dX11_readGust_18 (fun v3 X4 h => ?_)
    refine ab_aloadn 0 dX11_readGust_21 rfl ?_
    refine fX_gi (x := 11) ⟨by decide, by decide⟩ rfl rfl (Nat.le_of_ble_eq_true rfl) wd_362 rfl dX11_readGust_22 ?_
    refine ab_iconst (v := 2) dX11_readGust_25 (by decide) ?_
    refine ab_icmp_eq (tgt := 35) dX11_readGust_26 (by decide) (fun hc5 => ?_) (fun hc5 => ?_)
    · have h := sat_t hc5 h
      refine ab_aloadn 0 dX11_readGust_35 rfl ?_
      refine fX_gi (x := 14) ⟨by decide, by decide⟩ rfl rfl (Nat.le_of_ble_eq_true rfl) wd_367 rfl dX11_readGust_36 ?_
      refine ab_bipush (v := 47) dX11_readGust_39 (by decide) ?_
      refine ab_icmp_le (tgt := 50) dX11_readGust_41 (by decide) (fun hc6 => ?_) (fun hc6 => ?_)
      · have h := sat_t hc6 h
        refine ab_aloadn 0 dX11_readGust_50 rfl ?_
        refine fX_gi (x := 14) ⟨by decide, by decide⟩ rfl rfl (Nat.le_of_ble_eq_true rfl) wd_367 rfl dX11_readGust_51 ?_
        refine ab_istoren (lv' := [(0, .ref (gA G 10 0 0)), (1, .int (X4.1 0 14))]) dX11_readGust_54 rfl (Nat.le_of_ble_eq_true rfl) rfl ?_
        refine ab_aloadn 0 dX11_readGust_55 rfl ?_
        refine f_gr (x := 7) (k2 := 10) (i2 := 0) (j2 := 3) ⟨by decide, by decide⟩ rfl rfl (Nat.le_of_ble_eq_true rfl) wd_370 rfl rfl dX11_readGust_56 ?_
        refine ab_sipush (v := 223) dX11_readGust_59 (by decide) ?_
        refine ab_iloadn 1 dX11_readGust_62 rfl ?_
        refine ab_iadd dX11_readGust_63 ?_
        refine fX_iald ⟨by decide, by decide⟩ rfl (fun _ => rfl) h dX11_readGust_64 (fun v7 h => ?_)
        refine ab_if_le (tgt := 74) dX11_readGust_65 (by decide) (fun hc8 => ?_) (fun hc8 => ?_)
        · have h := sat_t hc8 h
          refine ab_aloadn 0 dX11_readGust_74 rfl ?_
          refine fX_Vv (mtc := mt_X11_next) (As := []) h (fun Q h => ct_X11_next N X4 h) ⟨by decide, by decide⟩ rfl rfl rfl mw_X11_next wd_369 rfl rfl ⟨Nat.le_of_ble_eq_true rfl, Nat.le_of_ble_eq_true rfl⟩ ⟨Nat.zero_le _, Nat.zero_le _⟩ (Nat.le_of_ble_eq_true rfl) rfl dX11_readGust_75 (fun v9 X10 h => ?_)
          refine ab_aloadn 0 dX11_readGust_78 rfl ?_
          refine ab_iconst (v := 0) dX11_readGust_79 (by decide) ?_
          refine ab_bipush (v := 7) dX11_readGust_80 (by decide) ?_
          refine fX_Vi (mtc := mt_X11_takes) (As := [.int 0, .int 7]) h (fun Q h => ct_X11_takes N 0 7 X10 h) ⟨by decide, by decide⟩ rfl rfl rfl mw_X11_takes wd_387 rfl rfl ⟨Nat.le_of_ble_eq_true rfl, Nat.le_of_ble_eq_true rfl⟩ ⟨Nat.zero_le _, Nat.zero_le _⟩ (Nat.le_of_ble_eq_true rfl) rfl dX11_readGust_82 (fun v11 X12 h => ?_)
          refine ab_if_ne (tgt := 90) dX11_readGust_85 (by decide) (fun hc13 => ?_) (fun hc13 => ?_)
          · have h := sat_f hc13 h
            refine ab_aloadn 0 dX11_readGust_90 rfl ?_
            refine f_gr (x := 7) (k2 := 10) (i2 := 0) (j2 := 3) ⟨by decide, by decide⟩ rfl rfl (Nat.le_of_ble_eq_true rfl) wd_370 rfl rfl dX11_readGust_91 ?_
            refine ab_sipush (v := 175) dX11_readGust_94 (by decide) ?_
            refine ab_iloadn 1 dX11_readGust_97 rfl ?_
            refine ab_iadd dX11_readGust_98 ?_
            refine ab_aloadn 0 dX11_readGust_99 rfl ?_
            refine fX_gi (x := 18) ⟨by decide, by decide⟩ rfl rfl (Nat.le_of_ble_eq_true rfl) wd_384 rfl dX11_readGust_100 ?_
            refine fX_iast ⟨by decide, by decide⟩ rfl (fun _ => rfl) h dX11_readGust_103 (fun X14 h => ?_)
            refine ab_aloadn 0 dX11_readGust_104 rfl ?_
            refine ab_iconst (v := 1) dX11_readGust_105 (by decide) ?_
            refine ab_bipush (v := 9) dX11_readGust_106 (by decide) ?_
            refine fX_Vi (mtc := mt_X11_takes) (As := [.int 1, .int 9]) h (fun Q h => ct_X11_takes N 1 9 X14 h) ⟨by decide, by decide⟩ rfl rfl rfl mw_X11_takes wd_387 rfl rfl ⟨Nat.le_of_ble_eq_true rfl, Nat.le_of_ble_eq_true rfl⟩ ⟨Nat.zero_le _, Nat.zero_le _⟩ (Nat.le_of_ble_eq_true rfl) rfl dX11_readGust_108 (fun v15 X16 h => ?_)
            refine ab_if_ne (tgt := 116) dX11_readGust_111 (by decide) (fun hc17 => ?_) (fun hc17 => ?_)
            · have h := sat_f hc17 h
              refine ab_aloadn 0 dX11_readGust_116 rfl ?_
              refine f_gr (x := 7) (k2 := 10) (i2 := 0) (j2 := 3) ⟨by decide, by decide⟩ rfl rfl (Nat.le_of_ble_eq_true rfl) wd_370 rfl rfl dX11_readGust_117 ?_
              refine ab_sipush (v := 223) dX11_readGust_120 (by decide) ?_
              refine ab_iloadn 1 dX11_readGust_123 rfl ?_
              refine ab_iadd dX11_readGust_124 ?_
              refine ab_aloadn 0 dX11_readGust_125 rfl ?_
              refine fX_gi (x := 18) ⟨by decide, by decide⟩ rfl rfl (Nat.le_of_ble_eq_true rfl) wd_384 rfl dX11_readGust_126 ?_
              refine fX_iast ⟨by decide, by decide⟩ rfl (fun _ => rfl) h dX11_readGust_129 (fun X18 h => ?_)
              refine ab_aloadn 0 dX11_readGust_130 rfl ?_
              refine f_gr (x := 7) (k2 := 10) (i2 := 0) (j2 := 3) ⟨by decide, by decide⟩ rfl rfl (Nat.le_of_ble_eq_true rfl) wd_370 rfl rfl dX11_readGust_131 ?_
              refine ab_iconst (v := 4) dX11_readGust_134 (by decide) ?_
              refine ab_dup2 dX11_readGust_135 rfl rfl ?_
              refine fX_iald ⟨by decide, by decide⟩ rfl (fun _ => rfl) h dX11_readGust_136 (fun v19 h => ?_)
              refine ab_iconst (v := 1) dX11_readGust_137 (by decide) ?_
              refine ab_iadd dX11_readGust_138 ?_
              refine fX_iast ⟨by decide, by decide⟩ rfl (fun _ => rfl) h dX11_readGust_139 (fun X20 h => ?_)
              refine ab_iconst (v := 1) dX11_readGust_140 (by decide) ?_
              exact fX_iret h rfl rfl dX11_readGust_141
            · have h := sat_t hc17 h
              refine ab_iconst (v := 0) dX11_readGust_114 (by decide) ?_
              exact fX_iret h rfl rfl dX11_readGust_115
          · have h := sat_t hc13 h
            refine ab_iconst (v := 0) dX11_readGust_88 (by decide) ?_
            exact fX_iret h rfl rfl dX11_readGust_89
        · have h := sat_f hc8 h
          refine ab_aloadn 0 dX11_readGust_68 rfl ?_
          refine ab_iconst (v := 3) dX11_readGust_69 (by decide) ?_
          refine fX_Vi (mtc := mt_X11_bad) (As := [.int 3]) h (fun Q h => ct_X11_bad 3 X4 h) ⟨by decide, by decide⟩ rfl rfl rfl mw_X11_bad wd_386 rfl rfl ⟨Nat.le_of_ble_eq_true rfl, Nat.le_of_ble_eq_true rfl⟩ ⟨Nat.zero_le _, Nat.zero_le _⟩ (Nat.le_of_ble_eq_true rfl) rfl dX11_readGust_70 (fun v21 X22 h => ?_)
          exact fX_iretb h rfl dX11_readGust_73
      · have h := sat_f hc6 h
        refine ab_aloadn 0 dX11_readGust_44 rfl ?_
        refine ab_iconst (v := 2) dX11_readGust_45 (by decide) ?_
        refine fX_Vi (mtc := mt_X11_bad) (As := [.int 2]) h (fun Q h => ct_X11_bad 2 X4 h) ⟨by decide, by decide⟩ rfl rfl rfl mw_X11_bad wd_386 rfl rfl ⟨Nat.le_of_ble_eq_true rfl, Nat.le_of_ble_eq_true rfl⟩ ⟨Nat.zero_le _, Nat.zero_le _⟩ (Nat.le_of_ble_eq_true rfl) rfl dX11_readGust_46 (fun v23 X24 h => ?_)
        exact fX_iretb h rfl dX11_readGust_49
    · have h := sat_f hc5 h
      refine ab_aloadn 0 dX11_readGust_29 rfl ?_
      refine ab_iconst (v := 1) dX11_readGust_30 (by decide) ?_
      refine fX_Vi (mtc := mt_X11_bad) (As := [.int 1]) h (fun Q h => ct_X11_bad 1 X4 h) ⟨by decide, by decide⟩ rfl rfl rfl mw_X11_bad wd_386 rfl rfl ⟨Nat.le_of_ble_eq_true rfl, Nat.le_of_ble_eq_true rfl⟩ ⟨Nat.zero_le _, Nat.zero_le _⟩ (Nat.le_of_ble_eq_true rfl) rfl dX11_readGust_31 (fun v25 X26 h => ?_)
      exact fX_iretb h rfl dX11_readGust_34
  · have h := sat_t hc2 h
    refine ab_aloadn 0 dX11_readGust_11 rfl ?_
    refine ab_iconst (v := 4) dX11_readGust_12 (by decide) ?_
    refine fX_Vi (mtc := mt_X11_bad) (As := [.int 4]) h (fun Q h => ct_X11_bad 4 X h) ⟨by decide, by decide⟩ rfl rfl rfl mw_X11_bad wd_386 rfl rfl ⟨Nat.le_of_ble_eq_true rfl, Nat.le_of_ble_eq_true rfl⟩ ⟨Nat.zero_le _, Nat.zero_le _⟩ (Nat.le_of_ble_eq_true rfl) rfl dX11_readGust_13 (fun v27 X28 h => ?_)
    exact fX_iretb h rfl dX11_readGust_16
theorem ct_X11_readGust {l : Launch} {G : GX} {C : CM} {Q : Int32 → Mem → Prop} (N : Nat) (X : XM) (h : SAT (f_X11_readGust N X) (fun v c => Q v (C, c))) : CT l G 4 mt_X11_readGust [.ref (gA G 10 0 0)] (C, X) Q := ct_of pn_X11 (Nat.le_of_ble_eq_true rfl) (t_X11_readGust_0 N X h)
def f_X11_readEddy (N : Nat) (X : XM) : Option (Int32 × XM) := (if (X.1 0 22) = 8 then cal (f_X11_bad 4 X) (fun v18 X19 => (chk (isB v18) (rt v18 X19))) else bnd (stX X 0 22 ((X.1 0 22) + 1)) (fun X2 => cal (f_X11_next N X2) (fun v3 X4 => cal (f_X11_looksAtCell N X4) (fun v5 X6 => (if v5 = 0 then (rt 0 X6) else ldA (X6.1 3) 371 (75 + (X6.1 0 18)) (fun v8 => (if v8 ≤ 0 then cal (f_X11_next N X6) (fun v10 X11 => cal (f_X11_takes N 1 7 X11) (fun v12 X13 => (if v12 = 0 then (rt 0 X13) else sxA X13 3 371 (75 + (X6.1 0 18)) (X13.1 0 18) (fun X15 => (rt 1 X15))))) else cal (f_X11_bad 3 X6) (fun v16 X17 => (chk (isB v16) (rt v16 X17))))))))))
set_option maxRecDepth 8000 in
theorem t_X11_readEddy_0 {l : Launch} {G : GX} {C : CM} {Q : Int32 → Mem → Prop} (N : Nat) (X : XM) (h : SAT (f_X11_readEddy N X) (fun v c => Q v (C, c))) : AB l G (rmD 5) 0 0 mt_X11_readEddy (ZQ G mt_X11_readEddy Q) 0 [(0, .ref (gA G 10 0 0))] [] (C, X) := by
  unfold f_X11_readEddy at h
  refine ab_aloadn 0 dX11_readEddy_0 rfl ?_
  refine fX_gi (x := 22) ⟨by decide, by decide⟩ rfl rfl (Nat.le_of_ble_eq_true rfl) wd_356 rfl dX11_readEddy_1 ?_
  refine ab_bipush (v := 8) dX11_readEddy_4 (by decide) ?_
  refine ab_icmp_ne (tgt := 15) dX11_readEddy_6 (by decide) (fun hc1 => ?_) (fun hc1 => ?_)
  · have h := sat_f hc1 h
    refine ab_aloadn 0 dX11_readEddy_15 rfl ?_
    refine ab_dup dX11_readEddy_16 rfl ?_
    refine fX_gi (x := 22) ⟨by decide, by decide⟩ rfl rfl (Nat.le_of_ble_eq_true rfl) wd_356 rfl dX11_readEddy_17 ?_
    refine ab_iconst (v := 1) dX11_readEddy_20 (by decide) ?_
    refine ab_iadd dX11_readEddy_21 ?_
    refine fX_pi (x := 22) (ty := .int) ⟨by decide, by decide⟩ rfl rfl (Nat.le_of_ble_eq_true rfl) wd_356 rfl h rfl (by decide +kernel) rfl rfl dX11_readEddy_22 (fun X2 h => ?_)
    refine ab_aloadn 0 dX11_readEddy_25 rfl ?_
    refine fX_Vv (mtc := mt_X11_next) (As := []) h (fun Q h => ct_X11_next N X2 h) ⟨by decide, by decide⟩ rfl rfl rfl mw_X11_next wd_369 rfl rfl ⟨Nat.le_of_ble_eq_true rfl, Nat.le_of_ble_eq_true rfl⟩ ⟨Nat.zero_le _, Nat.zero_le _⟩ (Nat.le_of_ble_eq_true rfl) rfl dX11_readEddy_26 (fun v3 X4 h => ?_)
    refine ab_aloadn 0 dX11_readEddy_29 rfl ?_
    refine fX_Vi (mtc := mt_X11_looksAtCell) (As := []) h (fun Q h => ct_X11_looksAtCell N X4 h) ⟨by decide, by decide⟩ rfl rfl rfl mw_X11_looksAtCell wd_396 rfl rfl ⟨Nat.le_of_ble_eq_true rfl, Nat.le_of_ble_eq_true rfl⟩ ⟨Nat.zero_le _, Nat.zero_le _⟩ (Nat.le_of_ble_eq_true rfl) rfl dX11_readEddy_30 (fun v5 X6 h => ?_)
    refine ab_if_ne (tgt := 38) dX11_readEddy_33 (by decide) (fun hc7 => ?_) (fun hc7 => ?_)
    · have h := sat_f hc7 h
      refine ab_aloadn 0 dX11_readEddy_38 rfl ?_
      refine fX_gi (x := 18) ⟨by decide, by decide⟩ rfl rfl (Nat.le_of_ble_eq_true rfl) wd_384 rfl dX11_readEddy_39 ?_
      refine ab_istoren (lv' := [(0, .ref (gA G 10 0 0)), (1, .int (X6.1 0 18))]) dX11_readEddy_42 rfl (Nat.le_of_ble_eq_true rfl) rfl ?_
      refine ab_aloadn 0 dX11_readEddy_43 rfl ?_
      refine f_gr (x := 7) (k2 := 10) (i2 := 0) (j2 := 3) ⟨by decide, by decide⟩ rfl rfl (Nat.le_of_ble_eq_true rfl) wd_370 rfl rfl dX11_readEddy_44 ?_
      refine ab_bipush (v := 75) dX11_readEddy_47 (by decide) ?_
      refine ab_iloadn 1 dX11_readEddy_49 rfl ?_
      refine ab_iadd dX11_readEddy_50 ?_
      refine fX_iald ⟨by decide, by decide⟩ rfl (fun _ => rfl) h dX11_readEddy_51 (fun v8 h => ?_)
      refine ab_if_le (tgt := 61) dX11_readEddy_52 (by decide) (fun hc9 => ?_) (fun hc9 => ?_)
      · have h := sat_t hc9 h
        refine ab_aloadn 0 dX11_readEddy_61 rfl ?_
        refine fX_Vv (mtc := mt_X11_next) (As := []) h (fun Q h => ct_X11_next N X6 h) ⟨by decide, by decide⟩ rfl rfl rfl mw_X11_next wd_369 rfl rfl ⟨Nat.le_of_ble_eq_true rfl, Nat.le_of_ble_eq_true rfl⟩ ⟨Nat.zero_le _, Nat.zero_le _⟩ (Nat.le_of_ble_eq_true rfl) rfl dX11_readEddy_62 (fun v10 X11 h => ?_)
        refine ab_aloadn 0 dX11_readEddy_65 rfl ?_
        refine ab_iconst (v := 1) dX11_readEddy_66 (by decide) ?_
        refine ab_bipush (v := 7) dX11_readEddy_67 (by decide) ?_
        refine fX_Vi (mtc := mt_X11_takes) (As := [.int 1, .int 7]) h (fun Q h => ct_X11_takes N 1 7 X11 h) ⟨by decide, by decide⟩ rfl rfl rfl mw_X11_takes wd_387 rfl rfl ⟨Nat.le_of_ble_eq_true rfl, Nat.le_of_ble_eq_true rfl⟩ ⟨Nat.zero_le _, Nat.zero_le _⟩ (Nat.le_of_ble_eq_true rfl) rfl dX11_readEddy_69 (fun v12 X13 h => ?_)
        refine ab_if_ne (tgt := 77) dX11_readEddy_72 (by decide) (fun hc14 => ?_) (fun hc14 => ?_)
        · have h := sat_f hc14 h
          refine ab_aloadn 0 dX11_readEddy_77 rfl ?_
          refine f_gr (x := 7) (k2 := 10) (i2 := 0) (j2 := 3) ⟨by decide, by decide⟩ rfl rfl (Nat.le_of_ble_eq_true rfl) wd_370 rfl rfl dX11_readEddy_78 ?_
          refine ab_bipush (v := 75) dX11_readEddy_81 (by decide) ?_
          refine ab_iloadn 1 dX11_readEddy_83 rfl ?_
          refine ab_iadd dX11_readEddy_84 ?_
          refine ab_aloadn 0 dX11_readEddy_85 rfl ?_
          refine fX_gi (x := 18) ⟨by decide, by decide⟩ rfl rfl (Nat.le_of_ble_eq_true rfl) wd_384 rfl dX11_readEddy_86 ?_
          refine fX_iast ⟨by decide, by decide⟩ rfl (fun _ => rfl) h dX11_readEddy_89 (fun X15 h => ?_)
          refine ab_iconst (v := 1) dX11_readEddy_90 (by decide) ?_
          exact fX_iret h rfl rfl dX11_readEddy_91
        · have h := sat_t hc14 h
          refine ab_iconst (v := 0) dX11_readEddy_75 (by decide) ?_
          exact fX_iret h rfl rfl dX11_readEddy_76
      · have h := sat_f hc9 h
        refine ab_aloadn 0 dX11_readEddy_55 rfl ?_
        refine ab_iconst (v := 3) dX11_readEddy_56 (by decide) ?_
        refine fX_Vi (mtc := mt_X11_bad) (As := [.int 3]) h (fun Q h => ct_X11_bad 3 X6 h) ⟨by decide, by decide⟩ rfl rfl rfl mw_X11_bad wd_386 rfl rfl ⟨Nat.le_of_ble_eq_true rfl, Nat.le_of_ble_eq_true rfl⟩ ⟨Nat.zero_le _, Nat.zero_le _⟩ (Nat.le_of_ble_eq_true rfl) rfl dX11_readEddy_57 (fun v16 X17 h => ?_)
        exact fX_iretb h rfl dX11_readEddy_60
    · have h := sat_t hc7 h
      refine ab_iconst (v := 0) dX11_readEddy_36 (by decide) ?_
      exact fX_iret h rfl rfl dX11_readEddy_37
  · have h := sat_t hc1 h
    refine ab_aloadn 0 dX11_readEddy_9 rfl ?_
    refine ab_iconst (v := 4) dX11_readEddy_10 (by decide) ?_
    refine fX_Vi (mtc := mt_X11_bad) (As := [.int 4]) h (fun Q h => ct_X11_bad 4 X h) ⟨by decide, by decide⟩ rfl rfl rfl mw_X11_bad wd_386 rfl rfl ⟨Nat.le_of_ble_eq_true rfl, Nat.le_of_ble_eq_true rfl⟩ ⟨Nat.zero_le _, Nat.zero_le _⟩ (Nat.le_of_ble_eq_true rfl) rfl dX11_readEddy_11 (fun v18 X19 h => ?_)
    exact fX_iretb h rfl dX11_readEddy_14
theorem ct_X11_readEddy {l : Launch} {G : GX} {C : CM} {Q : Int32 → Mem → Prop} (N : Nat) (X : XM) (h : SAT (f_X11_readEddy N X) (fun v c => Q v (C, c))) : CT l G 5 mt_X11_readEddy [.ref (gA G 10 0 0)] (C, X) Q := ct_of pn_X11 (Nat.le_of_ble_eq_true rfl) (t_X11_readEddy_0 N X h)
def f_X11_takesFree_112 (N : Nat) (k77 : Int32 → Int32 → XM → Option (Int32 × XM)) (a2 : Int32) (as0 : Int32) (X : XM) : Option (Int32 × XM) := (k77 as0 (a2 + 1) X)
def f_X11_takesFree_111 (N : Nat) (k77 : Int32 → Int32 → XM → Option (Int32 × XM)) (a2 : Int32) (X : XM) : Option (Int32 × XM) := (f_X11_takesFree_112 N k77 a2 0 X)
def f_X11_takesFree_77 (N : Nat) : Nat → Int32 → Int32 → XM → Option (Int32 × XM)
  | 0, _, _, _ => none
  | n + 1, a1, a2, X => ldA (X.1 3) 371 3 (fun v1 => (if v1 ≤ a2 then (if a1 = 0 then cal (f_X11_bad 3 X) (fun v6 X7 => (chk (isB v6) (rt v6 X7))) else cal (f_X11_next N X) (fun v4 X5 => (rt 1 X5))) else (if a1 = 0 then (f_X11_takesFree_111 N (fun z1 z2 c => f_X11_takesFree_77 N n z1 z2 c) a2 X) else ldA (X.1 3) 371 (63 + a2) (fun v9 => (if v9 = (X.1 0 18) then (f_X11_takesFree_111 N (fun z1 z2 c => f_X11_takesFree_77 N n z1 z2 c) a2 X) else (f_X11_takesFree_112 N (fun z1 z2 c => f_X11_takesFree_77 N n z1 z2 c) a2 1 X))))))
def f_X11_takesFree_68 (N : Nat) (k33 : Int32 → Int32 → XM → Option (Int32 × XM)) (a2 : Int32) (as0 : Int32) (X : XM) : Option (Int32 × XM) := (k33 as0 (a2 + 1) X)
def f_X11_takesFree_67 (N : Nat) (k33 : Int32 → Int32 → XM → Option (Int32 × XM)) (a2 : Int32) (X : XM) : Option (Int32 × XM) := (f_X11_takesFree_68 N k33 a2 0 X)
def f_X11_takesFree_33 (N : Nat) : Nat → Int32 → Int32 → XM → Option (Int32 × XM)
  | 0, _, _, _ => none
  | n + 1, a1, a2, X => ldA (X.1 3) 371 2 (fun v1 => (if v1 ≤ a2 then (f_X11_takesFree_77 N N a1 0 X) else (if a1 = 0 then (f_X11_takesFree_67 N (fun z1 z2 c => f_X11_takesFree_33 N n z1 z2 c) a2 X) else ldA (X.1 3) 371 (7 + a2) (fun v4 => (if v4 = (X.1 0 18) then (f_X11_takesFree_67 N (fun z1 z2 c => f_X11_takesFree_33 N n z1 z2 c) a2 X) else (f_X11_takesFree_68 N (fun z1 z2 c => f_X11_takesFree_33 N n z1 z2 c) a2 1 X))))))
def f_X11_takesFree_30 (N : Nat) (as0 : Int32) (X : XM) : Option (Int32 × XM) := (f_X11_takesFree_33 N N as0 0 X)
def f_X11_takesFree (N : Nat) (X : XM) : Option (Int32 × XM) := cal (f_X11_looksAtCell N X) (fun v1 X2 => (if v1 = 0 then (rt 0 X2) else ldA (X2.1 3) 371 (271 + (X2.1 0 18)) (fun v4 => (if v4 = 0 then (f_X11_takesFree_30 N 1 X2) else (f_X11_takesFree_30 N 0 X2)))))
set_option maxRecDepth 8000 in
theorem t_X11_takesFree_112 {l : Launch} {G : GX} {C : CM} {Q : Int32 → Mem → Prop} (N : Nat) (k77 : Int32 → Int32 → XM → Option (Int32 × XM)) (a2 : Int32) (as0 : Int32) (hk77 : ∀ (ac1 : Int32) (ac2 : Int32) (X : XM), SAT (k77 ac1 ac2 X) (fun v c => Q v (C, c)) → AB l G (rmD 5) 0 0 mt_X11_takesFree (ZQ G mt_X11_takesFree Q) 77 [(0, .ref (gA G 10 0 0)), (1, .int ac1), (2, .int ac2)] [] (C, X)) (X : XM) (h : SAT (f_X11_takesFree_112 N k77 a2 as0 X) (fun v c => Q v (C, c))) : AB l G (rmD 5) 0 0 mt_X11_takesFree (ZQ G mt_X11_takesFree Q) 112 [(0, .ref (gA G 10 0 0)), (2, .int a2)] [.int as0] (C, X) := by
  unfold f_X11_takesFree_112 at h
  refine ab_istoren (lv' := [(0, .ref (gA G 10 0 0)), (2, .int a2), (1, .int as0)]) dX11_takesFree_112 rfl (Nat.le_of_ble_eq_true rfl) rfl ?_
  refine ab_iinc (q := 1) (v := (a2 + 1)) (lv' := [(0, .ref (gA G 10 0 0)), (2, .int (a2 + 1)), (1, .int as0)]) dX11_takesFree_113 rfl rfl rfl (Nat.le_of_ble_eq_true rfl) rfl ?_
  refine ab_goto (tgt := 77) dX11_takesFree_116 (by decide) ?_
  refine ab_sub [0, 2, 1] rfl ?_
  exact hk77 as0 (a2 + 1) X h
set_option maxRecDepth 8000 in
theorem t_X11_takesFree_111 {l : Launch} {G : GX} {C : CM} {Q : Int32 → Mem → Prop} (N : Nat) (k77 : Int32 → Int32 → XM → Option (Int32 × XM)) (a2 : Int32) (hk77 : ∀ (ac1 : Int32) (ac2 : Int32) (X : XM), SAT (k77 ac1 ac2 X) (fun v c => Q v (C, c)) → AB l G (rmD 5) 0 0 mt_X11_takesFree (ZQ G mt_X11_takesFree Q) 77 [(0, .ref (gA G 10 0 0)), (1, .int ac1), (2, .int ac2)] [] (C, X)) (X : XM) (h : SAT (f_X11_takesFree_111 N k77 a2 X) (fun v c => Q v (C, c))) : AB l G (rmD 5) 0 0 mt_X11_takesFree (ZQ G mt_X11_takesFree Q) 111 [(0, .ref (gA G 10 0 0)), (2, .int a2)] [] (C, X) := by
  unfold f_X11_takesFree_111 at h
  refine ab_iconst (v := 0) dX11_takesFree_111 (by decide) ?_
  exact t_X11_takesFree_112 N k77 a2 0 hk77 X h
set_option maxRecDepth 8000 in
theorem t_X11_takesFree_77 {l : Launch} {G : GX} {C : CM} {Q : Int32 → Mem → Prop} (N : Nat) : ∀ (n : Nat) (a1 : Int32) (a2 : Int32) (X : XM), SAT (f_X11_takesFree_77 N n a1 a2 X) (fun v c => Q v (C, c)) → AB l G (rmD 5) 0 0 mt_X11_takesFree (ZQ G mt_X11_takesFree Q) 77 [(0, .ref (gA G 10 0 0)), (1, .int a1), (2, .int a2)] [] (C, X) := by
  intro n
  induction n with
  | zero => intro a1 a2 X h; exact h.elim
  | succ n ih =>
    intro a1 a2 X h
    rw [f_X11_takesFree_77] at h
    refine ab_iloadn 2 dX11_takesFree_77 rfl ?_
    refine ab_aloadn 0 dX11_takesFree_78 rfl ?_
    refine f_gr (x := 7) (k2 := 10) (i2 := 0) (j2 := 3) ⟨by decide, by decide⟩ rfl rfl (Nat.le_of_ble_eq_true rfl) wd_370 rfl rfl dX11_takesFree_79 ?_
    refine ab_iconst (v := 3) dX11_takesFree_82 (by decide) ?_
    refine fX_iald ⟨by decide, by decide⟩ rfl (fun _ => rfl) h dX11_takesFree_83 (fun v1 h => ?_)
    refine ab_icmp_ge (tgt := 119) dX11_takesFree_84 (by decide) (fun hc2 => ?_) (fun hc2 => ?_)
    · have h := sat_t hc2 h
      refine ab_iloadn 1 dX11_takesFree_119 rfl ?_
      refine ab_if_ne (tgt := 129) dX11_takesFree_120 (by decide) (fun hc3 => ?_) (fun hc3 => ?_)
      · have h := sat_f hc3 h
        refine ab_aloadn 0 dX11_takesFree_129 rfl ?_
        refine fX_Vv (mtc := mt_X11_next) (As := []) h (fun Q h => ct_X11_next N X h) ⟨by decide, by decide⟩ rfl rfl rfl mw_X11_next wd_369 rfl rfl ⟨Nat.le_of_ble_eq_true rfl, Nat.le_of_ble_eq_true rfl⟩ ⟨Nat.zero_le _, Nat.zero_le _⟩ (Nat.le_of_ble_eq_true rfl) rfl dX11_takesFree_130 (fun v4 X5 h => ?_)
        refine ab_iconst (v := 1) dX11_takesFree_133 (by decide) ?_
        exact fX_iret h rfl rfl dX11_takesFree_134
      · have h := sat_t hc3 h
        refine ab_aloadn 0 dX11_takesFree_123 rfl ?_
        refine ab_iconst (v := 3) dX11_takesFree_124 (by decide) ?_
        refine fX_Vi (mtc := mt_X11_bad) (As := [.int 3]) h (fun Q h => ct_X11_bad 3 X h) ⟨by decide, by decide⟩ rfl rfl rfl mw_X11_bad wd_386 rfl rfl ⟨Nat.le_of_ble_eq_true rfl, Nat.le_of_ble_eq_true rfl⟩ ⟨Nat.zero_le _, Nat.zero_le _⟩ (Nat.le_of_ble_eq_true rfl) rfl dX11_takesFree_125 (fun v6 X7 h => ?_)
        exact fX_iretb h rfl dX11_takesFree_128
    · have h := sat_f hc2 h
      refine ab_iloadn 1 dX11_takesFree_87 rfl ?_
      refine ab_if_eq (tgt := 111) dX11_takesFree_88 (by decide) (fun hc8 => ?_) (fun hc8 => ?_)
      · have h := sat_t hc8 h
        refine ab_sub [0, 2] rfl ?_
        exact t_X11_takesFree_111 N (fun z1 z2 c => f_X11_takesFree_77 N n z1 z2 c) a2 ih X h
      · have h := sat_f hc8 h
        refine ab_aloadn 0 dX11_takesFree_91 rfl ?_
        refine f_gr (x := 7) (k2 := 10) (i2 := 0) (j2 := 3) ⟨by decide, by decide⟩ rfl rfl (Nat.le_of_ble_eq_true rfl) wd_370 rfl rfl dX11_takesFree_92 ?_
        refine ab_bipush (v := 63) dX11_takesFree_95 (by decide) ?_
        refine ab_iloadn 2 dX11_takesFree_97 rfl ?_
        refine ab_iadd dX11_takesFree_98 ?_
        refine fX_iald ⟨by decide, by decide⟩ rfl (fun _ => rfl) h dX11_takesFree_99 (fun v9 h => ?_)
        refine ab_aloadn 0 dX11_takesFree_100 rfl ?_
        refine fX_gi (x := 18) ⟨by decide, by decide⟩ rfl rfl (Nat.le_of_ble_eq_true rfl) wd_384 rfl dX11_takesFree_101 ?_
        refine ab_icmp_eq (tgt := 111) dX11_takesFree_104 (by decide) (fun hc10 => ?_) (fun hc10 => ?_)
        · have h := sat_t hc10 h
          refine ab_sub [0, 2] rfl ?_
          exact t_X11_takesFree_111 N (fun z1 z2 c => f_X11_takesFree_77 N n z1 z2 c) a2 ih X h
        · have h := sat_f hc10 h
          refine ab_iconst (v := 1) dX11_takesFree_107 (by decide) ?_
          refine ab_goto (tgt := 112) dX11_takesFree_108 (by decide) ?_
          refine ab_sub [0, 2] rfl ?_
          exact t_X11_takesFree_112 N (fun z1 z2 c => f_X11_takesFree_77 N n z1 z2 c) a2 1 ih X h
set_option maxRecDepth 8000 in
theorem t_X11_takesFree_68 {l : Launch} {G : GX} {C : CM} {Q : Int32 → Mem → Prop} (N : Nat) (k33 : Int32 → Int32 → XM → Option (Int32 × XM)) (a2 : Int32) (as0 : Int32) (hk33 : ∀ (ac1 : Int32) (ac2 : Int32) (X : XM), SAT (k33 ac1 ac2 X) (fun v c => Q v (C, c)) → AB l G (rmD 5) 0 0 mt_X11_takesFree (ZQ G mt_X11_takesFree Q) 33 [(0, .ref (gA G 10 0 0)), (1, .int ac1), (2, .int ac2)] [] (C, X)) (X : XM) (h : SAT (f_X11_takesFree_68 N k33 a2 as0 X) (fun v c => Q v (C, c))) : AB l G (rmD 5) 0 0 mt_X11_takesFree (ZQ G mt_X11_takesFree Q) 68 [(0, .ref (gA G 10 0 0)), (2, .int a2)] [.int as0] (C, X) := by
  unfold f_X11_takesFree_68 at h
  refine ab_istoren (lv' := [(0, .ref (gA G 10 0 0)), (2, .int a2), (1, .int as0)]) dX11_takesFree_68 rfl (Nat.le_of_ble_eq_true rfl) rfl ?_
  refine ab_iinc (q := 1) (v := (a2 + 1)) (lv' := [(0, .ref (gA G 10 0 0)), (2, .int (a2 + 1)), (1, .int as0)]) dX11_takesFree_69 rfl rfl rfl (Nat.le_of_ble_eq_true rfl) rfl ?_
  refine ab_goto (tgt := 33) dX11_takesFree_72 (by decide) ?_
  refine ab_sub [0, 2, 1] rfl ?_
  exact hk33 as0 (a2 + 1) X h
set_option maxRecDepth 8000 in
theorem t_X11_takesFree_67 {l : Launch} {G : GX} {C : CM} {Q : Int32 → Mem → Prop} (N : Nat) (k33 : Int32 → Int32 → XM → Option (Int32 × XM)) (a2 : Int32) (hk33 : ∀ (ac1 : Int32) (ac2 : Int32) (X : XM), SAT (k33 ac1 ac2 X) (fun v c => Q v (C, c)) → AB l G (rmD 5) 0 0 mt_X11_takesFree (ZQ G mt_X11_takesFree Q) 33 [(0, .ref (gA G 10 0 0)), (1, .int ac1), (2, .int ac2)] [] (C, X)) (X : XM) (h : SAT (f_X11_takesFree_67 N k33 a2 X) (fun v c => Q v (C, c))) : AB l G (rmD 5) 0 0 mt_X11_takesFree (ZQ G mt_X11_takesFree Q) 67 [(0, .ref (gA G 10 0 0)), (2, .int a2)] [] (C, X) := by
  unfold f_X11_takesFree_67 at h
  refine ab_iconst (v := 0) dX11_takesFree_67 (by decide) ?_
  exact t_X11_takesFree_68 N k33 a2 0 hk33 X h
set_option maxRecDepth 8000 in
theorem t_X11_takesFree_33 {l : Launch} {G : GX} {C : CM} {Q : Int32 → Mem → Prop} (N : Nat) : ∀ (n : Nat) (a1 : Int32) (a2 : Int32) (X : XM), SAT (f_X11_takesFree_33 N n a1 a2 X) (fun v c => Q v (C, c)) → AB l G (rmD 5) 0 0 mt_X11_takesFree (ZQ G mt_X11_takesFree Q) 33 [(0, .ref (gA G 10 0 0)), (1, .int a1), (2, .int a2)] [] (C, X) := by
  intro n
  induction n with
  | zero => intro a1 a2 X h; exact h.elim
  | succ n ih =>
    intro a1 a2 X h
    rw [f_X11_takesFree_33] at h
    refine ab_iloadn 2 dX11_takesFree_33 rfl ?_
    refine ab_aloadn 0 dX11_takesFree_34 rfl ?_
    refine f_gr (x := 7) (k2 := 10) (i2 := 0) (j2 := 3) ⟨by decide, by decide⟩ rfl rfl (Nat.le_of_ble_eq_true rfl) wd_370 rfl rfl dX11_takesFree_35 ?_
    refine ab_iconst (v := 2) dX11_takesFree_38 (by decide) ?_
    refine fX_iald ⟨by decide, by decide⟩ rfl (fun _ => rfl) h dX11_takesFree_39 (fun v1 h => ?_)
    refine ab_icmp_ge (tgt := 75) dX11_takesFree_40 (by decide) (fun hc2 => ?_) (fun hc2 => ?_)
    · have h := sat_t hc2 h
      refine ab_iconst (v := 0) dX11_takesFree_75 (by decide) ?_
      refine ab_istoren (lv' := [(0, .ref (gA G 10 0 0)), (1, .int a1), (2, .int 0)]) dX11_takesFree_76 rfl (Nat.le_of_ble_eq_true rfl) rfl ?_
      exact t_X11_takesFree_77 N N a1 0 X h
    · have h := sat_f hc2 h
      refine ab_iloadn 1 dX11_takesFree_43 rfl ?_
      refine ab_if_eq (tgt := 67) dX11_takesFree_44 (by decide) (fun hc3 => ?_) (fun hc3 => ?_)
      · have h := sat_t hc3 h
        refine ab_sub [0, 2] rfl ?_
        exact t_X11_takesFree_67 N (fun z1 z2 c => f_X11_takesFree_33 N n z1 z2 c) a2 ih X h
      · have h := sat_f hc3 h
        refine ab_aloadn 0 dX11_takesFree_47 rfl ?_
        refine f_gr (x := 7) (k2 := 10) (i2 := 0) (j2 := 3) ⟨by decide, by decide⟩ rfl rfl (Nat.le_of_ble_eq_true rfl) wd_370 rfl rfl dX11_takesFree_48 ?_
        refine ab_bipush (v := 7) dX11_takesFree_51 (by decide) ?_
        refine ab_iloadn 2 dX11_takesFree_53 rfl ?_
        refine ab_iadd dX11_takesFree_54 ?_
        refine fX_iald ⟨by decide, by decide⟩ rfl (fun _ => rfl) h dX11_takesFree_55 (fun v4 h => ?_)
        refine ab_aloadn 0 dX11_takesFree_56 rfl ?_
        refine fX_gi (x := 18) ⟨by decide, by decide⟩ rfl rfl (Nat.le_of_ble_eq_true rfl) wd_384 rfl dX11_takesFree_57 ?_
        refine ab_icmp_eq (tgt := 67) dX11_takesFree_60 (by decide) (fun hc5 => ?_) (fun hc5 => ?_)
        · have h := sat_t hc5 h
          refine ab_sub [0, 2] rfl ?_
          exact t_X11_takesFree_67 N (fun z1 z2 c => f_X11_takesFree_33 N n z1 z2 c) a2 ih X h
        · have h := sat_f hc5 h
          refine ab_iconst (v := 1) dX11_takesFree_63 (by decide) ?_
          refine ab_goto (tgt := 68) dX11_takesFree_64 (by decide) ?_
          refine ab_sub [0, 2] rfl ?_
          exact t_X11_takesFree_68 N (fun z1 z2 c => f_X11_takesFree_33 N n z1 z2 c) a2 1 ih X h
set_option maxRecDepth 8000 in
theorem t_X11_takesFree_30 {l : Launch} {G : GX} {C : CM} {Q : Int32 → Mem → Prop} (N : Nat) (as0 : Int32) (X : XM) (h : SAT (f_X11_takesFree_30 N as0 X) (fun v c => Q v (C, c))) : AB l G (rmD 5) 0 0 mt_X11_takesFree (ZQ G mt_X11_takesFree Q) 30 [(0, .ref (gA G 10 0 0))] [.int as0] (C, X) := by
  unfold f_X11_takesFree_30 at h
  refine ab_istoren (lv' := [(0, .ref (gA G 10 0 0)), (1, .int as0)]) dX11_takesFree_30 rfl (Nat.le_of_ble_eq_true rfl) rfl ?_
  refine ab_iconst (v := 0) dX11_takesFree_31 (by decide) ?_
  refine ab_istoren (lv' := [(0, .ref (gA G 10 0 0)), (1, .int as0), (2, .int 0)]) dX11_takesFree_32 rfl (Nat.le_of_ble_eq_true rfl) rfl ?_
  exact t_X11_takesFree_33 N N as0 0 X h
set_option maxRecDepth 8000 in
theorem t_X11_takesFree_0 {l : Launch} {G : GX} {C : CM} {Q : Int32 → Mem → Prop} (N : Nat) (X : XM) (h : SAT (f_X11_takesFree N X) (fun v c => Q v (C, c))) : AB l G (rmD 5) 0 0 mt_X11_takesFree (ZQ G mt_X11_takesFree Q) 0 [(0, .ref (gA G 10 0 0))] [] (C, X) := by
  unfold f_X11_takesFree at h
  refine ab_aloadn 0 dX11_takesFree_0 rfl ?_
  refine fX_Vi (mtc := mt_X11_looksAtCell) (As := []) h (fun Q h => ct_X11_looksAtCell N X h) ⟨by decide, by decide⟩ rfl rfl rfl mw_X11_looksAtCell wd_396 rfl rfl ⟨Nat.le_of_ble_eq_true rfl, Nat.le_of_ble_eq_true rfl⟩ ⟨Nat.zero_le _, Nat.zero_le _⟩ (Nat.le_of_ble_eq_true rfl) rfl dX11_takesFree_1 (fun v1 X2 h => ?_)
  refine ab_if_ne (tgt := 9) dX11_takesFree_4 (by decide) (fun hc3 => ?_) (fun hc3 => ?_)
  · have h := sat_f hc3 h
    refine ab_aloadn 0 dX11_takesFree_9 rfl ?_
    refine f_gr (x := 7) (k2 := 10) (i2 := 0) (j2 := 3) ⟨by decide, by decide⟩ rfl rfl (Nat.le_of_ble_eq_true rfl) wd_370 rfl rfl dX11_takesFree_10 ?_
    refine ab_sipush (v := 271) dX11_takesFree_13 (by decide) ?_
    refine ab_aloadn 0 dX11_takesFree_16 rfl ?_
    refine fX_gi (x := 18) ⟨by decide, by decide⟩ rfl rfl (Nat.le_of_ble_eq_true rfl) wd_384 rfl dX11_takesFree_17 ?_
    refine ab_iadd dX11_takesFree_20 ?_
    refine fX_iald ⟨by decide, by decide⟩ rfl (fun _ => rfl) h dX11_takesFree_21 (fun v4 h => ?_)
    refine ab_if_ne (tgt := 29) dX11_takesFree_22 (by decide) (fun hc5 => ?_) (fun hc5 => ?_)
    · have h := sat_f hc5 h
      refine ab_iconst (v := 0) dX11_takesFree_29 (by decide) ?_
      exact t_X11_takesFree_30 N 0 X2 h
    · have h := sat_t hc5 h
      refine ab_iconst (v := 1) dX11_takesFree_25 (by decide) ?_
      refine ab_goto (tgt := 30) dX11_takesFree_26 (by decide) ?_
      exact t_X11_takesFree_30 N 1 X2 h
  · have h := sat_t hc3 h
    refine ab_iconst (v := 0) dX11_takesFree_7 (by decide) ?_
    exact fX_iret h rfl rfl dX11_takesFree_8
theorem ct_X11_takesFree {l : Launch} {G : GX} {C : CM} {Q : Int32 → Mem → Prop} (N : Nat) (X : XM) (h : SAT (f_X11_takesFree N X) (fun v c => Q v (C, c))) : CT l G 5 mt_X11_takesFree [.ref (gA G 10 0 0)] (C, X) Q := ct_of pn_X11 (Nat.le_of_ble_eq_true rfl) (t_X11_takesFree_0 N X h)
def f_X11_readOwner (N : Nat) (X : XM) : Option (Int32 × XM) := ldA (X.1 3) 371 2 (fun v1 => (if v1 = 8 then cal (f_X11_bad 4 X) (fun v36 X37 => (chk (isB v36) (rt v36 X37))) else cal (f_X11_next N X) (fun v3 X4 => cal (f_X11_isName N X4) (fun v5 X6 => (if v5 = 0 then cal (f_X11_bad 1 X6) (fun v34 X35 => (chk (isB v34) (rt v34 X35))) else cal (f_X11_find N 8 v1 X6) (fun v8 X9 => (if v8 < 0 then slA X9 5 16 (8 + v1) (X9.2 0 17) (fun X11 => cal (f_X11_next N X11) (fun v12 X13 => cal (f_X11_takesFree N X13) (fun v14 X15 => (if v14 = 0 then (rt 0 X15) else sxA X15 3 371 (7 + v1) (X15.1 0 18) (fun X17 => cal (f_X11_takes N 0 999 X17) (fun v18 X19 => (if v18 = 0 then (rt 0 X19) else sxA X19 3 371 (15 + v1) (X19.1 0 18) (fun X21 => cal (f_X11_takes N 1 99 X21) (fun v22 X23 => (if v22 = 0 then (rt 0 X23) else sxA X23 3 371 (23 + v1) (X23.1 0 18) (fun X25 => cal (f_X11_takes N 0 9 X25) (fun v26 X27 => (if v26 = 0 then (rt 0 X27) else sxA X27 3 371 (31 + v1) (X27.1 0 18) (fun X29 => ldA (X29.1 3) 371 2 (fun v30 => sxA X29 3 371 2 (v30 + 1) (fun X31 => (rt 1 X31))))))))))))))))) else cal (f_X11_bad 3 X9) (fun v32 X33 => (chk (isB v32) (rt v32 X33))))))))))
set_option maxRecDepth 8000 in
theorem t_X11_readOwner_0 {l : Launch} {G : GX} {C : CM} {Q : Int32 → Mem → Prop} (N : Nat) (X : XM) (h : SAT (f_X11_readOwner N X) (fun v c => Q v (C, c))) : AB l G (rmD 6) 0 0 mt_X11_readOwner (ZQ G mt_X11_readOwner Q) 0 [(0, .ref (gA G 10 0 0))] [] (C, X) := by
  unfold f_X11_readOwner at h
  refine ab_aloadn 0 dX11_readOwner_0 rfl ?_
  refine f_gr (x := 7) (k2 := 10) (i2 := 0) (j2 := 3) ⟨by decide, by decide⟩ rfl rfl (Nat.le_of_ble_eq_true rfl) wd_370 rfl rfl dX11_readOwner_1 ?_
  refine ab_iconst (v := 2) dX11_readOwner_4 (by decide) ?_
  refine fX_iald ⟨by decide, by decide⟩ rfl (fun _ => rfl) h dX11_readOwner_5 (fun v1 h => ?_)
  refine ab_istoren (lv' := [(0, .ref (gA G 10 0 0)), (1, .int v1)]) dX11_readOwner_6 rfl (Nat.le_of_ble_eq_true rfl) rfl ?_
  refine ab_iloadn 1 dX11_readOwner_7 rfl ?_
  refine ab_bipush (v := 8) dX11_readOwner_8 (by decide) ?_
  refine ab_icmp_ne (tgt := 19) dX11_readOwner_10 (by decide) (fun hc2 => ?_) (fun hc2 => ?_)
  · have h := sat_f hc2 h
    refine ab_aloadn 0 dX11_readOwner_19 rfl ?_
    refine fX_Vv (mtc := mt_X11_next) (As := []) h (fun Q h => ct_X11_next N X h) ⟨by decide, by decide⟩ rfl rfl rfl mw_X11_next wd_369 rfl rfl ⟨Nat.le_of_ble_eq_true rfl, Nat.le_of_ble_eq_true rfl⟩ ⟨Nat.zero_le _, Nat.zero_le _⟩ (Nat.le_of_ble_eq_true rfl) rfl dX11_readOwner_20 (fun v3 X4 h => ?_)
    refine ab_aloadn 0 dX11_readOwner_23 rfl ?_
    refine fX_Vi (mtc := mt_X11_isName) (As := []) h (fun Q h => ct_X11_isName N X4 h) ⟨by decide, by decide⟩ rfl rfl rfl mw_X11_isName wd_389 rfl rfl ⟨Nat.le_of_ble_eq_true rfl, Nat.le_of_ble_eq_true rfl⟩ ⟨Nat.zero_le _, Nat.zero_le _⟩ (Nat.le_of_ble_eq_true rfl) rfl dX11_readOwner_24 (fun v5 X6 h => ?_)
    refine ab_if_ne (tgt := 36) dX11_readOwner_27 (by decide) (fun hc7 => ?_) (fun hc7 => ?_)
    · have h := sat_f hc7 h
      refine ab_aloadn 0 dX11_readOwner_36 rfl ?_
      refine ab_bipush (v := 8) dX11_readOwner_37 (by decide) ?_
      refine ab_iloadn 1 dX11_readOwner_39 rfl ?_
      refine fX_Vi (mtc := mt_X11_find) (As := [.int 8, .int v1]) h (fun Q h => ct_X11_find N 8 v1 X6 h) ⟨by decide, by decide⟩ rfl rfl rfl mw_X11_find wd_391 rfl rfl ⟨Nat.le_of_ble_eq_true rfl, Nat.le_of_ble_eq_true rfl⟩ ⟨Nat.zero_le _, Nat.zero_le _⟩ (Nat.le_of_ble_eq_true rfl) rfl dX11_readOwner_40 (fun v8 X9 h => ?_)
      refine ab_if_lt (tgt := 52) dX11_readOwner_43 (by decide) (fun hc10 => ?_) (fun hc10 => ?_)
      · have h := sat_t hc10 h
        refine ab_aloadn 0 dX11_readOwner_52 rfl ?_
        refine f_gr (x := 9) (k2 := 10) (i2 := 0) (j2 := 5) ⟨by decide, by decide⟩ rfl rfl (Nat.le_of_ble_eq_true rfl) wd_390 rfl rfl dX11_readOwner_53 ?_
        refine ab_bipush (v := 8) dX11_readOwner_56 (by decide) ?_
        refine ab_iloadn 1 dX11_readOwner_58 rfl ?_
        refine ab_iadd dX11_readOwner_59 ?_
        refine ab_aloadn 0 dX11_readOwner_60 rfl ?_
        refine fX_gl (x := 17) ⟨by decide, by decide⟩ rfl rfl (Nat.le_of_ble_eq_true rfl) wd_368 rfl dX11_readOwner_61 ?_
        refine fX_last ⟨by decide, by decide⟩ rfl (by decide) (fun _ => rfl) h dX11_readOwner_64 (fun X11 h => ?_)
        refine ab_aloadn 0 dX11_readOwner_65 rfl ?_
        refine fX_Vv (mtc := mt_X11_next) (As := []) h (fun Q h => ct_X11_next N X11 h) ⟨by decide, by decide⟩ rfl rfl rfl mw_X11_next wd_369 rfl rfl ⟨Nat.le_of_ble_eq_true rfl, Nat.le_of_ble_eq_true rfl⟩ ⟨Nat.zero_le _, Nat.zero_le _⟩ (Nat.le_of_ble_eq_true rfl) rfl dX11_readOwner_66 (fun v12 X13 h => ?_)
        refine ab_aloadn 0 dX11_readOwner_69 rfl ?_
        refine fX_Vi (mtc := mt_X11_takesFree) (As := []) h (fun Q h => ct_X11_takesFree N X13 h) ⟨by decide, by decide⟩ rfl rfl rfl mw_X11_takesFree wd_401 rfl rfl ⟨Nat.le_of_ble_eq_true rfl, Nat.le_of_ble_eq_true rfl⟩ ⟨Nat.zero_le _, Nat.zero_le _⟩ (Nat.le_of_ble_eq_true rfl) rfl dX11_readOwner_70 (fun v14 X15 h => ?_)
        refine ab_if_ne (tgt := 78) dX11_readOwner_73 (by decide) (fun hc16 => ?_) (fun hc16 => ?_)
        · have h := sat_f hc16 h
          refine ab_aloadn 0 dX11_readOwner_78 rfl ?_
          refine f_gr (x := 7) (k2 := 10) (i2 := 0) (j2 := 3) ⟨by decide, by decide⟩ rfl rfl (Nat.le_of_ble_eq_true rfl) wd_370 rfl rfl dX11_readOwner_79 ?_
          refine ab_bipush (v := 7) dX11_readOwner_82 (by decide) ?_
          refine ab_iloadn 1 dX11_readOwner_84 rfl ?_
          refine ab_iadd dX11_readOwner_85 ?_
          refine ab_aloadn 0 dX11_readOwner_86 rfl ?_
          refine fX_gi (x := 18) ⟨by decide, by decide⟩ rfl rfl (Nat.le_of_ble_eq_true rfl) wd_384 rfl dX11_readOwner_87 ?_
          refine fX_iast ⟨by decide, by decide⟩ rfl (fun _ => rfl) h dX11_readOwner_90 (fun X17 h => ?_)
          refine ab_aloadn 0 dX11_readOwner_91 rfl ?_
          refine ab_iconst (v := 0) dX11_readOwner_92 (by decide) ?_
          refine ab_sipush (v := 999) dX11_readOwner_93 (by decide) ?_
          refine fX_Vi (mtc := mt_X11_takes) (As := [.int 0, .int 999]) h (fun Q h => ct_X11_takes N 0 999 X17 h) ⟨by decide, by decide⟩ rfl rfl rfl mw_X11_takes wd_387 rfl rfl ⟨Nat.le_of_ble_eq_true rfl, Nat.le_of_ble_eq_true rfl⟩ ⟨Nat.zero_le _, Nat.zero_le _⟩ (Nat.le_of_ble_eq_true rfl) rfl dX11_readOwner_96 (fun v18 X19 h => ?_)
          refine ab_if_ne (tgt := 104) dX11_readOwner_99 (by decide) (fun hc20 => ?_) (fun hc20 => ?_)
          · have h := sat_f hc20 h
            refine ab_aloadn 0 dX11_readOwner_104 rfl ?_
            refine f_gr (x := 7) (k2 := 10) (i2 := 0) (j2 := 3) ⟨by decide, by decide⟩ rfl rfl (Nat.le_of_ble_eq_true rfl) wd_370 rfl rfl dX11_readOwner_105 ?_
            refine ab_bipush (v := 15) dX11_readOwner_108 (by decide) ?_
            refine ab_iloadn 1 dX11_readOwner_110 rfl ?_
            refine ab_iadd dX11_readOwner_111 ?_
            refine ab_aloadn 0 dX11_readOwner_112 rfl ?_
            refine fX_gi (x := 18) ⟨by decide, by decide⟩ rfl rfl (Nat.le_of_ble_eq_true rfl) wd_384 rfl dX11_readOwner_113 ?_
            refine fX_iast ⟨by decide, by decide⟩ rfl (fun _ => rfl) h dX11_readOwner_116 (fun X21 h => ?_)
            refine ab_aloadn 0 dX11_readOwner_117 rfl ?_
            refine ab_iconst (v := 1) dX11_readOwner_118 (by decide) ?_
            refine ab_bipush (v := 99) dX11_readOwner_119 (by decide) ?_
            refine fX_Vi (mtc := mt_X11_takes) (As := [.int 1, .int 99]) h (fun Q h => ct_X11_takes N 1 99 X21 h) ⟨by decide, by decide⟩ rfl rfl rfl mw_X11_takes wd_387 rfl rfl ⟨Nat.le_of_ble_eq_true rfl, Nat.le_of_ble_eq_true rfl⟩ ⟨Nat.zero_le _, Nat.zero_le _⟩ (Nat.le_of_ble_eq_true rfl) rfl dX11_readOwner_121 (fun v22 X23 h => ?_)
            refine ab_if_ne (tgt := 129) dX11_readOwner_124 (by decide) (fun hc24 => ?_) (fun hc24 => ?_)
            · have h := sat_f hc24 h
              refine ab_aloadn 0 dX11_readOwner_129 rfl ?_
              refine f_gr (x := 7) (k2 := 10) (i2 := 0) (j2 := 3) ⟨by decide, by decide⟩ rfl rfl (Nat.le_of_ble_eq_true rfl) wd_370 rfl rfl dX11_readOwner_130 ?_
              refine ab_bipush (v := 23) dX11_readOwner_133 (by decide) ?_
              refine ab_iloadn 1 dX11_readOwner_135 rfl ?_
              refine ab_iadd dX11_readOwner_136 ?_
              refine ab_aloadn 0 dX11_readOwner_137 rfl ?_
              refine fX_gi (x := 18) ⟨by decide, by decide⟩ rfl rfl (Nat.le_of_ble_eq_true rfl) wd_384 rfl dX11_readOwner_138 ?_
              refine fX_iast ⟨by decide, by decide⟩ rfl (fun _ => rfl) h dX11_readOwner_141 (fun X25 h => ?_)
              refine ab_aloadn 0 dX11_readOwner_142 rfl ?_
              refine ab_iconst (v := 0) dX11_readOwner_143 (by decide) ?_
              refine ab_bipush (v := 9) dX11_readOwner_144 (by decide) ?_
              refine fX_Vi (mtc := mt_X11_takes) (As := [.int 0, .int 9]) h (fun Q h => ct_X11_takes N 0 9 X25 h) ⟨by decide, by decide⟩ rfl rfl rfl mw_X11_takes wd_387 rfl rfl ⟨Nat.le_of_ble_eq_true rfl, Nat.le_of_ble_eq_true rfl⟩ ⟨Nat.zero_le _, Nat.zero_le _⟩ (Nat.le_of_ble_eq_true rfl) rfl dX11_readOwner_146 (fun v26 X27 h => ?_)
              refine ab_if_ne (tgt := 154) dX11_readOwner_149 (by decide) (fun hc28 => ?_) (fun hc28 => ?_)
              · have h := sat_f hc28 h
                refine ab_aloadn 0 dX11_readOwner_154 rfl ?_
                refine f_gr (x := 7) (k2 := 10) (i2 := 0) (j2 := 3) ⟨by decide, by decide⟩ rfl rfl (Nat.le_of_ble_eq_true rfl) wd_370 rfl rfl dX11_readOwner_155 ?_
                refine ab_bipush (v := 31) dX11_readOwner_158 (by decide) ?_
                refine ab_iloadn 1 dX11_readOwner_160 rfl ?_
                refine ab_iadd dX11_readOwner_161 ?_
                refine ab_aloadn 0 dX11_readOwner_162 rfl ?_
                refine fX_gi (x := 18) ⟨by decide, by decide⟩ rfl rfl (Nat.le_of_ble_eq_true rfl) wd_384 rfl dX11_readOwner_163 ?_
                refine fX_iast ⟨by decide, by decide⟩ rfl (fun _ => rfl) h dX11_readOwner_166 (fun X29 h => ?_)
                refine ab_aloadn 0 dX11_readOwner_167 rfl ?_
                refine f_gr (x := 7) (k2 := 10) (i2 := 0) (j2 := 3) ⟨by decide, by decide⟩ rfl rfl (Nat.le_of_ble_eq_true rfl) wd_370 rfl rfl dX11_readOwner_168 ?_
                refine ab_iconst (v := 2) dX11_readOwner_171 (by decide) ?_
                refine ab_dup2 dX11_readOwner_172 rfl rfl ?_
                refine fX_iald ⟨by decide, by decide⟩ rfl (fun _ => rfl) h dX11_readOwner_173 (fun v30 h => ?_)
                refine ab_iconst (v := 1) dX11_readOwner_174 (by decide) ?_
                refine ab_iadd dX11_readOwner_175 ?_
                refine fX_iast ⟨by decide, by decide⟩ rfl (fun _ => rfl) h dX11_readOwner_176 (fun X31 h => ?_)
                refine ab_iconst (v := 1) dX11_readOwner_177 (by decide) ?_
                exact fX_iret h rfl rfl dX11_readOwner_178
              · have h := sat_t hc28 h
                refine ab_iconst (v := 0) dX11_readOwner_152 (by decide) ?_
                exact fX_iret h rfl rfl dX11_readOwner_153
            · have h := sat_t hc24 h
              refine ab_iconst (v := 0) dX11_readOwner_127 (by decide) ?_
              exact fX_iret h rfl rfl dX11_readOwner_128
          · have h := sat_t hc20 h
            refine ab_iconst (v := 0) dX11_readOwner_102 (by decide) ?_
            exact fX_iret h rfl rfl dX11_readOwner_103
        · have h := sat_t hc16 h
          refine ab_iconst (v := 0) dX11_readOwner_76 (by decide) ?_
          exact fX_iret h rfl rfl dX11_readOwner_77
      · have h := sat_f hc10 h
        refine ab_aloadn 0 dX11_readOwner_46 rfl ?_
        refine ab_iconst (v := 3) dX11_readOwner_47 (by decide) ?_
        refine fX_Vi (mtc := mt_X11_bad) (As := [.int 3]) h (fun Q h => ct_X11_bad 3 X9 h) ⟨by decide, by decide⟩ rfl rfl rfl mw_X11_bad wd_386 rfl rfl ⟨Nat.le_of_ble_eq_true rfl, Nat.le_of_ble_eq_true rfl⟩ ⟨Nat.zero_le _, Nat.zero_le _⟩ (Nat.le_of_ble_eq_true rfl) rfl dX11_readOwner_48 (fun v32 X33 h => ?_)
        exact fX_iretb h rfl dX11_readOwner_51
    · have h := sat_t hc7 h
      refine ab_aloadn 0 dX11_readOwner_30 rfl ?_
      refine ab_iconst (v := 1) dX11_readOwner_31 (by decide) ?_
      refine fX_Vi (mtc := mt_X11_bad) (As := [.int 1]) h (fun Q h => ct_X11_bad 1 X6 h) ⟨by decide, by decide⟩ rfl rfl rfl mw_X11_bad wd_386 rfl rfl ⟨Nat.le_of_ble_eq_true rfl, Nat.le_of_ble_eq_true rfl⟩ ⟨Nat.zero_le _, Nat.zero_le _⟩ (Nat.le_of_ble_eq_true rfl) rfl dX11_readOwner_32 (fun v34 X35 h => ?_)
      exact fX_iretb h rfl dX11_readOwner_35
  · have h := sat_t hc2 h
    refine ab_aloadn 0 dX11_readOwner_13 rfl ?_
    refine ab_iconst (v := 4) dX11_readOwner_14 (by decide) ?_
    refine fX_Vi (mtc := mt_X11_bad) (As := [.int 4]) h (fun Q h => ct_X11_bad 4 X h) ⟨by decide, by decide⟩ rfl rfl rfl mw_X11_bad wd_386 rfl rfl ⟨Nat.le_of_ble_eq_true rfl, Nat.le_of_ble_eq_true rfl⟩ ⟨Nat.zero_le _, Nat.zero_le _⟩ (Nat.le_of_ble_eq_true rfl) rfl dX11_readOwner_15 (fun v36 X37 h => ?_)
    exact fX_iretb h rfl dX11_readOwner_18
theorem ct_X11_readOwner {l : Launch} {G : GX} {C : CM} {Q : Int32 → Mem → Prop} (N : Nat) (X : XM) (h : SAT (f_X11_readOwner N X) (fun v c => Q v (C, c))) : CT l G 6 mt_X11_readOwner [.ref (gA G 10 0 0)] (C, X) Q := ct_of pn_X11 (Nat.le_of_ble_eq_true rfl) (t_X11_readOwner_0 N X h)
def f_X11_line_34 (N : Nat) : Nat → Int32 → XM → Option (Int32 × XM)
  | 0, _, _ => none
  | n + 1, a1, X => (if 2 ≤ a1 then (rt 1 X) else cal (f_X11_takes N 2 10 X) (fun v2 X3 => (if v2 = 0 then (rt 0 X3) else sxA X3 3 371 (0 + a1) (X3.1 0 18) (fun X5 => (f_X11_line_34 N n (a1 + 1) X5)))))
def f_X11_line (N : Nat) (X : XM) : Option (Int32 × XM) := cal (f_X11_isWord 2036429412 X) (fun v1 X2 => (if v1 = 0 then cal (f_X11_isWord 478745093490 X2) (fun v4 X5 => (if v4 = 0 then cal (f_X11_isWord 1986096741 X5) (fun v7 X8 => (if v7 = 0 then cal (f_X11_isWord 1953654117 X8) (fun v10 X11 => (if v10 = 0 then cal (f_X11_isWord 439788397413 X11) (fun v13 X14 => (if v13 = 0 then cal (f_X11_isWord 1701078137 X14) (fun v16 X17 => (if v16 = 0 then cal (f_X11_isWord 1735750516 X17) (fun v19 X20 => (if v19 = 0 then cal (f_X11_isWord 1885430644 X20) (fun v22 X23 => (if v22 = 0 then cal (f_X11_isWord 1886154612 X23) (fun v25 X26 => (if v25 = 0 then cal (f_X11_isWord 7501166 X26) (fun v28 X29 => (if v28 = 0 then cal (f_X11_bad 1 X29) (fun v45 X46 => (chk (isB v45) (rt v45 X46))) else (if (X29.1 0 24) = 0 then bnd (stX X29 0 24 1) (fun X32 => cal (f_X11_next N X32) (fun v33 X34 => cal (f_X11_takes N 0 99 X34) (fun v35 X36 => (if v35 = 0 then (rt 0 X36) else sxA X36 3 371 5 (X36.1 0 18) (fun X38 => cal (f_X11_takes N 0 999 X38) (fun v39 X40 => (if v39 = 0 then (rt 0 X40) else sxA X40 3 371 6 (X40.1 0 18) (fun X42 => (rt 1 X42))))))))) else cal (f_X11_bad 3 X29) (fun v43 X44 => (chk (isB v43) (rt v43 X44)))))) else cal (f_X11_readPlot N X26) (fun v47 X48 => (chk (isB v47) (rt v47 X48))))) else cal (f_X11_readPact N X23) (fun v49 X50 => (chk (isB v49) (rt v49 X50))))) else cal (f_X11_readGust N X20) (fun v51 X52 => (chk (isB v51) (rt v51 X52))))) else cal (f_X11_readEddy N X17) (fun v53 X54 => (chk (isB v53) (rt v53 X54))))) else (if (X14.1 0 21) = 12 then cal (f_X11_bad 4 X14) (fun v63 X64 => (chk (isB v63) (rt v63 X64))) else cal (f_X11_next N X14) (fun v56 X57 => cal (f_X11_takesFree N X57) (fun v58 X59 => (if v58 = 0 then (rt 0 X59) else sxA X59 3 371 (271 + (X59.1 0 18)) 1 (fun X61 => bnd (stX X61 0 21 ((X61.1 0 21) + 1)) (fun X62 => (rt 1 X62))))))))) else ldA (X11.1 3) 371 3 (fun v65 => (if v65 = 12 then cal (f_X11_bad 4 X11) (fun v76 X77 => (chk (isB v76) (rt v76 X77))) else cal (f_X11_next N X11) (fun v67 X68 => cal (f_X11_takesFree N X68) (fun v69 X70 => (if v69 = 0 then (rt 0 X70) else ldA (X70.1 3) 371 3 (fun v72 => sxA X70 3 371 (63 + v72) (X70.1 0 18) (fun X73 => ldA (X73.1 3) 371 3 (fun v74 => sxA X73 3 371 3 (v74 + 1) (fun X75 => (rt 1 X75)))))))))))) else cal (f_X11_next N X8) (fun v78 X79 => cal (f_X11_takesOwner N (X79.1 0 20) X79) (fun v80 X81 => (if v80 = 0 then (rt 0 X81) else bnd (stX X81 0 20 ((X81.1 0 20) ||| ((1 : Int32) <<< ((X81.1 0 18) &&& 31)))) (fun X83 => cal (f_X11_takes N 0 7 X83) (fun v84 X85 => (if v84 = 0 then (rt 0 X85) else sxA X85 3 371 (39 + (X81.1 0 18)) (X85.1 0 18) (fun X87 => (rt 1 X87)))))))))) else cal (f_X11_readOwner N X5) (fun v88 X89 => (chk (isB v88) (rt v88 X89))))) else (if (X2.1 0 23) = 0 then bnd (stX X2 0 23 1) (fun X91 => cal (f_X11_next N X91) (fun v92 X93 => (f_X11_line_34 N N 0 X93))) else cal (f_X11_bad 3 X2) (fun v94 X95 => (chk (isB v94) (rt v94 X95))))))
set_option maxRecDepth 8000 in
theorem t_X11_line_34 {l : Launch} {G : GX} {C : CM} {Q : Int32 → Mem → Prop} (N : Nat) : ∀ (n : Nat) (a1 : Int32) (X : XM), SAT (f_X11_line_34 N n a1 X) (fun v c => Q v (C, c)) → AB l G (rmD 7) 0 0 mt_X11_line (ZQ G mt_X11_line Q) 34 [(0, .ref (gA G 10 0 0)), (1, .int a1)] [] (C, X) := by
  intro n
  induction n with
  | zero => intro a1 X h; exact h.elim
  | succ n ih =>
    intro a1 X h
    rw [f_X11_line_34] at h
    refine ab_iloadn 1 dX11_line_34 rfl ?_
    refine ab_iconst (v := 2) dX11_line_35 (by decide) ?_
    refine ab_icmp_ge (tgt := 69) dX11_line_36 (by decide) (fun hc1 => ?_) (fun hc1 => ?_)
    · have h := sat_t hc1 h
      refine ab_iconst (v := 1) dX11_line_69 (by decide) ?_
      exact fX_iret h rfl rfl dX11_line_70
    · have h := sat_f hc1 h
      refine ab_aloadn 0 dX11_line_39 rfl ?_
      refine ab_iconst (v := 2) dX11_line_40 (by decide) ?_
      refine ab_bipush (v := 10) dX11_line_41 (by decide) ?_
      refine fX_Vi (mtc := mt_X11_takes) (As := [.int 2, .int 10]) h (fun Q h => ct_X11_takes N 2 10 X h) ⟨by decide, by decide⟩ rfl rfl rfl mw_X11_takes wd_387 rfl rfl ⟨Nat.le_of_ble_eq_true rfl, Nat.le_of_ble_eq_true rfl⟩ ⟨Nat.zero_le _, Nat.zero_le _⟩ (Nat.le_of_ble_eq_true rfl) rfl dX11_line_43 (fun v2 X3 h => ?_)
      refine ab_if_ne (tgt := 51) dX11_line_46 (by decide) (fun hc4 => ?_) (fun hc4 => ?_)
      · have h := sat_f hc4 h
        refine ab_aloadn 0 dX11_line_51 rfl ?_
        refine f_gr (x := 7) (k2 := 10) (i2 := 0) (j2 := 3) ⟨by decide, by decide⟩ rfl rfl (Nat.le_of_ble_eq_true rfl) wd_370 rfl rfl dX11_line_52 ?_
        refine ab_iconst (v := 0) dX11_line_55 (by decide) ?_
        refine ab_iloadn 1 dX11_line_56 rfl ?_
        refine ab_iadd dX11_line_57 ?_
        refine ab_aloadn 0 dX11_line_58 rfl ?_
        refine fX_gi (x := 18) ⟨by decide, by decide⟩ rfl rfl (Nat.le_of_ble_eq_true rfl) wd_384 rfl dX11_line_59 ?_
        refine fX_iast ⟨by decide, by decide⟩ rfl (fun _ => rfl) h dX11_line_62 (fun X5 h => ?_)
        refine ab_iinc (q := 1) (v := (a1 + 1)) (lv' := [(0, .ref (gA G 10 0 0)), (1, .int (a1 + 1))]) dX11_line_63 rfl rfl rfl (Nat.le_of_ble_eq_true rfl) rfl ?_
        refine ab_goto (tgt := 34) dX11_line_66 (by decide) ?_
        exact ih (a1 + 1) X5 h
      · have h := sat_t hc4 h
        refine ab_iconst (v := 0) dX11_line_49 (by decide) ?_
        exact fX_iret h rfl rfl dX11_line_50
set_option maxRecDepth 8000 in
theorem t_X11_line_0 {l : Launch} {G : GX} {C : CM} {Q : Int32 → Mem → Prop} (N : Nat) (X : XM) (h : SAT (f_X11_line N X) (fun v c => Q v (C, c))) : AB l G (rmD 7) 0 0 mt_X11_line (ZQ G mt_X11_line Q) 0 [(0, .ref (gA G 10 0 0))] [] (C, X) := by
  unfold f_X11_line at h
  refine ab_aloadn 0 dX11_line_0 rfl ?_
  refine ab_ldc2 wd_371 dX11_line_1 ?_
  refine fX_Vi (mtc := mt_X11_isWord) (As := [.long 2036429412]) h (fun Q h => ct_X11_isWord 2036429412 X h) ⟨by decide, by decide⟩ rfl rfl rfl mw_X11_isWord wd_372 rfl rfl ⟨Nat.le_of_ble_eq_true rfl, Nat.le_of_ble_eq_true rfl⟩ ⟨Nat.zero_le _, Nat.zero_le _⟩ (Nat.le_of_ble_eq_true rfl) rfl dX11_line_4 (fun v1 X2 h => ?_)
  refine ab_if_eq (tgt := 71) dX11_line_7 (by decide) (fun hc3 => ?_) (fun hc3 => ?_)
  · have h := sat_t hc3 h
    refine ab_aloadn 0 dX11_line_71 rfl ?_
    refine ab_ldc2 wd_373 dX11_line_72 ?_
    refine fX_Vi (mtc := mt_X11_isWord) (As := [.long 478745093490]) h (fun Q h => ct_X11_isWord 478745093490 X2 h) ⟨by decide, by decide⟩ rfl rfl rfl mw_X11_isWord wd_372 rfl rfl ⟨Nat.le_of_ble_eq_true rfl, Nat.le_of_ble_eq_true rfl⟩ ⟨Nat.zero_le _, Nat.zero_le _⟩ (Nat.le_of_ble_eq_true rfl) rfl dX11_line_75 (fun v4 X5 h => ?_)
    refine ab_if_eq (tgt := 86) dX11_line_78 (by decide) (fun hc6 => ?_) (fun hc6 => ?_)
    · have h := sat_t hc6 h
      refine ab_aloadn 0 dX11_line_86 rfl ?_
      refine ab_ldc2 wd_374 dX11_line_87 ?_
      refine fX_Vi (mtc := mt_X11_isWord) (As := [.long 1986096741]) h (fun Q h => ct_X11_isWord 1986096741 X5 h) ⟨by decide, by decide⟩ rfl rfl rfl mw_X11_isWord wd_372 rfl rfl ⟨Nat.le_of_ble_eq_true rfl, Nat.le_of_ble_eq_true rfl⟩ ⟨Nat.zero_le _, Nat.zero_le _⟩ (Nat.le_of_ble_eq_true rfl) rfl dX11_line_90 (fun v7 X8 h => ?_)
      refine ab_if_eq (tgt := 157) dX11_line_93 (by decide) (fun hc9 => ?_) (fun hc9 => ?_)
      · have h := sat_t hc9 h
        refine ab_aloadn 0 dX11_line_157 rfl ?_
        refine ab_ldc2 wd_375 dX11_line_158 ?_
        refine fX_Vi (mtc := mt_X11_isWord) (As := [.long 1953654117]) h (fun Q h => ct_X11_isWord 1953654117 X8 h) ⟨by decide, by decide⟩ rfl rfl rfl mw_X11_isWord wd_372 rfl rfl ⟨Nat.le_of_ble_eq_true rfl, Nat.le_of_ble_eq_true rfl⟩ ⟨Nat.zero_le _, Nat.zero_le _⟩ (Nat.le_of_ble_eq_true rfl) rfl dX11_line_161 (fun v10 X11 h => ?_)
        refine ab_if_eq (tgt := 227) dX11_line_164 (by decide) (fun hc12 => ?_) (fun hc12 => ?_)
        · have h := sat_t hc12 h
          refine ab_aloadn 0 dX11_line_227 rfl ?_
          refine ab_ldc2 wd_376 dX11_line_228 ?_
          refine fX_Vi (mtc := mt_X11_isWord) (As := [.long 439788397413]) h (fun Q h => ct_X11_isWord 439788397413 X11 h) ⟨by decide, by decide⟩ rfl rfl rfl mw_X11_isWord wd_372 rfl rfl ⟨Nat.le_of_ble_eq_true rfl, Nat.le_of_ble_eq_true rfl⟩ ⟨Nat.zero_le _, Nat.zero_le _⟩ (Nat.le_of_ble_eq_true rfl) rfl dX11_line_231 (fun v13 X14 h => ?_)
          refine ab_if_eq (tgt := 291) dX11_line_234 (by decide) (fun hc15 => ?_) (fun hc15 => ?_)
          · have h := sat_t hc15 h
            refine ab_aloadn 0 dX11_line_291 rfl ?_
            refine ab_ldc2 wd_377 dX11_line_292 ?_
            refine fX_Vi (mtc := mt_X11_isWord) (As := [.long 1701078137]) h (fun Q h => ct_X11_isWord 1701078137 X14 h) ⟨by decide, by decide⟩ rfl rfl rfl mw_X11_isWord wd_372 rfl rfl ⟨Nat.le_of_ble_eq_true rfl, Nat.le_of_ble_eq_true rfl⟩ ⟨Nat.zero_le _, Nat.zero_le _⟩ (Nat.le_of_ble_eq_true rfl) rfl dX11_line_295 (fun v16 X17 h => ?_)
            refine ab_if_eq (tgt := 306) dX11_line_298 (by decide) (fun hc18 => ?_) (fun hc18 => ?_)
            · have h := sat_t hc18 h
              refine ab_aloadn 0 dX11_line_306 rfl ?_
              refine ab_ldc2 wd_378 dX11_line_307 ?_
              refine fX_Vi (mtc := mt_X11_isWord) (As := [.long 1735750516]) h (fun Q h => ct_X11_isWord 1735750516 X17 h) ⟨by decide, by decide⟩ rfl rfl rfl mw_X11_isWord wd_372 rfl rfl ⟨Nat.le_of_ble_eq_true rfl, Nat.le_of_ble_eq_true rfl⟩ ⟨Nat.zero_le _, Nat.zero_le _⟩ (Nat.le_of_ble_eq_true rfl) rfl dX11_line_310 (fun v19 X20 h => ?_)
              refine ab_if_eq (tgt := 321) dX11_line_313 (by decide) (fun hc21 => ?_) (fun hc21 => ?_)
              · have h := sat_t hc21 h
                refine ab_aloadn 0 dX11_line_321 rfl ?_
                refine ab_ldc2 wd_379 dX11_line_322 ?_
                refine fX_Vi (mtc := mt_X11_isWord) (As := [.long 1885430644]) h (fun Q h => ct_X11_isWord 1885430644 X20 h) ⟨by decide, by decide⟩ rfl rfl rfl mw_X11_isWord wd_372 rfl rfl ⟨Nat.le_of_ble_eq_true rfl, Nat.le_of_ble_eq_true rfl⟩ ⟨Nat.zero_le _, Nat.zero_le _⟩ (Nat.le_of_ble_eq_true rfl) rfl dX11_line_325 (fun v22 X23 h => ?_)
                refine ab_if_eq (tgt := 336) dX11_line_328 (by decide) (fun hc24 => ?_) (fun hc24 => ?_)
                · have h := sat_t hc24 h
                  refine ab_aloadn 0 dX11_line_336 rfl ?_
                  refine ab_ldc2 wd_380 dX11_line_337 ?_
                  refine fX_Vi (mtc := mt_X11_isWord) (As := [.long 1886154612]) h (fun Q h => ct_X11_isWord 1886154612 X23 h) ⟨by decide, by decide⟩ rfl rfl rfl mw_X11_isWord wd_372 rfl rfl ⟨Nat.le_of_ble_eq_true rfl, Nat.le_of_ble_eq_true rfl⟩ ⟨Nat.zero_le _, Nat.zero_le _⟩ (Nat.le_of_ble_eq_true rfl) rfl dX11_line_340 (fun v25 X26 h => ?_)
                  refine ab_if_eq (tgt := 351) dX11_line_343 (by decide) (fun hc27 => ?_) (fun hc27 => ?_)
                  · have h := sat_t hc27 h
                    refine ab_aloadn 0 dX11_line_351 rfl ?_
                    refine ab_ldc2 wd_381 dX11_line_352 ?_
                    refine fX_Vi (mtc := mt_X11_isWord) (As := [.long 7501166]) h (fun Q h => ct_X11_isWord 7501166 X26 h) ⟨by decide, by decide⟩ rfl rfl rfl mw_X11_isWord wd_372 rfl rfl ⟨Nat.le_of_ble_eq_true rfl, Nat.le_of_ble_eq_true rfl⟩ ⟨Nat.zero_le _, Nat.zero_le _⟩ (Nat.le_of_ble_eq_true rfl) rfl dX11_line_355 (fun v28 X29 h => ?_)
                    refine ab_if_ne (tgt := 367) dX11_line_358 (by decide) (fun hc30 => ?_) (fun hc30 => ?_)
                    · have h := sat_f hc30 h
                      refine ab_aloadn 0 dX11_line_367 rfl ?_
                      refine fX_gi (x := 24) ⟨by decide, by decide⟩ rfl rfl (Nat.le_of_ble_eq_true rfl) wd_358 rfl dX11_line_368 ?_
                      refine ab_if_eq (tgt := 380) dX11_line_371 (by decide) (fun hc31 => ?_) (fun hc31 => ?_)
                      · have h := sat_t hc31 h
                        refine ab_aloadn 0 dX11_line_380 rfl ?_
                        refine ab_iconst (v := 1) dX11_line_381 (by decide) ?_
                        refine fX_pi (x := 24) (ty := .boolean) ⟨by decide, by decide⟩ rfl rfl (Nat.le_of_ble_eq_true rfl) wd_358 rfl h rfl (by decide +kernel) rfl rfl dX11_line_382 (fun X32 h => ?_)
                        refine ab_aloadn 0 dX11_line_385 rfl ?_
                        refine fX_Vv (mtc := mt_X11_next) (As := []) h (fun Q h => ct_X11_next N X32 h) ⟨by decide, by decide⟩ rfl rfl rfl mw_X11_next wd_369 rfl rfl ⟨Nat.le_of_ble_eq_true rfl, Nat.le_of_ble_eq_true rfl⟩ ⟨Nat.zero_le _, Nat.zero_le _⟩ (Nat.le_of_ble_eq_true rfl) rfl dX11_line_386 (fun v33 X34 h => ?_)
                        refine ab_aloadn 0 dX11_line_389 rfl ?_
                        refine ab_iconst (v := 0) dX11_line_390 (by decide) ?_
                        refine ab_bipush (v := 99) dX11_line_391 (by decide) ?_
                        refine fX_Vi (mtc := mt_X11_takes) (As := [.int 0, .int 99]) h (fun Q h => ct_X11_takes N 0 99 X34 h) ⟨by decide, by decide⟩ rfl rfl rfl mw_X11_takes wd_387 rfl rfl ⟨Nat.le_of_ble_eq_true rfl, Nat.le_of_ble_eq_true rfl⟩ ⟨Nat.zero_le _, Nat.zero_le _⟩ (Nat.le_of_ble_eq_true rfl) rfl dX11_line_393 (fun v35 X36 h => ?_)
                        refine ab_if_ne (tgt := 401) dX11_line_396 (by decide) (fun hc37 => ?_) (fun hc37 => ?_)
                        · have h := sat_f hc37 h
                          refine ab_aloadn 0 dX11_line_401 rfl ?_
                          refine f_gr (x := 7) (k2 := 10) (i2 := 0) (j2 := 3) ⟨by decide, by decide⟩ rfl rfl (Nat.le_of_ble_eq_true rfl) wd_370 rfl rfl dX11_line_402 ?_
                          refine ab_iconst (v := 5) dX11_line_405 (by decide) ?_
                          refine ab_aloadn 0 dX11_line_406 rfl ?_
                          refine fX_gi (x := 18) ⟨by decide, by decide⟩ rfl rfl (Nat.le_of_ble_eq_true rfl) wd_384 rfl dX11_line_407 ?_
                          refine fX_iast ⟨by decide, by decide⟩ rfl (fun _ => rfl) h dX11_line_410 (fun X38 h => ?_)
                          refine ab_aloadn 0 dX11_line_411 rfl ?_
                          refine ab_iconst (v := 0) dX11_line_412 (by decide) ?_
                          refine ab_sipush (v := 999) dX11_line_413 (by decide) ?_
                          refine fX_Vi (mtc := mt_X11_takes) (As := [.int 0, .int 999]) h (fun Q h => ct_X11_takes N 0 999 X38 h) ⟨by decide, by decide⟩ rfl rfl rfl mw_X11_takes wd_387 rfl rfl ⟨Nat.le_of_ble_eq_true rfl, Nat.le_of_ble_eq_true rfl⟩ ⟨Nat.zero_le _, Nat.zero_le _⟩ (Nat.le_of_ble_eq_true rfl) rfl dX11_line_416 (fun v39 X40 h => ?_)
                          refine ab_if_ne (tgt := 424) dX11_line_419 (by decide) (fun hc41 => ?_) (fun hc41 => ?_)
                          · have h := sat_f hc41 h
                            refine ab_aloadn 0 dX11_line_424 rfl ?_
                            refine f_gr (x := 7) (k2 := 10) (i2 := 0) (j2 := 3) ⟨by decide, by decide⟩ rfl rfl (Nat.le_of_ble_eq_true rfl) wd_370 rfl rfl dX11_line_425 ?_
                            refine ab_bipush (v := 6) dX11_line_428 (by decide) ?_
                            refine ab_aloadn 0 dX11_line_430 rfl ?_
                            refine fX_gi (x := 18) ⟨by decide, by decide⟩ rfl rfl (Nat.le_of_ble_eq_true rfl) wd_384 rfl dX11_line_431 ?_
                            refine fX_iast ⟨by decide, by decide⟩ rfl (fun _ => rfl) h dX11_line_434 (fun X42 h => ?_)
                            refine ab_iconst (v := 1) dX11_line_435 (by decide) ?_
                            exact fX_iret h rfl rfl dX11_line_436
                          · have h := sat_t hc41 h
                            refine ab_iconst (v := 0) dX11_line_422 (by decide) ?_
                            exact fX_iret h rfl rfl dX11_line_423
                        · have h := sat_t hc37 h
                          refine ab_iconst (v := 0) dX11_line_399 (by decide) ?_
                          exact fX_iret h rfl rfl dX11_line_400
                      · have h := sat_f hc31 h
                        refine ab_aloadn 0 dX11_line_374 rfl ?_
                        refine ab_iconst (v := 3) dX11_line_375 (by decide) ?_
                        refine fX_Vi (mtc := mt_X11_bad) (As := [.int 3]) h (fun Q h => ct_X11_bad 3 X29 h) ⟨by decide, by decide⟩ rfl rfl rfl mw_X11_bad wd_386 rfl rfl ⟨Nat.le_of_ble_eq_true rfl, Nat.le_of_ble_eq_true rfl⟩ ⟨Nat.zero_le _, Nat.zero_le _⟩ (Nat.le_of_ble_eq_true rfl) rfl dX11_line_376 (fun v43 X44 h => ?_)
                        exact fX_iretb h rfl dX11_line_379
                    · have h := sat_t hc30 h
                      refine ab_aloadn 0 dX11_line_361 rfl ?_
                      refine ab_iconst (v := 1) dX11_line_362 (by decide) ?_
                      refine fX_Vi (mtc := mt_X11_bad) (As := [.int 1]) h (fun Q h => ct_X11_bad 1 X29 h) ⟨by decide, by decide⟩ rfl rfl rfl mw_X11_bad wd_386 rfl rfl ⟨Nat.le_of_ble_eq_true rfl, Nat.le_of_ble_eq_true rfl⟩ ⟨Nat.zero_le _, Nat.zero_le _⟩ (Nat.le_of_ble_eq_true rfl) rfl dX11_line_363 (fun v45 X46 h => ?_)
                      exact fX_iretb h rfl dX11_line_366
                  · have h := sat_f hc27 h
                    refine ab_aloadn 0 dX11_line_346 rfl ?_
                    refine fX_Vi (mtc := mt_X11_readPlot) (As := []) h (fun Q h => ct_X11_readPlot N X26 h) ⟨by decide, by decide⟩ rfl rfl rfl mw_X11_readPlot wd_397 rfl rfl ⟨Nat.le_of_ble_eq_true rfl, Nat.le_of_ble_eq_true rfl⟩ ⟨Nat.zero_le _, Nat.zero_le _⟩ (Nat.le_of_ble_eq_true rfl) rfl dX11_line_347 (fun v47 X48 h => ?_)
                    exact fX_iretb h rfl dX11_line_350
                · have h := sat_f hc24 h
                  refine ab_aloadn 0 dX11_line_331 rfl ?_
                  refine fX_Vi (mtc := mt_X11_readPact) (As := []) h (fun Q h => ct_X11_readPact N X23 h) ⟨by decide, by decide⟩ rfl rfl rfl mw_X11_readPact wd_398 rfl rfl ⟨Nat.le_of_ble_eq_true rfl, Nat.le_of_ble_eq_true rfl⟩ ⟨Nat.zero_le _, Nat.zero_le _⟩ (Nat.le_of_ble_eq_true rfl) rfl dX11_line_332 (fun v49 X50 h => ?_)
                  exact fX_iretb h rfl dX11_line_335
              · have h := sat_f hc21 h
                refine ab_aloadn 0 dX11_line_316 rfl ?_
                refine fX_Vi (mtc := mt_X11_readGust) (As := []) h (fun Q h => ct_X11_readGust N X20 h) ⟨by decide, by decide⟩ rfl rfl rfl mw_X11_readGust wd_399 rfl rfl ⟨Nat.le_of_ble_eq_true rfl, Nat.le_of_ble_eq_true rfl⟩ ⟨Nat.zero_le _, Nat.zero_le _⟩ (Nat.le_of_ble_eq_true rfl) rfl dX11_line_317 (fun v51 X52 h => ?_)
                exact fX_iretb h rfl dX11_line_320
            · have h := sat_f hc18 h
              refine ab_aloadn 0 dX11_line_301 rfl ?_
              refine fX_Vi (mtc := mt_X11_readEddy) (As := []) h (fun Q h => ct_X11_readEddy N X17 h) ⟨by decide, by decide⟩ rfl rfl rfl mw_X11_readEddy wd_400 rfl rfl ⟨Nat.le_of_ble_eq_true rfl, Nat.le_of_ble_eq_true rfl⟩ ⟨Nat.zero_le _, Nat.zero_le _⟩ (Nat.le_of_ble_eq_true rfl) rfl dX11_line_302 (fun v53 X54 h => ?_)
              exact fX_iretb h rfl dX11_line_305
          · have h := sat_f hc15 h
            refine ab_aloadn 0 dX11_line_237 rfl ?_
            refine fX_gi (x := 21) ⟨by decide, by decide⟩ rfl rfl (Nat.le_of_ble_eq_true rfl) wd_355 rfl dX11_line_238 ?_
            refine ab_bipush (v := 12) dX11_line_241 (by decide) ?_
            refine ab_icmp_ne (tgt := 252) dX11_line_243 (by decide) (fun hc55 => ?_) (fun hc55 => ?_)
            · have h := sat_f hc55 h
              refine ab_aloadn 0 dX11_line_252 rfl ?_
              refine fX_Vv (mtc := mt_X11_next) (As := []) h (fun Q h => ct_X11_next N X14 h) ⟨by decide, by decide⟩ rfl rfl rfl mw_X11_next wd_369 rfl rfl ⟨Nat.le_of_ble_eq_true rfl, Nat.le_of_ble_eq_true rfl⟩ ⟨Nat.zero_le _, Nat.zero_le _⟩ (Nat.le_of_ble_eq_true rfl) rfl dX11_line_253 (fun v56 X57 h => ?_)
              refine ab_aloadn 0 dX11_line_256 rfl ?_
              refine fX_Vi (mtc := mt_X11_takesFree) (As := []) h (fun Q h => ct_X11_takesFree N X57 h) ⟨by decide, by decide⟩ rfl rfl rfl mw_X11_takesFree wd_401 rfl rfl ⟨Nat.le_of_ble_eq_true rfl, Nat.le_of_ble_eq_true rfl⟩ ⟨Nat.zero_le _, Nat.zero_le _⟩ (Nat.le_of_ble_eq_true rfl) rfl dX11_line_257 (fun v58 X59 h => ?_)
              refine ab_if_ne (tgt := 265) dX11_line_260 (by decide) (fun hc60 => ?_) (fun hc60 => ?_)
              · have h := sat_f hc60 h
                refine ab_aloadn 0 dX11_line_265 rfl ?_
                refine f_gr (x := 7) (k2 := 10) (i2 := 0) (j2 := 3) ⟨by decide, by decide⟩ rfl rfl (Nat.le_of_ble_eq_true rfl) wd_370 rfl rfl dX11_line_266 ?_
                refine ab_sipush (v := 271) dX11_line_269 (by decide) ?_
                refine ab_aloadn 0 dX11_line_272 rfl ?_
                refine fX_gi (x := 18) ⟨by decide, by decide⟩ rfl rfl (Nat.le_of_ble_eq_true rfl) wd_384 rfl dX11_line_273 ?_
                refine ab_iadd dX11_line_276 ?_
                refine ab_iconst (v := 1) dX11_line_277 (by decide) ?_
                refine fX_iast ⟨by decide, by decide⟩ rfl (fun _ => rfl) h dX11_line_278 (fun X61 h => ?_)
                refine ab_aloadn 0 dX11_line_279 rfl ?_
                refine ab_dup dX11_line_280 rfl ?_
                refine fX_gi (x := 21) ⟨by decide, by decide⟩ rfl rfl (Nat.le_of_ble_eq_true rfl) wd_355 rfl dX11_line_281 ?_
                refine ab_iconst (v := 1) dX11_line_284 (by decide) ?_
                refine ab_iadd dX11_line_285 ?_
                refine fX_pi (x := 21) (ty := .int) ⟨by decide, by decide⟩ rfl rfl (Nat.le_of_ble_eq_true rfl) wd_355 rfl h rfl (by decide +kernel) rfl rfl dX11_line_286 (fun X62 h => ?_)
                refine ab_iconst (v := 1) dX11_line_289 (by decide) ?_
                exact fX_iret h rfl rfl dX11_line_290
              · have h := sat_t hc60 h
                refine ab_iconst (v := 0) dX11_line_263 (by decide) ?_
                exact fX_iret h rfl rfl dX11_line_264
            · have h := sat_t hc55 h
              refine ab_aloadn 0 dX11_line_246 rfl ?_
              refine ab_iconst (v := 4) dX11_line_247 (by decide) ?_
              refine fX_Vi (mtc := mt_X11_bad) (As := [.int 4]) h (fun Q h => ct_X11_bad 4 X14 h) ⟨by decide, by decide⟩ rfl rfl rfl mw_X11_bad wd_386 rfl rfl ⟨Nat.le_of_ble_eq_true rfl, Nat.le_of_ble_eq_true rfl⟩ ⟨Nat.zero_le _, Nat.zero_le _⟩ (Nat.le_of_ble_eq_true rfl) rfl dX11_line_248 (fun v63 X64 h => ?_)
              exact fX_iretb h rfl dX11_line_251
        · have h := sat_f hc12 h
          refine ab_aloadn 0 dX11_line_167 rfl ?_
          refine f_gr (x := 7) (k2 := 10) (i2 := 0) (j2 := 3) ⟨by decide, by decide⟩ rfl rfl (Nat.le_of_ble_eq_true rfl) wd_370 rfl rfl dX11_line_168 ?_
          refine ab_iconst (v := 3) dX11_line_171 (by decide) ?_
          refine fX_iald ⟨by decide, by decide⟩ rfl (fun _ => rfl) h dX11_line_172 (fun v65 h => ?_)
          refine ab_bipush (v := 12) dX11_line_173 (by decide) ?_
          refine ab_icmp_ne (tgt := 184) dX11_line_175 (by decide) (fun hc66 => ?_) (fun hc66 => ?_)
          · have h := sat_f hc66 h
            refine ab_aloadn 0 dX11_line_184 rfl ?_
            refine fX_Vv (mtc := mt_X11_next) (As := []) h (fun Q h => ct_X11_next N X11 h) ⟨by decide, by decide⟩ rfl rfl rfl mw_X11_next wd_369 rfl rfl ⟨Nat.le_of_ble_eq_true rfl, Nat.le_of_ble_eq_true rfl⟩ ⟨Nat.zero_le _, Nat.zero_le _⟩ (Nat.le_of_ble_eq_true rfl) rfl dX11_line_185 (fun v67 X68 h => ?_)
            refine ab_aloadn 0 dX11_line_188 rfl ?_
            refine fX_Vi (mtc := mt_X11_takesFree) (As := []) h (fun Q h => ct_X11_takesFree N X68 h) ⟨by decide, by decide⟩ rfl rfl rfl mw_X11_takesFree wd_401 rfl rfl ⟨Nat.le_of_ble_eq_true rfl, Nat.le_of_ble_eq_true rfl⟩ ⟨Nat.zero_le _, Nat.zero_le _⟩ (Nat.le_of_ble_eq_true rfl) rfl dX11_line_189 (fun v69 X70 h => ?_)
            refine ab_if_ne (tgt := 197) dX11_line_192 (by decide) (fun hc71 => ?_) (fun hc71 => ?_)
            · have h := sat_f hc71 h
              refine ab_aloadn 0 dX11_line_197 rfl ?_
              refine f_gr (x := 7) (k2 := 10) (i2 := 0) (j2 := 3) ⟨by decide, by decide⟩ rfl rfl (Nat.le_of_ble_eq_true rfl) wd_370 rfl rfl dX11_line_198 ?_
              refine ab_bipush (v := 63) dX11_line_201 (by decide) ?_
              refine ab_aloadn 0 dX11_line_203 rfl ?_
              refine f_gr (x := 7) (k2 := 10) (i2 := 0) (j2 := 3) ⟨by decide, by decide⟩ rfl rfl (Nat.le_of_ble_eq_true rfl) wd_370 rfl rfl dX11_line_204 ?_
              refine ab_iconst (v := 3) dX11_line_207 (by decide) ?_
              refine fX_iald ⟨by decide, by decide⟩ rfl (fun _ => rfl) h dX11_line_208 (fun v72 h => ?_)
              refine ab_iadd dX11_line_209 ?_
              refine ab_aloadn 0 dX11_line_210 rfl ?_
              refine fX_gi (x := 18) ⟨by decide, by decide⟩ rfl rfl (Nat.le_of_ble_eq_true rfl) wd_384 rfl dX11_line_211 ?_
              refine fX_iast ⟨by decide, by decide⟩ rfl (fun _ => rfl) h dX11_line_214 (fun X73 h => ?_)
              refine ab_aloadn 0 dX11_line_215 rfl ?_
              refine f_gr (x := 7) (k2 := 10) (i2 := 0) (j2 := 3) ⟨by decide, by decide⟩ rfl rfl (Nat.le_of_ble_eq_true rfl) wd_370 rfl rfl dX11_line_216 ?_
              refine ab_iconst (v := 3) dX11_line_219 (by decide) ?_
              refine ab_dup2 dX11_line_220 rfl rfl ?_
              refine fX_iald ⟨by decide, by decide⟩ rfl (fun _ => rfl) h dX11_line_221 (fun v74 h => ?_)
              refine ab_iconst (v := 1) dX11_line_222 (by decide) ?_
              refine ab_iadd dX11_line_223 ?_
              refine fX_iast ⟨by decide, by decide⟩ rfl (fun _ => rfl) h dX11_line_224 (fun X75 h => ?_)
              refine ab_iconst (v := 1) dX11_line_225 (by decide) ?_
              exact fX_iret h rfl rfl dX11_line_226
            · have h := sat_t hc71 h
              refine ab_iconst (v := 0) dX11_line_195 (by decide) ?_
              exact fX_iret h rfl rfl dX11_line_196
          · have h := sat_t hc66 h
            refine ab_aloadn 0 dX11_line_178 rfl ?_
            refine ab_iconst (v := 4) dX11_line_179 (by decide) ?_
            refine fX_Vi (mtc := mt_X11_bad) (As := [.int 4]) h (fun Q h => ct_X11_bad 4 X11 h) ⟨by decide, by decide⟩ rfl rfl rfl mw_X11_bad wd_386 rfl rfl ⟨Nat.le_of_ble_eq_true rfl, Nat.le_of_ble_eq_true rfl⟩ ⟨Nat.zero_le _, Nat.zero_le _⟩ (Nat.le_of_ble_eq_true rfl) rfl dX11_line_180 (fun v76 X77 h => ?_)
            exact fX_iretb h rfl dX11_line_183
      · have h := sat_f hc9 h
        refine ab_aloadn 0 dX11_line_96 rfl ?_
        refine fX_Vv (mtc := mt_X11_next) (As := []) h (fun Q h => ct_X11_next N X8 h) ⟨by decide, by decide⟩ rfl rfl rfl mw_X11_next wd_369 rfl rfl ⟨Nat.le_of_ble_eq_true rfl, Nat.le_of_ble_eq_true rfl⟩ ⟨Nat.zero_le _, Nat.zero_le _⟩ (Nat.le_of_ble_eq_true rfl) rfl dX11_line_97 (fun v78 X79 h => ?_)
        refine ab_aloadn 0 dX11_line_100 rfl ?_
        refine ab_aloadn 0 dX11_line_101 rfl ?_
        refine fX_gi (x := 20) ⟨by decide, by decide⟩ rfl rfl (Nat.le_of_ble_eq_true rfl) wd_354 rfl dX11_line_102 ?_
        refine fX_Vi (mtc := mt_X11_takesOwner) (As := [.int (X79.1 0 20)]) h (fun Q h => ct_X11_takesOwner N (X79.1 0 20) X79 h) ⟨by decide, by decide⟩ rfl rfl rfl mw_X11_takesOwner wd_394 rfl rfl ⟨Nat.le_of_ble_eq_true rfl, Nat.le_of_ble_eq_true rfl⟩ ⟨Nat.zero_le _, Nat.zero_le _⟩ (Nat.le_of_ble_eq_true rfl) rfl dX11_line_105 (fun v80 X81 h => ?_)
        refine ab_if_ne (tgt := 113) dX11_line_108 (by decide) (fun hc82 => ?_) (fun hc82 => ?_)
        · have h := sat_f hc82 h
          refine ab_aloadn 0 dX11_line_113 rfl ?_
          refine fX_gi (x := 18) ⟨by decide, by decide⟩ rfl rfl (Nat.le_of_ble_eq_true rfl) wd_384 rfl dX11_line_114 ?_
          refine ab_istoren (lv' := [(0, .ref (gA G 10 0 0)), (1, .int (X81.1 0 18))]) dX11_line_117 rfl (Nat.le_of_ble_eq_true rfl) rfl ?_
          refine ab_aloadn 0 dX11_line_118 rfl ?_
          refine ab_dup dX11_line_119 rfl ?_
          refine fX_gi (x := 20) ⟨by decide, by decide⟩ rfl rfl (Nat.le_of_ble_eq_true rfl) wd_354 rfl dX11_line_120 ?_
          refine ab_iconst (v := 1) dX11_line_123 (by decide) ?_
          refine ab_iloadn 1 dX11_line_124 rfl ?_
          refine ab_ishl dX11_line_125 ?_
          refine ab_ior dX11_line_126 ?_
          refine fX_pi (x := 20) (ty := .int) ⟨by decide, by decide⟩ rfl rfl (Nat.le_of_ble_eq_true rfl) wd_354 rfl h rfl (by decide +kernel) rfl rfl dX11_line_127 (fun X83 h => ?_)
          refine ab_aloadn 0 dX11_line_130 rfl ?_
          refine ab_iconst (v := 0) dX11_line_131 (by decide) ?_
          refine ab_bipush (v := 7) dX11_line_132 (by decide) ?_
          refine fX_Vi (mtc := mt_X11_takes) (As := [.int 0, .int 7]) h (fun Q h => ct_X11_takes N 0 7 X83 h) ⟨by decide, by decide⟩ rfl rfl rfl mw_X11_takes wd_387 rfl rfl ⟨Nat.le_of_ble_eq_true rfl, Nat.le_of_ble_eq_true rfl⟩ ⟨Nat.zero_le _, Nat.zero_le _⟩ (Nat.le_of_ble_eq_true rfl) rfl dX11_line_134 (fun v84 X85 h => ?_)
          refine ab_if_ne (tgt := 142) dX11_line_137 (by decide) (fun hc86 => ?_) (fun hc86 => ?_)
          · have h := sat_f hc86 h
            refine ab_aloadn 0 dX11_line_142 rfl ?_
            refine f_gr (x := 7) (k2 := 10) (i2 := 0) (j2 := 3) ⟨by decide, by decide⟩ rfl rfl (Nat.le_of_ble_eq_true rfl) wd_370 rfl rfl dX11_line_143 ?_
            refine ab_bipush (v := 39) dX11_line_146 (by decide) ?_
            refine ab_iloadn 1 dX11_line_148 rfl ?_
            refine ab_iadd dX11_line_149 ?_
            refine ab_aloadn 0 dX11_line_150 rfl ?_
            refine fX_gi (x := 18) ⟨by decide, by decide⟩ rfl rfl (Nat.le_of_ble_eq_true rfl) wd_384 rfl dX11_line_151 ?_
            refine fX_iast ⟨by decide, by decide⟩ rfl (fun _ => rfl) h dX11_line_154 (fun X87 h => ?_)
            refine ab_iconst (v := 1) dX11_line_155 (by decide) ?_
            exact fX_iret h rfl rfl dX11_line_156
          · have h := sat_t hc86 h
            refine ab_iconst (v := 0) dX11_line_140 (by decide) ?_
            exact fX_iret h rfl rfl dX11_line_141
        · have h := sat_t hc82 h
          refine ab_iconst (v := 0) dX11_line_111 (by decide) ?_
          exact fX_iret h rfl rfl dX11_line_112
    · have h := sat_f hc6 h
      refine ab_aloadn 0 dX11_line_81 rfl ?_
      refine fX_Vi (mtc := mt_X11_readOwner) (As := []) h (fun Q h => ct_X11_readOwner N X5 h) ⟨by decide, by decide⟩ rfl rfl rfl mw_X11_readOwner wd_402 rfl rfl ⟨Nat.le_of_ble_eq_true rfl, Nat.le_of_ble_eq_true rfl⟩ ⟨Nat.zero_le _, Nat.zero_le _⟩ (Nat.le_of_ble_eq_true rfl) rfl dX11_line_82 (fun v88 X89 h => ?_)
      exact fX_iretb h rfl dX11_line_85
  · have h := sat_f hc3 h
    refine ab_aloadn 0 dX11_line_10 rfl ?_
    refine fX_gi (x := 23) ⟨by decide, by decide⟩ rfl rfl (Nat.le_of_ble_eq_true rfl) wd_357 rfl dX11_line_11 ?_
    refine ab_if_eq (tgt := 23) dX11_line_14 (by decide) (fun hc90 => ?_) (fun hc90 => ?_)
    · have h := sat_t hc90 h
      refine ab_aloadn 0 dX11_line_23 rfl ?_
      refine ab_iconst (v := 1) dX11_line_24 (by decide) ?_
      refine fX_pi (x := 23) (ty := .boolean) ⟨by decide, by decide⟩ rfl rfl (Nat.le_of_ble_eq_true rfl) wd_357 rfl h rfl (by decide +kernel) rfl rfl dX11_line_25 (fun X91 h => ?_)
      refine ab_aloadn 0 dX11_line_28 rfl ?_
      refine fX_Vv (mtc := mt_X11_next) (As := []) h (fun Q h => ct_X11_next N X91 h) ⟨by decide, by decide⟩ rfl rfl rfl mw_X11_next wd_369 rfl rfl ⟨Nat.le_of_ble_eq_true rfl, Nat.le_of_ble_eq_true rfl⟩ ⟨Nat.zero_le _, Nat.zero_le _⟩ (Nat.le_of_ble_eq_true rfl) rfl dX11_line_29 (fun v92 X93 h => ?_)
      refine ab_iconst (v := 0) dX11_line_32 (by decide) ?_
      refine ab_istoren (lv' := [(0, .ref (gA G 10 0 0)), (1, .int 0)]) dX11_line_33 rfl (Nat.le_of_ble_eq_true rfl) rfl ?_
      exact t_X11_line_34 N N 0 X93 h
    · have h := sat_f hc90 h
      refine ab_aloadn 0 dX11_line_17 rfl ?_
      refine ab_iconst (v := 3) dX11_line_18 (by decide) ?_
      refine fX_Vi (mtc := mt_X11_bad) (As := [.int 3]) h (fun Q h => ct_X11_bad 3 X2 h) ⟨by decide, by decide⟩ rfl rfl rfl mw_X11_bad wd_386 rfl rfl ⟨Nat.le_of_ble_eq_true rfl, Nat.le_of_ble_eq_true rfl⟩ ⟨Nat.zero_le _, Nat.zero_le _⟩ (Nat.le_of_ble_eq_true rfl) rfl dX11_line_19 (fun v94 X95 h => ?_)
      exact fX_iretb h rfl dX11_line_22
theorem ct_X11_line {l : Launch} {G : GX} {C : CM} {Q : Int32 → Mem → Prop} (N : Nat) (X : XM) (h : SAT (f_X11_line N X) (fun v c => Q v (C, c))) : CT l G 7 mt_X11_line [.ref (gA G 10 0 0)] (C, X) Q := ct_of pn_X11 (Nat.le_of_ble_eq_true rfl) (t_X11_line_0 N X h)
def f_X11_isSign (a1 : Int32) (X : XM) : Option (Int32 × XM) := (if (X.1 0 11) = 3 then (if (X.1 0 14) = a1 then (rt 1 X) else (rt 0 X)) else (rt 0 X))
set_option maxRecDepth 8000 in
theorem t_X11_isSign_0 {l : Launch} {G : GX} {C : CM} {Q : Int32 → Mem → Prop} (a1 : Int32) (X : XM) (h : SAT (f_X11_isSign a1 X) (fun v c => Q v (C, c))) : AB l G (rmD 1) 0 0 mt_X11_isSign (ZQ G mt_X11_isSign Q) 0 [(0, .ref (gA G 10 0 0)), (1, .int a1)] [] (C, X) := by
  unfold f_X11_isSign at h
  refine ab_aloadn 0 dX11_isSign_0 rfl ?_
  refine fX_gi (x := 11) ⟨by decide, by decide⟩ rfl rfl (Nat.le_of_ble_eq_true rfl) wd_362 rfl dX11_isSign_1 ?_
  refine ab_iconst (v := 3) dX11_isSign_4 (by decide) ?_
  refine ab_icmp_ne (tgt := 20) dX11_isSign_5 (by decide) (fun hc1 => ?_) (fun hc1 => ?_)
  · have h := sat_f hc1 h
    refine ab_iconst (v := 0) dX11_isSign_20 (by decide) ?_
    exact fX_iret h rfl rfl dX11_isSign_21
  · have h := sat_t hc1 h
    refine ab_aloadn 0 dX11_isSign_8 rfl ?_
    refine fX_gi (x := 14) ⟨by decide, by decide⟩ rfl rfl (Nat.le_of_ble_eq_true rfl) wd_367 rfl dX11_isSign_9 ?_
    refine ab_iloadn 1 dX11_isSign_12 rfl ?_
    refine ab_icmp_ne (tgt := 20) dX11_isSign_13 (by decide) (fun hc2 => ?_) (fun hc2 => ?_)
    · have h := sat_f hc2 h
      refine ab_iconst (v := 0) dX11_isSign_20 (by decide) ?_
      exact fX_iret h rfl rfl dX11_isSign_21
    · have h := sat_t hc2 h
      refine ab_iconst (v := 1) dX11_isSign_16 (by decide) ?_
      refine ab_goto (tgt := 21) dX11_isSign_17 (by decide) ?_
      exact fX_iret h rfl rfl dX11_isSign_21
theorem ct_X11_isSign {l : Launch} {G : GX} {C : CM} {Q : Int32 → Mem → Prop} (a1 : Int32) (X : XM) (h : SAT (f_X11_isSign a1 X) (fun v c => Q v (C, c))) : CT l G 1 mt_X11_isSign [.ref (gA G 10 0 0), .int a1] (C, X) Q := ct_of pn_X11 (Nat.le_of_ble_eq_true rfl) (t_X11_isSign_0 a1 X h)
def f_X11_sign (N : Nat) (a1 : Int32) (X : XM) : Option (Int32 × XM) := cal (f_X11_isSign a1 X) (fun v1 X2 => (if v1 = 0 then cal (f_X11_bad 1 X2) (fun v6 X7 => (chk (isB v6) (rt v6 X7))) else cal (f_X11_next N X2) (fun v4 X5 => (rt 1 X5))))
set_option maxRecDepth 8000 in
theorem t_X11_sign_0 {l : Launch} {G : GX} {C : CM} {Q : Int32 → Mem → Prop} (N : Nat) (a1 : Int32) (X : XM) (h : SAT (f_X11_sign N a1 X) (fun v c => Q v (C, c))) : AB l G (rmD 3) 0 0 mt_X11_sign (ZQ G mt_X11_sign Q) 0 [(0, .ref (gA G 10 0 0)), (1, .int a1)] [] (C, X) := by
  unfold f_X11_sign at h
  refine ab_aloadn 0 dX11_sign_0 rfl ?_
  refine ab_iloadn 1 dX11_sign_1 rfl ?_
  refine fX_Vi (mtc := mt_X11_isSign) (As := [.int a1]) h (fun Q h => ct_X11_isSign a1 X h) ⟨by decide, by decide⟩ rfl rfl rfl mw_X11_isSign wd_404 rfl rfl ⟨Nat.le_of_ble_eq_true rfl, Nat.le_of_ble_eq_true rfl⟩ ⟨Nat.zero_le _, Nat.zero_le _⟩ (Nat.le_of_ble_eq_true rfl) rfl dX11_sign_2 (fun v1 X2 h => ?_)
  refine ab_if_ne (tgt := 14) dX11_sign_5 (by decide) (fun hc3 => ?_) (fun hc3 => ?_)
  · have h := sat_f hc3 h
    refine ab_aloadn 0 dX11_sign_14 rfl ?_
    refine fX_Vv (mtc := mt_X11_next) (As := []) h (fun Q h => ct_X11_next N X2 h) ⟨by decide, by decide⟩ rfl rfl rfl mw_X11_next wd_369 rfl rfl ⟨Nat.le_of_ble_eq_true rfl, Nat.le_of_ble_eq_true rfl⟩ ⟨Nat.zero_le _, Nat.zero_le _⟩ (Nat.le_of_ble_eq_true rfl) rfl dX11_sign_15 (fun v4 X5 h => ?_)
    refine ab_iconst (v := 1) dX11_sign_18 (by decide) ?_
    exact fX_iret h rfl rfl dX11_sign_19
  · have h := sat_t hc3 h
    refine ab_aloadn 0 dX11_sign_8 rfl ?_
    refine ab_iconst (v := 1) dX11_sign_9 (by decide) ?_
    refine fX_Vi (mtc := mt_X11_bad) (As := [.int 1]) h (fun Q h => ct_X11_bad 1 X2 h) ⟨by decide, by decide⟩ rfl rfl rfl mw_X11_bad wd_386 rfl rfl ⟨Nat.le_of_ble_eq_true rfl, Nat.le_of_ble_eq_true rfl⟩ ⟨Nat.zero_le _, Nat.zero_le _⟩ (Nat.le_of_ble_eq_true rfl) rfl dX11_sign_10 (fun v6 X7 h => ?_)
    exact fX_iretb h rfl dX11_sign_13
theorem ct_X11_sign {l : Launch} {G : GX} {C : CM} {Q : Int32 → Mem → Prop} (N : Nat) (a1 : Int32) (X : XM) (h : SAT (f_X11_sign N a1 X) (fun v c => Q v (C, c))) : CT l G 3 mt_X11_sign [.ref (gA G 10 0 0), .int a1] (C, X) Q := ct_of pn_X11 (Nat.le_of_ble_eq_true rfl) (t_X11_sign_0 N a1 X h)
def f_X11_begins_132 (N : Nat) : Nat → Int32 → XM → Option (Int32 × XM)
  | 0, _, _ => none
  | n + 1, a1, X => (if 100 ≤ a1 then (rt 0 X) else ldA (X.1 2) 845 (271 + a1) (fun v2 => sxA X 2 845 (441 + a1) v2 (fun X3 => (f_X11_begins_132 N n (a1 + 1) X3))))
def f_X11_begins_103 (N : Nat) : Nat → Int32 → XM → Option (Int32 × XM)
  | 0, _, _ => none
  | n + 1, a1, X => ldA (X.1 2) 845 3 (fun v1 => (if v1 ≤ a1 then (f_X11_begins_132 N N 0 X) else sxA X 2 845 (429 + a1) 1 (fun X3 => (f_X11_begins_103 N n (a1 + 1) X3))))
def f_X11_begins_28 (N : Nat) : Nat → Int32 → XM → Option (Int32 × XM)
  | 0, _, _ => none
  | n + 1, a1, X => ldA (X.1 2) 845 2 (fun v1 => (if v1 ≤ a1 then (f_X11_begins_103 N N 0 X) else ldA (X.1 2) 845 (15 + a1) (fun v3 => sxA X 2 845 (373 + a1) v3 (fun X4 => ldA (X4.1 2) 845 (31 + a1) (fun v5 => sxA X4 2 845 (389 + a1) v5 (fun X6 => ldA (X6.1 2) 845 (39 + a1) (fun v7 => sxA X6 2 845 (397 + a1) v7 (fun X8 => (f_X11_begins_28 N n (a1 + 1) X8)))))))))
def f_X11_begins_2 (N : Nat) : Nat → Int32 → XM → Option (Int32 × XM)
  | 0, _, _ => none
  | n + 1, a1, X => (if 172 ≤ a1 then (f_X11_begins_28 N N 0 X) else sxA X 2 845 (371 + a1) 0 (fun X2 => (f_X11_begins_2 N n (a1 + 1) X2)))
def f_X11_begins (N : Nat) (X : XM) : Option (Int32 × XM) := (f_X11_begins_2 N N 0 X)
set_option maxRecDepth 8000 in
theorem t_X11_begins_132 {l : Launch} {G : GX} {C : CM} {Q : Int32 → Mem → Prop} (N : Nat) : ∀ (n : Nat) (a1 : Int32) (X : XM), SAT (f_X11_begins_132 N n a1 X) (fun v c => Q v (C, c)) → AB l G (rmD 1) 0 0 mt_X11_begins (ZQ G mt_X11_begins Q) 132 [(0, .ref (gA G 10 0 0)), (1, .int a1)] [] (C, X) := by
  intro n
  induction n with
  | zero => intro a1 X h; exact h.elim
  | succ n ih =>
    intro a1 X h
    rw [f_X11_begins_132] at h
    refine ab_iloadn 1 dX11_begins_132 rfl ?_
    refine ab_bipush (v := 100) dX11_begins_133 (by decide) ?_
    refine ab_icmp_ge (tgt := 164) dX11_begins_135 (by decide) (fun hc1 => ?_) (fun hc1 => ?_)
    · have h := sat_t hc1 h
      exact fX_vret h rfl dX11_begins_164
    · have h := sat_f hc1 h
      refine ab_aloadn 0 dX11_begins_138 rfl ?_
      refine f_gr (x := 6) (k2 := 10) (i2 := 0) (j2 := 2) ⟨by decide, by decide⟩ rfl rfl (Nat.le_of_ble_eq_true rfl) wd_406 rfl rfl dX11_begins_139 ?_
      refine ab_sipush (v := 441) dX11_begins_142 (by decide) ?_
      refine ab_iloadn 1 dX11_begins_145 rfl ?_
      refine ab_iadd dX11_begins_146 ?_
      refine ab_aloadn 0 dX11_begins_147 rfl ?_
      refine f_gr (x := 6) (k2 := 10) (i2 := 0) (j2 := 2) ⟨by decide, by decide⟩ rfl rfl (Nat.le_of_ble_eq_true rfl) wd_406 rfl rfl dX11_begins_148 ?_
      refine ab_sipush (v := 271) dX11_begins_151 (by decide) ?_
      refine ab_iloadn 1 dX11_begins_154 rfl ?_
      refine ab_iadd dX11_begins_155 ?_
      refine fX_iald ⟨by decide, by decide⟩ rfl (fun _ => rfl) h dX11_begins_156 (fun v2 h => ?_)
      refine fX_iast ⟨by decide, by decide⟩ rfl (fun _ => rfl) h dX11_begins_157 (fun X3 h => ?_)
      refine ab_iinc (q := 1) (v := (a1 + 1)) (lv' := [(0, .ref (gA G 10 0 0)), (1, .int (a1 + 1))]) dX11_begins_158 rfl rfl rfl (Nat.le_of_ble_eq_true rfl) rfl ?_
      refine ab_goto (tgt := 132) dX11_begins_161 (by decide) ?_
      exact ih (a1 + 1) X3 h
set_option maxRecDepth 8000 in
theorem t_X11_begins_103 {l : Launch} {G : GX} {C : CM} {Q : Int32 → Mem → Prop} (N : Nat) : ∀ (n : Nat) (a1 : Int32) (X : XM), SAT (f_X11_begins_103 N n a1 X) (fun v c => Q v (C, c)) → AB l G (rmD 1) 0 0 mt_X11_begins (ZQ G mt_X11_begins Q) 103 [(0, .ref (gA G 10 0 0)), (1, .int a1)] [] (C, X) := by
  intro n
  induction n with
  | zero => intro a1 X h; exact h.elim
  | succ n ih =>
    intro a1 X h
    rw [f_X11_begins_103] at h
    refine ab_iloadn 1 dX11_begins_103 rfl ?_
    refine ab_aloadn 0 dX11_begins_104 rfl ?_
    refine f_gr (x := 6) (k2 := 10) (i2 := 0) (j2 := 2) ⟨by decide, by decide⟩ rfl rfl (Nat.le_of_ble_eq_true rfl) wd_406 rfl rfl dX11_begins_105 ?_
    refine ab_iconst (v := 3) dX11_begins_108 (by decide) ?_
    refine fX_iald ⟨by decide, by decide⟩ rfl (fun _ => rfl) h dX11_begins_109 (fun v1 h => ?_)
    refine ab_icmp_ge (tgt := 130) dX11_begins_110 (by decide) (fun hc2 => ?_) (fun hc2 => ?_)
    · have h := sat_t hc2 h
      refine ab_iconst (v := 0) dX11_begins_130 (by decide) ?_
      refine ab_istoren (lv' := [(0, .ref (gA G 10 0 0)), (1, .int 0)]) dX11_begins_131 rfl (Nat.le_of_ble_eq_true rfl) rfl ?_
      exact t_X11_begins_132 N N 0 X h
    · have h := sat_f hc2 h
      refine ab_aloadn 0 dX11_begins_113 rfl ?_
      refine f_gr (x := 6) (k2 := 10) (i2 := 0) (j2 := 2) ⟨by decide, by decide⟩ rfl rfl (Nat.le_of_ble_eq_true rfl) wd_406 rfl rfl dX11_begins_114 ?_
      refine ab_sipush (v := 429) dX11_begins_117 (by decide) ?_
      refine ab_iloadn 1 dX11_begins_120 rfl ?_
      refine ab_iadd dX11_begins_121 ?_
      refine ab_iconst (v := 1) dX11_begins_122 (by decide) ?_
      refine fX_iast ⟨by decide, by decide⟩ rfl (fun _ => rfl) h dX11_begins_123 (fun X3 h => ?_)
      refine ab_iinc (q := 1) (v := (a1 + 1)) (lv' := [(0, .ref (gA G 10 0 0)), (1, .int (a1 + 1))]) dX11_begins_124 rfl rfl rfl (Nat.le_of_ble_eq_true rfl) rfl ?_
      refine ab_goto (tgt := 103) dX11_begins_127 (by decide) ?_
      exact ih (a1 + 1) X3 h
set_option maxRecDepth 8000 in
theorem t_X11_begins_28 {l : Launch} {G : GX} {C : CM} {Q : Int32 → Mem → Prop} (N : Nat) : ∀ (n : Nat) (a1 : Int32) (X : XM), SAT (f_X11_begins_28 N n a1 X) (fun v c => Q v (C, c)) → AB l G (rmD 1) 0 0 mt_X11_begins (ZQ G mt_X11_begins Q) 28 [(0, .ref (gA G 10 0 0)), (1, .int a1)] [] (C, X) := by
  intro n
  induction n with
  | zero => intro a1 X h; exact h.elim
  | succ n ih =>
    intro a1 X h
    rw [f_X11_begins_28] at h
    refine ab_iloadn 1 dX11_begins_28 rfl ?_
    refine ab_aloadn 0 dX11_begins_29 rfl ?_
    refine f_gr (x := 6) (k2 := 10) (i2 := 0) (j2 := 2) ⟨by decide, by decide⟩ rfl rfl (Nat.le_of_ble_eq_true rfl) wd_406 rfl rfl dX11_begins_30 ?_
    refine ab_iconst (v := 2) dX11_begins_33 (by decide) ?_
    refine fX_iald ⟨by decide, by decide⟩ rfl (fun _ => rfl) h dX11_begins_34 (fun v1 h => ?_)
    refine ab_icmp_ge (tgt := 101) dX11_begins_35 (by decide) (fun hc2 => ?_) (fun hc2 => ?_)
    · have h := sat_t hc2 h
      refine ab_iconst (v := 0) dX11_begins_101 (by decide) ?_
      refine ab_istoren (lv' := [(0, .ref (gA G 10 0 0)), (1, .int 0)]) dX11_begins_102 rfl (Nat.le_of_ble_eq_true rfl) rfl ?_
      exact t_X11_begins_103 N N 0 X h
    · have h := sat_f hc2 h
      refine ab_aloadn 0 dX11_begins_38 rfl ?_
      refine f_gr (x := 6) (k2 := 10) (i2 := 0) (j2 := 2) ⟨by decide, by decide⟩ rfl rfl (Nat.le_of_ble_eq_true rfl) wd_406 rfl rfl dX11_begins_39 ?_
      refine ab_sipush (v := 373) dX11_begins_42 (by decide) ?_
      refine ab_iloadn 1 dX11_begins_45 rfl ?_
      refine ab_iadd dX11_begins_46 ?_
      refine ab_aloadn 0 dX11_begins_47 rfl ?_
      refine f_gr (x := 6) (k2 := 10) (i2 := 0) (j2 := 2) ⟨by decide, by decide⟩ rfl rfl (Nat.le_of_ble_eq_true rfl) wd_406 rfl rfl dX11_begins_48 ?_
      refine ab_bipush (v := 15) dX11_begins_51 (by decide) ?_
      refine ab_iloadn 1 dX11_begins_53 rfl ?_
      refine ab_iadd dX11_begins_54 ?_
      refine fX_iald ⟨by decide, by decide⟩ rfl (fun _ => rfl) h dX11_begins_55 (fun v3 h => ?_)
      refine fX_iast ⟨by decide, by decide⟩ rfl (fun _ => rfl) h dX11_begins_56 (fun X4 h => ?_)
      refine ab_aloadn 0 dX11_begins_57 rfl ?_
      refine f_gr (x := 6) (k2 := 10) (i2 := 0) (j2 := 2) ⟨by decide, by decide⟩ rfl rfl (Nat.le_of_ble_eq_true rfl) wd_406 rfl rfl dX11_begins_58 ?_
      refine ab_sipush (v := 389) dX11_begins_61 (by decide) ?_
      refine ab_iloadn 1 dX11_begins_64 rfl ?_
      refine ab_iadd dX11_begins_65 ?_
      refine ab_aloadn 0 dX11_begins_66 rfl ?_
      refine f_gr (x := 6) (k2 := 10) (i2 := 0) (j2 := 2) ⟨by decide, by decide⟩ rfl rfl (Nat.le_of_ble_eq_true rfl) wd_406 rfl rfl dX11_begins_67 ?_
      refine ab_bipush (v := 31) dX11_begins_70 (by decide) ?_
      refine ab_iloadn 1 dX11_begins_72 rfl ?_
      refine ab_iadd dX11_begins_73 ?_
      refine fX_iald ⟨by decide, by decide⟩ rfl (fun _ => rfl) h dX11_begins_74 (fun v5 h => ?_)
      refine fX_iast ⟨by decide, by decide⟩ rfl (fun _ => rfl) h dX11_begins_75 (fun X6 h => ?_)
      refine ab_aloadn 0 dX11_begins_76 rfl ?_
      refine f_gr (x := 6) (k2 := 10) (i2 := 0) (j2 := 2) ⟨by decide, by decide⟩ rfl rfl (Nat.le_of_ble_eq_true rfl) wd_406 rfl rfl dX11_begins_77 ?_
      refine ab_sipush (v := 397) dX11_begins_80 (by decide) ?_
      refine ab_iloadn 1 dX11_begins_83 rfl ?_
      refine ab_iadd dX11_begins_84 ?_
      refine ab_aloadn 0 dX11_begins_85 rfl ?_
      refine f_gr (x := 6) (k2 := 10) (i2 := 0) (j2 := 2) ⟨by decide, by decide⟩ rfl rfl (Nat.le_of_ble_eq_true rfl) wd_406 rfl rfl dX11_begins_86 ?_
      refine ab_bipush (v := 39) dX11_begins_89 (by decide) ?_
      refine ab_iloadn 1 dX11_begins_91 rfl ?_
      refine ab_iadd dX11_begins_92 ?_
      refine fX_iald ⟨by decide, by decide⟩ rfl (fun _ => rfl) h dX11_begins_93 (fun v7 h => ?_)
      refine fX_iast ⟨by decide, by decide⟩ rfl (fun _ => rfl) h dX11_begins_94 (fun X8 h => ?_)
      refine ab_iinc (q := 1) (v := (a1 + 1)) (lv' := [(0, .ref (gA G 10 0 0)), (1, .int (a1 + 1))]) dX11_begins_95 rfl rfl rfl (Nat.le_of_ble_eq_true rfl) rfl ?_
      refine ab_goto (tgt := 28) dX11_begins_98 (by decide) ?_
      exact ih (a1 + 1) X8 h
set_option maxRecDepth 8000 in
theorem t_X11_begins_2 {l : Launch} {G : GX} {C : CM} {Q : Int32 → Mem → Prop} (N : Nat) : ∀ (n : Nat) (a1 : Int32) (X : XM), SAT (f_X11_begins_2 N n a1 X) (fun v c => Q v (C, c)) → AB l G (rmD 1) 0 0 mt_X11_begins (ZQ G mt_X11_begins Q) 2 [(0, .ref (gA G 10 0 0)), (1, .int a1)] [] (C, X) := by
  intro n
  induction n with
  | zero => intro a1 X h; exact h.elim
  | succ n ih =>
    intro a1 X h
    rw [f_X11_begins_2] at h
    refine ab_iloadn 1 dX11_begins_2 rfl ?_
    refine ab_sipush (v := 172) dX11_begins_3 (by decide) ?_
    refine ab_icmp_ge (tgt := 26) dX11_begins_6 (by decide) (fun hc1 => ?_) (fun hc1 => ?_)
    · have h := sat_t hc1 h
      refine ab_iconst (v := 0) dX11_begins_26 (by decide) ?_
      refine ab_istoren (lv' := [(0, .ref (gA G 10 0 0)), (1, .int 0)]) dX11_begins_27 rfl (Nat.le_of_ble_eq_true rfl) rfl ?_
      exact t_X11_begins_28 N N 0 X h
    · have h := sat_f hc1 h
      refine ab_aloadn 0 dX11_begins_9 rfl ?_
      refine f_gr (x := 6) (k2 := 10) (i2 := 0) (j2 := 2) ⟨by decide, by decide⟩ rfl rfl (Nat.le_of_ble_eq_true rfl) wd_406 rfl rfl dX11_begins_10 ?_
      refine ab_sipush (v := 371) dX11_begins_13 (by decide) ?_
      refine ab_iloadn 1 dX11_begins_16 rfl ?_
      refine ab_iadd dX11_begins_17 ?_
      refine ab_iconst (v := 0) dX11_begins_18 (by decide) ?_
      refine fX_iast ⟨by decide, by decide⟩ rfl (fun _ => rfl) h dX11_begins_19 (fun X2 h => ?_)
      refine ab_iinc (q := 1) (v := (a1 + 1)) (lv' := [(0, .ref (gA G 10 0 0)), (1, .int (a1 + 1))]) dX11_begins_20 rfl rfl rfl (Nat.le_of_ble_eq_true rfl) rfl ?_
      refine ab_goto (tgt := 2) dX11_begins_23 (by decide) ?_
      exact ih (a1 + 1) X2 h
set_option maxRecDepth 8000 in
theorem t_X11_begins_0 {l : Launch} {G : GX} {C : CM} {Q : Int32 → Mem → Prop} (N : Nat) (X : XM) (h : SAT (f_X11_begins N X) (fun v c => Q v (C, c))) : AB l G (rmD 1) 0 0 mt_X11_begins (ZQ G mt_X11_begins Q) 0 [(0, .ref (gA G 10 0 0))] [] (C, X) := by
  unfold f_X11_begins at h
  refine ab_iconst (v := 0) dX11_begins_0 (by decide) ?_
  refine ab_istoren (lv' := [(0, .ref (gA G 10 0 0)), (1, .int 0)]) dX11_begins_1 rfl (Nat.le_of_ble_eq_true rfl) rfl ?_
  exact t_X11_begins_2 N N 0 X h
theorem ct_X11_begins {l : Launch} {G : GX} {C : CM} {Q : Int32 → Mem → Prop} (N : Nat) (X : XM) (h : SAT (f_X11_begins N X) (fun v c => Q v (C, c))) : CT l G 1 mt_X11_begins [.ref (gA G 10 0 0)] (C, X) Q := ct_of pn_X11 (Nat.le_of_ble_eq_true rfl) (t_X11_begins_0 N X h)
def f_X11_bank_156 (N : Nat) : Nat → Int32 → XM → Option (Int32 × XM)
  | 0, _, _ => none
  | n + 1, a1, X => (if 8 ≤ a1 then cal (f_X11_begins N X) (fun v2 X3 => bnd (stX X3 0 33 0) (fun X4 => (rt (X4.1 0 19) X4))) else ldL (X.2 5) 16 (8 + a1) (fun v5 => slA X 5 16 a1 v5 (fun X6 => (f_X11_bank_156 N n (a1 + 1) X6))))
def f_X11_bank_147 (N : Nat) (k118 : Int32 → XM → Option (Int32 × XM)) (a1 : Int32) (as0 : Int32) (as1 : Int32) (X : XM) : Option (Int32 × XM) := sxA X 2 845 as1 as0 (fun X1 => (k118 (a1 + 1) X1))
def f_X11_bank_118 (N : Nat) : Nat → Int32 → XM → Option (Int32 × XM)
  | 0, _, _ => none
  | n + 1, a1, X => (if 845 ≤ a1 then (f_X11_bank_156 N N 0 X) else (if 371 ≤ a1 then (f_X11_bank_147 N (fun z1 c => f_X11_bank_118 N n z1 c) a1 0 a1 X) else ldA (X.1 3) 371 a1 (fun v3 => (f_X11_bank_147 N (fun z1 c => f_X11_bank_118 N n z1 c) a1 v3 a1 X))))
def f_X11_bank_96 (N : Nat) (X : XM) : Option (Int32 × XM) := (rt ((-1) - (X.1 0 16)) X)
def f_X11_bank_73 (N : Nat) : Nat → XM → Option (Int32 × XM)
  | 0, _ => none
  | n + 1, X => (if (X.1 0 11) = 0 then (f_X11_bank_118 N N 0 X) else cal (f_X11_line N X) (fun v2 X3 => (if v2 = 0 then (f_X11_bank_96 N X3) else cal (f_X11_sign N 59 X3) (fun v5 X6 => (if v5 = 0 then (f_X11_bank_96 N X6) else bnd (stX X6 0 19 ((X6.1 0 19) + 1)) (fun X8 => (f_X11_bank_73 N n X8)))))))
def f_X11_bank_49 (N : Nat) : Nat → Int32 → XM → Option (Int32 × XM)
  | 0, _, _ => none
  | n + 1, a1, X => (if 371 ≤ a1 then cal (f_X11_next N X) (fun v2 X3 => (f_X11_bank_73 N N X3)) else sxA X 3 371 a1 0 (fun X4 => (f_X11_bank_49 N n (a1 + 1) X4)))
def f_X11_bank (N : Nat) (X : XM) : Option (Int32 × XM) := bnd (stX X 0 0 0) (fun X1 => cal (f_X11_taken 900 X1) (fun v2 X3 => bnd (stX X3 0 15 0) (fun X4 => bnd (stX X4 0 19 0) (fun X5 => bnd (stX X5 0 20 0) (fun X6 => bnd (stX X6 0 21 0) (fun X7 => bnd (stX X7 0 22 0) (fun X8 => bnd (stX X8 0 23 0) (fun X9 => bnd (stX X9 0 24 0) (fun X10 => (f_X11_bank_49 N N 0 X10))))))))))
set_option maxRecDepth 8000 in
theorem t_X11_bank_156 {l : Launch} {G : GX} {C : CM} {Q : Int32 → Mem → Prop} (N : Nat) : ∀ (n : Nat) (a1 : Int32) (X : XM), SAT (f_X11_bank_156 N n a1 X) (fun v c => Q v (C, c)) → AB l G (rmD 8) 0 0 mt_X11_bank (ZQ G mt_X11_bank Q) 156 [(0, .ref (gA G 10 0 0)), (1, .int a1)] [] (C, X) := by
  intro n
  induction n with
  | zero => intro a1 X h; exact h.elim
  | succ n ih =>
    intro a1 X h
    rw [f_X11_bank_156] at h
    refine ab_iloadn 1 dX11_bank_156 rfl ?_
    refine ab_bipush (v := 8) dX11_bank_157 (by decide) ?_
    refine ab_icmp_ge (tgt := 183) dX11_bank_159 (by decide) (fun hc1 => ?_) (fun hc1 => ?_)
    · have h := sat_t hc1 h
      refine ab_aloadn 0 dX11_bank_183 rfl ?_
      refine fX_Vv (mtc := mt_X11_begins) (As := []) h (fun Q h => ct_X11_begins N X h) ⟨by decide, by decide⟩ rfl rfl rfl mw_X11_begins wd_407 rfl rfl ⟨Nat.le_of_ble_eq_true rfl, Nat.le_of_ble_eq_true rfl⟩ ⟨Nat.zero_le _, Nat.zero_le _⟩ (Nat.le_of_ble_eq_true rfl) rfl dX11_bank_184 (fun v2 X3 h => ?_)
      refine ab_aloadn 0 dX11_bank_187 rfl ?_
      refine ab_iconst (v := 0) dX11_bank_188 (by decide) ?_
      refine fX_pi (x := 33) (ty := .int) ⟨by decide, by decide⟩ rfl rfl (Nat.le_of_ble_eq_true rfl) wd_408 rfl h rfl (by decide +kernel) rfl rfl dX11_bank_189 (fun X4 h => ?_)
      refine ab_aloadn 0 dX11_bank_192 rfl ?_
      refine fX_gi (x := 19) ⟨by decide, by decide⟩ rfl rfl (Nat.le_of_ble_eq_true rfl) wd_353 rfl dX11_bank_193 ?_
      exact fX_iret h rfl rfl dX11_bank_196
    · have h := sat_f hc1 h
      refine ab_aloadn 0 dX11_bank_162 rfl ?_
      refine f_gr (x := 9) (k2 := 10) (i2 := 0) (j2 := 5) ⟨by decide, by decide⟩ rfl rfl (Nat.le_of_ble_eq_true rfl) wd_390 rfl rfl dX11_bank_163 ?_
      refine ab_iloadn 1 dX11_bank_166 rfl ?_
      refine ab_aloadn 0 dX11_bank_167 rfl ?_
      refine f_gr (x := 9) (k2 := 10) (i2 := 0) (j2 := 5) ⟨by decide, by decide⟩ rfl rfl (Nat.le_of_ble_eq_true rfl) wd_390 rfl rfl dX11_bank_168 ?_
      refine ab_bipush (v := 8) dX11_bank_171 (by decide) ?_
      refine ab_iloadn 1 dX11_bank_173 rfl ?_
      refine ab_iadd dX11_bank_174 ?_
      refine fX_lald ⟨by decide, by decide⟩ rfl (fun _ => rfl) h dX11_bank_175 (fun v5 h => ?_)
      refine fX_last ⟨by decide, by decide⟩ rfl (by decide) (fun _ => rfl) h dX11_bank_176 (fun X6 h => ?_)
      refine ab_iinc (q := 1) (v := (a1 + 1)) (lv' := [(0, .ref (gA G 10 0 0)), (1, .int (a1 + 1))]) dX11_bank_177 rfl rfl rfl (Nat.le_of_ble_eq_true rfl) rfl ?_
      refine ab_goto (tgt := 156) dX11_bank_180 (by decide) ?_
      exact ih (a1 + 1) X6 h
set_option maxRecDepth 8000 in
theorem t_X11_bank_147 {l : Launch} {G : GX} {C : CM} {Q : Int32 → Mem → Prop} (N : Nat) (k118 : Int32 → XM → Option (Int32 × XM)) (a1 : Int32) (as0 : Int32) (as1 : Int32) (hk118 : ∀ (ac1 : Int32) (X : XM), SAT (k118 ac1 X) (fun v c => Q v (C, c)) → AB l G (rmD 8) 0 0 mt_X11_bank (ZQ G mt_X11_bank Q) 118 [(0, .ref (gA G 10 0 0)), (1, .int ac1)] [] (C, X)) (X : XM) (h : SAT (f_X11_bank_147 N k118 a1 as0 as1 X) (fun v c => Q v (C, c))) : AB l G (rmD 8) 0 0 mt_X11_bank (ZQ G mt_X11_bank Q) 147 [(0, .ref (gA G 10 0 0)), (1, .int a1)] [.int as0, .int as1, .ref (gA G 10 0 2)] (C, X) := by
  unfold f_X11_bank_147 at h
  refine fX_iast ⟨by decide, by decide⟩ rfl (fun _ => rfl) h dX11_bank_147 (fun X1 h => ?_)
  refine ab_iinc (q := 1) (v := (a1 + 1)) (lv' := [(0, .ref (gA G 10 0 0)), (1, .int (a1 + 1))]) dX11_bank_148 rfl rfl rfl (Nat.le_of_ble_eq_true rfl) rfl ?_
  refine ab_goto (tgt := 118) dX11_bank_151 (by decide) ?_
  exact hk118 (a1 + 1) X1 h
set_option maxRecDepth 8000 in
theorem t_X11_bank_118 {l : Launch} {G : GX} {C : CM} {Q : Int32 → Mem → Prop} (N : Nat) : ∀ (n : Nat) (a1 : Int32) (X : XM), SAT (f_X11_bank_118 N n a1 X) (fun v c => Q v (C, c)) → AB l G (rmD 8) 0 0 mt_X11_bank (ZQ G mt_X11_bank Q) 118 [(0, .ref (gA G 10 0 0)), (1, .int a1)] [] (C, X) := by
  intro n
  induction n with
  | zero => intro a1 X h; exact h.elim
  | succ n ih =>
    intro a1 X h
    rw [f_X11_bank_118] at h
    refine ab_iloadn 1 dX11_bank_118 rfl ?_
    refine ab_sipush (v := 845) dX11_bank_119 (by decide) ?_
    refine ab_icmp_ge (tgt := 154) dX11_bank_122 (by decide) (fun hc1 => ?_) (fun hc1 => ?_)
    · have h := sat_t hc1 h
      refine ab_iconst (v := 0) dX11_bank_154 (by decide) ?_
      refine ab_istoren (lv' := [(0, .ref (gA G 10 0 0)), (1, .int 0)]) dX11_bank_155 rfl (Nat.le_of_ble_eq_true rfl) rfl ?_
      exact t_X11_bank_156 N N 0 X h
    · have h := sat_f hc1 h
      refine ab_aloadn 0 dX11_bank_125 rfl ?_
      refine f_gr (x := 6) (k2 := 10) (i2 := 0) (j2 := 2) ⟨by decide, by decide⟩ rfl rfl (Nat.le_of_ble_eq_true rfl) wd_406 rfl rfl dX11_bank_126 ?_
      refine ab_iloadn 1 dX11_bank_129 rfl ?_
      refine ab_iloadn 1 dX11_bank_130 rfl ?_
      refine ab_sipush (v := 371) dX11_bank_131 (by decide) ?_
      refine ab_icmp_ge (tgt := 146) dX11_bank_134 (by decide) (fun hc2 => ?_) (fun hc2 => ?_)
      · have h := sat_t hc2 h
        refine ab_iconst (v := 0) dX11_bank_146 (by decide) ?_
        exact t_X11_bank_147 N (fun z1 c => f_X11_bank_118 N n z1 c) a1 0 a1 ih X h
      · have h := sat_f hc2 h
        refine ab_aloadn 0 dX11_bank_137 rfl ?_
        refine f_gr (x := 7) (k2 := 10) (i2 := 0) (j2 := 3) ⟨by decide, by decide⟩ rfl rfl (Nat.le_of_ble_eq_true rfl) wd_370 rfl rfl dX11_bank_138 ?_
        refine ab_iloadn 1 dX11_bank_141 rfl ?_
        refine fX_iald ⟨by decide, by decide⟩ rfl (fun _ => rfl) h dX11_bank_142 (fun v3 h => ?_)
        refine ab_goto (tgt := 147) dX11_bank_143 (by decide) ?_
        exact t_X11_bank_147 N (fun z1 c => f_X11_bank_118 N n z1 c) a1 v3 a1 ih X h
set_option maxRecDepth 8000 in
theorem t_X11_bank_96 {l : Launch} {G : GX} {C : CM} {Q : Int32 → Mem → Prop} (N : Nat) (X : XM) (h : SAT (f_X11_bank_96 N X) (fun v c => Q v (C, c))) : AB l G (rmD 8) 0 0 mt_X11_bank (ZQ G mt_X11_bank Q) 96 [(0, .ref (gA G 10 0 0))] [] (C, X) := by
  unfold f_X11_bank_96 at h
  refine ab_iconst (v := (-1)) dX11_bank_96 (by decide) ?_
  refine ab_aloadn 0 dX11_bank_97 rfl ?_
  refine fX_gi (x := 16) ⟨by decide, by decide⟩ rfl rfl (Nat.le_of_ble_eq_true rfl) wd_385 rfl dX11_bank_98 ?_
  refine ab_isub dX11_bank_101 ?_
  exact fX_iret h rfl rfl dX11_bank_102
set_option maxRecDepth 8000 in
theorem t_X11_bank_73 {l : Launch} {G : GX} {C : CM} {Q : Int32 → Mem → Prop} (N : Nat) : ∀ (n : Nat) (X : XM), SAT (f_X11_bank_73 N n X) (fun v c => Q v (C, c)) → AB l G (rmD 8) 0 0 mt_X11_bank (ZQ G mt_X11_bank Q) 73 [(0, .ref (gA G 10 0 0))] [] (C, X) := by
  intro n
  induction n with
  | zero => intro X h; exact h.elim
  | succ n ih =>
    intro X h
    rw [f_X11_bank_73] at h
    refine ab_aloadn 0 dX11_bank_73 rfl ?_
    refine fX_gi (x := 11) ⟨by decide, by decide⟩ rfl rfl (Nat.le_of_ble_eq_true rfl) wd_362 rfl dX11_bank_74 ?_
    refine ab_if_eq (tgt := 116) dX11_bank_77 (by decide) (fun hc1 => ?_) (fun hc1 => ?_)
    · have h := sat_t hc1 h
      refine ab_iconst (v := 0) dX11_bank_116 (by decide) ?_
      refine ab_istoren (lv' := [(0, .ref (gA G 10 0 0)), (1, .int 0)]) dX11_bank_117 rfl (Nat.le_of_ble_eq_true rfl) rfl ?_
      exact t_X11_bank_118 N N 0 X h
    · have h := sat_f hc1 h
      refine ab_aloadn 0 dX11_bank_80 rfl ?_
      refine fX_Vi (mtc := mt_X11_line) (As := []) h (fun Q h => ct_X11_line N X h) ⟨by decide, by decide⟩ rfl rfl rfl mw_X11_line wd_403 rfl rfl ⟨Nat.le_of_ble_eq_true rfl, Nat.le_of_ble_eq_true rfl⟩ ⟨Nat.zero_le _, Nat.zero_le _⟩ (Nat.le_of_ble_eq_true rfl) rfl dX11_bank_81 (fun v2 X3 h => ?_)
      refine ab_if_eq (tgt := 96) dX11_bank_84 (by decide) (fun hc4 => ?_) (fun hc4 => ?_)
      · have h := sat_t hc4 h
        exact t_X11_bank_96 N X3 h
      · have h := sat_f hc4 h
        refine ab_aloadn 0 dX11_bank_87 rfl ?_
        refine ab_bipush (v := 59) dX11_bank_88 (by decide) ?_
        refine fX_Vi (mtc := mt_X11_sign) (As := [.int 59]) h (fun Q h => ct_X11_sign N 59 X3 h) ⟨by decide, by decide⟩ rfl rfl rfl mw_X11_sign wd_405 rfl rfl ⟨Nat.le_of_ble_eq_true rfl, Nat.le_of_ble_eq_true rfl⟩ ⟨Nat.zero_le _, Nat.zero_le _⟩ (Nat.le_of_ble_eq_true rfl) rfl dX11_bank_90 (fun v5 X6 h => ?_)
        refine ab_if_ne (tgt := 103) dX11_bank_93 (by decide) (fun hc7 => ?_) (fun hc7 => ?_)
        · have h := sat_f hc7 h
          refine ab_aloadn 0 dX11_bank_103 rfl ?_
          refine ab_dup dX11_bank_104 rfl ?_
          refine fX_gi (x := 19) ⟨by decide, by decide⟩ rfl rfl (Nat.le_of_ble_eq_true rfl) wd_353 rfl dX11_bank_105 ?_
          refine ab_iconst (v := 1) dX11_bank_108 (by decide) ?_
          refine ab_iadd dX11_bank_109 ?_
          refine fX_pi (x := 19) (ty := .int) ⟨by decide, by decide⟩ rfl rfl (Nat.le_of_ble_eq_true rfl) wd_353 rfl h rfl (by decide +kernel) rfl rfl dX11_bank_110 (fun X8 h => ?_)
          refine ab_goto (tgt := 73) dX11_bank_113 (by decide) ?_
          exact ih X8 h
        · have h := sat_t hc7 h
          exact t_X11_bank_96 N X6 h
set_option maxRecDepth 8000 in
theorem t_X11_bank_49 {l : Launch} {G : GX} {C : CM} {Q : Int32 → Mem → Prop} (N : Nat) : ∀ (n : Nat) (a1 : Int32) (X : XM), SAT (f_X11_bank_49 N n a1 X) (fun v c => Q v (C, c)) → AB l G (rmD 8) 0 0 mt_X11_bank (ZQ G mt_X11_bank Q) 49 [(0, .ref (gA G 10 0 0)), (1, .int a1)] [] (C, X) := by
  intro n
  induction n with
  | zero => intro a1 X h; exact h.elim
  | succ n ih =>
    intro a1 X h
    rw [f_X11_bank_49] at h
    refine ab_iloadn 1 dX11_bank_49 rfl ?_
    refine ab_sipush (v := 371) dX11_bank_50 (by decide) ?_
    refine ab_icmp_ge (tgt := 69) dX11_bank_53 (by decide) (fun hc1 => ?_) (fun hc1 => ?_)
    · have h := sat_t hc1 h
      refine ab_aloadn 0 dX11_bank_69 rfl ?_
      refine fX_Vv (mtc := mt_X11_next) (As := []) h (fun Q h => ct_X11_next N X h) ⟨by decide, by decide⟩ rfl rfl rfl mw_X11_next wd_369 rfl rfl ⟨Nat.le_of_ble_eq_true rfl, Nat.le_of_ble_eq_true rfl⟩ ⟨Nat.zero_le _, Nat.zero_le _⟩ (Nat.le_of_ble_eq_true rfl) rfl dX11_bank_70 (fun v2 X3 h => ?_)
      refine ab_sub [0] rfl ?_
      exact t_X11_bank_73 N N X3 h
    · have h := sat_f hc1 h
      refine ab_aloadn 0 dX11_bank_56 rfl ?_
      refine f_gr (x := 7) (k2 := 10) (i2 := 0) (j2 := 3) ⟨by decide, by decide⟩ rfl rfl (Nat.le_of_ble_eq_true rfl) wd_370 rfl rfl dX11_bank_57 ?_
      refine ab_iloadn 1 dX11_bank_60 rfl ?_
      refine ab_iconst (v := 0) dX11_bank_61 (by decide) ?_
      refine fX_iast ⟨by decide, by decide⟩ rfl (fun _ => rfl) h dX11_bank_62 (fun X4 h => ?_)
      refine ab_iinc (q := 1) (v := (a1 + 1)) (lv' := [(0, .ref (gA G 10 0 0)), (1, .int (a1 + 1))]) dX11_bank_63 rfl rfl rfl (Nat.le_of_ble_eq_true rfl) rfl ?_
      refine ab_goto (tgt := 49) dX11_bank_66 (by decide) ?_
      exact ih (a1 + 1) X4 h
set_option maxRecDepth 8000 in
theorem t_X11_bank_0 {l : Launch} {G : GX} {C : CM} {Q : Int32 → Mem → Prop} (N : Nat) (X : XM) (h : SAT (f_X11_bank N X) (fun v c => Q v (C, c))) : AB l G (rmD 8) 0 0 mt_X11_bank (ZQ G mt_X11_bank Q) 0 [(0, .ref (gA G 10 0 0))] [] (C, X) := by
  unfold f_X11_bank at h
  refine ab_aloadn 0 dX11_bank_0 rfl ?_
  refine ab_iconst (v := 0) dX11_bank_1 (by decide) ?_
  refine fX_pi (x := 0) (ty := .int) ⟨by decide, by decide⟩ rfl rfl (Nat.le_of_ble_eq_true rfl) wd_344 rfl h rfl (by decide +kernel) rfl rfl dX11_bank_2 (fun X1 h => ?_)
  refine ab_aloadn 0 dX11_bank_5 rfl ?_
  refine ab_sipush (v := 900) dX11_bank_6 (by decide) ?_
  refine fX_Vv (mtc := mt_X11_taken) (As := [.int 900]) h (fun Q h => ct_X11_taken 900 X1 h) ⟨by decide, by decide⟩ rfl rfl rfl mw_X11_taken wd_351 rfl rfl ⟨Nat.le_of_ble_eq_true rfl, Nat.le_of_ble_eq_true rfl⟩ ⟨Nat.zero_le _, Nat.zero_le _⟩ (Nat.le_of_ble_eq_true rfl) rfl dX11_bank_9 (fun v2 X3 h => ?_)
  refine ab_aloadn 0 dX11_bank_12 rfl ?_
  refine ab_iconst (v := 0) dX11_bank_13 (by decide) ?_
  refine fX_pi (x := 15) (ty := .int) ⟨by decide, by decide⟩ rfl rfl (Nat.le_of_ble_eq_true rfl) wd_352 rfl h rfl (by decide +kernel) rfl rfl dX11_bank_14 (fun X4 h => ?_)
  refine ab_aloadn 0 dX11_bank_17 rfl ?_
  refine ab_iconst (v := 0) dX11_bank_18 (by decide) ?_
  refine fX_pi (x := 19) (ty := .int) ⟨by decide, by decide⟩ rfl rfl (Nat.le_of_ble_eq_true rfl) wd_353 rfl h rfl (by decide +kernel) rfl rfl dX11_bank_19 (fun X5 h => ?_)
  refine ab_aloadn 0 dX11_bank_22 rfl ?_
  refine ab_iconst (v := 0) dX11_bank_23 (by decide) ?_
  refine fX_pi (x := 20) (ty := .int) ⟨by decide, by decide⟩ rfl rfl (Nat.le_of_ble_eq_true rfl) wd_354 rfl h rfl (by decide +kernel) rfl rfl dX11_bank_24 (fun X6 h => ?_)
  refine ab_aloadn 0 dX11_bank_27 rfl ?_
  refine ab_iconst (v := 0) dX11_bank_28 (by decide) ?_
  refine fX_pi (x := 21) (ty := .int) ⟨by decide, by decide⟩ rfl rfl (Nat.le_of_ble_eq_true rfl) wd_355 rfl h rfl (by decide +kernel) rfl rfl dX11_bank_29 (fun X7 h => ?_)
  refine ab_aloadn 0 dX11_bank_32 rfl ?_
  refine ab_iconst (v := 0) dX11_bank_33 (by decide) ?_
  refine fX_pi (x := 22) (ty := .int) ⟨by decide, by decide⟩ rfl rfl (Nat.le_of_ble_eq_true rfl) wd_356 rfl h rfl (by decide +kernel) rfl rfl dX11_bank_34 (fun X8 h => ?_)
  refine ab_aloadn 0 dX11_bank_37 rfl ?_
  refine ab_iconst (v := 0) dX11_bank_38 (by decide) ?_
  refine fX_pi (x := 23) (ty := .boolean) ⟨by decide, by decide⟩ rfl rfl (Nat.le_of_ble_eq_true rfl) wd_357 rfl h rfl (by decide +kernel) rfl rfl dX11_bank_39 (fun X9 h => ?_)
  refine ab_aloadn 0 dX11_bank_42 rfl ?_
  refine ab_iconst (v := 0) dX11_bank_43 (by decide) ?_
  refine fX_pi (x := 24) (ty := .boolean) ⟨by decide, by decide⟩ rfl rfl (Nat.le_of_ble_eq_true rfl) wd_358 rfl h rfl (by decide +kernel) rfl rfl dX11_bank_44 (fun X10 h => ?_)
  refine ab_iconst (v := 0) dX11_bank_47 (by decide) ?_
  refine ab_istoren (lv' := [(0, .ref (gA G 10 0 0)), (1, .int 0)]) dX11_bank_48 rfl (Nat.le_of_ble_eq_true rfl) rfl ?_
  exact t_X11_bank_49 N N 0 X10 h
theorem ct_X11_bank {l : Launch} {G : GX} {C : CM} {Q : Int32 → Mem → Prop} (N : Nat) (X : XM) (h : SAT (f_X11_bank N X) (fun v c => Q v (C, c))) : CT l G 8 mt_X11_bank [.ref (gA G 10 0 0)] (C, X) Q := ct_of pn_X11 (Nat.le_of_ble_eq_true rfl) (t_X11_bank_0 N X h)
def f_X11_fault (X : XM) : Option (Int32 × XM) := bnd (stX X 0 0 0) (fun X1 => (rt (X1.1 0 15) X1))
set_option maxRecDepth 8000 in
theorem t_X11_fault_0 {l : Launch} {G : GX} {C : CM} {Q : Int32 → Mem → Prop} (X : XM) (h : SAT (f_X11_fault X) (fun v c => Q v (C, c))) : AB l G (rmD 1) 0 0 mt_X11_fault (ZQ G mt_X11_fault Q) 0 [(0, .ref (gA G 10 0 0))] [] (C, X) := by
  unfold f_X11_fault at h
  refine ab_aloadn 0 dX11_fault_0 rfl ?_
  refine ab_iconst (v := 0) dX11_fault_1 (by decide) ?_
  refine fX_pi (x := 0) (ty := .int) ⟨by decide, by decide⟩ rfl rfl (Nat.le_of_ble_eq_true rfl) wd_344 rfl h rfl (by decide +kernel) rfl rfl dX11_fault_2 (fun X1 h => ?_)
  refine ab_aloadn 0 dX11_fault_5 rfl ?_
  refine fX_gi (x := 15) ⟨by decide, by decide⟩ rfl rfl (Nat.le_of_ble_eq_true rfl) wd_352 rfl dX11_fault_6 ?_
  exact fX_iret h rfl rfl dX11_fault_9
theorem ct_X11_fault {l : Launch} {G : GX} {C : CM} {Q : Int32 → Mem → Prop} (X : XM) (h : SAT (f_X11_fault X) (fun v c => Q v (C, c))) : CT l G 1 mt_X11_fault [.ref (gA G 10 0 0)] (C, X) Q := ct_of pn_X11 (Nat.le_of_ble_eq_true rfl) (t_X11_fault_0 X h)
def f_X11_isCell (a1 : Int32) (X : XM) : Option (Int32 × XM) := (if a1 < 0 then (rt 0 X) else ldA (X.1 2) 845 0 (fun v2 => (if v2 ≤ (a1 - a1 / 10 * 10) then (rt 0 X) else ldA (X.1 2) 845 1 (fun v4 => (if v4 ≤ (a1 / 10) then (rt 0 X) else (rt 1 X))))))
set_option maxRecDepth 8000 in
theorem t_X11_isCell_0 {l : Launch} {G : GX} {C : CM} {Q : Int32 → Mem → Prop} (a1 : Int32) (X : XM) (h : SAT (f_X11_isCell a1 X) (fun v c => Q v (C, c))) : AB l G (rmD 1) 0 0 mt_X11_isCell (ZQ G mt_X11_isCell Q) 0 [(0, .ref (gA G 10 0 0)), (1, .int a1)] [] (C, X) := by
  unfold f_X11_isCell at h
  refine ab_iloadn 1 dX11_isCell_0 rfl ?_
  refine ab_if_lt (tgt := 34) dX11_isCell_1 (by decide) (fun hc1 => ?_) (fun hc1 => ?_)
  · have h := sat_t hc1 h
    refine ab_iconst (v := 0) dX11_isCell_34 (by decide) ?_
    exact fX_iret h rfl rfl dX11_isCell_35
  · have h := sat_f hc1 h
    refine ab_iloadn 1 dX11_isCell_4 rfl ?_
    refine ab_bipush (v := 10) dX11_isCell_5 (by decide) ?_
    refine ab_irem dX11_isCell_7 (by decide) ?_
    refine ab_aloadn 0 dX11_isCell_8 rfl ?_
    refine f_gr (x := 6) (k2 := 10) (i2 := 0) (j2 := 2) ⟨by decide, by decide⟩ rfl rfl (Nat.le_of_ble_eq_true rfl) wd_406 rfl rfl dX11_isCell_9 ?_
    refine ab_iconst (v := 0) dX11_isCell_12 (by decide) ?_
    refine fX_iald ⟨by decide, by decide⟩ rfl (fun _ => rfl) h dX11_isCell_13 (fun v2 h => ?_)
    refine ab_icmp_ge (tgt := 34) dX11_isCell_14 (by decide) (fun hc3 => ?_) (fun hc3 => ?_)
    · have h := sat_t hc3 h
      refine ab_iconst (v := 0) dX11_isCell_34 (by decide) ?_
      exact fX_iret h rfl rfl dX11_isCell_35
    · have h := sat_f hc3 h
      refine ab_iloadn 1 dX11_isCell_17 rfl ?_
      refine ab_bipush (v := 10) dX11_isCell_18 (by decide) ?_
      refine ab_idiv dX11_isCell_20 (by decide) ?_
      refine ab_aloadn 0 dX11_isCell_21 rfl ?_
      refine f_gr (x := 6) (k2 := 10) (i2 := 0) (j2 := 2) ⟨by decide, by decide⟩ rfl rfl (Nat.le_of_ble_eq_true rfl) wd_406 rfl rfl dX11_isCell_22 ?_
      refine ab_iconst (v := 1) dX11_isCell_25 (by decide) ?_
      refine fX_iald ⟨by decide, by decide⟩ rfl (fun _ => rfl) h dX11_isCell_26 (fun v4 h => ?_)
      refine ab_icmp_ge (tgt := 34) dX11_isCell_27 (by decide) (fun hc5 => ?_) (fun hc5 => ?_)
      · have h := sat_t hc5 h
        refine ab_iconst (v := 0) dX11_isCell_34 (by decide) ?_
        exact fX_iret h rfl rfl dX11_isCell_35
      · have h := sat_f hc5 h
        refine ab_iconst (v := 1) dX11_isCell_30 (by decide) ?_
        refine ab_goto (tgt := 35) dX11_isCell_31 (by decide) ?_
        exact fX_iret h rfl rfl dX11_isCell_35
theorem ct_X11_isCell {l : Launch} {G : GX} {C : CM} {Q : Int32 → Mem → Prop} (a1 : Int32) (X : XM) (h : SAT (f_X11_isCell a1 X) (fun v c => Q v (C, c))) : CT l G 1 mt_X11_isCell [.ref (gA G 10 0 0), .int a1] (C, X) Q := ct_of pn_X11 (Nat.le_of_ble_eq_true rfl) (t_X11_isCell_0 a1 X h)
def f_X11_throwsIf_10 (a1 : Int32) (as0 : Int32) (X : XM) : Option (Int32 × XM) := bnd (stX X 0 0 as0) (fun X1 => (chk (isB a1) (rt a1 X1)))
def f_X11_throwsIf (a1 : Int32) (X : XM) : Option (Int32 × XM) := (if a1 = 0 then (f_X11_throwsIf_10 a1 0 X) else (f_X11_throwsIf_10 a1 1 X))
set_option maxRecDepth 8000 in
theorem t_X11_throwsIf_10 {l : Launch} {G : GX} {C : CM} {Q : Int32 → Mem → Prop} (a1 : Int32) (as0 : Int32) (X : XM) (h : SAT (f_X11_throwsIf_10 a1 as0 X) (fun v c => Q v (C, c))) : AB l G (rmD 1) 0 0 mt_X11_throwsIf (ZQ G mt_X11_throwsIf Q) 10 [(1, .int a1)] [.int as0, .ref (gA G 10 0 0)] (C, X) := by
  unfold f_X11_throwsIf_10 at h
  refine fX_pi (x := 0) (ty := .int) ⟨by decide, by decide⟩ rfl rfl (Nat.le_of_ble_eq_true rfl) wd_344 rfl h rfl (by decide +kernel) rfl rfl dX11_throwsIf_10 (fun X1 h => ?_)
  refine ab_iloadn 0 dX11_throwsIf_13 rfl ?_
  exact fX_iretb h rfl dX11_throwsIf_14
set_option maxRecDepth 8000 in
theorem t_X11_throwsIf_0 {l : Launch} {G : GX} {C : CM} {Q : Int32 → Mem → Prop} (a1 : Int32) (X : XM) (h : SAT (f_X11_throwsIf a1 X) (fun v c => Q v (C, c))) : AB l G (rmD 1) 0 0 mt_X11_throwsIf (ZQ G mt_X11_throwsIf Q) 0 [(0, .ref (gA G 10 0 0)), (1, .int a1)] [] (C, X) := by
  unfold f_X11_throwsIf at h
  refine ab_aloadn 0 dX11_throwsIf_0 rfl ?_
  refine ab_iloadn 1 dX11_throwsIf_1 rfl ?_
  refine ab_if_eq (tgt := 9) dX11_throwsIf_2 (by decide) (fun hc1 => ?_) (fun hc1 => ?_)
  · have h := sat_t hc1 h
    refine ab_iconst (v := 0) dX11_throwsIf_9 (by decide) ?_
    refine ab_sub [1] rfl ?_
    exact t_X11_throwsIf_10 a1 0 X h
  · have h := sat_f hc1 h
    refine ab_iconst (v := 1) dX11_throwsIf_5 (by decide) ?_
    refine ab_goto (tgt := 10) dX11_throwsIf_6 (by decide) ?_
    refine ab_sub [1] rfl ?_
    exact t_X11_throwsIf_10 a1 1 X h
theorem ct_X11_throwsIf {l : Launch} {G : GX} {C : CM} {Q : Int32 → Mem → Prop} (a1 : Int32) (X : XM) (h : SAT (f_X11_throwsIf a1 X) (fun v c => Q v (C, c))) : CT l G 1 mt_X11_throwsIf [.ref (gA G 10 0 0), .int a1] (C, X) Q := ct_of pn_X11 (Nat.le_of_ble_eq_true rfl) (t_X11_throwsIf_0 a1 X h)
def f_X11_ownerAt_2 (N : Nat) (a1 : Int32) : Nat → Int32 → XM → Option (Int32 × XM)
  | 0, _, _ => none
  | n + 1, a2, X => ldA (X.1 2) 845 2 (fun v1 => (if v1 ≤ a2 then (rt (-1) X) else ldA (X.1 2) 845 (7 + a2) (fun v3 => (if v3 = a1 then (rt a2 X) else (f_X11_ownerAt_2 N a1 n (a2 + 1) X)))))
def f_X11_ownerAt (N : Nat) (a1 : Int32) (X : XM) : Option (Int32 × XM) := (f_X11_ownerAt_2 N a1 N 0 X)
set_option maxRecDepth 8000 in
theorem t_X11_ownerAt_2 {l : Launch} {G : GX} {C : CM} {Q : Int32 → Mem → Prop} (N : Nat) (a1 : Int32) : ∀ (n : Nat) (a2 : Int32) (X : XM), SAT (f_X11_ownerAt_2 N a1 n a2 X) (fun v c => Q v (C, c)) → AB l G (rmD 1) 0 0 mt_X11_ownerAt (ZQ G mt_X11_ownerAt Q) 2 [(0, .ref (gA G 10 0 0)), (1, .int a1), (2, .int a2)] [] (C, X) := by
  intro n
  induction n with
  | zero => intro a2 X h; exact h.elim
  | succ n ih =>
    intro a2 X h
    rw [f_X11_ownerAt_2] at h
    refine ab_iloadn 2 dX11_ownerAt_2 rfl ?_
    refine ab_aloadn 0 dX11_ownerAt_3 rfl ?_
    refine f_gr (x := 6) (k2 := 10) (i2 := 0) (j2 := 2) ⟨by decide, by decide⟩ rfl rfl (Nat.le_of_ble_eq_true rfl) wd_406 rfl rfl dX11_ownerAt_4 ?_
    refine ab_iconst (v := 2) dX11_ownerAt_7 (by decide) ?_
    refine fX_iald ⟨by decide, by decide⟩ rfl (fun _ => rfl) h dX11_ownerAt_8 (fun v1 h => ?_)
    refine ab_icmp_ge (tgt := 33) dX11_ownerAt_9 (by decide) (fun hc2 => ?_) (fun hc2 => ?_)
    · have h := sat_t hc2 h
      refine ab_iconst (v := (-1)) dX11_ownerAt_33 (by decide) ?_
      exact fX_iret h rfl rfl dX11_ownerAt_34
    · have h := sat_f hc2 h
      refine ab_aloadn 0 dX11_ownerAt_12 rfl ?_
      refine f_gr (x := 6) (k2 := 10) (i2 := 0) (j2 := 2) ⟨by decide, by decide⟩ rfl rfl (Nat.le_of_ble_eq_true rfl) wd_406 rfl rfl dX11_ownerAt_13 ?_
      refine ab_bipush (v := 7) dX11_ownerAt_16 (by decide) ?_
      refine ab_iloadn 2 dX11_ownerAt_18 rfl ?_
      refine ab_iadd dX11_ownerAt_19 ?_
      refine fX_iald ⟨by decide, by decide⟩ rfl (fun _ => rfl) h dX11_ownerAt_20 (fun v3 h => ?_)
      refine ab_iloadn 1 dX11_ownerAt_21 rfl ?_
      refine ab_icmp_ne (tgt := 27) dX11_ownerAt_22 (by decide) (fun hc4 => ?_) (fun hc4 => ?_)
      · have h := sat_f hc4 h
        refine ab_iinc (q := 2) (v := (a2 + 1)) (lv' := [(0, .ref (gA G 10 0 0)), (1, .int a1), (2, .int (a2 + 1))]) dX11_ownerAt_27 rfl rfl rfl (Nat.le_of_ble_eq_true rfl) rfl ?_
        refine ab_goto (tgt := 2) dX11_ownerAt_30 (by decide) ?_
        exact ih (a2 + 1) X h
      · have h := sat_t hc4 h
        refine ab_iloadn 2 dX11_ownerAt_25 rfl ?_
        exact fX_iret h rfl rfl dX11_ownerAt_26
set_option maxRecDepth 8000 in
theorem t_X11_ownerAt_0 {l : Launch} {G : GX} {C : CM} {Q : Int32 → Mem → Prop} (N : Nat) (a1 : Int32) (X : XM) (h : SAT (f_X11_ownerAt N a1 X) (fun v c => Q v (C, c))) : AB l G (rmD 1) 0 0 mt_X11_ownerAt (ZQ G mt_X11_ownerAt Q) 0 [(0, .ref (gA G 10 0 0)), (1, .int a1)] [] (C, X) := by
  unfold f_X11_ownerAt at h
  refine ab_iconst (v := 0) dX11_ownerAt_0 (by decide) ?_
  refine ab_istoren (lv' := [(0, .ref (gA G 10 0 0)), (1, .int a1), (2, .int 0)]) dX11_ownerAt_1 rfl (Nat.le_of_ble_eq_true rfl) rfl ?_
  exact t_X11_ownerAt_2 N a1 N 0 X h
theorem ct_X11_ownerAt {l : Launch} {G : GX} {C : CM} {Q : Int32 → Mem → Prop} (N : Nat) (a1 : Int32) (X : XM) (h : SAT (f_X11_ownerAt N a1 X) (fun v c => Q v (C, c))) : CT l G 1 mt_X11_ownerAt [.ref (gA G 10 0 0), .int a1] (C, X) Q := ct_of pn_X11 (Nat.le_of_ble_eq_true rfl) (t_X11_ownerAt_0 N a1 X h)
def f_X11_treeAt_2 (N : Nat) (a1 : Int32) : Nat → Int32 → XM → Option (Int32 × XM)
  | 0, _, _ => none
  | n + 1, a2, X => ldA (X.1 2) 845 3 (fun v1 => (if v1 ≤ a2 then (rt (-1) X) else ldA (X.1 2) 845 (63 + a2) (fun v3 => (if v3 = a1 then ldA (X.1 2) 845 (429 + a2) (fun v5 => (if v5 = 1 then (rt a2 X) else (f_X11_treeAt_2 N a1 n (a2 + 1) X))) else (f_X11_treeAt_2 N a1 n (a2 + 1) X)))))
def f_X11_treeAt (N : Nat) (a1 : Int32) (X : XM) : Option (Int32 × XM) := (f_X11_treeAt_2 N a1 N 0 X)
set_option maxRecDepth 8000 in
theorem t_X11_treeAt_2 {l : Launch} {G : GX} {C : CM} {Q : Int32 → Mem → Prop} (N : Nat) (a1 : Int32) : ∀ (n : Nat) (a2 : Int32) (X : XM), SAT (f_X11_treeAt_2 N a1 n a2 X) (fun v c => Q v (C, c)) → AB l G (rmD 1) 0 0 mt_X11_treeAt (ZQ G mt_X11_treeAt Q) 2 [(0, .ref (gA G 10 0 0)), (1, .int a1), (2, .int a2)] [] (C, X) := by
  intro n
  induction n with
  | zero => intro a2 X h; exact h.elim
  | succ n ih =>
    intro a2 X h
    rw [f_X11_treeAt_2] at h
    refine ab_iloadn 2 dX11_treeAt_2 rfl ?_
    refine ab_aloadn 0 dX11_treeAt_3 rfl ?_
    refine f_gr (x := 6) (k2 := 10) (i2 := 0) (j2 := 2) ⟨by decide, by decide⟩ rfl rfl (Nat.le_of_ble_eq_true rfl) wd_406 rfl rfl dX11_treeAt_4 ?_
    refine ab_iconst (v := 3) dX11_treeAt_7 (by decide) ?_
    refine fX_iald ⟨by decide, by decide⟩ rfl (fun _ => rfl) h dX11_treeAt_8 (fun v1 h => ?_)
    refine ab_icmp_ge (tgt := 47) dX11_treeAt_9 (by decide) (fun hc2 => ?_) (fun hc2 => ?_)
    · have h := sat_t hc2 h
      refine ab_iconst (v := (-1)) dX11_treeAt_47 (by decide) ?_
      exact fX_iret h rfl rfl dX11_treeAt_48
    · have h := sat_f hc2 h
      refine ab_aloadn 0 dX11_treeAt_12 rfl ?_
      refine f_gr (x := 6) (k2 := 10) (i2 := 0) (j2 := 2) ⟨by decide, by decide⟩ rfl rfl (Nat.le_of_ble_eq_true rfl) wd_406 rfl rfl dX11_treeAt_13 ?_
      refine ab_bipush (v := 63) dX11_treeAt_16 (by decide) ?_
      refine ab_iloadn 2 dX11_treeAt_18 rfl ?_
      refine ab_iadd dX11_treeAt_19 ?_
      refine fX_iald ⟨by decide, by decide⟩ rfl (fun _ => rfl) h dX11_treeAt_20 (fun v3 h => ?_)
      refine ab_iloadn 1 dX11_treeAt_21 rfl ?_
      refine ab_icmp_ne (tgt := 41) dX11_treeAt_22 (by decide) (fun hc4 => ?_) (fun hc4 => ?_)
      · have h := sat_f hc4 h
        refine ab_iinc (q := 2) (v := (a2 + 1)) (lv' := [(0, .ref (gA G 10 0 0)), (1, .int a1), (2, .int (a2 + 1))]) dX11_treeAt_41 rfl rfl rfl (Nat.le_of_ble_eq_true rfl) rfl ?_
        refine ab_goto (tgt := 2) dX11_treeAt_44 (by decide) ?_
        exact ih (a2 + 1) X h
      · have h := sat_t hc4 h
        refine ab_aloadn 0 dX11_treeAt_25 rfl ?_
        refine f_gr (x := 6) (k2 := 10) (i2 := 0) (j2 := 2) ⟨by decide, by decide⟩ rfl rfl (Nat.le_of_ble_eq_true rfl) wd_406 rfl rfl dX11_treeAt_26 ?_
        refine ab_sipush (v := 429) dX11_treeAt_29 (by decide) ?_
        refine ab_iloadn 2 dX11_treeAt_32 rfl ?_
        refine ab_iadd dX11_treeAt_33 ?_
        refine fX_iald ⟨by decide, by decide⟩ rfl (fun _ => rfl) h dX11_treeAt_34 (fun v5 h => ?_)
        refine ab_iconst (v := 1) dX11_treeAt_35 (by decide) ?_
        refine ab_icmp_ne (tgt := 41) dX11_treeAt_36 (by decide) (fun hc6 => ?_) (fun hc6 => ?_)
        · have h := sat_f hc6 h
          refine ab_iinc (q := 2) (v := (a2 + 1)) (lv' := [(0, .ref (gA G 10 0 0)), (1, .int a1), (2, .int (a2 + 1))]) dX11_treeAt_41 rfl rfl rfl (Nat.le_of_ble_eq_true rfl) rfl ?_
          refine ab_goto (tgt := 2) dX11_treeAt_44 (by decide) ?_
          exact ih (a2 + 1) X h
        · have h := sat_t hc6 h
          refine ab_iloadn 2 dX11_treeAt_39 rfl ?_
          exact fX_iret h rfl rfl dX11_treeAt_40
set_option maxRecDepth 8000 in
theorem t_X11_treeAt_0 {l : Launch} {G : GX} {C : CM} {Q : Int32 → Mem → Prop} (N : Nat) (a1 : Int32) (X : XM) (h : SAT (f_X11_treeAt N a1 X) (fun v c => Q v (C, c))) : AB l G (rmD 1) 0 0 mt_X11_treeAt (ZQ G mt_X11_treeAt Q) 0 [(0, .ref (gA G 10 0 0)), (1, .int a1)] [] (C, X) := by
  unfold f_X11_treeAt at h
  refine ab_iconst (v := 0) dX11_treeAt_0 (by decide) ?_
  refine ab_istoren (lv' := [(0, .ref (gA G 10 0 0)), (1, .int a1), (2, .int 0)]) dX11_treeAt_1 rfl (Nat.le_of_ble_eq_true rfl) rfl ?_
  exact t_X11_treeAt_2 N a1 N 0 X h
theorem ct_X11_treeAt {l : Launch} {G : GX} {C : CM} {Q : Int32 → Mem → Prop} (N : Nat) (a1 : Int32) (X : XM) (h : SAT (f_X11_treeAt N a1 X) (fun v c => Q v (C, c))) : CT l G 1 mt_X11_treeAt [.ref (gA G 10 0 0), .int a1] (C, X) Q := ct_of pn_X11 (Nat.le_of_ble_eq_true rfl) (t_X11_treeAt_0 N a1 X h)
def f_X11_cell_23 (N : Nat) (a1 : Int32) (a2 : Int32) (as0 : Int32) (X : XM) : Option (Int32 × XM) := cal (f_X11_throwsIf as0 X) (fun v1 X2 => (if v1 = 0 then cal (f_X11_ownerAt N a1 X2) (fun v4 X5 => cal (f_X11_treeAt N a1 X5) (fun v6 X7 => (if a2 = 0 then (if v4 < 0 then (if v6 < 0 then ldA (X7.1 2) 845 (441 + a1) (fun v14 => (if v14 = 1 then (rt 3 X7) else (rt 0 X7))) else (rt 2 X7)) else (rt 1 X7)) else (if a2 = 1 then (if v4 < 0 then (rt v6 X7) else (rt v4 X7)) else ldA (X7.1 2) 845 (75 + a1) (fun v10 => (rt v10 X7)))))) else (rt 0 X2)))
def f_X11_cell_18 (N : Nat) (a1 : Int32) (a2 : Int32) (X : XM) : Option (Int32 × XM) := (f_X11_cell_23 N a1 a2 1 X)
def f_X11_cell (N : Nat) (a1 : Int32) (a2 : Int32) (X : XM) : Option (Int32 × XM) := cal (f_X11_isCell a1 X) (fun v1 X2 => (if v1 = 0 then (f_X11_cell_18 N a1 a2 X2) else cal (f_X11_isIn a2 0 2 X2) (fun v4 X5 => (if v4 = 0 then (f_X11_cell_18 N a1 a2 X5) else (f_X11_cell_23 N a1 a2 0 X5)))))
set_option maxRecDepth 8000 in
theorem t_X11_cell_23 {l : Launch} {G : GX} {C : CM} {Q : Int32 → Mem → Prop} (N : Nat) (a1 : Int32) (a2 : Int32) (as0 : Int32) (X : XM) (h : SAT (f_X11_cell_23 N a1 a2 as0 X) (fun v c => Q v (C, c))) : AB l G (rmD 2) 0 0 mt_X11_cell (ZQ G mt_X11_cell Q) 23 [(0, .ref (gA G 10 0 0)), (1, .int a1), (2, .int a2)] [.int as0, .ref (gA G 10 0 0)] (C, X) := by
  unfold f_X11_cell_23 at h
  refine fX_Vi (mtc := mt_X11_throwsIf) (As := [.int as0]) h (fun Q h => ct_X11_throwsIf as0 X h) ⟨by decide, by decide⟩ rfl rfl rfl mw_X11_throwsIf wd_410 rfl rfl ⟨Nat.le_of_ble_eq_true rfl, Nat.le_of_ble_eq_true rfl⟩ ⟨Nat.zero_le _, Nat.zero_le _⟩ (Nat.le_of_ble_eq_true rfl) rfl dX11_cell_23 (fun v1 X2 h => ?_)
  refine ab_if_eq (tgt := 31) dX11_cell_26 (by decide) (fun hc3 => ?_) (fun hc3 => ?_)
  · have h := sat_t hc3 h
    refine ab_aloadn 0 dX11_cell_31 rfl ?_
    refine ab_iloadn 1 dX11_cell_32 rfl ?_
    refine fX_Vi (mtc := mt_X11_ownerAt) (As := [.int a1]) h (fun Q h => ct_X11_ownerAt N a1 X2 h) ⟨by decide, by decide⟩ rfl rfl rfl mw_X11_ownerAt wd_411 rfl rfl ⟨Nat.le_of_ble_eq_true rfl, Nat.le_of_ble_eq_true rfl⟩ ⟨Nat.zero_le _, Nat.zero_le _⟩ (Nat.le_of_ble_eq_true rfl) rfl dX11_cell_33 (fun v4 X5 h => ?_)
    refine ab_istoren (lv' := [(0, .ref (gA G 10 0 0)), (1, .int a1), (2, .int a2), (3, .int v4)]) dX11_cell_36 rfl (Nat.le_of_ble_eq_true rfl) rfl ?_
    refine ab_aloadn 0 dX11_cell_37 rfl ?_
    refine ab_iloadn 1 dX11_cell_38 rfl ?_
    refine fX_Vi (mtc := mt_X11_treeAt) (As := [.int a1]) h (fun Q h => ct_X11_treeAt N a1 X5 h) ⟨by decide, by decide⟩ rfl rfl rfl mw_X11_treeAt wd_412 rfl rfl ⟨Nat.le_of_ble_eq_true rfl, Nat.le_of_ble_eq_true rfl⟩ ⟨Nat.zero_le _, Nat.zero_le _⟩ (Nat.le_of_ble_eq_true rfl) rfl dX11_cell_39 (fun v6 X7 h => ?_)
    refine ab_istore (lv' := [(0, .ref (gA G 10 0 0)), (1, .int a1), (2, .int a2), (3, .int v4), (4, .int v6)]) dX11_cell_42 rfl (Nat.le_of_ble_eq_true rfl) rfl ?_
    refine ab_iloadn 2 dX11_cell_44 rfl ?_
    refine ab_if_ne (tgt := 87) dX11_cell_45 (by decide) (fun hc8 => ?_) (fun hc8 => ?_)
    · have h := sat_f hc8 h
      refine ab_iloadn 2 dX11_cell_87 rfl ?_
      refine ab_iconst (v := 1) dX11_cell_88 (by decide) ?_
      refine ab_icmp_ne (tgt := 105) dX11_cell_89 (by decide) (fun hc9 => ?_) (fun hc9 => ?_)
      · have h := sat_f hc9 h
        refine ab_aloadn 0 dX11_cell_105 rfl ?_
        refine f_gr (x := 6) (k2 := 10) (i2 := 0) (j2 := 2) ⟨by decide, by decide⟩ rfl rfl (Nat.le_of_ble_eq_true rfl) wd_406 rfl rfl dX11_cell_106 ?_
        refine ab_bipush (v := 75) dX11_cell_109 (by decide) ?_
        refine ab_iloadn 1 dX11_cell_111 rfl ?_
        refine ab_iadd dX11_cell_112 ?_
        refine fX_iald ⟨by decide, by decide⟩ rfl (fun _ => rfl) h dX11_cell_113 (fun v10 h => ?_)
        exact fX_iret h rfl rfl dX11_cell_114
      · have h := sat_t hc9 h
        refine ab_iloadn 3 dX11_cell_92 rfl ?_
        refine ab_if_lt (tgt := 100) dX11_cell_93 (by decide) (fun hc11 => ?_) (fun hc11 => ?_)
        · have h := sat_t hc11 h
          refine ab_iload 4 dX11_cell_100 rfl ?_
          refine ab_goto (tgt := 114) dX11_cell_102 (by decide) ?_
          exact fX_iret h rfl rfl dX11_cell_114
        · have h := sat_f hc11 h
          refine ab_iloadn 3 dX11_cell_96 rfl ?_
          refine ab_goto (tgt := 114) dX11_cell_97 (by decide) ?_
          exact fX_iret h rfl rfl dX11_cell_114
    · have h := sat_t hc8 h
      refine ab_iloadn 3 dX11_cell_48 rfl ?_
      refine ab_if_lt (tgt := 56) dX11_cell_49 (by decide) (fun hc12 => ?_) (fun hc12 => ?_)
      · have h := sat_t hc12 h
        refine ab_iload 4 dX11_cell_56 rfl ?_
        refine ab_if_lt (tgt := 65) dX11_cell_58 (by decide) (fun hc13 => ?_) (fun hc13 => ?_)
        · have h := sat_t hc13 h
          refine ab_aloadn 0 dX11_cell_65 rfl ?_
          refine f_gr (x := 6) (k2 := 10) (i2 := 0) (j2 := 2) ⟨by decide, by decide⟩ rfl rfl (Nat.le_of_ble_eq_true rfl) wd_406 rfl rfl dX11_cell_66 ?_
          refine ab_sipush (v := 441) dX11_cell_69 (by decide) ?_
          refine ab_iloadn 1 dX11_cell_72 rfl ?_
          refine ab_iadd dX11_cell_73 ?_
          refine fX_iald ⟨by decide, by decide⟩ rfl (fun _ => rfl) h dX11_cell_74 (fun v14 h => ?_)
          refine ab_iconst (v := 1) dX11_cell_75 (by decide) ?_
          refine ab_icmp_ne (tgt := 83) dX11_cell_76 (by decide) (fun hc15 => ?_) (fun hc15 => ?_)
          · have h := sat_f hc15 h
            refine ab_iconst (v := 0) dX11_cell_83 (by decide) ?_
            refine ab_goto (tgt := 114) dX11_cell_84 (by decide) ?_
            exact fX_iret h rfl rfl dX11_cell_114
          · have h := sat_t hc15 h
            refine ab_iconst (v := 3) dX11_cell_79 (by decide) ?_
            refine ab_goto (tgt := 114) dX11_cell_80 (by decide) ?_
            exact fX_iret h rfl rfl dX11_cell_114
        · have h := sat_f hc13 h
          refine ab_iconst (v := 2) dX11_cell_61 (by decide) ?_
          refine ab_goto (tgt := 114) dX11_cell_62 (by decide) ?_
          exact fX_iret h rfl rfl dX11_cell_114
      · have h := sat_f hc12 h
        refine ab_iconst (v := 1) dX11_cell_52 (by decide) ?_
        refine ab_goto (tgt := 114) dX11_cell_53 (by decide) ?_
        exact fX_iret h rfl rfl dX11_cell_114
  · have h := sat_f hc3 h
    refine ab_iconst (v := 0) dX11_cell_29 (by decide) ?_
    exact fX_iret h rfl rfl dX11_cell_30
set_option maxRecDepth 8000 in
theorem t_X11_cell_18 {l : Launch} {G : GX} {C : CM} {Q : Int32 → Mem → Prop} (N : Nat) (a1 : Int32) (a2 : Int32) (X : XM) (h : SAT (f_X11_cell_18 N a1 a2 X) (fun v c => Q v (C, c))) : AB l G (rmD 2) 0 0 mt_X11_cell (ZQ G mt_X11_cell Q) 18 [(0, .ref (gA G 10 0 0)), (1, .int a1), (2, .int a2)] [.ref (gA G 10 0 0)] (C, X) := by
  unfold f_X11_cell_18 at h
  refine ab_iconst (v := 1) dX11_cell_18 (by decide) ?_
  refine ab_goto (tgt := 23) dX11_cell_19 (by decide) ?_
  exact t_X11_cell_23 N a1 a2 1 X h
set_option maxRecDepth 8000 in
theorem t_X11_cell_0 {l : Launch} {G : GX} {C : CM} {Q : Int32 → Mem → Prop} (N : Nat) (a1 : Int32) (a2 : Int32) (X : XM) (h : SAT (f_X11_cell N a1 a2 X) (fun v c => Q v (C, c))) : AB l G (rmD 2) 0 0 mt_X11_cell (ZQ G mt_X11_cell Q) 0 [(0, .ref (gA G 10 0 0)), (1, .int a1), (2, .int a2)] [] (C, X) := by
  unfold f_X11_cell at h
  refine ab_aloadn 0 dX11_cell_0 rfl ?_
  refine ab_aloadn 0 dX11_cell_1 rfl ?_
  refine ab_iloadn 1 dX11_cell_2 rfl ?_
  refine fX_Vi (mtc := mt_X11_isCell) (As := [.int a1]) h (fun Q h => ct_X11_isCell a1 X h) ⟨by decide, by decide⟩ rfl rfl rfl mw_X11_isCell wd_409 rfl rfl ⟨Nat.le_of_ble_eq_true rfl, Nat.le_of_ble_eq_true rfl⟩ ⟨Nat.zero_le _, Nat.zero_le _⟩ (Nat.le_of_ble_eq_true rfl) rfl dX11_cell_3 (fun v1 X2 h => ?_)
  refine ab_if_eq (tgt := 18) dX11_cell_6 (by decide) (fun hc3 => ?_) (fun hc3 => ?_)
  · have h := sat_t hc3 h
    exact t_X11_cell_18 N a1 a2 X2 h
  · have h := sat_f hc3 h
    refine ab_iloadn 2 dX11_cell_9 rfl ?_
    refine ab_iconst (v := 0) dX11_cell_10 (by decide) ?_
    refine ab_iconst (v := 2) dX11_cell_11 (by decide) ?_
    refine fX_Si (mtc := mt_X11_isIn) (As := [.int a2, .int 0, .int 2]) h (fun Q h => ct_X11_isIn a2 0 2 X2 h) mw_X11_isIn wd_382 wd_383 rfl rfl ⟨Nat.le_of_ble_eq_true rfl, Nat.le_of_ble_eq_true rfl⟩ ⟨Nat.zero_le _, Nat.zero_le _⟩ (Nat.le_of_ble_eq_true rfl) rfl dX11_cell_12 (fun v4 X5 h => ?_)
    refine ab_if_ne (tgt := 22) dX11_cell_15 (by decide) (fun hc6 => ?_) (fun hc6 => ?_)
    · have h := sat_f hc6 h
      refine ab_iconst (v := 0) dX11_cell_22 (by decide) ?_
      exact t_X11_cell_23 N a1 a2 0 X5 h
    · have h := sat_t hc6 h
      exact t_X11_cell_18 N a1 a2 X5 h
theorem ct_X11_cell {l : Launch} {G : GX} {C : CM} {Q : Int32 → Mem → Prop} (N : Nat) (a1 : Int32) (a2 : Int32) (X : XM) (h : SAT (f_X11_cell N a1 a2 X) (fun v c => Q v (C, c))) : CT l G 2 mt_X11_cell [.ref (gA G 10 0 0), .int a1, .int a2] (C, X) Q := ct_of pn_X11 (Nat.le_of_ble_eq_true rfl) (t_X11_cell_0 N a1 a2 X h)
def f_X11_isOwner (a1 : Int32) (X : XM) : Option (Int32 × XM) := ldA (X.1 2) 845 2 (fun v1 => cal (f_X11_isIn a1 0 (v1 - 1) X) (fun v2 X3 => (chk (isB v2) (rt v2 X3))))
set_option maxRecDepth 8000 in
theorem t_X11_isOwner_0 {l : Launch} {G : GX} {C : CM} {Q : Int32 → Mem → Prop} (a1 : Int32) (X : XM) (h : SAT (f_X11_isOwner a1 X) (fun v c => Q v (C, c))) : AB l G (rmD 2) 0 0 mt_X11_isOwner (ZQ G mt_X11_isOwner Q) 0 [(0, .ref (gA G 10 0 0)), (1, .int a1)] [] (C, X) := by
  unfold f_X11_isOwner at h
  refine ab_iloadn 1 dX11_isOwner_0 rfl ?_
  refine ab_iconst (v := 0) dX11_isOwner_1 (by decide) ?_
  refine ab_aloadn 0 dX11_isOwner_2 rfl ?_
  refine f_gr (x := 6) (k2 := 10) (i2 := 0) (j2 := 2) ⟨by decide, by decide⟩ rfl rfl (Nat.le_of_ble_eq_true rfl) wd_406 rfl rfl dX11_isOwner_3 ?_
  refine ab_iconst (v := 2) dX11_isOwner_6 (by decide) ?_
  refine fX_iald ⟨by decide, by decide⟩ rfl (fun _ => rfl) h dX11_isOwner_7 (fun v1 h => ?_)
  refine ab_iconst (v := 1) dX11_isOwner_8 (by decide) ?_
  refine ab_isub dX11_isOwner_9 ?_
  refine fX_Si (mtc := mt_X11_isIn) (As := [.int a1, .int 0, .int (v1 - 1)]) h (fun Q h => ct_X11_isIn a1 0 (v1 - 1) X h) mw_X11_isIn wd_382 wd_383 rfl rfl ⟨Nat.le_of_ble_eq_true rfl, Nat.le_of_ble_eq_true rfl⟩ ⟨Nat.zero_le _, Nat.zero_le _⟩ (Nat.le_of_ble_eq_true rfl) rfl dX11_isOwner_10 (fun v2 X3 h => ?_)
  exact fX_iretb h rfl dX11_isOwner_13
theorem ct_X11_isOwner {l : Launch} {G : GX} {C : CM} {Q : Int32 → Mem → Prop} (a1 : Int32) (X : XM) (h : SAT (f_X11_isOwner a1 X) (fun v c => Q v (C, c))) : CT l G 2 mt_X11_isOwner [.ref (gA G 10 0 0), .int a1] (C, X) Q := ct_of pn_X11 (Nat.le_of_ble_eq_true rfl) (t_X11_isOwner_0 a1 X h)
def f_X11_owner_24 (a1 : Int32) (a2 : Int32) (as0 : Int32) (X : XM) : Option (Int32 × XM) := cal (f_X11_throwsIf as0 X) (fun v1 X2 => (if v1 = 0 then (if a2 = 0 then ldA (X2.1 2) 845 (7 + a1) (fun v5 => (rt v5 X2)) else if a2 = 1 then ldA (X2.1 2) 845 (373 + a1) (fun v7 => (rt v7 X2)) else if a2 = 2 then ldA (X2.1 2) 845 (381 + a1) (fun v9 => (rt v9 X2)) else if a2 = 3 then ldA (X2.1 2) 845 (23 + a1) (fun v11 => (rt v11 X2)) else if a2 = 4 then ldA (X2.1 2) 845 (389 + a1) (fun v13 => (rt v13 X2)) else if a2 = 5 then ldA (X2.1 2) 845 (397 + a1) (fun v15 => (rt v15 X2)) else if a2 = 6 then ldA (X2.1 2) 845 (405 + a1) (fun v17 => (rt v17 X2)) else if a2 = 7 then ldA (X2.1 2) 845 (47 + a1) (fun v19 => (rt (v19 - 1) X2)) else if a2 = 8 then ldA (X2.1 2) 845 (55 + a1) (fun v21 => (rt (v21 - 1) X2)) else if a2 = 9 then ldA (X2.1 2) 845 (413 + a1) (fun v23 => (rt v23 X2)) else ldA (X2.1 2) 845 (421 + a1) (fun v24 => (rt v24 X2))) else (rt 0 X2)))
def f_X11_owner_19 (a1 : Int32) (a2 : Int32) (X : XM) : Option (Int32 × XM) := (f_X11_owner_24 a1 a2 1 X)
def f_X11_owner (a1 : Int32) (a2 : Int32) (X : XM) : Option (Int32 × XM) := cal (f_X11_isOwner a1 X) (fun v1 X2 => (if v1 = 0 then (f_X11_owner_19 a1 a2 X2) else cal (f_X11_isIn a2 0 10 X2) (fun v4 X5 => (if v4 = 0 then (f_X11_owner_19 a1 a2 X5) else (f_X11_owner_24 a1 a2 0 X5)))))
set_option maxRecDepth 8000 in
theorem t_X11_owner_24 {l : Launch} {G : GX} {C : CM} {Q : Int32 → Mem → Prop} (a1 : Int32) (a2 : Int32) (as0 : Int32) (X : XM) (h : SAT (f_X11_owner_24 a1 a2 as0 X) (fun v c => Q v (C, c))) : AB l G (rmD 3) 0 0 mt_X11_owner (ZQ G mt_X11_owner Q) 24 [(0, .ref (gA G 10 0 0)), (1, .int a1), (2, .int a2)] [.int as0, .ref (gA G 10 0 0)] (C, X) := by
  unfold f_X11_owner_24 at h
  refine fX_Vi (mtc := mt_X11_throwsIf) (As := [.int as0]) h (fun Q h => ct_X11_throwsIf as0 X h) ⟨by decide, by decide⟩ rfl rfl rfl mw_X11_throwsIf wd_410 rfl rfl ⟨Nat.le_of_ble_eq_true rfl, Nat.le_of_ble_eq_true rfl⟩ ⟨Nat.zero_le _, Nat.zero_le _⟩ (Nat.le_of_ble_eq_true rfl) rfl dX11_owner_24 (fun v1 X2 h => ?_)
  refine ab_if_eq (tgt := 32) dX11_owner_27 (by decide) (fun hc3 => ?_) (fun hc3 => ?_)
  · have h := sat_t hc3 h
    refine ab_iloadn 2 dX11_owner_32 rfl ?_
    by_cases hc4 : a2 = 0
    · have h := sat_t hc4 h
      refine ab_tin (tgt := 88) (off := 55) hc4 (by decide) (by decide) (by decide) (by decide) dX11_owner_33 ?_
      refine ab_aloadn 0 dX11_owner_88 rfl ?_
      refine f_gr (x := 6) (k2 := 10) (i2 := 0) (j2 := 2) ⟨by decide, by decide⟩ rfl rfl (Nat.le_of_ble_eq_true rfl) wd_406 rfl rfl dX11_owner_89 ?_
      refine ab_bipush (v := 7) dX11_owner_92 (by decide) ?_
      refine ab_iloadn 1 dX11_owner_94 rfl ?_
      refine ab_iadd dX11_owner_95 ?_
      refine fX_iald ⟨by decide, by decide⟩ rfl (fun _ => rfl) h dX11_owner_96 (fun v5 h => ?_)
      exact fX_iret h rfl rfl dX11_owner_97
    have h := sat_f hc4 h
    by_cases hc6 : a2 = 1
    · have h := sat_t hc6 h
      refine ab_tin (tgt := 98) (off := 65) hc6 (by decide) (by decide) (by decide) (by decide) dX11_owner_33 ?_
      refine ab_aloadn 0 dX11_owner_98 rfl ?_
      refine f_gr (x := 6) (k2 := 10) (i2 := 0) (j2 := 2) ⟨by decide, by decide⟩ rfl rfl (Nat.le_of_ble_eq_true rfl) wd_406 rfl rfl dX11_owner_99 ?_
      refine ab_sipush (v := 373) dX11_owner_102 (by decide) ?_
      refine ab_iloadn 1 dX11_owner_105 rfl ?_
      refine ab_iadd dX11_owner_106 ?_
      refine fX_iald ⟨by decide, by decide⟩ rfl (fun _ => rfl) h dX11_owner_107 (fun v7 h => ?_)
      exact fX_iret h rfl rfl dX11_owner_108
    have h := sat_f hc6 h
    by_cases hc8 : a2 = 2
    · have h := sat_t hc8 h
      refine ab_tin (tgt := 109) (off := 76) hc8 (by decide) (by decide) (by decide) (by decide) dX11_owner_33 ?_
      refine ab_aloadn 0 dX11_owner_109 rfl ?_
      refine f_gr (x := 6) (k2 := 10) (i2 := 0) (j2 := 2) ⟨by decide, by decide⟩ rfl rfl (Nat.le_of_ble_eq_true rfl) wd_406 rfl rfl dX11_owner_110 ?_
      refine ab_sipush (v := 381) dX11_owner_113 (by decide) ?_
      refine ab_iloadn 1 dX11_owner_116 rfl ?_
      refine ab_iadd dX11_owner_117 ?_
      refine fX_iald ⟨by decide, by decide⟩ rfl (fun _ => rfl) h dX11_owner_118 (fun v9 h => ?_)
      exact fX_iret h rfl rfl dX11_owner_119
    have h := sat_f hc8 h
    by_cases hc10 : a2 = 3
    · have h := sat_t hc10 h
      refine ab_tin (tgt := 120) (off := 87) hc10 (by decide) (by decide) (by decide) (by decide) dX11_owner_33 ?_
      refine ab_aloadn 0 dX11_owner_120 rfl ?_
      refine f_gr (x := 6) (k2 := 10) (i2 := 0) (j2 := 2) ⟨by decide, by decide⟩ rfl rfl (Nat.le_of_ble_eq_true rfl) wd_406 rfl rfl dX11_owner_121 ?_
      refine ab_bipush (v := 23) dX11_owner_124 (by decide) ?_
      refine ab_iloadn 1 dX11_owner_126 rfl ?_
      refine ab_iadd dX11_owner_127 ?_
      refine fX_iald ⟨by decide, by decide⟩ rfl (fun _ => rfl) h dX11_owner_128 (fun v11 h => ?_)
      exact fX_iret h rfl rfl dX11_owner_129
    have h := sat_f hc10 h
    by_cases hc12 : a2 = 4
    · have h := sat_t hc12 h
      refine ab_tin (tgt := 130) (off := 97) hc12 (by decide) (by decide) (by decide) (by decide) dX11_owner_33 ?_
      refine ab_aloadn 0 dX11_owner_130 rfl ?_
      refine f_gr (x := 6) (k2 := 10) (i2 := 0) (j2 := 2) ⟨by decide, by decide⟩ rfl rfl (Nat.le_of_ble_eq_true rfl) wd_406 rfl rfl dX11_owner_131 ?_
      refine ab_sipush (v := 389) dX11_owner_134 (by decide) ?_
      refine ab_iloadn 1 dX11_owner_137 rfl ?_
      refine ab_iadd dX11_owner_138 ?_
      refine fX_iald ⟨by decide, by decide⟩ rfl (fun _ => rfl) h dX11_owner_139 (fun v13 h => ?_)
      exact fX_iret h rfl rfl dX11_owner_140
    have h := sat_f hc12 h
    by_cases hc14 : a2 = 5
    · have h := sat_t hc14 h
      refine ab_tin (tgt := 141) (off := 108) hc14 (by decide) (by decide) (by decide) (by decide) dX11_owner_33 ?_
      refine ab_aloadn 0 dX11_owner_141 rfl ?_
      refine f_gr (x := 6) (k2 := 10) (i2 := 0) (j2 := 2) ⟨by decide, by decide⟩ rfl rfl (Nat.le_of_ble_eq_true rfl) wd_406 rfl rfl dX11_owner_142 ?_
      refine ab_sipush (v := 397) dX11_owner_145 (by decide) ?_
      refine ab_iloadn 1 dX11_owner_148 rfl ?_
      refine ab_iadd dX11_owner_149 ?_
      refine fX_iald ⟨by decide, by decide⟩ rfl (fun _ => rfl) h dX11_owner_150 (fun v15 h => ?_)
      exact fX_iret h rfl rfl dX11_owner_151
    have h := sat_f hc14 h
    by_cases hc16 : a2 = 6
    · have h := sat_t hc16 h
      refine ab_tin (tgt := 152) (off := 119) hc16 (by decide) (by decide) (by decide) (by decide) dX11_owner_33 ?_
      refine ab_aloadn 0 dX11_owner_152 rfl ?_
      refine f_gr (x := 6) (k2 := 10) (i2 := 0) (j2 := 2) ⟨by decide, by decide⟩ rfl rfl (Nat.le_of_ble_eq_true rfl) wd_406 rfl rfl dX11_owner_153 ?_
      refine ab_sipush (v := 405) dX11_owner_156 (by decide) ?_
      refine ab_iloadn 1 dX11_owner_159 rfl ?_
      refine ab_iadd dX11_owner_160 ?_
      refine fX_iald ⟨by decide, by decide⟩ rfl (fun _ => rfl) h dX11_owner_161 (fun v17 h => ?_)
      exact fX_iret h rfl rfl dX11_owner_162
    have h := sat_f hc16 h
    by_cases hc18 : a2 = 7
    · have h := sat_t hc18 h
      refine ab_tin (tgt := 163) (off := 130) hc18 (by decide) (by decide) (by decide) (by decide) dX11_owner_33 ?_
      refine ab_aloadn 0 dX11_owner_163 rfl ?_
      refine f_gr (x := 6) (k2 := 10) (i2 := 0) (j2 := 2) ⟨by decide, by decide⟩ rfl rfl (Nat.le_of_ble_eq_true rfl) wd_406 rfl rfl dX11_owner_164 ?_
      refine ab_bipush (v := 47) dX11_owner_167 (by decide) ?_
      refine ab_iloadn 1 dX11_owner_169 rfl ?_
      refine ab_iadd dX11_owner_170 ?_
      refine fX_iald ⟨by decide, by decide⟩ rfl (fun _ => rfl) h dX11_owner_171 (fun v19 h => ?_)
      refine ab_iconst (v := 1) dX11_owner_172 (by decide) ?_
      refine ab_isub dX11_owner_173 ?_
      exact fX_iret h rfl rfl dX11_owner_174
    have h := sat_f hc18 h
    by_cases hc20 : a2 = 8
    · have h := sat_t hc20 h
      refine ab_tin (tgt := 175) (off := 142) hc20 (by decide) (by decide) (by decide) (by decide) dX11_owner_33 ?_
      refine ab_aloadn 0 dX11_owner_175 rfl ?_
      refine f_gr (x := 6) (k2 := 10) (i2 := 0) (j2 := 2) ⟨by decide, by decide⟩ rfl rfl (Nat.le_of_ble_eq_true rfl) wd_406 rfl rfl dX11_owner_176 ?_
      refine ab_bipush (v := 55) dX11_owner_179 (by decide) ?_
      refine ab_iloadn 1 dX11_owner_181 rfl ?_
      refine ab_iadd dX11_owner_182 ?_
      refine fX_iald ⟨by decide, by decide⟩ rfl (fun _ => rfl) h dX11_owner_183 (fun v21 h => ?_)
      refine ab_iconst (v := 1) dX11_owner_184 (by decide) ?_
      refine ab_isub dX11_owner_185 ?_
      exact fX_iret h rfl rfl dX11_owner_186
    have h := sat_f hc20 h
    by_cases hc22 : a2 = 9
    · have h := sat_t hc22 h
      refine ab_tin (tgt := 187) (off := 154) hc22 (by decide) (by decide) (by decide) (by decide) dX11_owner_33 ?_
      refine ab_aloadn 0 dX11_owner_187 rfl ?_
      refine f_gr (x := 6) (k2 := 10) (i2 := 0) (j2 := 2) ⟨by decide, by decide⟩ rfl rfl (Nat.le_of_ble_eq_true rfl) wd_406 rfl rfl dX11_owner_188 ?_
      refine ab_sipush (v := 413) dX11_owner_191 (by decide) ?_
      refine ab_iloadn 1 dX11_owner_194 rfl ?_
      refine ab_iadd dX11_owner_195 ?_
      refine fX_iald ⟨by decide, by decide⟩ rfl (fun _ => rfl) h dX11_owner_196 (fun v23 h => ?_)
      exact fX_iret h rfl rfl dX11_owner_197
    have h := sat_f hc22 h
    refine ab_tout (tgt := 198) (by have := ne_toI hc4 (show Int32.toInt 0 = 0 by decide); have := ne_toI hc6 (show Int32.toInt 1 = 1 by decide); have := ne_toI hc8 (show Int32.toInt 2 = 2 by decide); have := ne_toI hc10 (show Int32.toInt 3 = 3 by decide); have := ne_toI hc12 (show Int32.toInt 4 = 4 by decide); have := ne_toI hc14 (show Int32.toInt 5 = 5 by decide); have := ne_toI hc16 (show Int32.toInt 6 = 6 by decide); have := ne_toI hc18 (show Int32.toInt 7 = 7 by decide); have := ne_toI hc20 (show Int32.toInt 8 = 8 by decide); have := ne_toI hc22 (show Int32.toInt 9 = 9 by decide); omega) (by decide) dX11_owner_33 ?_
    refine ab_aloadn 0 dX11_owner_198 rfl ?_
    refine f_gr (x := 6) (k2 := 10) (i2 := 0) (j2 := 2) ⟨by decide, by decide⟩ rfl rfl (Nat.le_of_ble_eq_true rfl) wd_406 rfl rfl dX11_owner_199 ?_
    refine ab_sipush (v := 421) dX11_owner_202 (by decide) ?_
    refine ab_iloadn 1 dX11_owner_205 rfl ?_
    refine ab_iadd dX11_owner_206 ?_
    refine fX_iald ⟨by decide, by decide⟩ rfl (fun _ => rfl) h dX11_owner_207 (fun v24 h => ?_)
    exact fX_iret h rfl rfl dX11_owner_208
  · have h := sat_f hc3 h
    refine ab_iconst (v := 0) dX11_owner_30 (by decide) ?_
    exact fX_iret h rfl rfl dX11_owner_31
set_option maxRecDepth 8000 in
theorem t_X11_owner_19 {l : Launch} {G : GX} {C : CM} {Q : Int32 → Mem → Prop} (a1 : Int32) (a2 : Int32) (X : XM) (h : SAT (f_X11_owner_19 a1 a2 X) (fun v c => Q v (C, c))) : AB l G (rmD 3) 0 0 mt_X11_owner (ZQ G mt_X11_owner Q) 19 [(0, .ref (gA G 10 0 0)), (1, .int a1), (2, .int a2)] [.ref (gA G 10 0 0)] (C, X) := by
  unfold f_X11_owner_19 at h
  refine ab_iconst (v := 1) dX11_owner_19 (by decide) ?_
  refine ab_goto (tgt := 24) dX11_owner_20 (by decide) ?_
  exact t_X11_owner_24 a1 a2 1 X h
set_option maxRecDepth 8000 in
theorem t_X11_owner_0 {l : Launch} {G : GX} {C : CM} {Q : Int32 → Mem → Prop} (a1 : Int32) (a2 : Int32) (X : XM) (h : SAT (f_X11_owner a1 a2 X) (fun v c => Q v (C, c))) : AB l G (rmD 3) 0 0 mt_X11_owner (ZQ G mt_X11_owner Q) 0 [(0, .ref (gA G 10 0 0)), (1, .int a1), (2, .int a2)] [] (C, X) := by
  unfold f_X11_owner at h
  refine ab_aloadn 0 dX11_owner_0 rfl ?_
  refine ab_aloadn 0 dX11_owner_1 rfl ?_
  refine ab_iloadn 1 dX11_owner_2 rfl ?_
  refine fX_Vi (mtc := mt_X11_isOwner) (As := [.int a1]) h (fun Q h => ct_X11_isOwner a1 X h) ⟨by decide, by decide⟩ rfl rfl rfl mw_X11_isOwner wd_413 rfl rfl ⟨Nat.le_of_ble_eq_true rfl, Nat.le_of_ble_eq_true rfl⟩ ⟨Nat.zero_le _, Nat.zero_le _⟩ (Nat.le_of_ble_eq_true rfl) rfl dX11_owner_3 (fun v1 X2 h => ?_)
  refine ab_if_eq (tgt := 19) dX11_owner_6 (by decide) (fun hc3 => ?_) (fun hc3 => ?_)
  · have h := sat_t hc3 h
    exact t_X11_owner_19 a1 a2 X2 h
  · have h := sat_f hc3 h
    refine ab_iloadn 2 dX11_owner_9 rfl ?_
    refine ab_iconst (v := 0) dX11_owner_10 (by decide) ?_
    refine ab_bipush (v := 10) dX11_owner_11 (by decide) ?_
    refine fX_Si (mtc := mt_X11_isIn) (As := [.int a2, .int 0, .int 10]) h (fun Q h => ct_X11_isIn a2 0 10 X2 h) mw_X11_isIn wd_382 wd_383 rfl rfl ⟨Nat.le_of_ble_eq_true rfl, Nat.le_of_ble_eq_true rfl⟩ ⟨Nat.zero_le _, Nat.zero_le _⟩ (Nat.le_of_ble_eq_true rfl) rfl dX11_owner_13 (fun v4 X5 h => ?_)
    refine ab_if_ne (tgt := 23) dX11_owner_16 (by decide) (fun hc6 => ?_) (fun hc6 => ?_)
    · have h := sat_f hc6 h
      refine ab_iconst (v := 0) dX11_owner_23 (by decide) ?_
      exact t_X11_owner_24 a1 a2 0 X5 h
    · have h := sat_t hc6 h
      exact t_X11_owner_19 a1 a2 X5 h
theorem ct_X11_owner {l : Launch} {G : GX} {C : CM} {Q : Int32 → Mem → Prop} (a1 : Int32) (a2 : Int32) (X : XM) (h : SAT (f_X11_owner a1 a2 X) (fun v c => Q v (C, c))) : CT l G 3 mt_X11_owner [.ref (gA G 10 0 0), .int a1, .int a2] (C, X) Q := ct_of pn_X11 (Nat.le_of_ble_eq_true rfl) (t_X11_owner_0 a1 a2 X h)
def f_X11_gust_54 (a1 : Int32) (as0 : Int32) (X : XM) : Option (Int32 × XM) := ldA (X.1 2) 845 (as0 + a1) (fun v1 => (rt v1 X))
def f_X11_gust (a1 : Int32) (a2 : Int32) (X : XM) : Option (Int32 × XM) := bnd (stX X 0 0 0) (fun X1 => cal (f_X11_isIn a1 0 47 X1) (fun v2 X3 => (if v2 = 0 then (rt (-1) X3) else cal (f_X11_isIn a2 0 1 X3) (fun v5 X6 => (if v5 = 0 then (rt (-1) X6) else ldA (X6.1 2) 845 (223 + a1) (fun v8 => (if v8 ≤ 0 then (rt (-1) X6) else (if a2 = 0 then (f_X11_gust_54 a1 175 X6) else (f_X11_gust_54 a1 223 X6)))))))))
set_option maxRecDepth 8000 in
theorem t_X11_gust_54 {l : Launch} {G : GX} {C : CM} {Q : Int32 → Mem → Prop} (a1 : Int32) (as0 : Int32) (X : XM) (h : SAT (f_X11_gust_54 a1 as0 X) (fun v c => Q v (C, c))) : AB l G (rmD 2) 0 0 mt_X11_gust (ZQ G mt_X11_gust Q) 54 [(1, .int a1)] [.int as0, .ref (gA G 10 0 2)] (C, X) := by
  unfold f_X11_gust_54 at h
  refine ab_iloadn 0 dX11_gust_54 rfl ?_
  refine ab_iadd dX11_gust_55 ?_
  refine fX_iald ⟨by decide, by decide⟩ rfl (fun _ => rfl) h dX11_gust_56 (fun v1 h => ?_)
  refine ab_goto (tgt := 61) dX11_gust_57 (by decide) ?_
  exact fX_iret h rfl rfl dX11_gust_61
set_option maxRecDepth 8000 in
theorem t_X11_gust_0 {l : Launch} {G : GX} {C : CM} {Q : Int32 → Mem → Prop} (a1 : Int32) (a2 : Int32) (X : XM) (h : SAT (f_X11_gust a1 a2 X) (fun v c => Q v (C, c))) : AB l G (rmD 2) 0 0 mt_X11_gust (ZQ G mt_X11_gust Q) 0 [(0, .ref (gA G 10 0 0)), (1, .int a1), (2, .int a2)] [] (C, X) := by
  unfold f_X11_gust at h
  refine ab_aloadn 0 dX11_gust_0 rfl ?_
  refine ab_iconst (v := 0) dX11_gust_1 (by decide) ?_
  refine fX_pi (x := 0) (ty := .int) ⟨by decide, by decide⟩ rfl rfl (Nat.le_of_ble_eq_true rfl) wd_344 rfl h rfl (by decide +kernel) rfl rfl dX11_gust_2 (fun X1 h => ?_)
  refine ab_iloadn 1 dX11_gust_5 rfl ?_
  refine ab_iconst (v := 0) dX11_gust_6 (by decide) ?_
  refine ab_bipush (v := 47) dX11_gust_7 (by decide) ?_
  refine fX_Si (mtc := mt_X11_isIn) (As := [.int a1, .int 0, .int 47]) h (fun Q h => ct_X11_isIn a1 0 47 X1 h) mw_X11_isIn wd_382 wd_383 rfl rfl ⟨Nat.le_of_ble_eq_true rfl, Nat.le_of_ble_eq_true rfl⟩ ⟨Nat.zero_le _, Nat.zero_le _⟩ (Nat.le_of_ble_eq_true rfl) rfl dX11_gust_9 (fun v2 X3 h => ?_)
  refine ab_if_eq (tgt := 60) dX11_gust_12 (by decide) (fun hc4 => ?_) (fun hc4 => ?_)
  · have h := sat_t hc4 h
    refine ab_iconst (v := (-1)) dX11_gust_60 (by decide) ?_
    exact fX_iret h rfl rfl dX11_gust_61
  · have h := sat_f hc4 h
    refine ab_iloadn 2 dX11_gust_15 rfl ?_
    refine ab_iconst (v := 0) dX11_gust_16 (by decide) ?_
    refine ab_iconst (v := 1) dX11_gust_17 (by decide) ?_
    refine fX_Si (mtc := mt_X11_isIn) (As := [.int a2, .int 0, .int 1]) h (fun Q h => ct_X11_isIn a2 0 1 X3 h) mw_X11_isIn wd_382 wd_383 rfl rfl ⟨Nat.le_of_ble_eq_true rfl, Nat.le_of_ble_eq_true rfl⟩ ⟨Nat.zero_le _, Nat.zero_le _⟩ (Nat.le_of_ble_eq_true rfl) rfl dX11_gust_18 (fun v5 X6 h => ?_)
    refine ab_if_eq (tgt := 60) dX11_gust_21 (by decide) (fun hc7 => ?_) (fun hc7 => ?_)
    · have h := sat_t hc7 h
      refine ab_iconst (v := (-1)) dX11_gust_60 (by decide) ?_
      exact fX_iret h rfl rfl dX11_gust_61
    · have h := sat_f hc7 h
      refine ab_aloadn 0 dX11_gust_24 rfl ?_
      refine f_gr (x := 6) (k2 := 10) (i2 := 0) (j2 := 2) ⟨by decide, by decide⟩ rfl rfl (Nat.le_of_ble_eq_true rfl) wd_406 rfl rfl dX11_gust_25 ?_
      refine ab_sipush (v := 223) dX11_gust_28 (by decide) ?_
      refine ab_iloadn 1 dX11_gust_31 rfl ?_
      refine ab_iadd dX11_gust_32 ?_
      refine fX_iald ⟨by decide, by decide⟩ rfl (fun _ => rfl) h dX11_gust_33 (fun v8 h => ?_)
      refine ab_if_le (tgt := 60) dX11_gust_34 (by decide) (fun hc9 => ?_) (fun hc9 => ?_)
      · have h := sat_t hc9 h
        refine ab_iconst (v := (-1)) dX11_gust_60 (by decide) ?_
        exact fX_iret h rfl rfl dX11_gust_61
      · have h := sat_f hc9 h
        refine ab_aloadn 0 dX11_gust_37 rfl ?_
        refine f_gr (x := 6) (k2 := 10) (i2 := 0) (j2 := 2) ⟨by decide, by decide⟩ rfl rfl (Nat.le_of_ble_eq_true rfl) wd_406 rfl rfl dX11_gust_38 ?_
        refine ab_iloadn 2 dX11_gust_41 rfl ?_
        refine ab_if_ne (tgt := 51) dX11_gust_42 (by decide) (fun hc10 => ?_) (fun hc10 => ?_)
        · have h := sat_f hc10 h
          refine ab_sipush (v := 223) dX11_gust_51 (by decide) ?_
          refine ab_sub [1] rfl ?_
          exact t_X11_gust_54 a1 223 X6 h
        · have h := sat_t hc10 h
          refine ab_sipush (v := 175) dX11_gust_45 (by decide) ?_
          refine ab_goto (tgt := 54) dX11_gust_48 (by decide) ?_
          refine ab_sub [1] rfl ?_
          exact t_X11_gust_54 a1 175 X6 h
theorem ct_X11_gust {l : Launch} {G : GX} {C : CM} {Q : Int32 → Mem → Prop} (a1 : Int32) (a2 : Int32) (X : XM) (h : SAT (f_X11_gust a1 a2 X) (fun v c => Q v (C, c))) : CT l G 2 mt_X11_gust [.ref (gA G 10 0 0), .int a1, .int a2] (C, X) Q := ct_of pn_X11 (Nat.le_of_ble_eq_true rfl) (t_X11_gust_0 a1 a2 X h)
def f_X11_isGust (a0 : Int32) (a1 : Int32) (X : XM) : Option (Int32 × XM) := cal (f_X11_isIn a0 0 7 X) (fun v1 X2 => (if v1 = 0 then (rt 0 X2) else cal (f_X11_isIn a1 1 9 X2) (fun v4 X5 => (if v4 = 0 then (rt 0 X5) else (rt 1 X5)))))
set_option maxRecDepth 8000 in
theorem t_X11_isGust_0 {l : Launch} {G : GX} {C : CM} {Q : Int32 → Mem → Prop} (a0 : Int32) (a1 : Int32) (X : XM) (h : SAT (f_X11_isGust a0 a1 X) (fun v c => Q v (C, c))) : AB l G (rmD 2) 0 0 mt_X11_isGust (ZQ G mt_X11_isGust Q) 0 [(0, .int a0), (1, .int a1)] [] (C, X) := by
  unfold f_X11_isGust at h
  refine ab_iloadn 0 dX11_isGust_0 rfl ?_
  refine ab_iconst (v := 0) dX11_isGust_1 (by decide) ?_
  refine ab_bipush (v := 7) dX11_isGust_2 (by decide) ?_
  refine fX_Si (mtc := mt_X11_isIn) (As := [.int a0, .int 0, .int 7]) h (fun Q h => ct_X11_isIn a0 0 7 X h) mw_X11_isIn wd_382 wd_383 rfl rfl ⟨Nat.le_of_ble_eq_true rfl, Nat.le_of_ble_eq_true rfl⟩ ⟨Nat.zero_le _, Nat.zero_le _⟩ (Nat.le_of_ble_eq_true rfl) rfl dX11_isGust_4 (fun v1 X2 h => ?_)
  refine ab_if_eq (tgt := 24) dX11_isGust_7 (by decide) (fun hc3 => ?_) (fun hc3 => ?_)
  · have h := sat_t hc3 h
    refine ab_iconst (v := 0) dX11_isGust_24 (by decide) ?_
    exact fX_iret h rfl rfl dX11_isGust_25
  · have h := sat_f hc3 h
    refine ab_iloadn 1 dX11_isGust_10 rfl ?_
    refine ab_iconst (v := 1) dX11_isGust_11 (by decide) ?_
    refine ab_bipush (v := 9) dX11_isGust_12 (by decide) ?_
    refine fX_Si (mtc := mt_X11_isIn) (As := [.int a1, .int 1, .int 9]) h (fun Q h => ct_X11_isIn a1 1 9 X2 h) mw_X11_isIn wd_382 wd_383 rfl rfl ⟨Nat.le_of_ble_eq_true rfl, Nat.le_of_ble_eq_true rfl⟩ ⟨Nat.zero_le _, Nat.zero_le _⟩ (Nat.le_of_ble_eq_true rfl) rfl dX11_isGust_14 (fun v4 X5 h => ?_)
    refine ab_if_eq (tgt := 24) dX11_isGust_17 (by decide) (fun hc6 => ?_) (fun hc6 => ?_)
    · have h := sat_t hc6 h
      refine ab_iconst (v := 0) dX11_isGust_24 (by decide) ?_
      exact fX_iret h rfl rfl dX11_isGust_25
    · have h := sat_f hc6 h
      refine ab_iconst (v := 1) dX11_isGust_20 (by decide) ?_
      refine ab_goto (tgt := 25) dX11_isGust_21 (by decide) ?_
      exact fX_iret h rfl rfl dX11_isGust_25
theorem ct_X11_isGust {l : Launch} {G : GX} {C : CM} {Q : Int32 → Mem → Prop} (a0 : Int32) (a1 : Int32) (X : XM) (h : SAT (f_X11_isGust a0 a1 X) (fun v c => Q v (C, c))) : CT l G 2 mt_X11_isGust [.int a0, .int a1] (C, X) Q := ct_of pn_X11 (Nat.le_of_ble_eq_true rfl) (t_X11_isGust_0 a0 a1 X h)
def f_X11_alongX_9 (X : XM) : Option (Int32 × XM) := (rt 0 X)
def f_X11_alongX (a0 : Int32) (X : XM) : Option (Int32 × XM) := (if a0 = 0 then (f_X11_alongX_9 X) else (if a0 = 4 then (f_X11_alongX_9 X) else (if 4 ≤ a0 then (rt (-1) X) else (rt 1 X))))
set_option maxRecDepth 8000 in
theorem t_X11_alongX_9 {l : Launch} {G : GX} {C : CM} {Q : Int32 → Mem → Prop} (X : XM) (h : SAT (f_X11_alongX_9 X) (fun v c => Q v (C, c))) : AB l G (rmD 1) 0 0 mt_X11_alongX (ZQ G mt_X11_alongX Q) 9 [] [] (C, X) := by
  unfold f_X11_alongX_9 at h
  refine ab_iconst (v := 0) dX11_alongX_9 (by decide) ?_
  refine ab_goto (tgt := 23) dX11_alongX_10 (by decide) ?_
  exact fX_iret h rfl rfl dX11_alongX_23
set_option maxRecDepth 8000 in
theorem t_X11_alongX_0 {l : Launch} {G : GX} {C : CM} {Q : Int32 → Mem → Prop} (a0 : Int32) (X : XM) (h : SAT (f_X11_alongX a0 X) (fun v c => Q v (C, c))) : AB l G (rmD 1) 0 0 mt_X11_alongX (ZQ G mt_X11_alongX Q) 0 [(0, .int a0)] [] (C, X) := by
  unfold f_X11_alongX at h
  refine ab_iloadn 0 dX11_alongX_0 rfl ?_
  refine ab_if_eq (tgt := 9) dX11_alongX_1 (by decide) (fun hc1 => ?_) (fun hc1 => ?_)
  · have h := sat_t hc1 h
    refine ab_sub [] rfl ?_
    exact t_X11_alongX_9 X h
  · have h := sat_f hc1 h
    refine ab_iloadn 0 dX11_alongX_4 rfl ?_
    refine ab_iconst (v := 4) dX11_alongX_5 (by decide) ?_
    refine ab_icmp_ne (tgt := 13) dX11_alongX_6 (by decide) (fun hc2 => ?_) (fun hc2 => ?_)
    · have h := sat_f hc2 h
      refine ab_iloadn 0 dX11_alongX_13 rfl ?_
      refine ab_iconst (v := 4) dX11_alongX_14 (by decide) ?_
      refine ab_icmp_ge (tgt := 22) dX11_alongX_15 (by decide) (fun hc3 => ?_) (fun hc3 => ?_)
      · have h := sat_t hc3 h
        refine ab_iconst (v := (-1)) dX11_alongX_22 (by decide) ?_
        exact fX_iret h rfl rfl dX11_alongX_23
      · have h := sat_f hc3 h
        refine ab_iconst (v := 1) dX11_alongX_18 (by decide) ?_
        refine ab_goto (tgt := 23) dX11_alongX_19 (by decide) ?_
        exact fX_iret h rfl rfl dX11_alongX_23
    · have h := sat_t hc2 h
      refine ab_sub [] rfl ?_
      exact t_X11_alongX_9 X h
theorem ct_X11_alongX {l : Launch} {G : GX} {C : CM} {Q : Int32 → Mem → Prop} (a0 : Int32) (X : XM) (h : SAT (f_X11_alongX a0 X) (fun v c => Q v (C, c))) : CT l G 1 mt_X11_alongX [.int a0] (C, X) Q := ct_of pn_X11 (Nat.le_of_ble_eq_true rfl) (t_X11_alongX_0 a0 X h)
def f_X11_alongY_11 (X : XM) : Option (Int32 × XM) := (rt 0 X)
def f_X11_alongY (a0 : Int32) (X : XM) : Option (Int32 × XM) := (if a0 = 2 then (f_X11_alongY_11 X) else (if a0 = 6 then (f_X11_alongY_11 X) else (if a0 ≤ 2 then (rt (-1) X) else (if 6 ≤ a0 then (rt (-1) X) else (rt 1 X)))))
set_option maxRecDepth 8000 in
theorem t_X11_alongY_11 {l : Launch} {G : GX} {C : CM} {Q : Int32 → Mem → Prop} (X : XM) (h : SAT (f_X11_alongY_11 X) (fun v c => Q v (C, c))) : AB l G (rmD 1) 0 0 mt_X11_alongY (ZQ G mt_X11_alongY Q) 11 [] [] (C, X) := by
  unfold f_X11_alongY_11 at h
  refine ab_iconst (v := 0) dX11_alongY_11 (by decide) ?_
  refine ab_goto (tgt := 31) dX11_alongY_12 (by decide) ?_
  exact fX_iret h rfl rfl dX11_alongY_31
set_option maxRecDepth 8000 in
theorem t_X11_alongY_0 {l : Launch} {G : GX} {C : CM} {Q : Int32 → Mem → Prop} (a0 : Int32) (X : XM) (h : SAT (f_X11_alongY a0 X) (fun v c => Q v (C, c))) : AB l G (rmD 1) 0 0 mt_X11_alongY (ZQ G mt_X11_alongY Q) 0 [(0, .int a0)] [] (C, X) := by
  unfold f_X11_alongY at h
  refine ab_iloadn 0 dX11_alongY_0 rfl ?_
  refine ab_iconst (v := 2) dX11_alongY_1 (by decide) ?_
  refine ab_icmp_eq (tgt := 11) dX11_alongY_2 (by decide) (fun hc1 => ?_) (fun hc1 => ?_)
  · have h := sat_t hc1 h
    refine ab_sub [] rfl ?_
    exact t_X11_alongY_11 X h
  · have h := sat_f hc1 h
    refine ab_iloadn 0 dX11_alongY_5 rfl ?_
    refine ab_bipush (v := 6) dX11_alongY_6 (by decide) ?_
    refine ab_icmp_ne (tgt := 15) dX11_alongY_8 (by decide) (fun hc2 => ?_) (fun hc2 => ?_)
    · have h := sat_f hc2 h
      refine ab_iloadn 0 dX11_alongY_15 rfl ?_
      refine ab_iconst (v := 2) dX11_alongY_16 (by decide) ?_
      refine ab_icmp_le (tgt := 30) dX11_alongY_17 (by decide) (fun hc3 => ?_) (fun hc3 => ?_)
      · have h := sat_t hc3 h
        refine ab_iconst (v := (-1)) dX11_alongY_30 (by decide) ?_
        exact fX_iret h rfl rfl dX11_alongY_31
      · have h := sat_f hc3 h
        refine ab_iloadn 0 dX11_alongY_20 rfl ?_
        refine ab_bipush (v := 6) dX11_alongY_21 (by decide) ?_
        refine ab_icmp_ge (tgt := 30) dX11_alongY_23 (by decide) (fun hc4 => ?_) (fun hc4 => ?_)
        · have h := sat_t hc4 h
          refine ab_iconst (v := (-1)) dX11_alongY_30 (by decide) ?_
          exact fX_iret h rfl rfl dX11_alongY_31
        · have h := sat_f hc4 h
          refine ab_iconst (v := 1) dX11_alongY_26 (by decide) ?_
          refine ab_goto (tgt := 31) dX11_alongY_27 (by decide) ?_
          exact fX_iret h rfl rfl dX11_alongY_31
    · have h := sat_t hc2 h
      refine ab_sub [] rfl ?_
      exact t_X11_alongY_11 X h
theorem ct_X11_alongY {l : Launch} {G : GX} {C : CM} {Q : Int32 → Mem → Prop} (a0 : Int32) (X : XM) (h : SAT (f_X11_alongY a0 X) (fun v c => Q v (C, c))) : CT l G 1 mt_X11_alongY [.int a0] (C, X) Q := ct_of pn_X11 (Nat.le_of_ble_eq_true rfl) (t_X11_alongY_0 a0 X h)
def f_X11_comesTo_155 (N : Nat) (a1 : Int32) (a2 : Int32) (as0 : Int32) (X : XM) : Option (Int32 × XM) := bnd (stX X 0 27 as0) (fun X1 => ldA (X1.1 2) 845 (75 + a1) (fun v2 => bnd (stX X1 0 26 ((a2 + v2) - (a2 + v2) / 8 * 8)) (fun X3 => (rt 0 X3))))
def f_X11_comesTo_129 (N : Nat) (k8 : Int32 → XM → Option (Int32 × XM)) (a1 : Int32) (a2 : Int32) (a4 : Int32) (as0 : Int32) (as1 : Int32) (X : XM) : Option (Int32 × XM) := bnd (stX X 0 27 (as1 - as0)) (fun X1 => (k8 (a4 + 1) X1))
def f_X11_comesTo_8 (N : Nat) (a1 : Int32) (a2 : Int32) : Nat → Int32 → XM → Option (Int32 × XM)
  | 0, _, _ => none
  | n + 1, a4, X => (if 4 ≤ a4 then (if 0 ≤ (X.1 0 27) then (f_X11_comesTo_155 N a1 a2 (X.1 0 27) X) else (f_X11_comesTo_155 N a1 a2 0 X)) else cal (f_X11_alongX a2 X) (fun v3 X4 => cal (f_X11_alongY a2 X4) (fun v5 X6 => ldA (X6.1 2) 845 0 (fun v7 => cal (f_X11_isIn ((a1 - a1 / 10 * 10) + (a4 * v3)) 0 (v7 - 1) X6) (fun v8 X9 => (if v8 = 0 then (f_X11_comesTo_8 N a1 a2 n (a4 + 1) X9) else ldA (X9.1 2) 845 1 (fun v11 => cal (f_X11_isIn ((a1 / 10) + (a4 * v5)) 0 (v11 - 1) X9) (fun v12 X13 => (if v12 = 0 then (f_X11_comesTo_8 N a1 a2 n (a4 + 1) X13) else cal (f_X11_treeAt N ((10 * ((a1 / 10) + (a4 * v5))) + ((a1 - a1 / 10 * 10) + (a4 * v3))) X13) (fun v15 X16 => (if v15 < 0 then ldA (X16.1 2) 845 ((441 + (10 * ((a1 / 10) + (a4 * v5)))) + ((a1 - a1 / 10 * 10) + (a4 * v3))) (fun v18 => (if v18 = 1 then (f_X11_comesTo_129 N (fun z4 c => f_X11_comesTo_8 N a1 a2 n z4 c) a1 a2 a4 3 (X13.1 0 27) X16) else (f_X11_comesTo_129 N (fun z4 c => f_X11_comesTo_8 N a1 a2 n z4 c) a1 a2 a4 0 (X13.1 0 27) X16))) else (f_X11_comesTo_129 N (fun z4 c => f_X11_comesTo_8 N a1 a2 n z4 c) a1 a2 a4 2 (X13.1 0 27) X16))))))))))))
def f_X11_comesTo (N : Nat) (a1 : Int32) (a2 : Int32) (a3 : Int32) (X : XM) : Option (Int32 × XM) := bnd (stX X 0 27 a3) (fun X1 => (f_X11_comesTo_8 N a1 a2 N 1 X1))
set_option maxRecDepth 8000 in
theorem t_X11_comesTo_155 {l : Launch} {G : GX} {C : CM} {Q : Int32 → Mem → Prop} (N : Nat) (a1 : Int32) (a2 : Int32) (as0 : Int32) (X : XM) (h : SAT (f_X11_comesTo_155 N a1 a2 as0 X) (fun v c => Q v (C, c))) : AB l G (rmD 2) 0 0 mt_X11_comesTo (ZQ G mt_X11_comesTo Q) 155 [(0, .ref (gA G 10 0 0)), (1, .int a1), (2, .int a2)] [.int as0, .ref (gA G 10 0 0)] (C, X) := by
  unfold f_X11_comesTo_155 at h
  refine fX_pi (x := 27) (ty := .int) ⟨by decide, by decide⟩ rfl rfl (Nat.le_of_ble_eq_true rfl) wd_416 rfl h rfl (by decide +kernel) rfl rfl dX11_comesTo_155 (fun X1 h => ?_)
  refine ab_aloadn 0 dX11_comesTo_158 rfl ?_
  refine ab_iloadn 2 dX11_comesTo_159 rfl ?_
  refine ab_aloadn 0 dX11_comesTo_160 rfl ?_
  refine f_gr (x := 6) (k2 := 10) (i2 := 0) (j2 := 2) ⟨by decide, by decide⟩ rfl rfl (Nat.le_of_ble_eq_true rfl) wd_406 rfl rfl dX11_comesTo_161 ?_
  refine ab_bipush (v := 75) dX11_comesTo_164 (by decide) ?_
  refine ab_iloadn 1 dX11_comesTo_166 rfl ?_
  refine ab_iadd dX11_comesTo_167 ?_
  refine fX_iald ⟨by decide, by decide⟩ rfl (fun _ => rfl) h dX11_comesTo_168 (fun v2 h => ?_)
  refine ab_iadd dX11_comesTo_169 ?_
  refine ab_bipush (v := 8) dX11_comesTo_170 (by decide) ?_
  refine ab_irem dX11_comesTo_172 (by decide) ?_
  refine fX_pi (x := 26) (ty := .int) ⟨by decide, by decide⟩ rfl rfl (Nat.le_of_ble_eq_true rfl) wd_421 rfl h rfl (by decide +kernel) rfl rfl dX11_comesTo_173 (fun X3 h => ?_)
  exact fX_vret h rfl dX11_comesTo_176
set_option maxRecDepth 8000 in
theorem t_X11_comesTo_129 {l : Launch} {G : GX} {C : CM} {Q : Int32 → Mem → Prop} (N : Nat) (k8 : Int32 → XM → Option (Int32 × XM)) (a1 : Int32) (a2 : Int32) (a4 : Int32) (as0 : Int32) (as1 : Int32) (hk8 : ∀ (ac4 : Int32) (X : XM), SAT (k8 ac4 X) (fun v c => Q v (C, c)) → AB l G (rmD 2) 0 0 mt_X11_comesTo (ZQ G mt_X11_comesTo Q) 8 [(0, .ref (gA G 10 0 0)), (1, .int a1), (2, .int a2), (4, .int ac4)] [] (C, X)) (X : XM) (h : SAT (f_X11_comesTo_129 N k8 a1 a2 a4 as0 as1 X) (fun v c => Q v (C, c))) : AB l G (rmD 2) 0 0 mt_X11_comesTo (ZQ G mt_X11_comesTo Q) 129 [(0, .ref (gA G 10 0 0)), (1, .int a1), (2, .int a2), (4, .int a4)] [.int as0, .int as1, .ref (gA G 10 0 0)] (C, X) := by
  unfold f_X11_comesTo_129 at h
  refine ab_isub dX11_comesTo_129 ?_
  refine fX_pi (x := 27) (ty := .int) ⟨by decide, by decide⟩ rfl rfl (Nat.le_of_ble_eq_true rfl) wd_416 rfl h rfl (by decide +kernel) rfl rfl dX11_comesTo_130 (fun X1 h => ?_)
  refine ab_iinc (q := 3) (v := (a4 + 1)) (lv' := [(0, .ref (gA G 10 0 0)), (1, .int a1), (2, .int a2), (4, .int (a4 + 1))]) dX11_comesTo_133 rfl rfl rfl (Nat.le_of_ble_eq_true rfl) rfl ?_
  refine ab_goto (tgt := 8) dX11_comesTo_136 (by decide) ?_
  exact hk8 (a4 + 1) X1 h
set_option maxRecDepth 8000 in
theorem t_X11_comesTo_8 {l : Launch} {G : GX} {C : CM} {Q : Int32 → Mem → Prop} (N : Nat) (a1 : Int32) (a2 : Int32) : ∀ (n : Nat) (a4 : Int32) (X : XM), SAT (f_X11_comesTo_8 N a1 a2 n a4 X) (fun v c => Q v (C, c)) → AB l G (rmD 2) 0 0 mt_X11_comesTo (ZQ G mt_X11_comesTo Q) 8 [(0, .ref (gA G 10 0 0)), (1, .int a1), (2, .int a2), (4, .int a4)] [] (C, X) := by
  intro n
  induction n with
  | zero => intro a4 X h; exact h.elim
  | succ n ih =>
    intro a4 X h
    rw [f_X11_comesTo_8] at h
    refine ab_iload 3 dX11_comesTo_8 rfl ?_
    refine ab_iconst (v := 4) dX11_comesTo_10 (by decide) ?_
    refine ab_icmp_ge (tgt := 139) dX11_comesTo_11 (by decide) (fun hc1 => ?_) (fun hc1 => ?_)
    · have h := sat_t hc1 h
      refine ab_aloadn 0 dX11_comesTo_139 rfl ?_
      refine ab_aloadn 0 dX11_comesTo_140 rfl ?_
      refine fX_gi (x := 27) ⟨by decide, by decide⟩ rfl rfl (Nat.le_of_ble_eq_true rfl) wd_416 rfl dX11_comesTo_141 ?_
      refine ab_if_ge (tgt := 151) dX11_comesTo_144 (by decide) (fun hc2 => ?_) (fun hc2 => ?_)
      · have h := sat_t hc2 h
        refine ab_aloadn 0 dX11_comesTo_151 rfl ?_
        refine fX_gi (x := 27) ⟨by decide, by decide⟩ rfl rfl (Nat.le_of_ble_eq_true rfl) wd_416 rfl dX11_comesTo_152 ?_
        refine ab_sub [0, 1, 2] rfl ?_
        exact t_X11_comesTo_155 N a1 a2 (X.1 0 27) X h
      · have h := sat_f hc2 h
        refine ab_iconst (v := 0) dX11_comesTo_147 (by decide) ?_
        refine ab_goto (tgt := 155) dX11_comesTo_148 (by decide) ?_
        refine ab_sub [0, 1, 2] rfl ?_
        exact t_X11_comesTo_155 N a1 a2 0 X h
    · have h := sat_f hc1 h
      refine ab_iloadn 1 dX11_comesTo_14 rfl ?_
      refine ab_bipush (v := 10) dX11_comesTo_15 (by decide) ?_
      refine ab_irem dX11_comesTo_17 (by decide) ?_
      refine ab_iload 3 dX11_comesTo_18 rfl ?_
      refine ab_iloadn 2 dX11_comesTo_20 rfl ?_
      refine fX_Si (mtc := mt_X11_alongX) (As := [.int a2]) h (fun Q h => ct_X11_alongX a2 X h) mw_X11_alongX wd_417 wd_418 rfl rfl ⟨Nat.le_of_ble_eq_true rfl, Nat.le_of_ble_eq_true rfl⟩ ⟨Nat.zero_le _, Nat.zero_le _⟩ (Nat.le_of_ble_eq_true rfl) rfl dX11_comesTo_21 (fun v3 X4 h => ?_)
      refine ab_imul dX11_comesTo_24 ?_
      refine ab_iadd dX11_comesTo_25 ?_
      refine ab_istore (lv' := [(0, .ref (gA G 10 0 0)), (1, .int a1), (2, .int a2), (4, .int a4), (5, .int ((a1 - a1 / 10 * 10) + (a4 * v3)))]) dX11_comesTo_26 rfl (Nat.le_of_ble_eq_true rfl) rfl ?_
      refine ab_iloadn 1 dX11_comesTo_28 rfl ?_
      refine ab_bipush (v := 10) dX11_comesTo_29 (by decide) ?_
      refine ab_idiv dX11_comesTo_31 (by decide) ?_
      refine ab_iload 3 dX11_comesTo_32 rfl ?_
      refine ab_iloadn 2 dX11_comesTo_34 rfl ?_
      refine fX_Si (mtc := mt_X11_alongY) (As := [.int a2]) h (fun Q h => ct_X11_alongY a2 X4 h) mw_X11_alongY wd_419 wd_420 rfl rfl ⟨Nat.le_of_ble_eq_true rfl, Nat.le_of_ble_eq_true rfl⟩ ⟨Nat.zero_le _, Nat.zero_le _⟩ (Nat.le_of_ble_eq_true rfl) rfl dX11_comesTo_35 (fun v5 X6 h => ?_)
      refine ab_imul dX11_comesTo_38 ?_
      refine ab_iadd dX11_comesTo_39 ?_
      refine ab_istore (lv' := [(0, .ref (gA G 10 0 0)), (1, .int a1), (2, .int a2), (4, .int a4), (5, .int ((a1 - a1 / 10 * 10) + (a4 * v3))), (6, .int ((a1 / 10) + (a4 * v5)))]) dX11_comesTo_40 rfl (Nat.le_of_ble_eq_true rfl) rfl ?_
      refine ab_iload 4 dX11_comesTo_42 rfl ?_
      refine ab_iconst (v := 0) dX11_comesTo_44 (by decide) ?_
      refine ab_aloadn 0 dX11_comesTo_45 rfl ?_
      refine f_gr (x := 6) (k2 := 10) (i2 := 0) (j2 := 2) ⟨by decide, by decide⟩ rfl rfl (Nat.le_of_ble_eq_true rfl) wd_406 rfl rfl dX11_comesTo_46 ?_
      refine ab_iconst (v := 0) dX11_comesTo_49 (by decide) ?_
      refine fX_iald ⟨by decide, by decide⟩ rfl (fun _ => rfl) h dX11_comesTo_50 (fun v7 h => ?_)
      refine ab_iconst (v := 1) dX11_comesTo_51 (by decide) ?_
      refine ab_isub dX11_comesTo_52 ?_
      refine fX_Si (mtc := mt_X11_isIn) (As := [.int ((a1 - a1 / 10 * 10) + (a4 * v3)), .int 0, .int (v7 - 1)]) h (fun Q h => ct_X11_isIn ((a1 - a1 / 10 * 10) + (a4 * v3)) 0 (v7 - 1) X6 h) mw_X11_isIn wd_382 wd_383 rfl rfl ⟨Nat.le_of_ble_eq_true rfl, Nat.le_of_ble_eq_true rfl⟩ ⟨Nat.zero_le _, Nat.zero_le _⟩ (Nat.le_of_ble_eq_true rfl) rfl dX11_comesTo_53 (fun v8 X9 h => ?_)
      refine ab_if_eq (tgt := 133) dX11_comesTo_56 (by decide) (fun hc10 => ?_) (fun hc10 => ?_)
      · have h := sat_t hc10 h
        refine ab_iinc (q := 3) (v := (a4 + 1)) (lv' := [(0, .ref (gA G 10 0 0)), (1, .int a1), (2, .int a2), (4, .int (a4 + 1)), (5, .int ((a1 - a1 / 10 * 10) + (a4 * v3))), (6, .int ((a1 / 10) + (a4 * v5)))]) dX11_comesTo_133 rfl rfl rfl (Nat.le_of_ble_eq_true rfl) rfl ?_
        refine ab_goto (tgt := 8) dX11_comesTo_136 (by decide) ?_
        refine ab_sub [0, 1, 2, 3] rfl ?_
        exact ih (a4 + 1) X9 h
      · have h := sat_f hc10 h
        refine ab_iload 5 dX11_comesTo_59 rfl ?_
        refine ab_iconst (v := 0) dX11_comesTo_61 (by decide) ?_
        refine ab_aloadn 0 dX11_comesTo_62 rfl ?_
        refine f_gr (x := 6) (k2 := 10) (i2 := 0) (j2 := 2) ⟨by decide, by decide⟩ rfl rfl (Nat.le_of_ble_eq_true rfl) wd_406 rfl rfl dX11_comesTo_63 ?_
        refine ab_iconst (v := 1) dX11_comesTo_66 (by decide) ?_
        refine fX_iald ⟨by decide, by decide⟩ rfl (fun _ => rfl) h dX11_comesTo_67 (fun v11 h => ?_)
        refine ab_iconst (v := 1) dX11_comesTo_68 (by decide) ?_
        refine ab_isub dX11_comesTo_69 ?_
        refine fX_Si (mtc := mt_X11_isIn) (As := [.int ((a1 / 10) + (a4 * v5)), .int 0, .int (v11 - 1)]) h (fun Q h => ct_X11_isIn ((a1 / 10) + (a4 * v5)) 0 (v11 - 1) X9 h) mw_X11_isIn wd_382 wd_383 rfl rfl ⟨Nat.le_of_ble_eq_true rfl, Nat.le_of_ble_eq_true rfl⟩ ⟨Nat.zero_le _, Nat.zero_le _⟩ (Nat.le_of_ble_eq_true rfl) rfl dX11_comesTo_70 (fun v12 X13 h => ?_)
        refine ab_if_ne (tgt := 79) dX11_comesTo_73 (by decide) (fun hc14 => ?_) (fun hc14 => ?_)
        · have h := sat_f hc14 h
          refine ab_aloadn 0 dX11_comesTo_79 rfl ?_
          refine ab_dup dX11_comesTo_80 rfl ?_
          refine fX_gi (x := 27) ⟨by decide, by decide⟩ rfl rfl (Nat.le_of_ble_eq_true rfl) wd_416 rfl dX11_comesTo_81 ?_
          refine ab_aloadn 0 dX11_comesTo_84 rfl ?_
          refine ab_bipush (v := 10) dX11_comesTo_85 (by decide) ?_
          refine ab_iload 5 dX11_comesTo_87 rfl ?_
          refine ab_imul dX11_comesTo_89 ?_
          refine ab_iload 4 dX11_comesTo_90 rfl ?_
          refine ab_iadd dX11_comesTo_92 ?_
          refine fX_Vi (mtc := mt_X11_treeAt) (As := [.int ((10 * ((a1 / 10) + (a4 * v5))) + ((a1 - a1 / 10 * 10) + (a4 * v3)))]) h (fun Q h => ct_X11_treeAt N ((10 * ((a1 / 10) + (a4 * v5))) + ((a1 - a1 / 10 * 10) + (a4 * v3))) X13 h) ⟨by decide, by decide⟩ rfl rfl rfl mw_X11_treeAt wd_412 rfl rfl ⟨Nat.le_of_ble_eq_true rfl, Nat.le_of_ble_eq_true rfl⟩ ⟨Nat.zero_le _, Nat.zero_le _⟩ (Nat.le_of_ble_eq_true rfl) rfl dX11_comesTo_93 (fun v15 X16 h => ?_)
          refine ab_if_lt (tgt := 103) dX11_comesTo_96 (by decide) (fun hc17 => ?_) (fun hc17 => ?_)
          · have h := sat_t hc17 h
            refine ab_aloadn 0 dX11_comesTo_103 rfl ?_
            refine f_gr (x := 6) (k2 := 10) (i2 := 0) (j2 := 2) ⟨by decide, by decide⟩ rfl rfl (Nat.le_of_ble_eq_true rfl) wd_406 rfl rfl dX11_comesTo_104 ?_
            refine ab_sipush (v := 441) dX11_comesTo_107 (by decide) ?_
            refine ab_bipush (v := 10) dX11_comesTo_110 (by decide) ?_
            refine ab_iload 5 dX11_comesTo_112 rfl ?_
            refine ab_imul dX11_comesTo_114 ?_
            refine ab_iadd dX11_comesTo_115 ?_
            refine ab_iload 4 dX11_comesTo_116 rfl ?_
            refine ab_iadd dX11_comesTo_118 ?_
            refine fX_iald ⟨by decide, by decide⟩ rfl (fun _ => rfl) h dX11_comesTo_119 (fun v18 h => ?_)
            refine ab_iconst (v := 1) dX11_comesTo_120 (by decide) ?_
            refine ab_icmp_ne (tgt := 128) dX11_comesTo_121 (by decide) (fun hc19 => ?_) (fun hc19 => ?_)
            · have h := sat_f hc19 h
              refine ab_iconst (v := 0) dX11_comesTo_128 (by decide) ?_
              refine ab_sub [0, 1, 2, 3] rfl ?_
              exact t_X11_comesTo_129 N (fun z4 c => f_X11_comesTo_8 N a1 a2 n z4 c) a1 a2 a4 0 (X13.1 0 27) ih X16 h
            · have h := sat_t hc19 h
              refine ab_iconst (v := 3) dX11_comesTo_124 (by decide) ?_
              refine ab_goto (tgt := 129) dX11_comesTo_125 (by decide) ?_
              refine ab_sub [0, 1, 2, 3] rfl ?_
              exact t_X11_comesTo_129 N (fun z4 c => f_X11_comesTo_8 N a1 a2 n z4 c) a1 a2 a4 3 (X13.1 0 27) ih X16 h
          · have h := sat_f hc17 h
            refine ab_iconst (v := 2) dX11_comesTo_99 (by decide) ?_
            refine ab_goto (tgt := 129) dX11_comesTo_100 (by decide) ?_
            refine ab_sub [0, 1, 2, 3] rfl ?_
            exact t_X11_comesTo_129 N (fun z4 c => f_X11_comesTo_8 N a1 a2 n z4 c) a1 a2 a4 2 (X13.1 0 27) ih X16 h
        · have h := sat_t hc14 h
          refine ab_goto (tgt := 133) dX11_comesTo_76 (by decide) ?_
          refine ab_iinc (q := 3) (v := (a4 + 1)) (lv' := [(0, .ref (gA G 10 0 0)), (1, .int a1), (2, .int a2), (4, .int (a4 + 1)), (5, .int ((a1 - a1 / 10 * 10) + (a4 * v3))), (6, .int ((a1 / 10) + (a4 * v5)))]) dX11_comesTo_133 rfl rfl rfl (Nat.le_of_ble_eq_true rfl) rfl ?_
          refine ab_goto (tgt := 8) dX11_comesTo_136 (by decide) ?_
          refine ab_sub [0, 1, 2, 3] rfl ?_
          exact ih (a4 + 1) X13 h
set_option maxRecDepth 8000 in
theorem t_X11_comesTo_0 {l : Launch} {G : GX} {C : CM} {Q : Int32 → Mem → Prop} (N : Nat) (a1 : Int32) (a2 : Int32) (a3 : Int32) (X : XM) (h : SAT (f_X11_comesTo N a1 a2 a3 X) (fun v c => Q v (C, c))) : AB l G (rmD 2) 0 0 mt_X11_comesTo (ZQ G mt_X11_comesTo Q) 0 [(0, .ref (gA G 10 0 0)), (1, .int a1), (2, .int a2), (3, .int a3)] [] (C, X) := by
  unfold f_X11_comesTo at h
  refine ab_aloadn 0 dX11_comesTo_0 rfl ?_
  refine ab_iloadn 3 dX11_comesTo_1 rfl ?_
  refine fX_pi (x := 27) (ty := .int) ⟨by decide, by decide⟩ rfl rfl (Nat.le_of_ble_eq_true rfl) wd_416 rfl h rfl (by decide +kernel) rfl rfl dX11_comesTo_2 (fun X1 h => ?_)
  refine ab_iconst (v := 1) dX11_comesTo_5 (by decide) ?_
  refine ab_istore (lv' := [(0, .ref (gA G 10 0 0)), (1, .int a1), (2, .int a2), (3, .int a3), (4, .int 1)]) dX11_comesTo_6 rfl (Nat.le_of_ble_eq_true rfl) rfl ?_
  refine ab_sub [0, 1, 2, 4] rfl ?_
  exact t_X11_comesTo_8 N a1 a2 N 1 X1 h
theorem ct_X11_comesTo {l : Launch} {G : GX} {C : CM} {Q : Int32 → Mem → Prop} (N : Nat) (a1 : Int32) (a2 : Int32) (a3 : Int32) (X : XM) (h : SAT (f_X11_comesTo N a1 a2 a3 X) (fun v c => Q v (C, c))) : CT l G 2 mt_X11_comesTo [.ref (gA G 10 0 0), .int a1, .int a2, .int a3] (C, X) Q := ct_of pn_X11 (Nat.le_of_ble_eq_true rfl) (t_X11_comesTo_0 N a1 a2 a3 X h)
def f_X11_comes (N : Nat) (a1 : Int32) (a2 : Int32) (a3 : Int32) (a4 : Int32) (X : XM) : Option (Int32 × XM) := bnd (stX X 0 0 0) (fun X1 => cal (f_X11_isCell a1 X1) (fun v2 X3 => (if v2 = 0 then (rt (-1) X3) else cal (f_X11_isGust a2 a3 X3) (fun v5 X6 => (if v5 = 0 then (rt (-1) X6) else cal (f_X11_isIn a4 0 1 X6) (fun v8 X9 => (if v8 = 0 then (rt (-1) X9) else cal (f_X11_comesTo N a1 a2 a3 X9) (fun v11 X12 => (if a4 = 0 then (rt (X12.1 0 26) X12) else (rt (X12.1 0 27) X12))))))))))
set_option maxRecDepth 8000 in
theorem t_X11_comes_0 {l : Launch} {G : GX} {C : CM} {Q : Int32 → Mem → Prop} (N : Nat) (a1 : Int32) (a2 : Int32) (a3 : Int32) (a4 : Int32) (X : XM) (h : SAT (f_X11_comes N a1 a2 a3 a4 X) (fun v c => Q v (C, c))) : AB l G (rmD 3) 0 0 mt_X11_comes (ZQ G mt_X11_comes Q) 0 [(0, .ref (gA G 10 0 0)), (1, .int a1), (2, .int a2), (3, .int a3), (4, .int a4)] [] (C, X) := by
  unfold f_X11_comes at h
  refine ab_aloadn 0 dX11_comes_0 rfl ?_
  refine ab_iconst (v := 0) dX11_comes_1 (by decide) ?_
  refine fX_pi (x := 0) (ty := .int) ⟨by decide, by decide⟩ rfl rfl (Nat.le_of_ble_eq_true rfl) wd_344 rfl h rfl (by decide +kernel) rfl rfl dX11_comes_2 (fun X1 h => ?_)
  refine ab_aloadn 0 dX11_comes_5 rfl ?_
  refine ab_iloadn 1 dX11_comes_6 rfl ?_
  refine fX_Vi (mtc := mt_X11_isCell) (As := [.int a1]) h (fun Q h => ct_X11_isCell a1 X1 h) ⟨by decide, by decide⟩ rfl rfl rfl mw_X11_isCell wd_409 rfl rfl ⟨Nat.le_of_ble_eq_true rfl, Nat.le_of_ble_eq_true rfl⟩ ⟨Nat.zero_le _, Nat.zero_le _⟩ (Nat.le_of_ble_eq_true rfl) rfl dX11_comes_7 (fun v2 X3 h => ?_)
  refine ab_if_eq (tgt := 31) dX11_comes_10 (by decide) (fun hc4 => ?_) (fun hc4 => ?_)
  · have h := sat_t hc4 h
    refine ab_iconst (v := (-1)) dX11_comes_31 (by decide) ?_
    exact fX_iret h rfl rfl dX11_comes_32
  · have h := sat_f hc4 h
    refine ab_iloadn 2 dX11_comes_13 rfl ?_
    refine ab_iloadn 3 dX11_comes_14 rfl ?_
    refine fX_Si (mtc := mt_X11_isGust) (As := [.int a2, .int a3]) h (fun Q h => ct_X11_isGust a2 a3 X3 h) mw_X11_isGust wd_414 wd_415 rfl rfl ⟨Nat.le_of_ble_eq_true rfl, Nat.le_of_ble_eq_true rfl⟩ ⟨Nat.zero_le _, Nat.zero_le _⟩ (Nat.le_of_ble_eq_true rfl) rfl dX11_comes_15 (fun v5 X6 h => ?_)
    refine ab_if_eq (tgt := 31) dX11_comes_18 (by decide) (fun hc7 => ?_) (fun hc7 => ?_)
    · have h := sat_t hc7 h
      refine ab_iconst (v := (-1)) dX11_comes_31 (by decide) ?_
      exact fX_iret h rfl rfl dX11_comes_32
    · have h := sat_f hc7 h
      refine ab_iload 4 dX11_comes_21 rfl ?_
      refine ab_iconst (v := 0) dX11_comes_23 (by decide) ?_
      refine ab_iconst (v := 1) dX11_comes_24 (by decide) ?_
      refine fX_Si (mtc := mt_X11_isIn) (As := [.int a4, .int 0, .int 1]) h (fun Q h => ct_X11_isIn a4 0 1 X6 h) mw_X11_isIn wd_382 wd_383 rfl rfl ⟨Nat.le_of_ble_eq_true rfl, Nat.le_of_ble_eq_true rfl⟩ ⟨Nat.zero_le _, Nat.zero_le _⟩ (Nat.le_of_ble_eq_true rfl) rfl dX11_comes_25 (fun v8 X9 h => ?_)
      refine ab_if_ne (tgt := 33) dX11_comes_28 (by decide) (fun hc10 => ?_) (fun hc10 => ?_)
      · have h := sat_f hc10 h
        refine ab_aloadn 0 dX11_comes_33 rfl ?_
        refine ab_iloadn 1 dX11_comes_34 rfl ?_
        refine ab_iloadn 2 dX11_comes_35 rfl ?_
        refine ab_iloadn 3 dX11_comes_36 rfl ?_
        refine fX_Vv (mtc := mt_X11_comesTo) (As := [.int a1, .int a2, .int a3]) h (fun Q h => ct_X11_comesTo N a1 a2 a3 X9 h) ⟨by decide, by decide⟩ rfl rfl rfl mw_X11_comesTo wd_422 rfl rfl ⟨Nat.le_of_ble_eq_true rfl, Nat.le_of_ble_eq_true rfl⟩ ⟨Nat.zero_le _, Nat.zero_le _⟩ (Nat.le_of_ble_eq_true rfl) rfl dX11_comes_37 (fun v11 X12 h => ?_)
        refine ab_iload 4 dX11_comes_40 rfl ?_
        refine ab_if_ne (tgt := 52) dX11_comes_42 (by decide) (fun hc13 => ?_) (fun hc13 => ?_)
        · have h := sat_f hc13 h
          refine ab_aloadn 0 dX11_comes_52 rfl ?_
          refine fX_gi (x := 27) ⟨by decide, by decide⟩ rfl rfl (Nat.le_of_ble_eq_true rfl) wd_416 rfl dX11_comes_53 ?_
          exact fX_iret h rfl rfl dX11_comes_56
        · have h := sat_t hc13 h
          refine ab_aloadn 0 dX11_comes_45 rfl ?_
          refine fX_gi (x := 26) ⟨by decide, by decide⟩ rfl rfl (Nat.le_of_ble_eq_true rfl) wd_421 rfl dX11_comes_46 ?_
          refine ab_goto (tgt := 56) dX11_comes_49 (by decide) ?_
          exact fX_iret h rfl rfl dX11_comes_56
      · have h := sat_t hc10 h
        refine ab_iconst (v := (-1)) dX11_comes_31 (by decide) ?_
        exact fX_iret h rfl rfl dX11_comes_32
theorem ct_X11_comes {l : Launch} {G : GX} {C : CM} {Q : Int32 → Mem → Prop} (N : Nat) (a1 : Int32) (a2 : Int32) (a3 : Int32) (a4 : Int32) (X : XM) (h : SAT (f_X11_comes N a1 a2 a3 a4 X) (fun v c => Q v (C, c))) : CT l G 3 mt_X11_comes [.ref (gA G 10 0 0), .int a1, .int a2, .int a3, .int a4] (C, X) Q := ct_of pn_X11 (Nat.le_of_ble_eq_true rfl) (t_X11_comes_0 N a1 a2 a3 a4 X h)
def f_X11_tries_2 (N : Nat) : Nat → Int32 → XM → Option (Int32 × XM)
  | 0, _, _ => none
  | n + 1, a1, X => (if 172 ≤ a1 then (rt 0 X) else ldA (X.1 2) 845 (371 + a1) (fun v2 => sxA X 9 172 a1 v2 (fun X3 => (f_X11_tries_2 N n (a1 + 1) X3))))
def f_X11_tries (N : Nat) (X : XM) : Option (Int32 × XM) := (f_X11_tries_2 N N 0 X)
set_option maxRecDepth 8000 in
theorem t_X11_tries_2 {l : Launch} {G : GX} {C : CM} {Q : Int32 → Mem → Prop} (N : Nat) : ∀ (n : Nat) (a1 : Int32) (X : XM), SAT (f_X11_tries_2 N n a1 X) (fun v c => Q v (C, c)) → AB l G (rmD 1) 0 0 mt_X11_tries (ZQ G mt_X11_tries Q) 2 [(0, .ref (gA G 10 0 0)), (1, .int a1)] [] (C, X) := by
  intro n
  induction n with
  | zero => intro a1 X h; exact h.elim
  | succ n ih =>
    intro a1 X h
    rw [f_X11_tries_2] at h
    refine ab_iloadn 1 dX11_tries_2 rfl ?_
    refine ab_sipush (v := 172) dX11_tries_3 (by decide) ?_
    refine ab_icmp_ge (tgt := 31) dX11_tries_6 (by decide) (fun hc1 => ?_) (fun hc1 => ?_)
    · have h := sat_t hc1 h
      exact fX_vret h rfl dX11_tries_31
    · have h := sat_f hc1 h
      refine ab_aloadn 0 dX11_tries_9 rfl ?_
      refine f_gr (x := 31) (k2 := 10) (i2 := 0) (j2 := 9) ⟨by decide, by decide⟩ rfl rfl (Nat.le_of_ble_eq_true rfl) wd_423 rfl rfl dX11_tries_10 ?_
      refine ab_iloadn 1 dX11_tries_13 rfl ?_
      refine ab_aloadn 0 dX11_tries_14 rfl ?_
      refine f_gr (x := 6) (k2 := 10) (i2 := 0) (j2 := 2) ⟨by decide, by decide⟩ rfl rfl (Nat.le_of_ble_eq_true rfl) wd_406 rfl rfl dX11_tries_15 ?_
      refine ab_sipush (v := 371) dX11_tries_18 (by decide) ?_
      refine ab_iloadn 1 dX11_tries_21 rfl ?_
      refine ab_iadd dX11_tries_22 ?_
      refine fX_iald ⟨by decide, by decide⟩ rfl (fun _ => rfl) h dX11_tries_23 (fun v2 h => ?_)
      refine fX_iast ⟨by decide, by decide⟩ rfl (fun _ => rfl) h dX11_tries_24 (fun X3 h => ?_)
      refine ab_iinc (q := 1) (v := (a1 + 1)) (lv' := [(0, .ref (gA G 10 0 0)), (1, .int (a1 + 1))]) dX11_tries_25 rfl rfl rfl (Nat.le_of_ble_eq_true rfl) rfl ?_
      refine ab_goto (tgt := 2) dX11_tries_28 (by decide) ?_
      exact ih (a1 + 1) X3 h
set_option maxRecDepth 8000 in
theorem t_X11_tries_0 {l : Launch} {G : GX} {C : CM} {Q : Int32 → Mem → Prop} (N : Nat) (X : XM) (h : SAT (f_X11_tries N X) (fun v c => Q v (C, c))) : AB l G (rmD 1) 0 0 mt_X11_tries (ZQ G mt_X11_tries Q) 0 [(0, .ref (gA G 10 0 0))] [] (C, X) := by
  unfold f_X11_tries at h
  refine ab_iconst (v := 0) dX11_tries_0 (by decide) ?_
  refine ab_istoren (lv' := [(0, .ref (gA G 10 0 0)), (1, .int 0)]) dX11_tries_1 rfl (Nat.le_of_ble_eq_true rfl) rfl ?_
  exact t_X11_tries_2 N N 0 X h
theorem ct_X11_tries {l : Launch} {G : GX} {C : CM} {Q : Int32 → Mem → Prop} (N : Nat) (X : XM) (h : SAT (f_X11_tries N X) (fun v c => Q v (C, c))) : CT l G 1 mt_X11_tries [.ref (gA G 10 0 0)] (C, X) Q := ct_of pn_X11 (Nat.le_of_ble_eq_true rfl) (t_X11_tries_0 N X h)
def f_X11_turns_154 (as0 : Int32) (as1 : Int32) (as2 : Int32) (X : XM) : Option (Int32 × XM) := sxA X 2 845 as2 ((as1 - as0) - (as1 - as0) / 8 * 8) (fun X1 => (rt 0 X1))
def f_X11_turns_108 (as0 : Int32) (as1 : Int32) (as2 : Int32) (X : XM) : Option (Int32 × XM) := sxA X 2 845 as2 ((as1 + as0) - (as1 + as0) / 8 * 8) (fun X1 => (rt 0 X1))
def f_X11_turns_36 (a1 : Int32) (as0 : Int32) (X : XM) : Option (Int32 × XM) := ldA (X.1 2) 845 (397 + a1) (fun v1 => ldA (X.1 2) 845 (405 + a1) (fun v2 => (if v2 = 1 then (rt 0 X) else (if 4 < ((((X.1 0 26) - v1) + 8) - (((X.1 0 26) - v1) + 8) / 8 * 8) then ldA (X.1 2) 845 (397 + a1) (fun v5 => (if as0 ≤ (8 - ((((X.1 0 26) - v1) + 8) - (((X.1 0 26) - v1) + 8) / 8 * 8)) then (f_X11_turns_154 as0 (v5 + 8) (397 + a1) X) else (f_X11_turns_154 (8 - ((((X.1 0 26) - v1) + 8) - (((X.1 0 26) - v1) + 8) / 8 * 8)) (v5 + 8) (397 + a1) X))) else ldA (X.1 2) 845 (397 + a1) (fun v7 => (if as0 ≤ ((((X.1 0 26) - v1) + 8) - (((X.1 0 26) - v1) + 8) / 8 * 8) then (f_X11_turns_108 as0 v7 (397 + a1) X) else (f_X11_turns_108 ((((X.1 0 26) - v1) + 8) - (((X.1 0 26) - v1) + 8) / 8 * 8) v7 (397 + a1) X)))))))
def f_X11_turns (a1 : Int32) (X : XM) : Option (Int32 × XM) := ldA (X.1 2) 845 (389 + a1) (fun v1 => (if (X.1 0 27) ≤ v1 then (f_X11_turns_36 a1 0 X) else ldA (X.1 2) 845 (389 + a1) (fun v3 => (f_X11_turns_36 a1 ((X.1 0 27) - v3) X))))
set_option maxRecDepth 8000 in
theorem t_X11_turns_154 {l : Launch} {G : GX} {C : CM} {Q : Int32 → Mem → Prop} (as0 : Int32) (as1 : Int32) (as2 : Int32) (X : XM) (h : SAT (f_X11_turns_154 as0 as1 as2 X) (fun v c => Q v (C, c))) : AB l G (rmD 1) 0 0 mt_X11_turns (ZQ G mt_X11_turns Q) 154 [] [.int as0, .int as1, .int as2, .ref (gA G 10 0 2)] (C, X) := by
  unfold f_X11_turns_154 at h
  refine ab_isub dX11_turns_154 ?_
  refine ab_bipush (v := 8) dX11_turns_155 (by decide) ?_
  refine ab_irem dX11_turns_157 (by decide) ?_
  refine fX_iast ⟨by decide, by decide⟩ rfl (fun _ => rfl) h dX11_turns_158 (fun X1 h => ?_)
  exact fX_vret h rfl dX11_turns_159
set_option maxRecDepth 8000 in
theorem t_X11_turns_108 {l : Launch} {G : GX} {C : CM} {Q : Int32 → Mem → Prop} (as0 : Int32) (as1 : Int32) (as2 : Int32) (X : XM) (h : SAT (f_X11_turns_108 as0 as1 as2 X) (fun v c => Q v (C, c))) : AB l G (rmD 1) 0 0 mt_X11_turns (ZQ G mt_X11_turns Q) 108 [] [.int as0, .int as1, .int as2, .ref (gA G 10 0 2)] (C, X) := by
  unfold f_X11_turns_108 at h
  refine ab_iadd dX11_turns_108 ?_
  refine ab_bipush (v := 8) dX11_turns_109 (by decide) ?_
  refine ab_irem dX11_turns_111 (by decide) ?_
  refine fX_iast ⟨by decide, by decide⟩ rfl (fun _ => rfl) h dX11_turns_112 (fun X1 h => ?_)
  refine ab_goto (tgt := 159) dX11_turns_113 (by decide) ?_
  exact fX_vret h rfl dX11_turns_159
set_option maxRecDepth 8000 in
theorem t_X11_turns_36 {l : Launch} {G : GX} {C : CM} {Q : Int32 → Mem → Prop} (a1 : Int32) (as0 : Int32) (X : XM) (h : SAT (f_X11_turns_36 a1 as0 X) (fun v c => Q v (C, c))) : AB l G (rmD 1) 0 0 mt_X11_turns (ZQ G mt_X11_turns Q) 36 [(0, .ref (gA G 10 0 0)), (1, .int a1)] [.int as0] (C, X) := by
  unfold f_X11_turns_36 at h
  refine ab_istoren (lv' := [(0, .ref (gA G 10 0 0)), (1, .int a1), (2, .int as0)]) dX11_turns_36 rfl (Nat.le_of_ble_eq_true rfl) rfl ?_
  refine ab_aloadn 0 dX11_turns_37 rfl ?_
  refine fX_gi (x := 26) ⟨by decide, by decide⟩ rfl rfl (Nat.le_of_ble_eq_true rfl) wd_421 rfl dX11_turns_38 ?_
  refine ab_aloadn 0 dX11_turns_41 rfl ?_
  refine f_gr (x := 6) (k2 := 10) (i2 := 0) (j2 := 2) ⟨by decide, by decide⟩ rfl rfl (Nat.le_of_ble_eq_true rfl) wd_406 rfl rfl dX11_turns_42 ?_
  refine ab_sipush (v := 397) dX11_turns_45 (by decide) ?_
  refine ab_iloadn 1 dX11_turns_48 rfl ?_
  refine ab_iadd dX11_turns_49 ?_
  refine fX_iald ⟨by decide, by decide⟩ rfl (fun _ => rfl) h dX11_turns_50 (fun v1 h => ?_)
  refine ab_isub dX11_turns_51 ?_
  refine ab_bipush (v := 8) dX11_turns_52 (by decide) ?_
  refine ab_iadd dX11_turns_54 ?_
  refine ab_bipush (v := 8) dX11_turns_55 (by decide) ?_
  refine ab_irem dX11_turns_57 (by decide) ?_
  refine ab_istoren (lv' := [(0, .ref (gA G 10 0 0)), (1, .int a1), (2, .int as0), (3, .int ((((X.1 0 26) - v1) + 8) - (((X.1 0 26) - v1) + 8) / 8 * 8))]) dX11_turns_58 rfl (Nat.le_of_ble_eq_true rfl) rfl ?_
  refine ab_aloadn 0 dX11_turns_59 rfl ?_
  refine f_gr (x := 6) (k2 := 10) (i2 := 0) (j2 := 2) ⟨by decide, by decide⟩ rfl rfl (Nat.le_of_ble_eq_true rfl) wd_406 rfl rfl dX11_turns_60 ?_
  refine ab_sipush (v := 405) dX11_turns_63 (by decide) ?_
  refine ab_iloadn 1 dX11_turns_66 rfl ?_
  refine ab_iadd dX11_turns_67 ?_
  refine fX_iald ⟨by decide, by decide⟩ rfl (fun _ => rfl) h dX11_turns_68 (fun v2 h => ?_)
  refine ab_iconst (v := 1) dX11_turns_69 (by decide) ?_
  refine ab_icmp_ne (tgt := 74) dX11_turns_70 (by decide) (fun hc3 => ?_) (fun hc3 => ?_)
  · have h := sat_f hc3 h
    refine ab_iloadn 3 dX11_turns_74 rfl ?_
    refine ab_iconst (v := 4) dX11_turns_75 (by decide) ?_
    refine ab_icmp_gt (tgt := 116) dX11_turns_76 (by decide) (fun hc4 => ?_) (fun hc4 => ?_)
    · have h := sat_t hc4 h
      refine ab_aloadn 0 dX11_turns_116 rfl ?_
      refine f_gr (x := 6) (k2 := 10) (i2 := 0) (j2 := 2) ⟨by decide, by decide⟩ rfl rfl (Nat.le_of_ble_eq_true rfl) wd_406 rfl rfl dX11_turns_117 ?_
      refine ab_sipush (v := 397) dX11_turns_120 (by decide) ?_
      refine ab_iloadn 1 dX11_turns_123 rfl ?_
      refine ab_iadd dX11_turns_124 ?_
      refine ab_aloadn 0 dX11_turns_125 rfl ?_
      refine f_gr (x := 6) (k2 := 10) (i2 := 0) (j2 := 2) ⟨by decide, by decide⟩ rfl rfl (Nat.le_of_ble_eq_true rfl) wd_406 rfl rfl dX11_turns_126 ?_
      refine ab_sipush (v := 397) dX11_turns_129 (by decide) ?_
      refine ab_iloadn 1 dX11_turns_132 rfl ?_
      refine ab_iadd dX11_turns_133 ?_
      refine fX_iald ⟨by decide, by decide⟩ rfl (fun _ => rfl) h dX11_turns_134 (fun v5 h => ?_)
      refine ab_bipush (v := 8) dX11_turns_135 (by decide) ?_
      refine ab_iadd dX11_turns_137 ?_
      refine ab_bipush (v := 8) dX11_turns_138 (by decide) ?_
      refine ab_iloadn 3 dX11_turns_140 rfl ?_
      refine ab_isub dX11_turns_141 ?_
      refine ab_iloadn 2 dX11_turns_142 rfl ?_
      refine ab_icmp_ge (tgt := 153) dX11_turns_143 (by decide) (fun hc6 => ?_) (fun hc6 => ?_)
      · have h := sat_t hc6 h
        refine ab_iloadn 2 dX11_turns_153 rfl ?_
        refine ab_sub [] rfl ?_
        exact t_X11_turns_154 as0 (v5 + 8) (397 + a1) X h
      · have h := sat_f hc6 h
        refine ab_bipush (v := 8) dX11_turns_146 (by decide) ?_
        refine ab_iloadn 3 dX11_turns_148 rfl ?_
        refine ab_isub dX11_turns_149 ?_
        refine ab_goto (tgt := 154) dX11_turns_150 (by decide) ?_
        refine ab_sub [] rfl ?_
        exact t_X11_turns_154 (8 - ((((X.1 0 26) - v1) + 8) - (((X.1 0 26) - v1) + 8) / 8 * 8)) (v5 + 8) (397 + a1) X h
    · have h := sat_f hc4 h
      refine ab_aloadn 0 dX11_turns_79 rfl ?_
      refine f_gr (x := 6) (k2 := 10) (i2 := 0) (j2 := 2) ⟨by decide, by decide⟩ rfl rfl (Nat.le_of_ble_eq_true rfl) wd_406 rfl rfl dX11_turns_80 ?_
      refine ab_sipush (v := 397) dX11_turns_83 (by decide) ?_
      refine ab_iloadn 1 dX11_turns_86 rfl ?_
      refine ab_iadd dX11_turns_87 ?_
      refine ab_aloadn 0 dX11_turns_88 rfl ?_
      refine f_gr (x := 6) (k2 := 10) (i2 := 0) (j2 := 2) ⟨by decide, by decide⟩ rfl rfl (Nat.le_of_ble_eq_true rfl) wd_406 rfl rfl dX11_turns_89 ?_
      refine ab_sipush (v := 397) dX11_turns_92 (by decide) ?_
      refine ab_iloadn 1 dX11_turns_95 rfl ?_
      refine ab_iadd dX11_turns_96 ?_
      refine fX_iald ⟨by decide, by decide⟩ rfl (fun _ => rfl) h dX11_turns_97 (fun v7 h => ?_)
      refine ab_iloadn 3 dX11_turns_98 rfl ?_
      refine ab_iloadn 2 dX11_turns_99 rfl ?_
      refine ab_icmp_ge (tgt := 107) dX11_turns_100 (by decide) (fun hc8 => ?_) (fun hc8 => ?_)
      · have h := sat_t hc8 h
        refine ab_iloadn 2 dX11_turns_107 rfl ?_
        refine ab_sub [] rfl ?_
        exact t_X11_turns_108 as0 v7 (397 + a1) X h
      · have h := sat_f hc8 h
        refine ab_iloadn 3 dX11_turns_103 rfl ?_
        refine ab_goto (tgt := 108) dX11_turns_104 (by decide) ?_
        refine ab_sub [] rfl ?_
        exact t_X11_turns_108 ((((X.1 0 26) - v1) + 8) - (((X.1 0 26) - v1) + 8) / 8 * 8) v7 (397 + a1) X h
  · have h := sat_t hc3 h
    exact fX_vret h rfl dX11_turns_73
set_option maxRecDepth 8000 in
theorem t_X11_turns_0 {l : Launch} {G : GX} {C : CM} {Q : Int32 → Mem → Prop} (a1 : Int32) (X : XM) (h : SAT (f_X11_turns a1 X) (fun v c => Q v (C, c))) : AB l G (rmD 1) 0 0 mt_X11_turns (ZQ G mt_X11_turns Q) 0 [(0, .ref (gA G 10 0 0)), (1, .int a1)] [] (C, X) := by
  unfold f_X11_turns at h
  refine ab_aloadn 0 dX11_turns_0 rfl ?_
  refine fX_gi (x := 27) ⟨by decide, by decide⟩ rfl rfl (Nat.le_of_ble_eq_true rfl) wd_416 rfl dX11_turns_1 ?_
  refine ab_aloadn 0 dX11_turns_4 rfl ?_
  refine f_gr (x := 6) (k2 := 10) (i2 := 0) (j2 := 2) ⟨by decide, by decide⟩ rfl rfl (Nat.le_of_ble_eq_true rfl) wd_406 rfl rfl dX11_turns_5 ?_
  refine ab_sipush (v := 389) dX11_turns_8 (by decide) ?_
  refine ab_iloadn 1 dX11_turns_11 rfl ?_
  refine ab_iadd dX11_turns_12 ?_
  refine fX_iald ⟨by decide, by decide⟩ rfl (fun _ => rfl) h dX11_turns_13 (fun v1 h => ?_)
  refine ab_icmp_le (tgt := 35) dX11_turns_14 (by decide) (fun hc2 => ?_) (fun hc2 => ?_)
  · have h := sat_t hc2 h
    refine ab_iconst (v := 0) dX11_turns_35 (by decide) ?_
    exact t_X11_turns_36 a1 0 X h
  · have h := sat_f hc2 h
    refine ab_aloadn 0 dX11_turns_17 rfl ?_
    refine fX_gi (x := 27) ⟨by decide, by decide⟩ rfl rfl (Nat.le_of_ble_eq_true rfl) wd_416 rfl dX11_turns_18 ?_
    refine ab_aloadn 0 dX11_turns_21 rfl ?_
    refine f_gr (x := 6) (k2 := 10) (i2 := 0) (j2 := 2) ⟨by decide, by decide⟩ rfl rfl (Nat.le_of_ble_eq_true rfl) wd_406 rfl rfl dX11_turns_22 ?_
    refine ab_sipush (v := 389) dX11_turns_25 (by decide) ?_
    refine ab_iloadn 1 dX11_turns_28 rfl ?_
    refine ab_iadd dX11_turns_29 ?_
    refine fX_iald ⟨by decide, by decide⟩ rfl (fun _ => rfl) h dX11_turns_30 (fun v3 h => ?_)
    refine ab_isub dX11_turns_31 ?_
    refine ab_goto (tgt := 36) dX11_turns_32 (by decide) ?_
    exact t_X11_turns_36 a1 ((X.1 0 27) - v3) X h
theorem ct_X11_turns {l : Launch} {G : GX} {C : CM} {Q : Int32 → Mem → Prop} (a1 : Int32) (X : XM) (h : SAT (f_X11_turns a1 X) (fun v c => Q v (C, c))) : CT l G 1 mt_X11_turns [.ref (gA G 10 0 0), .int a1] (C, X) Q := ct_of pn_X11 (Nat.le_of_ble_eq_true rfl) (t_X11_turns_0 a1 X h)
def f_X11_allTurn_7 (N : Nat) (a1 : Int32) (a2 : Int32) : Nat → Int32 → XM → Option (Int32 × XM)
  | 0, _, _ => none
  | n + 1, a3, X => ldA (X.1 2) 845 2 (fun v1 => (if v1 ≤ a3 then sxA X 2 845 541 (a1 + 1) (fun X3 => (rt 0 X3)) else ldA (X.1 2) 845 (7 + a3) (fun v4 => cal (f_X11_comesTo N v4 a1 a2 X) (fun v5 X6 => cal (f_X11_turns a3 X6) (fun v7 X8 => (if (X8.1 0 27) ≤ 0 then (f_X11_allTurn_7 N a1 a2 n (a3 + 1) X8) else ldA (X8.1 2) 845 (397 + a3) (fun v10 => (if v10 = (X8.1 0 26) then bnd (stX X8 0 28 ((X8.1 0 28) ||| ((1 : Int32) <<< (a3 &&& 31)))) (fun X12 => (f_X11_allTurn_7 N a1 a2 n (a3 + 1) X12)) else (f_X11_allTurn_7 N a1 a2 n (a3 + 1) X8)))))))))
def f_X11_allTurn (N : Nat) (a1 : Int32) (a2 : Int32) (X : XM) : Option (Int32 × XM) := bnd (stX X 0 28 0) (fun X1 => (f_X11_allTurn_7 N a1 a2 N 0 X1))
set_option maxRecDepth 8000 in
theorem t_X11_allTurn_7 {l : Launch} {G : GX} {C : CM} {Q : Int32 → Mem → Prop} (N : Nat) (a1 : Int32) (a2 : Int32) : ∀ (n : Nat) (a3 : Int32) (X : XM), SAT (f_X11_allTurn_7 N a1 a2 n a3 X) (fun v c => Q v (C, c)) → AB l G (rmD 3) 0 0 mt_X11_allTurn (ZQ G mt_X11_allTurn Q) 7 [(0, .ref (gA G 10 0 0)), (1, .int a1), (2, .int a2), (3, .int a3)] [] (C, X) := by
  intro n
  induction n with
  | zero => intro a3 X h; exact h.elim
  | succ n ih =>
    intro a3 X h
    rw [f_X11_allTurn_7] at h
    refine ab_iloadn 3 dX11_allTurn_7 rfl ?_
    refine ab_aloadn 0 dX11_allTurn_8 rfl ?_
    refine f_gr (x := 6) (k2 := 10) (i2 := 0) (j2 := 2) ⟨by decide, by decide⟩ rfl rfl (Nat.le_of_ble_eq_true rfl) wd_406 rfl rfl dX11_allTurn_9 ?_
    refine ab_iconst (v := 2) dX11_allTurn_12 (by decide) ?_
    refine fX_iald ⟨by decide, by decide⟩ rfl (fun _ => rfl) h dX11_allTurn_13 (fun v1 h => ?_)
    refine ab_icmp_ge (tgt := 79) dX11_allTurn_14 (by decide) (fun hc2 => ?_) (fun hc2 => ?_)
    · have h := sat_t hc2 h
      refine ab_aloadn 0 dX11_allTurn_79 rfl ?_
      refine f_gr (x := 6) (k2 := 10) (i2 := 0) (j2 := 2) ⟨by decide, by decide⟩ rfl rfl (Nat.le_of_ble_eq_true rfl) wd_406 rfl rfl dX11_allTurn_80 ?_
      refine ab_sipush (v := 541) dX11_allTurn_83 (by decide) ?_
      refine ab_iloadn 1 dX11_allTurn_86 rfl ?_
      refine ab_iconst (v := 1) dX11_allTurn_87 (by decide) ?_
      refine ab_iadd dX11_allTurn_88 ?_
      refine fX_iast ⟨by decide, by decide⟩ rfl (fun _ => rfl) h dX11_allTurn_89 (fun X3 h => ?_)
      exact fX_vret h rfl dX11_allTurn_90
    · have h := sat_f hc2 h
      refine ab_aloadn 0 dX11_allTurn_17 rfl ?_
      refine ab_aloadn 0 dX11_allTurn_18 rfl ?_
      refine f_gr (x := 6) (k2 := 10) (i2 := 0) (j2 := 2) ⟨by decide, by decide⟩ rfl rfl (Nat.le_of_ble_eq_true rfl) wd_406 rfl rfl dX11_allTurn_19 ?_
      refine ab_bipush (v := 7) dX11_allTurn_22 (by decide) ?_
      refine ab_iloadn 3 dX11_allTurn_24 rfl ?_
      refine ab_iadd dX11_allTurn_25 ?_
      refine fX_iald ⟨by decide, by decide⟩ rfl (fun _ => rfl) h dX11_allTurn_26 (fun v4 h => ?_)
      refine ab_iloadn 1 dX11_allTurn_27 rfl ?_
      refine ab_iloadn 2 dX11_allTurn_28 rfl ?_
      refine fX_Vv (mtc := mt_X11_comesTo) (As := [.int v4, .int a1, .int a2]) h (fun Q h => ct_X11_comesTo N v4 a1 a2 X h) ⟨by decide, by decide⟩ rfl rfl rfl mw_X11_comesTo wd_422 rfl rfl ⟨Nat.le_of_ble_eq_true rfl, Nat.le_of_ble_eq_true rfl⟩ ⟨Nat.zero_le _, Nat.zero_le _⟩ (Nat.le_of_ble_eq_true rfl) rfl dX11_allTurn_29 (fun v5 X6 h => ?_)
      refine ab_aloadn 0 dX11_allTurn_32 rfl ?_
      refine ab_iloadn 3 dX11_allTurn_33 rfl ?_
      refine fX_Vv (mtc := mt_X11_turns) (As := [.int a3]) h (fun Q h => ct_X11_turns a3 X6 h) ⟨by decide, by decide⟩ rfl rfl rfl mw_X11_turns wd_426 rfl rfl ⟨Nat.le_of_ble_eq_true rfl, Nat.le_of_ble_eq_true rfl⟩ ⟨Nat.zero_le _, Nat.zero_le _⟩ (Nat.le_of_ble_eq_true rfl) rfl dX11_allTurn_34 (fun v7 X8 h => ?_)
      refine ab_aloadn 0 dX11_allTurn_37 rfl ?_
      refine fX_gi (x := 27) ⟨by decide, by decide⟩ rfl rfl (Nat.le_of_ble_eq_true rfl) wd_416 rfl dX11_allTurn_38 ?_
      refine ab_if_le (tgt := 73) dX11_allTurn_41 (by decide) (fun hc9 => ?_) (fun hc9 => ?_)
      · have h := sat_t hc9 h
        refine ab_iinc (q := 3) (v := (a3 + 1)) (lv' := [(0, .ref (gA G 10 0 0)), (1, .int a1), (2, .int a2), (3, .int (a3 + 1))]) dX11_allTurn_73 rfl rfl rfl (Nat.le_of_ble_eq_true rfl) rfl ?_
        refine ab_goto (tgt := 7) dX11_allTurn_76 (by decide) ?_
        exact ih (a3 + 1) X8 h
      · have h := sat_f hc9 h
        refine ab_aloadn 0 dX11_allTurn_44 rfl ?_
        refine f_gr (x := 6) (k2 := 10) (i2 := 0) (j2 := 2) ⟨by decide, by decide⟩ rfl rfl (Nat.le_of_ble_eq_true rfl) wd_406 rfl rfl dX11_allTurn_45 ?_
        refine ab_sipush (v := 397) dX11_allTurn_48 (by decide) ?_
        refine ab_iloadn 3 dX11_allTurn_51 rfl ?_
        refine ab_iadd dX11_allTurn_52 ?_
        refine fX_iald ⟨by decide, by decide⟩ rfl (fun _ => rfl) h dX11_allTurn_53 (fun v10 h => ?_)
        refine ab_aloadn 0 dX11_allTurn_54 rfl ?_
        refine fX_gi (x := 26) ⟨by decide, by decide⟩ rfl rfl (Nat.le_of_ble_eq_true rfl) wd_421 rfl dX11_allTurn_55 ?_
        refine ab_icmp_ne (tgt := 73) dX11_allTurn_58 (by decide) (fun hc11 => ?_) (fun hc11 => ?_)
        · have h := sat_f hc11 h
          refine ab_iinc (q := 3) (v := (a3 + 1)) (lv' := [(0, .ref (gA G 10 0 0)), (1, .int a1), (2, .int a2), (3, .int (a3 + 1))]) dX11_allTurn_73 rfl rfl rfl (Nat.le_of_ble_eq_true rfl) rfl ?_
          refine ab_goto (tgt := 7) dX11_allTurn_76 (by decide) ?_
          exact ih (a3 + 1) X8 h
        · have h := sat_t hc11 h
          refine ab_aloadn 0 dX11_allTurn_61 rfl ?_
          refine ab_dup dX11_allTurn_62 rfl ?_
          refine fX_gi (x := 28) ⟨by decide, by decide⟩ rfl rfl (Nat.le_of_ble_eq_true rfl) wd_425 rfl dX11_allTurn_63 ?_
          refine ab_iconst (v := 1) dX11_allTurn_66 (by decide) ?_
          refine ab_iloadn 3 dX11_allTurn_67 rfl ?_
          refine ab_ishl dX11_allTurn_68 ?_
          refine ab_ior dX11_allTurn_69 ?_
          refine fX_pi (x := 28) (ty := .int) ⟨by decide, by decide⟩ rfl rfl (Nat.le_of_ble_eq_true rfl) wd_425 rfl h rfl (by decide +kernel) rfl rfl dX11_allTurn_70 (fun X12 h => ?_)
          refine ab_iinc (q := 3) (v := (a3 + 1)) (lv' := [(0, .ref (gA G 10 0 0)), (1, .int a1), (2, .int a2), (3, .int (a3 + 1))]) dX11_allTurn_73 rfl rfl rfl (Nat.le_of_ble_eq_true rfl) rfl ?_
          refine ab_goto (tgt := 7) dX11_allTurn_76 (by decide) ?_
          exact ih (a3 + 1) X12 h
set_option maxRecDepth 8000 in
theorem t_X11_allTurn_0 {l : Launch} {G : GX} {C : CM} {Q : Int32 → Mem → Prop} (N : Nat) (a1 : Int32) (a2 : Int32) (X : XM) (h : SAT (f_X11_allTurn N a1 a2 X) (fun v c => Q v (C, c))) : AB l G (rmD 3) 0 0 mt_X11_allTurn (ZQ G mt_X11_allTurn Q) 0 [(0, .ref (gA G 10 0 0)), (1, .int a1), (2, .int a2)] [] (C, X) := by
  unfold f_X11_allTurn at h
  refine ab_aloadn 0 dX11_allTurn_0 rfl ?_
  refine ab_iconst (v := 0) dX11_allTurn_1 (by decide) ?_
  refine fX_pi (x := 28) (ty := .int) ⟨by decide, by decide⟩ rfl rfl (Nat.le_of_ble_eq_true rfl) wd_425 rfl h rfl (by decide +kernel) rfl rfl dX11_allTurn_2 (fun X1 h => ?_)
  refine ab_iconst (v := 0) dX11_allTurn_5 (by decide) ?_
  refine ab_istoren (lv' := [(0, .ref (gA G 10 0 0)), (1, .int a1), (2, .int a2), (3, .int 0)]) dX11_allTurn_6 rfl (Nat.le_of_ble_eq_true rfl) rfl ?_
  exact t_X11_allTurn_7 N a1 a2 N 0 X1 h
theorem ct_X11_allTurn {l : Launch} {G : GX} {C : CM} {Q : Int32 → Mem → Prop} (N : Nat) (a1 : Int32) (a2 : Int32) (X : XM) (h : SAT (f_X11_allTurn N a1 a2 X) (fun v c => Q v (C, c))) : CT l G 3 mt_X11_allTurn [.ref (gA G 10 0 0), .int a1, .int a2] (C, X) Q := ct_of pn_X11 (Nat.le_of_ble_eq_true rfl) (t_X11_allTurn_0 N a1 a2 X h)
def f_X11_back_2 (N : Nat) : Nat → Int32 → XM → Option (Int32 × XM)
  | 0, _, _ => none
  | n + 1, a1, X => (if 172 ≤ a1 then (rt 0 X) else ldA (X.1 9) 172 a1 (fun v2 => sxA X 2 845 (371 + a1) v2 (fun X3 => (f_X11_back_2 N n (a1 + 1) X3))))
def f_X11_back (N : Nat) (X : XM) : Option (Int32 × XM) := (f_X11_back_2 N N 0 X)
set_option maxRecDepth 8000 in
theorem t_X11_back_2 {l : Launch} {G : GX} {C : CM} {Q : Int32 → Mem → Prop} (N : Nat) : ∀ (n : Nat) (a1 : Int32) (X : XM), SAT (f_X11_back_2 N n a1 X) (fun v c => Q v (C, c)) → AB l G (rmD 1) 0 0 mt_X11_back (ZQ G mt_X11_back Q) 2 [(0, .ref (gA G 10 0 0)), (1, .int a1)] [] (C, X) := by
  intro n
  induction n with
  | zero => intro a1 X h; exact h.elim
  | succ n ih =>
    intro a1 X h
    rw [f_X11_back_2] at h
    refine ab_iloadn 1 dX11_back_2 rfl ?_
    refine ab_sipush (v := 172) dX11_back_3 (by decide) ?_
    refine ab_icmp_ge (tgt := 31) dX11_back_6 (by decide) (fun hc1 => ?_) (fun hc1 => ?_)
    · have h := sat_t hc1 h
      exact fX_vret h rfl dX11_back_31
    · have h := sat_f hc1 h
      refine ab_aloadn 0 dX11_back_9 rfl ?_
      refine f_gr (x := 6) (k2 := 10) (i2 := 0) (j2 := 2) ⟨by decide, by decide⟩ rfl rfl (Nat.le_of_ble_eq_true rfl) wd_406 rfl rfl dX11_back_10 ?_
      refine ab_sipush (v := 371) dX11_back_13 (by decide) ?_
      refine ab_iloadn 1 dX11_back_16 rfl ?_
      refine ab_iadd dX11_back_17 ?_
      refine ab_aloadn 0 dX11_back_18 rfl ?_
      refine f_gr (x := 31) (k2 := 10) (i2 := 0) (j2 := 9) ⟨by decide, by decide⟩ rfl rfl (Nat.le_of_ble_eq_true rfl) wd_423 rfl rfl dX11_back_19 ?_
      refine ab_iloadn 1 dX11_back_22 rfl ?_
      refine fX_iald ⟨by decide, by decide⟩ rfl (fun _ => rfl) h dX11_back_23 (fun v2 h => ?_)
      refine fX_iast ⟨by decide, by decide⟩ rfl (fun _ => rfl) h dX11_back_24 (fun X3 h => ?_)
      refine ab_iinc (q := 1) (v := (a1 + 1)) (lv' := [(0, .ref (gA G 10 0 0)), (1, .int (a1 + 1))]) dX11_back_25 rfl rfl rfl (Nat.le_of_ble_eq_true rfl) rfl ?_
      refine ab_goto (tgt := 2) dX11_back_28 (by decide) ?_
      exact ih (a1 + 1) X3 h
set_option maxRecDepth 8000 in
theorem t_X11_back_0 {l : Launch} {G : GX} {C : CM} {Q : Int32 → Mem → Prop} (N : Nat) (X : XM) (h : SAT (f_X11_back N X) (fun v c => Q v (C, c))) : AB l G (rmD 1) 0 0 mt_X11_back (ZQ G mt_X11_back Q) 0 [(0, .ref (gA G 10 0 0))] [] (C, X) := by
  unfold f_X11_back at h
  refine ab_iconst (v := 0) dX11_back_0 (by decide) ?_
  refine ab_istoren (lv' := [(0, .ref (gA G 10 0 0)), (1, .int 0)]) dX11_back_1 rfl (Nat.le_of_ble_eq_true rfl) rfl ?_
  exact t_X11_back_2 N N 0 X h
theorem ct_X11_back {l : Launch} {G : GX} {C : CM} {Q : Int32 → Mem → Prop} (N : Nat) (X : XM) (h : SAT (f_X11_back N X) (fun v c => Q v (C, c))) : CT l G 1 mt_X11_back [.ref (gA G 10 0 0)] (C, X) Q := ct_of pn_X11 (Nat.le_of_ble_eq_true rfl) (t_X11_back_0 N X h)
def f_X11_faces (N : Nat) (a1 : Int32) (a2 : Int32) (X : XM) : Option (Int32 × XM) := bnd (stX X 0 0 0) (fun X1 => cal (f_X11_isGust a1 a2 X1) (fun v2 X3 => (if v2 = 0 then (rt (-1) X3) else cal (f_X11_tries N X3) (fun v5 X6 => cal (f_X11_allTurn N a1 a2 X6) (fun v7 X8 => cal (f_X11_back N X8) (fun v9 X10 => (rt (X10.1 0 28) X10)))))))
set_option maxRecDepth 8000 in
theorem t_X11_faces_0 {l : Launch} {G : GX} {C : CM} {Q : Int32 → Mem → Prop} (N : Nat) (a1 : Int32) (a2 : Int32) (X : XM) (h : SAT (f_X11_faces N a1 a2 X) (fun v c => Q v (C, c))) : AB l G (rmD 4) 0 0 mt_X11_faces (ZQ G mt_X11_faces Q) 0 [(0, .ref (gA G 10 0 0)), (1, .int a1), (2, .int a2)] [] (C, X) := by
  unfold f_X11_faces at h
  refine ab_aloadn 0 dX11_faces_0 rfl ?_
  refine ab_iconst (v := 0) dX11_faces_1 (by decide) ?_
  refine fX_pi (x := 0) (ty := .int) ⟨by decide, by decide⟩ rfl rfl (Nat.le_of_ble_eq_true rfl) wd_344 rfl h rfl (by decide +kernel) rfl rfl dX11_faces_2 (fun X1 h => ?_)
  refine ab_iloadn 1 dX11_faces_5 rfl ?_
  refine ab_iloadn 2 dX11_faces_6 rfl ?_
  refine fX_Si (mtc := mt_X11_isGust) (As := [.int a1, .int a2]) h (fun Q h => ct_X11_isGust a1 a2 X1 h) mw_X11_isGust wd_414 wd_415 rfl rfl ⟨Nat.le_of_ble_eq_true rfl, Nat.le_of_ble_eq_true rfl⟩ ⟨Nat.zero_le _, Nat.zero_le _⟩ (Nat.le_of_ble_eq_true rfl) rfl dX11_faces_7 (fun v2 X3 h => ?_)
  refine ab_if_ne (tgt := 15) dX11_faces_10 (by decide) (fun hc4 => ?_) (fun hc4 => ?_)
  · have h := sat_f hc4 h
    refine ab_aloadn 0 dX11_faces_15 rfl ?_
    refine fX_Vv (mtc := mt_X11_tries) (As := []) h (fun Q h => ct_X11_tries N X3 h) ⟨by decide, by decide⟩ rfl rfl rfl mw_X11_tries wd_424 rfl rfl ⟨Nat.le_of_ble_eq_true rfl, Nat.le_of_ble_eq_true rfl⟩ ⟨Nat.zero_le _, Nat.zero_le _⟩ (Nat.le_of_ble_eq_true rfl) rfl dX11_faces_16 (fun v5 X6 h => ?_)
    refine ab_aloadn 0 dX11_faces_19 rfl ?_
    refine ab_iloadn 1 dX11_faces_20 rfl ?_
    refine ab_iloadn 2 dX11_faces_21 rfl ?_
    refine fX_Vv (mtc := mt_X11_allTurn) (As := [.int a1, .int a2]) h (fun Q h => ct_X11_allTurn N a1 a2 X6 h) ⟨by decide, by decide⟩ rfl rfl rfl mw_X11_allTurn wd_427 rfl rfl ⟨Nat.le_of_ble_eq_true rfl, Nat.le_of_ble_eq_true rfl⟩ ⟨Nat.zero_le _, Nat.zero_le _⟩ (Nat.le_of_ble_eq_true rfl) rfl dX11_faces_22 (fun v7 X8 h => ?_)
    refine ab_aloadn 0 dX11_faces_25 rfl ?_
    refine fX_Vv (mtc := mt_X11_back) (As := []) h (fun Q h => ct_X11_back N X8 h) ⟨by decide, by decide⟩ rfl rfl rfl mw_X11_back wd_428 rfl rfl ⟨Nat.le_of_ble_eq_true rfl, Nat.le_of_ble_eq_true rfl⟩ ⟨Nat.zero_le _, Nat.zero_le _⟩ (Nat.le_of_ble_eq_true rfl) rfl dX11_faces_26 (fun v9 X10 h => ?_)
    refine ab_aloadn 0 dX11_faces_29 rfl ?_
    refine fX_gi (x := 28) ⟨by decide, by decide⟩ rfl rfl (Nat.le_of_ble_eq_true rfl) wd_425 rfl dX11_faces_30 ?_
    exact fX_iret h rfl rfl dX11_faces_33
  · have h := sat_t hc4 h
    refine ab_iconst (v := (-1)) dX11_faces_13 (by decide) ?_
    exact fX_iret h rfl rfl dX11_faces_14
theorem ct_X11_faces {l : Launch} {G : GX} {C : CM} {Q : Int32 → Mem → Prop} (N : Nat) (a1 : Int32) (a2 : Int32) (X : XM) (h : SAT (f_X11_faces N a1 a2 X) (fun v c => Q v (C, c))) : CT l G 4 mt_X11_faces [.ref (gA G 10 0 0), .int a1, .int a2] (C, X) Q := ct_of pn_X11 (Nat.le_of_ble_eq_true rfl) (t_X11_faces_0 N a1 a2 X h)
def f_X11_gets (a1 : Int32) (a2 : Int32) (X : XM) : Option (Int32 × XM) := ldA (X.1 2) 845 (373 + a1) (fun v1 => sxA X 2 845 (373 + a1) (v1 + a2) (fun X2 => ldA (X2.1 2) 845 (421 + a1) (fun v3 => sxA X2 2 845 (421 + a1) (v3 + a2) (fun X4 => (rt 0 X4)))))
set_option maxRecDepth 8000 in
theorem t_X11_gets_0 {l : Launch} {G : GX} {C : CM} {Q : Int32 → Mem → Prop} (a1 : Int32) (a2 : Int32) (X : XM) (h : SAT (f_X11_gets a1 a2 X) (fun v c => Q v (C, c))) : AB l G (rmD 1) 0 0 mt_X11_gets (ZQ G mt_X11_gets Q) 0 [(0, .ref (gA G 10 0 0)), (1, .int a1), (2, .int a2)] [] (C, X) := by
  unfold f_X11_gets at h
  refine ab_aloadn 0 dX11_gets_0 rfl ?_
  refine f_gr (x := 6) (k2 := 10) (i2 := 0) (j2 := 2) ⟨by decide, by decide⟩ rfl rfl (Nat.le_of_ble_eq_true rfl) wd_406 rfl rfl dX11_gets_1 ?_
  refine ab_sipush (v := 373) dX11_gets_4 (by decide) ?_
  refine ab_iloadn 1 dX11_gets_7 rfl ?_
  refine ab_iadd dX11_gets_8 ?_
  refine ab_dup2 dX11_gets_9 rfl rfl ?_
  refine fX_iald ⟨by decide, by decide⟩ rfl (fun _ => rfl) h dX11_gets_10 (fun v1 h => ?_)
  refine ab_iloadn 2 dX11_gets_11 rfl ?_
  refine ab_iadd dX11_gets_12 ?_
  refine fX_iast ⟨by decide, by decide⟩ rfl (fun _ => rfl) h dX11_gets_13 (fun X2 h => ?_)
  refine ab_aloadn 0 dX11_gets_14 rfl ?_
  refine f_gr (x := 6) (k2 := 10) (i2 := 0) (j2 := 2) ⟨by decide, by decide⟩ rfl rfl (Nat.le_of_ble_eq_true rfl) wd_406 rfl rfl dX11_gets_15 ?_
  refine ab_sipush (v := 421) dX11_gets_18 (by decide) ?_
  refine ab_iloadn 1 dX11_gets_21 rfl ?_
  refine ab_iadd dX11_gets_22 ?_
  refine ab_dup2 dX11_gets_23 rfl rfl ?_
  refine fX_iald ⟨by decide, by decide⟩ rfl (fun _ => rfl) h dX11_gets_24 (fun v3 h => ?_)
  refine ab_iloadn 2 dX11_gets_25 rfl ?_
  refine ab_iadd dX11_gets_26 ?_
  refine fX_iast ⟨by decide, by decide⟩ rfl (fun _ => rfl) h dX11_gets_27 (fun X4 h => ?_)
  exact fX_vret h rfl dX11_gets_28
theorem ct_X11_gets {l : Launch} {G : GX} {C : CM} {Q : Int32 → Mem → Prop} (a1 : Int32) (a2 : Int32) (X : XM) (h : SAT (f_X11_gets a1 a2 X) (fun v c => Q v (C, c))) : CT l G 1 mt_X11_gets [.ref (gA G 10 0 0), .int a1, .int a2] (C, X) Q := ct_of pn_X11 (Nat.le_of_ble_eq_true rfl) (t_X11_gets_0 a1 a2 X h)
def f_X11_blows_372 (N : Nat) (k335 : Int32 → XM → Option (Int32 × XM)) (a6 : Int32) (as0 : Int32) (X : XM) : Option (Int32 × XM) := ldA (X.1 7) 8 a6 (fun v1 => cal (f_X11_gets a6 (v1 - as0) X) (fun v2 X3 => (if as0 ≤ 0 then (k335 (a6 + 1) X3) else ldA (X3.1 2) 845 (47 + a6) (fun v5 => cal (f_X11_gets (v5 - 1) as0 X3) (fun v6 X7 => (k335 (a6 + 1) X7))))))
def f_X11_blows_335 (N : Nat) : Nat → Int32 → XM → Option (Int32 × XM)
  | 0, _, _ => none
  | n + 1, a6, X => ldA (X.1 2) 845 2 (fun v1 => (if v1 ≤ a6 then (rt 0 X) else ldA (X.1 2) 845 (47 + a6) (fun v3 => (if v3 ≤ 0 then (f_X11_blows_372 N (fun z6 c => f_X11_blows_335 N n z6 c) a6 0 X) else ldA (X.1 7) 8 a6 (fun v5 => (f_X11_blows_372 N (fun z6 c => f_X11_blows_335 N n z6 c) a6 (v5 / 3) X))))))
def f_X11_blows_269 (N : Nat) (k258 : Int32 → XM → Option (Int32 × XM)) (a5 : Int32) : Nat → Int32 → Int32 → XM → Option (Int32 × XM)
  | 0, _, _, _ => none
  | n + 1, a6, a7, X => ldA (X.1 2) 845 2 (fun v1 => (if v1 ≤ a7 then ldA (X.1 7) 8 a6 (fun v3 => sxA X 7 8 a6 (v3 + 1) (fun X4 => sxA X4 8 8 a6 (-1) (fun X5 => (k258 (a5 - 1) X5)))) else ldA (X.1 8) 8 a7 (fun v6 => ldA (X.1 8) 8 a6 (fun v7 => (if v6 ≤ v7 then (f_X11_blows_269 N k258 a5 n a6 (a7 + 1) X) else (f_X11_blows_269 N k258 a5 n a7 (a7 + 1) X))))))
def f_X11_blows_258 (N : Nat) : Nat → Int32 → XM → Option (Int32 × XM)
  | 0, _, _ => none
  | n + 1, a5, X => (if a5 ≤ 0 then (f_X11_blows_335 N N 0 X) else (f_X11_blows_269 N (fun z5 c => f_X11_blows_258 N n z5 c) a5 N 0 1 X))
def f_X11_blows_239 (N : Nat) (k156 : Int32 → Int32 → XM → Option (Int32 × XM)) (a3 : Int32) (a4 : Int32) (a5 : Int32) (a6 : Int32) (as0 : Int32) (as1 : Int32) (X : XM) : Option (Int32 × XM) := sxA X 8 8 as1 as0 (fun X1 => ldA (X1.1 7) 8 a6 (fun v2 => (k156 (a5 - v2) (a6 + 1) X1)))
def f_X11_blows_208 (N : Nat) (k156 : Int32 → Int32 → XM → Option (Int32 × XM)) (a3 : Int32) (a4 : Int32) (a5 : Int32) (a6 : Int32) (a7 : Int32) (as0 : Int32) (as1 : Int32) (X : XM) : Option (Int32 × XM) := sxA X 7 8 as1 as0 (fun X1 => (if a7 = 0 then (f_X11_blows_239 N k156 a3 a4 a5 a6 (-1) a6 X1) else ldA (X1.1 2) 845 (23 + a6) (fun v3 => chk (decide (a4 ≠ 0)) ((f_X11_blows_239 N k156 a3 a4 a5 a6 ((a3 * v3) - (a3 * v3) / a4 * a4) a6 X1)))))
def f_X11_blows_156 (N : Nat) (a3 : Int32) (a4 : Int32) : Nat → Int32 → Int32 → XM → Option (Int32 × XM)
  | 0, _, _, _ => none
  | n + 1, a5, a6, X => ldA (X.1 2) 845 2 (fun v1 => (if v1 ≤ a6 then (f_X11_blows_258 N N a5 X) else cal (f_X11_bitOf (X.1 0 28) a6 X) (fun v3 X4 => (if v3 = 0 then (f_X11_blows_208 N (fun z5 z6 c => f_X11_blows_156 N a3 a4 n z5 z6 c) a3 a4 a5 a6 v3 0 a6 X4) else ldA (X4.1 2) 845 (23 + a6) (fun v6 => chk (decide (a4 ≠ 0)) ((f_X11_blows_208 N (fun z5 z6 c => f_X11_blows_156 N a3 a4 n z5 z6 c) a3 a4 a5 a6 v3 ((a3 * v6) / a4) a6 X4)))))))
def f_X11_blows_85 (N : Nat) (k14 : Int32 → Int32 → Int32 → XM → Option (Int32 × XM)) (a2 : Int32) (a3 : Int32) (a4 : Int32) (a5 : Int32) (as0 : Int32) (X : XM) : Option (Int32 × XM) := ldA (X.1 2) 845 (373 + a5) (fun v1 => sxA X 2 845 (373 + a5) (v1 - as0) (fun X2 => ldA (X2.1 2) 845 (413 + a5) (fun v3 => sxA X2 2 845 (413 + a5) (v3 + as0) (fun X4 => (k14 (a3 + as0) a4 (a5 + 1) X4)))))
def f_X11_blows_14 (N : Nat) (a2 : Int32) : Nat → Int32 → Int32 → Int32 → XM → Option (Int32 × XM)
  | 0, _, _, _, _ => none
  | n + 1, a3, a4, a5, X => ldA (X.1 2) 845 2 (fun v1 => (if v1 ≤ a5 then (if (X.1 0 28) = 0 then ldA (X.1 2) 845 372 (fun v4 => sxA X 2 845 372 (v4 + a3) (fun X5 => (rt 0 X5))) else (f_X11_blows_156 N a3 a4 N a3 0 X)) else cal (f_X11_bitOf (X.1 0 28) a5 X) (fun v6 X7 => (if v6 = 0 then ldA (X7.1 2) 845 (373 + a5) (fun v9 => (if a2 ≤ v9 then (f_X11_blows_85 N (fun z3 z4 z5 c => f_X11_blows_14 N a2 n z3 z4 z5 c) a2 a3 a4 a5 a2 X7) else ldA (X7.1 2) 845 (373 + a5) (fun v11 => (f_X11_blows_85 N (fun z3 z4 z5 c => f_X11_blows_14 N a2 n z3 z4 z5 c) a2 a3 a4 a5 v11 X7)))) else ldA (X7.1 2) 845 (23 + a5) (fun v12 => (f_X11_blows_14 N a2 n a3 (a4 + v12) (a5 + 1) X7))))))
def f_X11_blows (N : Nat) (a1 : Int32) (a2 : Int32) (X : XM) : Option (Int32 × XM) := cal (f_X11_allTurn N a1 a2 X) (fun v1 X2 => (f_X11_blows_14 N a2 N 0 0 0 X2))
set_option maxRecDepth 8000 in
theorem t_X11_blows_372 {l : Launch} {G : GX} {C : CM} {Q : Int32 → Mem → Prop} (N : Nat) (k335 : Int32 → XM → Option (Int32 × XM)) (a6 : Int32) (as0 : Int32) (hk335 : ∀ (ac6 : Int32) (X : XM), SAT (k335 ac6 X) (fun v c => Q v (C, c)) → AB l G (rmD 4) 0 0 mt_X11_blows (ZQ G mt_X11_blows Q) 335 [(0, .ref (gA G 10 0 0)), (6, .int ac6)] [] (C, X)) (X : XM) (h : SAT (f_X11_blows_372 N k335 a6 as0 X) (fun v c => Q v (C, c))) : AB l G (rmD 4) 0 0 mt_X11_blows (ZQ G mt_X11_blows Q) 372 [(0, .ref (gA G 10 0 0)), (6, .int a6)] [.int as0] (C, X) := by
  unfold f_X11_blows_372 at h
  refine ab_istore (lv' := [(0, .ref (gA G 10 0 0)), (6, .int a6), (7, .int as0)]) dX11_blows_372 rfl (Nat.le_of_ble_eq_true rfl) rfl ?_
  refine ab_aloadn 0 dX11_blows_374 rfl ?_
  refine ab_iload 1 dX11_blows_375 rfl ?_
  refine ab_aloadn 0 dX11_blows_377 rfl ?_
  refine f_gr (x := 29) (k2 := 10) (i2 := 0) (j2 := 7) ⟨by decide, by decide⟩ rfl rfl (Nat.le_of_ble_eq_true rfl) wd_429 rfl rfl dX11_blows_378 ?_
  refine ab_iload 1 dX11_blows_381 rfl ?_
  refine fX_iald ⟨by decide, by decide⟩ rfl (fun _ => rfl) h dX11_blows_383 (fun v1 h => ?_)
  refine ab_iload 2 dX11_blows_384 rfl ?_
  refine ab_isub dX11_blows_386 ?_
  refine fX_Vv (mtc := mt_X11_gets) (As := [.int a6, .int (v1 - as0)]) h (fun Q h => ct_X11_gets a6 (v1 - as0) X h) ⟨by decide, by decide⟩ rfl rfl rfl mw_X11_gets wd_431 rfl rfl ⟨Nat.le_of_ble_eq_true rfl, Nat.le_of_ble_eq_true rfl⟩ ⟨Nat.zero_le _, Nat.zero_le _⟩ (Nat.le_of_ble_eq_true rfl) rfl dX11_blows_387 (fun v2 X3 h => ?_)
  refine ab_iload 2 dX11_blows_390 rfl ?_
  refine ab_if_le (tgt := 413) dX11_blows_392 (by decide) (fun hc4 => ?_) (fun hc4 => ?_)
  · have h := sat_t hc4 h
    refine ab_iinc (q := 1) (v := (a6 + 1)) (lv' := [(0, .ref (gA G 10 0 0)), (6, .int (a6 + 1)), (7, .int as0)]) dX11_blows_413 rfl rfl rfl (Nat.le_of_ble_eq_true rfl) rfl ?_
    refine ab_goto (tgt := 335) dX11_blows_416 (by decide) ?_
    refine ab_sub [0, 1] rfl ?_
    exact hk335 (a6 + 1) X3 h
  · have h := sat_f hc4 h
    refine ab_aloadn 0 dX11_blows_395 rfl ?_
    refine ab_aloadn 0 dX11_blows_396 rfl ?_
    refine f_gr (x := 6) (k2 := 10) (i2 := 0) (j2 := 2) ⟨by decide, by decide⟩ rfl rfl (Nat.le_of_ble_eq_true rfl) wd_406 rfl rfl dX11_blows_397 ?_
    refine ab_bipush (v := 47) dX11_blows_400 (by decide) ?_
    refine ab_iload 1 dX11_blows_402 rfl ?_
    refine ab_iadd dX11_blows_404 ?_
    refine fX_iald ⟨by decide, by decide⟩ rfl (fun _ => rfl) h dX11_blows_405 (fun v5 h => ?_)
    refine ab_iconst (v := 1) dX11_blows_406 (by decide) ?_
    refine ab_isub dX11_blows_407 ?_
    refine ab_iload 2 dX11_blows_408 rfl ?_
    refine fX_Vv (mtc := mt_X11_gets) (As := [.int (v5 - 1), .int as0]) h (fun Q h => ct_X11_gets (v5 - 1) as0 X3 h) ⟨by decide, by decide⟩ rfl rfl rfl mw_X11_gets wd_431 rfl rfl ⟨Nat.le_of_ble_eq_true rfl, Nat.le_of_ble_eq_true rfl⟩ ⟨Nat.zero_le _, Nat.zero_le _⟩ (Nat.le_of_ble_eq_true rfl) rfl dX11_blows_410 (fun v6 X7 h => ?_)
    refine ab_iinc (q := 1) (v := (a6 + 1)) (lv' := [(0, .ref (gA G 10 0 0)), (6, .int (a6 + 1)), (7, .int as0)]) dX11_blows_413 rfl rfl rfl (Nat.le_of_ble_eq_true rfl) rfl ?_
    refine ab_goto (tgt := 335) dX11_blows_416 (by decide) ?_
    refine ab_sub [0, 1] rfl ?_
    exact hk335 (a6 + 1) X7 h
set_option maxRecDepth 8000 in
theorem t_X11_blows_335 {l : Launch} {G : GX} {C : CM} {Q : Int32 → Mem → Prop} (N : Nat) : ∀ (n : Nat) (a6 : Int32) (X : XM), SAT (f_X11_blows_335 N n a6 X) (fun v c => Q v (C, c)) → AB l G (rmD 4) 0 0 mt_X11_blows (ZQ G mt_X11_blows Q) 335 [(0, .ref (gA G 10 0 0)), (6, .int a6)] [] (C, X) := by
  intro n
  induction n with
  | zero => intro a6 X h; exact h.elim
  | succ n ih =>
    intro a6 X h
    rw [f_X11_blows_335] at h
    refine ab_iload 1 dX11_blows_335 rfl ?_
    refine ab_aloadn 0 dX11_blows_337 rfl ?_
    refine f_gr (x := 6) (k2 := 10) (i2 := 0) (j2 := 2) ⟨by decide, by decide⟩ rfl rfl (Nat.le_of_ble_eq_true rfl) wd_406 rfl rfl dX11_blows_338 ?_
    refine ab_iconst (v := 2) dX11_blows_341 (by decide) ?_
    refine fX_iald ⟨by decide, by decide⟩ rfl (fun _ => rfl) h dX11_blows_342 (fun v1 h => ?_)
    refine ab_icmp_ge (tgt := 419) dX11_blows_343 (by decide) (fun hc2 => ?_) (fun hc2 => ?_)
    · have h := sat_t hc2 h
      exact fX_vret h rfl dX11_blows_419
    · have h := sat_f hc2 h
      refine ab_aloadn 0 dX11_blows_346 rfl ?_
      refine f_gr (x := 6) (k2 := 10) (i2 := 0) (j2 := 2) ⟨by decide, by decide⟩ rfl rfl (Nat.le_of_ble_eq_true rfl) wd_406 rfl rfl dX11_blows_347 ?_
      refine ab_bipush (v := 47) dX11_blows_350 (by decide) ?_
      refine ab_iload 1 dX11_blows_352 rfl ?_
      refine ab_iadd dX11_blows_354 ?_
      refine fX_iald ⟨by decide, by decide⟩ rfl (fun _ => rfl) h dX11_blows_355 (fun v3 h => ?_)
      refine ab_if_le (tgt := 371) dX11_blows_356 (by decide) (fun hc4 => ?_) (fun hc4 => ?_)
      · have h := sat_t hc4 h
        refine ab_iconst (v := 0) dX11_blows_371 (by decide) ?_
        exact t_X11_blows_372 N (fun z6 c => f_X11_blows_335 N n z6 c) a6 0 ih X h
      · have h := sat_f hc4 h
        refine ab_aloadn 0 dX11_blows_359 rfl ?_
        refine f_gr (x := 29) (k2 := 10) (i2 := 0) (j2 := 7) ⟨by decide, by decide⟩ rfl rfl (Nat.le_of_ble_eq_true rfl) wd_429 rfl rfl dX11_blows_360 ?_
        refine ab_iload 1 dX11_blows_363 rfl ?_
        refine fX_iald ⟨by decide, by decide⟩ rfl (fun _ => rfl) h dX11_blows_365 (fun v5 h => ?_)
        refine ab_iconst (v := 3) dX11_blows_366 (by decide) ?_
        refine ab_idiv dX11_blows_367 (by decide) ?_
        refine ab_goto (tgt := 372) dX11_blows_368 (by decide) ?_
        exact t_X11_blows_372 N (fun z6 c => f_X11_blows_335 N n z6 c) a6 (v5 / 3) ih X h
set_option maxRecDepth 8000 in
theorem t_X11_blows_269 {l : Launch} {G : GX} {C : CM} {Q : Int32 → Mem → Prop} (N : Nat) (k258 : Int32 → XM → Option (Int32 × XM)) (a5 : Int32) (hk258 : ∀ (ac5 : Int32) (X : XM), SAT (k258 ac5 X) (fun v c => Q v (C, c)) → AB l G (rmD 4) 0 0 mt_X11_blows (ZQ G mt_X11_blows Q) 258 [(0, .ref (gA G 10 0 0)), (5, .int ac5)] [] (C, X)) : ∀ (n : Nat) (a6 : Int32) (a7 : Int32) (X : XM), SAT (f_X11_blows_269 N k258 a5 n a6 a7 X) (fun v c => Q v (C, c)) → AB l G (rmD 4) 0 0 mt_X11_blows (ZQ G mt_X11_blows Q) 269 [(0, .ref (gA G 10 0 0)), (5, .int a5), (6, .int a6), (7, .int a7)] [] (C, X) := by
  intro n
  induction n with
  | zero => intro a6 a7 X h; exact h.elim
  | succ n ih =>
    intro a6 a7 X h
    rw [f_X11_blows_269] at h
    refine ab_iload 3 dX11_blows_269 rfl ?_
    refine ab_aloadn 0 dX11_blows_271 rfl ?_
    refine f_gr (x := 6) (k2 := 10) (i2 := 0) (j2 := 2) ⟨by decide, by decide⟩ rfl rfl (Nat.le_of_ble_eq_true rfl) wd_406 rfl rfl dX11_blows_272 ?_
    refine ab_iconst (v := 2) dX11_blows_275 (by decide) ?_
    refine fX_iald ⟨by decide, by decide⟩ rfl (fun _ => rfl) h dX11_blows_276 (fun v1 h => ?_)
    refine ab_icmp_ge (tgt := 307) dX11_blows_277 (by decide) (fun hc2 => ?_) (fun hc2 => ?_)
    · have h := sat_t hc2 h
      refine ab_aloadn 0 dX11_blows_307 rfl ?_
      refine f_gr (x := 29) (k2 := 10) (i2 := 0) (j2 := 7) ⟨by decide, by decide⟩ rfl rfl (Nat.le_of_ble_eq_true rfl) wd_429 rfl rfl dX11_blows_308 ?_
      refine ab_iload 2 dX11_blows_311 rfl ?_
      refine ab_dup2 dX11_blows_313 rfl rfl ?_
      refine fX_iald ⟨by decide, by decide⟩ rfl (fun _ => rfl) h dX11_blows_314 (fun v3 h => ?_)
      refine ab_iconst (v := 1) dX11_blows_315 (by decide) ?_
      refine ab_iadd dX11_blows_316 ?_
      refine fX_iast ⟨by decide, by decide⟩ rfl (fun _ => rfl) h dX11_blows_317 (fun X4 h => ?_)
      refine ab_aloadn 0 dX11_blows_318 rfl ?_
      refine f_gr (x := 30) (k2 := 10) (i2 := 0) (j2 := 8) ⟨by decide, by decide⟩ rfl rfl (Nat.le_of_ble_eq_true rfl) wd_430 rfl rfl dX11_blows_319 ?_
      refine ab_iload 2 dX11_blows_322 rfl ?_
      refine ab_iconst (v := (-1)) dX11_blows_324 (by decide) ?_
      refine fX_iast ⟨by decide, by decide⟩ rfl (fun _ => rfl) h dX11_blows_325 (fun X5 h => ?_)
      refine ab_iinc (q := 1) (v := (a5 - 1)) (lv' := [(0, .ref (gA G 10 0 0)), (5, .int (a5 - 1)), (6, .int a6), (7, .int a7)]) dX11_blows_326 rfl (ii_m1 _) rfl (Nat.le_of_ble_eq_true rfl) rfl ?_
      refine ab_goto (tgt := 258) dX11_blows_329 (by decide) ?_
      refine ab_sub [0, 1] rfl ?_
      exact hk258 (a5 - 1) X5 h
    · have h := sat_f hc2 h
      refine ab_aloadn 0 dX11_blows_280 rfl ?_
      refine f_gr (x := 30) (k2 := 10) (i2 := 0) (j2 := 8) ⟨by decide, by decide⟩ rfl rfl (Nat.le_of_ble_eq_true rfl) wd_430 rfl rfl dX11_blows_281 ?_
      refine ab_iload 3 dX11_blows_284 rfl ?_
      refine fX_iald ⟨by decide, by decide⟩ rfl (fun _ => rfl) h dX11_blows_286 (fun v6 h => ?_)
      refine ab_aloadn 0 dX11_blows_287 rfl ?_
      refine f_gr (x := 30) (k2 := 10) (i2 := 0) (j2 := 8) ⟨by decide, by decide⟩ rfl rfl (Nat.le_of_ble_eq_true rfl) wd_430 rfl rfl dX11_blows_288 ?_
      refine ab_iload 2 dX11_blows_291 rfl ?_
      refine fX_iald ⟨by decide, by decide⟩ rfl (fun _ => rfl) h dX11_blows_293 (fun v7 h => ?_)
      refine ab_icmp_le (tgt := 301) dX11_blows_294 (by decide) (fun hc8 => ?_) (fun hc8 => ?_)
      · have h := sat_t hc8 h
        refine ab_iinc (q := 3) (v := (a7 + 1)) (lv' := [(0, .ref (gA G 10 0 0)), (5, .int a5), (6, .int a6), (7, .int (a7 + 1))]) dX11_blows_301 rfl rfl rfl (Nat.le_of_ble_eq_true rfl) rfl ?_
        refine ab_goto (tgt := 269) dX11_blows_304 (by decide) ?_
        exact ih a6 (a7 + 1) X h
      · have h := sat_f hc8 h
        refine ab_iload 3 dX11_blows_297 rfl ?_
        refine ab_istore (lv' := [(0, .ref (gA G 10 0 0)), (5, .int a5), (6, .int a7), (7, .int a7)]) dX11_blows_299 rfl (Nat.le_of_ble_eq_true rfl) rfl ?_
        refine ab_iinc (q := 3) (v := (a7 + 1)) (lv' := [(0, .ref (gA G 10 0 0)), (5, .int a5), (6, .int a7), (7, .int (a7 + 1))]) dX11_blows_301 rfl rfl rfl (Nat.le_of_ble_eq_true rfl) rfl ?_
        refine ab_goto (tgt := 269) dX11_blows_304 (by decide) ?_
        exact ih a7 (a7 + 1) X h
set_option maxRecDepth 8000 in
theorem t_X11_blows_258 {l : Launch} {G : GX} {C : CM} {Q : Int32 → Mem → Prop} (N : Nat) : ∀ (n : Nat) (a5 : Int32) (X : XM), SAT (f_X11_blows_258 N n a5 X) (fun v c => Q v (C, c)) → AB l G (rmD 4) 0 0 mt_X11_blows (ZQ G mt_X11_blows Q) 258 [(0, .ref (gA G 10 0 0)), (5, .int a5)] [] (C, X) := by
  intro n
  induction n with
  | zero => intro a5 X h; exact h.elim
  | succ n ih =>
    intro a5 X h
    rw [f_X11_blows_258] at h
    refine ab_iload 1 dX11_blows_258 rfl ?_
    refine ab_if_le (tgt := 332) dX11_blows_260 (by decide) (fun hc1 => ?_) (fun hc1 => ?_)
    · have h := sat_t hc1 h
      refine ab_iconst (v := 0) dX11_blows_332 (by decide) ?_
      refine ab_istore (lv' := [(0, .ref (gA G 10 0 0)), (5, .int a5), (6, .int 0)]) dX11_blows_333 rfl (Nat.le_of_ble_eq_true rfl) rfl ?_
      refine ab_sub [0, 2] rfl ?_
      exact t_X11_blows_335 N N 0 X h
    · have h := sat_f hc1 h
      refine ab_iconst (v := 0) dX11_blows_263 (by decide) ?_
      refine ab_istore (lv' := [(0, .ref (gA G 10 0 0)), (5, .int a5), (6, .int 0)]) dX11_blows_264 rfl (Nat.le_of_ble_eq_true rfl) rfl ?_
      refine ab_iconst (v := 1) dX11_blows_266 (by decide) ?_
      refine ab_istore (lv' := [(0, .ref (gA G 10 0 0)), (5, .int a5), (6, .int 0), (7, .int 1)]) dX11_blows_267 rfl (Nat.le_of_ble_eq_true rfl) rfl ?_
      exact t_X11_blows_269 N (fun z5 c => f_X11_blows_258 N n z5 c) a5 ih N 0 1 X h
set_option maxRecDepth 8000 in
theorem t_X11_blows_239 {l : Launch} {G : GX} {C : CM} {Q : Int32 → Mem → Prop} (N : Nat) (k156 : Int32 → Int32 → XM → Option (Int32 × XM)) (a3 : Int32) (a4 : Int32) (a5 : Int32) (a6 : Int32) (as0 : Int32) (as1 : Int32) (hk156 : ∀ (ac5 : Int32) (ac6 : Int32) (X : XM), SAT (k156 ac5 ac6 X) (fun v c => Q v (C, c)) → AB l G (rmD 4) 0 0 mt_X11_blows (ZQ G mt_X11_blows Q) 156 [(0, .ref (gA G 10 0 0)), (3, .int a3), (4, .int a4), (5, .int ac5), (6, .int ac6)] [] (C, X)) (X : XM) (h : SAT (f_X11_blows_239 N k156 a3 a4 a5 a6 as0 as1 X) (fun v c => Q v (C, c))) : AB l G (rmD 4) 0 0 mt_X11_blows (ZQ G mt_X11_blows Q) 239 [(0, .ref (gA G 10 0 0)), (3, .int a3), (4, .int a4), (5, .int a5), (6, .int a6)] [.int as0, .int as1, .ref (gA G 10 0 8)] (C, X) := by
  unfold f_X11_blows_239 at h
  refine fX_iast ⟨by decide, by decide⟩ rfl (fun _ => rfl) h dX11_blows_239 (fun X1 h => ?_)
  refine ab_iload 3 dX11_blows_240 rfl ?_
  refine ab_aloadn 0 dX11_blows_242 rfl ?_
  refine f_gr (x := 29) (k2 := 10) (i2 := 0) (j2 := 7) ⟨by decide, by decide⟩ rfl rfl (Nat.le_of_ble_eq_true rfl) wd_429 rfl rfl dX11_blows_243 ?_
  refine ab_iload 4 dX11_blows_246 rfl ?_
  refine fX_iald ⟨by decide, by decide⟩ rfl (fun _ => rfl) h dX11_blows_248 (fun v2 h => ?_)
  refine ab_isub dX11_blows_249 ?_
  refine ab_istore (lv' := [(0, .ref (gA G 10 0 0)), (3, .int a3), (4, .int a4), (5, .int (a5 - v2)), (6, .int a6)]) dX11_blows_250 rfl (Nat.le_of_ble_eq_true rfl) rfl ?_
  refine ab_iinc (q := 4) (v := (a6 + 1)) (lv' := [(0, .ref (gA G 10 0 0)), (3, .int a3), (4, .int a4), (5, .int (a5 - v2)), (6, .int (a6 + 1))]) dX11_blows_252 rfl rfl rfl (Nat.le_of_ble_eq_true rfl) rfl ?_
  refine ab_goto (tgt := 156) dX11_blows_255 (by decide) ?_
  exact hk156 (a5 - v2) (a6 + 1) X1 h
set_option maxRecDepth 8000 in
theorem t_X11_blows_208 {l : Launch} {G : GX} {C : CM} {Q : Int32 → Mem → Prop} (N : Nat) (k156 : Int32 → Int32 → XM → Option (Int32 × XM)) (a3 : Int32) (a4 : Int32) (a5 : Int32) (a6 : Int32) (a7 : Int32) (as0 : Int32) (as1 : Int32) (hk156 : ∀ (ac5 : Int32) (ac6 : Int32) (X : XM), SAT (k156 ac5 ac6 X) (fun v c => Q v (C, c)) → AB l G (rmD 4) 0 0 mt_X11_blows (ZQ G mt_X11_blows Q) 156 [(0, .ref (gA G 10 0 0)), (3, .int a3), (4, .int a4), (5, .int ac5), (6, .int ac6)] [] (C, X)) (X : XM) (h : SAT (f_X11_blows_208 N k156 a3 a4 a5 a6 a7 as0 as1 X) (fun v c => Q v (C, c))) : AB l G (rmD 4) 0 0 mt_X11_blows (ZQ G mt_X11_blows Q) 208 [(0, .ref (gA G 10 0 0)), (3, .int a3), (4, .int a4), (5, .int a5), (6, .int a6), (7, .int a7)] [.int as0, .int as1, .ref (gA G 10 0 7)] (C, X) := by
  unfold f_X11_blows_208 at h
  refine fX_iast ⟨by decide, by decide⟩ rfl (fun _ => rfl) h dX11_blows_208 (fun X1 h => ?_)
  refine ab_aloadn 0 dX11_blows_209 rfl ?_
  refine f_gr (x := 30) (k2 := 10) (i2 := 0) (j2 := 8) ⟨by decide, by decide⟩ rfl rfl (Nat.le_of_ble_eq_true rfl) wd_430 rfl rfl dX11_blows_210 ?_
  refine ab_iload 4 dX11_blows_213 rfl ?_
  refine ab_iload 5 dX11_blows_215 rfl ?_
  refine ab_if_eq (tgt := 238) dX11_blows_217 (by decide) (fun hc2 => ?_) (fun hc2 => ?_)
  · have h := sat_t hc2 h
    refine ab_iconst (v := (-1)) dX11_blows_238 (by decide) ?_
    refine ab_sub [0, 1, 2, 3, 4] rfl ?_
    exact t_X11_blows_239 N k156 a3 a4 a5 a6 (-1) a6 hk156 X1 h
  · have h := sat_f hc2 h
    refine ab_iloadn 1 dX11_blows_220 rfl ?_
    refine ab_aloadn 0 dX11_blows_221 rfl ?_
    refine f_gr (x := 6) (k2 := 10) (i2 := 0) (j2 := 2) ⟨by decide, by decide⟩ rfl rfl (Nat.le_of_ble_eq_true rfl) wd_406 rfl rfl dX11_blows_222 ?_
    refine ab_bipush (v := 23) dX11_blows_225 (by decide) ?_
    refine ab_iload 4 dX11_blows_227 rfl ?_
    refine ab_iadd dX11_blows_229 ?_
    refine fX_iald ⟨by decide, by decide⟩ rfl (fun _ => rfl) h dX11_blows_230 (fun v3 h => ?_)
    refine ab_imul dX11_blows_231 ?_
    refine ab_iload 2 dX11_blows_232 rfl ?_
    refine f_irem h dX11_blows_234 (fun h => ?_)
    refine ab_goto (tgt := 239) dX11_blows_235 (by decide) ?_
    refine ab_sub [0, 1, 2, 3, 4] rfl ?_
    exact t_X11_blows_239 N k156 a3 a4 a5 a6 ((a3 * v3) - (a3 * v3) / a4 * a4) a6 hk156 X1 h
set_option maxRecDepth 8000 in
theorem t_X11_blows_156 {l : Launch} {G : GX} {C : CM} {Q : Int32 → Mem → Prop} (N : Nat) (a3 : Int32) (a4 : Int32) : ∀ (n : Nat) (a5 : Int32) (a6 : Int32) (X : XM), SAT (f_X11_blows_156 N a3 a4 n a5 a6 X) (fun v c => Q v (C, c)) → AB l G (rmD 4) 0 0 mt_X11_blows (ZQ G mt_X11_blows Q) 156 [(0, .ref (gA G 10 0 0)), (3, .int a3), (4, .int a4), (5, .int a5), (6, .int a6)] [] (C, X) := by
  intro n
  induction n with
  | zero => intro a5 a6 X h; exact h.elim
  | succ n ih =>
    intro a5 a6 X h
    rw [f_X11_blows_156] at h
    refine ab_iload 4 dX11_blows_156 rfl ?_
    refine ab_aloadn 0 dX11_blows_158 rfl ?_
    refine f_gr (x := 6) (k2 := 10) (i2 := 0) (j2 := 2) ⟨by decide, by decide⟩ rfl rfl (Nat.le_of_ble_eq_true rfl) wd_406 rfl rfl dX11_blows_159 ?_
    refine ab_iconst (v := 2) dX11_blows_162 (by decide) ?_
    refine fX_iald ⟨by decide, by decide⟩ rfl (fun _ => rfl) h dX11_blows_163 (fun v1 h => ?_)
    refine ab_icmp_ge (tgt := 258) dX11_blows_164 (by decide) (fun hc2 => ?_) (fun hc2 => ?_)
    · have h := sat_t hc2 h
      refine ab_sub [0, 3] rfl ?_
      exact t_X11_blows_258 N N a5 X h
    · have h := sat_f hc2 h
      refine ab_aloadn 0 dX11_blows_167 rfl ?_
      refine fX_gi (x := 28) ⟨by decide, by decide⟩ rfl rfl (Nat.le_of_ble_eq_true rfl) wd_425 rfl dX11_blows_168 ?_
      refine ab_iload 4 dX11_blows_171 rfl ?_
      refine fX_Si (mtc := mt_X11_bitOf) (As := [.int (X.1 0 28), .int a6]) h (fun Q h => ct_X11_bitOf (X.1 0 28) a6 X h) mw_X11_bitOf wd_392 wd_393 rfl rfl ⟨Nat.le_of_ble_eq_true rfl, Nat.le_of_ble_eq_true rfl⟩ ⟨Nat.zero_le _, Nat.zero_le _⟩ (Nat.le_of_ble_eq_true rfl) rfl dX11_blows_173 (fun v3 X4 h => ?_)
      refine ab_istore (lv' := [(0, .ref (gA G 10 0 0)), (3, .int a3), (4, .int a4), (5, .int a5), (6, .int a6), (7, .int v3)]) dX11_blows_176 rfl (Nat.le_of_ble_eq_true rfl) rfl ?_
      refine ab_aloadn 0 dX11_blows_178 rfl ?_
      refine f_gr (x := 29) (k2 := 10) (i2 := 0) (j2 := 7) ⟨by decide, by decide⟩ rfl rfl (Nat.le_of_ble_eq_true rfl) wd_429 rfl rfl dX11_blows_179 ?_
      refine ab_iload 4 dX11_blows_182 rfl ?_
      refine ab_iload 5 dX11_blows_184 rfl ?_
      refine ab_if_eq (tgt := 207) dX11_blows_186 (by decide) (fun hc5 => ?_) (fun hc5 => ?_)
      · have h := sat_t hc5 h
        refine ab_iconst (v := 0) dX11_blows_207 (by decide) ?_
        exact t_X11_blows_208 N (fun z5 z6 c => f_X11_blows_156 N a3 a4 n z5 z6 c) a3 a4 a5 a6 v3 0 a6 ih X4 h
      · have h := sat_f hc5 h
        refine ab_iloadn 1 dX11_blows_189 rfl ?_
        refine ab_aloadn 0 dX11_blows_190 rfl ?_
        refine f_gr (x := 6) (k2 := 10) (i2 := 0) (j2 := 2) ⟨by decide, by decide⟩ rfl rfl (Nat.le_of_ble_eq_true rfl) wd_406 rfl rfl dX11_blows_191 ?_
        refine ab_bipush (v := 23) dX11_blows_194 (by decide) ?_
        refine ab_iload 4 dX11_blows_196 rfl ?_
        refine ab_iadd dX11_blows_198 ?_
        refine fX_iald ⟨by decide, by decide⟩ rfl (fun _ => rfl) h dX11_blows_199 (fun v6 h => ?_)
        refine ab_imul dX11_blows_200 ?_
        refine ab_iload 2 dX11_blows_201 rfl ?_
        refine f_idiv h dX11_blows_203 (fun h => ?_)
        refine ab_goto (tgt := 208) dX11_blows_204 (by decide) ?_
        exact t_X11_blows_208 N (fun z5 z6 c => f_X11_blows_156 N a3 a4 n z5 z6 c) a3 a4 a5 a6 v3 ((a3 * v6) / a4) a6 ih X4 h
set_option maxRecDepth 8000 in
theorem t_X11_blows_85 {l : Launch} {G : GX} {C : CM} {Q : Int32 → Mem → Prop} (N : Nat) (k14 : Int32 → Int32 → Int32 → XM → Option (Int32 × XM)) (a2 : Int32) (a3 : Int32) (a4 : Int32) (a5 : Int32) (as0 : Int32) (hk14 : ∀ (ac3 : Int32) (ac4 : Int32) (ac5 : Int32) (X : XM), SAT (k14 ac3 ac4 ac5 X) (fun v c => Q v (C, c)) → AB l G (rmD 4) 0 0 mt_X11_blows (ZQ G mt_X11_blows Q) 14 [(0, .ref (gA G 10 0 0)), (2, .int a2), (3, .int ac3), (4, .int ac4), (5, .int ac5)] [] (C, X)) (X : XM) (h : SAT (f_X11_blows_85 N k14 a2 a3 a4 a5 as0 X) (fun v c => Q v (C, c))) : AB l G (rmD 4) 0 0 mt_X11_blows (ZQ G mt_X11_blows Q) 85 [(0, .ref (gA G 10 0 0)), (2, .int a2), (3, .int a3), (4, .int a4), (5, .int a5)] [.int as0] (C, X) := by
  unfold f_X11_blows_85 at h
  refine ab_istore (lv' := [(0, .ref (gA G 10 0 0)), (2, .int a2), (3, .int a3), (4, .int a4), (5, .int a5), (6, .int as0)]) dX11_blows_85 rfl (Nat.le_of_ble_eq_true rfl) rfl ?_
  refine ab_aloadn 0 dX11_blows_87 rfl ?_
  refine f_gr (x := 6) (k2 := 10) (i2 := 0) (j2 := 2) ⟨by decide, by decide⟩ rfl rfl (Nat.le_of_ble_eq_true rfl) wd_406 rfl rfl dX11_blows_88 ?_
  refine ab_sipush (v := 373) dX11_blows_91 (by decide) ?_
  refine ab_iload 4 dX11_blows_94 rfl ?_
  refine ab_iadd dX11_blows_96 ?_
  refine ab_dup2 dX11_blows_97 rfl rfl ?_
  refine fX_iald ⟨by decide, by decide⟩ rfl (fun _ => rfl) h dX11_blows_98 (fun v1 h => ?_)
  refine ab_iload 5 dX11_blows_99 rfl ?_
  refine ab_isub dX11_blows_101 ?_
  refine fX_iast ⟨by decide, by decide⟩ rfl (fun _ => rfl) h dX11_blows_102 (fun X2 h => ?_)
  refine ab_aloadn 0 dX11_blows_103 rfl ?_
  refine f_gr (x := 6) (k2 := 10) (i2 := 0) (j2 := 2) ⟨by decide, by decide⟩ rfl rfl (Nat.le_of_ble_eq_true rfl) wd_406 rfl rfl dX11_blows_104 ?_
  refine ab_sipush (v := 413) dX11_blows_107 (by decide) ?_
  refine ab_iload 4 dX11_blows_110 rfl ?_
  refine ab_iadd dX11_blows_112 ?_
  refine ab_dup2 dX11_blows_113 rfl rfl ?_
  refine fX_iald ⟨by decide, by decide⟩ rfl (fun _ => rfl) h dX11_blows_114 (fun v3 h => ?_)
  refine ab_iload 5 dX11_blows_115 rfl ?_
  refine ab_iadd dX11_blows_117 ?_
  refine fX_iast ⟨by decide, by decide⟩ rfl (fun _ => rfl) h dX11_blows_118 (fun X4 h => ?_)
  refine ab_iloadn 2 dX11_blows_119 rfl ?_
  refine ab_iload 5 dX11_blows_120 rfl ?_
  refine ab_iadd dX11_blows_122 ?_
  refine ab_istoren (lv' := [(0, .ref (gA G 10 0 0)), (2, .int a2), (3, .int (a3 + as0)), (4, .int a4), (5, .int a5), (6, .int as0)]) dX11_blows_123 rfl (Nat.le_of_ble_eq_true rfl) rfl ?_
  refine ab_iinc (q := 4) (v := (a5 + 1)) (lv' := [(0, .ref (gA G 10 0 0)), (2, .int a2), (3, .int (a3 + as0)), (4, .int a4), (5, .int (a5 + 1)), (6, .int as0)]) dX11_blows_124 rfl rfl rfl (Nat.le_of_ble_eq_true rfl) rfl ?_
  refine ab_goto (tgt := 14) dX11_blows_127 (by decide) ?_
  refine ab_sub [0, 1, 2, 3, 4] rfl ?_
  exact hk14 (a3 + as0) a4 (a5 + 1) X4 h
set_option maxRecDepth 8000 in
theorem t_X11_blows_14 {l : Launch} {G : GX} {C : CM} {Q : Int32 → Mem → Prop} (N : Nat) (a2 : Int32) : ∀ (n : Nat) (a3 : Int32) (a4 : Int32) (a5 : Int32) (X : XM), SAT (f_X11_blows_14 N a2 n a3 a4 a5 X) (fun v c => Q v (C, c)) → AB l G (rmD 4) 0 0 mt_X11_blows (ZQ G mt_X11_blows Q) 14 [(0, .ref (gA G 10 0 0)), (2, .int a2), (3, .int a3), (4, .int a4), (5, .int a5)] [] (C, X) := by
  intro n
  induction n with
  | zero => intro a3 a4 a5 X h; exact h.elim
  | succ n ih =>
    intro a3 a4 a5 X h
    rw [f_X11_blows_14] at h
    refine ab_iload 4 dX11_blows_14 rfl ?_
    refine ab_aloadn 0 dX11_blows_16 rfl ?_
    refine f_gr (x := 6) (k2 := 10) (i2 := 0) (j2 := 2) ⟨by decide, by decide⟩ rfl rfl (Nat.le_of_ble_eq_true rfl) wd_406 rfl rfl dX11_blows_17 ?_
    refine ab_iconst (v := 2) dX11_blows_20 (by decide) ?_
    refine fX_iald ⟨by decide, by decide⟩ rfl (fun _ => rfl) h dX11_blows_21 (fun v1 h => ?_)
    refine ab_icmp_ge (tgt := 130) dX11_blows_22 (by decide) (fun hc2 => ?_) (fun hc2 => ?_)
    · have h := sat_t hc2 h
      refine ab_aloadn 0 dX11_blows_130 rfl ?_
      refine fX_gi (x := 28) ⟨by decide, by decide⟩ rfl rfl (Nat.le_of_ble_eq_true rfl) wd_425 rfl dX11_blows_131 ?_
      refine ab_if_ne (tgt := 150) dX11_blows_134 (by decide) (fun hc3 => ?_) (fun hc3 => ?_)
      · have h := sat_f hc3 h
        refine ab_iloadn 2 dX11_blows_150 rfl ?_
        refine ab_istore (lv' := [(0, .ref (gA G 10 0 0)), (2, .int a2), (3, .int a3), (4, .int a4), (5, .int a3)]) dX11_blows_151 rfl (Nat.le_of_ble_eq_true rfl) rfl ?_
        refine ab_iconst (v := 0) dX11_blows_153 (by decide) ?_
        refine ab_istore (lv' := [(0, .ref (gA G 10 0 0)), (2, .int a2), (3, .int a3), (4, .int a4), (5, .int a3), (6, .int 0)]) dX11_blows_154 rfl (Nat.le_of_ble_eq_true rfl) rfl ?_
        refine ab_sub [0, 2, 3, 4, 5] rfl ?_
        exact t_X11_blows_156 N a3 a4 N a3 0 X h
      · have h := sat_t hc3 h
        refine ab_aloadn 0 dX11_blows_137 rfl ?_
        refine f_gr (x := 6) (k2 := 10) (i2 := 0) (j2 := 2) ⟨by decide, by decide⟩ rfl rfl (Nat.le_of_ble_eq_true rfl) wd_406 rfl rfl dX11_blows_138 ?_
        refine ab_sipush (v := 372) dX11_blows_141 (by decide) ?_
        refine ab_dup2 dX11_blows_144 rfl rfl ?_
        refine fX_iald ⟨by decide, by decide⟩ rfl (fun _ => rfl) h dX11_blows_145 (fun v4 h => ?_)
        refine ab_iloadn 2 dX11_blows_146 rfl ?_
        refine ab_iadd dX11_blows_147 ?_
        refine fX_iast ⟨by decide, by decide⟩ rfl (fun _ => rfl) h dX11_blows_148 (fun X5 h => ?_)
        exact fX_vret h rfl dX11_blows_149
    · have h := sat_f hc2 h
      refine ab_aloadn 0 dX11_blows_25 rfl ?_
      refine fX_gi (x := 28) ⟨by decide, by decide⟩ rfl rfl (Nat.le_of_ble_eq_true rfl) wd_425 rfl dX11_blows_26 ?_
      refine ab_iload 4 dX11_blows_29 rfl ?_
      refine fX_Si (mtc := mt_X11_bitOf) (As := [.int (X.1 0 28), .int a5]) h (fun Q h => ct_X11_bitOf (X.1 0 28) a5 X h) mw_X11_bitOf wd_392 wd_393 rfl rfl ⟨Nat.le_of_ble_eq_true rfl, Nat.le_of_ble_eq_true rfl⟩ ⟨Nat.zero_le _, Nat.zero_le _⟩ (Nat.le_of_ble_eq_true rfl) rfl dX11_blows_31 (fun v6 X7 h => ?_)
      refine ab_if_eq (tgt := 55) dX11_blows_34 (by decide) (fun hc8 => ?_) (fun hc8 => ?_)
      · have h := sat_t hc8 h
        refine ab_aloadn 0 dX11_blows_55 rfl ?_
        refine f_gr (x := 6) (k2 := 10) (i2 := 0) (j2 := 2) ⟨by decide, by decide⟩ rfl rfl (Nat.le_of_ble_eq_true rfl) wd_406 rfl rfl dX11_blows_56 ?_
        refine ab_sipush (v := 373) dX11_blows_59 (by decide) ?_
        refine ab_iload 4 dX11_blows_62 rfl ?_
        refine ab_iadd dX11_blows_64 ?_
        refine fX_iald ⟨by decide, by decide⟩ rfl (fun _ => rfl) h dX11_blows_65 (fun v9 h => ?_)
        refine ab_iloadn 1 dX11_blows_66 rfl ?_
        refine ab_icmp_ge (tgt := 84) dX11_blows_67 (by decide) (fun hc10 => ?_) (fun hc10 => ?_)
        · have h := sat_t hc10 h
          refine ab_iloadn 1 dX11_blows_84 rfl ?_
          exact t_X11_blows_85 N (fun z3 z4 z5 c => f_X11_blows_14 N a2 n z3 z4 z5 c) a2 a3 a4 a5 a2 ih X7 h
        · have h := sat_f hc10 h
          refine ab_aloadn 0 dX11_blows_70 rfl ?_
          refine f_gr (x := 6) (k2 := 10) (i2 := 0) (j2 := 2) ⟨by decide, by decide⟩ rfl rfl (Nat.le_of_ble_eq_true rfl) wd_406 rfl rfl dX11_blows_71 ?_
          refine ab_sipush (v := 373) dX11_blows_74 (by decide) ?_
          refine ab_iload 4 dX11_blows_77 rfl ?_
          refine ab_iadd dX11_blows_79 ?_
          refine fX_iald ⟨by decide, by decide⟩ rfl (fun _ => rfl) h dX11_blows_80 (fun v11 h => ?_)
          refine ab_goto (tgt := 85) dX11_blows_81 (by decide) ?_
          exact t_X11_blows_85 N (fun z3 z4 z5 c => f_X11_blows_14 N a2 n z3 z4 z5 c) a2 a3 a4 a5 v11 ih X7 h
      · have h := sat_f hc8 h
        refine ab_iload 3 dX11_blows_37 rfl ?_
        refine ab_aloadn 0 dX11_blows_39 rfl ?_
        refine f_gr (x := 6) (k2 := 10) (i2 := 0) (j2 := 2) ⟨by decide, by decide⟩ rfl rfl (Nat.le_of_ble_eq_true rfl) wd_406 rfl rfl dX11_blows_40 ?_
        refine ab_bipush (v := 23) dX11_blows_43 (by decide) ?_
        refine ab_iload 4 dX11_blows_45 rfl ?_
        refine ab_iadd dX11_blows_47 ?_
        refine fX_iald ⟨by decide, by decide⟩ rfl (fun _ => rfl) h dX11_blows_48 (fun v12 h => ?_)
        refine ab_iadd dX11_blows_49 ?_
        refine ab_istore (lv' := [(0, .ref (gA G 10 0 0)), (2, .int a2), (3, .int a3), (4, .int (a4 + v12)), (5, .int a5)]) dX11_blows_50 rfl (Nat.le_of_ble_eq_true rfl) rfl ?_
        refine ab_goto (tgt := 124) dX11_blows_52 (by decide) ?_
        refine ab_iinc (q := 4) (v := (a5 + 1)) (lv' := [(0, .ref (gA G 10 0 0)), (2, .int a2), (3, .int a3), (4, .int (a4 + v12)), (5, .int (a5 + 1))]) dX11_blows_124 rfl rfl rfl (Nat.le_of_ble_eq_true rfl) rfl ?_
        refine ab_goto (tgt := 14) dX11_blows_127 (by decide) ?_
        exact ih a3 (a4 + v12) (a5 + 1) X7 h
set_option maxRecDepth 8000 in
theorem t_X11_blows_0 {l : Launch} {G : GX} {C : CM} {Q : Int32 → Mem → Prop} (N : Nat) (a1 : Int32) (a2 : Int32) (X : XM) (h : SAT (f_X11_blows N a1 a2 X) (fun v c => Q v (C, c))) : AB l G (rmD 4) 0 0 mt_X11_blows (ZQ G mt_X11_blows Q) 0 [(0, .ref (gA G 10 0 0)), (1, .int a1), (2, .int a2)] [] (C, X) := by
  unfold f_X11_blows at h
  refine ab_aloadn 0 dX11_blows_0 rfl ?_
  refine ab_iloadn 1 dX11_blows_1 rfl ?_
  refine ab_iloadn 2 dX11_blows_2 rfl ?_
  refine fX_Vv (mtc := mt_X11_allTurn) (As := [.int a1, .int a2]) h (fun Q h => ct_X11_allTurn N a1 a2 X h) ⟨by decide, by decide⟩ rfl rfl rfl mw_X11_allTurn wd_427 rfl rfl ⟨Nat.le_of_ble_eq_true rfl, Nat.le_of_ble_eq_true rfl⟩ ⟨Nat.zero_le _, Nat.zero_le _⟩ (Nat.le_of_ble_eq_true rfl) rfl dX11_blows_3 (fun v1 X2 h => ?_)
  refine ab_iconst (v := 0) dX11_blows_6 (by decide) ?_
  refine ab_istoren (lv' := [(0, .ref (gA G 10 0 0)), (1, .int a1), (2, .int a2), (3, .int 0)]) dX11_blows_7 rfl (Nat.le_of_ble_eq_true rfl) rfl ?_
  refine ab_iconst (v := 0) dX11_blows_8 (by decide) ?_
  refine ab_istore (lv' := [(0, .ref (gA G 10 0 0)), (1, .int a1), (2, .int a2), (3, .int 0), (4, .int 0)]) dX11_blows_9 rfl (Nat.le_of_ble_eq_true rfl) rfl ?_
  refine ab_iconst (v := 0) dX11_blows_11 (by decide) ?_
  refine ab_istore (lv' := [(0, .ref (gA G 10 0 0)), (1, .int a1), (2, .int a2), (3, .int 0), (4, .int 0), (5, .int 0)]) dX11_blows_12 rfl (Nat.le_of_ble_eq_true rfl) rfl ?_
  refine ab_sub [0, 2, 3, 4, 5] rfl ?_
  exact t_X11_blows_14 N a2 N 0 0 0 X2 h
theorem ct_X11_blows {l : Launch} {G : GX} {C : CM} {Q : Int32 → Mem → Prop} (N : Nat) (a1 : Int32) (a2 : Int32) (X : XM) (h : SAT (f_X11_blows N a1 a2 X) (fun v c => Q v (C, c))) : CT l G 4 mt_X11_blows [.ref (gA G 10 0 0), .int a1, .int a2] (C, X) Q := ct_of pn_X11 (Nat.le_of_ble_eq_true rfl) (t_X11_blows_0 N a1 a2 X h)
def f_X11_gainOf (N : Nat) (a1 : Int32) (a2 : Int32) (a3 : Int32) (X : XM) : Option (Int32 × XM) := cal (f_X11_tries N X) (fun v1 X2 => ldA (X2.1 2) 845 (373 + a1) (fun v3 => cal (f_X11_blows N a2 a3 X2) (fun v4 X5 => ldA (X5.1 2) 845 (373 + a1) (fun v6 => cal (f_X11_back N X5) (fun v7 X8 => (rt (v6 - v3) X8))))))
set_option maxRecDepth 8000 in
theorem t_X11_gainOf_0 {l : Launch} {G : GX} {C : CM} {Q : Int32 → Mem → Prop} (N : Nat) (a1 : Int32) (a2 : Int32) (a3 : Int32) (X : XM) (h : SAT (f_X11_gainOf N a1 a2 a3 X) (fun v c => Q v (C, c))) : AB l G (rmD 5) 0 0 mt_X11_gainOf (ZQ G mt_X11_gainOf Q) 0 [(0, .ref (gA G 10 0 0)), (1, .int a1), (2, .int a2), (3, .int a3)] [] (C, X) := by
  unfold f_X11_gainOf at h
  refine ab_aloadn 0 dX11_gainOf_0 rfl ?_
  refine fX_Vv (mtc := mt_X11_tries) (As := []) h (fun Q h => ct_X11_tries N X h) ⟨by decide, by decide⟩ rfl rfl rfl mw_X11_tries wd_424 rfl rfl ⟨Nat.le_of_ble_eq_true rfl, Nat.le_of_ble_eq_true rfl⟩ ⟨Nat.zero_le _, Nat.zero_le _⟩ (Nat.le_of_ble_eq_true rfl) rfl dX11_gainOf_1 (fun v1 X2 h => ?_)
  refine ab_aloadn 0 dX11_gainOf_4 rfl ?_
  refine f_gr (x := 6) (k2 := 10) (i2 := 0) (j2 := 2) ⟨by decide, by decide⟩ rfl rfl (Nat.le_of_ble_eq_true rfl) wd_406 rfl rfl dX11_gainOf_5 ?_
  refine ab_sipush (v := 373) dX11_gainOf_8 (by decide) ?_
  refine ab_iloadn 1 dX11_gainOf_11 rfl ?_
  refine ab_iadd dX11_gainOf_12 ?_
  refine fX_iald ⟨by decide, by decide⟩ rfl (fun _ => rfl) h dX11_gainOf_13 (fun v3 h => ?_)
  refine ab_istore (lv' := [(0, .ref (gA G 10 0 0)), (1, .int a1), (2, .int a2), (3, .int a3), (4, .int v3)]) dX11_gainOf_14 rfl (Nat.le_of_ble_eq_true rfl) rfl ?_
  refine ab_aloadn 0 dX11_gainOf_16 rfl ?_
  refine ab_iloadn 2 dX11_gainOf_17 rfl ?_
  refine ab_iloadn 3 dX11_gainOf_18 rfl ?_
  refine fX_Vv (mtc := mt_X11_blows) (As := [.int a2, .int a3]) h (fun Q h => ct_X11_blows N a2 a3 X2 h) ⟨by decide, by decide⟩ rfl rfl rfl mw_X11_blows wd_432 rfl rfl ⟨Nat.le_of_ble_eq_true rfl, Nat.le_of_ble_eq_true rfl⟩ ⟨Nat.zero_le _, Nat.zero_le _⟩ (Nat.le_of_ble_eq_true rfl) rfl dX11_gainOf_19 (fun v4 X5 h => ?_)
  refine ab_aloadn 0 dX11_gainOf_22 rfl ?_
  refine f_gr (x := 6) (k2 := 10) (i2 := 0) (j2 := 2) ⟨by decide, by decide⟩ rfl rfl (Nat.le_of_ble_eq_true rfl) wd_406 rfl rfl dX11_gainOf_23 ?_
  refine ab_sipush (v := 373) dX11_gainOf_26 (by decide) ?_
  refine ab_iloadn 1 dX11_gainOf_29 rfl ?_
  refine ab_iadd dX11_gainOf_30 ?_
  refine fX_iald ⟨by decide, by decide⟩ rfl (fun _ => rfl) h dX11_gainOf_31 (fun v6 h => ?_)
  refine ab_iload 4 dX11_gainOf_32 rfl ?_
  refine ab_isub dX11_gainOf_34 ?_
  refine ab_istore (lv' := [(0, .ref (gA G 10 0 0)), (1, .int a1), (2, .int a2), (3, .int a3), (4, .int v3), (5, .int (v6 - v3))]) dX11_gainOf_35 rfl (Nat.le_of_ble_eq_true rfl) rfl ?_
  refine ab_aloadn 0 dX11_gainOf_37 rfl ?_
  refine fX_Vv (mtc := mt_X11_back) (As := []) h (fun Q h => ct_X11_back N X5 h) ⟨by decide, by decide⟩ rfl rfl rfl mw_X11_back wd_428 rfl rfl ⟨Nat.le_of_ble_eq_true rfl, Nat.le_of_ble_eq_true rfl⟩ ⟨Nat.zero_le _, Nat.zero_le _⟩ (Nat.le_of_ble_eq_true rfl) rfl dX11_gainOf_38 (fun v7 X8 h => ?_)
  refine ab_iload 5 dX11_gainOf_41 rfl ?_
  exact fX_iret h rfl rfl dX11_gainOf_43
theorem ct_X11_gainOf {l : Launch} {G : GX} {C : CM} {Q : Int32 → Mem → Prop} (N : Nat) (a1 : Int32) (a2 : Int32) (a3 : Int32) (X : XM) (h : SAT (f_X11_gainOf N a1 a2 a3 X) (fun v c => Q v (C, c))) : CT l G 5 mt_X11_gainOf [.ref (gA G 10 0 0), .int a1, .int a2, .int a3] (C, X) Q := ct_of pn_X11 (Nat.le_of_ble_eq_true rfl) (t_X11_gainOf_0 N a1 a2 a3 X h)
def f_X11_gains (N : Nat) (a1 : Int32) (a2 : Int32) (a3 : Int32) (X : XM) : Option (Int32 × XM) := bnd (stX X 0 0 0) (fun X1 => cal (f_X11_isOwner a1 X1) (fun v2 X3 => (if v2 = 0 then (rt (-1001) X3) else cal (f_X11_isGust a2 a3 X3) (fun v5 X6 => (if v5 = 0 then (rt (-1001) X6) else cal (f_X11_gainOf N a1 a2 a3 X6) (fun v8 X9 => (rt v8 X9)))))))
set_option maxRecDepth 8000 in
theorem t_X11_gains_0 {l : Launch} {G : GX} {C : CM} {Q : Int32 → Mem → Prop} (N : Nat) (a1 : Int32) (a2 : Int32) (a3 : Int32) (X : XM) (h : SAT (f_X11_gains N a1 a2 a3 X) (fun v c => Q v (C, c))) : AB l G (rmD 6) 0 0 mt_X11_gains (ZQ G mt_X11_gains Q) 0 [(0, .ref (gA G 10 0 0)), (1, .int a1), (2, .int a2), (3, .int a3)] [] (C, X) := by
  unfold f_X11_gains at h
  refine ab_aloadn 0 dX11_gains_0 rfl ?_
  refine ab_iconst (v := 0) dX11_gains_1 (by decide) ?_
  refine fX_pi (x := 0) (ty := .int) ⟨by decide, by decide⟩ rfl rfl (Nat.le_of_ble_eq_true rfl) wd_344 rfl h rfl (by decide +kernel) rfl rfl dX11_gains_2 (fun X1 h => ?_)
  refine ab_aloadn 0 dX11_gains_5 rfl ?_
  refine ab_iloadn 1 dX11_gains_6 rfl ?_
  refine fX_Vi (mtc := mt_X11_isOwner) (As := [.int a1]) h (fun Q h => ct_X11_isOwner a1 X1 h) ⟨by decide, by decide⟩ rfl rfl rfl mw_X11_isOwner wd_413 rfl rfl ⟨Nat.le_of_ble_eq_true rfl, Nat.le_of_ble_eq_true rfl⟩ ⟨Nat.zero_le _, Nat.zero_le _⟩ (Nat.le_of_ble_eq_true rfl) rfl dX11_gains_7 (fun v2 X3 h => ?_)
  refine ab_if_eq (tgt := 31) dX11_gains_10 (by decide) (fun hc4 => ?_) (fun hc4 => ?_)
  · have h := sat_t hc4 h
    refine ab_sipush (v := (-1001)) dX11_gains_31 (by decide) ?_
    exact fX_iret h rfl rfl dX11_gains_34
  · have h := sat_f hc4 h
    refine ab_iloadn 2 dX11_gains_13 rfl ?_
    refine ab_iloadn 3 dX11_gains_14 rfl ?_
    refine fX_Si (mtc := mt_X11_isGust) (As := [.int a2, .int a3]) h (fun Q h => ct_X11_isGust a2 a3 X3 h) mw_X11_isGust wd_414 wd_415 rfl rfl ⟨Nat.le_of_ble_eq_true rfl, Nat.le_of_ble_eq_true rfl⟩ ⟨Nat.zero_le _, Nat.zero_le _⟩ (Nat.le_of_ble_eq_true rfl) rfl dX11_gains_15 (fun v5 X6 h => ?_)
    refine ab_if_eq (tgt := 31) dX11_gains_18 (by decide) (fun hc7 => ?_) (fun hc7 => ?_)
    · have h := sat_t hc7 h
      refine ab_sipush (v := (-1001)) dX11_gains_31 (by decide) ?_
      exact fX_iret h rfl rfl dX11_gains_34
    · have h := sat_f hc7 h
      refine ab_aloadn 0 dX11_gains_21 rfl ?_
      refine ab_iloadn 1 dX11_gains_22 rfl ?_
      refine ab_iloadn 2 dX11_gains_23 rfl ?_
      refine ab_iloadn 3 dX11_gains_24 rfl ?_
      refine fX_Vi (mtc := mt_X11_gainOf) (As := [.int a1, .int a2, .int a3]) h (fun Q h => ct_X11_gainOf N a1 a2 a3 X6 h) ⟨by decide, by decide⟩ rfl rfl rfl mw_X11_gainOf wd_433 rfl rfl ⟨Nat.le_of_ble_eq_true rfl, Nat.le_of_ble_eq_true rfl⟩ ⟨Nat.zero_le _, Nat.zero_le _⟩ (Nat.le_of_ble_eq_true rfl) rfl dX11_gains_25 (fun v8 X9 h => ?_)
      refine ab_goto (tgt := 34) dX11_gains_28 (by decide) ?_
      exact fX_iret h rfl rfl dX11_gains_34
theorem ct_X11_gains {l : Launch} {G : GX} {C : CM} {Q : Int32 → Mem → Prop} (N : Nat) (a1 : Int32) (a2 : Int32) (a3 : Int32) (X : XM) (h : SAT (f_X11_gains N a1 a2 a3 X) (fun v c => Q v (C, c))) : CT l G 6 mt_X11_gains [.ref (gA G 10 0 0), .int a1, .int a2, .int a3] (C, X) Q := ct_of pn_X11 (Nat.le_of_ble_eq_true rfl) (t_X11_gains_0 N a1 a2 a3 X h)
def f_X11_undo_26 (N : Nat) : Nat → Int32 → XM → Option (Int32 × XM)
  | 0, _, _ => none
  | n + 1, a1, X => (if 172 ≤ a1 then (rt (X.1 0 33) X) else ldA (X.1 10) 1376 ((172 * (X.1 0 33)) + a1) (fun v2 => sxA X 2 845 (371 + a1) v2 (fun X3 => (f_X11_undo_26 N n (a1 + 1) X3))))
def f_X11_undo (N : Nat) (X : XM) : Option (Int32 × XM) := bnd (stX X 0 0 0) (fun X1 => (if (X1.1 0 33) = 0 then (rt (-1) X1) else bnd (stX X1 0 33 ((X1.1 0 33) - 1)) (fun X3 => (f_X11_undo_26 N N 0 X3))))
set_option maxRecDepth 8000 in
theorem t_X11_undo_26 {l : Launch} {G : GX} {C : CM} {Q : Int32 → Mem → Prop} (N : Nat) : ∀ (n : Nat) (a1 : Int32) (X : XM), SAT (f_X11_undo_26 N n a1 X) (fun v c => Q v (C, c)) → AB l G (rmD 1) 0 0 mt_X11_undo (ZQ G mt_X11_undo Q) 26 [(0, .ref (gA G 10 0 0)), (1, .int a1)] [] (C, X) := by
  intro n
  induction n with
  | zero => intro a1 X h; exact h.elim
  | succ n ih =>
    intro a1 X h
    rw [f_X11_undo_26] at h
    refine ab_iloadn 1 dX11_undo_26 rfl ?_
    refine ab_sipush (v := 172) dX11_undo_27 (by decide) ?_
    refine ab_icmp_ge (tgt := 64) dX11_undo_30 (by decide) (fun hc1 => ?_) (fun hc1 => ?_)
    · have h := sat_t hc1 h
      refine ab_aloadn 0 dX11_undo_64 rfl ?_
      refine fX_gi (x := 33) ⟨by decide, by decide⟩ rfl rfl (Nat.le_of_ble_eq_true rfl) wd_408 rfl dX11_undo_65 ?_
      exact fX_iret h rfl rfl dX11_undo_68
    · have h := sat_f hc1 h
      refine ab_aloadn 0 dX11_undo_33 rfl ?_
      refine f_gr (x := 6) (k2 := 10) (i2 := 0) (j2 := 2) ⟨by decide, by decide⟩ rfl rfl (Nat.le_of_ble_eq_true rfl) wd_406 rfl rfl dX11_undo_34 ?_
      refine ab_sipush (v := 371) dX11_undo_37 (by decide) ?_
      refine ab_iloadn 1 dX11_undo_40 rfl ?_
      refine ab_iadd dX11_undo_41 ?_
      refine ab_aloadn 0 dX11_undo_42 rfl ?_
      refine f_gr (x := 32) (k2 := 10) (i2 := 0) (j2 := 10) ⟨by decide, by decide⟩ rfl rfl (Nat.le_of_ble_eq_true rfl) wd_434 rfl rfl dX11_undo_43 ?_
      refine ab_sipush (v := 172) dX11_undo_46 (by decide) ?_
      refine ab_aloadn 0 dX11_undo_49 rfl ?_
      refine fX_gi (x := 33) ⟨by decide, by decide⟩ rfl rfl (Nat.le_of_ble_eq_true rfl) wd_408 rfl dX11_undo_50 ?_
      refine ab_imul dX11_undo_53 ?_
      refine ab_iloadn 1 dX11_undo_54 rfl ?_
      refine ab_iadd dX11_undo_55 ?_
      refine fX_iald ⟨by decide, by decide⟩ rfl (fun _ => rfl) h dX11_undo_56 (fun v2 h => ?_)
      refine fX_iast ⟨by decide, by decide⟩ rfl (fun _ => rfl) h dX11_undo_57 (fun X3 h => ?_)
      refine ab_iinc (q := 1) (v := (a1 + 1)) (lv' := [(0, .ref (gA G 10 0 0)), (1, .int (a1 + 1))]) dX11_undo_58 rfl rfl rfl (Nat.le_of_ble_eq_true rfl) rfl ?_
      refine ab_goto (tgt := 26) dX11_undo_61 (by decide) ?_
      exact ih (a1 + 1) X3 h
set_option maxRecDepth 8000 in
theorem t_X11_undo_0 {l : Launch} {G : GX} {C : CM} {Q : Int32 → Mem → Prop} (N : Nat) (X : XM) (h : SAT (f_X11_undo N X) (fun v c => Q v (C, c))) : AB l G (rmD 1) 0 0 mt_X11_undo (ZQ G mt_X11_undo Q) 0 [(0, .ref (gA G 10 0 0))] [] (C, X) := by
  unfold f_X11_undo at h
  refine ab_aloadn 0 dX11_undo_0 rfl ?_
  refine ab_iconst (v := 0) dX11_undo_1 (by decide) ?_
  refine fX_pi (x := 0) (ty := .int) ⟨by decide, by decide⟩ rfl rfl (Nat.le_of_ble_eq_true rfl) wd_344 rfl h rfl (by decide +kernel) rfl rfl dX11_undo_2 (fun X1 h => ?_)
  refine ab_aloadn 0 dX11_undo_5 rfl ?_
  refine fX_gi (x := 33) ⟨by decide, by decide⟩ rfl rfl (Nat.le_of_ble_eq_true rfl) wd_408 rfl dX11_undo_6 ?_
  refine ab_if_ne (tgt := 14) dX11_undo_9 (by decide) (fun hc2 => ?_) (fun hc2 => ?_)
  · have h := sat_f hc2 h
    refine ab_aloadn 0 dX11_undo_14 rfl ?_
    refine ab_dup dX11_undo_15 rfl ?_
    refine fX_gi (x := 33) ⟨by decide, by decide⟩ rfl rfl (Nat.le_of_ble_eq_true rfl) wd_408 rfl dX11_undo_16 ?_
    refine ab_iconst (v := 1) dX11_undo_19 (by decide) ?_
    refine ab_isub dX11_undo_20 ?_
    refine fX_pi (x := 33) (ty := .int) ⟨by decide, by decide⟩ rfl rfl (Nat.le_of_ble_eq_true rfl) wd_408 rfl h rfl (by decide +kernel) rfl rfl dX11_undo_21 (fun X3 h => ?_)
    refine ab_iconst (v := 0) dX11_undo_24 (by decide) ?_
    refine ab_istoren (lv' := [(0, .ref (gA G 10 0 0)), (1, .int 0)]) dX11_undo_25 rfl (Nat.le_of_ble_eq_true rfl) rfl ?_
    exact t_X11_undo_26 N N 0 X3 h
  · have h := sat_t hc2 h
    refine ab_iconst (v := (-1)) dX11_undo_12 (by decide) ?_
    exact fX_iret h rfl rfl dX11_undo_13
theorem ct_X11_undo {l : Launch} {G : GX} {C : CM} {Q : Int32 → Mem → Prop} (N : Nat) (X : XM) (h : SAT (f_X11_undo N X) (fun v c => Q v (C, c))) : CT l G 1 mt_X11_undo [.ref (gA G 10 0 0)] (C, X) Q := ct_of pn_X11 (Nat.le_of_ble_eq_true rfl) (t_X11_undo_0 N X h)
def f_X11_keep_48 (N : Nat) : Nat → Int32 → XM → Option (Int32 × XM)
  | 0, _, _ => none
  | n + 1, a1, X => (if 172 ≤ a1 then bnd (stX X 0 33 ((X.1 0 33) + 1)) (fun X2 => (rt 0 X2)) else ldA (X.1 2) 845 (371 + a1) (fun v3 => sxA X 10 1376 ((172 * (X.1 0 33)) + a1) v3 (fun X4 => (f_X11_keep_48 N n (a1 + 1) X4))))
def f_X11_keep_46 (N : Nat) (X : XM) : Option (Int32 × XM) := (f_X11_keep_48 N N 0 X)
def f_X11_keep_11 (N : Nat) : Nat → Int32 → XM → Option (Int32 × XM)
  | 0, _, _ => none
  | n + 1, a1, X => (if 1204 ≤ a1 then bnd (stX X 0 33 7) (fun X2 => (f_X11_keep_46 N X2)) else ldA (X.1 10) 1376 (a1 + 172) (fun v3 => sxA X 10 1376 a1 v3 (fun X4 => (f_X11_keep_11 N n (a1 + 1) X4))))
def f_X11_keep (N : Nat) (X : XM) : Option (Int32 × XM) := (if (X.1 0 33) = 8 then (f_X11_keep_11 N N 0 X) else (f_X11_keep_46 N X))
set_option maxRecDepth 8000 in
theorem t_X11_keep_48 {l : Launch} {G : GX} {C : CM} {Q : Int32 → Mem → Prop} (N : Nat) : ∀ (n : Nat) (a1 : Int32) (X : XM), SAT (f_X11_keep_48 N n a1 X) (fun v c => Q v (C, c)) → AB l G (rmD 1) 0 0 mt_X11_keep (ZQ G mt_X11_keep Q) 48 [(0, .ref (gA G 10 0 0)), (1, .int a1)] [] (C, X) := by
  intro n
  induction n with
  | zero => intro a1 X h; exact h.elim
  | succ n ih =>
    intro a1 X h
    rw [f_X11_keep_48] at h
    refine ab_iloadn 1 dX11_keep_48 rfl ?_
    refine ab_sipush (v := 172) dX11_keep_49 (by decide) ?_
    refine ab_icmp_ge (tgt := 86) dX11_keep_52 (by decide) (fun hc1 => ?_) (fun hc1 => ?_)
    · have h := sat_t hc1 h
      refine ab_aloadn 0 dX11_keep_86 rfl ?_
      refine ab_dup dX11_keep_87 rfl ?_
      refine fX_gi (x := 33) ⟨by decide, by decide⟩ rfl rfl (Nat.le_of_ble_eq_true rfl) wd_408 rfl dX11_keep_88 ?_
      refine ab_iconst (v := 1) dX11_keep_91 (by decide) ?_
      refine ab_iadd dX11_keep_92 ?_
      refine fX_pi (x := 33) (ty := .int) ⟨by decide, by decide⟩ rfl rfl (Nat.le_of_ble_eq_true rfl) wd_408 rfl h rfl (by decide +kernel) rfl rfl dX11_keep_93 (fun X2 h => ?_)
      exact fX_vret h rfl dX11_keep_96
    · have h := sat_f hc1 h
      refine ab_aloadn 0 dX11_keep_55 rfl ?_
      refine f_gr (x := 32) (k2 := 10) (i2 := 0) (j2 := 10) ⟨by decide, by decide⟩ rfl rfl (Nat.le_of_ble_eq_true rfl) wd_434 rfl rfl dX11_keep_56 ?_
      refine ab_sipush (v := 172) dX11_keep_59 (by decide) ?_
      refine ab_aloadn 0 dX11_keep_62 rfl ?_
      refine fX_gi (x := 33) ⟨by decide, by decide⟩ rfl rfl (Nat.le_of_ble_eq_true rfl) wd_408 rfl dX11_keep_63 ?_
      refine ab_imul dX11_keep_66 ?_
      refine ab_iloadn 1 dX11_keep_67 rfl ?_
      refine ab_iadd dX11_keep_68 ?_
      refine ab_aloadn 0 dX11_keep_69 rfl ?_
      refine f_gr (x := 6) (k2 := 10) (i2 := 0) (j2 := 2) ⟨by decide, by decide⟩ rfl rfl (Nat.le_of_ble_eq_true rfl) wd_406 rfl rfl dX11_keep_70 ?_
      refine ab_sipush (v := 371) dX11_keep_73 (by decide) ?_
      refine ab_iloadn 1 dX11_keep_76 rfl ?_
      refine ab_iadd dX11_keep_77 ?_
      refine fX_iald ⟨by decide, by decide⟩ rfl (fun _ => rfl) h dX11_keep_78 (fun v3 h => ?_)
      refine fX_iast ⟨by decide, by decide⟩ rfl (fun _ => rfl) h dX11_keep_79 (fun X4 h => ?_)
      refine ab_iinc (q := 1) (v := (a1 + 1)) (lv' := [(0, .ref (gA G 10 0 0)), (1, .int (a1 + 1))]) dX11_keep_80 rfl rfl rfl (Nat.le_of_ble_eq_true rfl) rfl ?_
      refine ab_goto (tgt := 48) dX11_keep_83 (by decide) ?_
      exact ih (a1 + 1) X4 h
set_option maxRecDepth 8000 in
theorem t_X11_keep_46 {l : Launch} {G : GX} {C : CM} {Q : Int32 → Mem → Prop} (N : Nat) (X : XM) (h : SAT (f_X11_keep_46 N X) (fun v c => Q v (C, c))) : AB l G (rmD 1) 0 0 mt_X11_keep (ZQ G mt_X11_keep Q) 46 [(0, .ref (gA G 10 0 0))] [] (C, X) := by
  unfold f_X11_keep_46 at h
  refine ab_iconst (v := 0) dX11_keep_46 (by decide) ?_
  refine ab_istoren (lv' := [(0, .ref (gA G 10 0 0)), (1, .int 0)]) dX11_keep_47 rfl (Nat.le_of_ble_eq_true rfl) rfl ?_
  exact t_X11_keep_48 N N 0 X h
set_option maxRecDepth 8000 in
theorem t_X11_keep_11 {l : Launch} {G : GX} {C : CM} {Q : Int32 → Mem → Prop} (N : Nat) : ∀ (n : Nat) (a1 : Int32) (X : XM), SAT (f_X11_keep_11 N n a1 X) (fun v c => Q v (C, c)) → AB l G (rmD 1) 0 0 mt_X11_keep (ZQ G mt_X11_keep Q) 11 [(0, .ref (gA G 10 0 0)), (1, .int a1)] [] (C, X) := by
  intro n
  induction n with
  | zero => intro a1 X h; exact h.elim
  | succ n ih =>
    intro a1 X h
    rw [f_X11_keep_11] at h
    refine ab_iloadn 1 dX11_keep_11 rfl ?_
    refine ab_sipush (v := 1204) dX11_keep_12 (by decide) ?_
    refine ab_icmp_ge (tgt := 40) dX11_keep_15 (by decide) (fun hc1 => ?_) (fun hc1 => ?_)
    · have h := sat_t hc1 h
      refine ab_aloadn 0 dX11_keep_40 rfl ?_
      refine ab_bipush (v := 7) dX11_keep_41 (by decide) ?_
      refine fX_pi (x := 33) (ty := .int) ⟨by decide, by decide⟩ rfl rfl (Nat.le_of_ble_eq_true rfl) wd_408 rfl h rfl (by decide +kernel) rfl rfl dX11_keep_43 (fun X2 h => ?_)
      refine ab_sub [0] rfl ?_
      exact t_X11_keep_46 N X2 h
    · have h := sat_f hc1 h
      refine ab_aloadn 0 dX11_keep_18 rfl ?_
      refine f_gr (x := 32) (k2 := 10) (i2 := 0) (j2 := 10) ⟨by decide, by decide⟩ rfl rfl (Nat.le_of_ble_eq_true rfl) wd_434 rfl rfl dX11_keep_19 ?_
      refine ab_iloadn 1 dX11_keep_22 rfl ?_
      refine ab_aloadn 0 dX11_keep_23 rfl ?_
      refine f_gr (x := 32) (k2 := 10) (i2 := 0) (j2 := 10) ⟨by decide, by decide⟩ rfl rfl (Nat.le_of_ble_eq_true rfl) wd_434 rfl rfl dX11_keep_24 ?_
      refine ab_iloadn 1 dX11_keep_27 rfl ?_
      refine ab_sipush (v := 172) dX11_keep_28 (by decide) ?_
      refine ab_iadd dX11_keep_31 ?_
      refine fX_iald ⟨by decide, by decide⟩ rfl (fun _ => rfl) h dX11_keep_32 (fun v3 h => ?_)
      refine fX_iast ⟨by decide, by decide⟩ rfl (fun _ => rfl) h dX11_keep_33 (fun X4 h => ?_)
      refine ab_iinc (q := 1) (v := (a1 + 1)) (lv' := [(0, .ref (gA G 10 0 0)), (1, .int (a1 + 1))]) dX11_keep_34 rfl rfl rfl (Nat.le_of_ble_eq_true rfl) rfl ?_
      refine ab_goto (tgt := 11) dX11_keep_37 (by decide) ?_
      exact ih (a1 + 1) X4 h
set_option maxRecDepth 8000 in
theorem t_X11_keep_0 {l : Launch} {G : GX} {C : CM} {Q : Int32 → Mem → Prop} (N : Nat) (X : XM) (h : SAT (f_X11_keep N X) (fun v c => Q v (C, c))) : AB l G (rmD 1) 0 0 mt_X11_keep (ZQ G mt_X11_keep Q) 0 [(0, .ref (gA G 10 0 0))] [] (C, X) := by
  unfold f_X11_keep at h
  refine ab_aloadn 0 dX11_keep_0 rfl ?_
  refine fX_gi (x := 33) ⟨by decide, by decide⟩ rfl rfl (Nat.le_of_ble_eq_true rfl) wd_408 rfl dX11_keep_1 ?_
  refine ab_bipush (v := 8) dX11_keep_4 (by decide) ?_
  refine ab_icmp_ne (tgt := 46) dX11_keep_6 (by decide) (fun hc1 => ?_) (fun hc1 => ?_)
  · have h := sat_f hc1 h
    exact t_X11_keep_46 N X h
  · have h := sat_t hc1 h
    refine ab_iconst (v := 0) dX11_keep_9 (by decide) ?_
    refine ab_istoren (lv' := [(0, .ref (gA G 10 0 0)), (1, .int 0)]) dX11_keep_10 rfl (Nat.le_of_ble_eq_true rfl) rfl ?_
    exact t_X11_keep_11 N N 0 X h
theorem ct_X11_keep {l : Launch} {G : GX} {C : CM} {Q : Int32 → Mem → Prop} (N : Nat) (X : XM) (h : SAT (f_X11_keep N X) (fun v c => Q v (C, c))) : CT l G 1 mt_X11_keep [.ref (gA G 10 0 0)] (C, X) Q := ct_of pn_X11 (Nat.le_of_ble_eq_true rfl) (t_X11_keep_0 N X h)
def f_X11_runs_147 (N : Nat) (k12 : Int32 → Int32 → Int32 → XM → Option (Int32 × XM)) (a1 : Int32) (a2 : Int32) (a3 : Int32) (a4 : Int32) (as0 : Int32) (X : XM) : Option (Int32 × XM) := ldA (X.1 2) 845 (373 + a4) (fun v1 => sxA X 2 845 (373 + a4) (v1 - as0) (fun X2 => ldA (X2.1 2) 845 (381 + a4) (fun v3 => sxA X2 2 845 (381 + a4) (v3 + as0) (fun X4 => ldA (X4.1 2) 845 542 (fun v5 => sxA X4 2 845 542 (v5 + as0) (fun X6 => (k12 (a1 - as0) a2 (a3 + 1) X6)))))))
def f_X11_runs_133 (N : Nat) (k12 : Int32 → Int32 → Int32 → XM → Option (Int32 × XM)) (a1 : Int32) (a2 : Int32) (a3 : Int32) (a4 : Int32) (as0 : Int32) (X : XM) : Option (Int32 × XM) := (if a1 ≤ as0 then (f_X11_runs_147 N k12 a1 a2 a3 a4 a1 X) else (f_X11_runs_147 N k12 a1 a2 a3 a4 as0 X))
def f_X11_runs_76 (N : Nat) (k12 : Int32 → Int32 → Int32 → XM → Option (Int32 × XM)) (k28 : Int32 → Int32 → XM → Option (Int32 × XM)) (a1 : Int32) (a2 : Int32) (a3 : Int32) (a5 : Int32) (X : XM) : Option (Int32 × XM) := (k28 a5 (a5 + 1) X)
def f_X11_runs_28 (N : Nat) (k12 : Int32 → Int32 → Int32 → XM → Option (Int32 × XM)) (a1 : Int32) (a2 : Int32) (a3 : Int32) : Nat → Int32 → Int32 → XM → Option (Int32 × XM)
  | 0, _, _, _ => none
  | n + 1, a4, a5, X => ldA (X.1 2) 845 2 (fun v1 => (if v1 ≤ a5 then ldA (X.1 2) 845 5 (fun v3 => ldA (X.1 2) 845 (373 + a4) (fun v4 => (if v4 ≤ v3 then ldA (X.1 2) 845 (373 + a4) (fun v6 => (f_X11_runs_133 N k12 a1 (a2 ||| ((1 : Int32) <<< (a4 &&& 31))) a3 a4 v6 X)) else ldA (X.1 2) 845 5 (fun v7 => (f_X11_runs_133 N k12 a1 (a2 ||| ((1 : Int32) <<< (a4 &&& 31))) a3 a4 v7 X))))) else cal (f_X11_bitOf a2 a5 X) (fun v8 X9 => (if v8 = 0 then (if a4 < 0 then (f_X11_runs_76 N k12 (fun z4 z5 c => f_X11_runs_28 N k12 a1 a2 a3 n z4 z5 c) a1 a2 a3 a5 X9) else ldA (X9.1 2) 845 (23 + a5) (fun v12 => ldA (X9.1 2) 845 (23 + a4) (fun v13 => (if v12 ≤ v13 then (f_X11_runs_28 N k12 a1 a2 a3 n a4 (a5 + 1) X9) else (f_X11_runs_76 N k12 (fun z4 z5 c => f_X11_runs_28 N k12 a1 a2 a3 n z4 z5 c) a1 a2 a3 a5 X9))))) else (f_X11_runs_28 N k12 a1 a2 a3 n a4 (a5 + 1) X9)))))
def f_X11_runs_12 (N : Nat) : Nat → Int32 → Int32 → Int32 → XM → Option (Int32 × XM)
  | 0, _, _, _, _ => none
  | n + 1, a1, a2, a3, X => ldA (X.1 2) 845 2 (fun v1 => (if v1 ≤ a3 then (rt 0 X) else (f_X11_runs_28 N (fun z1 z2 z3 c => f_X11_runs_12 N n z1 z2 z3 c) a1 a2 a3 N (-1) 0 X)))
def f_X11_runs (N : Nat) (X : XM) : Option (Int32 × XM) := ldA (X.1 2) 845 6 (fun v1 => (f_X11_runs_12 N N v1 0 0 X))
set_option maxRecDepth 8000 in
theorem t_X11_runs_147 {l : Launch} {G : GX} {C : CM} {Q : Int32 → Mem → Prop} (N : Nat) (k12 : Int32 → Int32 → Int32 → XM → Option (Int32 × XM)) (a1 : Int32) (a2 : Int32) (a3 : Int32) (a4 : Int32) (as0 : Int32) (hk12 : ∀ (ac1 : Int32) (ac2 : Int32) (ac3 : Int32) (X : XM), SAT (k12 ac1 ac2 ac3 X) (fun v c => Q v (C, c)) → AB l G (rmD 2) 0 0 mt_X11_runs (ZQ G mt_X11_runs Q) 12 [(0, .ref (gA G 10 0 0)), (1, .int ac1), (2, .int ac2), (3, .int ac3)] [] (C, X)) (X : XM) (h : SAT (f_X11_runs_147 N k12 a1 a2 a3 a4 as0 X) (fun v c => Q v (C, c))) : AB l G (rmD 2) 0 0 mt_X11_runs (ZQ G mt_X11_runs Q) 147 [(0, .ref (gA G 10 0 0)), (1, .int a1), (2, .int a2), (3, .int a3), (4, .int a4)] [.int as0] (C, X) := by
  unfold f_X11_runs_147 at h
  refine ab_istore (lv' := [(0, .ref (gA G 10 0 0)), (1, .int a1), (2, .int a2), (3, .int a3), (4, .int a4), (5, .int as0)]) dX11_runs_147 rfl (Nat.le_of_ble_eq_true rfl) rfl ?_
  refine ab_aloadn 0 dX11_runs_149 rfl ?_
  refine f_gr (x := 6) (k2 := 10) (i2 := 0) (j2 := 2) ⟨by decide, by decide⟩ rfl rfl (Nat.le_of_ble_eq_true rfl) wd_406 rfl rfl dX11_runs_150 ?_
  refine ab_sipush (v := 373) dX11_runs_153 (by decide) ?_
  refine ab_iload 4 dX11_runs_156 rfl ?_
  refine ab_iadd dX11_runs_158 ?_
  refine ab_dup2 dX11_runs_159 rfl rfl ?_
  refine fX_iald ⟨by decide, by decide⟩ rfl (fun _ => rfl) h dX11_runs_160 (fun v1 h => ?_)
  refine ab_iload 5 dX11_runs_161 rfl ?_
  refine ab_isub dX11_runs_163 ?_
  refine fX_iast ⟨by decide, by decide⟩ rfl (fun _ => rfl) h dX11_runs_164 (fun X2 h => ?_)
  refine ab_aloadn 0 dX11_runs_165 rfl ?_
  refine f_gr (x := 6) (k2 := 10) (i2 := 0) (j2 := 2) ⟨by decide, by decide⟩ rfl rfl (Nat.le_of_ble_eq_true rfl) wd_406 rfl rfl dX11_runs_166 ?_
  refine ab_sipush (v := 381) dX11_runs_169 (by decide) ?_
  refine ab_iload 4 dX11_runs_172 rfl ?_
  refine ab_iadd dX11_runs_174 ?_
  refine ab_dup2 dX11_runs_175 rfl rfl ?_
  refine fX_iald ⟨by decide, by decide⟩ rfl (fun _ => rfl) h dX11_runs_176 (fun v3 h => ?_)
  refine ab_iload 5 dX11_runs_177 rfl ?_
  refine ab_iadd dX11_runs_179 ?_
  refine fX_iast ⟨by decide, by decide⟩ rfl (fun _ => rfl) h dX11_runs_180 (fun X4 h => ?_)
  refine ab_aloadn 0 dX11_runs_181 rfl ?_
  refine f_gr (x := 6) (k2 := 10) (i2 := 0) (j2 := 2) ⟨by decide, by decide⟩ rfl rfl (Nat.le_of_ble_eq_true rfl) wd_406 rfl rfl dX11_runs_182 ?_
  refine ab_sipush (v := 542) dX11_runs_185 (by decide) ?_
  refine ab_dup2 dX11_runs_188 rfl rfl ?_
  refine fX_iald ⟨by decide, by decide⟩ rfl (fun _ => rfl) h dX11_runs_189 (fun v5 h => ?_)
  refine ab_iload 5 dX11_runs_190 rfl ?_
  refine ab_iadd dX11_runs_192 ?_
  refine fX_iast ⟨by decide, by decide⟩ rfl (fun _ => rfl) h dX11_runs_193 (fun X6 h => ?_)
  refine ab_iloadn 1 dX11_runs_194 rfl ?_
  refine ab_iload 5 dX11_runs_195 rfl ?_
  refine ab_isub dX11_runs_197 ?_
  refine ab_istoren (lv' := [(0, .ref (gA G 10 0 0)), (1, .int (a1 - as0)), (2, .int a2), (3, .int a3), (4, .int a4), (5, .int as0)]) dX11_runs_198 rfl (Nat.le_of_ble_eq_true rfl) rfl ?_
  refine ab_iinc (q := 3) (v := (a3 + 1)) (lv' := [(0, .ref (gA G 10 0 0)), (1, .int (a1 - as0)), (2, .int a2), (3, .int (a3 + 1)), (4, .int a4), (5, .int as0)]) dX11_runs_199 rfl rfl rfl (Nat.le_of_ble_eq_true rfl) rfl ?_
  refine ab_goto (tgt := 12) dX11_runs_202 (by decide) ?_
  refine ab_sub [0, 1, 2, 3] rfl ?_
  exact hk12 (a1 - as0) a2 (a3 + 1) X6 h
set_option maxRecDepth 8000 in
theorem t_X11_runs_133 {l : Launch} {G : GX} {C : CM} {Q : Int32 → Mem → Prop} (N : Nat) (k12 : Int32 → Int32 → Int32 → XM → Option (Int32 × XM)) (a1 : Int32) (a2 : Int32) (a3 : Int32) (a4 : Int32) (as0 : Int32) (hk12 : ∀ (ac1 : Int32) (ac2 : Int32) (ac3 : Int32) (X : XM), SAT (k12 ac1 ac2 ac3 X) (fun v c => Q v (C, c)) → AB l G (rmD 2) 0 0 mt_X11_runs (ZQ G mt_X11_runs Q) 12 [(0, .ref (gA G 10 0 0)), (1, .int ac1), (2, .int ac2), (3, .int ac3)] [] (C, X)) (X : XM) (h : SAT (f_X11_runs_133 N k12 a1 a2 a3 a4 as0 X) (fun v c => Q v (C, c))) : AB l G (rmD 2) 0 0 mt_X11_runs (ZQ G mt_X11_runs Q) 133 [(0, .ref (gA G 10 0 0)), (1, .int a1), (2, .int a2), (3, .int a3), (4, .int a4)] [.int as0] (C, X) := by
  unfold f_X11_runs_133 at h
  refine ab_istore (lv' := [(0, .ref (gA G 10 0 0)), (1, .int a1), (2, .int a2), (3, .int a3), (4, .int a4), (5, .int as0)]) dX11_runs_133 rfl (Nat.le_of_ble_eq_true rfl) rfl ?_
  refine ab_iload 5 dX11_runs_135 rfl ?_
  refine ab_iloadn 1 dX11_runs_137 rfl ?_
  refine ab_icmp_ge (tgt := 146) dX11_runs_138 (by decide) (fun hc1 => ?_) (fun hc1 => ?_)
  · have h := sat_t hc1 h
    refine ab_iloadn 1 dX11_runs_146 rfl ?_
    refine ab_sub [0, 1, 2, 3, 4] rfl ?_
    exact t_X11_runs_147 N k12 a1 a2 a3 a4 a1 hk12 X h
  · have h := sat_f hc1 h
    refine ab_iload 5 dX11_runs_141 rfl ?_
    refine ab_goto (tgt := 147) dX11_runs_143 (by decide) ?_
    refine ab_sub [0, 1, 2, 3, 4] rfl ?_
    exact t_X11_runs_147 N k12 a1 a2 a3 a4 as0 hk12 X h
set_option maxRecDepth 8000 in
theorem t_X11_runs_76 {l : Launch} {G : GX} {C : CM} {Q : Int32 → Mem → Prop} (N : Nat) (k12 : Int32 → Int32 → Int32 → XM → Option (Int32 × XM)) (k28 : Int32 → Int32 → XM → Option (Int32 × XM)) (a1 : Int32) (a2 : Int32) (a3 : Int32) (a5 : Int32) (hk12 : ∀ (ac1 : Int32) (ac2 : Int32) (ac3 : Int32) (X : XM), SAT (k12 ac1 ac2 ac3 X) (fun v c => Q v (C, c)) → AB l G (rmD 2) 0 0 mt_X11_runs (ZQ G mt_X11_runs Q) 12 [(0, .ref (gA G 10 0 0)), (1, .int ac1), (2, .int ac2), (3, .int ac3)] [] (C, X)) (hk28 : ∀ (ac4 : Int32) (ac5 : Int32) (X : XM), SAT (k28 ac4 ac5 X) (fun v c => Q v (C, c)) → AB l G (rmD 2) 0 0 mt_X11_runs (ZQ G mt_X11_runs Q) 28 [(0, .ref (gA G 10 0 0)), (1, .int a1), (2, .int a2), (3, .int a3), (4, .int ac4), (5, .int ac5)] [] (C, X)) (X : XM) (h : SAT (f_X11_runs_76 N k12 k28 a1 a2 a3 a5 X) (fun v c => Q v (C, c))) : AB l G (rmD 2) 0 0 mt_X11_runs (ZQ G mt_X11_runs Q) 76 [(0, .ref (gA G 10 0 0)), (1, .int a1), (2, .int a2), (3, .int a3), (5, .int a5)] [] (C, X) := by
  unfold f_X11_runs_76 at h
  refine ab_iload 4 dX11_runs_76 rfl ?_
  refine ab_istore (lv' := [(0, .ref (gA G 10 0 0)), (1, .int a1), (2, .int a2), (3, .int a3), (5, .int a5), (4, .int a5)]) dX11_runs_78 rfl (Nat.le_of_ble_eq_true rfl) rfl ?_
  refine ab_iinc (q := 4) (v := (a5 + 1)) (lv' := [(0, .ref (gA G 10 0 0)), (1, .int a1), (2, .int a2), (3, .int a3), (5, .int (a5 + 1)), (4, .int a5)]) dX11_runs_80 rfl rfl rfl (Nat.le_of_ble_eq_true rfl) rfl ?_
  refine ab_goto (tgt := 28) dX11_runs_83 (by decide) ?_
  refine ab_sub [0, 1, 2, 3, 5, 4] rfl ?_
  exact hk28 a5 (a5 + 1) X h
set_option maxRecDepth 8000 in
theorem t_X11_runs_28 {l : Launch} {G : GX} {C : CM} {Q : Int32 → Mem → Prop} (N : Nat) (k12 : Int32 → Int32 → Int32 → XM → Option (Int32 × XM)) (a1 : Int32) (a2 : Int32) (a3 : Int32) (hk12 : ∀ (ac1 : Int32) (ac2 : Int32) (ac3 : Int32) (X : XM), SAT (k12 ac1 ac2 ac3 X) (fun v c => Q v (C, c)) → AB l G (rmD 2) 0 0 mt_X11_runs (ZQ G mt_X11_runs Q) 12 [(0, .ref (gA G 10 0 0)), (1, .int ac1), (2, .int ac2), (3, .int ac3)] [] (C, X)) : ∀ (n : Nat) (a4 : Int32) (a5 : Int32) (X : XM), SAT (f_X11_runs_28 N k12 a1 a2 a3 n a4 a5 X) (fun v c => Q v (C, c)) → AB l G (rmD 2) 0 0 mt_X11_runs (ZQ G mt_X11_runs Q) 28 [(0, .ref (gA G 10 0 0)), (1, .int a1), (2, .int a2), (3, .int a3), (4, .int a4), (5, .int a5)] [] (C, X) := by
  intro n
  induction n with
  | zero => intro a4 a5 X h; exact h.elim
  | succ n ih =>
    intro a4 a5 X h
    rw [f_X11_runs_28] at h
    refine ab_iload 5 dX11_runs_28 rfl ?_
    refine ab_aloadn 0 dX11_runs_30 rfl ?_
    refine f_gr (x := 6) (k2 := 10) (i2 := 0) (j2 := 2) ⟨by decide, by decide⟩ rfl rfl (Nat.le_of_ble_eq_true rfl) wd_406 rfl rfl dX11_runs_31 ?_
    refine ab_iconst (v := 2) dX11_runs_34 (by decide) ?_
    refine fX_iald ⟨by decide, by decide⟩ rfl (fun _ => rfl) h dX11_runs_35 (fun v1 h => ?_)
    refine ab_icmp_ge (tgt := 86) dX11_runs_36 (by decide) (fun hc2 => ?_) (fun hc2 => ?_)
    · have h := sat_t hc2 h
      refine ab_iloadn 2 dX11_runs_86 rfl ?_
      refine ab_iconst (v := 1) dX11_runs_87 (by decide) ?_
      refine ab_iload 4 dX11_runs_88 rfl ?_
      refine ab_ishl dX11_runs_90 ?_
      refine ab_ior dX11_runs_91 ?_
      refine ab_istoren (lv' := [(0, .ref (gA G 10 0 0)), (1, .int a1), (2, .int (a2 ||| ((1 : Int32) <<< (a4 &&& 31)))), (3, .int a3), (4, .int a4), (5, .int a5)]) dX11_runs_92 rfl (Nat.le_of_ble_eq_true rfl) rfl ?_
      refine ab_aloadn 0 dX11_runs_93 rfl ?_
      refine f_gr (x := 6) (k2 := 10) (i2 := 0) (j2 := 2) ⟨by decide, by decide⟩ rfl rfl (Nat.le_of_ble_eq_true rfl) wd_406 rfl rfl dX11_runs_94 ?_
      refine ab_iconst (v := 5) dX11_runs_97 (by decide) ?_
      refine fX_iald ⟨by decide, by decide⟩ rfl (fun _ => rfl) h dX11_runs_98 (fun v3 h => ?_)
      refine ab_aloadn 0 dX11_runs_99 rfl ?_
      refine f_gr (x := 6) (k2 := 10) (i2 := 0) (j2 := 2) ⟨by decide, by decide⟩ rfl rfl (Nat.le_of_ble_eq_true rfl) wd_406 rfl rfl dX11_runs_100 ?_
      refine ab_sipush (v := 373) dX11_runs_103 (by decide) ?_
      refine ab_iload 4 dX11_runs_106 rfl ?_
      refine ab_iadd dX11_runs_108 ?_
      refine fX_iald ⟨by decide, by decide⟩ rfl (fun _ => rfl) h dX11_runs_109 (fun v4 h => ?_)
      refine ab_icmp_ge (tgt := 122) dX11_runs_110 (by decide) (fun hc5 => ?_) (fun hc5 => ?_)
      · have h := sat_t hc5 h
        refine ab_aloadn 0 dX11_runs_122 rfl ?_
        refine f_gr (x := 6) (k2 := 10) (i2 := 0) (j2 := 2) ⟨by decide, by decide⟩ rfl rfl (Nat.le_of_ble_eq_true rfl) wd_406 rfl rfl dX11_runs_123 ?_
        refine ab_sipush (v := 373) dX11_runs_126 (by decide) ?_
        refine ab_iload 4 dX11_runs_129 rfl ?_
        refine ab_iadd dX11_runs_131 ?_
        refine fX_iald ⟨by decide, by decide⟩ rfl (fun _ => rfl) h dX11_runs_132 (fun v6 h => ?_)
        refine ab_sub [0, 1, 2, 3, 4] rfl ?_
        exact t_X11_runs_133 N k12 a1 (a2 ||| ((1 : Int32) <<< (a4 &&& 31))) a3 a4 v6 hk12 X h
      · have h := sat_f hc5 h
        refine ab_aloadn 0 dX11_runs_113 rfl ?_
        refine f_gr (x := 6) (k2 := 10) (i2 := 0) (j2 := 2) ⟨by decide, by decide⟩ rfl rfl (Nat.le_of_ble_eq_true rfl) wd_406 rfl rfl dX11_runs_114 ?_
        refine ab_iconst (v := 5) dX11_runs_117 (by decide) ?_
        refine fX_iald ⟨by decide, by decide⟩ rfl (fun _ => rfl) h dX11_runs_118 (fun v7 h => ?_)
        refine ab_goto (tgt := 133) dX11_runs_119 (by decide) ?_
        refine ab_sub [0, 1, 2, 3, 4] rfl ?_
        exact t_X11_runs_133 N k12 a1 (a2 ||| ((1 : Int32) <<< (a4 &&& 31))) a3 a4 v7 hk12 X h
    · have h := sat_f hc2 h
      refine ab_iloadn 2 dX11_runs_39 rfl ?_
      refine ab_iload 5 dX11_runs_40 rfl ?_
      refine fX_Si (mtc := mt_X11_bitOf) (As := [.int a2, .int a5]) h (fun Q h => ct_X11_bitOf a2 a5 X h) mw_X11_bitOf wd_392 wd_393 rfl rfl ⟨Nat.le_of_ble_eq_true rfl, Nat.le_of_ble_eq_true rfl⟩ ⟨Nat.zero_le _, Nat.zero_le _⟩ (Nat.le_of_ble_eq_true rfl) rfl dX11_runs_42 (fun v8 X9 h => ?_)
      refine ab_if_ne (tgt := 80) dX11_runs_45 (by decide) (fun hc10 => ?_) (fun hc10 => ?_)
      · have h := sat_f hc10 h
        refine ab_iinc (q := 5) (v := (a5 + 1)) (lv' := [(0, .ref (gA G 10 0 0)), (1, .int a1), (2, .int a2), (3, .int a3), (4, .int a4), (5, .int (a5 + 1))]) dX11_runs_80 rfl rfl rfl (Nat.le_of_ble_eq_true rfl) rfl ?_
        refine ab_goto (tgt := 28) dX11_runs_83 (by decide) ?_
        exact ih a4 (a5 + 1) X9 h
      · have h := sat_t hc10 h
        refine ab_iload 4 dX11_runs_48 rfl ?_
        refine ab_if_lt (tgt := 76) dX11_runs_50 (by decide) (fun hc11 => ?_) (fun hc11 => ?_)
        · have h := sat_t hc11 h
          refine ab_sub [0, 1, 2, 3, 5] rfl ?_
          exact t_X11_runs_76 N k12 (fun z4 z5 c => f_X11_runs_28 N k12 a1 a2 a3 n z4 z5 c) a1 a2 a3 a5 hk12 ih X9 h
        · have h := sat_f hc11 h
          refine ab_aloadn 0 dX11_runs_53 rfl ?_
          refine f_gr (x := 6) (k2 := 10) (i2 := 0) (j2 := 2) ⟨by decide, by decide⟩ rfl rfl (Nat.le_of_ble_eq_true rfl) wd_406 rfl rfl dX11_runs_54 ?_
          refine ab_bipush (v := 23) dX11_runs_57 (by decide) ?_
          refine ab_iload 5 dX11_runs_59 rfl ?_
          refine ab_iadd dX11_runs_61 ?_
          refine fX_iald ⟨by decide, by decide⟩ rfl (fun _ => rfl) h dX11_runs_62 (fun v12 h => ?_)
          refine ab_aloadn 0 dX11_runs_63 rfl ?_
          refine f_gr (x := 6) (k2 := 10) (i2 := 0) (j2 := 2) ⟨by decide, by decide⟩ rfl rfl (Nat.le_of_ble_eq_true rfl) wd_406 rfl rfl dX11_runs_64 ?_
          refine ab_bipush (v := 23) dX11_runs_67 (by decide) ?_
          refine ab_iload 4 dX11_runs_69 rfl ?_
          refine ab_iadd dX11_runs_71 ?_
          refine fX_iald ⟨by decide, by decide⟩ rfl (fun _ => rfl) h dX11_runs_72 (fun v13 h => ?_)
          refine ab_icmp_le (tgt := 80) dX11_runs_73 (by decide) (fun hc14 => ?_) (fun hc14 => ?_)
          · have h := sat_t hc14 h
            refine ab_iinc (q := 5) (v := (a5 + 1)) (lv' := [(0, .ref (gA G 10 0 0)), (1, .int a1), (2, .int a2), (3, .int a3), (4, .int a4), (5, .int (a5 + 1))]) dX11_runs_80 rfl rfl rfl (Nat.le_of_ble_eq_true rfl) rfl ?_
            refine ab_goto (tgt := 28) dX11_runs_83 (by decide) ?_
            exact ih a4 (a5 + 1) X9 h
          · have h := sat_f hc14 h
            refine ab_sub [0, 1, 2, 3, 5] rfl ?_
            exact t_X11_runs_76 N k12 (fun z4 z5 c => f_X11_runs_28 N k12 a1 a2 a3 n z4 z5 c) a1 a2 a3 a5 hk12 ih X9 h
set_option maxRecDepth 8000 in
theorem t_X11_runs_12 {l : Launch} {G : GX} {C : CM} {Q : Int32 → Mem → Prop} (N : Nat) : ∀ (n : Nat) (a1 : Int32) (a2 : Int32) (a3 : Int32) (X : XM), SAT (f_X11_runs_12 N n a1 a2 a3 X) (fun v c => Q v (C, c)) → AB l G (rmD 2) 0 0 mt_X11_runs (ZQ G mt_X11_runs Q) 12 [(0, .ref (gA G 10 0 0)), (1, .int a1), (2, .int a2), (3, .int a3)] [] (C, X) := by
  intro n
  induction n with
  | zero => intro a1 a2 a3 X h; exact h.elim
  | succ n ih =>
    intro a1 a2 a3 X h
    rw [f_X11_runs_12] at h
    refine ab_iloadn 3 dX11_runs_12 rfl ?_
    refine ab_aloadn 0 dX11_runs_13 rfl ?_
    refine f_gr (x := 6) (k2 := 10) (i2 := 0) (j2 := 2) ⟨by decide, by decide⟩ rfl rfl (Nat.le_of_ble_eq_true rfl) wd_406 rfl rfl dX11_runs_14 ?_
    refine ab_iconst (v := 2) dX11_runs_17 (by decide) ?_
    refine fX_iald ⟨by decide, by decide⟩ rfl (fun _ => rfl) h dX11_runs_18 (fun v1 h => ?_)
    refine ab_icmp_ge (tgt := 205) dX11_runs_19 (by decide) (fun hc2 => ?_) (fun hc2 => ?_)
    · have h := sat_t hc2 h
      exact fX_vret h rfl dX11_runs_205
    · have h := sat_f hc2 h
      refine ab_iconst (v := (-1)) dX11_runs_22 (by decide) ?_
      refine ab_istore (lv' := [(0, .ref (gA G 10 0 0)), (1, .int a1), (2, .int a2), (3, .int a3), (4, .int (-1))]) dX11_runs_23 rfl (Nat.le_of_ble_eq_true rfl) rfl ?_
      refine ab_iconst (v := 0) dX11_runs_25 (by decide) ?_
      refine ab_istore (lv' := [(0, .ref (gA G 10 0 0)), (1, .int a1), (2, .int a2), (3, .int a3), (4, .int (-1)), (5, .int 0)]) dX11_runs_26 rfl (Nat.le_of_ble_eq_true rfl) rfl ?_
      exact t_X11_runs_28 N (fun z1 z2 z3 c => f_X11_runs_12 N n z1 z2 z3 c) a1 a2 a3 ih N (-1) 0 X h
set_option maxRecDepth 8000 in
theorem t_X11_runs_0 {l : Launch} {G : GX} {C : CM} {Q : Int32 → Mem → Prop} (N : Nat) (X : XM) (h : SAT (f_X11_runs N X) (fun v c => Q v (C, c))) : AB l G (rmD 2) 0 0 mt_X11_runs (ZQ G mt_X11_runs Q) 0 [(0, .ref (gA G 10 0 0))] [] (C, X) := by
  unfold f_X11_runs at h
  refine ab_aloadn 0 dX11_runs_0 rfl ?_
  refine f_gr (x := 6) (k2 := 10) (i2 := 0) (j2 := 2) ⟨by decide, by decide⟩ rfl rfl (Nat.le_of_ble_eq_true rfl) wd_406 rfl rfl dX11_runs_1 ?_
  refine ab_bipush (v := 6) dX11_runs_4 (by decide) ?_
  refine fX_iald ⟨by decide, by decide⟩ rfl (fun _ => rfl) h dX11_runs_6 (fun v1 h => ?_)
  refine ab_istoren (lv' := [(0, .ref (gA G 10 0 0)), (1, .int v1)]) dX11_runs_7 rfl (Nat.le_of_ble_eq_true rfl) rfl ?_
  refine ab_iconst (v := 0) dX11_runs_8 (by decide) ?_
  refine ab_istoren (lv' := [(0, .ref (gA G 10 0 0)), (1, .int v1), (2, .int 0)]) dX11_runs_9 rfl (Nat.le_of_ble_eq_true rfl) rfl ?_
  refine ab_iconst (v := 0) dX11_runs_10 (by decide) ?_
  refine ab_istoren (lv' := [(0, .ref (gA G 10 0 0)), (1, .int v1), (2, .int 0), (3, .int 0)]) dX11_runs_11 rfl (Nat.le_of_ble_eq_true rfl) rfl ?_
  exact t_X11_runs_12 N N v1 0 0 X h
theorem ct_X11_runs {l : Launch} {G : GX} {C : CM} {Q : Int32 → Mem → Prop} (N : Nat) (X : XM) (h : SAT (f_X11_runs N X) (fun v c => Q v (C, c))) : CT l G 2 mt_X11_runs [.ref (gA G 10 0 0)] (C, X) Q := ct_of pn_X11 (Nat.le_of_ble_eq_true rfl) (t_X11_runs_0 N X h)
def f_X11_quarter_53 (N : Nat) (X : XM) : Option (Int32 × XM) := ldA (X.1 2) 845 371 (fun v1 => sxA X 2 845 371 (v1 + 1) (fun X2 => (rt 0 X2)))
def f_X11_quarter (N : Nat) (X : XM) : Option (Int32 × XM) := ldA (X.1 2) 845 371 (fun v1 => ldA (X.1 2) 845 (223 + v1) (fun v2 => (if v2 ≤ 0 then cal (f_X11_runs N X) (fun v4 X5 => (f_X11_quarter_53 N X5)) else ldA (X.1 2) 845 (175 + v1) (fun v6 => ldA (X.1 2) 845 (223 + v1) (fun v7 => cal (f_X11_blows N v6 v7 X) (fun v8 X9 => (f_X11_quarter_53 N X9)))))))
set_option maxRecDepth 8000 in
theorem t_X11_quarter_53 {l : Launch} {G : GX} {C : CM} {Q : Int32 → Mem → Prop} (N : Nat) (X : XM) (h : SAT (f_X11_quarter_53 N X) (fun v c => Q v (C, c))) : AB l G (rmD 5) 0 0 mt_X11_quarter (ZQ G mt_X11_quarter Q) 53 [(0, .ref (gA G 10 0 0))] [] (C, X) := by
  unfold f_X11_quarter_53 at h
  refine ab_aloadn 0 dX11_quarter_53 rfl ?_
  refine f_gr (x := 6) (k2 := 10) (i2 := 0) (j2 := 2) ⟨by decide, by decide⟩ rfl rfl (Nat.le_of_ble_eq_true rfl) wd_406 rfl rfl dX11_quarter_54 ?_
  refine ab_sipush (v := 371) dX11_quarter_57 (by decide) ?_
  refine ab_dup2 dX11_quarter_60 rfl rfl ?_
  refine fX_iald ⟨by decide, by decide⟩ rfl (fun _ => rfl) h dX11_quarter_61 (fun v1 h => ?_)
  refine ab_iconst (v := 1) dX11_quarter_62 (by decide) ?_
  refine ab_iadd dX11_quarter_63 ?_
  refine fX_iast ⟨by decide, by decide⟩ rfl (fun _ => rfl) h dX11_quarter_64 (fun X2 h => ?_)
  exact fX_vret h rfl dX11_quarter_65
set_option maxRecDepth 8000 in
theorem t_X11_quarter_0 {l : Launch} {G : GX} {C : CM} {Q : Int32 → Mem → Prop} (N : Nat) (X : XM) (h : SAT (f_X11_quarter N X) (fun v c => Q v (C, c))) : AB l G (rmD 5) 0 0 mt_X11_quarter (ZQ G mt_X11_quarter Q) 0 [(0, .ref (gA G 10 0 0))] [] (C, X) := by
  unfold f_X11_quarter at h
  refine ab_aloadn 0 dX11_quarter_0 rfl ?_
  refine f_gr (x := 6) (k2 := 10) (i2 := 0) (j2 := 2) ⟨by decide, by decide⟩ rfl rfl (Nat.le_of_ble_eq_true rfl) wd_406 rfl rfl dX11_quarter_1 ?_
  refine ab_sipush (v := 371) dX11_quarter_4 (by decide) ?_
  refine fX_iald ⟨by decide, by decide⟩ rfl (fun _ => rfl) h dX11_quarter_7 (fun v1 h => ?_)
  refine ab_istoren (lv' := [(0, .ref (gA G 10 0 0)), (1, .int v1)]) dX11_quarter_8 rfl (Nat.le_of_ble_eq_true rfl) rfl ?_
  refine ab_aloadn 0 dX11_quarter_9 rfl ?_
  refine f_gr (x := 6) (k2 := 10) (i2 := 0) (j2 := 2) ⟨by decide, by decide⟩ rfl rfl (Nat.le_of_ble_eq_true rfl) wd_406 rfl rfl dX11_quarter_10 ?_
  refine ab_sipush (v := 223) dX11_quarter_13 (by decide) ?_
  refine ab_iloadn 1 dX11_quarter_16 rfl ?_
  refine ab_iadd dX11_quarter_17 ?_
  refine fX_iald ⟨by decide, by decide⟩ rfl (fun _ => rfl) h dX11_quarter_18 (fun v2 h => ?_)
  refine ab_if_le (tgt := 49) dX11_quarter_19 (by decide) (fun hc3 => ?_) (fun hc3 => ?_)
  · have h := sat_t hc3 h
    refine ab_aloadn 0 dX11_quarter_49 rfl ?_
    refine fX_Vv (mtc := mt_X11_runs) (As := []) h (fun Q h => ct_X11_runs N X h) ⟨by decide, by decide⟩ rfl rfl rfl mw_X11_runs wd_436 rfl rfl ⟨Nat.le_of_ble_eq_true rfl, Nat.le_of_ble_eq_true rfl⟩ ⟨Nat.zero_le _, Nat.zero_le _⟩ (Nat.le_of_ble_eq_true rfl) rfl dX11_quarter_50 (fun v4 X5 h => ?_)
    refine ab_sub [0] rfl ?_
    exact t_X11_quarter_53 N X5 h
  · have h := sat_f hc3 h
    refine ab_aloadn 0 dX11_quarter_22 rfl ?_
    refine ab_aloadn 0 dX11_quarter_23 rfl ?_
    refine f_gr (x := 6) (k2 := 10) (i2 := 0) (j2 := 2) ⟨by decide, by decide⟩ rfl rfl (Nat.le_of_ble_eq_true rfl) wd_406 rfl rfl dX11_quarter_24 ?_
    refine ab_sipush (v := 175) dX11_quarter_27 (by decide) ?_
    refine ab_iloadn 1 dX11_quarter_30 rfl ?_
    refine ab_iadd dX11_quarter_31 ?_
    refine fX_iald ⟨by decide, by decide⟩ rfl (fun _ => rfl) h dX11_quarter_32 (fun v6 h => ?_)
    refine ab_aloadn 0 dX11_quarter_33 rfl ?_
    refine f_gr (x := 6) (k2 := 10) (i2 := 0) (j2 := 2) ⟨by decide, by decide⟩ rfl rfl (Nat.le_of_ble_eq_true rfl) wd_406 rfl rfl dX11_quarter_34 ?_
    refine ab_sipush (v := 223) dX11_quarter_37 (by decide) ?_
    refine ab_iloadn 1 dX11_quarter_40 rfl ?_
    refine ab_iadd dX11_quarter_41 ?_
    refine fX_iald ⟨by decide, by decide⟩ rfl (fun _ => rfl) h dX11_quarter_42 (fun v7 h => ?_)
    refine fX_Vv (mtc := mt_X11_blows) (As := [.int v6, .int v7]) h (fun Q h => ct_X11_blows N v6 v7 X h) ⟨by decide, by decide⟩ rfl rfl rfl mw_X11_blows wd_432 rfl rfl ⟨Nat.le_of_ble_eq_true rfl, Nat.le_of_ble_eq_true rfl⟩ ⟨Nat.zero_le _, Nat.zero_le _⟩ (Nat.le_of_ble_eq_true rfl) rfl dX11_quarter_43 (fun v8 X9 h => ?_)
    refine ab_goto (tgt := 53) dX11_quarter_46 (by decide) ?_
    refine ab_sub [0] rfl ?_
    exact t_X11_quarter_53 N X9 h
theorem ct_X11_quarter {l : Launch} {G : GX} {C : CM} {Q : Int32 → Mem → Prop} (N : Nat) (X : XM) (h : SAT (f_X11_quarter N X) (fun v c => Q v (C, c))) : CT l G 5 mt_X11_quarter [.ref (gA G 10 0 0)] (C, X) Q := ct_of pn_X11 (Nat.le_of_ble_eq_true rfl) (t_X11_quarter_0 N X h)
def f_X11_goes_30 (N : Nat) (a2 : Int32) (X : XM) : Option (Int32 × XM) := (rt a2 X)
def f_X11_goes_2 (N : Nat) (a1 : Int32) : Nat → Int32 → XM → Option (Int32 × XM)
  | 0, _, _ => none
  | n + 1, a2, X => (if a1 ≤ a2 then (f_X11_goes_30 N a2 X) else ldA (X.1 2) 845 371 (fun v2 => (if 47 < v2 then (f_X11_goes_30 N a2 X) else cal (f_X11_quarter N X) (fun v4 X5 => (f_X11_goes_2 N a1 n (a2 + 1) X5)))))
def f_X11_goes (N : Nat) (a1 : Int32) (X : XM) : Option (Int32 × XM) := (f_X11_goes_2 N a1 N 0 X)
set_option maxRecDepth 8000 in
theorem t_X11_goes_30 {l : Launch} {G : GX} {C : CM} {Q : Int32 → Mem → Prop} (N : Nat) (a2 : Int32) (X : XM) (h : SAT (f_X11_goes_30 N a2 X) (fun v c => Q v (C, c))) : AB l G (rmD 6) 0 0 mt_X11_goes (ZQ G mt_X11_goes Q) 30 [(2, .int a2)] [] (C, X) := by
  unfold f_X11_goes_30 at h
  refine ab_iloadn 0 dX11_goes_30 rfl ?_
  exact fX_iret h rfl rfl dX11_goes_31
set_option maxRecDepth 8000 in
theorem t_X11_goes_2 {l : Launch} {G : GX} {C : CM} {Q : Int32 → Mem → Prop} (N : Nat) (a1 : Int32) : ∀ (n : Nat) (a2 : Int32) (X : XM), SAT (f_X11_goes_2 N a1 n a2 X) (fun v c => Q v (C, c)) → AB l G (rmD 6) 0 0 mt_X11_goes (ZQ G mt_X11_goes Q) 2 [(0, .ref (gA G 10 0 0)), (1, .int a1), (2, .int a2)] [] (C, X) := by
  intro n
  induction n with
  | zero => intro a2 X h; exact h.elim
  | succ n ih =>
    intro a2 X h
    rw [f_X11_goes_2] at h
    refine ab_iloadn 2 dX11_goes_2 rfl ?_
    refine ab_iloadn 1 dX11_goes_3 rfl ?_
    refine ab_icmp_ge (tgt := 30) dX11_goes_4 (by decide) (fun hc1 => ?_) (fun hc1 => ?_)
    · have h := sat_t hc1 h
      refine ab_sub [2] rfl ?_
      exact t_X11_goes_30 N a2 X h
    · have h := sat_f hc1 h
      refine ab_aloadn 0 dX11_goes_7 rfl ?_
      refine f_gr (x := 6) (k2 := 10) (i2 := 0) (j2 := 2) ⟨by decide, by decide⟩ rfl rfl (Nat.le_of_ble_eq_true rfl) wd_406 rfl rfl dX11_goes_8 ?_
      refine ab_sipush (v := 371) dX11_goes_11 (by decide) ?_
      refine fX_iald ⟨by decide, by decide⟩ rfl (fun _ => rfl) h dX11_goes_14 (fun v2 h => ?_)
      refine ab_bipush (v := 47) dX11_goes_15 (by decide) ?_
      refine ab_icmp_gt (tgt := 30) dX11_goes_17 (by decide) (fun hc3 => ?_) (fun hc3 => ?_)
      · have h := sat_t hc3 h
        refine ab_sub [2] rfl ?_
        exact t_X11_goes_30 N a2 X h
      · have h := sat_f hc3 h
        refine ab_aloadn 0 dX11_goes_20 rfl ?_
        refine fX_Vv (mtc := mt_X11_quarter) (As := []) h (fun Q h => ct_X11_quarter N X h) ⟨by decide, by decide⟩ rfl rfl rfl mw_X11_quarter wd_437 rfl rfl ⟨Nat.le_of_ble_eq_true rfl, Nat.le_of_ble_eq_true rfl⟩ ⟨Nat.zero_le _, Nat.zero_le _⟩ (Nat.le_of_ble_eq_true rfl) rfl dX11_goes_21 (fun v4 X5 h => ?_)
        refine ab_iinc (q := 2) (v := (a2 + 1)) (lv' := [(0, .ref (gA G 10 0 0)), (1, .int a1), (2, .int (a2 + 1))]) dX11_goes_24 rfl rfl rfl (Nat.le_of_ble_eq_true rfl) rfl ?_
        refine ab_goto (tgt := 2) dX11_goes_27 (by decide) ?_
        exact ih (a2 + 1) X5 h
set_option maxRecDepth 8000 in
theorem t_X11_goes_0 {l : Launch} {G : GX} {C : CM} {Q : Int32 → Mem → Prop} (N : Nat) (a1 : Int32) (X : XM) (h : SAT (f_X11_goes N a1 X) (fun v c => Q v (C, c))) : AB l G (rmD 6) 0 0 mt_X11_goes (ZQ G mt_X11_goes Q) 0 [(0, .ref (gA G 10 0 0)), (1, .int a1)] [] (C, X) := by
  unfold f_X11_goes at h
  refine ab_iconst (v := 0) dX11_goes_0 (by decide) ?_
  refine ab_istoren (lv' := [(0, .ref (gA G 10 0 0)), (1, .int a1), (2, .int 0)]) dX11_goes_1 rfl (Nat.le_of_ble_eq_true rfl) rfl ?_
  exact t_X11_goes_2 N a1 N 0 X h
theorem ct_X11_goes {l : Launch} {G : GX} {C : CM} {Q : Int32 → Mem → Prop} (N : Nat) (a1 : Int32) (X : XM) (h : SAT (f_X11_goes N a1 X) (fun v c => Q v (C, c))) : CT l G 6 mt_X11_goes [.ref (gA G 10 0 0), .int a1] (C, X) Q := ct_of pn_X11 (Nat.le_of_ble_eq_true rfl) (t_X11_goes_0 N a1 X h)
def f_X11_blow (N : Nat) (a1 : Int32) (X : XM) : Option (Int32 × XM) := bnd (stX X 0 0 0) (fun X1 => cal (f_X11_isIn a1 1 48 X1) (fun v2 X3 => (if v2 = 0 then (rt (-1) X3) else ldA (X3.1 2) 845 371 (fun v5 => (if v5 ≤ 47 then cal (f_X11_keep N X3) (fun v7 X8 => cal (f_X11_goes N a1 X8) (fun v9 X10 => (rt v9 X10))) else (rt 0 X3))))))
set_option maxRecDepth 8000 in
theorem t_X11_blow_0 {l : Launch} {G : GX} {C : CM} {Q : Int32 → Mem → Prop} (N : Nat) (a1 : Int32) (X : XM) (h : SAT (f_X11_blow N a1 X) (fun v c => Q v (C, c))) : AB l G (rmD 7) 0 0 mt_X11_blow (ZQ G mt_X11_blow Q) 0 [(0, .ref (gA G 10 0 0)), (1, .int a1)] [] (C, X) := by
  unfold f_X11_blow at h
  refine ab_aloadn 0 dX11_blow_0 rfl ?_
  refine ab_iconst (v := 0) dX11_blow_1 (by decide) ?_
  refine fX_pi (x := 0) (ty := .int) ⟨by decide, by decide⟩ rfl rfl (Nat.le_of_ble_eq_true rfl) wd_344 rfl h rfl (by decide +kernel) rfl rfl dX11_blow_2 (fun X1 h => ?_)
  refine ab_iloadn 1 dX11_blow_5 rfl ?_
  refine ab_iconst (v := 1) dX11_blow_6 (by decide) ?_
  refine ab_bipush (v := 48) dX11_blow_7 (by decide) ?_
  refine fX_Si (mtc := mt_X11_isIn) (As := [.int a1, .int 1, .int 48]) h (fun Q h => ct_X11_isIn a1 1 48 X1 h) mw_X11_isIn wd_382 wd_383 rfl rfl ⟨Nat.le_of_ble_eq_true rfl, Nat.le_of_ble_eq_true rfl⟩ ⟨Nat.zero_le _, Nat.zero_le _⟩ (Nat.le_of_ble_eq_true rfl) rfl dX11_blow_9 (fun v2 X3 h => ?_)
  refine ab_if_ne (tgt := 17) dX11_blow_12 (by decide) (fun hc4 => ?_) (fun hc4 => ?_)
  · have h := sat_f hc4 h
    refine ab_aloadn 0 dX11_blow_17 rfl ?_
    refine f_gr (x := 6) (k2 := 10) (i2 := 0) (j2 := 2) ⟨by decide, by decide⟩ rfl rfl (Nat.le_of_ble_eq_true rfl) wd_406 rfl rfl dX11_blow_18 ?_
    refine ab_sipush (v := 371) dX11_blow_21 (by decide) ?_
    refine fX_iald ⟨by decide, by decide⟩ rfl (fun _ => rfl) h dX11_blow_24 (fun v5 h => ?_)
    refine ab_bipush (v := 47) dX11_blow_25 (by decide) ?_
    refine ab_icmp_le (tgt := 32) dX11_blow_27 (by decide) (fun hc6 => ?_) (fun hc6 => ?_)
    · have h := sat_t hc6 h
      refine ab_aloadn 0 dX11_blow_32 rfl ?_
      refine fX_Vv (mtc := mt_X11_keep) (As := []) h (fun Q h => ct_X11_keep N X3 h) ⟨by decide, by decide⟩ rfl rfl rfl mw_X11_keep wd_435 rfl rfl ⟨Nat.le_of_ble_eq_true rfl, Nat.le_of_ble_eq_true rfl⟩ ⟨Nat.zero_le _, Nat.zero_le _⟩ (Nat.le_of_ble_eq_true rfl) rfl dX11_blow_33 (fun v7 X8 h => ?_)
      refine ab_aloadn 0 dX11_blow_36 rfl ?_
      refine ab_iloadn 1 dX11_blow_37 rfl ?_
      refine fX_Vi (mtc := mt_X11_goes) (As := [.int a1]) h (fun Q h => ct_X11_goes N a1 X8 h) ⟨by decide, by decide⟩ rfl rfl rfl mw_X11_goes wd_438 rfl rfl ⟨Nat.le_of_ble_eq_true rfl, Nat.le_of_ble_eq_true rfl⟩ ⟨Nat.zero_le _, Nat.zero_le _⟩ (Nat.le_of_ble_eq_true rfl) rfl dX11_blow_38 (fun v9 X10 h => ?_)
      exact fX_iret h rfl rfl dX11_blow_41
    · have h := sat_f hc6 h
      refine ab_iconst (v := 0) dX11_blow_30 (by decide) ?_
      exact fX_iret h rfl rfl dX11_blow_31
  · have h := sat_t hc4 h
    refine ab_iconst (v := (-1)) dX11_blow_15 (by decide) ?_
    exact fX_iret h rfl rfl dX11_blow_16
theorem ct_X11_blow {l : Launch} {G : GX} {C : CM} {Q : Int32 → Mem → Prop} (N : Nat) (a1 : Int32) (X : XM) (h : SAT (f_X11_blow N a1 X) (fun v c => Q v (C, c))) : CT l G 7 mt_X11_blow [.ref (gA G 10 0 0), .int a1] (C, X) Q := ct_of pn_X11 (Nat.le_of_ble_eq_true rfl) (t_X11_blow_0 N a1 X h)
def f_X11_isBare (N : Nat) (a1 : Int32) (X : XM) : Option (Int32 × XM) := cal (f_X11_ownerAt N a1 X) (fun v1 X2 => (if 0 ≤ v1 then (rt 0 X2) else cal (f_X11_treeAt N a1 X2) (fun v4 X5 => (if 0 ≤ v4 then (rt 0 X5) else ldA (X5.1 2) 845 (441 + a1) (fun v7 => (if v7 = 0 then (rt 1 X5) else (rt 0 X5)))))))
set_option maxRecDepth 8000 in
theorem t_X11_isBare_0 {l : Launch} {G : GX} {C : CM} {Q : Int32 → Mem → Prop} (N : Nat) (a1 : Int32) (X : XM) (h : SAT (f_X11_isBare N a1 X) (fun v c => Q v (C, c))) : AB l G (rmD 2) 0 0 mt_X11_isBare (ZQ G mt_X11_isBare Q) 0 [(0, .ref (gA G 10 0 0)), (1, .int a1)] [] (C, X) := by
  unfold f_X11_isBare at h
  refine ab_aloadn 0 dX11_isBare_0 rfl ?_
  refine ab_iloadn 1 dX11_isBare_1 rfl ?_
  refine fX_Vi (mtc := mt_X11_ownerAt) (As := [.int a1]) h (fun Q h => ct_X11_ownerAt N a1 X h) ⟨by decide, by decide⟩ rfl rfl rfl mw_X11_ownerAt wd_411 rfl rfl ⟨Nat.le_of_ble_eq_true rfl, Nat.le_of_ble_eq_true rfl⟩ ⟨Nat.zero_le _, Nat.zero_le _⟩ (Nat.le_of_ble_eq_true rfl) rfl dX11_isBare_2 (fun v1 X2 h => ?_)
  refine ab_if_ge (tgt := 33) dX11_isBare_5 (by decide) (fun hc3 => ?_) (fun hc3 => ?_)
  · have h := sat_t hc3 h
    refine ab_iconst (v := 0) dX11_isBare_33 (by decide) ?_
    exact fX_iret h rfl rfl dX11_isBare_34
  · have h := sat_f hc3 h
    refine ab_aloadn 0 dX11_isBare_8 rfl ?_
    refine ab_iloadn 1 dX11_isBare_9 rfl ?_
    refine fX_Vi (mtc := mt_X11_treeAt) (As := [.int a1]) h (fun Q h => ct_X11_treeAt N a1 X2 h) ⟨by decide, by decide⟩ rfl rfl rfl mw_X11_treeAt wd_412 rfl rfl ⟨Nat.le_of_ble_eq_true rfl, Nat.le_of_ble_eq_true rfl⟩ ⟨Nat.zero_le _, Nat.zero_le _⟩ (Nat.le_of_ble_eq_true rfl) rfl dX11_isBare_10 (fun v4 X5 h => ?_)
    refine ab_if_ge (tgt := 33) dX11_isBare_13 (by decide) (fun hc6 => ?_) (fun hc6 => ?_)
    · have h := sat_t hc6 h
      refine ab_iconst (v := 0) dX11_isBare_33 (by decide) ?_
      exact fX_iret h rfl rfl dX11_isBare_34
    · have h := sat_f hc6 h
      refine ab_aloadn 0 dX11_isBare_16 rfl ?_
      refine f_gr (x := 6) (k2 := 10) (i2 := 0) (j2 := 2) ⟨by decide, by decide⟩ rfl rfl (Nat.le_of_ble_eq_true rfl) wd_406 rfl rfl dX11_isBare_17 ?_
      refine ab_sipush (v := 441) dX11_isBare_20 (by decide) ?_
      refine ab_iloadn 1 dX11_isBare_23 rfl ?_
      refine ab_iadd dX11_isBare_24 ?_
      refine fX_iald ⟨by decide, by decide⟩ rfl (fun _ => rfl) h dX11_isBare_25 (fun v7 h => ?_)
      refine ab_if_ne (tgt := 33) dX11_isBare_26 (by decide) (fun hc8 => ?_) (fun hc8 => ?_)
      · have h := sat_f hc8 h
        refine ab_iconst (v := 0) dX11_isBare_33 (by decide) ?_
        exact fX_iret h rfl rfl dX11_isBare_34
      · have h := sat_t hc8 h
        refine ab_iconst (v := 1) dX11_isBare_29 (by decide) ?_
        refine ab_goto (tgt := 34) dX11_isBare_30 (by decide) ?_
        exact fX_iret h rfl rfl dX11_isBare_34
theorem ct_X11_isBare {l : Launch} {G : GX} {C : CM} {Q : Int32 → Mem → Prop} (N : Nat) (a1 : Int32) (X : XM) (h : SAT (f_X11_isBare N a1 X) (fun v c => Q v (C, c))) : CT l G 2 mt_X11_isBare [.ref (gA G 10 0 0), .int a1] (C, X) Q := ct_of pn_X11 (Nat.le_of_ble_eq_true rfl) (t_X11_isBare_0 N a1 X h)
def f_X11_fences_4 (N : Nat) : Nat → Int32 → Int32 → XM → Option (Int32 × XM)
  | 0, _, _, _ => none
  | n + 1, a1, a2, X => (if 100 ≤ a2 then (rt a1 X) else ldA (X.1 2) 845 (441 + a2) (fun v2 => (f_X11_fences_4 N n (a1 + v2) (a2 + 1) X)))
def f_X11_fences (N : Nat) (X : XM) : Option (Int32 × XM) := (f_X11_fences_4 N N 0 0 X)
set_option maxRecDepth 8000 in
theorem t_X11_fences_4 {l : Launch} {G : GX} {C : CM} {Q : Int32 → Mem → Prop} (N : Nat) : ∀ (n : Nat) (a1 : Int32) (a2 : Int32) (X : XM), SAT (f_X11_fences_4 N n a1 a2 X) (fun v c => Q v (C, c)) → AB l G (rmD 1) 0 0 mt_X11_fences (ZQ G mt_X11_fences Q) 4 [(0, .ref (gA G 10 0 0)), (1, .int a1), (2, .int a2)] [] (C, X) := by
  intro n
  induction n with
  | zero => intro a1 a2 X h; exact h.elim
  | succ n ih =>
    intro a1 a2 X h
    rw [f_X11_fences_4] at h
    refine ab_iloadn 2 dX11_fences_4 rfl ?_
    refine ab_bipush (v := 100) dX11_fences_5 (by decide) ?_
    refine ab_icmp_ge (tgt := 29) dX11_fences_7 (by decide) (fun hc1 => ?_) (fun hc1 => ?_)
    · have h := sat_t hc1 h
      refine ab_iloadn 1 dX11_fences_29 rfl ?_
      exact fX_iret h rfl rfl dX11_fences_30
    · have h := sat_f hc1 h
      refine ab_iloadn 1 dX11_fences_10 rfl ?_
      refine ab_aloadn 0 dX11_fences_11 rfl ?_
      refine f_gr (x := 6) (k2 := 10) (i2 := 0) (j2 := 2) ⟨by decide, by decide⟩ rfl rfl (Nat.le_of_ble_eq_true rfl) wd_406 rfl rfl dX11_fences_12 ?_
      refine ab_sipush (v := 441) dX11_fences_15 (by decide) ?_
      refine ab_iloadn 2 dX11_fences_18 rfl ?_
      refine ab_iadd dX11_fences_19 ?_
      refine fX_iald ⟨by decide, by decide⟩ rfl (fun _ => rfl) h dX11_fences_20 (fun v2 h => ?_)
      refine ab_iadd dX11_fences_21 ?_
      refine ab_istoren (lv' := [(0, .ref (gA G 10 0 0)), (1, .int (a1 + v2)), (2, .int a2)]) dX11_fences_22 rfl (Nat.le_of_ble_eq_true rfl) rfl ?_
      refine ab_iinc (q := 2) (v := (a2 + 1)) (lv' := [(0, .ref (gA G 10 0 0)), (1, .int (a1 + v2)), (2, .int (a2 + 1))]) dX11_fences_23 rfl rfl rfl (Nat.le_of_ble_eq_true rfl) rfl ?_
      refine ab_goto (tgt := 4) dX11_fences_26 (by decide) ?_
      exact ih (a1 + v2) (a2 + 1) X h
set_option maxRecDepth 8000 in
theorem t_X11_fences_0 {l : Launch} {G : GX} {C : CM} {Q : Int32 → Mem → Prop} (N : Nat) (X : XM) (h : SAT (f_X11_fences N X) (fun v c => Q v (C, c))) : AB l G (rmD 1) 0 0 mt_X11_fences (ZQ G mt_X11_fences Q) 0 [(0, .ref (gA G 10 0 0))] [] (C, X) := by
  unfold f_X11_fences at h
  refine ab_iconst (v := 0) dX11_fences_0 (by decide) ?_
  refine ab_istoren (lv' := [(0, .ref (gA G 10 0 0)), (1, .int 0)]) dX11_fences_1 rfl (Nat.le_of_ble_eq_true rfl) rfl ?_
  refine ab_iconst (v := 0) dX11_fences_2 (by decide) ?_
  refine ab_istoren (lv' := [(0, .ref (gA G 10 0 0)), (1, .int 0), (2, .int 0)]) dX11_fences_3 rfl (Nat.le_of_ble_eq_true rfl) rfl ?_
  exact t_X11_fences_4 N N 0 0 X h
theorem ct_X11_fences {l : Launch} {G : GX} {C : CM} {Q : Int32 → Mem → Prop} (N : Nat) (X : XM) (h : SAT (f_X11_fences N X) (fun v c => Q v (C, c))) : CT l G 1 mt_X11_fences [.ref (gA G 10 0 0)] (C, X) Q := ct_of pn_X11 (Nat.le_of_ble_eq_true rfl) (t_X11_fences_0 N X h)
def f_X11_whySet (N : Nat) (a1 : Int32) (X : XM) : Option (Int32 × XM) := cal (f_X11_isBare N a1 X) (fun v1 X2 => (if v1 = 0 then (rt 1 X2) else cal (f_X11_fences N X2) (fun v4 X5 => (if v4 = 12 then (rt 2 X5) else (rt 0 X5)))))
set_option maxRecDepth 8000 in
theorem t_X11_whySet_0 {l : Launch} {G : GX} {C : CM} {Q : Int32 → Mem → Prop} (N : Nat) (a1 : Int32) (X : XM) (h : SAT (f_X11_whySet N a1 X) (fun v c => Q v (C, c))) : AB l G (rmD 3) 0 0 mt_X11_whySet (ZQ G mt_X11_whySet Q) 0 [(0, .ref (gA G 10 0 0)), (1, .int a1)] [] (C, X) := by
  unfold f_X11_whySet at h
  refine ab_aloadn 0 dX11_whySet_0 rfl ?_
  refine ab_iloadn 1 dX11_whySet_1 rfl ?_
  refine fX_Vi (mtc := mt_X11_isBare) (As := [.int a1]) h (fun Q h => ct_X11_isBare N a1 X h) ⟨by decide, by decide⟩ rfl rfl rfl mw_X11_isBare wd_439 rfl rfl ⟨Nat.le_of_ble_eq_true rfl, Nat.le_of_ble_eq_true rfl⟩ ⟨Nat.zero_le _, Nat.zero_le _⟩ (Nat.le_of_ble_eq_true rfl) rfl dX11_whySet_2 (fun v1 X2 h => ?_)
  refine ab_if_ne (tgt := 12) dX11_whySet_5 (by decide) (fun hc3 => ?_) (fun hc3 => ?_)
  · have h := sat_f hc3 h
    refine ab_aloadn 0 dX11_whySet_12 rfl ?_
    refine fX_Vi (mtc := mt_X11_fences) (As := []) h (fun Q h => ct_X11_fences N X2 h) ⟨by decide, by decide⟩ rfl rfl rfl mw_X11_fences wd_440 rfl rfl ⟨Nat.le_of_ble_eq_true rfl, Nat.le_of_ble_eq_true rfl⟩ ⟨Nat.zero_le _, Nat.zero_le _⟩ (Nat.le_of_ble_eq_true rfl) rfl dX11_whySet_13 (fun v4 X5 h => ?_)
    refine ab_bipush (v := 12) dX11_whySet_16 (by decide) ?_
    refine ab_icmp_ne (tgt := 25) dX11_whySet_18 (by decide) (fun hc6 => ?_) (fun hc6 => ?_)
    · have h := sat_f hc6 h
      refine ab_iconst (v := 0) dX11_whySet_25 (by decide) ?_
      exact fX_iret h rfl rfl dX11_whySet_26
    · have h := sat_t hc6 h
      refine ab_iconst (v := 2) dX11_whySet_21 (by decide) ?_
      refine ab_goto (tgt := 26) dX11_whySet_22 (by decide) ?_
      exact fX_iret h rfl rfl dX11_whySet_26
  · have h := sat_t hc3 h
    refine ab_iconst (v := 1) dX11_whySet_8 (by decide) ?_
    refine ab_goto (tgt := 26) dX11_whySet_9 (by decide) ?_
    exact fX_iret h rfl rfl dX11_whySet_26
theorem ct_X11_whySet {l : Launch} {G : GX} {C : CM} {Q : Int32 → Mem → Prop} (N : Nat) (a1 : Int32) (X : XM) (h : SAT (f_X11_whySet N a1 X) (fun v c => Q v (C, c))) : CT l G 3 mt_X11_whySet [.ref (gA G 10 0 0), .int a1] (C, X) Q := ct_of pn_X11 (Nat.le_of_ble_eq_true rfl) (t_X11_whySet_0 N a1 X h)
def f_X11_set (N : Nat) (a1 : Int32) (X : XM) : Option (Int32 × XM) := bnd (stX X 0 0 0) (fun X1 => cal (f_X11_isCell a1 X1) (fun v2 X3 => (if v2 = 0 then (rt (-1) X3) else cal (f_X11_whySet N a1 X3) (fun v5 X6 => (if v5 ≤ 0 then cal (f_X11_keep N X6) (fun v8 X9 => sxA X9 2 845 (441 + a1) 1 (fun X10 => (rt 0 X10))) else (rt v5 X6))))))
set_option maxRecDepth 8000 in
theorem t_X11_set_0 {l : Launch} {G : GX} {C : CM} {Q : Int32 → Mem → Prop} (N : Nat) (a1 : Int32) (X : XM) (h : SAT (f_X11_set N a1 X) (fun v c => Q v (C, c))) : AB l G (rmD 4) 0 0 mt_X11_set (ZQ G mt_X11_set Q) 0 [(0, .ref (gA G 10 0 0)), (1, .int a1)] [] (C, X) := by
  unfold f_X11_set at h
  refine ab_aloadn 0 dX11_set_0 rfl ?_
  refine ab_iconst (v := 0) dX11_set_1 (by decide) ?_
  refine fX_pi (x := 0) (ty := .int) ⟨by decide, by decide⟩ rfl rfl (Nat.le_of_ble_eq_true rfl) wd_344 rfl h rfl (by decide +kernel) rfl rfl dX11_set_2 (fun X1 h => ?_)
  refine ab_aloadn 0 dX11_set_5 rfl ?_
  refine ab_iloadn 1 dX11_set_6 rfl ?_
  refine fX_Vi (mtc := mt_X11_isCell) (As := [.int a1]) h (fun Q h => ct_X11_isCell a1 X1 h) ⟨by decide, by decide⟩ rfl rfl rfl mw_X11_isCell wd_409 rfl rfl ⟨Nat.le_of_ble_eq_true rfl, Nat.le_of_ble_eq_true rfl⟩ ⟨Nat.zero_le _, Nat.zero_le _⟩ (Nat.le_of_ble_eq_true rfl) rfl dX11_set_7 (fun v2 X3 h => ?_)
  refine ab_if_ne (tgt := 15) dX11_set_10 (by decide) (fun hc4 => ?_) (fun hc4 => ?_)
  · have h := sat_f hc4 h
    refine ab_aloadn 0 dX11_set_15 rfl ?_
    refine ab_iloadn 1 dX11_set_16 rfl ?_
    refine fX_Vi (mtc := mt_X11_whySet) (As := [.int a1]) h (fun Q h => ct_X11_whySet N a1 X3 h) ⟨by decide, by decide⟩ rfl rfl rfl mw_X11_whySet wd_441 rfl rfl ⟨Nat.le_of_ble_eq_true rfl, Nat.le_of_ble_eq_true rfl⟩ ⟨Nat.zero_le _, Nat.zero_le _⟩ (Nat.le_of_ble_eq_true rfl) rfl dX11_set_17 (fun v5 X6 h => ?_)
    refine ab_istoren (lv' := [(0, .ref (gA G 10 0 0)), (1, .int a1), (2, .int v5)]) dX11_set_20 rfl (Nat.le_of_ble_eq_true rfl) rfl ?_
    refine ab_iloadn 2 dX11_set_21 rfl ?_
    refine ab_if_le (tgt := 27) dX11_set_22 (by decide) (fun hc7 => ?_) (fun hc7 => ?_)
    · have h := sat_t hc7 h
      refine ab_aloadn 0 dX11_set_27 rfl ?_
      refine fX_Vv (mtc := mt_X11_keep) (As := []) h (fun Q h => ct_X11_keep N X6 h) ⟨by decide, by decide⟩ rfl rfl rfl mw_X11_keep wd_435 rfl rfl ⟨Nat.le_of_ble_eq_true rfl, Nat.le_of_ble_eq_true rfl⟩ ⟨Nat.zero_le _, Nat.zero_le _⟩ (Nat.le_of_ble_eq_true rfl) rfl dX11_set_28 (fun v8 X9 h => ?_)
      refine ab_aloadn 0 dX11_set_31 rfl ?_
      refine f_gr (x := 6) (k2 := 10) (i2 := 0) (j2 := 2) ⟨by decide, by decide⟩ rfl rfl (Nat.le_of_ble_eq_true rfl) wd_406 rfl rfl dX11_set_32 ?_
      refine ab_sipush (v := 441) dX11_set_35 (by decide) ?_
      refine ab_iloadn 1 dX11_set_38 rfl ?_
      refine ab_iadd dX11_set_39 ?_
      refine ab_iconst (v := 1) dX11_set_40 (by decide) ?_
      refine fX_iast ⟨by decide, by decide⟩ rfl (fun _ => rfl) h dX11_set_41 (fun X10 h => ?_)
      refine ab_iconst (v := 0) dX11_set_42 (by decide) ?_
      exact fX_iret h rfl rfl dX11_set_43
    · have h := sat_f hc7 h
      refine ab_iloadn 2 dX11_set_25 rfl ?_
      exact fX_iret h rfl rfl dX11_set_26
  · have h := sat_t hc4 h
    refine ab_iconst (v := (-1)) dX11_set_13 (by decide) ?_
    exact fX_iret h rfl rfl dX11_set_14
theorem ct_X11_set {l : Launch} {G : GX} {C : CM} {Q : Int32 → Mem → Prop} (N : Nat) (a1 : Int32) (X : XM) (h : SAT (f_X11_set N a1 X) (fun v c => Q v (C, c))) : CT l G 4 mt_X11_set [.ref (gA G 10 0 0), .int a1] (C, X) Q := ct_of pn_X11 (Nat.le_of_ble_eq_true rfl) (t_X11_set_0 N a1 X h)
def f_X11_isTree (a1 : Int32) (X : XM) : Option (Int32 × XM) := ldA (X.1 2) 845 3 (fun v1 => cal (f_X11_isIn a1 0 (v1 - 1) X) (fun v2 X3 => (if v2 = 0 then (rt 0 X3) else ldA (X3.1 2) 845 (429 + a1) (fun v5 => (if v5 = 1 then (rt 1 X3) else (rt 0 X3))))))
set_option maxRecDepth 8000 in
theorem t_X11_isTree_0 {l : Launch} {G : GX} {C : CM} {Q : Int32 → Mem → Prop} (a1 : Int32) (X : XM) (h : SAT (f_X11_isTree a1 X) (fun v c => Q v (C, c))) : AB l G (rmD 2) 0 0 mt_X11_isTree (ZQ G mt_X11_isTree Q) 0 [(0, .ref (gA G 10 0 0)), (1, .int a1)] [] (C, X) := by
  unfold f_X11_isTree at h
  refine ab_iloadn 1 dX11_isTree_0 rfl ?_
  refine ab_iconst (v := 0) dX11_isTree_1 (by decide) ?_
  refine ab_aloadn 0 dX11_isTree_2 rfl ?_
  refine f_gr (x := 6) (k2 := 10) (i2 := 0) (j2 := 2) ⟨by decide, by decide⟩ rfl rfl (Nat.le_of_ble_eq_true rfl) wd_406 rfl rfl dX11_isTree_3 ?_
  refine ab_iconst (v := 3) dX11_isTree_6 (by decide) ?_
  refine fX_iald ⟨by decide, by decide⟩ rfl (fun _ => rfl) h dX11_isTree_7 (fun v1 h => ?_)
  refine ab_iconst (v := 1) dX11_isTree_8 (by decide) ?_
  refine ab_isub dX11_isTree_9 ?_
  refine fX_Si (mtc := mt_X11_isIn) (As := [.int a1, .int 0, .int (v1 - 1)]) h (fun Q h => ct_X11_isIn a1 0 (v1 - 1) X h) mw_X11_isIn wd_382 wd_383 rfl rfl ⟨Nat.le_of_ble_eq_true rfl, Nat.le_of_ble_eq_true rfl⟩ ⟨Nat.zero_le _, Nat.zero_le _⟩ (Nat.le_of_ble_eq_true rfl) rfl dX11_isTree_10 (fun v2 X3 h => ?_)
  refine ab_if_eq (tgt := 34) dX11_isTree_13 (by decide) (fun hc4 => ?_) (fun hc4 => ?_)
  · have h := sat_t hc4 h
    refine ab_iconst (v := 0) dX11_isTree_34 (by decide) ?_
    exact fX_iret h rfl rfl dX11_isTree_35
  · have h := sat_f hc4 h
    refine ab_aloadn 0 dX11_isTree_16 rfl ?_
    refine f_gr (x := 6) (k2 := 10) (i2 := 0) (j2 := 2) ⟨by decide, by decide⟩ rfl rfl (Nat.le_of_ble_eq_true rfl) wd_406 rfl rfl dX11_isTree_17 ?_
    refine ab_sipush (v := 429) dX11_isTree_20 (by decide) ?_
    refine ab_iloadn 1 dX11_isTree_23 rfl ?_
    refine ab_iadd dX11_isTree_24 ?_
    refine fX_iald ⟨by decide, by decide⟩ rfl (fun _ => rfl) h dX11_isTree_25 (fun v5 h => ?_)
    refine ab_iconst (v := 1) dX11_isTree_26 (by decide) ?_
    refine ab_icmp_ne (tgt := 34) dX11_isTree_27 (by decide) (fun hc6 => ?_) (fun hc6 => ?_)
    · have h := sat_f hc6 h
      refine ab_iconst (v := 0) dX11_isTree_34 (by decide) ?_
      exact fX_iret h rfl rfl dX11_isTree_35
    · have h := sat_t hc6 h
      refine ab_iconst (v := 1) dX11_isTree_30 (by decide) ?_
      refine ab_goto (tgt := 35) dX11_isTree_31 (by decide) ?_
      exact fX_iret h rfl rfl dX11_isTree_35
theorem ct_X11_isTree {l : Launch} {G : GX} {C : CM} {Q : Int32 → Mem → Prop} (a1 : Int32) (X : XM) (h : SAT (f_X11_isTree a1 X) (fun v c => Q v (C, c))) : CT l G 2 mt_X11_isTree [.ref (gA G 10 0 0), .int a1] (C, X) Q := ct_of pn_X11 (Nat.le_of_ble_eq_true rfl) (t_X11_isTree_0 a1 X h)
def f_X11_fell (N : Nat) (a1 : Int32) (X : XM) : Option (Int32 × XM) := bnd (stX X 0 0 0) (fun X1 => cal (f_X11_isTree a1 X1) (fun v2 X3 => (if v2 = 0 then (rt 3 X3) else cal (f_X11_keep N X3) (fun v5 X6 => sxA X6 2 845 (429 + a1) 0 (fun X7 => (rt 0 X7))))))
set_option maxRecDepth 8000 in
theorem t_X11_fell_0 {l : Launch} {G : GX} {C : CM} {Q : Int32 → Mem → Prop} (N : Nat) (a1 : Int32) (X : XM) (h : SAT (f_X11_fell N a1 X) (fun v c => Q v (C, c))) : AB l G (rmD 3) 0 0 mt_X11_fell (ZQ G mt_X11_fell Q) 0 [(0, .ref (gA G 10 0 0)), (1, .int a1)] [] (C, X) := by
  unfold f_X11_fell at h
  refine ab_aloadn 0 dX11_fell_0 rfl ?_
  refine ab_iconst (v := 0) dX11_fell_1 (by decide) ?_
  refine fX_pi (x := 0) (ty := .int) ⟨by decide, by decide⟩ rfl rfl (Nat.le_of_ble_eq_true rfl) wd_344 rfl h rfl (by decide +kernel) rfl rfl dX11_fell_2 (fun X1 h => ?_)
  refine ab_aloadn 0 dX11_fell_5 rfl ?_
  refine ab_iloadn 1 dX11_fell_6 rfl ?_
  refine fX_Vi (mtc := mt_X11_isTree) (As := [.int a1]) h (fun Q h => ct_X11_isTree a1 X1 h) ⟨by decide, by decide⟩ rfl rfl rfl mw_X11_isTree wd_442 rfl rfl ⟨Nat.le_of_ble_eq_true rfl, Nat.le_of_ble_eq_true rfl⟩ ⟨Nat.zero_le _, Nat.zero_le _⟩ (Nat.le_of_ble_eq_true rfl) rfl dX11_fell_7 (fun v2 X3 h => ?_)
  refine ab_if_ne (tgt := 15) dX11_fell_10 (by decide) (fun hc4 => ?_) (fun hc4 => ?_)
  · have h := sat_f hc4 h
    refine ab_aloadn 0 dX11_fell_15 rfl ?_
    refine fX_Vv (mtc := mt_X11_keep) (As := []) h (fun Q h => ct_X11_keep N X3 h) ⟨by decide, by decide⟩ rfl rfl rfl mw_X11_keep wd_435 rfl rfl ⟨Nat.le_of_ble_eq_true rfl, Nat.le_of_ble_eq_true rfl⟩ ⟨Nat.zero_le _, Nat.zero_le _⟩ (Nat.le_of_ble_eq_true rfl) rfl dX11_fell_16 (fun v5 X6 h => ?_)
    refine ab_aloadn 0 dX11_fell_19 rfl ?_
    refine f_gr (x := 6) (k2 := 10) (i2 := 0) (j2 := 2) ⟨by decide, by decide⟩ rfl rfl (Nat.le_of_ble_eq_true rfl) wd_406 rfl rfl dX11_fell_20 ?_
    refine ab_sipush (v := 429) dX11_fell_23 (by decide) ?_
    refine ab_iloadn 1 dX11_fell_26 rfl ?_
    refine ab_iadd dX11_fell_27 ?_
    refine ab_iconst (v := 0) dX11_fell_28 (by decide) ?_
    refine fX_iast ⟨by decide, by decide⟩ rfl (fun _ => rfl) h dX11_fell_29 (fun X7 h => ?_)
    refine ab_iconst (v := 0) dX11_fell_30 (by decide) ?_
    exact fX_iret h rfl rfl dX11_fell_31
  · have h := sat_t hc4 h
    refine ab_iconst (v := 3) dX11_fell_13 (by decide) ?_
    exact fX_iret h rfl rfl dX11_fell_14
theorem ct_X11_fell {l : Launch} {G : GX} {C : CM} {Q : Int32 → Mem → Prop} (N : Nat) (a1 : Int32) (X : XM) (h : SAT (f_X11_fell N a1 X) (fun v c => Q v (C, c))) : CT l G 3 mt_X11_fell [.ref (gA G 10 0 0), .int a1] (C, X) Q := ct_of pn_X11 (Nat.le_of_ble_eq_true rfl) (t_X11_fell_0 N a1 X h)
def f_X11_oils (a1 : Int32) (X : XM) : Option (Int32 × XM) := sxA X 2 845 (405 + a1) 0 (fun X1 => sxA X1 2 845 (389 + a1) 0 (fun X2 => (rt 0 X2)))
set_option maxRecDepth 8000 in
theorem t_X11_oils_0 {l : Launch} {G : GX} {C : CM} {Q : Int32 → Mem → Prop} (a1 : Int32) (X : XM) (h : SAT (f_X11_oils a1 X) (fun v c => Q v (C, c))) : AB l G (rmD 1) 0 0 mt_X11_oils (ZQ G mt_X11_oils Q) 0 [(0, .ref (gA G 10 0 0)), (1, .int a1)] [] (C, X) := by
  unfold f_X11_oils at h
  refine ab_aloadn 0 dX11_oils_0 rfl ?_
  refine f_gr (x := 6) (k2 := 10) (i2 := 0) (j2 := 2) ⟨by decide, by decide⟩ rfl rfl (Nat.le_of_ble_eq_true rfl) wd_406 rfl rfl dX11_oils_1 ?_
  refine ab_sipush (v := 405) dX11_oils_4 (by decide) ?_
  refine ab_iloadn 1 dX11_oils_7 rfl ?_
  refine ab_iadd dX11_oils_8 ?_
  refine ab_iconst (v := 0) dX11_oils_9 (by decide) ?_
  refine fX_iast ⟨by decide, by decide⟩ rfl (fun _ => rfl) h dX11_oils_10 (fun X1 h => ?_)
  refine ab_aloadn 0 dX11_oils_11 rfl ?_
  refine f_gr (x := 6) (k2 := 10) (i2 := 0) (j2 := 2) ⟨by decide, by decide⟩ rfl rfl (Nat.le_of_ble_eq_true rfl) wd_406 rfl rfl dX11_oils_12 ?_
  refine ab_sipush (v := 389) dX11_oils_15 (by decide) ?_
  refine ab_iloadn 1 dX11_oils_18 rfl ?_
  refine ab_iadd dX11_oils_19 ?_
  refine ab_iconst (v := 0) dX11_oils_20 (by decide) ?_
  refine fX_iast ⟨by decide, by decide⟩ rfl (fun _ => rfl) h dX11_oils_21 (fun X2 h => ?_)
  exact fX_vret h rfl dX11_oils_22
theorem ct_X11_oils {l : Launch} {G : GX} {C : CM} {Q : Int32 → Mem → Prop} (a1 : Int32) (X : XM) (h : SAT (f_X11_oils a1 X) (fun v c => Q v (C, c))) : CT l G 1 mt_X11_oils [.ref (gA G 10 0 0), .int a1] (C, X) Q := ct_of pn_X11 (Nat.le_of_ble_eq_true rfl) (t_X11_oils_0 a1 X h)
def f_X11_oil (N : Nat) (a1 : Int32) (X : XM) : Option (Int32 × XM) := bnd (stX X 0 0 0) (fun X1 => cal (f_X11_isOwner a1 X1) (fun v2 X3 => (if v2 = 0 then (rt 0 X3) else cal (f_X11_keep N X3) (fun v5 X6 => cal (f_X11_oils a1 X6) (fun v7 X8 => (rt 1 X8))))))
set_option maxRecDepth 8000 in
theorem t_X11_oil_0 {l : Launch} {G : GX} {C : CM} {Q : Int32 → Mem → Prop} (N : Nat) (a1 : Int32) (X : XM) (h : SAT (f_X11_oil N a1 X) (fun v c => Q v (C, c))) : AB l G (rmD 3) 0 0 mt_X11_oil (ZQ G mt_X11_oil Q) 0 [(0, .ref (gA G 10 0 0)), (1, .int a1)] [] (C, X) := by
  unfold f_X11_oil at h
  refine ab_aloadn 0 dX11_oil_0 rfl ?_
  refine ab_iconst (v := 0) dX11_oil_1 (by decide) ?_
  refine fX_pi (x := 0) (ty := .int) ⟨by decide, by decide⟩ rfl rfl (Nat.le_of_ble_eq_true rfl) wd_344 rfl h rfl (by decide +kernel) rfl rfl dX11_oil_2 (fun X1 h => ?_)
  refine ab_aloadn 0 dX11_oil_5 rfl ?_
  refine ab_iloadn 1 dX11_oil_6 rfl ?_
  refine fX_Vi (mtc := mt_X11_isOwner) (As := [.int a1]) h (fun Q h => ct_X11_isOwner a1 X1 h) ⟨by decide, by decide⟩ rfl rfl rfl mw_X11_isOwner wd_413 rfl rfl ⟨Nat.le_of_ble_eq_true rfl, Nat.le_of_ble_eq_true rfl⟩ ⟨Nat.zero_le _, Nat.zero_le _⟩ (Nat.le_of_ble_eq_true rfl) rfl dX11_oil_7 (fun v2 X3 h => ?_)
  refine ab_if_ne (tgt := 15) dX11_oil_10 (by decide) (fun hc4 => ?_) (fun hc4 => ?_)
  · have h := sat_f hc4 h
    refine ab_aloadn 0 dX11_oil_15 rfl ?_
    refine fX_Vv (mtc := mt_X11_keep) (As := []) h (fun Q h => ct_X11_keep N X3 h) ⟨by decide, by decide⟩ rfl rfl rfl mw_X11_keep wd_435 rfl rfl ⟨Nat.le_of_ble_eq_true rfl, Nat.le_of_ble_eq_true rfl⟩ ⟨Nat.zero_le _, Nat.zero_le _⟩ (Nat.le_of_ble_eq_true rfl) rfl dX11_oil_16 (fun v5 X6 h => ?_)
    refine ab_aloadn 0 dX11_oil_19 rfl ?_
    refine ab_iloadn 1 dX11_oil_20 rfl ?_
    refine fX_Vv (mtc := mt_X11_oils) (As := [.int a1]) h (fun Q h => ct_X11_oils a1 X6 h) ⟨by decide, by decide⟩ rfl rfl rfl mw_X11_oils wd_443 rfl rfl ⟨Nat.le_of_ble_eq_true rfl, Nat.le_of_ble_eq_true rfl⟩ ⟨Nat.zero_le _, Nat.zero_le _⟩ (Nat.le_of_ble_eq_true rfl) rfl dX11_oil_21 (fun v7 X8 h => ?_)
    refine ab_iconst (v := 1) dX11_oil_24 (by decide) ?_
    exact fX_iret h rfl rfl dX11_oil_25
  · have h := sat_t hc4 h
    refine ab_iconst (v := 0) dX11_oil_13 (by decide) ?_
    exact fX_iret h rfl rfl dX11_oil_14
theorem ct_X11_oil {l : Launch} {G : GX} {C : CM} {Q : Int32 → Mem → Prop} (N : Nat) (a1 : Int32) (X : XM) (h : SAT (f_X11_oil N a1 X) (fun v c => Q v (C, c))) : CT l G 3 mt_X11_oil [.ref (gA G 10 0 0), .int a1] (C, X) Q := ct_of pn_X11 (Nat.le_of_ble_eq_true rfl) (t_X11_oil_0 N a1 X h)
def f_X11_points (a1 : Int32) (a2 : Int32) (X : XM) : Option (Int32 × XM) := sxA X 2 845 (397 + a1) a2 (fun X1 => sxA X1 2 845 (405 + a1) 1 (fun X2 => (rt 0 X2)))
set_option maxRecDepth 8000 in
theorem t_X11_points_0 {l : Launch} {G : GX} {C : CM} {Q : Int32 → Mem → Prop} (a1 : Int32) (a2 : Int32) (X : XM) (h : SAT (f_X11_points a1 a2 X) (fun v c => Q v (C, c))) : AB l G (rmD 1) 0 0 mt_X11_points (ZQ G mt_X11_points Q) 0 [(0, .ref (gA G 10 0 0)), (1, .int a1), (2, .int a2)] [] (C, X) := by
  unfold f_X11_points at h
  refine ab_aloadn 0 dX11_points_0 rfl ?_
  refine f_gr (x := 6) (k2 := 10) (i2 := 0) (j2 := 2) ⟨by decide, by decide⟩ rfl rfl (Nat.le_of_ble_eq_true rfl) wd_406 rfl rfl dX11_points_1 ?_
  refine ab_sipush (v := 397) dX11_points_4 (by decide) ?_
  refine ab_iloadn 1 dX11_points_7 rfl ?_
  refine ab_iadd dX11_points_8 ?_
  refine ab_iloadn 2 dX11_points_9 rfl ?_
  refine fX_iast ⟨by decide, by decide⟩ rfl (fun _ => rfl) h dX11_points_10 (fun X1 h => ?_)
  refine ab_aloadn 0 dX11_points_11 rfl ?_
  refine f_gr (x := 6) (k2 := 10) (i2 := 0) (j2 := 2) ⟨by decide, by decide⟩ rfl rfl (Nat.le_of_ble_eq_true rfl) wd_406 rfl rfl dX11_points_12 ?_
  refine ab_sipush (v := 405) dX11_points_15 (by decide) ?_
  refine ab_iloadn 1 dX11_points_18 rfl ?_
  refine ab_iadd dX11_points_19 ?_
  refine ab_iconst (v := 1) dX11_points_20 (by decide) ?_
  refine fX_iast ⟨by decide, by decide⟩ rfl (fun _ => rfl) h dX11_points_21 (fun X2 h => ?_)
  exact fX_vret h rfl dX11_points_22
theorem ct_X11_points {l : Launch} {G : GX} {C : CM} {Q : Int32 → Mem → Prop} (a1 : Int32) (a2 : Int32) (X : XM) (h : SAT (f_X11_points a1 a2 X) (fun v c => Q v (C, c))) : CT l G 1 mt_X11_points [.ref (gA G 10 0 0), .int a1, .int a2] (C, X) Q := ct_of pn_X11 (Nat.le_of_ble_eq_true rfl) (t_X11_points_0 a1 a2 X h)
def f_X11_point (N : Nat) (a1 : Int32) (a2 : Int32) (X : XM) : Option (Int32 × XM) := bnd (stX X 0 0 0) (fun X1 => cal (f_X11_isOwner a1 X1) (fun v2 X3 => (if v2 = 0 then (rt 0 X3) else cal (f_X11_isIn a2 0 7 X3) (fun v5 X6 => (if v5 = 0 then (rt 0 X6) else cal (f_X11_keep N X6) (fun v8 X9 => cal (f_X11_points a1 a2 X9) (fun v10 X11 => (rt 1 X11))))))))
set_option maxRecDepth 8000 in
theorem t_X11_point_0 {l : Launch} {G : GX} {C : CM} {Q : Int32 → Mem → Prop} (N : Nat) (a1 : Int32) (a2 : Int32) (X : XM) (h : SAT (f_X11_point N a1 a2 X) (fun v c => Q v (C, c))) : AB l G (rmD 3) 0 0 mt_X11_point (ZQ G mt_X11_point Q) 0 [(0, .ref (gA G 10 0 0)), (1, .int a1), (2, .int a2)] [] (C, X) := by
  unfold f_X11_point at h
  refine ab_aloadn 0 dX11_point_0 rfl ?_
  refine ab_iconst (v := 0) dX11_point_1 (by decide) ?_
  refine fX_pi (x := 0) (ty := .int) ⟨by decide, by decide⟩ rfl rfl (Nat.le_of_ble_eq_true rfl) wd_344 rfl h rfl (by decide +kernel) rfl rfl dX11_point_2 (fun X1 h => ?_)
  refine ab_aloadn 0 dX11_point_5 rfl ?_
  refine ab_iloadn 1 dX11_point_6 rfl ?_
  refine fX_Vi (mtc := mt_X11_isOwner) (As := [.int a1]) h (fun Q h => ct_X11_isOwner a1 X1 h) ⟨by decide, by decide⟩ rfl rfl rfl mw_X11_isOwner wd_413 rfl rfl ⟨Nat.le_of_ble_eq_true rfl, Nat.le_of_ble_eq_true rfl⟩ ⟨Nat.zero_le _, Nat.zero_le _⟩ (Nat.le_of_ble_eq_true rfl) rfl dX11_point_7 (fun v2 X3 h => ?_)
  refine ab_if_eq (tgt := 23) dX11_point_10 (by decide) (fun hc4 => ?_) (fun hc4 => ?_)
  · have h := sat_t hc4 h
    refine ab_iconst (v := 0) dX11_point_23 (by decide) ?_
    exact fX_iret h rfl rfl dX11_point_24
  · have h := sat_f hc4 h
    refine ab_iloadn 2 dX11_point_13 rfl ?_
    refine ab_iconst (v := 0) dX11_point_14 (by decide) ?_
    refine ab_bipush (v := 7) dX11_point_15 (by decide) ?_
    refine fX_Si (mtc := mt_X11_isIn) (As := [.int a2, .int 0, .int 7]) h (fun Q h => ct_X11_isIn a2 0 7 X3 h) mw_X11_isIn wd_382 wd_383 rfl rfl ⟨Nat.le_of_ble_eq_true rfl, Nat.le_of_ble_eq_true rfl⟩ ⟨Nat.zero_le _, Nat.zero_le _⟩ (Nat.le_of_ble_eq_true rfl) rfl dX11_point_17 (fun v5 X6 h => ?_)
    refine ab_if_ne (tgt := 25) dX11_point_20 (by decide) (fun hc7 => ?_) (fun hc7 => ?_)
    · have h := sat_f hc7 h
      refine ab_aloadn 0 dX11_point_25 rfl ?_
      refine fX_Vv (mtc := mt_X11_keep) (As := []) h (fun Q h => ct_X11_keep N X6 h) ⟨by decide, by decide⟩ rfl rfl rfl mw_X11_keep wd_435 rfl rfl ⟨Nat.le_of_ble_eq_true rfl, Nat.le_of_ble_eq_true rfl⟩ ⟨Nat.zero_le _, Nat.zero_le _⟩ (Nat.le_of_ble_eq_true rfl) rfl dX11_point_26 (fun v8 X9 h => ?_)
      refine ab_aloadn 0 dX11_point_29 rfl ?_
      refine ab_iloadn 1 dX11_point_30 rfl ?_
      refine ab_iloadn 2 dX11_point_31 rfl ?_
      refine fX_Vv (mtc := mt_X11_points) (As := [.int a1, .int a2]) h (fun Q h => ct_X11_points a1 a2 X9 h) ⟨by decide, by decide⟩ rfl rfl rfl mw_X11_points wd_444 rfl rfl ⟨Nat.le_of_ble_eq_true rfl, Nat.le_of_ble_eq_true rfl⟩ ⟨Nat.zero_le _, Nat.zero_le _⟩ (Nat.le_of_ble_eq_true rfl) rfl dX11_point_32 (fun v10 X11 h => ?_)
      refine ab_iconst (v := 1) dX11_point_35 (by decide) ?_
      exact fX_iret h rfl rfl dX11_point_36
    · have h := sat_t hc7 h
      refine ab_iconst (v := 0) dX11_point_23 (by decide) ?_
      exact fX_iret h rfl rfl dX11_point_24
theorem ct_X11_point {l : Launch} {G : GX} {C : CM} {Q : Int32 → Mem → Prop} (N : Nat) (a1 : Int32) (a2 : Int32) (X : XM) (h : SAT (f_X11_point N a1 a2 X) (fun v c => Q v (C, c))) : CT l G 3 mt_X11_point [.ref (gA G 10 0 0), .int a1, .int a2] (C, X) Q := ct_of pn_X11 (Nat.le_of_ble_eq_true rfl) (t_X11_point_0 N a1 a2 X h)
def f_X11_sumOf_4 (N : Nat) (a1 : Int32) : Nat → Int32 → Int32 → XM → Option (Int32 × XM)
  | 0, _, _, _ => none
  | n + 1, a2, a3, X => ldA (X.1 2) 845 2 (fun v1 => (if v1 ≤ a3 then (rt a2 X) else ldA (X.1 2) 845 (a1 + a3) (fun v3 => (f_X11_sumOf_4 N a1 n (a2 + v3) (a3 + 1) X))))
def f_X11_sumOf (N : Nat) (a1 : Int32) (X : XM) : Option (Int32 × XM) := (f_X11_sumOf_4 N a1 N 0 0 X)
set_option maxRecDepth 8000 in
theorem t_X11_sumOf_4 {l : Launch} {G : GX} {C : CM} {Q : Int32 → Mem → Prop} (N : Nat) (a1 : Int32) : ∀ (n : Nat) (a2 : Int32) (a3 : Int32) (X : XM), SAT (f_X11_sumOf_4 N a1 n a2 a3 X) (fun v c => Q v (C, c)) → AB l G (rmD 1) 0 0 mt_X11_sumOf (ZQ G mt_X11_sumOf Q) 4 [(0, .ref (gA G 10 0 0)), (1, .int a1), (2, .int a2), (3, .int a3)] [] (C, X) := by
  intro n
  induction n with
  | zero => intro a2 a3 X h; exact h.elim
  | succ n ih =>
    intro a2 a3 X h
    rw [f_X11_sumOf_4] at h
    refine ab_iloadn 3 dX11_sumOf_4 rfl ?_
    refine ab_aloadn 0 dX11_sumOf_5 rfl ?_
    refine f_gr (x := 6) (k2 := 10) (i2 := 0) (j2 := 2) ⟨by decide, by decide⟩ rfl rfl (Nat.le_of_ble_eq_true rfl) wd_406 rfl rfl dX11_sumOf_6 ?_
    refine ab_iconst (v := 2) dX11_sumOf_9 (by decide) ?_
    refine fX_iald ⟨by decide, by decide⟩ rfl (fun _ => rfl) h dX11_sumOf_10 (fun v1 h => ?_)
    refine ab_icmp_ge (tgt := 31) dX11_sumOf_11 (by decide) (fun hc2 => ?_) (fun hc2 => ?_)
    · have h := sat_t hc2 h
      refine ab_iloadn 2 dX11_sumOf_31 rfl ?_
      exact fX_iret h rfl rfl dX11_sumOf_32
    · have h := sat_f hc2 h
      refine ab_iloadn 2 dX11_sumOf_14 rfl ?_
      refine ab_aloadn 0 dX11_sumOf_15 rfl ?_
      refine f_gr (x := 6) (k2 := 10) (i2 := 0) (j2 := 2) ⟨by decide, by decide⟩ rfl rfl (Nat.le_of_ble_eq_true rfl) wd_406 rfl rfl dX11_sumOf_16 ?_
      refine ab_iloadn 1 dX11_sumOf_19 rfl ?_
      refine ab_iloadn 3 dX11_sumOf_20 rfl ?_
      refine ab_iadd dX11_sumOf_21 ?_
      refine fX_iald ⟨by decide, by decide⟩ rfl (fun _ => rfl) h dX11_sumOf_22 (fun v3 h => ?_)
      refine ab_iadd dX11_sumOf_23 ?_
      refine ab_istoren (lv' := [(0, .ref (gA G 10 0 0)), (1, .int a1), (2, .int (a2 + v3)), (3, .int a3)]) dX11_sumOf_24 rfl (Nat.le_of_ble_eq_true rfl) rfl ?_
      refine ab_iinc (q := 3) (v := (a3 + 1)) (lv' := [(0, .ref (gA G 10 0 0)), (1, .int a1), (2, .int (a2 + v3)), (3, .int (a3 + 1))]) dX11_sumOf_25 rfl rfl rfl (Nat.le_of_ble_eq_true rfl) rfl ?_
      refine ab_goto (tgt := 4) dX11_sumOf_28 (by decide) ?_
      exact ih (a2 + v3) (a3 + 1) X h
set_option maxRecDepth 8000 in
theorem t_X11_sumOf_0 {l : Launch} {G : GX} {C : CM} {Q : Int32 → Mem → Prop} (N : Nat) (a1 : Int32) (X : XM) (h : SAT (f_X11_sumOf N a1 X) (fun v c => Q v (C, c))) : AB l G (rmD 1) 0 0 mt_X11_sumOf (ZQ G mt_X11_sumOf Q) 0 [(0, .ref (gA G 10 0 0)), (1, .int a1)] [] (C, X) := by
  unfold f_X11_sumOf at h
  refine ab_iconst (v := 0) dX11_sumOf_0 (by decide) ?_
  refine ab_istoren (lv' := [(0, .ref (gA G 10 0 0)), (1, .int a1), (2, .int 0)]) dX11_sumOf_1 rfl (Nat.le_of_ble_eq_true rfl) rfl ?_
  refine ab_iconst (v := 0) dX11_sumOf_2 (by decide) ?_
  refine ab_istoren (lv' := [(0, .ref (gA G 10 0 0)), (1, .int a1), (2, .int 0), (3, .int 0)]) dX11_sumOf_3 rfl (Nat.le_of_ble_eq_true rfl) rfl ?_
  exact t_X11_sumOf_4 N a1 N 0 0 X h
theorem ct_X11_sumOf {l : Launch} {G : GX} {C : CM} {Q : Int32 → Mem → Prop} (N : Nat) (a1 : Int32) (X : XM) (h : SAT (f_X11_sumOf N a1 X) (fun v c => Q v (C, c))) : CT l G 1 mt_X11_sumOf [.ref (gA G 10 0 0), .int a1] (C, X) Q := ct_of pn_X11 (Nat.le_of_ble_eq_true rfl) (t_X11_sumOf_0 N a1 X h)
def f_X11_now_9 (N : Nat) (a1 : Int32) : Nat → Int32 → Int32 → XM → Option (Int32 × XM)
  | 0, _, _, _ => none
  | n + 1, a2, a3, X => ldA (X.1 2) 845 3 (fun v1 => (if v1 ≤ a3 then (if a1 = 0 then ldA (X.1 2) 845 371 (fun v4 => (rt v4 X)) else if a1 = 1 then ldA (X.1 2) 845 372 (fun v6 => (rt v6 X)) else if a1 = 2 then cal (f_X11_sumOf N 373 X) (fun v8 X9 => (rt v8 X9)) else if a1 = 3 then cal (f_X11_sumOf N 381 X) (fun v11 X12 => (rt v11 X12)) else if a1 = 4 then cal (f_X11_fences N X) (fun v14 X15 => (rt v14 X15)) else if a1 = 5 then (rt a2 X) else if a1 = 6 then ldA (X.1 2) 845 541 (fun v18 => (rt (v18 - 1) X)) else if a1 = 7 then ldA (X.1 2) 845 542 (fun v20 => (rt v20 X)) else (rt (-1) X)) else ldA (X.1 2) 845 (429 + a3) (fun v21 => (f_X11_now_9 N a1 n (a2 + v21) (a3 + 1) X))))
def f_X11_now (N : Nat) (a1 : Int32) (X : XM) : Option (Int32 × XM) := bnd (stX X 0 0 0) (fun X1 => (f_X11_now_9 N a1 N 0 0 X1))
set_option maxRecDepth 8000 in
theorem t_X11_now_9 {l : Launch} {G : GX} {C : CM} {Q : Int32 → Mem → Prop} (N : Nat) (a1 : Int32) : ∀ (n : Nat) (a2 : Int32) (a3 : Int32) (X : XM), SAT (f_X11_now_9 N a1 n a2 a3 X) (fun v c => Q v (C, c)) → AB l G (rmD 2) 0 0 mt_X11_now (ZQ G mt_X11_now Q) 9 [(0, .ref (gA G 10 0 0)), (1, .int a1), (2, .int a2), (3, .int a3)] [] (C, X) := by
  intro n
  induction n with
  | zero => intro a2 a3 X h; exact h.elim
  | succ n ih =>
    intro a2 a3 X h
    rw [f_X11_now_9] at h
    refine ab_iloadn 3 dX11_now_9 rfl ?_
    refine ab_aloadn 0 dX11_now_10 rfl ?_
    refine f_gr (x := 6) (k2 := 10) (i2 := 0) (j2 := 2) ⟨by decide, by decide⟩ rfl rfl (Nat.le_of_ble_eq_true rfl) wd_406 rfl rfl dX11_now_11 ?_
    refine ab_iconst (v := 3) dX11_now_14 (by decide) ?_
    refine fX_iald ⟨by decide, by decide⟩ rfl (fun _ => rfl) h dX11_now_15 (fun v1 h => ?_)
    refine ab_icmp_ge (tgt := 38) dX11_now_16 (by decide) (fun hc2 => ?_) (fun hc2 => ?_)
    · have h := sat_t hc2 h
      refine ab_iloadn 1 dX11_now_38 rfl ?_
      by_cases hc3 : a1 = 0
      · have h := sat_t hc3 h
        refine ab_tin (tgt := 84) (off := 45) hc3 (by decide) (by decide) (by decide) (by decide) dX11_now_39 ?_
        refine ab_aloadn 0 dX11_now_84 rfl ?_
        refine f_gr (x := 6) (k2 := 10) (i2 := 0) (j2 := 2) ⟨by decide, by decide⟩ rfl rfl (Nat.le_of_ble_eq_true rfl) wd_406 rfl rfl dX11_now_85 ?_
        refine ab_sipush (v := 371) dX11_now_88 (by decide) ?_
        refine fX_iald ⟨by decide, by decide⟩ rfl (fun _ => rfl) h dX11_now_91 (fun v4 h => ?_)
        exact fX_iret h rfl rfl dX11_now_92
      have h := sat_f hc3 h
      by_cases hc5 : a1 = 1
      · have h := sat_t hc5 h
        refine ab_tin (tgt := 93) (off := 54) hc5 (by decide) (by decide) (by decide) (by decide) dX11_now_39 ?_
        refine ab_aloadn 0 dX11_now_93 rfl ?_
        refine f_gr (x := 6) (k2 := 10) (i2 := 0) (j2 := 2) ⟨by decide, by decide⟩ rfl rfl (Nat.le_of_ble_eq_true rfl) wd_406 rfl rfl dX11_now_94 ?_
        refine ab_sipush (v := 372) dX11_now_97 (by decide) ?_
        refine fX_iald ⟨by decide, by decide⟩ rfl (fun _ => rfl) h dX11_now_100 (fun v6 h => ?_)
        exact fX_iret h rfl rfl dX11_now_101
      have h := sat_f hc5 h
      by_cases hc7 : a1 = 2
      · have h := sat_t hc7 h
        refine ab_tin (tgt := 102) (off := 63) hc7 (by decide) (by decide) (by decide) (by decide) dX11_now_39 ?_
        refine ab_aloadn 0 dX11_now_102 rfl ?_
        refine ab_sipush (v := 373) dX11_now_103 (by decide) ?_
        refine fX_Vi (mtc := mt_X11_sumOf) (As := [.int 373]) h (fun Q h => ct_X11_sumOf N 373 X h) ⟨by decide, by decide⟩ rfl rfl rfl mw_X11_sumOf wd_445 rfl rfl ⟨Nat.le_of_ble_eq_true rfl, Nat.le_of_ble_eq_true rfl⟩ ⟨Nat.zero_le _, Nat.zero_le _⟩ (Nat.le_of_ble_eq_true rfl) rfl dX11_now_106 (fun v8 X9 h => ?_)
        exact fX_iret h rfl rfl dX11_now_109
      have h := sat_f hc7 h
      by_cases hc10 : a1 = 3
      · have h := sat_t hc10 h
        refine ab_tin (tgt := 110) (off := 71) hc10 (by decide) (by decide) (by decide) (by decide) dX11_now_39 ?_
        refine ab_aloadn 0 dX11_now_110 rfl ?_
        refine ab_sipush (v := 381) dX11_now_111 (by decide) ?_
        refine fX_Vi (mtc := mt_X11_sumOf) (As := [.int 381]) h (fun Q h => ct_X11_sumOf N 381 X h) ⟨by decide, by decide⟩ rfl rfl rfl mw_X11_sumOf wd_445 rfl rfl ⟨Nat.le_of_ble_eq_true rfl, Nat.le_of_ble_eq_true rfl⟩ ⟨Nat.zero_le _, Nat.zero_le _⟩ (Nat.le_of_ble_eq_true rfl) rfl dX11_now_114 (fun v11 X12 h => ?_)
        exact fX_iret h rfl rfl dX11_now_117
      have h := sat_f hc10 h
      by_cases hc13 : a1 = 4
      · have h := sat_t hc13 h
        refine ab_tin (tgt := 118) (off := 79) hc13 (by decide) (by decide) (by decide) (by decide) dX11_now_39 ?_
        refine ab_aloadn 0 dX11_now_118 rfl ?_
        refine fX_Vi (mtc := mt_X11_fences) (As := []) h (fun Q h => ct_X11_fences N X h) ⟨by decide, by decide⟩ rfl rfl rfl mw_X11_fences wd_440 rfl rfl ⟨Nat.le_of_ble_eq_true rfl, Nat.le_of_ble_eq_true rfl⟩ ⟨Nat.zero_le _, Nat.zero_le _⟩ (Nat.le_of_ble_eq_true rfl) rfl dX11_now_119 (fun v14 X15 h => ?_)
        exact fX_iret h rfl rfl dX11_now_122
      have h := sat_f hc13 h
      by_cases hc16 : a1 = 5
      · have h := sat_t hc16 h
        refine ab_tin (tgt := 123) (off := 84) hc16 (by decide) (by decide) (by decide) (by decide) dX11_now_39 ?_
        refine ab_iloadn 2 dX11_now_123 rfl ?_
        exact fX_iret h rfl rfl dX11_now_124
      have h := sat_f hc16 h
      by_cases hc17 : a1 = 6
      · have h := sat_t hc17 h
        refine ab_tin (tgt := 125) (off := 86) hc17 (by decide) (by decide) (by decide) (by decide) dX11_now_39 ?_
        refine ab_aloadn 0 dX11_now_125 rfl ?_
        refine f_gr (x := 6) (k2 := 10) (i2 := 0) (j2 := 2) ⟨by decide, by decide⟩ rfl rfl (Nat.le_of_ble_eq_true rfl) wd_406 rfl rfl dX11_now_126 ?_
        refine ab_sipush (v := 541) dX11_now_129 (by decide) ?_
        refine fX_iald ⟨by decide, by decide⟩ rfl (fun _ => rfl) h dX11_now_132 (fun v18 h => ?_)
        refine ab_iconst (v := 1) dX11_now_133 (by decide) ?_
        refine ab_isub dX11_now_134 ?_
        exact fX_iret h rfl rfl dX11_now_135
      have h := sat_f hc17 h
      by_cases hc19 : a1 = 7
      · have h := sat_t hc19 h
        refine ab_tin (tgt := 136) (off := 97) hc19 (by decide) (by decide) (by decide) (by decide) dX11_now_39 ?_
        refine ab_aloadn 0 dX11_now_136 rfl ?_
        refine f_gr (x := 6) (k2 := 10) (i2 := 0) (j2 := 2) ⟨by decide, by decide⟩ rfl rfl (Nat.le_of_ble_eq_true rfl) wd_406 rfl rfl dX11_now_137 ?_
        refine ab_sipush (v := 542) dX11_now_140 (by decide) ?_
        refine fX_iald ⟨by decide, by decide⟩ rfl (fun _ => rfl) h dX11_now_143 (fun v20 h => ?_)
        exact fX_iret h rfl rfl dX11_now_144
      have h := sat_f hc19 h
      refine ab_tout (tgt := 145) (by have := ne_toI hc3 (show Int32.toInt 0 = 0 by decide); have := ne_toI hc5 (show Int32.toInt 1 = 1 by decide); have := ne_toI hc7 (show Int32.toInt 2 = 2 by decide); have := ne_toI hc10 (show Int32.toInt 3 = 3 by decide); have := ne_toI hc13 (show Int32.toInt 4 = 4 by decide); have := ne_toI hc16 (show Int32.toInt 5 = 5 by decide); have := ne_toI hc17 (show Int32.toInt 6 = 6 by decide); have := ne_toI hc19 (show Int32.toInt 7 = 7 by decide); omega) (by decide) dX11_now_39 ?_
      refine ab_iconst (v := (-1)) dX11_now_145 (by decide) ?_
      exact fX_iret h rfl rfl dX11_now_146
    · have h := sat_f hc2 h
      refine ab_iloadn 2 dX11_now_19 rfl ?_
      refine ab_aloadn 0 dX11_now_20 rfl ?_
      refine f_gr (x := 6) (k2 := 10) (i2 := 0) (j2 := 2) ⟨by decide, by decide⟩ rfl rfl (Nat.le_of_ble_eq_true rfl) wd_406 rfl rfl dX11_now_21 ?_
      refine ab_sipush (v := 429) dX11_now_24 (by decide) ?_
      refine ab_iloadn 3 dX11_now_27 rfl ?_
      refine ab_iadd dX11_now_28 ?_
      refine fX_iald ⟨by decide, by decide⟩ rfl (fun _ => rfl) h dX11_now_29 (fun v21 h => ?_)
      refine ab_iadd dX11_now_30 ?_
      refine ab_istoren (lv' := [(0, .ref (gA G 10 0 0)), (1, .int a1), (2, .int (a2 + v21)), (3, .int a3)]) dX11_now_31 rfl (Nat.le_of_ble_eq_true rfl) rfl ?_
      refine ab_iinc (q := 3) (v := (a3 + 1)) (lv' := [(0, .ref (gA G 10 0 0)), (1, .int a1), (2, .int (a2 + v21)), (3, .int (a3 + 1))]) dX11_now_32 rfl rfl rfl (Nat.le_of_ble_eq_true rfl) rfl ?_
      refine ab_goto (tgt := 9) dX11_now_35 (by decide) ?_
      exact ih (a2 + v21) (a3 + 1) X h
set_option maxRecDepth 8000 in
theorem t_X11_now_0 {l : Launch} {G : GX} {C : CM} {Q : Int32 → Mem → Prop} (N : Nat) (a1 : Int32) (X : XM) (h : SAT (f_X11_now N a1 X) (fun v c => Q v (C, c))) : AB l G (rmD 2) 0 0 mt_X11_now (ZQ G mt_X11_now Q) 0 [(0, .ref (gA G 10 0 0)), (1, .int a1)] [] (C, X) := by
  unfold f_X11_now at h
  refine ab_aloadn 0 dX11_now_0 rfl ?_
  refine ab_iconst (v := 0) dX11_now_1 (by decide) ?_
  refine fX_pi (x := 0) (ty := .int) ⟨by decide, by decide⟩ rfl rfl (Nat.le_of_ble_eq_true rfl) wd_344 rfl h rfl (by decide +kernel) rfl rfl dX11_now_2 (fun X1 h => ?_)
  refine ab_iconst (v := 0) dX11_now_5 (by decide) ?_
  refine ab_istoren (lv' := [(0, .ref (gA G 10 0 0)), (1, .int a1), (2, .int 0)]) dX11_now_6 rfl (Nat.le_of_ble_eq_true rfl) rfl ?_
  refine ab_iconst (v := 0) dX11_now_7 (by decide) ?_
  refine ab_istoren (lv' := [(0, .ref (gA G 10 0 0)), (1, .int a1), (2, .int 0), (3, .int 0)]) dX11_now_8 rfl (Nat.le_of_ble_eq_true rfl) rfl ?_
  exact t_X11_now_9 N a1 N 0 0 X1 h
theorem ct_X11_now {l : Launch} {G : GX} {C : CM} {Q : Int32 → Mem → Prop} (N : Nat) (a1 : Int32) (X : XM) (h : SAT (f_X11_now N a1 X) (fun v c => Q v (C, c))) : CT l G 2 mt_X11_now [.ref (gA G 10 0 0), .int a1] (C, X) Q := ct_of pn_X11 (Nat.le_of_ble_eq_true rfl) (t_X11_now_0 N a1 X h)
def f_X11_wealth (a1 : Int32) (X : XM) : Option (Int32 × XM) := ldA (X.1 2) 845 (373 + a1) (fun v1 => ldA (X.1 2) 845 (381 + a1) (fun v2 => (rt (v1 + v2) X)))
set_option maxRecDepth 8000 in
theorem t_X11_wealth_0 {l : Launch} {G : GX} {C : CM} {Q : Int32 → Mem → Prop} (a1 : Int32) (X : XM) (h : SAT (f_X11_wealth a1 X) (fun v c => Q v (C, c))) : AB l G (rmD 1) 0 0 mt_X11_wealth (ZQ G mt_X11_wealth Q) 0 [(0, .ref (gA G 10 0 0)), (1, .int a1)] [] (C, X) := by
  unfold f_X11_wealth at h
  refine ab_aloadn 0 dX11_wealth_0 rfl ?_
  refine f_gr (x := 6) (k2 := 10) (i2 := 0) (j2 := 2) ⟨by decide, by decide⟩ rfl rfl (Nat.le_of_ble_eq_true rfl) wd_406 rfl rfl dX11_wealth_1 ?_
  refine ab_sipush (v := 373) dX11_wealth_4 (by decide) ?_
  refine ab_iloadn 1 dX11_wealth_7 rfl ?_
  refine ab_iadd dX11_wealth_8 ?_
  refine fX_iald ⟨by decide, by decide⟩ rfl (fun _ => rfl) h dX11_wealth_9 (fun v1 h => ?_)
  refine ab_aloadn 0 dX11_wealth_10 rfl ?_
  refine f_gr (x := 6) (k2 := 10) (i2 := 0) (j2 := 2) ⟨by decide, by decide⟩ rfl rfl (Nat.le_of_ble_eq_true rfl) wd_406 rfl rfl dX11_wealth_11 ?_
  refine ab_sipush (v := 381) dX11_wealth_14 (by decide) ?_
  refine ab_iloadn 1 dX11_wealth_17 rfl ?_
  refine ab_iadd dX11_wealth_18 ?_
  refine fX_iald ⟨by decide, by decide⟩ rfl (fun _ => rfl) h dX11_wealth_19 (fun v2 h => ?_)
  refine ab_iadd dX11_wealth_20 ?_
  exact fX_iret h rfl rfl dX11_wealth_21
theorem ct_X11_wealth {l : Launch} {G : GX} {C : CM} {Q : Int32 → Mem → Prop} (a1 : Int32) (X : XM) (h : SAT (f_X11_wealth a1 X) (fun v c => Q v (C, c))) : CT l G 1 mt_X11_wealth [.ref (gA G 10 0 0), .int a1] (C, X) Q := ct_of pn_X11 (Nat.le_of_ble_eq_true rfl) (t_X11_wealth_0 a1 X h)
def f_X11_atLast (N : Nat) (a1 : Int32) (X : XM) : Option (Int32 × XM) := cal (f_X11_goes N 48 X) (fun v1 X2 => cal (f_X11_wealth a1 X2) (fun v3 X4 => (rt v3 X4)))
set_option maxRecDepth 8000 in
theorem t_X11_atLast_0 {l : Launch} {G : GX} {C : CM} {Q : Int32 → Mem → Prop} (N : Nat) (a1 : Int32) (X : XM) (h : SAT (f_X11_atLast N a1 X) (fun v c => Q v (C, c))) : AB l G (rmD 7) 0 0 mt_X11_atLast (ZQ G mt_X11_atLast Q) 0 [(0, .ref (gA G 10 0 0)), (1, .int a1)] [] (C, X) := by
  unfold f_X11_atLast at h
  refine ab_aloadn 0 dX11_atLast_0 rfl ?_
  refine ab_bipush (v := 48) dX11_atLast_1 (by decide) ?_
  refine fX_Vi (mtc := mt_X11_goes) (As := [.int 48]) h (fun Q h => ct_X11_goes N 48 X h) ⟨by decide, by decide⟩ rfl rfl rfl mw_X11_goes wd_438 rfl rfl ⟨Nat.le_of_ble_eq_true rfl, Nat.le_of_ble_eq_true rfl⟩ ⟨Nat.zero_le _, Nat.zero_le _⟩ (Nat.le_of_ble_eq_true rfl) rfl dX11_atLast_3 (fun v1 X2 h => ?_)
  refine ab_pop dX11_atLast_6 rfl ?_
  refine ab_aloadn 0 dX11_atLast_7 rfl ?_
  refine ab_iloadn 1 dX11_atLast_8 rfl ?_
  refine fX_Vi (mtc := mt_X11_wealth) (As := [.int a1]) h (fun Q h => ct_X11_wealth a1 X2 h) ⟨by decide, by decide⟩ rfl rfl rfl mw_X11_wealth wd_446 rfl rfl ⟨Nat.le_of_ble_eq_true rfl, Nat.le_of_ble_eq_true rfl⟩ ⟨Nat.zero_le _, Nat.zero_le _⟩ (Nat.le_of_ble_eq_true rfl) rfl dX11_atLast_9 (fun v3 X4 h => ?_)
  exact fX_iret h rfl rfl dX11_atLast_12
theorem ct_X11_atLast {l : Launch} {G : GX} {C : CM} {Q : Int32 → Mem → Prop} (N : Nat) (a1 : Int32) (X : XM) (h : SAT (f_X11_atLast N a1 X) (fun v c => Q v (C, c))) : CT l G 7 mt_X11_atLast [.ref (gA G 10 0 0), .int a1] (C, X) Q := ct_of pn_X11 (Nat.le_of_ble_eq_true rfl) (t_X11_atLast_0 N a1 X h)
def f_X11_fence_137 (N : Nat) (a3 : Int32) (X : XM) : Option (Int32 × XM) := (rt a3 X)
def f_X11_fence_46 (N : Nat) (a1 : Int32) (a2 : Int32) : Nat → Int32 → Int32 → Int32 → XM → Option (Int32 × XM)
  | 0, _, _, _, _ => none
  | n + 1, a3, a4, a5, X => (if 100 ≤ a5 then (if a3 < 0 then (f_X11_fence_137 N a3 X) else bnd (stX X 0 34 (a4 - a2)) (fun X3 => bnd (stX X3 0 35 1) (fun X4 => (f_X11_fence_137 N a3 X4)))) else cal (f_X11_isCell a5 X) (fun v5 X6 => (if v5 = 0 then (f_X11_fence_46 N a1 a2 n a3 a4 (a5 + 1) X6) else cal (f_X11_isBare N a5 X6) (fun v8 X9 => (if v8 = 0 then (f_X11_fence_46 N a1 a2 n a3 a4 (a5 + 1) X9) else sxA X9 2 845 (441 + a5) 1 (fun X11 => cal (f_X11_atLast N a1 X11) (fun v12 X13 => cal (f_X11_back N X13) (fun v14 X15 => (if a4 < v12 then (f_X11_fence_46 N a1 a2 n a5 v12 (a5 + 1) X15) else (f_X11_fence_46 N a1 a2 n a3 a4 (a5 + 1) X15))))))))))
def f_X11_fence (N : Nat) (a1 : Int32) (X : XM) : Option (Int32 × XM) := bnd (stX X 0 0 0) (fun X1 => cal (f_X11_isOwner a1 X1) (fun v2 X3 => (if v2 = 0 then (rt (-1) X3) else cal (f_X11_fences N X3) (fun v5 X6 => (if v5 = 12 then (rt (-1) X6) else cal (f_X11_tries N X6) (fun v8 X9 => cal (f_X11_atLast N a1 X9) (fun v10 X11 => cal (f_X11_back N X11) (fun v12 X13 => (f_X11_fence_46 N a1 v10 N (-1) v10 0 X13)))))))))
set_option maxRecDepth 8000 in
theorem t_X11_fence_137 {l : Launch} {G : GX} {C : CM} {Q : Int32 → Mem → Prop} (N : Nat) (a3 : Int32) (X : XM) (h : SAT (f_X11_fence_137 N a3 X) (fun v c => Q v (C, c))) : AB l G (rmD 8) 0 0 mt_X11_fence (ZQ G mt_X11_fence Q) 137 [(3, .int a3)] [] (C, X) := by
  unfold f_X11_fence_137 at h
  refine ab_iloadn 0 dX11_fence_137 rfl ?_
  exact fX_iret h rfl rfl dX11_fence_138
set_option maxRecDepth 8000 in
theorem t_X11_fence_46 {l : Launch} {G : GX} {C : CM} {Q : Int32 → Mem → Prop} (N : Nat) (a1 : Int32) (a2 : Int32) : ∀ (n : Nat) (a3 : Int32) (a4 : Int32) (a5 : Int32) (X : XM), SAT (f_X11_fence_46 N a1 a2 n a3 a4 a5 X) (fun v c => Q v (C, c)) → AB l G (rmD 8) 0 0 mt_X11_fence (ZQ G mt_X11_fence Q) 46 [(0, .ref (gA G 10 0 0)), (1, .int a1), (2, .int a2), (3, .int a3), (4, .int a4), (5, .int a5)] [] (C, X) := by
  intro n
  induction n with
  | zero => intro a3 a4 a5 X h; exact h.elim
  | succ n ih =>
    intro a3 a4 a5 X h
    rw [f_X11_fence_46] at h
    refine ab_iload 5 dX11_fence_46 rfl ?_
    refine ab_bipush (v := 100) dX11_fence_48 (by decide) ?_
    refine ab_icmp_ge (tgt := 120) dX11_fence_50 (by decide) (fun hc1 => ?_) (fun hc1 => ?_)
    · have h := sat_t hc1 h
      refine ab_iloadn 3 dX11_fence_120 rfl ?_
      refine ab_if_lt (tgt := 137) dX11_fence_121 (by decide) (fun hc2 => ?_) (fun hc2 => ?_)
      · have h := sat_t hc2 h
        refine ab_sub [3] rfl ?_
        exact t_X11_fence_137 N a3 X h
      · have h := sat_f hc2 h
        refine ab_aloadn 0 dX11_fence_124 rfl ?_
        refine ab_iload 4 dX11_fence_125 rfl ?_
        refine ab_iloadn 2 dX11_fence_127 rfl ?_
        refine ab_isub dX11_fence_128 ?_
        refine fX_pi (x := 34) (ty := .int) ⟨by decide, by decide⟩ rfl rfl (Nat.le_of_ble_eq_true rfl) wd_448 rfl h rfl (by decide +kernel) rfl rfl dX11_fence_129 (fun X3 h => ?_)
        refine ab_aloadn 0 dX11_fence_132 rfl ?_
        refine ab_iconst (v := 1) dX11_fence_133 (by decide) ?_
        refine fX_pi (x := 35) (ty := .boolean) ⟨by decide, by decide⟩ rfl rfl (Nat.le_of_ble_eq_true rfl) wd_449 rfl h rfl (by decide +kernel) rfl rfl dX11_fence_134 (fun X4 h => ?_)
        refine ab_sub [3] rfl ?_
        exact t_X11_fence_137 N a3 X4 h
    · have h := sat_f hc1 h
      refine ab_aloadn 0 dX11_fence_53 rfl ?_
      refine ab_iload 5 dX11_fence_54 rfl ?_
      refine fX_Vi (mtc := mt_X11_isCell) (As := [.int a5]) h (fun Q h => ct_X11_isCell a5 X h) ⟨by decide, by decide⟩ rfl rfl rfl mw_X11_isCell wd_409 rfl rfl ⟨Nat.le_of_ble_eq_true rfl, Nat.le_of_ble_eq_true rfl⟩ ⟨Nat.zero_le _, Nat.zero_le _⟩ (Nat.le_of_ble_eq_true rfl) rfl dX11_fence_56 (fun v5 X6 h => ?_)
      refine ab_if_eq (tgt := 114) dX11_fence_59 (by decide) (fun hc7 => ?_) (fun hc7 => ?_)
      · have h := sat_t hc7 h
        refine ab_iinc (q := 5) (v := (a5 + 1)) (lv' := [(0, .ref (gA G 10 0 0)), (1, .int a1), (2, .int a2), (3, .int a3), (4, .int a4), (5, .int (a5 + 1))]) dX11_fence_114 rfl rfl rfl (Nat.le_of_ble_eq_true rfl) rfl ?_
        refine ab_goto (tgt := 46) dX11_fence_117 (by decide) ?_
        exact ih a3 a4 (a5 + 1) X6 h
      · have h := sat_f hc7 h
        refine ab_aloadn 0 dX11_fence_62 rfl ?_
        refine ab_iload 5 dX11_fence_63 rfl ?_
        refine fX_Vi (mtc := mt_X11_isBare) (As := [.int a5]) h (fun Q h => ct_X11_isBare N a5 X6 h) ⟨by decide, by decide⟩ rfl rfl rfl mw_X11_isBare wd_439 rfl rfl ⟨Nat.le_of_ble_eq_true rfl, Nat.le_of_ble_eq_true rfl⟩ ⟨Nat.zero_le _, Nat.zero_le _⟩ (Nat.le_of_ble_eq_true rfl) rfl dX11_fence_65 (fun v8 X9 h => ?_)
        refine ab_if_ne (tgt := 74) dX11_fence_68 (by decide) (fun hc10 => ?_) (fun hc10 => ?_)
        · have h := sat_f hc10 h
          refine ab_aloadn 0 dX11_fence_74 rfl ?_
          refine f_gr (x := 6) (k2 := 10) (i2 := 0) (j2 := 2) ⟨by decide, by decide⟩ rfl rfl (Nat.le_of_ble_eq_true rfl) wd_406 rfl rfl dX11_fence_75 ?_
          refine ab_sipush (v := 441) dX11_fence_78 (by decide) ?_
          refine ab_iload 5 dX11_fence_81 rfl ?_
          refine ab_iadd dX11_fence_83 ?_
          refine ab_iconst (v := 1) dX11_fence_84 (by decide) ?_
          refine fX_iast ⟨by decide, by decide⟩ rfl (fun _ => rfl) h dX11_fence_85 (fun X11 h => ?_)
          refine ab_aloadn 0 dX11_fence_86 rfl ?_
          refine ab_iloadn 1 dX11_fence_87 rfl ?_
          refine fX_Vi (mtc := mt_X11_atLast) (As := [.int a1]) h (fun Q h => ct_X11_atLast N a1 X11 h) ⟨by decide, by decide⟩ rfl rfl rfl mw_X11_atLast wd_447 rfl rfl ⟨Nat.le_of_ble_eq_true rfl, Nat.le_of_ble_eq_true rfl⟩ ⟨Nat.zero_le _, Nat.zero_le _⟩ (Nat.le_of_ble_eq_true rfl) rfl dX11_fence_88 (fun v12 X13 h => ?_)
          refine ab_istore (lv' := [(0, .ref (gA G 10 0 0)), (1, .int a1), (2, .int a2), (3, .int a3), (4, .int a4), (5, .int a5), (6, .int v12)]) dX11_fence_91 rfl (Nat.le_of_ble_eq_true rfl) rfl ?_
          refine ab_aloadn 0 dX11_fence_93 rfl ?_
          refine fX_Vv (mtc := mt_X11_back) (As := []) h (fun Q h => ct_X11_back N X13 h) ⟨by decide, by decide⟩ rfl rfl rfl mw_X11_back wd_428 rfl rfl ⟨Nat.le_of_ble_eq_true rfl, Nat.le_of_ble_eq_true rfl⟩ ⟨Nat.zero_le _, Nat.zero_le _⟩ (Nat.le_of_ble_eq_true rfl) rfl dX11_fence_94 (fun v14 X15 h => ?_)
          refine ab_iload 6 dX11_fence_97 rfl ?_
          refine ab_iload 4 dX11_fence_99 rfl ?_
          refine ab_icmp_gt (tgt := 107) dX11_fence_101 (by decide) (fun hc16 => ?_) (fun hc16 => ?_)
          · have h := sat_t hc16 h
            refine ab_iload 6 dX11_fence_107 rfl ?_
            refine ab_istore (lv' := [(0, .ref (gA G 10 0 0)), (1, .int a1), (2, .int a2), (3, .int a3), (4, .int v12), (5, .int a5), (6, .int v12)]) dX11_fence_109 rfl (Nat.le_of_ble_eq_true rfl) rfl ?_
            refine ab_iload 5 dX11_fence_111 rfl ?_
            refine ab_istoren (lv' := [(0, .ref (gA G 10 0 0)), (1, .int a1), (2, .int a2), (3, .int a5), (4, .int v12), (5, .int a5), (6, .int v12)]) dX11_fence_113 rfl (Nat.le_of_ble_eq_true rfl) rfl ?_
            refine ab_iinc (q := 5) (v := (a5 + 1)) (lv' := [(0, .ref (gA G 10 0 0)), (1, .int a1), (2, .int a2), (3, .int a5), (4, .int v12), (5, .int (a5 + 1)), (6, .int v12)]) dX11_fence_114 rfl rfl rfl (Nat.le_of_ble_eq_true rfl) rfl ?_
            refine ab_goto (tgt := 46) dX11_fence_117 (by decide) ?_
            refine ab_sub [0, 1, 2, 3, 4, 5] rfl ?_
            exact ih a5 v12 (a5 + 1) X15 h
          · have h := sat_f hc16 h
            refine ab_goto (tgt := 114) dX11_fence_104 (by decide) ?_
            refine ab_iinc (q := 5) (v := (a5 + 1)) (lv' := [(0, .ref (gA G 10 0 0)), (1, .int a1), (2, .int a2), (3, .int a3), (4, .int a4), (5, .int (a5 + 1)), (6, .int v12)]) dX11_fence_114 rfl rfl rfl (Nat.le_of_ble_eq_true rfl) rfl ?_
            refine ab_goto (tgt := 46) dX11_fence_117 (by decide) ?_
            refine ab_sub [0, 1, 2, 3, 4, 5] rfl ?_
            exact ih a3 a4 (a5 + 1) X15 h
        · have h := sat_t hc10 h
          refine ab_goto (tgt := 114) dX11_fence_71 (by decide) ?_
          refine ab_iinc (q := 5) (v := (a5 + 1)) (lv' := [(0, .ref (gA G 10 0 0)), (1, .int a1), (2, .int a2), (3, .int a3), (4, .int a4), (5, .int (a5 + 1))]) dX11_fence_114 rfl rfl rfl (Nat.le_of_ble_eq_true rfl) rfl ?_
          refine ab_goto (tgt := 46) dX11_fence_117 (by decide) ?_
          exact ih a3 a4 (a5 + 1) X9 h
set_option maxRecDepth 8000 in
theorem t_X11_fence_0 {l : Launch} {G : GX} {C : CM} {Q : Int32 → Mem → Prop} (N : Nat) (a1 : Int32) (X : XM) (h : SAT (f_X11_fence N a1 X) (fun v c => Q v (C, c))) : AB l G (rmD 8) 0 0 mt_X11_fence (ZQ G mt_X11_fence Q) 0 [(0, .ref (gA G 10 0 0)), (1, .int a1)] [] (C, X) := by
  unfold f_X11_fence at h
  refine ab_aloadn 0 dX11_fence_0 rfl ?_
  refine ab_iconst (v := 0) dX11_fence_1 (by decide) ?_
  refine fX_pi (x := 0) (ty := .int) ⟨by decide, by decide⟩ rfl rfl (Nat.le_of_ble_eq_true rfl) wd_344 rfl h rfl (by decide +kernel) rfl rfl dX11_fence_2 (fun X1 h => ?_)
  refine ab_aloadn 0 dX11_fence_5 rfl ?_
  refine ab_iloadn 1 dX11_fence_6 rfl ?_
  refine fX_Vi (mtc := mt_X11_isOwner) (As := [.int a1]) h (fun Q h => ct_X11_isOwner a1 X1 h) ⟨by decide, by decide⟩ rfl rfl rfl mw_X11_isOwner wd_413 rfl rfl ⟨Nat.le_of_ble_eq_true rfl, Nat.le_of_ble_eq_true rfl⟩ ⟨Nat.zero_le _, Nat.zero_le _⟩ (Nat.le_of_ble_eq_true rfl) rfl dX11_fence_7 (fun v2 X3 h => ?_)
  refine ab_if_eq (tgt := 22) dX11_fence_10 (by decide) (fun hc4 => ?_) (fun hc4 => ?_)
  · have h := sat_t hc4 h
    refine ab_iconst (v := (-1)) dX11_fence_22 (by decide) ?_
    exact fX_iret h rfl rfl dX11_fence_23
  · have h := sat_f hc4 h
    refine ab_aloadn 0 dX11_fence_13 rfl ?_
    refine fX_Vi (mtc := mt_X11_fences) (As := []) h (fun Q h => ct_X11_fences N X3 h) ⟨by decide, by decide⟩ rfl rfl rfl mw_X11_fences wd_440 rfl rfl ⟨Nat.le_of_ble_eq_true rfl, Nat.le_of_ble_eq_true rfl⟩ ⟨Nat.zero_le _, Nat.zero_le _⟩ (Nat.le_of_ble_eq_true rfl) rfl dX11_fence_14 (fun v5 X6 h => ?_)
    refine ab_bipush (v := 12) dX11_fence_17 (by decide) ?_
    refine ab_icmp_ne (tgt := 24) dX11_fence_19 (by decide) (fun hc7 => ?_) (fun hc7 => ?_)
    · have h := sat_f hc7 h
      refine ab_aloadn 0 dX11_fence_24 rfl ?_
      refine fX_Vv (mtc := mt_X11_tries) (As := []) h (fun Q h => ct_X11_tries N X6 h) ⟨by decide, by decide⟩ rfl rfl rfl mw_X11_tries wd_424 rfl rfl ⟨Nat.le_of_ble_eq_true rfl, Nat.le_of_ble_eq_true rfl⟩ ⟨Nat.zero_le _, Nat.zero_le _⟩ (Nat.le_of_ble_eq_true rfl) rfl dX11_fence_25 (fun v8 X9 h => ?_)
      refine ab_aloadn 0 dX11_fence_28 rfl ?_
      refine ab_iloadn 1 dX11_fence_29 rfl ?_
      refine fX_Vi (mtc := mt_X11_atLast) (As := [.int a1]) h (fun Q h => ct_X11_atLast N a1 X9 h) ⟨by decide, by decide⟩ rfl rfl rfl mw_X11_atLast wd_447 rfl rfl ⟨Nat.le_of_ble_eq_true rfl, Nat.le_of_ble_eq_true rfl⟩ ⟨Nat.zero_le _, Nat.zero_le _⟩ (Nat.le_of_ble_eq_true rfl) rfl dX11_fence_30 (fun v10 X11 h => ?_)
      refine ab_istoren (lv' := [(0, .ref (gA G 10 0 0)), (1, .int a1), (2, .int v10)]) dX11_fence_33 rfl (Nat.le_of_ble_eq_true rfl) rfl ?_
      refine ab_aloadn 0 dX11_fence_34 rfl ?_
      refine fX_Vv (mtc := mt_X11_back) (As := []) h (fun Q h => ct_X11_back N X11 h) ⟨by decide, by decide⟩ rfl rfl rfl mw_X11_back wd_428 rfl rfl ⟨Nat.le_of_ble_eq_true rfl, Nat.le_of_ble_eq_true rfl⟩ ⟨Nat.zero_le _, Nat.zero_le _⟩ (Nat.le_of_ble_eq_true rfl) rfl dX11_fence_35 (fun v12 X13 h => ?_)
      refine ab_iconst (v := (-1)) dX11_fence_38 (by decide) ?_
      refine ab_istoren (lv' := [(0, .ref (gA G 10 0 0)), (1, .int a1), (2, .int v10), (3, .int (-1))]) dX11_fence_39 rfl (Nat.le_of_ble_eq_true rfl) rfl ?_
      refine ab_iloadn 2 dX11_fence_40 rfl ?_
      refine ab_istore (lv' := [(0, .ref (gA G 10 0 0)), (1, .int a1), (2, .int v10), (3, .int (-1)), (4, .int v10)]) dX11_fence_41 rfl (Nat.le_of_ble_eq_true rfl) rfl ?_
      refine ab_iconst (v := 0) dX11_fence_43 (by decide) ?_
      refine ab_istore (lv' := [(0, .ref (gA G 10 0 0)), (1, .int a1), (2, .int v10), (3, .int (-1)), (4, .int v10), (5, .int 0)]) dX11_fence_44 rfl (Nat.le_of_ble_eq_true rfl) rfl ?_
      exact t_X11_fence_46 N a1 v10 N (-1) v10 0 X13 h
    · have h := sat_t hc7 h
      refine ab_iconst (v := (-1)) dX11_fence_22 (by decide) ?_
      exact fX_iret h rfl rfl dX11_fence_23
theorem ct_X11_fence {l : Launch} {G : GX} {C : CM} {Q : Int32 → Mem → Prop} (N : Nat) (a1 : Int32) (X : XM) (h : SAT (f_X11_fence N a1 X) (fun v c => Q v (C, c))) : CT l G 8 mt_X11_fence [.ref (gA G 10 0 0), .int a1] (C, X) Q := ct_of pn_X11 (Nat.le_of_ble_eq_true rfl) (t_X11_fence_0 N a1 X h)
def f_X11_more (X : XM) : Option (Int32 × XM) := bnd (stX X 0 0 0) (fun X1 => (if (X1.1 0 35) = 0 then (rt (-1) X1) else (rt (X1.1 0 34) X1)))
set_option maxRecDepth 8000 in
theorem t_X11_more_0 {l : Launch} {G : GX} {C : CM} {Q : Int32 → Mem → Prop} (X : XM) (h : SAT (f_X11_more X) (fun v c => Q v (C, c))) : AB l G (rmD 1) 0 0 mt_X11_more (ZQ G mt_X11_more Q) 0 [(0, .ref (gA G 10 0 0))] [] (C, X) := by
  unfold f_X11_more at h
  refine ab_aloadn 0 dX11_more_0 rfl ?_
  refine ab_iconst (v := 0) dX11_more_1 (by decide) ?_
  refine fX_pi (x := 0) (ty := .int) ⟨by decide, by decide⟩ rfl rfl (Nat.le_of_ble_eq_true rfl) wd_344 rfl h rfl (by decide +kernel) rfl rfl dX11_more_2 (fun X1 h => ?_)
  refine ab_aloadn 0 dX11_more_5 rfl ?_
  refine fX_gi (x := 35) ⟨by decide, by decide⟩ rfl rfl (Nat.le_of_ble_eq_true rfl) wd_449 rfl dX11_more_6 ?_
  refine ab_if_eq (tgt := 19) dX11_more_9 (by decide) (fun hc2 => ?_) (fun hc2 => ?_)
  · have h := sat_t hc2 h
    refine ab_iconst (v := (-1)) dX11_more_19 (by decide) ?_
    exact fX_iret h rfl rfl dX11_more_20
  · have h := sat_f hc2 h
    refine ab_aloadn 0 dX11_more_12 rfl ?_
    refine fX_gi (x := 34) ⟨by decide, by decide⟩ rfl rfl (Nat.le_of_ble_eq_true rfl) wd_448 rfl dX11_more_13 ?_
    refine ab_goto (tgt := 20) dX11_more_16 (by decide) ?_
    exact fX_iret h rfl rfl dX11_more_20
theorem ct_X11_more {l : Launch} {G : GX} {C : CM} {Q : Int32 → Mem → Prop} (X : XM) (h : SAT (f_X11_more X) (fun v c => Q v (C, c))) : CT l G 1 mt_X11_more [.ref (gA G 10 0 0)] (C, X) Q := ct_of pn_X11 (Nat.le_of_ble_eq_true rfl) (t_X11_more_0 X h)
def f_X11_plotters_4 (N : Nat) : Nat → Int32 → Int32 → XM → Option (Int32 × XM)
  | 0, _, _, _ => none
  | n + 1, a1, a2, X => ldA (X.1 2) 845 2 (fun v1 => (if v1 ≤ a2 then (rt a1 X) else ldA (X.1 2) 845 (55 + a2) (fun v3 => (if v3 ≤ 0 then (f_X11_plotters_4 N n a1 (a2 + 1) X) else ldA (X.1 2) 845 (55 + a2) (fun v5 => cal (f_X11_isBare N (v5 - 1) X) (fun v6 X7 => (if v6 = 0 then (f_X11_plotters_4 N n a1 (a2 + 1) X7) else (f_X11_plotters_4 N n (a1 ||| ((1 : Int32) <<< (a2 &&& 31))) (a2 + 1) X7))))))))
def f_X11_plotters (N : Nat) (X : XM) : Option (Int32 × XM) := (f_X11_plotters_4 N N 0 0 X)
set_option maxRecDepth 8000 in
theorem t_X11_plotters_4 {l : Launch} {G : GX} {C : CM} {Q : Int32 → Mem → Prop} (N : Nat) : ∀ (n : Nat) (a1 : Int32) (a2 : Int32) (X : XM), SAT (f_X11_plotters_4 N n a1 a2 X) (fun v c => Q v (C, c)) → AB l G (rmD 3) 0 0 mt_X11_plotters (ZQ G mt_X11_plotters Q) 4 [(0, .ref (gA G 10 0 0)), (1, .int a1), (2, .int a2)] [] (C, X) := by
  intro n
  induction n with
  | zero => intro a1 a2 X h; exact h.elim
  | succ n ih =>
    intro a1 a2 X h
    rw [f_X11_plotters_4] at h
    refine ab_iloadn 2 dX11_plotters_4 rfl ?_
    refine ab_aloadn 0 dX11_plotters_5 rfl ?_
    refine f_gr (x := 6) (k2 := 10) (i2 := 0) (j2 := 2) ⟨by decide, by decide⟩ rfl rfl (Nat.le_of_ble_eq_true rfl) wd_406 rfl rfl dX11_plotters_6 ?_
    refine ab_iconst (v := 2) dX11_plotters_9 (by decide) ?_
    refine fX_iald ⟨by decide, by decide⟩ rfl (fun _ => rfl) h dX11_plotters_10 (fun v1 h => ?_)
    refine ab_icmp_ge (tgt := 56) dX11_plotters_11 (by decide) (fun hc2 => ?_) (fun hc2 => ?_)
    · have h := sat_t hc2 h
      refine ab_iloadn 1 dX11_plotters_56 rfl ?_
      exact fX_iret h rfl rfl dX11_plotters_57
    · have h := sat_f hc2 h
      refine ab_aloadn 0 dX11_plotters_14 rfl ?_
      refine f_gr (x := 6) (k2 := 10) (i2 := 0) (j2 := 2) ⟨by decide, by decide⟩ rfl rfl (Nat.le_of_ble_eq_true rfl) wd_406 rfl rfl dX11_plotters_15 ?_
      refine ab_bipush (v := 55) dX11_plotters_18 (by decide) ?_
      refine ab_iloadn 2 dX11_plotters_20 rfl ?_
      refine ab_iadd dX11_plotters_21 ?_
      refine fX_iald ⟨by decide, by decide⟩ rfl (fun _ => rfl) h dX11_plotters_22 (fun v3 h => ?_)
      refine ab_if_le (tgt := 50) dX11_plotters_23 (by decide) (fun hc4 => ?_) (fun hc4 => ?_)
      · have h := sat_t hc4 h
        refine ab_iinc (q := 2) (v := (a2 + 1)) (lv' := [(0, .ref (gA G 10 0 0)), (1, .int a1), (2, .int (a2 + 1))]) dX11_plotters_50 rfl rfl rfl (Nat.le_of_ble_eq_true rfl) rfl ?_
        refine ab_goto (tgt := 4) dX11_plotters_53 (by decide) ?_
        exact ih a1 (a2 + 1) X h
      · have h := sat_f hc4 h
        refine ab_aloadn 0 dX11_plotters_26 rfl ?_
        refine ab_aloadn 0 dX11_plotters_27 rfl ?_
        refine f_gr (x := 6) (k2 := 10) (i2 := 0) (j2 := 2) ⟨by decide, by decide⟩ rfl rfl (Nat.le_of_ble_eq_true rfl) wd_406 rfl rfl dX11_plotters_28 ?_
        refine ab_bipush (v := 55) dX11_plotters_31 (by decide) ?_
        refine ab_iloadn 2 dX11_plotters_33 rfl ?_
        refine ab_iadd dX11_plotters_34 ?_
        refine fX_iald ⟨by decide, by decide⟩ rfl (fun _ => rfl) h dX11_plotters_35 (fun v5 h => ?_)
        refine ab_iconst (v := 1) dX11_plotters_36 (by decide) ?_
        refine ab_isub dX11_plotters_37 ?_
        refine fX_Vi (mtc := mt_X11_isBare) (As := [.int (v5 - 1)]) h (fun Q h => ct_X11_isBare N (v5 - 1) X h) ⟨by decide, by decide⟩ rfl rfl rfl mw_X11_isBare wd_439 rfl rfl ⟨Nat.le_of_ble_eq_true rfl, Nat.le_of_ble_eq_true rfl⟩ ⟨Nat.zero_le _, Nat.zero_le _⟩ (Nat.le_of_ble_eq_true rfl) rfl dX11_plotters_38 (fun v6 X7 h => ?_)
        refine ab_if_eq (tgt := 50) dX11_plotters_41 (by decide) (fun hc8 => ?_) (fun hc8 => ?_)
        · have h := sat_t hc8 h
          refine ab_iinc (q := 2) (v := (a2 + 1)) (lv' := [(0, .ref (gA G 10 0 0)), (1, .int a1), (2, .int (a2 + 1))]) dX11_plotters_50 rfl rfl rfl (Nat.le_of_ble_eq_true rfl) rfl ?_
          refine ab_goto (tgt := 4) dX11_plotters_53 (by decide) ?_
          exact ih a1 (a2 + 1) X7 h
        · have h := sat_f hc8 h
          refine ab_iloadn 1 dX11_plotters_44 rfl ?_
          refine ab_iconst (v := 1) dX11_plotters_45 (by decide) ?_
          refine ab_iloadn 2 dX11_plotters_46 rfl ?_
          refine ab_ishl dX11_plotters_47 ?_
          refine ab_ior dX11_plotters_48 ?_
          refine ab_istoren (lv' := [(0, .ref (gA G 10 0 0)), (1, .int (a1 ||| ((1 : Int32) <<< (a2 &&& 31)))), (2, .int a2)]) dX11_plotters_49 rfl (Nat.le_of_ble_eq_true rfl) rfl ?_
          refine ab_iinc (q := 2) (v := (a2 + 1)) (lv' := [(0, .ref (gA G 10 0 0)), (1, .int (a1 ||| ((1 : Int32) <<< (a2 &&& 31)))), (2, .int (a2 + 1))]) dX11_plotters_50 rfl rfl rfl (Nat.le_of_ble_eq_true rfl) rfl ?_
          refine ab_goto (tgt := 4) dX11_plotters_53 (by decide) ?_
          exact ih (a1 ||| ((1 : Int32) <<< (a2 &&& 31))) (a2 + 1) X7 h
set_option maxRecDepth 8000 in
theorem t_X11_plotters_0 {l : Launch} {G : GX} {C : CM} {Q : Int32 → Mem → Prop} (N : Nat) (X : XM) (h : SAT (f_X11_plotters N X) (fun v c => Q v (C, c))) : AB l G (rmD 3) 0 0 mt_X11_plotters (ZQ G mt_X11_plotters Q) 0 [(0, .ref (gA G 10 0 0))] [] (C, X) := by
  unfold f_X11_plotters at h
  refine ab_iconst (v := 0) dX11_plotters_0 (by decide) ?_
  refine ab_istoren (lv' := [(0, .ref (gA G 10 0 0)), (1, .int 0)]) dX11_plotters_1 rfl (Nat.le_of_ble_eq_true rfl) rfl ?_
  refine ab_iconst (v := 0) dX11_plotters_2 (by decide) ?_
  refine ab_istoren (lv' := [(0, .ref (gA G 10 0 0)), (1, .int 0), (2, .int 0)]) dX11_plotters_3 rfl (Nat.le_of_ble_eq_true rfl) rfl ?_
  exact t_X11_plotters_4 N N 0 0 X h
theorem ct_X11_plotters {l : Launch} {G : GX} {C : CM} {Q : Int32 → Mem → Prop} (N : Nat) (X : XM) (h : SAT (f_X11_plotters N X) (fun v c => Q v (C, c))) : CT l G 3 mt_X11_plotters [.ref (gA G 10 0 0)] (C, X) Q := ct_of pn_X11 (Nat.le_of_ble_eq_true rfl) (t_X11_plotters_0 N X h)
def f_X11_fenced_2 (N : Nat) (a1 : Int32) : Nat → Int32 → XM → Option (Int32 × XM)
  | 0, _, _ => none
  | n + 1, a2, X => ldA (X.1 2) 845 2 (fun v1 => (if v1 ≤ a2 then (rt 0 X) else cal (f_X11_bitOf a1 a2 X) (fun v3 X4 => (if v3 = 0 then (f_X11_fenced_2 N a1 n (a2 + 1) X4) else ldA (X4.1 2) 845 (55 + a2) (fun v6 => sxA X4 2 845 ((441 + v6) - 1) 1 (fun X7 => (f_X11_fenced_2 N a1 n (a2 + 1) X7)))))))
def f_X11_fenced (N : Nat) (a1 : Int32) (X : XM) : Option (Int32 × XM) := (f_X11_fenced_2 N a1 N 0 X)
set_option maxRecDepth 8000 in
theorem t_X11_fenced_2 {l : Launch} {G : GX} {C : CM} {Q : Int32 → Mem → Prop} (N : Nat) (a1 : Int32) : ∀ (n : Nat) (a2 : Int32) (X : XM), SAT (f_X11_fenced_2 N a1 n a2 X) (fun v c => Q v (C, c)) → AB l G (rmD 2) 0 0 mt_X11_fenced (ZQ G mt_X11_fenced Q) 2 [(0, .ref (gA G 10 0 0)), (1, .int a1), (2, .int a2)] [] (C, X) := by
  intro n
  induction n with
  | zero => intro a2 X h; exact h.elim
  | succ n ih =>
    intro a2 X h
    rw [f_X11_fenced_2] at h
    refine ab_iloadn 2 dX11_fenced_2 rfl ?_
    refine ab_aloadn 0 dX11_fenced_3 rfl ?_
    refine f_gr (x := 6) (k2 := 10) (i2 := 0) (j2 := 2) ⟨by decide, by decide⟩ rfl rfl (Nat.le_of_ble_eq_true rfl) wd_406 rfl rfl dX11_fenced_4 ?_
    refine ab_iconst (v := 2) dX11_fenced_7 (by decide) ?_
    refine fX_iald ⟨by decide, by decide⟩ rfl (fun _ => rfl) h dX11_fenced_8 (fun v1 h => ?_)
    refine ab_icmp_ge (tgt := 47) dX11_fenced_9 (by decide) (fun hc2 => ?_) (fun hc2 => ?_)
    · have h := sat_t hc2 h
      exact fX_vret h rfl dX11_fenced_47
    · have h := sat_f hc2 h
      refine ab_iloadn 1 dX11_fenced_12 rfl ?_
      refine ab_iloadn 2 dX11_fenced_13 rfl ?_
      refine fX_Si (mtc := mt_X11_bitOf) (As := [.int a1, .int a2]) h (fun Q h => ct_X11_bitOf a1 a2 X h) mw_X11_bitOf wd_392 wd_393 rfl rfl ⟨Nat.le_of_ble_eq_true rfl, Nat.le_of_ble_eq_true rfl⟩ ⟨Nat.zero_le _, Nat.zero_le _⟩ (Nat.le_of_ble_eq_true rfl) rfl dX11_fenced_14 (fun v3 X4 h => ?_)
      refine ab_if_eq (tgt := 41) dX11_fenced_17 (by decide) (fun hc5 => ?_) (fun hc5 => ?_)
      · have h := sat_t hc5 h
        refine ab_iinc (q := 2) (v := (a2 + 1)) (lv' := [(0, .ref (gA G 10 0 0)), (1, .int a1), (2, .int (a2 + 1))]) dX11_fenced_41 rfl rfl rfl (Nat.le_of_ble_eq_true rfl) rfl ?_
        refine ab_goto (tgt := 2) dX11_fenced_44 (by decide) ?_
        exact ih (a2 + 1) X4 h
      · have h := sat_f hc5 h
        refine ab_aloadn 0 dX11_fenced_20 rfl ?_
        refine f_gr (x := 6) (k2 := 10) (i2 := 0) (j2 := 2) ⟨by decide, by decide⟩ rfl rfl (Nat.le_of_ble_eq_true rfl) wd_406 rfl rfl dX11_fenced_21 ?_
        refine ab_sipush (v := 441) dX11_fenced_24 (by decide) ?_
        refine ab_aloadn 0 dX11_fenced_27 rfl ?_
        refine f_gr (x := 6) (k2 := 10) (i2 := 0) (j2 := 2) ⟨by decide, by decide⟩ rfl rfl (Nat.le_of_ble_eq_true rfl) wd_406 rfl rfl dX11_fenced_28 ?_
        refine ab_bipush (v := 55) dX11_fenced_31 (by decide) ?_
        refine ab_iloadn 2 dX11_fenced_33 rfl ?_
        refine ab_iadd dX11_fenced_34 ?_
        refine fX_iald ⟨by decide, by decide⟩ rfl (fun _ => rfl) h dX11_fenced_35 (fun v6 h => ?_)
        refine ab_iadd dX11_fenced_36 ?_
        refine ab_iconst (v := 1) dX11_fenced_37 (by decide) ?_
        refine ab_isub dX11_fenced_38 ?_
        refine ab_iconst (v := 1) dX11_fenced_39 (by decide) ?_
        refine fX_iast ⟨by decide, by decide⟩ rfl (fun _ => rfl) h dX11_fenced_40 (fun X7 h => ?_)
        refine ab_iinc (q := 2) (v := (a2 + 1)) (lv' := [(0, .ref (gA G 10 0 0)), (1, .int a1), (2, .int (a2 + 1))]) dX11_fenced_41 rfl rfl rfl (Nat.le_of_ble_eq_true rfl) rfl ?_
        refine ab_goto (tgt := 2) dX11_fenced_44 (by decide) ?_
        exact ih (a2 + 1) X7 h
set_option maxRecDepth 8000 in
theorem t_X11_fenced_0 {l : Launch} {G : GX} {C : CM} {Q : Int32 → Mem → Prop} (N : Nat) (a1 : Int32) (X : XM) (h : SAT (f_X11_fenced N a1 X) (fun v c => Q v (C, c))) : AB l G (rmD 2) 0 0 mt_X11_fenced (ZQ G mt_X11_fenced Q) 0 [(0, .ref (gA G 10 0 0)), (1, .int a1)] [] (C, X) := by
  unfold f_X11_fenced at h
  refine ab_iconst (v := 0) dX11_fenced_0 (by decide) ?_
  refine ab_istoren (lv' := [(0, .ref (gA G 10 0 0)), (1, .int a1), (2, .int 0)]) dX11_fenced_1 rfl (Nat.le_of_ble_eq_true rfl) rfl ?_
  exact t_X11_fenced_2 N a1 N 0 X h
theorem ct_X11_fenced {l : Launch} {G : GX} {C : CM} {Q : Int32 → Mem → Prop} (N : Nat) (a1 : Int32) (X : XM) (h : SAT (f_X11_fenced N a1 X) (fun v c => Q v (C, c))) : CT l G 2 mt_X11_fenced [.ref (gA G 10 0 0), .int a1] (C, X) Q := ct_of pn_X11 (Nat.le_of_ble_eq_true rfl) (t_X11_fenced_0 N a1 X h)
def f_X11_has (N : Nat) (a1 : Int32) (a2 : Int32) (X : XM) : Option (Int32 × XM) := bnd (stX X 0 0 0) (fun X1 => cal (f_X11_isOwner a1 X1) (fun v2 X3 => (if v2 = 0 then (rt (-1) X3) else (if a2 < 0 then (rt (-1) X3) else cal (f_X11_plotters N X3) (fun v6 X7 => (if (a2 &&& (v6 ^^^ (-1))) = 0 then cal (f_X11_tries N X7) (fun v9 X10 => cal (f_X11_fenced N a2 X10) (fun v11 X12 => cal (f_X11_atLast N a1 X12) (fun v13 X14 => cal (f_X11_back N X14) (fun v15 X16 => (rt v13 X16))))) else (rt (-1) X7)))))))
set_option maxRecDepth 8000 in
theorem t_X11_has_0 {l : Launch} {G : GX} {C : CM} {Q : Int32 → Mem → Prop} (N : Nat) (a1 : Int32) (a2 : Int32) (X : XM) (h : SAT (f_X11_has N a1 a2 X) (fun v c => Q v (C, c))) : AB l G (rmD 8) 0 0 mt_X11_has (ZQ G mt_X11_has Q) 0 [(0, .ref (gA G 10 0 0)), (1, .int a1), (2, .int a2)] [] (C, X) := by
  unfold f_X11_has at h
  refine ab_aloadn 0 dX11_has_0 rfl ?_
  refine ab_iconst (v := 0) dX11_has_1 (by decide) ?_
  refine fX_pi (x := 0) (ty := .int) ⟨by decide, by decide⟩ rfl rfl (Nat.le_of_ble_eq_true rfl) wd_344 rfl h rfl (by decide +kernel) rfl rfl dX11_has_2 (fun X1 h => ?_)
  refine ab_aloadn 0 dX11_has_5 rfl ?_
  refine ab_iloadn 1 dX11_has_6 rfl ?_
  refine fX_Vi (mtc := mt_X11_isOwner) (As := [.int a1]) h (fun Q h => ct_X11_isOwner a1 X1 h) ⟨by decide, by decide⟩ rfl rfl rfl mw_X11_isOwner wd_413 rfl rfl ⟨Nat.le_of_ble_eq_true rfl, Nat.le_of_ble_eq_true rfl⟩ ⟨Nat.zero_le _, Nat.zero_le _⟩ (Nat.le_of_ble_eq_true rfl) rfl dX11_has_7 (fun v2 X3 h => ?_)
  refine ab_if_eq (tgt := 28) dX11_has_10 (by decide) (fun hc4 => ?_) (fun hc4 => ?_)
  · have h := sat_t hc4 h
    refine ab_iconst (v := (-1)) dX11_has_28 (by decide) ?_
    exact fX_iret h rfl rfl dX11_has_29
  · have h := sat_f hc4 h
    refine ab_iloadn 2 dX11_has_13 rfl ?_
    refine ab_if_lt (tgt := 28) dX11_has_14 (by decide) (fun hc5 => ?_) (fun hc5 => ?_)
    · have h := sat_t hc5 h
      refine ab_iconst (v := (-1)) dX11_has_28 (by decide) ?_
      exact fX_iret h rfl rfl dX11_has_29
    · have h := sat_f hc5 h
      refine ab_iloadn 2 dX11_has_17 rfl ?_
      refine ab_aloadn 0 dX11_has_18 rfl ?_
      refine fX_Vi (mtc := mt_X11_plotters) (As := []) h (fun Q h => ct_X11_plotters N X3 h) ⟨by decide, by decide⟩ rfl rfl rfl mw_X11_plotters wd_450 rfl rfl ⟨Nat.le_of_ble_eq_true rfl, Nat.le_of_ble_eq_true rfl⟩ ⟨Nat.zero_le _, Nat.zero_le _⟩ (Nat.le_of_ble_eq_true rfl) rfl dX11_has_19 (fun v6 X7 h => ?_)
      refine ab_iconst (v := (-1)) dX11_has_22 (by decide) ?_
      refine ab_ixor dX11_has_23 ?_
      refine ab_iand dX11_has_24 ?_
      refine ab_if_eq (tgt := 30) dX11_has_25 (by decide) (fun hc8 => ?_) (fun hc8 => ?_)
      · have h := sat_t hc8 h
        refine ab_aloadn 0 dX11_has_30 rfl ?_
        refine fX_Vv (mtc := mt_X11_tries) (As := []) h (fun Q h => ct_X11_tries N X7 h) ⟨by decide, by decide⟩ rfl rfl rfl mw_X11_tries wd_424 rfl rfl ⟨Nat.le_of_ble_eq_true rfl, Nat.le_of_ble_eq_true rfl⟩ ⟨Nat.zero_le _, Nat.zero_le _⟩ (Nat.le_of_ble_eq_true rfl) rfl dX11_has_31 (fun v9 X10 h => ?_)
        refine ab_aloadn 0 dX11_has_34 rfl ?_
        refine ab_iloadn 2 dX11_has_35 rfl ?_
        refine fX_Vv (mtc := mt_X11_fenced) (As := [.int a2]) h (fun Q h => ct_X11_fenced N a2 X10 h) ⟨by decide, by decide⟩ rfl rfl rfl mw_X11_fenced wd_451 rfl rfl ⟨Nat.le_of_ble_eq_true rfl, Nat.le_of_ble_eq_true rfl⟩ ⟨Nat.zero_le _, Nat.zero_le _⟩ (Nat.le_of_ble_eq_true rfl) rfl dX11_has_36 (fun v11 X12 h => ?_)
        refine ab_aloadn 0 dX11_has_39 rfl ?_
        refine ab_iloadn 1 dX11_has_40 rfl ?_
        refine fX_Vi (mtc := mt_X11_atLast) (As := [.int a1]) h (fun Q h => ct_X11_atLast N a1 X12 h) ⟨by decide, by decide⟩ rfl rfl rfl mw_X11_atLast wd_447 rfl rfl ⟨Nat.le_of_ble_eq_true rfl, Nat.le_of_ble_eq_true rfl⟩ ⟨Nat.zero_le _, Nat.zero_le _⟩ (Nat.le_of_ble_eq_true rfl) rfl dX11_has_41 (fun v13 X14 h => ?_)
        refine ab_istoren (lv' := [(0, .ref (gA G 10 0 0)), (1, .int a1), (2, .int a2), (3, .int v13)]) dX11_has_44 rfl (Nat.le_of_ble_eq_true rfl) rfl ?_
        refine ab_aloadn 0 dX11_has_45 rfl ?_
        refine fX_Vv (mtc := mt_X11_back) (As := []) h (fun Q h => ct_X11_back N X14 h) ⟨by decide, by decide⟩ rfl rfl rfl mw_X11_back wd_428 rfl rfl ⟨Nat.le_of_ble_eq_true rfl, Nat.le_of_ble_eq_true rfl⟩ ⟨Nat.zero_le _, Nat.zero_le _⟩ (Nat.le_of_ble_eq_true rfl) rfl dX11_has_46 (fun v15 X16 h => ?_)
        refine ab_iloadn 3 dX11_has_49 rfl ?_
        exact fX_iret h rfl rfl dX11_has_50
      · have h := sat_f hc8 h
        refine ab_iconst (v := (-1)) dX11_has_28 (by decide) ?_
        exact fX_iret h rfl rfl dX11_has_29
theorem ct_X11_has {l : Launch} {G : GX} {C : CM} {Q : Int32 → Mem → Prop} (N : Nat) (a1 : Int32) (a2 : Int32) (X : XM) (h : SAT (f_X11_has N a1 a2 X) (fun v c => Q v (C, c))) : CT l G 8 mt_X11_has [.ref (gA G 10 0 0), .int a1, .int a2] (C, X) Q := ct_of pn_X11 (Nat.le_of_ble_eq_true rfl) (t_X11_has_0 N a1 a2 X h)
def f_X11_rests_201 (N : Nat) (k104 : Int32 → Int32 → XM → Option (Int32 × XM)) (a1 : Int32) (a2 : Int32) (a3 : Int32) (a4 : Int32) (a5 : Int32) (X : XM) : Option (Int32 × XM) := (if a5 = 0 then (k104 a3 (a4 + 1) X) else (if a3 = a1 then (rt a4 X) else (k104 (a3 + 1) (a4 + 1) X)))
def f_X11_rests_193 (N : Nat) (k104 : Int32 → Int32 → XM → Option (Int32 × XM)) (k129 : Int32 → Int32 → XM → Option (Int32 × XM)) (a1 : Int32) (a2 : Int32) (a3 : Int32) (a4 : Int32) (a6 : Int32) (as0 : Int32) (X : XM) : Option (Int32 × XM) := (k129 as0 (a6 + 1) X)
def f_X11_rests_188 (N : Nat) (k104 : Int32 → Int32 → XM → Option (Int32 × XM)) (k129 : Int32 → Int32 → XM → Option (Int32 × XM)) (a1 : Int32) (a2 : Int32) (a3 : Int32) (a4 : Int32) (a6 : Int32) (X : XM) : Option (Int32 × XM) := (f_X11_rests_193 N k104 k129 a1 a2 a3 a4 a6 1 X)
def f_X11_rests_129 (N : Nat) (k104 : Int32 → Int32 → XM → Option (Int32 × XM)) (a1 : Int32) (a2 : Int32) (a3 : Int32) (a4 : Int32) : Nat → Int32 → Int32 → XM → Option (Int32 × XM)
  | 0, _, _, _ => none
  | n + 1, a5, a6, X => ldA (X.1 2) 845 2 (fun v1 => (if v1 ≤ a6 then (f_X11_rests_201 N k104 a1 a2 a3 a4 a5 X) else (if a5 = 0 then (f_X11_rests_201 N k104 a1 a2 a3 a4 a5 X) else cal (f_X11_bitOf a2 a6 X) (fun v4 X5 => (if v4 = 0 then (f_X11_rests_188 N k104 (fun z5 z6 c => f_X11_rests_129 N k104 a1 a2 a3 a4 n z5 z6 c) a1 a2 a3 a4 a6 X5) else ldA (X5.1 11) 2048 (((8 : Int32) * (a4 ^^^ ((1 : Int32) <<< (a6 &&& 31)))) + a6) (fun v7 => ldA (X5.1 11) 2048 ((8 * a4) + a6) (fun v8 => (if v8 < v7 then (f_X11_rests_193 N k104 (fun z5 z6 c => f_X11_rests_129 N k104 a1 a2 a3 a4 n z5 z6 c) a1 a2 a3 a4 a6 0 X5) else (f_X11_rests_188 N k104 (fun z5 z6 c => f_X11_rests_129 N k104 a1 a2 a3 a4 n z5 z6 c) a1 a2 a3 a4 a6 X5)))))))))
def f_X11_rests_124 (N : Nat) (k104 : Int32 → Int32 → XM → Option (Int32 × XM)) (a1 : Int32) (a2 : Int32) (a3 : Int32) (a4 : Int32) (as0 : Int32) (X : XM) : Option (Int32 × XM) := (f_X11_rests_129 N k104 a1 a2 a3 a4 N as0 0 X)
def f_X11_rests_104 (N : Nat) (a1 : Int32) (a2 : Int32) : Nat → Int32 → Int32 → XM → Option (Int32 × XM)
  | 0, _, _, _ => none
  | n + 1, a3, a4, X => (if a2 < a4 then (if a1 = (-1) then (rt a3 X) else (rt (-1) X)) else (if (a4 &&& (a2 ^^^ (-1))) = 0 then (f_X11_rests_124 N (fun z3 z4 c => f_X11_rests_104 N a1 a2 n z3 z4 c) a1 a2 a3 a4 1 X) else (f_X11_rests_124 N (fun z3 z4 c => f_X11_rests_104 N a1 a2 n z3 z4 c) a1 a2 a3 a4 0 X)))
def f_X11_rests_54 (N : Nat) (k23 : Int32 → XM → Option (Int32 × XM)) (a1 : Int32) (a2 : Int32) (a3 : Int32) : Nat → Int32 → XM → Option (Int32 × XM)
  | 0, _, _ => none
  | n + 1, a4, X => ldA (X.1 2) 845 2 (fun v1 => (if v1 ≤ a4 then cal (f_X11_back N X) (fun v3 X4 => (k23 (a3 + 1) X4)) else cal (f_X11_wealth a4 X) (fun v5 X6 => sxA X6 11 2048 ((8 * a3) + a4) v5 (fun X7 => (f_X11_rests_54 N k23 a1 a2 a3 n (a4 + 1) X7)))))
def f_X11_rests_23 (N : Nat) (a1 : Int32) (a2 : Int32) : Nat → Int32 → XM → Option (Int32 × XM)
  | 0, _, _ => none
  | n + 1, a3, X => (if a2 < a3 then (f_X11_rests_104 N a1 a2 N 0 0 X) else (if (a3 &&& (a2 ^^^ (-1))) = 0 then cal (f_X11_fenced N a3 X) (fun v3 X4 => cal (f_X11_goes N 48 X4) (fun v5 X6 => (f_X11_rests_54 N (fun z3 c => f_X11_rests_23 N a1 a2 n z3 c) a1 a2 a3 N 0 X6))) else (f_X11_rests_23 N a1 a2 n (a3 + 1) X)))
def f_X11_rests (N : Nat) (a1 : Int32) (X : XM) : Option (Int32 × XM) := bnd (stX X 0 0 0) (fun X1 => (if (-1) ≤ a1 then cal (f_X11_plotters N X1) (fun v3 X4 => cal (f_X11_tries N X4) (fun v5 X6 => (f_X11_rests_23 N a1 v3 N 0 X6))) else (rt (-1) X1)))
set_option maxRecDepth 8000 in
theorem t_X11_rests_201 {l : Launch} {G : GX} {C : CM} {Q : Int32 → Mem → Prop} (N : Nat) (k104 : Int32 → Int32 → XM → Option (Int32 × XM)) (a1 : Int32) (a2 : Int32) (a3 : Int32) (a4 : Int32) (a5 : Int32) (hk104 : ∀ (ac3 : Int32) (ac4 : Int32) (X : XM), SAT (k104 ac3 ac4 X) (fun v c => Q v (C, c)) → AB l G (rmD 7) 0 0 mt_X11_rests (ZQ G mt_X11_rests Q) 104 [(0, .ref (gA G 10 0 0)), (1, .int a1), (2, .int a2), (3, .int ac3), (4, .int ac4)] [] (C, X)) (X : XM) (h : SAT (f_X11_rests_201 N k104 a1 a2 a3 a4 a5 X) (fun v c => Q v (C, c))) : AB l G (rmD 7) 0 0 mt_X11_rests (ZQ G mt_X11_rests Q) 201 [(0, .ref (gA G 10 0 0)), (1, .int a1), (2, .int a2), (3, .int a3), (4, .int a4), (5, .int a5)] [] (C, X) := by
  unfold f_X11_rests_201 at h
  refine ab_iload 5 dX11_rests_201 rfl ?_
  refine ab_if_ne (tgt := 209) dX11_rests_203 (by decide) (fun hc1 => ?_) (fun hc1 => ?_)
  · have h := sat_f hc1 h
    refine ab_iloadn 3 dX11_rests_209 rfl ?_
    refine ab_iloadn 1 dX11_rests_210 rfl ?_
    refine ab_icmp_ne (tgt := 217) dX11_rests_211 (by decide) (fun hc2 => ?_) (fun hc2 => ?_)
    · have h := sat_f hc2 h
      refine ab_iinc (q := 3) (v := (a3 + 1)) (lv' := [(0, .ref (gA G 10 0 0)), (1, .int a1), (2, .int a2), (3, .int (a3 + 1)), (4, .int a4), (5, .int a5)]) dX11_rests_217 rfl rfl rfl (Nat.le_of_ble_eq_true rfl) rfl ?_
      refine ab_iinc (q := 4) (v := (a4 + 1)) (lv' := [(0, .ref (gA G 10 0 0)), (1, .int a1), (2, .int a2), (3, .int (a3 + 1)), (4, .int (a4 + 1)), (5, .int a5)]) dX11_rests_220 rfl rfl rfl (Nat.le_of_ble_eq_true rfl) rfl ?_
      refine ab_goto (tgt := 104) dX11_rests_223 (by decide) ?_
      refine ab_sub [0, 1, 2, 3, 4] rfl ?_
      exact hk104 (a3 + 1) (a4 + 1) X h
    · have h := sat_t hc2 h
      refine ab_iload 4 dX11_rests_214 rfl ?_
      exact fX_iret h rfl rfl dX11_rests_216
  · have h := sat_t hc1 h
    refine ab_goto (tgt := 220) dX11_rests_206 (by decide) ?_
    refine ab_iinc (q := 4) (v := (a4 + 1)) (lv' := [(0, .ref (gA G 10 0 0)), (1, .int a1), (2, .int a2), (3, .int a3), (4, .int (a4 + 1)), (5, .int a5)]) dX11_rests_220 rfl rfl rfl (Nat.le_of_ble_eq_true rfl) rfl ?_
    refine ab_goto (tgt := 104) dX11_rests_223 (by decide) ?_
    refine ab_sub [0, 1, 2, 3, 4] rfl ?_
    exact hk104 a3 (a4 + 1) X h
set_option maxRecDepth 8000 in
theorem t_X11_rests_193 {l : Launch} {G : GX} {C : CM} {Q : Int32 → Mem → Prop} (N : Nat) (k104 : Int32 → Int32 → XM → Option (Int32 × XM)) (k129 : Int32 → Int32 → XM → Option (Int32 × XM)) (a1 : Int32) (a2 : Int32) (a3 : Int32) (a4 : Int32) (a6 : Int32) (as0 : Int32) (hk104 : ∀ (ac3 : Int32) (ac4 : Int32) (X : XM), SAT (k104 ac3 ac4 X) (fun v c => Q v (C, c)) → AB l G (rmD 7) 0 0 mt_X11_rests (ZQ G mt_X11_rests Q) 104 [(0, .ref (gA G 10 0 0)), (1, .int a1), (2, .int a2), (3, .int ac3), (4, .int ac4)] [] (C, X)) (hk129 : ∀ (ac5 : Int32) (ac6 : Int32) (X : XM), SAT (k129 ac5 ac6 X) (fun v c => Q v (C, c)) → AB l G (rmD 7) 0 0 mt_X11_rests (ZQ G mt_X11_rests Q) 129 [(0, .ref (gA G 10 0 0)), (1, .int a1), (2, .int a2), (3, .int a3), (4, .int a4), (5, .int ac5), (6, .int ac6)] [] (C, X)) (X : XM) (h : SAT (f_X11_rests_193 N k104 k129 a1 a2 a3 a4 a6 as0 X) (fun v c => Q v (C, c))) : AB l G (rmD 7) 0 0 mt_X11_rests (ZQ G mt_X11_rests Q) 193 [(0, .ref (gA G 10 0 0)), (1, .int a1), (2, .int a2), (3, .int a3), (4, .int a4), (6, .int a6)] [.int as0] (C, X) := by
  unfold f_X11_rests_193 at h
  refine ab_istore (lv' := [(0, .ref (gA G 10 0 0)), (1, .int a1), (2, .int a2), (3, .int a3), (4, .int a4), (6, .int a6), (5, .int as0)]) dX11_rests_193 rfl (Nat.le_of_ble_eq_true rfl) rfl ?_
  refine ab_iinc (q := 5) (v := (a6 + 1)) (lv' := [(0, .ref (gA G 10 0 0)), (1, .int a1), (2, .int a2), (3, .int a3), (4, .int a4), (6, .int (a6 + 1)), (5, .int as0)]) dX11_rests_195 rfl rfl rfl (Nat.le_of_ble_eq_true rfl) rfl ?_
  refine ab_goto (tgt := 129) dX11_rests_198 (by decide) ?_
  refine ab_sub [0, 1, 2, 3, 4, 6, 5] rfl ?_
  exact hk129 as0 (a6 + 1) X h
set_option maxRecDepth 8000 in
theorem t_X11_rests_188 {l : Launch} {G : GX} {C : CM} {Q : Int32 → Mem → Prop} (N : Nat) (k104 : Int32 → Int32 → XM → Option (Int32 × XM)) (k129 : Int32 → Int32 → XM → Option (Int32 × XM)) (a1 : Int32) (a2 : Int32) (a3 : Int32) (a4 : Int32) (a6 : Int32) (hk104 : ∀ (ac3 : Int32) (ac4 : Int32) (X : XM), SAT (k104 ac3 ac4 X) (fun v c => Q v (C, c)) → AB l G (rmD 7) 0 0 mt_X11_rests (ZQ G mt_X11_rests Q) 104 [(0, .ref (gA G 10 0 0)), (1, .int a1), (2, .int a2), (3, .int ac3), (4, .int ac4)] [] (C, X)) (hk129 : ∀ (ac5 : Int32) (ac6 : Int32) (X : XM), SAT (k129 ac5 ac6 X) (fun v c => Q v (C, c)) → AB l G (rmD 7) 0 0 mt_X11_rests (ZQ G mt_X11_rests Q) 129 [(0, .ref (gA G 10 0 0)), (1, .int a1), (2, .int a2), (3, .int a3), (4, .int a4), (5, .int ac5), (6, .int ac6)] [] (C, X)) (X : XM) (h : SAT (f_X11_rests_188 N k104 k129 a1 a2 a3 a4 a6 X) (fun v c => Q v (C, c))) : AB l G (rmD 7) 0 0 mt_X11_rests (ZQ G mt_X11_rests Q) 188 [(0, .ref (gA G 10 0 0)), (1, .int a1), (2, .int a2), (3, .int a3), (4, .int a4), (6, .int a6)] [] (C, X) := by
  unfold f_X11_rests_188 at h
  refine ab_iconst (v := 1) dX11_rests_188 (by decide) ?_
  refine ab_goto (tgt := 193) dX11_rests_189 (by decide) ?_
  exact t_X11_rests_193 N k104 k129 a1 a2 a3 a4 a6 1 hk104 hk129 X h
set_option maxRecDepth 8000 in
theorem t_X11_rests_129 {l : Launch} {G : GX} {C : CM} {Q : Int32 → Mem → Prop} (N : Nat) (k104 : Int32 → Int32 → XM → Option (Int32 × XM)) (a1 : Int32) (a2 : Int32) (a3 : Int32) (a4 : Int32) (hk104 : ∀ (ac3 : Int32) (ac4 : Int32) (X : XM), SAT (k104 ac3 ac4 X) (fun v c => Q v (C, c)) → AB l G (rmD 7) 0 0 mt_X11_rests (ZQ G mt_X11_rests Q) 104 [(0, .ref (gA G 10 0 0)), (1, .int a1), (2, .int a2), (3, .int ac3), (4, .int ac4)] [] (C, X)) : ∀ (n : Nat) (a5 : Int32) (a6 : Int32) (X : XM), SAT (f_X11_rests_129 N k104 a1 a2 a3 a4 n a5 a6 X) (fun v c => Q v (C, c)) → AB l G (rmD 7) 0 0 mt_X11_rests (ZQ G mt_X11_rests Q) 129 [(0, .ref (gA G 10 0 0)), (1, .int a1), (2, .int a2), (3, .int a3), (4, .int a4), (5, .int a5), (6, .int a6)] [] (C, X) := by
  intro n
  induction n with
  | zero => intro a5 a6 X h; exact h.elim
  | succ n ih =>
    intro a5 a6 X h
    rw [f_X11_rests_129] at h
    refine ab_iload 6 dX11_rests_129 rfl ?_
    refine ab_aloadn 0 dX11_rests_131 rfl ?_
    refine f_gr (x := 6) (k2 := 10) (i2 := 0) (j2 := 2) ⟨by decide, by decide⟩ rfl rfl (Nat.le_of_ble_eq_true rfl) wd_406 rfl rfl dX11_rests_132 ?_
    refine ab_iconst (v := 2) dX11_rests_135 (by decide) ?_
    refine fX_iald ⟨by decide, by decide⟩ rfl (fun _ => rfl) h dX11_rests_136 (fun v1 h => ?_)
    refine ab_icmp_ge (tgt := 201) dX11_rests_137 (by decide) (fun hc2 => ?_) (fun hc2 => ?_)
    · have h := sat_t hc2 h
      refine ab_sub [0, 1, 2, 3, 4, 5] rfl ?_
      exact t_X11_rests_201 N k104 a1 a2 a3 a4 a5 hk104 X h
    · have h := sat_f hc2 h
      refine ab_iload 5 dX11_rests_140 rfl ?_
      refine ab_if_eq (tgt := 201) dX11_rests_142 (by decide) (fun hc3 => ?_) (fun hc3 => ?_)
      · have h := sat_t hc3 h
        refine ab_sub [0, 1, 2, 3, 4, 5] rfl ?_
        exact t_X11_rests_201 N k104 a1 a2 a3 a4 a5 hk104 X h
      · have h := sat_f hc3 h
        refine ab_iloadn 2 dX11_rests_145 rfl ?_
        refine ab_iload 6 dX11_rests_146 rfl ?_
        refine fX_Si (mtc := mt_X11_bitOf) (As := [.int a2, .int a6]) h (fun Q h => ct_X11_bitOf a2 a6 X h) mw_X11_bitOf wd_392 wd_393 rfl rfl ⟨Nat.le_of_ble_eq_true rfl, Nat.le_of_ble_eq_true rfl⟩ ⟨Nat.zero_le _, Nat.zero_le _⟩ (Nat.le_of_ble_eq_true rfl) rfl dX11_rests_148 (fun v4 X5 h => ?_)
        refine ab_if_eq (tgt := 188) dX11_rests_151 (by decide) (fun hc6 => ?_) (fun hc6 => ?_)
        · have h := sat_t hc6 h
          refine ab_sub [0, 1, 2, 3, 4, 6] rfl ?_
          exact t_X11_rests_188 N k104 (fun z5 z6 c => f_X11_rests_129 N k104 a1 a2 a3 a4 n z5 z6 c) a1 a2 a3 a4 a6 hk104 ih X5 h
        · have h := sat_f hc6 h
          refine ab_aloadn 0 dX11_rests_154 rfl ?_
          refine f_gr (x := 36) (k2 := 10) (i2 := 0) (j2 := 11) ⟨by decide, by decide⟩ rfl rfl (Nat.le_of_ble_eq_true rfl) wd_452 rfl rfl dX11_rests_155 ?_
          refine ab_bipush (v := 8) dX11_rests_158 (by decide) ?_
          refine ab_iload 4 dX11_rests_160 rfl ?_
          refine ab_iconst (v := 1) dX11_rests_162 (by decide) ?_
          refine ab_iload 6 dX11_rests_163 rfl ?_
          refine ab_ishl dX11_rests_165 ?_
          refine ab_ixor dX11_rests_166 ?_
          refine ab_imul dX11_rests_167 ?_
          refine ab_iload 6 dX11_rests_168 rfl ?_
          refine ab_iadd dX11_rests_170 ?_
          refine fX_iald ⟨by decide, by decide⟩ rfl (fun _ => rfl) h dX11_rests_171 (fun v7 h => ?_)
          refine ab_aloadn 0 dX11_rests_172 rfl ?_
          refine f_gr (x := 36) (k2 := 10) (i2 := 0) (j2 := 11) ⟨by decide, by decide⟩ rfl rfl (Nat.le_of_ble_eq_true rfl) wd_452 rfl rfl dX11_rests_173 ?_
          refine ab_bipush (v := 8) dX11_rests_176 (by decide) ?_
          refine ab_iload 4 dX11_rests_178 rfl ?_
          refine ab_imul dX11_rests_180 ?_
          refine ab_iload 6 dX11_rests_181 rfl ?_
          refine ab_iadd dX11_rests_183 ?_
          refine fX_iald ⟨by decide, by decide⟩ rfl (fun _ => rfl) h dX11_rests_184 (fun v8 h => ?_)
          refine ab_icmp_gt (tgt := 192) dX11_rests_185 (by decide) (fun hc9 => ?_) (fun hc9 => ?_)
          · have h := sat_t hc9 h
            refine ab_iconst (v := 0) dX11_rests_192 (by decide) ?_
            refine ab_sub [0, 1, 2, 3, 4, 6] rfl ?_
            exact t_X11_rests_193 N k104 (fun z5 z6 c => f_X11_rests_129 N k104 a1 a2 a3 a4 n z5 z6 c) a1 a2 a3 a4 a6 0 hk104 ih X5 h
          · have h := sat_f hc9 h
            refine ab_sub [0, 1, 2, 3, 4, 6] rfl ?_
            exact t_X11_rests_188 N k104 (fun z5 z6 c => f_X11_rests_129 N k104 a1 a2 a3 a4 n z5 z6 c) a1 a2 a3 a4 a6 hk104 ih X5 h
set_option maxRecDepth 8000 in
theorem t_X11_rests_124 {l : Launch} {G : GX} {C : CM} {Q : Int32 → Mem → Prop} (N : Nat) (k104 : Int32 → Int32 → XM → Option (Int32 × XM)) (a1 : Int32) (a2 : Int32) (a3 : Int32) (a4 : Int32) (as0 : Int32) (hk104 : ∀ (ac3 : Int32) (ac4 : Int32) (X : XM), SAT (k104 ac3 ac4 X) (fun v c => Q v (C, c)) → AB l G (rmD 7) 0 0 mt_X11_rests (ZQ G mt_X11_rests Q) 104 [(0, .ref (gA G 10 0 0)), (1, .int a1), (2, .int a2), (3, .int ac3), (4, .int ac4)] [] (C, X)) (X : XM) (h : SAT (f_X11_rests_124 N k104 a1 a2 a3 a4 as0 X) (fun v c => Q v (C, c))) : AB l G (rmD 7) 0 0 mt_X11_rests (ZQ G mt_X11_rests Q) 124 [(0, .ref (gA G 10 0 0)), (1, .int a1), (2, .int a2), (3, .int a3), (4, .int a4)] [.int as0] (C, X) := by
  unfold f_X11_rests_124 at h
  refine ab_istore (lv' := [(0, .ref (gA G 10 0 0)), (1, .int a1), (2, .int a2), (3, .int a3), (4, .int a4), (5, .int as0)]) dX11_rests_124 rfl (Nat.le_of_ble_eq_true rfl) rfl ?_
  refine ab_iconst (v := 0) dX11_rests_126 (by decide) ?_
  refine ab_istore (lv' := [(0, .ref (gA G 10 0 0)), (1, .int a1), (2, .int a2), (3, .int a3), (4, .int a4), (5, .int as0), (6, .int 0)]) dX11_rests_127 rfl (Nat.le_of_ble_eq_true rfl) rfl ?_
  exact t_X11_rests_129 N k104 a1 a2 a3 a4 hk104 N as0 0 X h
set_option maxRecDepth 8000 in
theorem t_X11_rests_104 {l : Launch} {G : GX} {C : CM} {Q : Int32 → Mem → Prop} (N : Nat) (a1 : Int32) (a2 : Int32) : ∀ (n : Nat) (a3 : Int32) (a4 : Int32) (X : XM), SAT (f_X11_rests_104 N a1 a2 n a3 a4 X) (fun v c => Q v (C, c)) → AB l G (rmD 7) 0 0 mt_X11_rests (ZQ G mt_X11_rests Q) 104 [(0, .ref (gA G 10 0 0)), (1, .int a1), (2, .int a2), (3, .int a3), (4, .int a4)] [] (C, X) := by
  intro n
  induction n with
  | zero => intro a3 a4 X h; exact h.elim
  | succ n ih =>
    intro a3 a4 X h
    rw [f_X11_rests_104] at h
    refine ab_iload 4 dX11_rests_104 rfl ?_
    refine ab_iloadn 2 dX11_rests_106 rfl ?_
    refine ab_icmp_gt (tgt := 226) dX11_rests_107 (by decide) (fun hc1 => ?_) (fun hc1 => ?_)
    · have h := sat_t hc1 h
      refine ab_iloadn 1 dX11_rests_226 rfl ?_
      refine ab_iconst (v := (-1)) dX11_rests_227 (by decide) ?_
      refine ab_icmp_ne (tgt := 235) dX11_rests_228 (by decide) (fun hc2 => ?_) (fun hc2 => ?_)
      · have h := sat_f hc2 h
        refine ab_iconst (v := (-1)) dX11_rests_235 (by decide) ?_
        exact fX_iret h rfl rfl dX11_rests_236
      · have h := sat_t hc2 h
        refine ab_iloadn 3 dX11_rests_231 rfl ?_
        refine ab_goto (tgt := 236) dX11_rests_232 (by decide) ?_
        exact fX_iret h rfl rfl dX11_rests_236
    · have h := sat_f hc1 h
      refine ab_iload 4 dX11_rests_110 rfl ?_
      refine ab_iloadn 2 dX11_rests_112 rfl ?_
      refine ab_iconst (v := (-1)) dX11_rests_113 (by decide) ?_
      refine ab_ixor dX11_rests_114 ?_
      refine ab_iand dX11_rests_115 ?_
      refine ab_if_ne (tgt := 123) dX11_rests_116 (by decide) (fun hc3 => ?_) (fun hc3 => ?_)
      · have h := sat_f hc3 h
        refine ab_iconst (v := 0) dX11_rests_123 (by decide) ?_
        exact t_X11_rests_124 N (fun z3 z4 c => f_X11_rests_104 N a1 a2 n z3 z4 c) a1 a2 a3 a4 0 ih X h
      · have h := sat_t hc3 h
        refine ab_iconst (v := 1) dX11_rests_119 (by decide) ?_
        refine ab_goto (tgt := 124) dX11_rests_120 (by decide) ?_
        exact t_X11_rests_124 N (fun z3 z4 c => f_X11_rests_104 N a1 a2 n z3 z4 c) a1 a2 a3 a4 1 ih X h
set_option maxRecDepth 8000 in
theorem t_X11_rests_54 {l : Launch} {G : GX} {C : CM} {Q : Int32 → Mem → Prop} (N : Nat) (k23 : Int32 → XM → Option (Int32 × XM)) (a1 : Int32) (a2 : Int32) (a3 : Int32) (hk23 : ∀ (ac3 : Int32) (X : XM), SAT (k23 ac3 X) (fun v c => Q v (C, c)) → AB l G (rmD 7) 0 0 mt_X11_rests (ZQ G mt_X11_rests Q) 23 [(0, .ref (gA G 10 0 0)), (1, .int a1), (2, .int a2), (3, .int ac3)] [] (C, X)) : ∀ (n : Nat) (a4 : Int32) (X : XM), SAT (f_X11_rests_54 N k23 a1 a2 a3 n a4 X) (fun v c => Q v (C, c)) → AB l G (rmD 7) 0 0 mt_X11_rests (ZQ G mt_X11_rests Q) 54 [(0, .ref (gA G 10 0 0)), (1, .int a1), (2, .int a2), (3, .int a3), (4, .int a4)] [] (C, X) := by
  intro n
  induction n with
  | zero => intro a4 X h; exact h.elim
  | succ n ih =>
    intro a4 X h
    rw [f_X11_rests_54] at h
    refine ab_iload 4 dX11_rests_54 rfl ?_
    refine ab_aloadn 0 dX11_rests_56 rfl ?_
    refine f_gr (x := 6) (k2 := 10) (i2 := 0) (j2 := 2) ⟨by decide, by decide⟩ rfl rfl (Nat.le_of_ble_eq_true rfl) wd_406 rfl rfl dX11_rests_57 ?_
    refine ab_iconst (v := 2) dX11_rests_60 (by decide) ?_
    refine fX_iald ⟨by decide, by decide⟩ rfl (fun _ => rfl) h dX11_rests_61 (fun v1 h => ?_)
    refine ab_icmp_ge (tgt := 89) dX11_rests_62 (by decide) (fun hc2 => ?_) (fun hc2 => ?_)
    · have h := sat_t hc2 h
      refine ab_aloadn 0 dX11_rests_89 rfl ?_
      refine fX_Vv (mtc := mt_X11_back) (As := []) h (fun Q h => ct_X11_back N X h) ⟨by decide, by decide⟩ rfl rfl rfl mw_X11_back wd_428 rfl rfl ⟨Nat.le_of_ble_eq_true rfl, Nat.le_of_ble_eq_true rfl⟩ ⟨Nat.zero_le _, Nat.zero_le _⟩ (Nat.le_of_ble_eq_true rfl) rfl dX11_rests_90 (fun v3 X4 h => ?_)
      refine ab_iinc (q := 3) (v := (a3 + 1)) (lv' := [(0, .ref (gA G 10 0 0)), (1, .int a1), (2, .int a2), (3, .int (a3 + 1)), (4, .int a4)]) dX11_rests_93 rfl rfl rfl (Nat.le_of_ble_eq_true rfl) rfl ?_
      refine ab_goto (tgt := 23) dX11_rests_96 (by decide) ?_
      refine ab_sub [0, 1, 2, 3] rfl ?_
      exact hk23 (a3 + 1) X4 h
    · have h := sat_f hc2 h
      refine ab_aloadn 0 dX11_rests_65 rfl ?_
      refine f_gr (x := 36) (k2 := 10) (i2 := 0) (j2 := 11) ⟨by decide, by decide⟩ rfl rfl (Nat.le_of_ble_eq_true rfl) wd_452 rfl rfl dX11_rests_66 ?_
      refine ab_bipush (v := 8) dX11_rests_69 (by decide) ?_
      refine ab_iloadn 3 dX11_rests_71 rfl ?_
      refine ab_imul dX11_rests_72 ?_
      refine ab_iload 4 dX11_rests_73 rfl ?_
      refine ab_iadd dX11_rests_75 ?_
      refine ab_aloadn 0 dX11_rests_76 rfl ?_
      refine ab_iload 4 dX11_rests_77 rfl ?_
      refine fX_Vi (mtc := mt_X11_wealth) (As := [.int a4]) h (fun Q h => ct_X11_wealth a4 X h) ⟨by decide, by decide⟩ rfl rfl rfl mw_X11_wealth wd_446 rfl rfl ⟨Nat.le_of_ble_eq_true rfl, Nat.le_of_ble_eq_true rfl⟩ ⟨Nat.zero_le _, Nat.zero_le _⟩ (Nat.le_of_ble_eq_true rfl) rfl dX11_rests_79 (fun v5 X6 h => ?_)
      refine fX_iast ⟨by decide, by decide⟩ rfl (fun _ => rfl) h dX11_rests_82 (fun X7 h => ?_)
      refine ab_iinc (q := 4) (v := (a4 + 1)) (lv' := [(0, .ref (gA G 10 0 0)), (1, .int a1), (2, .int a2), (3, .int a3), (4, .int (a4 + 1))]) dX11_rests_83 rfl rfl rfl (Nat.le_of_ble_eq_true rfl) rfl ?_
      refine ab_goto (tgt := 54) dX11_rests_86 (by decide) ?_
      exact ih (a4 + 1) X7 h
set_option maxRecDepth 8000 in
theorem t_X11_rests_23 {l : Launch} {G : GX} {C : CM} {Q : Int32 → Mem → Prop} (N : Nat) (a1 : Int32) (a2 : Int32) : ∀ (n : Nat) (a3 : Int32) (X : XM), SAT (f_X11_rests_23 N a1 a2 n a3 X) (fun v c => Q v (C, c)) → AB l G (rmD 7) 0 0 mt_X11_rests (ZQ G mt_X11_rests Q) 23 [(0, .ref (gA G 10 0 0)), (1, .int a1), (2, .int a2), (3, .int a3)] [] (C, X) := by
  intro n
  induction n with
  | zero => intro a3 X h; exact h.elim
  | succ n ih =>
    intro a3 X h
    rw [f_X11_rests_23] at h
    refine ab_iloadn 3 dX11_rests_23 rfl ?_
    refine ab_iloadn 2 dX11_rests_24 rfl ?_
    refine ab_icmp_gt (tgt := 99) dX11_rests_25 (by decide) (fun hc1 => ?_) (fun hc1 => ?_)
    · have h := sat_t hc1 h
      refine ab_iconst (v := 0) dX11_rests_99 (by decide) ?_
      refine ab_istoren (lv' := [(0, .ref (gA G 10 0 0)), (1, .int a1), (2, .int a2), (3, .int 0)]) dX11_rests_100 rfl (Nat.le_of_ble_eq_true rfl) rfl ?_
      refine ab_iconst (v := 0) dX11_rests_101 (by decide) ?_
      refine ab_istore (lv' := [(0, .ref (gA G 10 0 0)), (1, .int a1), (2, .int a2), (3, .int 0), (4, .int 0)]) dX11_rests_102 rfl (Nat.le_of_ble_eq_true rfl) rfl ?_
      exact t_X11_rests_104 N a1 a2 N 0 0 X h
    · have h := sat_f hc1 h
      refine ab_iloadn 3 dX11_rests_28 rfl ?_
      refine ab_iloadn 2 dX11_rests_29 rfl ?_
      refine ab_iconst (v := (-1)) dX11_rests_30 (by decide) ?_
      refine ab_ixor dX11_rests_31 ?_
      refine ab_iand dX11_rests_32 ?_
      refine ab_if_eq (tgt := 39) dX11_rests_33 (by decide) (fun hc2 => ?_) (fun hc2 => ?_)
      · have h := sat_t hc2 h
        refine ab_aloadn 0 dX11_rests_39 rfl ?_
        refine ab_iloadn 3 dX11_rests_40 rfl ?_
        refine fX_Vv (mtc := mt_X11_fenced) (As := [.int a3]) h (fun Q h => ct_X11_fenced N a3 X h) ⟨by decide, by decide⟩ rfl rfl rfl mw_X11_fenced wd_451 rfl rfl ⟨Nat.le_of_ble_eq_true rfl, Nat.le_of_ble_eq_true rfl⟩ ⟨Nat.zero_le _, Nat.zero_le _⟩ (Nat.le_of_ble_eq_true rfl) rfl dX11_rests_41 (fun v3 X4 h => ?_)
        refine ab_aloadn 0 dX11_rests_44 rfl ?_
        refine ab_bipush (v := 48) dX11_rests_45 (by decide) ?_
        refine fX_Vi (mtc := mt_X11_goes) (As := [.int 48]) h (fun Q h => ct_X11_goes N 48 X4 h) ⟨by decide, by decide⟩ rfl rfl rfl mw_X11_goes wd_438 rfl rfl ⟨Nat.le_of_ble_eq_true rfl, Nat.le_of_ble_eq_true rfl⟩ ⟨Nat.zero_le _, Nat.zero_le _⟩ (Nat.le_of_ble_eq_true rfl) rfl dX11_rests_47 (fun v5 X6 h => ?_)
        refine ab_pop dX11_rests_50 rfl ?_
        refine ab_iconst (v := 0) dX11_rests_51 (by decide) ?_
        refine ab_istore (lv' := [(0, .ref (gA G 10 0 0)), (1, .int a1), (2, .int a2), (3, .int a3), (4, .int 0)]) dX11_rests_52 rfl (Nat.le_of_ble_eq_true rfl) rfl ?_
        exact t_X11_rests_54 N (fun z3 c => f_X11_rests_23 N a1 a2 n z3 c) a1 a2 a3 ih N 0 X6 h
      · have h := sat_f hc2 h
        refine ab_goto (tgt := 93) dX11_rests_36 (by decide) ?_
        refine ab_iinc (q := 3) (v := (a3 + 1)) (lv' := [(0, .ref (gA G 10 0 0)), (1, .int a1), (2, .int a2), (3, .int (a3 + 1))]) dX11_rests_93 rfl rfl rfl (Nat.le_of_ble_eq_true rfl) rfl ?_
        refine ab_goto (tgt := 23) dX11_rests_96 (by decide) ?_
        exact ih (a3 + 1) X h
set_option maxRecDepth 8000 in
theorem t_X11_rests_0 {l : Launch} {G : GX} {C : CM} {Q : Int32 → Mem → Prop} (N : Nat) (a1 : Int32) (X : XM) (h : SAT (f_X11_rests N a1 X) (fun v c => Q v (C, c))) : AB l G (rmD 7) 0 0 mt_X11_rests (ZQ G mt_X11_rests Q) 0 [(0, .ref (gA G 10 0 0)), (1, .int a1)] [] (C, X) := by
  unfold f_X11_rests at h
  refine ab_aloadn 0 dX11_rests_0 rfl ?_
  refine ab_iconst (v := 0) dX11_rests_1 (by decide) ?_
  refine fX_pi (x := 0) (ty := .int) ⟨by decide, by decide⟩ rfl rfl (Nat.le_of_ble_eq_true rfl) wd_344 rfl h rfl (by decide +kernel) rfl rfl dX11_rests_2 (fun X1 h => ?_)
  refine ab_iloadn 1 dX11_rests_5 rfl ?_
  refine ab_iconst (v := (-1)) dX11_rests_6 (by decide) ?_
  refine ab_icmp_ge (tgt := 12) dX11_rests_7 (by decide) (fun hc2 => ?_) (fun hc2 => ?_)
  · have h := sat_t hc2 h
    refine ab_aloadn 0 dX11_rests_12 rfl ?_
    refine fX_Vi (mtc := mt_X11_plotters) (As := []) h (fun Q h => ct_X11_plotters N X1 h) ⟨by decide, by decide⟩ rfl rfl rfl mw_X11_plotters wd_450 rfl rfl ⟨Nat.le_of_ble_eq_true rfl, Nat.le_of_ble_eq_true rfl⟩ ⟨Nat.zero_le _, Nat.zero_le _⟩ (Nat.le_of_ble_eq_true rfl) rfl dX11_rests_13 (fun v3 X4 h => ?_)
    refine ab_istoren (lv' := [(0, .ref (gA G 10 0 0)), (1, .int a1), (2, .int v3)]) dX11_rests_16 rfl (Nat.le_of_ble_eq_true rfl) rfl ?_
    refine ab_aloadn 0 dX11_rests_17 rfl ?_
    refine fX_Vv (mtc := mt_X11_tries) (As := []) h (fun Q h => ct_X11_tries N X4 h) ⟨by decide, by decide⟩ rfl rfl rfl mw_X11_tries wd_424 rfl rfl ⟨Nat.le_of_ble_eq_true rfl, Nat.le_of_ble_eq_true rfl⟩ ⟨Nat.zero_le _, Nat.zero_le _⟩ (Nat.le_of_ble_eq_true rfl) rfl dX11_rests_18 (fun v5 X6 h => ?_)
    refine ab_iconst (v := 0) dX11_rests_21 (by decide) ?_
    refine ab_istoren (lv' := [(0, .ref (gA G 10 0 0)), (1, .int a1), (2, .int v3), (3, .int 0)]) dX11_rests_22 rfl (Nat.le_of_ble_eq_true rfl) rfl ?_
    exact t_X11_rests_23 N a1 v3 N 0 X6 h
  · have h := sat_f hc2 h
    refine ab_iconst (v := (-1)) dX11_rests_10 (by decide) ?_
    exact fX_iret h rfl rfl dX11_rests_11
theorem ct_X11_rests {l : Launch} {G : GX} {C : CM} {Q : Int32 → Mem → Prop} (N : Nat) (a1 : Int32) (X : XM) (h : SAT (f_X11_rests N a1 X) (fun v c => Q v (C, c))) : CT l G 7 mt_X11_rests [.ref (gA G 10 0 0), .int a1] (C, X) Q := ct_of pn_X11 (Nat.le_of_ble_eq_true rfl) (t_X11_rests_0 N a1 X h)
def f_X11_octet (a1 : Int32) (X : XM) : Option (Int32 × XM) := ldA (X.1 1) 940 a1 (fun v1 => (rt (v1 &&& 255) X))
set_option maxRecDepth 8000 in
theorem t_X11_octet_0 {l : Launch} {G : GX} {C : CM} {Q : Int32 → Mem → Prop} (a1 : Int32) (X : XM) (h : SAT (f_X11_octet a1 X) (fun v c => Q v (C, c))) : AB l G (rmD 1) 0 0 mt_X11_octet (ZQ G mt_X11_octet Q) 0 [(0, .ref (gA G 10 0 0)), (1, .int a1)] [] (C, X) := by
  unfold f_X11_octet at h
  refine ab_aloadn 0 dX11_octet_0 rfl ?_
  refine f_gr (x := 1) (k2 := 10) (i2 := 0) (j2 := 1) ⟨by decide, by decide⟩ rfl rfl (Nat.le_of_ble_eq_true rfl) wd_346 rfl rfl dX11_octet_1 ?_
  refine ab_iloadn 1 dX11_octet_4 rfl ?_
  refine fX_bald ⟨by decide, by decide⟩ rfl (fun _ => rfl) h dX11_octet_5 (fun v1 h => ?_)
  refine ab_sipush (v := 255) dX11_octet_6 (by decide) ?_
  refine ab_iand dX11_octet_9 ?_
  exact fX_iret h rfl rfl dX11_octet_10
theorem ct_X11_octet {l : Launch} {G : GX} {C : CM} {Q : Int32 → Mem → Prop} (a1 : Int32) (X : XM) (h : SAT (f_X11_octet a1 X) (fun v c => Q v (C, c))) : CT l G 1 mt_X11_octet [.ref (gA G 10 0 0), .int a1] (C, X) Q := ct_of pn_X11 (Nat.le_of_ble_eq_true rfl) (t_X11_octet_0 a1 X h)
def f_X11_areOiled_81 (N : Nat) (k40 : Int32 → Int32 → XM → Option (Int32 × XM)) (a5 : Int32) (as0 : Int32) (X : XM) : Option (Int32 × XM) := (k40 as0 (a5 + 1) X)
def f_X11_areOiled_80 (N : Nat) (k40 : Int32 → Int32 → XM → Option (Int32 × XM)) (a5 : Int32) (X : XM) : Option (Int32 × XM) := (f_X11_areOiled_81 N k40 a5 0 X)
def f_X11_areOiled_40 (N : Nat) : Nat → Int32 → Int32 → XM → Option (Int32 × XM)
  | 0, _, _, _ => none
  | n + 1, a4, a5, X => ldA (X.1 2) 845 2 (fun v1 => (if v1 ≤ a5 then (chk (isB a4) (rt a4 X)) else (if a4 = 0 then (f_X11_areOiled_80 N (fun z4 z5 c => f_X11_areOiled_40 N n z4 z5 c) a5 X) else ldA (X.1 2) 845 (397 + a5) (fun v4 => cal (f_X11_octet a5 X) (fun v5 X6 => (if v4 = v5 then (f_X11_areOiled_81 N (fun z4 z5 c => f_X11_areOiled_40 N n z4 z5 c) a5 1 X6) else (f_X11_areOiled_80 N (fun z4 z5 c => f_X11_areOiled_40 N n z4 z5 c) a5 X6)))))))
def f_X11_areOiled_24 (N : Nat) (k7 : Int32 → XM → Option (Int32 × XM)) (a1 : Int32) (a2 : Int32) (a3 : Int32) (a4 : Int32) (X : XM) : Option (Int32 × XM) := cal (f_X11_quarter N X) (fun v1 X2 => (k7 (a4 + 1) X2))
def f_X11_areOiled_7 (N : Nat) (a1 : Int32) (a2 : Int32) (a3 : Int32) : Nat → Int32 → XM → Option (Int32 × XM)
  | 0, _, _ => none
  | n + 1, a4, X => (if a3 ≤ a4 then (f_X11_areOiled_40 N N 1 0 X) else (if a4 = a2 then cal (f_X11_oils a1 X) (fun v3 X4 => (f_X11_areOiled_24 N (fun z4 c => f_X11_areOiled_7 N a1 a2 a3 n z4 c) a1 a2 a3 a4 X4)) else (f_X11_areOiled_24 N (fun z4 c => f_X11_areOiled_7 N a1 a2 a3 n z4 c) a1 a2 a3 a4 X)))
def f_X11_areOiled (N : Nat) (a1 : Int32) (a2 : Int32) (a3 : Int32) (X : XM) : Option (Int32 × XM) := cal (f_X11_begins N X) (fun v1 X2 => (f_X11_areOiled_7 N a1 a2 a3 N 0 X2))
set_option maxRecDepth 8000 in
theorem t_X11_areOiled_81 {l : Launch} {G : GX} {C : CM} {Q : Int32 → Mem → Prop} (N : Nat) (k40 : Int32 → Int32 → XM → Option (Int32 × XM)) (a5 : Int32) (as0 : Int32) (hk40 : ∀ (ac4 : Int32) (ac5 : Int32) (X : XM), SAT (k40 ac4 ac5 X) (fun v c => Q v (C, c)) → AB l G (rmD 6) 0 0 mt_X11_areOiled (ZQ G mt_X11_areOiled Q) 40 [(0, .ref (gA G 10 0 0)), (4, .int ac4), (5, .int ac5)] [] (C, X)) (X : XM) (h : SAT (f_X11_areOiled_81 N k40 a5 as0 X) (fun v c => Q v (C, c))) : AB l G (rmD 6) 0 0 mt_X11_areOiled (ZQ G mt_X11_areOiled Q) 81 [(0, .ref (gA G 10 0 0)), (5, .int a5)] [.int as0] (C, X) := by
  unfold f_X11_areOiled_81 at h
  refine ab_istore (lv' := [(0, .ref (gA G 10 0 0)), (5, .int a5), (4, .int as0)]) dX11_areOiled_81 rfl (Nat.le_of_ble_eq_true rfl) rfl ?_
  refine ab_iinc (q := 1) (v := (a5 + 1)) (lv' := [(0, .ref (gA G 10 0 0)), (5, .int (a5 + 1)), (4, .int as0)]) dX11_areOiled_83 rfl rfl rfl (Nat.le_of_ble_eq_true rfl) rfl ?_
  refine ab_goto (tgt := 40) dX11_areOiled_86 (by decide) ?_
  refine ab_sub [0, 2, 1] rfl ?_
  exact hk40 as0 (a5 + 1) X h
set_option maxRecDepth 8000 in
theorem t_X11_areOiled_80 {l : Launch} {G : GX} {C : CM} {Q : Int32 → Mem → Prop} (N : Nat) (k40 : Int32 → Int32 → XM → Option (Int32 × XM)) (a5 : Int32) (hk40 : ∀ (ac4 : Int32) (ac5 : Int32) (X : XM), SAT (k40 ac4 ac5 X) (fun v c => Q v (C, c)) → AB l G (rmD 6) 0 0 mt_X11_areOiled (ZQ G mt_X11_areOiled Q) 40 [(0, .ref (gA G 10 0 0)), (4, .int ac4), (5, .int ac5)] [] (C, X)) (X : XM) (h : SAT (f_X11_areOiled_80 N k40 a5 X) (fun v c => Q v (C, c))) : AB l G (rmD 6) 0 0 mt_X11_areOiled (ZQ G mt_X11_areOiled Q) 80 [(0, .ref (gA G 10 0 0)), (5, .int a5)] [] (C, X) := by
  unfold f_X11_areOiled_80 at h
  refine ab_iconst (v := 0) dX11_areOiled_80 (by decide) ?_
  exact t_X11_areOiled_81 N k40 a5 0 hk40 X h
set_option maxRecDepth 8000 in
theorem t_X11_areOiled_40 {l : Launch} {G : GX} {C : CM} {Q : Int32 → Mem → Prop} (N : Nat) : ∀ (n : Nat) (a4 : Int32) (a5 : Int32) (X : XM), SAT (f_X11_areOiled_40 N n a4 a5 X) (fun v c => Q v (C, c)) → AB l G (rmD 6) 0 0 mt_X11_areOiled (ZQ G mt_X11_areOiled Q) 40 [(0, .ref (gA G 10 0 0)), (4, .int a4), (5, .int a5)] [] (C, X) := by
  intro n
  induction n with
  | zero => intro a4 a5 X h; exact h.elim
  | succ n ih =>
    intro a4 a5 X h
    rw [f_X11_areOiled_40] at h
    refine ab_iload 2 dX11_areOiled_40 rfl ?_
    refine ab_aloadn 0 dX11_areOiled_42 rfl ?_
    refine f_gr (x := 6) (k2 := 10) (i2 := 0) (j2 := 2) ⟨by decide, by decide⟩ rfl rfl (Nat.le_of_ble_eq_true rfl) wd_406 rfl rfl dX11_areOiled_43 ?_
    refine ab_iconst (v := 2) dX11_areOiled_46 (by decide) ?_
    refine fX_iald ⟨by decide, by decide⟩ rfl (fun _ => rfl) h dX11_areOiled_47 (fun v1 h => ?_)
    refine ab_icmp_ge (tgt := 89) dX11_areOiled_48 (by decide) (fun hc2 => ?_) (fun hc2 => ?_)
    · have h := sat_t hc2 h
      refine ab_iload 1 dX11_areOiled_89 rfl ?_
      exact fX_iretb h rfl dX11_areOiled_91
    · have h := sat_f hc2 h
      refine ab_iload 1 dX11_areOiled_51 rfl ?_
      refine ab_if_eq (tgt := 80) dX11_areOiled_53 (by decide) (fun hc3 => ?_) (fun hc3 => ?_)
      · have h := sat_t hc3 h
        refine ab_sub [0, 2] rfl ?_
        exact t_X11_areOiled_80 N (fun z4 z5 c => f_X11_areOiled_40 N n z4 z5 c) a5 ih X h
      · have h := sat_f hc3 h
        refine ab_aloadn 0 dX11_areOiled_56 rfl ?_
        refine f_gr (x := 6) (k2 := 10) (i2 := 0) (j2 := 2) ⟨by decide, by decide⟩ rfl rfl (Nat.le_of_ble_eq_true rfl) wd_406 rfl rfl dX11_areOiled_57 ?_
        refine ab_sipush (v := 397) dX11_areOiled_60 (by decide) ?_
        refine ab_iload 2 dX11_areOiled_63 rfl ?_
        refine ab_iadd dX11_areOiled_65 ?_
        refine fX_iald ⟨by decide, by decide⟩ rfl (fun _ => rfl) h dX11_areOiled_66 (fun v4 h => ?_)
        refine ab_aloadn 0 dX11_areOiled_67 rfl ?_
        refine ab_iload 2 dX11_areOiled_68 rfl ?_
        refine fX_Vi (mtc := mt_X11_octet) (As := [.int a5]) h (fun Q h => ct_X11_octet a5 X h) ⟨by decide, by decide⟩ rfl rfl rfl mw_X11_octet wd_453 rfl rfl ⟨Nat.le_of_ble_eq_true rfl, Nat.le_of_ble_eq_true rfl⟩ ⟨Nat.zero_le _, Nat.zero_le _⟩ (Nat.le_of_ble_eq_true rfl) rfl dX11_areOiled_70 (fun v5 X6 h => ?_)
        refine ab_icmp_ne (tgt := 80) dX11_areOiled_73 (by decide) (fun hc7 => ?_) (fun hc7 => ?_)
        · have h := sat_f hc7 h
          refine ab_sub [0, 2] rfl ?_
          exact t_X11_areOiled_80 N (fun z4 z5 c => f_X11_areOiled_40 N n z4 z5 c) a5 ih X6 h
        · have h := sat_t hc7 h
          refine ab_iconst (v := 1) dX11_areOiled_76 (by decide) ?_
          refine ab_goto (tgt := 81) dX11_areOiled_77 (by decide) ?_
          refine ab_sub [0, 2] rfl ?_
          exact t_X11_areOiled_81 N (fun z4 z5 c => f_X11_areOiled_40 N n z4 z5 c) a5 1 ih X6 h
set_option maxRecDepth 8000 in
theorem t_X11_areOiled_24 {l : Launch} {G : GX} {C : CM} {Q : Int32 → Mem → Prop} (N : Nat) (k7 : Int32 → XM → Option (Int32 × XM)) (a1 : Int32) (a2 : Int32) (a3 : Int32) (a4 : Int32) (hk7 : ∀ (ac4 : Int32) (X : XM), SAT (k7 ac4 X) (fun v c => Q v (C, c)) → AB l G (rmD 6) 0 0 mt_X11_areOiled (ZQ G mt_X11_areOiled Q) 7 [(0, .ref (gA G 10 0 0)), (1, .int a1), (2, .int a2), (3, .int a3), (4, .int ac4)] [] (C, X)) (X : XM) (h : SAT (f_X11_areOiled_24 N k7 a1 a2 a3 a4 X) (fun v c => Q v (C, c))) : AB l G (rmD 6) 0 0 mt_X11_areOiled (ZQ G mt_X11_areOiled Q) 24 [(0, .ref (gA G 10 0 0)), (1, .int a1), (2, .int a2), (3, .int a3), (4, .int a4)] [] (C, X) := by
  unfold f_X11_areOiled_24 at h
  refine ab_aloadn 0 dX11_areOiled_24 rfl ?_
  refine fX_Vv (mtc := mt_X11_quarter) (As := []) h (fun Q h => ct_X11_quarter N X h) ⟨by decide, by decide⟩ rfl rfl rfl mw_X11_quarter wd_437 rfl rfl ⟨Nat.le_of_ble_eq_true rfl, Nat.le_of_ble_eq_true rfl⟩ ⟨Nat.zero_le _, Nat.zero_le _⟩ (Nat.le_of_ble_eq_true rfl) rfl dX11_areOiled_25 (fun v1 X2 h => ?_)
  refine ab_iinc (q := 4) (v := (a4 + 1)) (lv' := [(0, .ref (gA G 10 0 0)), (1, .int a1), (2, .int a2), (3, .int a3), (4, .int (a4 + 1))]) dX11_areOiled_28 rfl rfl rfl (Nat.le_of_ble_eq_true rfl) rfl ?_
  refine ab_goto (tgt := 7) dX11_areOiled_31 (by decide) ?_
  exact hk7 (a4 + 1) X2 h
set_option maxRecDepth 8000 in
theorem t_X11_areOiled_7 {l : Launch} {G : GX} {C : CM} {Q : Int32 → Mem → Prop} (N : Nat) (a1 : Int32) (a2 : Int32) (a3 : Int32) : ∀ (n : Nat) (a4 : Int32) (X : XM), SAT (f_X11_areOiled_7 N a1 a2 a3 n a4 X) (fun v c => Q v (C, c)) → AB l G (rmD 6) 0 0 mt_X11_areOiled (ZQ G mt_X11_areOiled Q) 7 [(0, .ref (gA G 10 0 0)), (1, .int a1), (2, .int a2), (3, .int a3), (4, .int a4)] [] (C, X) := by
  intro n
  induction n with
  | zero => intro a4 X h; exact h.elim
  | succ n ih =>
    intro a4 X h
    rw [f_X11_areOiled_7] at h
    refine ab_iload 4 dX11_areOiled_7 rfl ?_
    refine ab_iloadn 3 dX11_areOiled_9 rfl ?_
    refine ab_icmp_ge (tgt := 34) dX11_areOiled_10 (by decide) (fun hc1 => ?_) (fun hc1 => ?_)
    · have h := sat_t hc1 h
      refine ab_iconst (v := 1) dX11_areOiled_34 (by decide) ?_
      refine ab_istore (lv' := [(0, .ref (gA G 10 0 0)), (1, .int a1), (2, .int a2), (3, .int a3), (4, .int 1)]) dX11_areOiled_35 rfl (Nat.le_of_ble_eq_true rfl) rfl ?_
      refine ab_iconst (v := 0) dX11_areOiled_37 (by decide) ?_
      refine ab_istore (lv' := [(0, .ref (gA G 10 0 0)), (1, .int a1), (2, .int a2), (3, .int a3), (4, .int 1), (5, .int 0)]) dX11_areOiled_38 rfl (Nat.le_of_ble_eq_true rfl) rfl ?_
      refine ab_sub [0, 4, 5] rfl ?_
      exact t_X11_areOiled_40 N N 1 0 X h
    · have h := sat_f hc1 h
      refine ab_iload 4 dX11_areOiled_13 rfl ?_
      refine ab_iloadn 2 dX11_areOiled_15 rfl ?_
      refine ab_icmp_ne (tgt := 24) dX11_areOiled_16 (by decide) (fun hc2 => ?_) (fun hc2 => ?_)
      · have h := sat_f hc2 h
        exact t_X11_areOiled_24 N (fun z4 c => f_X11_areOiled_7 N a1 a2 a3 n z4 c) a1 a2 a3 a4 ih X h
      · have h := sat_t hc2 h
        refine ab_aloadn 0 dX11_areOiled_19 rfl ?_
        refine ab_iloadn 1 dX11_areOiled_20 rfl ?_
        refine fX_Vv (mtc := mt_X11_oils) (As := [.int a1]) h (fun Q h => ct_X11_oils a1 X h) ⟨by decide, by decide⟩ rfl rfl rfl mw_X11_oils wd_443 rfl rfl ⟨Nat.le_of_ble_eq_true rfl, Nat.le_of_ble_eq_true rfl⟩ ⟨Nat.zero_le _, Nat.zero_le _⟩ (Nat.le_of_ble_eq_true rfl) rfl dX11_areOiled_21 (fun v3 X4 h => ?_)
        exact t_X11_areOiled_24 N (fun z4 c => f_X11_areOiled_7 N a1 a2 a3 n z4 c) a1 a2 a3 a4 ih X4 h
set_option maxRecDepth 8000 in
theorem t_X11_areOiled_0 {l : Launch} {G : GX} {C : CM} {Q : Int32 → Mem → Prop} (N : Nat) (a1 : Int32) (a2 : Int32) (a3 : Int32) (X : XM) (h : SAT (f_X11_areOiled N a1 a2 a3 X) (fun v c => Q v (C, c))) : AB l G (rmD 6) 0 0 mt_X11_areOiled (ZQ G mt_X11_areOiled Q) 0 [(0, .ref (gA G 10 0 0)), (1, .int a1), (2, .int a2), (3, .int a3)] [] (C, X) := by
  unfold f_X11_areOiled at h
  refine ab_aloadn 0 dX11_areOiled_0 rfl ?_
  refine fX_Vv (mtc := mt_X11_begins) (As := []) h (fun Q h => ct_X11_begins N X h) ⟨by decide, by decide⟩ rfl rfl rfl mw_X11_begins wd_407 rfl rfl ⟨Nat.le_of_ble_eq_true rfl, Nat.le_of_ble_eq_true rfl⟩ ⟨Nat.zero_le _, Nat.zero_le _⟩ (Nat.le_of_ble_eq_true rfl) rfl dX11_areOiled_1 (fun v1 X2 h => ?_)
  refine ab_iconst (v := 0) dX11_areOiled_4 (by decide) ?_
  refine ab_istore (lv' := [(0, .ref (gA G 10 0 0)), (1, .int a1), (2, .int a2), (3, .int a3), (4, .int 0)]) dX11_areOiled_5 rfl (Nat.le_of_ble_eq_true rfl) rfl ?_
  exact t_X11_areOiled_7 N a1 a2 a3 N 0 X2 h
theorem ct_X11_areOiled {l : Launch} {G : GX} {C : CM} {Q : Int32 → Mem → Prop} (N : Nat) (a1 : Int32) (a2 : Int32) (a3 : Int32) (X : XM) (h : SAT (f_X11_areOiled N a1 a2 a3 X) (fun v c => Q v (C, c))) : CT l G 6 mt_X11_areOiled [.ref (gA G 10 0 0), .int a1, .int a2, .int a3] (C, X) Q := ct_of pn_X11 (Nat.le_of_ble_eq_true rfl) (t_X11_areOiled_0 N a1 a2 a3 X h)
def f_X11_oiled_94 (N : Nat) (k81 : Int32 → Int32 → XM → Option (Int32 × XM)) (a1 : Int32) (a3 : Int32) : Nat → Int32 → Int32 → XM → Option (Int32 × XM)
  | 0, _, _, _ => none
  | n + 1, a2, a4, X => (if a1 ≤ a4 then (k81 a2 (a3 + 1) X) else cal (f_X11_areOiled N a3 a4 a1 X) (fun v2 X3 => (if v2 = 0 then (f_X11_oiled_94 N k81 a1 a3 n a2 (a4 + 1) X3) else sxA X3 12 384 a2 ((100 * a3) + a4) (fun X5 => (f_X11_oiled_94 N k81 a1 a3 n (a2 + 1) (a4 + 1) X5)))))
def f_X11_oiled_81 (N : Nat) (a1 : Int32) : Nat → Int32 → Int32 → XM → Option (Int32 × XM)
  | 0, _, _, _ => none
  | n + 1, a2, a3, X => ldA (X.1 2) 845 2 (fun v1 => (if v1 ≤ a3 then cal (f_X11_back N X) (fun v3 X4 => bnd (stX X4 0 38 a2) (fun X5 => (rt a2 X5))) else (f_X11_oiled_94 N (fun z2 z3 c => f_X11_oiled_81 N a1 n z2 z3 c) a1 a3 N a2 0 X)))
def f_X11_oiled_38 (N : Nat) : Nat → Int32 → XM → Option (Int32 × XM)
  | 0, _, _ => none
  | n + 1, a1, X => (if (X.1 0 3) ≤ a1 then cal (f_X11_tries N X) (fun v2 X3 => ldA (X3.1 2) 845 371 (fun v4 => (f_X11_oiled_81 N v4 N 0 0 X3))) else cal (f_X11_octet a1 X) (fun v5 X6 => (if v5 ≤ 7 then (f_X11_oiled_38 N n (a1 + 1) X6) else (rt (-1) X6))))
def f_X11_oiled (N : Nat) (X : XM) : Option (Int32 × XM) := bnd (stX X 0 0 0) (fun X1 => cal (f_X11_taken 940 X1) (fun v2 X3 => ldA (X3.1 2) 845 2 (fun v4 => (if v4 = 0 then (rt (-1) X3) else ldA (X3.1 2) 845 2 (fun v6 => (if (X3.1 0 3) = v6 then (f_X11_oiled_38 N N 0 X3) else (rt (-1) X3)))))))
set_option maxRecDepth 8000 in
theorem t_X11_oiled_94 {l : Launch} {G : GX} {C : CM} {Q : Int32 → Mem → Prop} (N : Nat) (k81 : Int32 → Int32 → XM → Option (Int32 × XM)) (a1 : Int32) (a3 : Int32) (hk81 : ∀ (ac2 : Int32) (ac3 : Int32) (X : XM), SAT (k81 ac2 ac3 X) (fun v c => Q v (C, c)) → AB l G (rmD 7) 0 0 mt_X11_oiled (ZQ G mt_X11_oiled Q) 81 [(0, .ref (gA G 10 0 0)), (1, .int a1), (2, .int ac2), (3, .int ac3)] [] (C, X)) : ∀ (n : Nat) (a2 : Int32) (a4 : Int32) (X : XM), SAT (f_X11_oiled_94 N k81 a1 a3 n a2 a4 X) (fun v c => Q v (C, c)) → AB l G (rmD 7) 0 0 mt_X11_oiled (ZQ G mt_X11_oiled Q) 94 [(0, .ref (gA G 10 0 0)), (1, .int a1), (2, .int a2), (3, .int a3), (4, .int a4)] [] (C, X) := by
  intro n
  induction n with
  | zero => intro a2 a4 X h; exact h.elim
  | succ n ih =>
    intro a2 a4 X h
    rw [f_X11_oiled_94] at h
    refine ab_iload 4 dX11_oiled_94 rfl ?_
    refine ab_iloadn 1 dX11_oiled_96 rfl ?_
    refine ab_icmp_ge (tgt := 136) dX11_oiled_97 (by decide) (fun hc1 => ?_) (fun hc1 => ?_)
    · have h := sat_t hc1 h
      refine ab_iinc (q := 3) (v := (a3 + 1)) (lv' := [(0, .ref (gA G 10 0 0)), (1, .int a1), (2, .int a2), (3, .int (a3 + 1)), (4, .int a4)]) dX11_oiled_136 rfl rfl rfl (Nat.le_of_ble_eq_true rfl) rfl ?_
      refine ab_goto (tgt := 81) dX11_oiled_139 (by decide) ?_
      refine ab_sub [0, 1, 2, 3] rfl ?_
      exact hk81 a2 (a3 + 1) X h
    · have h := sat_f hc1 h
      refine ab_aloadn 0 dX11_oiled_100 rfl ?_
      refine ab_iloadn 3 dX11_oiled_101 rfl ?_
      refine ab_iload 4 dX11_oiled_102 rfl ?_
      refine ab_iloadn 1 dX11_oiled_104 rfl ?_
      refine fX_Vi (mtc := mt_X11_areOiled) (As := [.int a3, .int a4, .int a1]) h (fun Q h => ct_X11_areOiled N a3 a4 a1 X h) ⟨by decide, by decide⟩ rfl rfl rfl mw_X11_areOiled wd_455 rfl rfl ⟨Nat.le_of_ble_eq_true rfl, Nat.le_of_ble_eq_true rfl⟩ ⟨Nat.zero_le _, Nat.zero_le _⟩ (Nat.le_of_ble_eq_true rfl) rfl dX11_oiled_105 (fun v2 X3 h => ?_)
      refine ab_if_ne (tgt := 114) dX11_oiled_108 (by decide) (fun hc4 => ?_) (fun hc4 => ?_)
      · have h := sat_f hc4 h
        refine ab_aloadn 0 dX11_oiled_114 rfl ?_
        refine f_gr (x := 37) (k2 := 10) (i2 := 0) (j2 := 12) ⟨by decide, by decide⟩ rfl rfl (Nat.le_of_ble_eq_true rfl) wd_456 rfl rfl dX11_oiled_115 ?_
        refine ab_iloadn 2 dX11_oiled_118 rfl ?_
        refine ab_bipush (v := 100) dX11_oiled_119 (by decide) ?_
        refine ab_iloadn 3 dX11_oiled_121 rfl ?_
        refine ab_imul dX11_oiled_122 ?_
        refine ab_iload 4 dX11_oiled_123 rfl ?_
        refine ab_iadd dX11_oiled_125 ?_
        refine fX_iast ⟨by decide, by decide⟩ rfl (fun _ => rfl) h dX11_oiled_126 (fun X5 h => ?_)
        refine ab_iinc (q := 2) (v := (a2 + 1)) (lv' := [(0, .ref (gA G 10 0 0)), (1, .int a1), (2, .int (a2 + 1)), (3, .int a3), (4, .int a4)]) dX11_oiled_127 rfl rfl rfl (Nat.le_of_ble_eq_true rfl) rfl ?_
        refine ab_iinc (q := 4) (v := (a4 + 1)) (lv' := [(0, .ref (gA G 10 0 0)), (1, .int a1), (2, .int (a2 + 1)), (3, .int a3), (4, .int (a4 + 1))]) dX11_oiled_130 rfl rfl rfl (Nat.le_of_ble_eq_true rfl) rfl ?_
        refine ab_goto (tgt := 94) dX11_oiled_133 (by decide) ?_
        exact ih (a2 + 1) (a4 + 1) X5 h
      · have h := sat_t hc4 h
        refine ab_goto (tgt := 130) dX11_oiled_111 (by decide) ?_
        refine ab_iinc (q := 4) (v := (a4 + 1)) (lv' := [(0, .ref (gA G 10 0 0)), (1, .int a1), (2, .int a2), (3, .int a3), (4, .int (a4 + 1))]) dX11_oiled_130 rfl rfl rfl (Nat.le_of_ble_eq_true rfl) rfl ?_
        refine ab_goto (tgt := 94) dX11_oiled_133 (by decide) ?_
        exact ih a2 (a4 + 1) X3 h
set_option maxRecDepth 8000 in
theorem t_X11_oiled_81 {l : Launch} {G : GX} {C : CM} {Q : Int32 → Mem → Prop} (N : Nat) (a1 : Int32) : ∀ (n : Nat) (a2 : Int32) (a3 : Int32) (X : XM), SAT (f_X11_oiled_81 N a1 n a2 a3 X) (fun v c => Q v (C, c)) → AB l G (rmD 7) 0 0 mt_X11_oiled (ZQ G mt_X11_oiled Q) 81 [(0, .ref (gA G 10 0 0)), (1, .int a1), (2, .int a2), (3, .int a3)] [] (C, X) := by
  intro n
  induction n with
  | zero => intro a2 a3 X h; exact h.elim
  | succ n ih =>
    intro a2 a3 X h
    rw [f_X11_oiled_81] at h
    refine ab_iloadn 3 dX11_oiled_81 rfl ?_
    refine ab_aloadn 0 dX11_oiled_82 rfl ?_
    refine f_gr (x := 6) (k2 := 10) (i2 := 0) (j2 := 2) ⟨by decide, by decide⟩ rfl rfl (Nat.le_of_ble_eq_true rfl) wd_406 rfl rfl dX11_oiled_83 ?_
    refine ab_iconst (v := 2) dX11_oiled_86 (by decide) ?_
    refine fX_iald ⟨by decide, by decide⟩ rfl (fun _ => rfl) h dX11_oiled_87 (fun v1 h => ?_)
    refine ab_icmp_ge (tgt := 142) dX11_oiled_88 (by decide) (fun hc2 => ?_) (fun hc2 => ?_)
    · have h := sat_t hc2 h
      refine ab_aloadn 0 dX11_oiled_142 rfl ?_
      refine fX_Vv (mtc := mt_X11_back) (As := []) h (fun Q h => ct_X11_back N X h) ⟨by decide, by decide⟩ rfl rfl rfl mw_X11_back wd_428 rfl rfl ⟨Nat.le_of_ble_eq_true rfl, Nat.le_of_ble_eq_true rfl⟩ ⟨Nat.zero_le _, Nat.zero_le _⟩ (Nat.le_of_ble_eq_true rfl) rfl dX11_oiled_143 (fun v3 X4 h => ?_)
      refine ab_aloadn 0 dX11_oiled_146 rfl ?_
      refine ab_iloadn 2 dX11_oiled_147 rfl ?_
      refine fX_pi (x := 38) (ty := .int) ⟨by decide, by decide⟩ rfl rfl (Nat.le_of_ble_eq_true rfl) wd_454 rfl h rfl (by decide +kernel) rfl rfl dX11_oiled_148 (fun X5 h => ?_)
      refine ab_iloadn 2 dX11_oiled_151 rfl ?_
      exact fX_iret h rfl rfl dX11_oiled_152
    · have h := sat_f hc2 h
      refine ab_iconst (v := 0) dX11_oiled_91 (by decide) ?_
      refine ab_istore (lv' := [(0, .ref (gA G 10 0 0)), (1, .int a1), (2, .int a2), (3, .int a3), (4, .int 0)]) dX11_oiled_92 rfl (Nat.le_of_ble_eq_true rfl) rfl ?_
      exact t_X11_oiled_94 N (fun z2 z3 c => f_X11_oiled_81 N a1 n z2 z3 c) a1 a3 ih N a2 0 X h
set_option maxRecDepth 8000 in
theorem t_X11_oiled_38 {l : Launch} {G : GX} {C : CM} {Q : Int32 → Mem → Prop} (N : Nat) : ∀ (n : Nat) (a1 : Int32) (X : XM), SAT (f_X11_oiled_38 N n a1 X) (fun v c => Q v (C, c)) → AB l G (rmD 7) 0 0 mt_X11_oiled (ZQ G mt_X11_oiled Q) 38 [(0, .ref (gA G 10 0 0)), (1, .int a1)] [] (C, X) := by
  intro n
  induction n with
  | zero => intro a1 X h; exact h.elim
  | succ n ih =>
    intro a1 X h
    rw [f_X11_oiled_38] at h
    refine ab_iloadn 1 dX11_oiled_38 rfl ?_
    refine ab_aloadn 0 dX11_oiled_39 rfl ?_
    refine fX_gi (x := 3) ⟨by decide, by decide⟩ rfl rfl (Nat.le_of_ble_eq_true rfl) wd_348 rfl dX11_oiled_40 ?_
    refine ab_icmp_ge (tgt := 64) dX11_oiled_43 (by decide) (fun hc1 => ?_) (fun hc1 => ?_)
    · have h := sat_t hc1 h
      refine ab_aloadn 0 dX11_oiled_64 rfl ?_
      refine fX_Vv (mtc := mt_X11_tries) (As := []) h (fun Q h => ct_X11_tries N X h) ⟨by decide, by decide⟩ rfl rfl rfl mw_X11_tries wd_424 rfl rfl ⟨Nat.le_of_ble_eq_true rfl, Nat.le_of_ble_eq_true rfl⟩ ⟨Nat.zero_le _, Nat.zero_le _⟩ (Nat.le_of_ble_eq_true rfl) rfl dX11_oiled_65 (fun v2 X3 h => ?_)
      refine ab_aloadn 0 dX11_oiled_68 rfl ?_
      refine f_gr (x := 6) (k2 := 10) (i2 := 0) (j2 := 2) ⟨by decide, by decide⟩ rfl rfl (Nat.le_of_ble_eq_true rfl) wd_406 rfl rfl dX11_oiled_69 ?_
      refine ab_sipush (v := 371) dX11_oiled_72 (by decide) ?_
      refine fX_iald ⟨by decide, by decide⟩ rfl (fun _ => rfl) h dX11_oiled_75 (fun v4 h => ?_)
      refine ab_istoren (lv' := [(0, .ref (gA G 10 0 0)), (1, .int v4)]) dX11_oiled_76 rfl (Nat.le_of_ble_eq_true rfl) rfl ?_
      refine ab_iconst (v := 0) dX11_oiled_77 (by decide) ?_
      refine ab_istoren (lv' := [(0, .ref (gA G 10 0 0)), (1, .int v4), (2, .int 0)]) dX11_oiled_78 rfl (Nat.le_of_ble_eq_true rfl) rfl ?_
      refine ab_iconst (v := 0) dX11_oiled_79 (by decide) ?_
      refine ab_istoren (lv' := [(0, .ref (gA G 10 0 0)), (1, .int v4), (2, .int 0), (3, .int 0)]) dX11_oiled_80 rfl (Nat.le_of_ble_eq_true rfl) rfl ?_
      exact t_X11_oiled_81 N v4 N 0 0 X3 h
    · have h := sat_f hc1 h
      refine ab_aloadn 0 dX11_oiled_46 rfl ?_
      refine ab_iloadn 1 dX11_oiled_47 rfl ?_
      refine fX_Vi (mtc := mt_X11_octet) (As := [.int a1]) h (fun Q h => ct_X11_octet a1 X h) ⟨by decide, by decide⟩ rfl rfl rfl mw_X11_octet wd_453 rfl rfl ⟨Nat.le_of_ble_eq_true rfl, Nat.le_of_ble_eq_true rfl⟩ ⟨Nat.zero_le _, Nat.zero_le _⟩ (Nat.le_of_ble_eq_true rfl) rfl dX11_oiled_48 (fun v5 X6 h => ?_)
      refine ab_bipush (v := 7) dX11_oiled_51 (by decide) ?_
      refine ab_icmp_le (tgt := 58) dX11_oiled_53 (by decide) (fun hc7 => ?_) (fun hc7 => ?_)
      · have h := sat_t hc7 h
        refine ab_iinc (q := 1) (v := (a1 + 1)) (lv' := [(0, .ref (gA G 10 0 0)), (1, .int (a1 + 1))]) dX11_oiled_58 rfl rfl rfl (Nat.le_of_ble_eq_true rfl) rfl ?_
        refine ab_goto (tgt := 38) dX11_oiled_61 (by decide) ?_
        exact ih (a1 + 1) X6 h
      · have h := sat_f hc7 h
        refine ab_iconst (v := (-1)) dX11_oiled_56 (by decide) ?_
        exact fX_iret h rfl rfl dX11_oiled_57
set_option maxRecDepth 8000 in
theorem t_X11_oiled_0 {l : Launch} {G : GX} {C : CM} {Q : Int32 → Mem → Prop} (N : Nat) (X : XM) (h : SAT (f_X11_oiled N X) (fun v c => Q v (C, c))) : AB l G (rmD 7) 0 0 mt_X11_oiled (ZQ G mt_X11_oiled Q) 0 [(0, .ref (gA G 10 0 0))] [] (C, X) := by
  unfold f_X11_oiled at h
  refine ab_aloadn 0 dX11_oiled_0 rfl ?_
  refine ab_iconst (v := 0) dX11_oiled_1 (by decide) ?_
  refine fX_pi (x := 0) (ty := .int) ⟨by decide, by decide⟩ rfl rfl (Nat.le_of_ble_eq_true rfl) wd_344 rfl h rfl (by decide +kernel) rfl rfl dX11_oiled_2 (fun X1 h => ?_)
  refine ab_aloadn 0 dX11_oiled_5 rfl ?_
  refine ab_sipush (v := 940) dX11_oiled_6 (by decide) ?_
  refine fX_Vv (mtc := mt_X11_taken) (As := [.int 940]) h (fun Q h => ct_X11_taken 940 X1 h) ⟨by decide, by decide⟩ rfl rfl rfl mw_X11_taken wd_351 rfl rfl ⟨Nat.le_of_ble_eq_true rfl, Nat.le_of_ble_eq_true rfl⟩ ⟨Nat.zero_le _, Nat.zero_le _⟩ (Nat.le_of_ble_eq_true rfl) rfl dX11_oiled_9 (fun v2 X3 h => ?_)
  refine ab_aloadn 0 dX11_oiled_12 rfl ?_
  refine f_gr (x := 6) (k2 := 10) (i2 := 0) (j2 := 2) ⟨by decide, by decide⟩ rfl rfl (Nat.le_of_ble_eq_true rfl) wd_406 rfl rfl dX11_oiled_13 ?_
  refine ab_iconst (v := 2) dX11_oiled_16 (by decide) ?_
  refine fX_iald ⟨by decide, by decide⟩ rfl (fun _ => rfl) h dX11_oiled_17 (fun v4 h => ?_)
  refine ab_if_eq (tgt := 34) dX11_oiled_18 (by decide) (fun hc5 => ?_) (fun hc5 => ?_)
  · have h := sat_t hc5 h
    refine ab_iconst (v := (-1)) dX11_oiled_34 (by decide) ?_
    exact fX_iret h rfl rfl dX11_oiled_35
  · have h := sat_f hc5 h
    refine ab_aloadn 0 dX11_oiled_21 rfl ?_
    refine fX_gi (x := 3) ⟨by decide, by decide⟩ rfl rfl (Nat.le_of_ble_eq_true rfl) wd_348 rfl dX11_oiled_22 ?_
    refine ab_aloadn 0 dX11_oiled_25 rfl ?_
    refine f_gr (x := 6) (k2 := 10) (i2 := 0) (j2 := 2) ⟨by decide, by decide⟩ rfl rfl (Nat.le_of_ble_eq_true rfl) wd_406 rfl rfl dX11_oiled_26 ?_
    refine ab_iconst (v := 2) dX11_oiled_29 (by decide) ?_
    refine fX_iald ⟨by decide, by decide⟩ rfl (fun _ => rfl) h dX11_oiled_30 (fun v6 h => ?_)
    refine ab_icmp_eq (tgt := 36) dX11_oiled_31 (by decide) (fun hc7 => ?_) (fun hc7 => ?_)
    · have h := sat_t hc7 h
      refine ab_iconst (v := 0) dX11_oiled_36 (by decide) ?_
      refine ab_istoren (lv' := [(0, .ref (gA G 10 0 0)), (1, .int 0)]) dX11_oiled_37 rfl (Nat.le_of_ble_eq_true rfl) rfl ?_
      exact t_X11_oiled_38 N N 0 X3 h
    · have h := sat_f hc7 h
      refine ab_iconst (v := (-1)) dX11_oiled_34 (by decide) ?_
      exact fX_iret h rfl rfl dX11_oiled_35
theorem ct_X11_oiled {l : Launch} {G : GX} {C : CM} {Q : Int32 → Mem → Prop} (N : Nat) (X : XM) (h : SAT (f_X11_oiled N X) (fun v c => Q v (C, c))) : CT l G 7 mt_X11_oiled [.ref (gA G 10 0 0)] (C, X) Q := ct_of pn_X11 (Nat.le_of_ble_eq_true rfl) (t_X11_oiled_0 N X h)
def f_X11_oiledAt (a1 : Int32) (X : XM) : Option (Int32 × XM) := bnd (stX X 0 0 0) (fun X1 => cal (f_X11_isIn a1 0 ((X1.1 0 38) - 1) X1) (fun v2 X3 => (if v2 = 0 then (rt (-1) X3) else ldA (X3.1 12) 384 a1 (fun v5 => (rt v5 X3)))))
set_option maxRecDepth 8000 in
theorem t_X11_oiledAt_0 {l : Launch} {G : GX} {C : CM} {Q : Int32 → Mem → Prop} (a1 : Int32) (X : XM) (h : SAT (f_X11_oiledAt a1 X) (fun v c => Q v (C, c))) : AB l G (rmD 2) 0 0 mt_X11_oiledAt (ZQ G mt_X11_oiledAt Q) 0 [(0, .ref (gA G 10 0 0)), (1, .int a1)] [] (C, X) := by
  unfold f_X11_oiledAt at h
  refine ab_aloadn 0 dX11_oiledAt_0 rfl ?_
  refine ab_iconst (v := 0) dX11_oiledAt_1 (by decide) ?_
  refine fX_pi (x := 0) (ty := .int) ⟨by decide, by decide⟩ rfl rfl (Nat.le_of_ble_eq_true rfl) wd_344 rfl h rfl (by decide +kernel) rfl rfl dX11_oiledAt_2 (fun X1 h => ?_)
  refine ab_iloadn 1 dX11_oiledAt_5 rfl ?_
  refine ab_iconst (v := 0) dX11_oiledAt_6 (by decide) ?_
  refine ab_aloadn 0 dX11_oiledAt_7 rfl ?_
  refine fX_gi (x := 38) ⟨by decide, by decide⟩ rfl rfl (Nat.le_of_ble_eq_true rfl) wd_454 rfl dX11_oiledAt_8 ?_
  refine ab_iconst (v := 1) dX11_oiledAt_11 (by decide) ?_
  refine ab_isub dX11_oiledAt_12 ?_
  refine fX_Si (mtc := mt_X11_isIn) (As := [.int a1, .int 0, .int ((X1.1 0 38) - 1)]) h (fun Q h => ct_X11_isIn a1 0 ((X1.1 0 38) - 1) X1 h) mw_X11_isIn wd_382 wd_383 rfl rfl ⟨Nat.le_of_ble_eq_true rfl, Nat.le_of_ble_eq_true rfl⟩ ⟨Nat.zero_le _, Nat.zero_le _⟩ (Nat.le_of_ble_eq_true rfl) rfl dX11_oiledAt_13 (fun v2 X3 h => ?_)
  refine ab_if_eq (tgt := 28) dX11_oiledAt_16 (by decide) (fun hc4 => ?_) (fun hc4 => ?_)
  · have h := sat_t hc4 h
    refine ab_iconst (v := (-1)) dX11_oiledAt_28 (by decide) ?_
    exact fX_iret h rfl rfl dX11_oiledAt_29
  · have h := sat_f hc4 h
    refine ab_aloadn 0 dX11_oiledAt_19 rfl ?_
    refine f_gr (x := 37) (k2 := 10) (i2 := 0) (j2 := 12) ⟨by decide, by decide⟩ rfl rfl (Nat.le_of_ble_eq_true rfl) wd_456 rfl rfl dX11_oiledAt_20 ?_
    refine ab_iloadn 1 dX11_oiledAt_23 rfl ?_
    refine fX_iald ⟨by decide, by decide⟩ rfl (fun _ => rfl) h dX11_oiledAt_24 (fun v5 h => ?_)
    refine ab_goto (tgt := 29) dX11_oiledAt_25 (by decide) ?_
    exact fX_iret h rfl rfl dX11_oiledAt_29
theorem ct_X11_oiledAt {l : Launch} {G : GX} {C : CM} {Q : Int32 → Mem → Prop} (a1 : Int32) (X : XM) (h : SAT (f_X11_oiledAt a1 X) (fun v c => Q v (C, c))) : CT l G 2 mt_X11_oiledAt [.ref (gA G 10 0 0), .int a1] (C, X) Q := ct_of pn_X11 (Nat.le_of_ble_eq_true rfl) (t_X11_oiledAt_0 a1 X h)
def f_X11_suit (N : Nat) (a1 : Int32) (a2 : Int32) (X : XM) : Option (Int32 × XM) := bnd (stX X 0 0 0) (fun X1 => cal (f_X11_isOwner a1 X1) (fun v2 X3 => (if v2 = 0 then (rt (-10001) X3) else cal (f_X11_isTree a2 X3) (fun v5 X6 => (if v5 = 0 then (rt (-10001) X6) else cal (f_X11_tries N X6) (fun v8 X9 => cal (f_X11_atLast N a1 X9) (fun v10 X11 => cal (f_X11_back N X11) (fun v12 X13 => sxA X13 2 845 (429 + a2) 0 (fun X14 => cal (f_X11_atLast N a1 X14) (fun v15 X16 => cal (f_X11_back N X16) (fun v17 X18 => (rt (v15 - v10) X18))))))))))))
set_option maxRecDepth 8000 in
theorem t_X11_suit_0 {l : Launch} {G : GX} {C : CM} {Q : Int32 → Mem → Prop} (N : Nat) (a1 : Int32) (a2 : Int32) (X : XM) (h : SAT (f_X11_suit N a1 a2 X) (fun v c => Q v (C, c))) : AB l G (rmD 8) 0 0 mt_X11_suit (ZQ G mt_X11_suit Q) 0 [(0, .ref (gA G 10 0 0)), (1, .int a1), (2, .int a2)] [] (C, X) := by
  unfold f_X11_suit at h
  refine ab_aloadn 0 dX11_suit_0 rfl ?_
  refine ab_iconst (v := 0) dX11_suit_1 (by decide) ?_
  refine fX_pi (x := 0) (ty := .int) ⟨by decide, by decide⟩ rfl rfl (Nat.le_of_ble_eq_true rfl) wd_344 rfl h rfl (by decide +kernel) rfl rfl dX11_suit_2 (fun X1 h => ?_)
  refine ab_aloadn 0 dX11_suit_5 rfl ?_
  refine ab_iloadn 1 dX11_suit_6 rfl ?_
  refine fX_Vi (mtc := mt_X11_isOwner) (As := [.int a1]) h (fun Q h => ct_X11_isOwner a1 X1 h) ⟨by decide, by decide⟩ rfl rfl rfl mw_X11_isOwner wd_413 rfl rfl ⟨Nat.le_of_ble_eq_true rfl, Nat.le_of_ble_eq_true rfl⟩ ⟨Nat.zero_le _, Nat.zero_le _⟩ (Nat.le_of_ble_eq_true rfl) rfl dX11_suit_7 (fun v2 X3 h => ?_)
  refine ab_if_eq (tgt := 21) dX11_suit_10 (by decide) (fun hc4 => ?_) (fun hc4 => ?_)
  · have h := sat_t hc4 h
    refine ab_sipush (v := (-10001)) dX11_suit_21 (by decide) ?_
    exact fX_iret h rfl rfl dX11_suit_24
  · have h := sat_f hc4 h
    refine ab_aloadn 0 dX11_suit_13 rfl ?_
    refine ab_iloadn 2 dX11_suit_14 rfl ?_
    refine fX_Vi (mtc := mt_X11_isTree) (As := [.int a2]) h (fun Q h => ct_X11_isTree a2 X3 h) ⟨by decide, by decide⟩ rfl rfl rfl mw_X11_isTree wd_442 rfl rfl ⟨Nat.le_of_ble_eq_true rfl, Nat.le_of_ble_eq_true rfl⟩ ⟨Nat.zero_le _, Nat.zero_le _⟩ (Nat.le_of_ble_eq_true rfl) rfl dX11_suit_15 (fun v5 X6 h => ?_)
    refine ab_if_ne (tgt := 25) dX11_suit_18 (by decide) (fun hc7 => ?_) (fun hc7 => ?_)
    · have h := sat_f hc7 h
      refine ab_aloadn 0 dX11_suit_25 rfl ?_
      refine fX_Vv (mtc := mt_X11_tries) (As := []) h (fun Q h => ct_X11_tries N X6 h) ⟨by decide, by decide⟩ rfl rfl rfl mw_X11_tries wd_424 rfl rfl ⟨Nat.le_of_ble_eq_true rfl, Nat.le_of_ble_eq_true rfl⟩ ⟨Nat.zero_le _, Nat.zero_le _⟩ (Nat.le_of_ble_eq_true rfl) rfl dX11_suit_26 (fun v8 X9 h => ?_)
      refine ab_aloadn 0 dX11_suit_29 rfl ?_
      refine ab_iloadn 1 dX11_suit_30 rfl ?_
      refine fX_Vi (mtc := mt_X11_atLast) (As := [.int a1]) h (fun Q h => ct_X11_atLast N a1 X9 h) ⟨by decide, by decide⟩ rfl rfl rfl mw_X11_atLast wd_447 rfl rfl ⟨Nat.le_of_ble_eq_true rfl, Nat.le_of_ble_eq_true rfl⟩ ⟨Nat.zero_le _, Nat.zero_le _⟩ (Nat.le_of_ble_eq_true rfl) rfl dX11_suit_31 (fun v10 X11 h => ?_)
      refine ab_istoren (lv' := [(0, .ref (gA G 10 0 0)), (1, .int a1), (2, .int a2), (3, .int v10)]) dX11_suit_34 rfl (Nat.le_of_ble_eq_true rfl) rfl ?_
      refine ab_aloadn 0 dX11_suit_35 rfl ?_
      refine fX_Vv (mtc := mt_X11_back) (As := []) h (fun Q h => ct_X11_back N X11 h) ⟨by decide, by decide⟩ rfl rfl rfl mw_X11_back wd_428 rfl rfl ⟨Nat.le_of_ble_eq_true rfl, Nat.le_of_ble_eq_true rfl⟩ ⟨Nat.zero_le _, Nat.zero_le _⟩ (Nat.le_of_ble_eq_true rfl) rfl dX11_suit_36 (fun v12 X13 h => ?_)
      refine ab_aloadn 0 dX11_suit_39 rfl ?_
      refine f_gr (x := 6) (k2 := 10) (i2 := 0) (j2 := 2) ⟨by decide, by decide⟩ rfl rfl (Nat.le_of_ble_eq_true rfl) wd_406 rfl rfl dX11_suit_40 ?_
      refine ab_sipush (v := 429) dX11_suit_43 (by decide) ?_
      refine ab_iloadn 2 dX11_suit_46 rfl ?_
      refine ab_iadd dX11_suit_47 ?_
      refine ab_iconst (v := 0) dX11_suit_48 (by decide) ?_
      refine fX_iast ⟨by decide, by decide⟩ rfl (fun _ => rfl) h dX11_suit_49 (fun X14 h => ?_)
      refine ab_aloadn 0 dX11_suit_50 rfl ?_
      refine ab_iloadn 1 dX11_suit_51 rfl ?_
      refine fX_Vi (mtc := mt_X11_atLast) (As := [.int a1]) h (fun Q h => ct_X11_atLast N a1 X14 h) ⟨by decide, by decide⟩ rfl rfl rfl mw_X11_atLast wd_447 rfl rfl ⟨Nat.le_of_ble_eq_true rfl, Nat.le_of_ble_eq_true rfl⟩ ⟨Nat.zero_le _, Nat.zero_le _⟩ (Nat.le_of_ble_eq_true rfl) rfl dX11_suit_52 (fun v15 X16 h => ?_)
      refine ab_istore (lv' := [(0, .ref (gA G 10 0 0)), (1, .int a1), (2, .int a2), (3, .int v10), (4, .int v15)]) dX11_suit_55 rfl (Nat.le_of_ble_eq_true rfl) rfl ?_
      refine ab_aloadn 0 dX11_suit_57 rfl ?_
      refine fX_Vv (mtc := mt_X11_back) (As := []) h (fun Q h => ct_X11_back N X16 h) ⟨by decide, by decide⟩ rfl rfl rfl mw_X11_back wd_428 rfl rfl ⟨Nat.le_of_ble_eq_true rfl, Nat.le_of_ble_eq_true rfl⟩ ⟨Nat.zero_le _, Nat.zero_le _⟩ (Nat.le_of_ble_eq_true rfl) rfl dX11_suit_58 (fun v17 X18 h => ?_)
      refine ab_iload 4 dX11_suit_61 rfl ?_
      refine ab_iloadn 3 dX11_suit_63 rfl ?_
      refine ab_isub dX11_suit_64 ?_
      exact fX_iret h rfl rfl dX11_suit_65
    · have h := sat_t hc7 h
      refine ab_sipush (v := (-10001)) dX11_suit_21 (by decide) ?_
      exact fX_iret h rfl rfl dX11_suit_24
theorem ct_X11_suit {l : Launch} {G : GX} {C : CM} {Q : Int32 → Mem → Prop} (N : Nat) (a1 : Int32) (a2 : Int32) (X : XM) (h : SAT (f_X11_suit N a1 a2 X) (fun v c => Q v (C, c))) : CT l G 8 mt_X11_suit [.ref (gA G 10 0 0), .int a1, .int a2] (C, X) Q := ct_of pn_X11 (Nat.le_of_ble_eq_true rfl) (t_X11_suit_0 N a1 a2 X h)
def f_X11_worth_138 (N : Nat) (k123 : XM → Option (Int32 × XM)) (a1 : Int32) (a2 : Int32) : Nat → Int32 → XM → Option (Int32 × XM)
  | 0, _, _ => none
  | n + 1, a3, X => (if (X.1 0 3) ≤ a3 then cal (f_X11_quarter N X) (fun v2 X3 => (k123 X3)) else cal (f_X11_octet a3 X) (fun v4 X5 => ldA (X5.1 2) 845 371 (fun v6 => (if v4 = v6 then cal (f_X11_octet (a3 + 1) X5) (fun v8 X9 => sxA X9 2 845 (397 + a1) v8 (fun X10 => (f_X11_worth_138 N k123 a1 a2 n (a3 + 2) X10))) else (f_X11_worth_138 N k123 a1 a2 n (a3 + 2) X5)))))
def f_X11_worth_123 (N : Nat) (a1 : Int32) (a2 : Int32) : Nat → XM → Option (Int32 × XM)
  | 0, _ => none
  | n + 1, X => ldA (X.1 2) 845 371 (fun v1 => (if 47 < v1 then cal (f_X11_wealth a1 X) (fun v3 X4 => cal (f_X11_back N X4) (fun v5 X6 => (rt (v3 - a2) X6))) else (f_X11_worth_138 N (fun c => f_X11_worth_123 N a1 a2 n c) a1 a2 N 0 X)))
def f_X11_worth_50 (N : Nat) (a1 : Int32) : Nat → Int32 → XM → Option (Int32 × XM)
  | 0, _, _ => none
  | n + 1, a2, X => (if (X.1 0 3) ≤ a2 then cal (f_X11_tries N X) (fun v2 X3 => cal (f_X11_atLast N a1 X3) (fun v4 X5 => cal (f_X11_back N X5) (fun v6 X7 => (f_X11_worth_123 N a1 v4 N X7)))) else cal (f_X11_octet a2 X) (fun v8 X9 => (if 47 < v8 then (rt (-10001) X9) else cal (f_X11_octet (a2 + 1) X9) (fun v11 X12 => (if 7 < v11 then (rt (-10001) X12) else (if a2 ≤ 0 then (f_X11_worth_50 N a1 n (a2 + 2) X12) else cal (f_X11_octet a2 X12) (fun v15 X16 => cal (f_X11_octet (a2 - 2) X16) (fun v17 X18 => (if v17 < v15 then (f_X11_worth_50 N a1 n (a2 + 2) X18) else (rt (-10001) X18))))))))))
def f_X11_worth (N : Nat) (a1 : Int32) (X : XM) : Option (Int32 × XM) := bnd (stX X 0 0 0) (fun X1 => cal (f_X11_taken 940 X1) (fun v2 X3 => cal (f_X11_isOwner a1 X3) (fun v4 X5 => (if v4 = 0 then (rt (-10001) X5) else (if ((X5.1 0 3) - (X5.1 0 3) / 2 * 2) = 0 then cal (f_X11_isIn ((X5.1 0 3) / 2) 1 24 X5) (fun v8 X9 => (if v8 = 0 then (rt (-10001) X9) else (f_X11_worth_50 N a1 N 0 X9))) else (rt (-10001) X5))))))
set_option maxRecDepth 8000 in
theorem t_X11_worth_138 {l : Launch} {G : GX} {C : CM} {Q : Int32 → Mem → Prop} (N : Nat) (k123 : XM → Option (Int32 × XM)) (a1 : Int32) (a2 : Int32) (hk123 : ∀ (X : XM), SAT (k123 X) (fun v c => Q v (C, c)) → AB l G (rmD 8) 0 0 mt_X11_worth (ZQ G mt_X11_worth Q) 123 [(0, .ref (gA G 10 0 0)), (1, .int a1), (2, .int a2)] [] (C, X)) : ∀ (n : Nat) (a3 : Int32) (X : XM), SAT (f_X11_worth_138 N k123 a1 a2 n a3 X) (fun v c => Q v (C, c)) → AB l G (rmD 8) 0 0 mt_X11_worth (ZQ G mt_X11_worth Q) 138 [(0, .ref (gA G 10 0 0)), (1, .int a1), (2, .int a2), (3, .int a3)] [] (C, X) := by
  intro n
  induction n with
  | zero => intro a3 X h; exact h.elim
  | succ n ih =>
    intro a3 X h
    rw [f_X11_worth_138] at h
    refine ab_iloadn 3 dX11_worth_138 rfl ?_
    refine ab_aloadn 0 dX11_worth_139 rfl ?_
    refine fX_gi (x := 3) ⟨by decide, by decide⟩ rfl rfl (Nat.le_of_ble_eq_true rfl) wd_348 rfl dX11_worth_140 ?_
    refine ab_icmp_ge (tgt := 185) dX11_worth_143 (by decide) (fun hc1 => ?_) (fun hc1 => ?_)
    · have h := sat_t hc1 h
      refine ab_aloadn 0 dX11_worth_185 rfl ?_
      refine fX_Vv (mtc := mt_X11_quarter) (As := []) h (fun Q h => ct_X11_quarter N X h) ⟨by decide, by decide⟩ rfl rfl rfl mw_X11_quarter wd_437 rfl rfl ⟨Nat.le_of_ble_eq_true rfl, Nat.le_of_ble_eq_true rfl⟩ ⟨Nat.zero_le _, Nat.zero_le _⟩ (Nat.le_of_ble_eq_true rfl) rfl dX11_worth_186 (fun v2 X3 h => ?_)
      refine ab_goto (tgt := 123) dX11_worth_189 (by decide) ?_
      refine ab_sub [0, 1, 2] rfl ?_
      exact hk123 X3 h
    · have h := sat_f hc1 h
      refine ab_aloadn 0 dX11_worth_146 rfl ?_
      refine ab_iloadn 3 dX11_worth_147 rfl ?_
      refine fX_Vi (mtc := mt_X11_octet) (As := [.int a3]) h (fun Q h => ct_X11_octet a3 X h) ⟨by decide, by decide⟩ rfl rfl rfl mw_X11_octet wd_453 rfl rfl ⟨Nat.le_of_ble_eq_true rfl, Nat.le_of_ble_eq_true rfl⟩ ⟨Nat.zero_le _, Nat.zero_le _⟩ (Nat.le_of_ble_eq_true rfl) rfl dX11_worth_148 (fun v4 X5 h => ?_)
      refine ab_aloadn 0 dX11_worth_151 rfl ?_
      refine f_gr (x := 6) (k2 := 10) (i2 := 0) (j2 := 2) ⟨by decide, by decide⟩ rfl rfl (Nat.le_of_ble_eq_true rfl) wd_406 rfl rfl dX11_worth_152 ?_
      refine ab_sipush (v := 371) dX11_worth_155 (by decide) ?_
      refine fX_iald ⟨by decide, by decide⟩ rfl (fun _ => rfl) h dX11_worth_158 (fun v6 h => ?_)
      refine ab_icmp_ne (tgt := 179) dX11_worth_159 (by decide) (fun hc7 => ?_) (fun hc7 => ?_)
      · have h := sat_f hc7 h
        refine ab_iinc (q := 3) (v := (a3 + 2)) (lv' := [(0, .ref (gA G 10 0 0)), (1, .int a1), (2, .int a2), (3, .int (a3 + 2))]) dX11_worth_179 rfl rfl rfl (Nat.le_of_ble_eq_true rfl) rfl ?_
        refine ab_goto (tgt := 138) dX11_worth_182 (by decide) ?_
        exact ih (a3 + 2) X5 h
      · have h := sat_t hc7 h
        refine ab_aloadn 0 dX11_worth_162 rfl ?_
        refine f_gr (x := 6) (k2 := 10) (i2 := 0) (j2 := 2) ⟨by decide, by decide⟩ rfl rfl (Nat.le_of_ble_eq_true rfl) wd_406 rfl rfl dX11_worth_163 ?_
        refine ab_sipush (v := 397) dX11_worth_166 (by decide) ?_
        refine ab_iloadn 1 dX11_worth_169 rfl ?_
        refine ab_iadd dX11_worth_170 ?_
        refine ab_aloadn 0 dX11_worth_171 rfl ?_
        refine ab_iloadn 3 dX11_worth_172 rfl ?_
        refine ab_iconst (v := 1) dX11_worth_173 (by decide) ?_
        refine ab_iadd dX11_worth_174 ?_
        refine fX_Vi (mtc := mt_X11_octet) (As := [.int (a3 + 1)]) h (fun Q h => ct_X11_octet (a3 + 1) X5 h) ⟨by decide, by decide⟩ rfl rfl rfl mw_X11_octet wd_453 rfl rfl ⟨Nat.le_of_ble_eq_true rfl, Nat.le_of_ble_eq_true rfl⟩ ⟨Nat.zero_le _, Nat.zero_le _⟩ (Nat.le_of_ble_eq_true rfl) rfl dX11_worth_175 (fun v8 X9 h => ?_)
        refine fX_iast ⟨by decide, by decide⟩ rfl (fun _ => rfl) h dX11_worth_178 (fun X10 h => ?_)
        refine ab_iinc (q := 3) (v := (a3 + 2)) (lv' := [(0, .ref (gA G 10 0 0)), (1, .int a1), (2, .int a2), (3, .int (a3 + 2))]) dX11_worth_179 rfl rfl rfl (Nat.le_of_ble_eq_true rfl) rfl ?_
        refine ab_goto (tgt := 138) dX11_worth_182 (by decide) ?_
        exact ih (a3 + 2) X10 h
set_option maxRecDepth 8000 in
theorem t_X11_worth_123 {l : Launch} {G : GX} {C : CM} {Q : Int32 → Mem → Prop} (N : Nat) (a1 : Int32) (a2 : Int32) : ∀ (n : Nat) (X : XM), SAT (f_X11_worth_123 N a1 a2 n X) (fun v c => Q v (C, c)) → AB l G (rmD 8) 0 0 mt_X11_worth (ZQ G mt_X11_worth Q) 123 [(0, .ref (gA G 10 0 0)), (1, .int a1), (2, .int a2)] [] (C, X) := by
  intro n
  induction n with
  | zero => intro X h; exact h.elim
  | succ n ih =>
    intro X h
    rw [f_X11_worth_123] at h
    refine ab_aloadn 0 dX11_worth_123 rfl ?_
    refine f_gr (x := 6) (k2 := 10) (i2 := 0) (j2 := 2) ⟨by decide, by decide⟩ rfl rfl (Nat.le_of_ble_eq_true rfl) wd_406 rfl rfl dX11_worth_124 ?_
    refine ab_sipush (v := 371) dX11_worth_127 (by decide) ?_
    refine fX_iald ⟨by decide, by decide⟩ rfl (fun _ => rfl) h dX11_worth_130 (fun v1 h => ?_)
    refine ab_bipush (v := 47) dX11_worth_131 (by decide) ?_
    refine ab_icmp_gt (tgt := 192) dX11_worth_133 (by decide) (fun hc2 => ?_) (fun hc2 => ?_)
    · have h := sat_t hc2 h
      refine ab_aloadn 0 dX11_worth_192 rfl ?_
      refine ab_iloadn 1 dX11_worth_193 rfl ?_
      refine fX_Vi (mtc := mt_X11_wealth) (As := [.int a1]) h (fun Q h => ct_X11_wealth a1 X h) ⟨by decide, by decide⟩ rfl rfl rfl mw_X11_wealth wd_446 rfl rfl ⟨Nat.le_of_ble_eq_true rfl, Nat.le_of_ble_eq_true rfl⟩ ⟨Nat.zero_le _, Nat.zero_le _⟩ (Nat.le_of_ble_eq_true rfl) rfl dX11_worth_194 (fun v3 X4 h => ?_)
      refine ab_istoren (lv' := [(0, .ref (gA G 10 0 0)), (1, .int a1), (2, .int a2), (3, .int v3)]) dX11_worth_197 rfl (Nat.le_of_ble_eq_true rfl) rfl ?_
      refine ab_aloadn 0 dX11_worth_198 rfl ?_
      refine fX_Vv (mtc := mt_X11_back) (As := []) h (fun Q h => ct_X11_back N X4 h) ⟨by decide, by decide⟩ rfl rfl rfl mw_X11_back wd_428 rfl rfl ⟨Nat.le_of_ble_eq_true rfl, Nat.le_of_ble_eq_true rfl⟩ ⟨Nat.zero_le _, Nat.zero_le _⟩ (Nat.le_of_ble_eq_true rfl) rfl dX11_worth_199 (fun v5 X6 h => ?_)
      refine ab_iloadn 3 dX11_worth_202 rfl ?_
      refine ab_iloadn 2 dX11_worth_203 rfl ?_
      refine ab_isub dX11_worth_204 ?_
      exact fX_iret h rfl rfl dX11_worth_205
    · have h := sat_f hc2 h
      refine ab_iconst (v := 0) dX11_worth_136 (by decide) ?_
      refine ab_istoren (lv' := [(0, .ref (gA G 10 0 0)), (1, .int a1), (2, .int a2), (3, .int 0)]) dX11_worth_137 rfl (Nat.le_of_ble_eq_true rfl) rfl ?_
      exact t_X11_worth_138 N (fun c => f_X11_worth_123 N a1 a2 n c) a1 a2 ih N 0 X h
set_option maxRecDepth 8000 in
theorem t_X11_worth_50 {l : Launch} {G : GX} {C : CM} {Q : Int32 → Mem → Prop} (N : Nat) (a1 : Int32) : ∀ (n : Nat) (a2 : Int32) (X : XM), SAT (f_X11_worth_50 N a1 n a2 X) (fun v c => Q v (C, c)) → AB l G (rmD 8) 0 0 mt_X11_worth (ZQ G mt_X11_worth Q) 50 [(0, .ref (gA G 10 0 0)), (1, .int a1), (2, .int a2)] [] (C, X) := by
  intro n
  induction n with
  | zero => intro a2 X h; exact h.elim
  | succ n ih =>
    intro a2 X h
    rw [f_X11_worth_50] at h
    refine ab_iloadn 2 dX11_worth_50 rfl ?_
    refine ab_aloadn 0 dX11_worth_51 rfl ?_
    refine fX_gi (x := 3) ⟨by decide, by decide⟩ rfl rfl (Nat.le_of_ble_eq_true rfl) wd_348 rfl dX11_worth_52 ?_
    refine ab_icmp_ge (tgt := 109) dX11_worth_55 (by decide) (fun hc1 => ?_) (fun hc1 => ?_)
    · have h := sat_t hc1 h
      refine ab_aloadn 0 dX11_worth_109 rfl ?_
      refine fX_Vv (mtc := mt_X11_tries) (As := []) h (fun Q h => ct_X11_tries N X h) ⟨by decide, by decide⟩ rfl rfl rfl mw_X11_tries wd_424 rfl rfl ⟨Nat.le_of_ble_eq_true rfl, Nat.le_of_ble_eq_true rfl⟩ ⟨Nat.zero_le _, Nat.zero_le _⟩ (Nat.le_of_ble_eq_true rfl) rfl dX11_worth_110 (fun v2 X3 h => ?_)
      refine ab_aloadn 0 dX11_worth_113 rfl ?_
      refine ab_iloadn 1 dX11_worth_114 rfl ?_
      refine fX_Vi (mtc := mt_X11_atLast) (As := [.int a1]) h (fun Q h => ct_X11_atLast N a1 X3 h) ⟨by decide, by decide⟩ rfl rfl rfl mw_X11_atLast wd_447 rfl rfl ⟨Nat.le_of_ble_eq_true rfl, Nat.le_of_ble_eq_true rfl⟩ ⟨Nat.zero_le _, Nat.zero_le _⟩ (Nat.le_of_ble_eq_true rfl) rfl dX11_worth_115 (fun v4 X5 h => ?_)
      refine ab_istoren (lv' := [(0, .ref (gA G 10 0 0)), (1, .int a1), (2, .int v4)]) dX11_worth_118 rfl (Nat.le_of_ble_eq_true rfl) rfl ?_
      refine ab_aloadn 0 dX11_worth_119 rfl ?_
      refine fX_Vv (mtc := mt_X11_back) (As := []) h (fun Q h => ct_X11_back N X5 h) ⟨by decide, by decide⟩ rfl rfl rfl mw_X11_back wd_428 rfl rfl ⟨Nat.le_of_ble_eq_true rfl, Nat.le_of_ble_eq_true rfl⟩ ⟨Nat.zero_le _, Nat.zero_le _⟩ (Nat.le_of_ble_eq_true rfl) rfl dX11_worth_120 (fun v6 X7 h => ?_)
      exact t_X11_worth_123 N a1 v4 N X7 h
    · have h := sat_f hc1 h
      refine ab_aloadn 0 dX11_worth_58 rfl ?_
      refine ab_iloadn 2 dX11_worth_59 rfl ?_
      refine fX_Vi (mtc := mt_X11_octet) (As := [.int a2]) h (fun Q h => ct_X11_octet a2 X h) ⟨by decide, by decide⟩ rfl rfl rfl mw_X11_octet wd_453 rfl rfl ⟨Nat.le_of_ble_eq_true rfl, Nat.le_of_ble_eq_true rfl⟩ ⟨Nat.zero_le _, Nat.zero_le _⟩ (Nat.le_of_ble_eq_true rfl) rfl dX11_worth_60 (fun v8 X9 h => ?_)
      refine ab_bipush (v := 47) dX11_worth_63 (by decide) ?_
      refine ab_icmp_gt (tgt := 99) dX11_worth_65 (by decide) (fun hc10 => ?_) (fun hc10 => ?_)
      · have h := sat_t hc10 h
        refine ab_sipush (v := (-10001)) dX11_worth_99 (by decide) ?_
        exact fX_iret h rfl rfl dX11_worth_102
      · have h := sat_f hc10 h
        refine ab_aloadn 0 dX11_worth_68 rfl ?_
        refine ab_iloadn 2 dX11_worth_69 rfl ?_
        refine ab_iconst (v := 1) dX11_worth_70 (by decide) ?_
        refine ab_iadd dX11_worth_71 ?_
        refine fX_Vi (mtc := mt_X11_octet) (As := [.int (a2 + 1)]) h (fun Q h => ct_X11_octet (a2 + 1) X9 h) ⟨by decide, by decide⟩ rfl rfl rfl mw_X11_octet wd_453 rfl rfl ⟨Nat.le_of_ble_eq_true rfl, Nat.le_of_ble_eq_true rfl⟩ ⟨Nat.zero_le _, Nat.zero_le _⟩ (Nat.le_of_ble_eq_true rfl) rfl dX11_worth_72 (fun v11 X12 h => ?_)
        refine ab_bipush (v := 7) dX11_worth_75 (by decide) ?_
        refine ab_icmp_gt (tgt := 99) dX11_worth_77 (by decide) (fun hc13 => ?_) (fun hc13 => ?_)
        · have h := sat_t hc13 h
          refine ab_sipush (v := (-10001)) dX11_worth_99 (by decide) ?_
          exact fX_iret h rfl rfl dX11_worth_102
        · have h := sat_f hc13 h
          refine ab_iloadn 2 dX11_worth_80 rfl ?_
          refine ab_if_le (tgt := 103) dX11_worth_81 (by decide) (fun hc14 => ?_) (fun hc14 => ?_)
          · have h := sat_t hc14 h
            refine ab_iinc (q := 2) (v := (a2 + 2)) (lv' := [(0, .ref (gA G 10 0 0)), (1, .int a1), (2, .int (a2 + 2))]) dX11_worth_103 rfl rfl rfl (Nat.le_of_ble_eq_true rfl) rfl ?_
            refine ab_goto (tgt := 50) dX11_worth_106 (by decide) ?_
            exact ih (a2 + 2) X12 h
          · have h := sat_f hc14 h
            refine ab_aloadn 0 dX11_worth_84 rfl ?_
            refine ab_iloadn 2 dX11_worth_85 rfl ?_
            refine fX_Vi (mtc := mt_X11_octet) (As := [.int a2]) h (fun Q h => ct_X11_octet a2 X12 h) ⟨by decide, by decide⟩ rfl rfl rfl mw_X11_octet wd_453 rfl rfl ⟨Nat.le_of_ble_eq_true rfl, Nat.le_of_ble_eq_true rfl⟩ ⟨Nat.zero_le _, Nat.zero_le _⟩ (Nat.le_of_ble_eq_true rfl) rfl dX11_worth_86 (fun v15 X16 h => ?_)
            refine ab_aloadn 0 dX11_worth_89 rfl ?_
            refine ab_iloadn 2 dX11_worth_90 rfl ?_
            refine ab_iconst (v := 2) dX11_worth_91 (by decide) ?_
            refine ab_isub dX11_worth_92 ?_
            refine fX_Vi (mtc := mt_X11_octet) (As := [.int (a2 - 2)]) h (fun Q h => ct_X11_octet (a2 - 2) X16 h) ⟨by decide, by decide⟩ rfl rfl rfl mw_X11_octet wd_453 rfl rfl ⟨Nat.le_of_ble_eq_true rfl, Nat.le_of_ble_eq_true rfl⟩ ⟨Nat.zero_le _, Nat.zero_le _⟩ (Nat.le_of_ble_eq_true rfl) rfl dX11_worth_93 (fun v17 X18 h => ?_)
            refine ab_icmp_gt (tgt := 103) dX11_worth_96 (by decide) (fun hc19 => ?_) (fun hc19 => ?_)
            · have h := sat_t hc19 h
              refine ab_iinc (q := 2) (v := (a2 + 2)) (lv' := [(0, .ref (gA G 10 0 0)), (1, .int a1), (2, .int (a2 + 2))]) dX11_worth_103 rfl rfl rfl (Nat.le_of_ble_eq_true rfl) rfl ?_
              refine ab_goto (tgt := 50) dX11_worth_106 (by decide) ?_
              exact ih (a2 + 2) X18 h
            · have h := sat_f hc19 h
              refine ab_sipush (v := (-10001)) dX11_worth_99 (by decide) ?_
              exact fX_iret h rfl rfl dX11_worth_102
set_option maxRecDepth 8000 in
theorem t_X11_worth_0 {l : Launch} {G : GX} {C : CM} {Q : Int32 → Mem → Prop} (N : Nat) (a1 : Int32) (X : XM) (h : SAT (f_X11_worth N a1 X) (fun v c => Q v (C, c))) : AB l G (rmD 8) 0 0 mt_X11_worth (ZQ G mt_X11_worth Q) 0 [(0, .ref (gA G 10 0 0)), (1, .int a1)] [] (C, X) := by
  unfold f_X11_worth at h
  refine ab_aloadn 0 dX11_worth_0 rfl ?_
  refine ab_iconst (v := 0) dX11_worth_1 (by decide) ?_
  refine fX_pi (x := 0) (ty := .int) ⟨by decide, by decide⟩ rfl rfl (Nat.le_of_ble_eq_true rfl) wd_344 rfl h rfl (by decide +kernel) rfl rfl dX11_worth_2 (fun X1 h => ?_)
  refine ab_aloadn 0 dX11_worth_5 rfl ?_
  refine ab_sipush (v := 940) dX11_worth_6 (by decide) ?_
  refine fX_Vv (mtc := mt_X11_taken) (As := [.int 940]) h (fun Q h => ct_X11_taken 940 X1 h) ⟨by decide, by decide⟩ rfl rfl rfl mw_X11_taken wd_351 rfl rfl ⟨Nat.le_of_ble_eq_true rfl, Nat.le_of_ble_eq_true rfl⟩ ⟨Nat.zero_le _, Nat.zero_le _⟩ (Nat.le_of_ble_eq_true rfl) rfl dX11_worth_9 (fun v2 X3 h => ?_)
  refine ab_aloadn 0 dX11_worth_12 rfl ?_
  refine ab_iloadn 1 dX11_worth_13 rfl ?_
  refine fX_Vi (mtc := mt_X11_isOwner) (As := [.int a1]) h (fun Q h => ct_X11_isOwner a1 X3 h) ⟨by decide, by decide⟩ rfl rfl rfl mw_X11_isOwner wd_413 rfl rfl ⟨Nat.le_of_ble_eq_true rfl, Nat.le_of_ble_eq_true rfl⟩ ⟨Nat.zero_le _, Nat.zero_le _⟩ (Nat.le_of_ble_eq_true rfl) rfl dX11_worth_14 (fun v4 X5 h => ?_)
  refine ab_if_eq (tgt := 44) dX11_worth_17 (by decide) (fun hc6 => ?_) (fun hc6 => ?_)
  · have h := sat_t hc6 h
    refine ab_sipush (v := (-10001)) dX11_worth_44 (by decide) ?_
    exact fX_iret h rfl rfl dX11_worth_47
  · have h := sat_f hc6 h
    refine ab_aloadn 0 dX11_worth_20 rfl ?_
    refine fX_gi (x := 3) ⟨by decide, by decide⟩ rfl rfl (Nat.le_of_ble_eq_true rfl) wd_348 rfl dX11_worth_21 ?_
    refine ab_iconst (v := 2) dX11_worth_24 (by decide) ?_
    refine ab_irem dX11_worth_25 (by decide) ?_
    refine ab_if_ne (tgt := 44) dX11_worth_26 (by decide) (fun hc7 => ?_) (fun hc7 => ?_)
    · have h := sat_f hc7 h
      refine ab_sipush (v := (-10001)) dX11_worth_44 (by decide) ?_
      exact fX_iret h rfl rfl dX11_worth_47
    · have h := sat_t hc7 h
      refine ab_aloadn 0 dX11_worth_29 rfl ?_
      refine fX_gi (x := 3) ⟨by decide, by decide⟩ rfl rfl (Nat.le_of_ble_eq_true rfl) wd_348 rfl dX11_worth_30 ?_
      refine ab_iconst (v := 2) dX11_worth_33 (by decide) ?_
      refine ab_idiv dX11_worth_34 (by decide) ?_
      refine ab_iconst (v := 1) dX11_worth_35 (by decide) ?_
      refine ab_bipush (v := 24) dX11_worth_36 (by decide) ?_
      refine fX_Si (mtc := mt_X11_isIn) (As := [.int ((X5.1 0 3) / 2), .int 1, .int 24]) h (fun Q h => ct_X11_isIn ((X5.1 0 3) / 2) 1 24 X5 h) mw_X11_isIn wd_382 wd_383 rfl rfl ⟨Nat.le_of_ble_eq_true rfl, Nat.le_of_ble_eq_true rfl⟩ ⟨Nat.zero_le _, Nat.zero_le _⟩ (Nat.le_of_ble_eq_true rfl) rfl dX11_worth_38 (fun v8 X9 h => ?_)
      refine ab_if_ne (tgt := 48) dX11_worth_41 (by decide) (fun hc10 => ?_) (fun hc10 => ?_)
      · have h := sat_f hc10 h
        refine ab_iconst (v := 0) dX11_worth_48 (by decide) ?_
        refine ab_istoren (lv' := [(0, .ref (gA G 10 0 0)), (1, .int a1), (2, .int 0)]) dX11_worth_49 rfl (Nat.le_of_ble_eq_true rfl) rfl ?_
        exact t_X11_worth_50 N a1 N 0 X9 h
      · have h := sat_t hc10 h
        refine ab_sipush (v := (-10001)) dX11_worth_44 (by decide) ?_
        exact fX_iret h rfl rfl dX11_worth_47
theorem ct_X11_worth {l : Launch} {G : GX} {C : CM} {Q : Int32 → Mem → Prop} (N : Nat) (a1 : Int32) (X : XM) (h : SAT (f_X11_worth N a1 X) (fun v c => Q v (C, c))) : CT l G 8 mt_X11_worth [.ref (gA G 10 0 0), .int a1] (C, X) Q := ct_of pn_X11 (Nat.le_of_ble_eq_true rfl) (t_X11_worth_0 N a1 X h)
def f_X11_draw (a1 : Int32) (X : XM) : Option (Int32 × XM) := bnd (stX X 0 39 (((X.1 0 39) * 1103515245) + 12345)) (fun X1 => chk (decide (a1 ≠ 0)) ((rt (((Int32.toUInt32 (X1.1 0 39) >>> (Int32.toUInt32 8 &&& Int32.toUInt32 31)).toInt32) - ((Int32.toUInt32 (X1.1 0 39) >>> (Int32.toUInt32 8 &&& Int32.toUInt32 31)).toInt32) / a1 * a1) X1)))
set_option maxRecDepth 8000 in
theorem t_X11_draw_0 {l : Launch} {G : GX} {C : CM} {Q : Int32 → Mem → Prop} (a1 : Int32) (X : XM) (h : SAT (f_X11_draw a1 X) (fun v c => Q v (C, c))) : AB l G (rmD 1) 0 0 mt_X11_draw (ZQ G mt_X11_draw Q) 0 [(0, .ref (gA G 10 0 0)), (1, .int a1)] [] (C, X) := by
  unfold f_X11_draw at h
  refine ab_aloadn 0 dX11_draw_0 rfl ?_
  refine ab_aloadn 0 dX11_draw_1 rfl ?_
  refine fX_gi (x := 39) ⟨by decide, by decide⟩ rfl rfl (Nat.le_of_ble_eq_true rfl) wd_457 rfl dX11_draw_2 ?_
  refine ab_ldcw wd_458 dX11_draw_5 ?_
  refine ab_imul dX11_draw_8 ?_
  refine ab_sipush (v := 12345) dX11_draw_9 (by decide) ?_
  refine ab_iadd dX11_draw_12 ?_
  refine fX_pi (x := 39) (ty := .int) ⟨by decide, by decide⟩ rfl rfl (Nat.le_of_ble_eq_true rfl) wd_457 rfl h rfl (by decide +kernel) rfl rfl dX11_draw_13 (fun X1 h => ?_)
  refine ab_aloadn 0 dX11_draw_16 rfl ?_
  refine fX_gi (x := 39) ⟨by decide, by decide⟩ rfl rfl (Nat.le_of_ble_eq_true rfl) wd_457 rfl dX11_draw_17 ?_
  refine ab_bipush (v := 8) dX11_draw_20 (by decide) ?_
  refine ab_iushr dX11_draw_22 ?_
  refine ab_iloadn 1 dX11_draw_23 rfl ?_
  refine f_irem h dX11_draw_24 (fun h => ?_)
  exact fX_iret h rfl rfl dX11_draw_25
theorem ct_X11_draw {l : Launch} {G : GX} {C : CM} {Q : Int32 → Mem → Prop} (a1 : Int32) (X : XM) (h : SAT (f_X11_draw a1 X) (fun v c => Q v (C, c))) : CT l G 1 mt_X11_draw [.ref (gA G 10 0 0), .int a1] (C, X) Q := ct_of pn_X11 (Nat.le_of_ble_eq_true rfl) (t_X11_draw_0 a1 X h)
def f_X11_drawnOf_8 (N : Nat) (a1 : Int32) (a2 : Int32) : Nat → Int32 → XM → Option (Int32 × XM)
  | 0, _, _ => none
  | n + 1, a4, X => (if a2 ≤ a4 then cal (f_X11_wealth a1 X) (fun v2 X3 => cal (f_X11_back N X3) (fun v4 X5 => (rt v2 X5))) else cal (f_X11_draw 10 X) (fun v6 X7 => (if v6 = 0 then cal (f_X11_runs N X7) (fun v13 X14 => (f_X11_drawnOf_8 N a1 a2 n (a4 + 1) X14)) else cal (f_X11_draw 8 X7) (fun v9 X10 => cal (f_X11_blows N v9 v6 X10) (fun v11 X12 => (f_X11_drawnOf_8 N a1 a2 n (a4 + 1) X12))))))
def f_X11_drawnOf (N : Nat) (a1 : Int32) (a2 : Int32) (a3 : Int32) (X : XM) : Option (Int32 × XM) := bnd (stX X 0 39 a3) (fun X1 => (f_X11_drawnOf_8 N a1 a2 N 0 X1))
set_option maxRecDepth 8000 in
theorem t_X11_drawnOf_8 {l : Launch} {G : GX} {C : CM} {Q : Int32 → Mem → Prop} (N : Nat) (a1 : Int32) (a2 : Int32) : ∀ (n : Nat) (a4 : Int32) (X : XM), SAT (f_X11_drawnOf_8 N a1 a2 n a4 X) (fun v c => Q v (C, c)) → AB l G (rmD 5) 0 0 mt_X11_drawnOf (ZQ G mt_X11_drawnOf Q) 8 [(0, .ref (gA G 10 0 0)), (1, .int a1), (2, .int a2), (4, .int a4)] [] (C, X) := by
  intro n
  induction n with
  | zero => intro a4 X h; exact h.elim
  | succ n ih =>
    intro a4 X h
    rw [f_X11_drawnOf_8] at h
    refine ab_iload 3 dX11_drawnOf_8 rfl ?_
    refine ab_iloadn 2 dX11_drawnOf_10 rfl ?_
    refine ab_icmp_ge (tgt := 52) dX11_drawnOf_11 (by decide) (fun hc1 => ?_) (fun hc1 => ?_)
    · have h := sat_t hc1 h
      refine ab_aloadn 0 dX11_drawnOf_52 rfl ?_
      refine ab_iloadn 1 dX11_drawnOf_53 rfl ?_
      refine fX_Vi (mtc := mt_X11_wealth) (As := [.int a1]) h (fun Q h => ct_X11_wealth a1 X h) ⟨by decide, by decide⟩ rfl rfl rfl mw_X11_wealth wd_446 rfl rfl ⟨Nat.le_of_ble_eq_true rfl, Nat.le_of_ble_eq_true rfl⟩ ⟨Nat.zero_le _, Nat.zero_le _⟩ (Nat.le_of_ble_eq_true rfl) rfl dX11_drawnOf_54 (fun v2 X3 h => ?_)
      refine ab_istore (lv' := [(0, .ref (gA G 10 0 0)), (1, .int a1), (2, .int a2), (4, .int v2)]) dX11_drawnOf_57 rfl (Nat.le_of_ble_eq_true rfl) rfl ?_
      refine ab_aloadn 0 dX11_drawnOf_59 rfl ?_
      refine fX_Vv (mtc := mt_X11_back) (As := []) h (fun Q h => ct_X11_back N X3 h) ⟨by decide, by decide⟩ rfl rfl rfl mw_X11_back wd_428 rfl rfl ⟨Nat.le_of_ble_eq_true rfl, Nat.le_of_ble_eq_true rfl⟩ ⟨Nat.zero_le _, Nat.zero_le _⟩ (Nat.le_of_ble_eq_true rfl) rfl dX11_drawnOf_60 (fun v4 X5 h => ?_)
      refine ab_iload 3 dX11_drawnOf_63 rfl ?_
      exact fX_iret h rfl rfl dX11_drawnOf_65
    · have h := sat_f hc1 h
      refine ab_aloadn 0 dX11_drawnOf_14 rfl ?_
      refine ab_bipush (v := 10) dX11_drawnOf_15 (by decide) ?_
      refine fX_Vi (mtc := mt_X11_draw) (As := [.int 10]) h (fun Q h => ct_X11_draw 10 X h) ⟨by decide, by decide⟩ rfl rfl rfl mw_X11_draw wd_459 rfl rfl ⟨Nat.le_of_ble_eq_true rfl, Nat.le_of_ble_eq_true rfl⟩ ⟨Nat.zero_le _, Nat.zero_le _⟩ (Nat.le_of_ble_eq_true rfl) rfl dX11_drawnOf_17 (fun v6 X7 h => ?_)
      refine ab_istore (lv' := [(0, .ref (gA G 10 0 0)), (1, .int a1), (2, .int a2), (4, .int a4), (5, .int v6)]) dX11_drawnOf_20 rfl (Nat.le_of_ble_eq_true rfl) rfl ?_
      refine ab_iload 4 dX11_drawnOf_22 rfl ?_
      refine ab_if_ne (tgt := 34) dX11_drawnOf_24 (by decide) (fun hc8 => ?_) (fun hc8 => ?_)
      · have h := sat_f hc8 h
        refine ab_aloadn 0 dX11_drawnOf_34 rfl ?_
        refine ab_aloadn 0 dX11_drawnOf_35 rfl ?_
        refine ab_bipush (v := 8) dX11_drawnOf_36 (by decide) ?_
        refine fX_Vi (mtc := mt_X11_draw) (As := [.int 8]) h (fun Q h => ct_X11_draw 8 X7 h) ⟨by decide, by decide⟩ rfl rfl rfl mw_X11_draw wd_459 rfl rfl ⟨Nat.le_of_ble_eq_true rfl, Nat.le_of_ble_eq_true rfl⟩ ⟨Nat.zero_le _, Nat.zero_le _⟩ (Nat.le_of_ble_eq_true rfl) rfl dX11_drawnOf_38 (fun v9 X10 h => ?_)
        refine ab_iload 4 dX11_drawnOf_41 rfl ?_
        refine fX_Vv (mtc := mt_X11_blows) (As := [.int v9, .int v6]) h (fun Q h => ct_X11_blows N v9 v6 X10 h) ⟨by decide, by decide⟩ rfl rfl rfl mw_X11_blows wd_432 rfl rfl ⟨Nat.le_of_ble_eq_true rfl, Nat.le_of_ble_eq_true rfl⟩ ⟨Nat.zero_le _, Nat.zero_le _⟩ (Nat.le_of_ble_eq_true rfl) rfl dX11_drawnOf_43 (fun v11 X12 h => ?_)
        refine ab_iinc (q := 3) (v := (a4 + 1)) (lv' := [(0, .ref (gA G 10 0 0)), (1, .int a1), (2, .int a2), (4, .int (a4 + 1)), (5, .int v6)]) dX11_drawnOf_46 rfl rfl rfl (Nat.le_of_ble_eq_true rfl) rfl ?_
        refine ab_goto (tgt := 8) dX11_drawnOf_49 (by decide) ?_
        refine ab_sub [0, 1, 2, 3] rfl ?_
        exact ih (a4 + 1) X12 h
      · have h := sat_t hc8 h
        refine ab_aloadn 0 dX11_drawnOf_27 rfl ?_
        refine fX_Vv (mtc := mt_X11_runs) (As := []) h (fun Q h => ct_X11_runs N X7 h) ⟨by decide, by decide⟩ rfl rfl rfl mw_X11_runs wd_436 rfl rfl ⟨Nat.le_of_ble_eq_true rfl, Nat.le_of_ble_eq_true rfl⟩ ⟨Nat.zero_le _, Nat.zero_le _⟩ (Nat.le_of_ble_eq_true rfl) rfl dX11_drawnOf_28 (fun v13 X14 h => ?_)
        refine ab_goto (tgt := 46) dX11_drawnOf_31 (by decide) ?_
        refine ab_iinc (q := 3) (v := (a4 + 1)) (lv' := [(0, .ref (gA G 10 0 0)), (1, .int a1), (2, .int a2), (4, .int (a4 + 1)), (5, .int v6)]) dX11_drawnOf_46 rfl rfl rfl (Nat.le_of_ble_eq_true rfl) rfl ?_
        refine ab_goto (tgt := 8) dX11_drawnOf_49 (by decide) ?_
        refine ab_sub [0, 1, 2, 3] rfl ?_
        exact ih (a4 + 1) X14 h
set_option maxRecDepth 8000 in
theorem t_X11_drawnOf_0 {l : Launch} {G : GX} {C : CM} {Q : Int32 → Mem → Prop} (N : Nat) (a1 : Int32) (a2 : Int32) (a3 : Int32) (X : XM) (h : SAT (f_X11_drawnOf N a1 a2 a3 X) (fun v c => Q v (C, c))) : AB l G (rmD 5) 0 0 mt_X11_drawnOf (ZQ G mt_X11_drawnOf Q) 0 [(0, .ref (gA G 10 0 0)), (1, .int a1), (2, .int a2), (3, .int a3)] [] (C, X) := by
  unfold f_X11_drawnOf at h
  refine ab_aloadn 0 dX11_drawnOf_0 rfl ?_
  refine ab_iloadn 3 dX11_drawnOf_1 rfl ?_
  refine fX_pi (x := 39) (ty := .int) ⟨by decide, by decide⟩ rfl rfl (Nat.le_of_ble_eq_true rfl) wd_457 rfl h rfl (by decide +kernel) rfl rfl dX11_drawnOf_2 (fun X1 h => ?_)
  refine ab_iconst (v := 0) dX11_drawnOf_5 (by decide) ?_
  refine ab_istore (lv' := [(0, .ref (gA G 10 0 0)), (1, .int a1), (2, .int a2), (3, .int a3), (4, .int 0)]) dX11_drawnOf_6 rfl (Nat.le_of_ble_eq_true rfl) rfl ?_
  refine ab_sub [0, 1, 2, 4] rfl ?_
  exact t_X11_drawnOf_8 N a1 a2 N 0 X1 h
theorem ct_X11_drawnOf {l : Launch} {G : GX} {C : CM} {Q : Int32 → Mem → Prop} (N : Nat) (a1 : Int32) (a2 : Int32) (a3 : Int32) (X : XM) (h : SAT (f_X11_drawnOf N a1 a2 a3 X) (fun v c => Q v (C, c))) : CT l G 5 mt_X11_drawnOf [.ref (gA G 10 0 0), .int a1, .int a2, .int a3] (C, X) Q := ct_of pn_X11 (Nat.le_of_ble_eq_true rfl) (t_X11_drawnOf_0 N a1 a2 a3 X h)
def f_X11_drawn (N : Nat) (a1 : Int32) (a2 : Int32) (a3 : Int32) (X : XM) : Option (Int32 × XM) := bnd (stX X 0 0 0) (fun X1 => cal (f_X11_isOwner a1 X1) (fun v2 X3 => (if v2 = 0 then (rt (-1) X3) else cal (f_X11_isIn a2 1 48 X3) (fun v5 X6 => (if v5 = 0 then (rt (-1) X6) else cal (f_X11_tries N X6) (fun v8 X9 => cal (f_X11_drawnOf N a1 a2 a3 X9) (fun v10 X11 => (rt v10 X11))))))))
set_option maxRecDepth 8000 in
theorem t_X11_drawn_0 {l : Launch} {G : GX} {C : CM} {Q : Int32 → Mem → Prop} (N : Nat) (a1 : Int32) (a2 : Int32) (a3 : Int32) (X : XM) (h : SAT (f_X11_drawn N a1 a2 a3 X) (fun v c => Q v (C, c))) : AB l G (rmD 6) 0 0 mt_X11_drawn (ZQ G mt_X11_drawn Q) 0 [(0, .ref (gA G 10 0 0)), (1, .int a1), (2, .int a2), (3, .int a3)] [] (C, X) := by
  unfold f_X11_drawn at h
  refine ab_aloadn 0 dX11_drawn_0 rfl ?_
  refine ab_iconst (v := 0) dX11_drawn_1 (by decide) ?_
  refine fX_pi (x := 0) (ty := .int) ⟨by decide, by decide⟩ rfl rfl (Nat.le_of_ble_eq_true rfl) wd_344 rfl h rfl (by decide +kernel) rfl rfl dX11_drawn_2 (fun X1 h => ?_)
  refine ab_aloadn 0 dX11_drawn_5 rfl ?_
  refine ab_iloadn 1 dX11_drawn_6 rfl ?_
  refine fX_Vi (mtc := mt_X11_isOwner) (As := [.int a1]) h (fun Q h => ct_X11_isOwner a1 X1 h) ⟨by decide, by decide⟩ rfl rfl rfl mw_X11_isOwner wd_413 rfl rfl ⟨Nat.le_of_ble_eq_true rfl, Nat.le_of_ble_eq_true rfl⟩ ⟨Nat.zero_le _, Nat.zero_le _⟩ (Nat.le_of_ble_eq_true rfl) rfl dX11_drawn_7 (fun v2 X3 h => ?_)
  refine ab_if_eq (tgt := 23) dX11_drawn_10 (by decide) (fun hc4 => ?_) (fun hc4 => ?_)
  · have h := sat_t hc4 h
    refine ab_iconst (v := (-1)) dX11_drawn_23 (by decide) ?_
    exact fX_iret h rfl rfl dX11_drawn_24
  · have h := sat_f hc4 h
    refine ab_iloadn 2 dX11_drawn_13 rfl ?_
    refine ab_iconst (v := 1) dX11_drawn_14 (by decide) ?_
    refine ab_bipush (v := 48) dX11_drawn_15 (by decide) ?_
    refine fX_Si (mtc := mt_X11_isIn) (As := [.int a2, .int 1, .int 48]) h (fun Q h => ct_X11_isIn a2 1 48 X3 h) mw_X11_isIn wd_382 wd_383 rfl rfl ⟨Nat.le_of_ble_eq_true rfl, Nat.le_of_ble_eq_true rfl⟩ ⟨Nat.zero_le _, Nat.zero_le _⟩ (Nat.le_of_ble_eq_true rfl) rfl dX11_drawn_17 (fun v5 X6 h => ?_)
    refine ab_if_ne (tgt := 25) dX11_drawn_20 (by decide) (fun hc7 => ?_) (fun hc7 => ?_)
    · have h := sat_f hc7 h
      refine ab_aloadn 0 dX11_drawn_25 rfl ?_
      refine fX_Vv (mtc := mt_X11_tries) (As := []) h (fun Q h => ct_X11_tries N X6 h) ⟨by decide, by decide⟩ rfl rfl rfl mw_X11_tries wd_424 rfl rfl ⟨Nat.le_of_ble_eq_true rfl, Nat.le_of_ble_eq_true rfl⟩ ⟨Nat.zero_le _, Nat.zero_le _⟩ (Nat.le_of_ble_eq_true rfl) rfl dX11_drawn_26 (fun v8 X9 h => ?_)
      refine ab_aloadn 0 dX11_drawn_29 rfl ?_
      refine ab_iloadn 1 dX11_drawn_30 rfl ?_
      refine ab_iloadn 2 dX11_drawn_31 rfl ?_
      refine ab_iloadn 3 dX11_drawn_32 rfl ?_
      refine fX_Vi (mtc := mt_X11_drawnOf) (As := [.int a1, .int a2, .int a3]) h (fun Q h => ct_X11_drawnOf N a1 a2 a3 X9 h) ⟨by decide, by decide⟩ rfl rfl rfl mw_X11_drawnOf wd_460 rfl rfl ⟨Nat.le_of_ble_eq_true rfl, Nat.le_of_ble_eq_true rfl⟩ ⟨Nat.zero_le _, Nat.zero_le _⟩ (Nat.le_of_ble_eq_true rfl) rfl dX11_drawn_33 (fun v10 X11 h => ?_)
      exact fX_iret h rfl rfl dX11_drawn_36
    · have h := sat_t hc7 h
      refine ab_iconst (v := (-1)) dX11_drawn_23 (by decide) ?_
      exact fX_iret h rfl rfl dX11_drawn_24
theorem ct_X11_drawn {l : Launch} {G : GX} {C : CM} {Q : Int32 → Mem → Prop} (N : Nat) (a1 : Int32) (a2 : Int32) (a3 : Int32) (X : XM) (h : SAT (f_X11_drawn N a1 a2 a3 X) (fun v c => Q v (C, c))) : CT l G 6 mt_X11_drawn [.ref (gA G 10 0 0), .int a1, .int a2, .int a3] (C, X) Q := ct_of pn_X11 (Nat.le_of_ble_eq_true rfl) (t_X11_drawn_0 N a1 a2 a3 X h)
def f_X11_odds_71 (N : Nat) (k42 : Int32 → Int32 → XM → Option (Int32 × XM)) (a1 : Int32) (a2 : Int32) (a3 : Int32) (a4 : Int32) (a6 : Int32) (as0 : Int32) (as1 : Int32) (X : XM) : Option (Int32 × XM) := (k42 (as1 + as0) (a6 + 1) X)
def f_X11_odds_42 (N : Nat) (a1 : Int32) (a2 : Int32) (a3 : Int32) (a4 : Int32) : Nat → Int32 → Int32 → XM → Option (Int32 × XM)
  | 0, _, _, _ => none
  | n + 1, a5, a6, X => (if a2 ≤ a6 then (rt a5 X) else cal (f_X11_drawnOf N a1 12 (a3 + a6) X) (fun v2 X3 => (if a4 ≤ v2 then (f_X11_odds_71 N (fun z5 z6 c => f_X11_odds_42 N a1 a2 a3 a4 n z5 z6 c) a1 a2 a3 a4 a6 0 a5 X3) else (f_X11_odds_71 N (fun z5 z6 c => f_X11_odds_42 N a1 a2 a3 a4 n z5 z6 c) a1 a2 a3 a4 a6 1 a5 X3))))
def f_X11_odds (N : Nat) (a1 : Int32) (a2 : Int32) (a3 : Int32) (X : XM) : Option (Int32 × XM) := bnd (stX X 0 0 0) (fun X1 => cal (f_X11_isOwner a1 X1) (fun v2 X3 => (if v2 = 0 then (rt (-1) X3) else cal (f_X11_isIn a2 1 100 X3) (fun v5 X6 => (if v5 = 0 then (rt (-1) X6) else cal (f_X11_tries N X6) (fun v8 X9 => cal (f_X11_wealth a1 X9) (fun v10 X11 => (f_X11_odds_42 N a1 a2 a3 v10 N 0 0 X11))))))))
set_option maxRecDepth 8000 in
theorem t_X11_odds_71 {l : Launch} {G : GX} {C : CM} {Q : Int32 → Mem → Prop} (N : Nat) (k42 : Int32 → Int32 → XM → Option (Int32 × XM)) (a1 : Int32) (a2 : Int32) (a3 : Int32) (a4 : Int32) (a6 : Int32) (as0 : Int32) (as1 : Int32) (hk42 : ∀ (ac5 : Int32) (ac6 : Int32) (X : XM), SAT (k42 ac5 ac6 X) (fun v c => Q v (C, c)) → AB l G (rmD 6) 0 0 mt_X11_odds (ZQ G mt_X11_odds Q) 42 [(0, .ref (gA G 10 0 0)), (1, .int a1), (2, .int a2), (3, .int a3), (4, .int a4), (5, .int ac5), (6, .int ac6)] [] (C, X)) (X : XM) (h : SAT (f_X11_odds_71 N k42 a1 a2 a3 a4 a6 as0 as1 X) (fun v c => Q v (C, c))) : AB l G (rmD 6) 0 0 mt_X11_odds (ZQ G mt_X11_odds Q) 71 [(0, .ref (gA G 10 0 0)), (1, .int a1), (2, .int a2), (3, .int a3), (4, .int a4), (6, .int a6)] [.int as0, .int as1] (C, X) := by
  unfold f_X11_odds_71 at h
  refine ab_iadd dX11_odds_71 ?_
  refine ab_istore (lv' := [(0, .ref (gA G 10 0 0)), (1, .int a1), (2, .int a2), (3, .int a3), (4, .int a4), (6, .int a6), (5, .int (as1 + as0))]) dX11_odds_72 rfl (Nat.le_of_ble_eq_true rfl) rfl ?_
  refine ab_iinc (q := 5) (v := (a6 + 1)) (lv' := [(0, .ref (gA G 10 0 0)), (1, .int a1), (2, .int a2), (3, .int a3), (4, .int a4), (6, .int (a6 + 1)), (5, .int (as1 + as0))]) dX11_odds_74 rfl rfl rfl (Nat.le_of_ble_eq_true rfl) rfl ?_
  refine ab_goto (tgt := 42) dX11_odds_77 (by decide) ?_
  refine ab_sub [0, 1, 2, 3, 4, 6, 5] rfl ?_
  exact hk42 (as1 + as0) (a6 + 1) X h
set_option maxRecDepth 8000 in
theorem t_X11_odds_42 {l : Launch} {G : GX} {C : CM} {Q : Int32 → Mem → Prop} (N : Nat) (a1 : Int32) (a2 : Int32) (a3 : Int32) (a4 : Int32) : ∀ (n : Nat) (a5 : Int32) (a6 : Int32) (X : XM), SAT (f_X11_odds_42 N a1 a2 a3 a4 n a5 a6 X) (fun v c => Q v (C, c)) → AB l G (rmD 6) 0 0 mt_X11_odds (ZQ G mt_X11_odds Q) 42 [(0, .ref (gA G 10 0 0)), (1, .int a1), (2, .int a2), (3, .int a3), (4, .int a4), (5, .int a5), (6, .int a6)] [] (C, X) := by
  intro n
  induction n with
  | zero => intro a5 a6 X h; exact h.elim
  | succ n ih =>
    intro a5 a6 X h
    rw [f_X11_odds_42] at h
    refine ab_iload 6 dX11_odds_42 rfl ?_
    refine ab_iloadn 2 dX11_odds_44 rfl ?_
    refine ab_icmp_ge (tgt := 80) dX11_odds_45 (by decide) (fun hc1 => ?_) (fun hc1 => ?_)
    · have h := sat_t hc1 h
      refine ab_iload 5 dX11_odds_80 rfl ?_
      exact fX_iret h rfl rfl dX11_odds_82
    · have h := sat_f hc1 h
      refine ab_iload 5 dX11_odds_48 rfl ?_
      refine ab_aloadn 0 dX11_odds_50 rfl ?_
      refine ab_iloadn 1 dX11_odds_51 rfl ?_
      refine ab_bipush (v := 12) dX11_odds_52 (by decide) ?_
      refine ab_iloadn 3 dX11_odds_54 rfl ?_
      refine ab_iload 6 dX11_odds_55 rfl ?_
      refine ab_iadd dX11_odds_57 ?_
      refine fX_Vi (mtc := mt_X11_drawnOf) (As := [.int a1, .int 12, .int (a3 + a6)]) h (fun Q h => ct_X11_drawnOf N a1 12 (a3 + a6) X h) ⟨by decide, by decide⟩ rfl rfl rfl mw_X11_drawnOf wd_460 rfl rfl ⟨Nat.le_of_ble_eq_true rfl, Nat.le_of_ble_eq_true rfl⟩ ⟨Nat.zero_le _, Nat.zero_le _⟩ (Nat.le_of_ble_eq_true rfl) rfl dX11_odds_58 (fun v2 X3 h => ?_)
      refine ab_iload 4 dX11_odds_61 rfl ?_
      refine ab_icmp_ge (tgt := 70) dX11_odds_63 (by decide) (fun hc4 => ?_) (fun hc4 => ?_)
      · have h := sat_t hc4 h
        refine ab_iconst (v := 0) dX11_odds_70 (by decide) ?_
        refine ab_sub [0, 1, 2, 3, 4, 6] rfl ?_
        exact t_X11_odds_71 N (fun z5 z6 c => f_X11_odds_42 N a1 a2 a3 a4 n z5 z6 c) a1 a2 a3 a4 a6 0 a5 ih X3 h
      · have h := sat_f hc4 h
        refine ab_iconst (v := 1) dX11_odds_66 (by decide) ?_
        refine ab_goto (tgt := 71) dX11_odds_67 (by decide) ?_
        refine ab_sub [0, 1, 2, 3, 4, 6] rfl ?_
        exact t_X11_odds_71 N (fun z5 z6 c => f_X11_odds_42 N a1 a2 a3 a4 n z5 z6 c) a1 a2 a3 a4 a6 1 a5 ih X3 h
set_option maxRecDepth 8000 in
theorem t_X11_odds_0 {l : Launch} {G : GX} {C : CM} {Q : Int32 → Mem → Prop} (N : Nat) (a1 : Int32) (a2 : Int32) (a3 : Int32) (X : XM) (h : SAT (f_X11_odds N a1 a2 a3 X) (fun v c => Q v (C, c))) : AB l G (rmD 6) 0 0 mt_X11_odds (ZQ G mt_X11_odds Q) 0 [(0, .ref (gA G 10 0 0)), (1, .int a1), (2, .int a2), (3, .int a3)] [] (C, X) := by
  unfold f_X11_odds at h
  refine ab_aloadn 0 dX11_odds_0 rfl ?_
  refine ab_iconst (v := 0) dX11_odds_1 (by decide) ?_
  refine fX_pi (x := 0) (ty := .int) ⟨by decide, by decide⟩ rfl rfl (Nat.le_of_ble_eq_true rfl) wd_344 rfl h rfl (by decide +kernel) rfl rfl dX11_odds_2 (fun X1 h => ?_)
  refine ab_aloadn 0 dX11_odds_5 rfl ?_
  refine ab_iloadn 1 dX11_odds_6 rfl ?_
  refine fX_Vi (mtc := mt_X11_isOwner) (As := [.int a1]) h (fun Q h => ct_X11_isOwner a1 X1 h) ⟨by decide, by decide⟩ rfl rfl rfl mw_X11_isOwner wd_413 rfl rfl ⟨Nat.le_of_ble_eq_true rfl, Nat.le_of_ble_eq_true rfl⟩ ⟨Nat.zero_le _, Nat.zero_le _⟩ (Nat.le_of_ble_eq_true rfl) rfl dX11_odds_7 (fun v2 X3 h => ?_)
  refine ab_if_eq (tgt := 23) dX11_odds_10 (by decide) (fun hc4 => ?_) (fun hc4 => ?_)
  · have h := sat_t hc4 h
    refine ab_iconst (v := (-1)) dX11_odds_23 (by decide) ?_
    exact fX_iret h rfl rfl dX11_odds_24
  · have h := sat_f hc4 h
    refine ab_iloadn 2 dX11_odds_13 rfl ?_
    refine ab_iconst (v := 1) dX11_odds_14 (by decide) ?_
    refine ab_bipush (v := 100) dX11_odds_15 (by decide) ?_
    refine fX_Si (mtc := mt_X11_isIn) (As := [.int a2, .int 1, .int 100]) h (fun Q h => ct_X11_isIn a2 1 100 X3 h) mw_X11_isIn wd_382 wd_383 rfl rfl ⟨Nat.le_of_ble_eq_true rfl, Nat.le_of_ble_eq_true rfl⟩ ⟨Nat.zero_le _, Nat.zero_le _⟩ (Nat.le_of_ble_eq_true rfl) rfl dX11_odds_17 (fun v5 X6 h => ?_)
    refine ab_if_ne (tgt := 25) dX11_odds_20 (by decide) (fun hc7 => ?_) (fun hc7 => ?_)
    · have h := sat_f hc7 h
      refine ab_aloadn 0 dX11_odds_25 rfl ?_
      refine fX_Vv (mtc := mt_X11_tries) (As := []) h (fun Q h => ct_X11_tries N X6 h) ⟨by decide, by decide⟩ rfl rfl rfl mw_X11_tries wd_424 rfl rfl ⟨Nat.le_of_ble_eq_true rfl, Nat.le_of_ble_eq_true rfl⟩ ⟨Nat.zero_le _, Nat.zero_le _⟩ (Nat.le_of_ble_eq_true rfl) rfl dX11_odds_26 (fun v8 X9 h => ?_)
      refine ab_aloadn 0 dX11_odds_29 rfl ?_
      refine ab_iloadn 1 dX11_odds_30 rfl ?_
      refine fX_Vi (mtc := mt_X11_wealth) (As := [.int a1]) h (fun Q h => ct_X11_wealth a1 X9 h) ⟨by decide, by decide⟩ rfl rfl rfl mw_X11_wealth wd_446 rfl rfl ⟨Nat.le_of_ble_eq_true rfl, Nat.le_of_ble_eq_true rfl⟩ ⟨Nat.zero_le _, Nat.zero_le _⟩ (Nat.le_of_ble_eq_true rfl) rfl dX11_odds_31 (fun v10 X11 h => ?_)
      refine ab_istore (lv' := [(0, .ref (gA G 10 0 0)), (1, .int a1), (2, .int a2), (3, .int a3), (4, .int v10)]) dX11_odds_34 rfl (Nat.le_of_ble_eq_true rfl) rfl ?_
      refine ab_iconst (v := 0) dX11_odds_36 (by decide) ?_
      refine ab_istore (lv' := [(0, .ref (gA G 10 0 0)), (1, .int a1), (2, .int a2), (3, .int a3), (4, .int v10), (5, .int 0)]) dX11_odds_37 rfl (Nat.le_of_ble_eq_true rfl) rfl ?_
      refine ab_iconst (v := 0) dX11_odds_39 (by decide) ?_
      refine ab_istore (lv' := [(0, .ref (gA G 10 0 0)), (1, .int a1), (2, .int a2), (3, .int a3), (4, .int v10), (5, .int 0), (6, .int 0)]) dX11_odds_40 rfl (Nat.le_of_ble_eq_true rfl) rfl ?_
      exact t_X11_odds_42 N a1 a2 a3 v10 N 0 0 X11 h
    · have h := sat_t hc7 h
      refine ab_iconst (v := (-1)) dX11_odds_23 (by decide) ?_
      exact fX_iret h rfl rfl dX11_odds_24
theorem ct_X11_odds {l : Launch} {G : GX} {C : CM} {Q : Int32 → Mem → Prop} (N : Nat) (a1 : Int32) (a2 : Int32) (a3 : Int32) (X : XM) (h : SAT (f_X11_odds N a1 a2 a3 X) (fun v c => Q v (C, c))) : CT l G 6 mt_X11_odds [.ref (gA G 10 0 0), .int a1, .int a2, .int a3] (C, X) Q := ct_of pn_X11 (Nat.le_of_ble_eq_true rfl) (t_X11_odds_0 N a1 a2 a3 X h)
def f_X11_richest_47 (N : Nat) (k20 : Int32 → Int32 → XM → Option (Int32 × XM)) (a2 : Int32) (X : XM) : Option (Int32 × XM) := (k20 a2 (a2 + 1) X)
def f_X11_richest_20 (N : Nat) : Nat → Int32 → Int32 → XM → Option (Int32 × XM)
  | 0, _, _, _ => none
  | n + 1, a1, a2, X => ldA (X.1 2) 845 2 (fun v1 => (if v1 ≤ a2 then cal (f_X11_back N X) (fun v3 X4 => (rt a1 X4)) else (if a1 < 0 then (f_X11_richest_47 N (fun z1 z2 c => f_X11_richest_20 N n z1 z2 c) a2 X) else cal (f_X11_wealth a2 X) (fun v6 X7 => cal (f_X11_wealth a1 X7) (fun v8 X9 => (if v6 ≤ v8 then (f_X11_richest_20 N n a1 (a2 + 1) X9) else (f_X11_richest_47 N (fun z1 z2 c => f_X11_richest_20 N n z1 z2 c) a2 X9)))))))
def f_X11_richest (N : Nat) (X : XM) : Option (Int32 × XM) := bnd (stX X 0 0 0) (fun X1 => cal (f_X11_tries N X1) (fun v2 X3 => cal (f_X11_goes N 48 X3) (fun v4 X5 => (f_X11_richest_20 N N (-1) 0 X5))))
set_option maxRecDepth 8000 in
theorem t_X11_richest_47 {l : Launch} {G : GX} {C : CM} {Q : Int32 → Mem → Prop} (N : Nat) (k20 : Int32 → Int32 → XM → Option (Int32 × XM)) (a2 : Int32) (hk20 : ∀ (ac1 : Int32) (ac2 : Int32) (X : XM), SAT (k20 ac1 ac2 X) (fun v c => Q v (C, c)) → AB l G (rmD 7) 0 0 mt_X11_richest (ZQ G mt_X11_richest Q) 20 [(0, .ref (gA G 10 0 0)), (1, .int ac1), (2, .int ac2)] [] (C, X)) (X : XM) (h : SAT (f_X11_richest_47 N k20 a2 X) (fun v c => Q v (C, c))) : AB l G (rmD 7) 0 0 mt_X11_richest (ZQ G mt_X11_richest Q) 47 [(0, .ref (gA G 10 0 0)), (2, .int a2)] [] (C, X) := by
  unfold f_X11_richest_47 at h
  refine ab_iloadn 1 dX11_richest_47 rfl ?_
  refine ab_istoren (lv' := [(0, .ref (gA G 10 0 0)), (2, .int a2), (1, .int a2)]) dX11_richest_48 rfl (Nat.le_of_ble_eq_true rfl) rfl ?_
  refine ab_iinc (q := 1) (v := (a2 + 1)) (lv' := [(0, .ref (gA G 10 0 0)), (2, .int (a2 + 1)), (1, .int a2)]) dX11_richest_49 rfl rfl rfl (Nat.le_of_ble_eq_true rfl) rfl ?_
  refine ab_goto (tgt := 20) dX11_richest_52 (by decide) ?_
  refine ab_sub [0, 2, 1] rfl ?_
  exact hk20 a2 (a2 + 1) X h
set_option maxRecDepth 8000 in
theorem t_X11_richest_20 {l : Launch} {G : GX} {C : CM} {Q : Int32 → Mem → Prop} (N : Nat) : ∀ (n : Nat) (a1 : Int32) (a2 : Int32) (X : XM), SAT (f_X11_richest_20 N n a1 a2 X) (fun v c => Q v (C, c)) → AB l G (rmD 7) 0 0 mt_X11_richest (ZQ G mt_X11_richest Q) 20 [(0, .ref (gA G 10 0 0)), (1, .int a1), (2, .int a2)] [] (C, X) := by
  intro n
  induction n with
  | zero => intro a1 a2 X h; exact h.elim
  | succ n ih =>
    intro a1 a2 X h
    rw [f_X11_richest_20] at h
    refine ab_iloadn 2 dX11_richest_20 rfl ?_
    refine ab_aloadn 0 dX11_richest_21 rfl ?_
    refine f_gr (x := 6) (k2 := 10) (i2 := 0) (j2 := 2) ⟨by decide, by decide⟩ rfl rfl (Nat.le_of_ble_eq_true rfl) wd_406 rfl rfl dX11_richest_22 ?_
    refine ab_iconst (v := 2) dX11_richest_25 (by decide) ?_
    refine fX_iald ⟨by decide, by decide⟩ rfl (fun _ => rfl) h dX11_richest_26 (fun v1 h => ?_)
    refine ab_icmp_ge (tgt := 55) dX11_richest_27 (by decide) (fun hc2 => ?_) (fun hc2 => ?_)
    · have h := sat_t hc2 h
      refine ab_aloadn 0 dX11_richest_55 rfl ?_
      refine fX_Vv (mtc := mt_X11_back) (As := []) h (fun Q h => ct_X11_back N X h) ⟨by decide, by decide⟩ rfl rfl rfl mw_X11_back wd_428 rfl rfl ⟨Nat.le_of_ble_eq_true rfl, Nat.le_of_ble_eq_true rfl⟩ ⟨Nat.zero_le _, Nat.zero_le _⟩ (Nat.le_of_ble_eq_true rfl) rfl dX11_richest_56 (fun v3 X4 h => ?_)
      refine ab_iloadn 1 dX11_richest_59 rfl ?_
      exact fX_iret h rfl rfl dX11_richest_60
    · have h := sat_f hc2 h
      refine ab_iloadn 1 dX11_richest_30 rfl ?_
      refine ab_if_lt (tgt := 47) dX11_richest_31 (by decide) (fun hc5 => ?_) (fun hc5 => ?_)
      · have h := sat_t hc5 h
        refine ab_sub [0, 2] rfl ?_
        exact t_X11_richest_47 N (fun z1 z2 c => f_X11_richest_20 N n z1 z2 c) a2 ih X h
      · have h := sat_f hc5 h
        refine ab_aloadn 0 dX11_richest_34 rfl ?_
        refine ab_iloadn 2 dX11_richest_35 rfl ?_
        refine fX_Vi (mtc := mt_X11_wealth) (As := [.int a2]) h (fun Q h => ct_X11_wealth a2 X h) ⟨by decide, by decide⟩ rfl rfl rfl mw_X11_wealth wd_446 rfl rfl ⟨Nat.le_of_ble_eq_true rfl, Nat.le_of_ble_eq_true rfl⟩ ⟨Nat.zero_le _, Nat.zero_le _⟩ (Nat.le_of_ble_eq_true rfl) rfl dX11_richest_36 (fun v6 X7 h => ?_)
        refine ab_aloadn 0 dX11_richest_39 rfl ?_
        refine ab_iloadn 1 dX11_richest_40 rfl ?_
        refine fX_Vi (mtc := mt_X11_wealth) (As := [.int a1]) h (fun Q h => ct_X11_wealth a1 X7 h) ⟨by decide, by decide⟩ rfl rfl rfl mw_X11_wealth wd_446 rfl rfl ⟨Nat.le_of_ble_eq_true rfl, Nat.le_of_ble_eq_true rfl⟩ ⟨Nat.zero_le _, Nat.zero_le _⟩ (Nat.le_of_ble_eq_true rfl) rfl dX11_richest_41 (fun v8 X9 h => ?_)
        refine ab_icmp_le (tgt := 49) dX11_richest_44 (by decide) (fun hc10 => ?_) (fun hc10 => ?_)
        · have h := sat_t hc10 h
          refine ab_iinc (q := 2) (v := (a2 + 1)) (lv' := [(0, .ref (gA G 10 0 0)), (1, .int a1), (2, .int (a2 + 1))]) dX11_richest_49 rfl rfl rfl (Nat.le_of_ble_eq_true rfl) rfl ?_
          refine ab_goto (tgt := 20) dX11_richest_52 (by decide) ?_
          exact ih a1 (a2 + 1) X9 h
        · have h := sat_f hc10 h
          refine ab_sub [0, 2] rfl ?_
          exact t_X11_richest_47 N (fun z1 z2 c => f_X11_richest_20 N n z1 z2 c) a2 ih X9 h
set_option maxRecDepth 8000 in
theorem t_X11_richest_0 {l : Launch} {G : GX} {C : CM} {Q : Int32 → Mem → Prop} (N : Nat) (X : XM) (h : SAT (f_X11_richest N X) (fun v c => Q v (C, c))) : AB l G (rmD 7) 0 0 mt_X11_richest (ZQ G mt_X11_richest Q) 0 [(0, .ref (gA G 10 0 0))] [] (C, X) := by
  unfold f_X11_richest at h
  refine ab_aloadn 0 dX11_richest_0 rfl ?_
  refine ab_iconst (v := 0) dX11_richest_1 (by decide) ?_
  refine fX_pi (x := 0) (ty := .int) ⟨by decide, by decide⟩ rfl rfl (Nat.le_of_ble_eq_true rfl) wd_344 rfl h rfl (by decide +kernel) rfl rfl dX11_richest_2 (fun X1 h => ?_)
  refine ab_aloadn 0 dX11_richest_5 rfl ?_
  refine fX_Vv (mtc := mt_X11_tries) (As := []) h (fun Q h => ct_X11_tries N X1 h) ⟨by decide, by decide⟩ rfl rfl rfl mw_X11_tries wd_424 rfl rfl ⟨Nat.le_of_ble_eq_true rfl, Nat.le_of_ble_eq_true rfl⟩ ⟨Nat.zero_le _, Nat.zero_le _⟩ (Nat.le_of_ble_eq_true rfl) rfl dX11_richest_6 (fun v2 X3 h => ?_)
  refine ab_aloadn 0 dX11_richest_9 rfl ?_
  refine ab_bipush (v := 48) dX11_richest_10 (by decide) ?_
  refine fX_Vi (mtc := mt_X11_goes) (As := [.int 48]) h (fun Q h => ct_X11_goes N 48 X3 h) ⟨by decide, by decide⟩ rfl rfl rfl mw_X11_goes wd_438 rfl rfl ⟨Nat.le_of_ble_eq_true rfl, Nat.le_of_ble_eq_true rfl⟩ ⟨Nat.zero_le _, Nat.zero_le _⟩ (Nat.le_of_ble_eq_true rfl) rfl dX11_richest_12 (fun v4 X5 h => ?_)
  refine ab_pop dX11_richest_15 rfl ?_
  refine ab_iconst (v := (-1)) dX11_richest_16 (by decide) ?_
  refine ab_istoren (lv' := [(0, .ref (gA G 10 0 0)), (1, .int (-1))]) dX11_richest_17 rfl (Nat.le_of_ble_eq_true rfl) rfl ?_
  refine ab_iconst (v := 0) dX11_richest_18 (by decide) ?_
  refine ab_istoren (lv' := [(0, .ref (gA G 10 0 0)), (1, .int (-1)), (2, .int 0)]) dX11_richest_19 rfl (Nat.le_of_ble_eq_true rfl) rfl ?_
  exact t_X11_richest_20 N N (-1) 0 X5 h
theorem ct_X11_richest {l : Launch} {G : GX} {C : CM} {Q : Int32 → Mem → Prop} (N : Nat) (X : XM) (h : SAT (f_X11_richest N X) (fun v c => Q v (C, c))) : CT l G 7 mt_X11_richest [.ref (gA G 10 0 0)] (C, X) Q := ct_of pn_X11 (Nat.le_of_ble_eq_true rfl) (t_X11_richest_0 N X h)
def f_X11_best_30 (N : Nat) (a1 : Int32) (a2 : Int32) : Nat → Int32 → Int32 → XM → Option (Int32 × XM)
  | 0, _, _, _ => none
  | n + 1, a3, a4, X => (if 8 ≤ a4 then (rt a3 X) else cal (f_X11_gainOf N a1 a4 a2 X) (fun v2 X3 => cal (f_X11_gainOf N a1 a3 a2 X3) (fun v4 X5 => (if v2 ≤ v4 then (f_X11_best_30 N a1 a2 n a3 (a4 + 1) X5) else (f_X11_best_30 N a1 a2 n a4 (a4 + 1) X5)))))
def f_X11_best (N : Nat) (a1 : Int32) (a2 : Int32) (X : XM) : Option (Int32 × XM) := bnd (stX X 0 0 0) (fun X1 => cal (f_X11_isOwner a1 X1) (fun v2 X3 => (if v2 = 0 then (rt (-1) X3) else cal (f_X11_isIn a2 1 9 X3) (fun v5 X6 => (if v5 = 0 then (rt (-1) X6) else (f_X11_best_30 N a1 a2 N 0 1 X6))))))
set_option maxRecDepth 8000 in
theorem t_X11_best_30 {l : Launch} {G : GX} {C : CM} {Q : Int32 → Mem → Prop} (N : Nat) (a1 : Int32) (a2 : Int32) : ∀ (n : Nat) (a3 : Int32) (a4 : Int32) (X : XM), SAT (f_X11_best_30 N a1 a2 n a3 a4 X) (fun v c => Q v (C, c)) → AB l G (rmD 6) 0 0 mt_X11_best (ZQ G mt_X11_best Q) 30 [(0, .ref (gA G 10 0 0)), (1, .int a1), (2, .int a2), (3, .int a3), (4, .int a4)] [] (C, X) := by
  intro n
  induction n with
  | zero => intro a3 a4 X h; exact h.elim
  | succ n ih =>
    intro a3 a4 X h
    rw [f_X11_best_30] at h
    refine ab_iload 4 dX11_best_30 rfl ?_
    refine ab_bipush (v := 8) dX11_best_32 (by decide) ?_
    refine ab_icmp_ge (tgt := 64) dX11_best_34 (by decide) (fun hc1 => ?_) (fun hc1 => ?_)
    · have h := sat_t hc1 h
      refine ab_iloadn 3 dX11_best_64 rfl ?_
      exact fX_iret h rfl rfl dX11_best_65
    · have h := sat_f hc1 h
      refine ab_aloadn 0 dX11_best_37 rfl ?_
      refine ab_iloadn 1 dX11_best_38 rfl ?_
      refine ab_iload 4 dX11_best_39 rfl ?_
      refine ab_iloadn 2 dX11_best_41 rfl ?_
      refine fX_Vi (mtc := mt_X11_gainOf) (As := [.int a1, .int a4, .int a2]) h (fun Q h => ct_X11_gainOf N a1 a4 a2 X h) ⟨by decide, by decide⟩ rfl rfl rfl mw_X11_gainOf wd_433 rfl rfl ⟨Nat.le_of_ble_eq_true rfl, Nat.le_of_ble_eq_true rfl⟩ ⟨Nat.zero_le _, Nat.zero_le _⟩ (Nat.le_of_ble_eq_true rfl) rfl dX11_best_42 (fun v2 X3 h => ?_)
      refine ab_aloadn 0 dX11_best_45 rfl ?_
      refine ab_iloadn 1 dX11_best_46 rfl ?_
      refine ab_iloadn 3 dX11_best_47 rfl ?_
      refine ab_iloadn 2 dX11_best_48 rfl ?_
      refine fX_Vi (mtc := mt_X11_gainOf) (As := [.int a1, .int a3, .int a2]) h (fun Q h => ct_X11_gainOf N a1 a3 a2 X3 h) ⟨by decide, by decide⟩ rfl rfl rfl mw_X11_gainOf wd_433 rfl rfl ⟨Nat.le_of_ble_eq_true rfl, Nat.le_of_ble_eq_true rfl⟩ ⟨Nat.zero_le _, Nat.zero_le _⟩ (Nat.le_of_ble_eq_true rfl) rfl dX11_best_49 (fun v4 X5 h => ?_)
      refine ab_icmp_le (tgt := 58) dX11_best_52 (by decide) (fun hc6 => ?_) (fun hc6 => ?_)
      · have h := sat_t hc6 h
        refine ab_iinc (q := 4) (v := (a4 + 1)) (lv' := [(0, .ref (gA G 10 0 0)), (1, .int a1), (2, .int a2), (3, .int a3), (4, .int (a4 + 1))]) dX11_best_58 rfl rfl rfl (Nat.le_of_ble_eq_true rfl) rfl ?_
        refine ab_goto (tgt := 30) dX11_best_61 (by decide) ?_
        exact ih a3 (a4 + 1) X5 h
      · have h := sat_f hc6 h
        refine ab_iload 4 dX11_best_55 rfl ?_
        refine ab_istoren (lv' := [(0, .ref (gA G 10 0 0)), (1, .int a1), (2, .int a2), (3, .int a4), (4, .int a4)]) dX11_best_57 rfl (Nat.le_of_ble_eq_true rfl) rfl ?_
        refine ab_iinc (q := 4) (v := (a4 + 1)) (lv' := [(0, .ref (gA G 10 0 0)), (1, .int a1), (2, .int a2), (3, .int a4), (4, .int (a4 + 1))]) dX11_best_58 rfl rfl rfl (Nat.le_of_ble_eq_true rfl) rfl ?_
        refine ab_goto (tgt := 30) dX11_best_61 (by decide) ?_
        exact ih a4 (a4 + 1) X5 h
set_option maxRecDepth 8000 in
theorem t_X11_best_0 {l : Launch} {G : GX} {C : CM} {Q : Int32 → Mem → Prop} (N : Nat) (a1 : Int32) (a2 : Int32) (X : XM) (h : SAT (f_X11_best N a1 a2 X) (fun v c => Q v (C, c))) : AB l G (rmD 6) 0 0 mt_X11_best (ZQ G mt_X11_best Q) 0 [(0, .ref (gA G 10 0 0)), (1, .int a1), (2, .int a2)] [] (C, X) := by
  unfold f_X11_best at h
  refine ab_aloadn 0 dX11_best_0 rfl ?_
  refine ab_iconst (v := 0) dX11_best_1 (by decide) ?_
  refine fX_pi (x := 0) (ty := .int) ⟨by decide, by decide⟩ rfl rfl (Nat.le_of_ble_eq_true rfl) wd_344 rfl h rfl (by decide +kernel) rfl rfl dX11_best_2 (fun X1 h => ?_)
  refine ab_aloadn 0 dX11_best_5 rfl ?_
  refine ab_iloadn 1 dX11_best_6 rfl ?_
  refine fX_Vi (mtc := mt_X11_isOwner) (As := [.int a1]) h (fun Q h => ct_X11_isOwner a1 X1 h) ⟨by decide, by decide⟩ rfl rfl rfl mw_X11_isOwner wd_413 rfl rfl ⟨Nat.le_of_ble_eq_true rfl, Nat.le_of_ble_eq_true rfl⟩ ⟨Nat.zero_le _, Nat.zero_le _⟩ (Nat.le_of_ble_eq_true rfl) rfl dX11_best_7 (fun v2 X3 h => ?_)
  refine ab_if_eq (tgt := 23) dX11_best_10 (by decide) (fun hc4 => ?_) (fun hc4 => ?_)
  · have h := sat_t hc4 h
    refine ab_iconst (v := (-1)) dX11_best_23 (by decide) ?_
    exact fX_iret h rfl rfl dX11_best_24
  · have h := sat_f hc4 h
    refine ab_iloadn 2 dX11_best_13 rfl ?_
    refine ab_iconst (v := 1) dX11_best_14 (by decide) ?_
    refine ab_bipush (v := 9) dX11_best_15 (by decide) ?_
    refine fX_Si (mtc := mt_X11_isIn) (As := [.int a2, .int 1, .int 9]) h (fun Q h => ct_X11_isIn a2 1 9 X3 h) mw_X11_isIn wd_382 wd_383 rfl rfl ⟨Nat.le_of_ble_eq_true rfl, Nat.le_of_ble_eq_true rfl⟩ ⟨Nat.zero_le _, Nat.zero_le _⟩ (Nat.le_of_ble_eq_true rfl) rfl dX11_best_17 (fun v5 X6 h => ?_)
    refine ab_if_ne (tgt := 25) dX11_best_20 (by decide) (fun hc7 => ?_) (fun hc7 => ?_)
    · have h := sat_f hc7 h
      refine ab_iconst (v := 0) dX11_best_25 (by decide) ?_
      refine ab_istoren (lv' := [(0, .ref (gA G 10 0 0)), (1, .int a1), (2, .int a2), (3, .int 0)]) dX11_best_26 rfl (Nat.le_of_ble_eq_true rfl) rfl ?_
      refine ab_iconst (v := 1) dX11_best_27 (by decide) ?_
      refine ab_istore (lv' := [(0, .ref (gA G 10 0 0)), (1, .int a1), (2, .int a2), (3, .int 0), (4, .int 1)]) dX11_best_28 rfl (Nat.le_of_ble_eq_true rfl) rfl ?_
      exact t_X11_best_30 N a1 a2 N 0 1 X6 h
    · have h := sat_t hc7 h
      refine ab_iconst (v := (-1)) dX11_best_23 (by decide) ?_
      exact fX_iret h rfl rfl dX11_best_24
theorem ct_X11_best {l : Launch} {G : GX} {C : CM} {Q : Int32 → Mem → Prop} (N : Nat) (a1 : Int32) (a2 : Int32) (X : XM) (h : SAT (f_X11_best N a1 a2 X) (fun v c => Q v (C, c))) : CT l G 6 mt_X11_best [.ref (gA G 10 0 0), .int a1, .int a2] (C, X) Q := ct_of pn_X11 (Nat.le_of_ble_eq_true rfl) (t_X11_best_0 N a1 a2 X h)
def f_X11_planLine_237 (N : Nat) (a2 : Int32) (as0 : Int32) (as1 : Int32) (X : XM) : Option (Int32 × XM) := cal (f_X11_takes N as1 as0 X) (fun v1 X2 => (if v1 = 0 then (rt 0 X2) else sxA X2 4 135 (a2 + 1) (X2.1 0 18) (fun X4 => (rt 1 X4))))
def f_X11_planLine_224 (N : Nat) (a1 : Int32) (a2 : Int32) (as0 : Int32) (X : XM) : Option (Int32 × XM) := (if a1 = 1 then (f_X11_planLine_237 N a2 999 as0 X) else (f_X11_planLine_237 N a2 48 as0 X))
def f_X11_planLine_213 (N : Nat) (a1 : Int32) (a2 : Int32) (X : XM) : Option (Int32 × XM) := (if a1 = 1 then (f_X11_planLine_224 N a1 a2 0 X) else (f_X11_planLine_224 N a1 a2 1 X))
def f_X11_planLine_108 (N : Nat) (a1 : Int32) (a2 : Int32) : Nat → Int32 → XM → Option (Int32 × XM)
  | 0, _, _ => none
  | n + 1, a3, X => (if 4 ≤ a3 then sxA X 4 135 a2 a1 (fun X2 => cal (f_X11_next N X2) (fun v3 X4 => (if a1 = 0 then ldA (X4.1 2) 845 0 (fun v27 => cal (f_X11_takes N 0 (v27 - 1) X4) (fun v28 X29 => (if v28 = 0 then (rt 0 X29) else ldA (X29.1 2) 845 1 (fun v31 => cal (f_X11_takes N 0 (v31 - 1) X29) (fun v32 X33 => (if v32 = 0 then (rt 0 X33) else sxA X33 4 135 (a2 + 1) ((10 * (X33.1 0 18)) + (X29.1 0 18)) (fun X35 => (rt 1 X35)))))))) else (if a1 = 1 then (f_X11_planLine_213 N a1 a2 X4) else (if a1 = 4 then (f_X11_planLine_213 N a1 a2 X4) else cal (f_X11_isName N X4) (fun v8 X9 => (if v8 = 0 then cal (f_X11_bad 1 X9) (fun v25 X26 => (chk (isB v25) (rt v25 X26))) else ldA (X9.1 2) 845 2 (fun v11 => cal (f_X11_find N 0 v11 X9) (fun v12 X13 => (if 0 ≤ v12 then sxA X13 4 135 (a2 + 1) v12 (fun X15 => cal (f_X11_next N X15) (fun v16 X17 => (if a1 = 2 then (rt 1 X17) else cal (f_X11_takes N 0 7 X17) (fun v19 X20 => (if v19 = 0 then (rt 0 X20) else sxA X20 4 135 (a2 + 2) (X20.1 0 18) (fun X22 => (rt 1 X22))))))) else cal (f_X11_bad 3 X13) (fun v23 X24 => (chk (isB v23) (rt v23 X24))))))))))))) else sxA X 4 135 (a2 + a3) 0 (fun X36 => (f_X11_planLine_108 N a1 a2 n (a3 + 1) X36)))
def f_X11_planLine_71 (N : Nat) (as0 : Int32) (X : XM) : Option (Int32 × XM) := (if 0 ≤ as0 then (if (X.1 0 40) = 30 then cal (f_X11_bad 4 X) (fun v3 X4 => (chk (isB v3) (rt v3 X4))) else (f_X11_planLine_108 N as0 (1 + (4 * (X.1 0 40))) N 0 X)) else cal (f_X11_bad 1 X) (fun v5 X6 => (chk (isB v5) (rt v5 X6))))
def f_X11_planLine (N : Nat) (X : XM) : Option (Int32 × XM) := cal (f_X11_isWord 7562612 X) (fun v1 X2 => (if v1 = 0 then cal (f_X11_isWord 1717922924 X2) (fun v4 X5 => (if v4 = 0 then cal (f_X11_isWord 7301484 X5) (fun v7 X8 => (if v7 = 0 then cal (f_X11_isWord 482905517684 X8) (fun v10 X11 => (if v10 = 0 then cal (f_X11_isWord 1651273591 X11) (fun v13 X14 => (if v13 = 0 then (f_X11_planLine_71 N (-1) X14) else (f_X11_planLine_71 N 4 X14))) else (f_X11_planLine_71 N 3 X11))) else (f_X11_planLine_71 N 2 X8))) else (f_X11_planLine_71 N 1 X5))) else (f_X11_planLine_71 N 0 X2)))
set_option maxRecDepth 8000 in
theorem t_X11_planLine_237 {l : Launch} {G : GX} {C : CM} {Q : Int32 → Mem → Prop} (N : Nat) (a2 : Int32) (as0 : Int32) (as1 : Int32) (X : XM) (h : SAT (f_X11_planLine_237 N a2 as0 as1 X) (fun v c => Q v (C, c))) : AB l G (rmD 4) 0 0 mt_X11_planLine (ZQ G mt_X11_planLine Q) 237 [(0, .ref (gA G 10 0 0)), (2, .int a2)] [.int as0, .int as1, .ref (gA G 10 0 0)] (C, X) := by
  unfold f_X11_planLine_237 at h
  refine fX_Vi (mtc := mt_X11_takes) (As := [.int as1, .int as0]) h (fun Q h => ct_X11_takes N as1 as0 X h) ⟨by decide, by decide⟩ rfl rfl rfl mw_X11_takes wd_387 rfl rfl ⟨Nat.le_of_ble_eq_true rfl, Nat.le_of_ble_eq_true rfl⟩ ⟨Nat.zero_le _, Nat.zero_le _⟩ (Nat.le_of_ble_eq_true rfl) rfl dX11_planLine_237 (fun v1 X2 h => ?_)
  refine ab_if_ne (tgt := 245) dX11_planLine_240 (by decide) (fun hc3 => ?_) (fun hc3 => ?_)
  · have h := sat_f hc3 h
    refine ab_aloadn 0 dX11_planLine_245 rfl ?_
    refine f_gr (x := 8) (k2 := 10) (i2 := 0) (j2 := 4) ⟨by decide, by decide⟩ rfl rfl (Nat.le_of_ble_eq_true rfl) wd_462 rfl rfl dX11_planLine_246 ?_
    refine ab_iloadn 1 dX11_planLine_249 rfl ?_
    refine ab_iconst (v := 1) dX11_planLine_250 (by decide) ?_
    refine ab_iadd dX11_planLine_251 ?_
    refine ab_aloadn 0 dX11_planLine_252 rfl ?_
    refine fX_gi (x := 18) ⟨by decide, by decide⟩ rfl rfl (Nat.le_of_ble_eq_true rfl) wd_384 rfl dX11_planLine_253 ?_
    refine fX_iast ⟨by decide, by decide⟩ rfl (fun _ => rfl) h dX11_planLine_256 (fun X4 h => ?_)
    refine ab_iconst (v := 1) dX11_planLine_257 (by decide) ?_
    exact fX_iret h rfl rfl dX11_planLine_258
  · have h := sat_t hc3 h
    refine ab_iconst (v := 0) dX11_planLine_243 (by decide) ?_
    exact fX_iret h rfl rfl dX11_planLine_244
set_option maxRecDepth 8000 in
theorem t_X11_planLine_224 {l : Launch} {G : GX} {C : CM} {Q : Int32 → Mem → Prop} (N : Nat) (a1 : Int32) (a2 : Int32) (as0 : Int32) (X : XM) (h : SAT (f_X11_planLine_224 N a1 a2 as0 X) (fun v c => Q v (C, c))) : AB l G (rmD 4) 0 0 mt_X11_planLine (ZQ G mt_X11_planLine Q) 224 [(0, .ref (gA G 10 0 0)), (1, .int a1), (2, .int a2)] [.int as0, .ref (gA G 10 0 0)] (C, X) := by
  unfold f_X11_planLine_224 at h
  refine ab_iloadn 1 dX11_planLine_224 rfl ?_
  refine ab_iconst (v := 1) dX11_planLine_225 (by decide) ?_
  refine ab_icmp_ne (tgt := 235) dX11_planLine_226 (by decide) (fun hc1 => ?_) (fun hc1 => ?_)
  · have h := sat_f hc1 h
    refine ab_bipush (v := 48) dX11_planLine_235 (by decide) ?_
    refine ab_sub [0, 2] rfl ?_
    exact t_X11_planLine_237 N a2 48 as0 X h
  · have h := sat_t hc1 h
    refine ab_sipush (v := 999) dX11_planLine_229 (by decide) ?_
    refine ab_goto (tgt := 237) dX11_planLine_232 (by decide) ?_
    refine ab_sub [0, 2] rfl ?_
    exact t_X11_planLine_237 N a2 999 as0 X h
set_option maxRecDepth 8000 in
theorem t_X11_planLine_213 {l : Launch} {G : GX} {C : CM} {Q : Int32 → Mem → Prop} (N : Nat) (a1 : Int32) (a2 : Int32) (X : XM) (h : SAT (f_X11_planLine_213 N a1 a2 X) (fun v c => Q v (C, c))) : AB l G (rmD 4) 0 0 mt_X11_planLine (ZQ G mt_X11_planLine Q) 213 [(0, .ref (gA G 10 0 0)), (1, .int a1), (2, .int a2)] [] (C, X) := by
  unfold f_X11_planLine_213 at h
  refine ab_aloadn 0 dX11_planLine_213 rfl ?_
  refine ab_iloadn 1 dX11_planLine_214 rfl ?_
  refine ab_iconst (v := 1) dX11_planLine_215 (by decide) ?_
  refine ab_icmp_ne (tgt := 223) dX11_planLine_216 (by decide) (fun hc1 => ?_) (fun hc1 => ?_)
  · have h := sat_f hc1 h
    refine ab_iconst (v := 1) dX11_planLine_223 (by decide) ?_
    exact t_X11_planLine_224 N a1 a2 1 X h
  · have h := sat_t hc1 h
    refine ab_iconst (v := 0) dX11_planLine_219 (by decide) ?_
    refine ab_goto (tgt := 224) dX11_planLine_220 (by decide) ?_
    exact t_X11_planLine_224 N a1 a2 0 X h
set_option maxRecDepth 8000 in
theorem t_X11_planLine_108 {l : Launch} {G : GX} {C : CM} {Q : Int32 → Mem → Prop} (N : Nat) (a1 : Int32) (a2 : Int32) : ∀ (n : Nat) (a3 : Int32) (X : XM), SAT (f_X11_planLine_108 N a1 a2 n a3 X) (fun v c => Q v (C, c)) → AB l G (rmD 4) 0 0 mt_X11_planLine (ZQ G mt_X11_planLine Q) 108 [(0, .ref (gA G 10 0 0)), (1, .int a1), (2, .int a2), (3, .int a3)] [] (C, X) := by
  intro n
  induction n with
  | zero => intro a3 X h; exact h.elim
  | succ n ih =>
    intro a3 X h
    rw [f_X11_planLine_108] at h
    refine ab_iloadn 3 dX11_planLine_108 rfl ?_
    refine ab_iconst (v := 4) dX11_planLine_109 (by decide) ?_
    refine ab_icmp_ge (tgt := 128) dX11_planLine_110 (by decide) (fun hc1 => ?_) (fun hc1 => ?_)
    · have h := sat_t hc1 h
      refine ab_aloadn 0 dX11_planLine_128 rfl ?_
      refine f_gr (x := 8) (k2 := 10) (i2 := 0) (j2 := 4) ⟨by decide, by decide⟩ rfl rfl (Nat.le_of_ble_eq_true rfl) wd_462 rfl rfl dX11_planLine_129 ?_
      refine ab_iloadn 2 dX11_planLine_132 rfl ?_
      refine ab_iloadn 1 dX11_planLine_133 rfl ?_
      refine fX_iast ⟨by decide, by decide⟩ rfl (fun _ => rfl) h dX11_planLine_134 (fun X2 h => ?_)
      refine ab_aloadn 0 dX11_planLine_135 rfl ?_
      refine fX_Vv (mtc := mt_X11_next) (As := []) h (fun Q h => ct_X11_next N X2 h) ⟨by decide, by decide⟩ rfl rfl rfl mw_X11_next wd_369 rfl rfl ⟨Nat.le_of_ble_eq_true rfl, Nat.le_of_ble_eq_true rfl⟩ ⟨Nat.zero_le _, Nat.zero_le _⟩ (Nat.le_of_ble_eq_true rfl) rfl dX11_planLine_136 (fun v3 X4 h => ?_)
      refine ab_iloadn 1 dX11_planLine_139 rfl ?_
      refine ab_if_ne (tgt := 203) dX11_planLine_140 (by decide) (fun hc5 => ?_) (fun hc5 => ?_)
      · have h := sat_f hc5 h
        refine ab_iloadn 1 dX11_planLine_203 rfl ?_
        refine ab_iconst (v := 1) dX11_planLine_204 (by decide) ?_
        refine ab_icmp_eq (tgt := 213) dX11_planLine_205 (by decide) (fun hc6 => ?_) (fun hc6 => ?_)
        · have h := sat_t hc6 h
          refine ab_sub [0, 1, 2] rfl ?_
          exact t_X11_planLine_213 N a1 a2 X4 h
        · have h := sat_f hc6 h
          refine ab_iloadn 1 dX11_planLine_208 rfl ?_
          refine ab_iconst (v := 4) dX11_planLine_209 (by decide) ?_
          refine ab_icmp_ne (tgt := 259) dX11_planLine_210 (by decide) (fun hc7 => ?_) (fun hc7 => ?_)
          · have h := sat_f hc7 h
            refine ab_aloadn 0 dX11_planLine_259 rfl ?_
            refine fX_Vi (mtc := mt_X11_isName) (As := []) h (fun Q h => ct_X11_isName N X4 h) ⟨by decide, by decide⟩ rfl rfl rfl mw_X11_isName wd_389 rfl rfl ⟨Nat.le_of_ble_eq_true rfl, Nat.le_of_ble_eq_true rfl⟩ ⟨Nat.zero_le _, Nat.zero_le _⟩ (Nat.le_of_ble_eq_true rfl) rfl dX11_planLine_260 (fun v8 X9 h => ?_)
            refine ab_if_ne (tgt := 272) dX11_planLine_263 (by decide) (fun hc10 => ?_) (fun hc10 => ?_)
            · have h := sat_f hc10 h
              refine ab_aloadn 0 dX11_planLine_272 rfl ?_
              refine ab_iconst (v := 0) dX11_planLine_273 (by decide) ?_
              refine ab_aloadn 0 dX11_planLine_274 rfl ?_
              refine f_gr (x := 6) (k2 := 10) (i2 := 0) (j2 := 2) ⟨by decide, by decide⟩ rfl rfl (Nat.le_of_ble_eq_true rfl) wd_406 rfl rfl dX11_planLine_275 ?_
              refine ab_iconst (v := 2) dX11_planLine_278 (by decide) ?_
              refine fX_iald ⟨by decide, by decide⟩ rfl (fun _ => rfl) h dX11_planLine_279 (fun v11 h => ?_)
              refine fX_Vi (mtc := mt_X11_find) (As := [.int 0, .int v11]) h (fun Q h => ct_X11_find N 0 v11 X9 h) ⟨by decide, by decide⟩ rfl rfl rfl mw_X11_find wd_391 rfl rfl ⟨Nat.le_of_ble_eq_true rfl, Nat.le_of_ble_eq_true rfl⟩ ⟨Nat.zero_le _, Nat.zero_le _⟩ (Nat.le_of_ble_eq_true rfl) rfl dX11_planLine_280 (fun v12 X13 h => ?_)
              refine ab_istoren (lv' := [(0, .ref (gA G 10 0 0)), (1, .int a1), (2, .int a2), (3, .int v12)]) dX11_planLine_283 rfl (Nat.le_of_ble_eq_true rfl) rfl ?_
              refine ab_iloadn 3 dX11_planLine_284 rfl ?_
              refine ab_if_ge (tgt := 294) dX11_planLine_285 (by decide) (fun hc14 => ?_) (fun hc14 => ?_)
              · have h := sat_t hc14 h
                refine ab_aloadn 0 dX11_planLine_294 rfl ?_
                refine f_gr (x := 8) (k2 := 10) (i2 := 0) (j2 := 4) ⟨by decide, by decide⟩ rfl rfl (Nat.le_of_ble_eq_true rfl) wd_462 rfl rfl dX11_planLine_295 ?_
                refine ab_iloadn 2 dX11_planLine_298 rfl ?_
                refine ab_iconst (v := 1) dX11_planLine_299 (by decide) ?_
                refine ab_iadd dX11_planLine_300 ?_
                refine ab_iloadn 3 dX11_planLine_301 rfl ?_
                refine fX_iast ⟨by decide, by decide⟩ rfl (fun _ => rfl) h dX11_planLine_302 (fun X15 h => ?_)
                refine ab_aloadn 0 dX11_planLine_303 rfl ?_
                refine fX_Vv (mtc := mt_X11_next) (As := []) h (fun Q h => ct_X11_next N X15 h) ⟨by decide, by decide⟩ rfl rfl rfl mw_X11_next wd_369 rfl rfl ⟨Nat.le_of_ble_eq_true rfl, Nat.le_of_ble_eq_true rfl⟩ ⟨Nat.zero_le _, Nat.zero_le _⟩ (Nat.le_of_ble_eq_true rfl) rfl dX11_planLine_304 (fun v16 X17 h => ?_)
                refine ab_iloadn 1 dX11_planLine_307 rfl ?_
                refine ab_iconst (v := 2) dX11_planLine_308 (by decide) ?_
                refine ab_icmp_ne (tgt := 314) dX11_planLine_309 (by decide) (fun hc18 => ?_) (fun hc18 => ?_)
                · have h := sat_f hc18 h
                  refine ab_aloadn 0 dX11_planLine_314 rfl ?_
                  refine ab_iconst (v := 0) dX11_planLine_315 (by decide) ?_
                  refine ab_bipush (v := 7) dX11_planLine_316 (by decide) ?_
                  refine fX_Vi (mtc := mt_X11_takes) (As := [.int 0, .int 7]) h (fun Q h => ct_X11_takes N 0 7 X17 h) ⟨by decide, by decide⟩ rfl rfl rfl mw_X11_takes wd_387 rfl rfl ⟨Nat.le_of_ble_eq_true rfl, Nat.le_of_ble_eq_true rfl⟩ ⟨Nat.zero_le _, Nat.zero_le _⟩ (Nat.le_of_ble_eq_true rfl) rfl dX11_planLine_318 (fun v19 X20 h => ?_)
                  refine ab_if_ne (tgt := 326) dX11_planLine_321 (by decide) (fun hc21 => ?_) (fun hc21 => ?_)
                  · have h := sat_f hc21 h
                    refine ab_aloadn 0 dX11_planLine_326 rfl ?_
                    refine f_gr (x := 8) (k2 := 10) (i2 := 0) (j2 := 4) ⟨by decide, by decide⟩ rfl rfl (Nat.le_of_ble_eq_true rfl) wd_462 rfl rfl dX11_planLine_327 ?_
                    refine ab_iloadn 2 dX11_planLine_330 rfl ?_
                    refine ab_iconst (v := 2) dX11_planLine_331 (by decide) ?_
                    refine ab_iadd dX11_planLine_332 ?_
                    refine ab_aloadn 0 dX11_planLine_333 rfl ?_
                    refine fX_gi (x := 18) ⟨by decide, by decide⟩ rfl rfl (Nat.le_of_ble_eq_true rfl) wd_384 rfl dX11_planLine_334 ?_
                    refine fX_iast ⟨by decide, by decide⟩ rfl (fun _ => rfl) h dX11_planLine_337 (fun X22 h => ?_)
                    refine ab_iconst (v := 1) dX11_planLine_338 (by decide) ?_
                    exact fX_iret h rfl rfl dX11_planLine_339
                  · have h := sat_t hc21 h
                    refine ab_iconst (v := 0) dX11_planLine_324 (by decide) ?_
                    exact fX_iret h rfl rfl dX11_planLine_325
                · have h := sat_t hc18 h
                  refine ab_iconst (v := 1) dX11_planLine_312 (by decide) ?_
                  exact fX_iret h rfl rfl dX11_planLine_313
              · have h := sat_f hc14 h
                refine ab_aloadn 0 dX11_planLine_288 rfl ?_
                refine ab_iconst (v := 3) dX11_planLine_289 (by decide) ?_
                refine fX_Vi (mtc := mt_X11_bad) (As := [.int 3]) h (fun Q h => ct_X11_bad 3 X13 h) ⟨by decide, by decide⟩ rfl rfl rfl mw_X11_bad wd_386 rfl rfl ⟨Nat.le_of_ble_eq_true rfl, Nat.le_of_ble_eq_true rfl⟩ ⟨Nat.zero_le _, Nat.zero_le _⟩ (Nat.le_of_ble_eq_true rfl) rfl dX11_planLine_290 (fun v23 X24 h => ?_)
                exact fX_iretb h rfl dX11_planLine_293
            · have h := sat_t hc10 h
              refine ab_aloadn 0 dX11_planLine_266 rfl ?_
              refine ab_iconst (v := 1) dX11_planLine_267 (by decide) ?_
              refine fX_Vi (mtc := mt_X11_bad) (As := [.int 1]) h (fun Q h => ct_X11_bad 1 X9 h) ⟨by decide, by decide⟩ rfl rfl rfl mw_X11_bad wd_386 rfl rfl ⟨Nat.le_of_ble_eq_true rfl, Nat.le_of_ble_eq_true rfl⟩ ⟨Nat.zero_le _, Nat.zero_le _⟩ (Nat.le_of_ble_eq_true rfl) rfl dX11_planLine_268 (fun v25 X26 h => ?_)
              exact fX_iretb h rfl dX11_planLine_271
          · have h := sat_t hc7 h
            refine ab_sub [0, 1, 2] rfl ?_
            exact t_X11_planLine_213 N a1 a2 X4 h
      · have h := sat_t hc5 h
        refine ab_aloadn 0 dX11_planLine_143 rfl ?_
        refine ab_iconst (v := 0) dX11_planLine_144 (by decide) ?_
        refine ab_aloadn 0 dX11_planLine_145 rfl ?_
        refine f_gr (x := 6) (k2 := 10) (i2 := 0) (j2 := 2) ⟨by decide, by decide⟩ rfl rfl (Nat.le_of_ble_eq_true rfl) wd_406 rfl rfl dX11_planLine_146 ?_
        refine ab_iconst (v := 0) dX11_planLine_149 (by decide) ?_
        refine fX_iald ⟨by decide, by decide⟩ rfl (fun _ => rfl) h dX11_planLine_150 (fun v27 h => ?_)
        refine ab_iconst (v := 1) dX11_planLine_151 (by decide) ?_
        refine ab_isub dX11_planLine_152 ?_
        refine fX_Vi (mtc := mt_X11_takes) (As := [.int 0, .int (v27 - 1)]) h (fun Q h => ct_X11_takes N 0 (v27 - 1) X4 h) ⟨by decide, by decide⟩ rfl rfl rfl mw_X11_takes wd_387 rfl rfl ⟨Nat.le_of_ble_eq_true rfl, Nat.le_of_ble_eq_true rfl⟩ ⟨Nat.zero_le _, Nat.zero_le _⟩ (Nat.le_of_ble_eq_true rfl) rfl dX11_planLine_153 (fun v28 X29 h => ?_)
        refine ab_if_ne (tgt := 161) dX11_planLine_156 (by decide) (fun hc30 => ?_) (fun hc30 => ?_)
        · have h := sat_f hc30 h
          refine ab_aloadn 0 dX11_planLine_161 rfl ?_
          refine fX_gi (x := 18) ⟨by decide, by decide⟩ rfl rfl (Nat.le_of_ble_eq_true rfl) wd_384 rfl dX11_planLine_162 ?_
          refine ab_istoren (lv' := [(0, .ref (gA G 10 0 0)), (1, .int a1), (2, .int a2), (3, .int (X29.1 0 18))]) dX11_planLine_165 rfl (Nat.le_of_ble_eq_true rfl) rfl ?_
          refine ab_aloadn 0 dX11_planLine_166 rfl ?_
          refine ab_iconst (v := 0) dX11_planLine_167 (by decide) ?_
          refine ab_aloadn 0 dX11_planLine_168 rfl ?_
          refine f_gr (x := 6) (k2 := 10) (i2 := 0) (j2 := 2) ⟨by decide, by decide⟩ rfl rfl (Nat.le_of_ble_eq_true rfl) wd_406 rfl rfl dX11_planLine_169 ?_
          refine ab_iconst (v := 1) dX11_planLine_172 (by decide) ?_
          refine fX_iald ⟨by decide, by decide⟩ rfl (fun _ => rfl) h dX11_planLine_173 (fun v31 h => ?_)
          refine ab_iconst (v := 1) dX11_planLine_174 (by decide) ?_
          refine ab_isub dX11_planLine_175 ?_
          refine fX_Vi (mtc := mt_X11_takes) (As := [.int 0, .int (v31 - 1)]) h (fun Q h => ct_X11_takes N 0 (v31 - 1) X29 h) ⟨by decide, by decide⟩ rfl rfl rfl mw_X11_takes wd_387 rfl rfl ⟨Nat.le_of_ble_eq_true rfl, Nat.le_of_ble_eq_true rfl⟩ ⟨Nat.zero_le _, Nat.zero_le _⟩ (Nat.le_of_ble_eq_true rfl) rfl dX11_planLine_176 (fun v32 X33 h => ?_)
          refine ab_if_ne (tgt := 184) dX11_planLine_179 (by decide) (fun hc34 => ?_) (fun hc34 => ?_)
          · have h := sat_f hc34 h
            refine ab_aloadn 0 dX11_planLine_184 rfl ?_
            refine f_gr (x := 8) (k2 := 10) (i2 := 0) (j2 := 4) ⟨by decide, by decide⟩ rfl rfl (Nat.le_of_ble_eq_true rfl) wd_462 rfl rfl dX11_planLine_185 ?_
            refine ab_iloadn 2 dX11_planLine_188 rfl ?_
            refine ab_iconst (v := 1) dX11_planLine_189 (by decide) ?_
            refine ab_iadd dX11_planLine_190 ?_
            refine ab_bipush (v := 10) dX11_planLine_191 (by decide) ?_
            refine ab_aloadn 0 dX11_planLine_193 rfl ?_
            refine fX_gi (x := 18) ⟨by decide, by decide⟩ rfl rfl (Nat.le_of_ble_eq_true rfl) wd_384 rfl dX11_planLine_194 ?_
            refine ab_imul dX11_planLine_197 ?_
            refine ab_iloadn 3 dX11_planLine_198 rfl ?_
            refine ab_iadd dX11_planLine_199 ?_
            refine fX_iast ⟨by decide, by decide⟩ rfl (fun _ => rfl) h dX11_planLine_200 (fun X35 h => ?_)
            refine ab_iconst (v := 1) dX11_planLine_201 (by decide) ?_
            exact fX_iret h rfl rfl dX11_planLine_202
          · have h := sat_t hc34 h
            refine ab_iconst (v := 0) dX11_planLine_182 (by decide) ?_
            exact fX_iret h rfl rfl dX11_planLine_183
        · have h := sat_t hc30 h
          refine ab_iconst (v := 0) dX11_planLine_159 (by decide) ?_
          exact fX_iret h rfl rfl dX11_planLine_160
    · have h := sat_f hc1 h
      refine ab_aloadn 0 dX11_planLine_113 rfl ?_
      refine f_gr (x := 8) (k2 := 10) (i2 := 0) (j2 := 4) ⟨by decide, by decide⟩ rfl rfl (Nat.le_of_ble_eq_true rfl) wd_462 rfl rfl dX11_planLine_114 ?_
      refine ab_iloadn 2 dX11_planLine_117 rfl ?_
      refine ab_iloadn 3 dX11_planLine_118 rfl ?_
      refine ab_iadd dX11_planLine_119 ?_
      refine ab_iconst (v := 0) dX11_planLine_120 (by decide) ?_
      refine fX_iast ⟨by decide, by decide⟩ rfl (fun _ => rfl) h dX11_planLine_121 (fun X36 h => ?_)
      refine ab_iinc (q := 3) (v := (a3 + 1)) (lv' := [(0, .ref (gA G 10 0 0)), (1, .int a1), (2, .int a2), (3, .int (a3 + 1))]) dX11_planLine_122 rfl rfl rfl (Nat.le_of_ble_eq_true rfl) rfl ?_
      refine ab_goto (tgt := 108) dX11_planLine_125 (by decide) ?_
      exact ih (a3 + 1) X36 h
set_option maxRecDepth 8000 in
theorem t_X11_planLine_71 {l : Launch} {G : GX} {C : CM} {Q : Int32 → Mem → Prop} (N : Nat) (as0 : Int32) (X : XM) (h : SAT (f_X11_planLine_71 N as0 X) (fun v c => Q v (C, c))) : AB l G (rmD 4) 0 0 mt_X11_planLine (ZQ G mt_X11_planLine Q) 71 [(0, .ref (gA G 10 0 0))] [.int as0] (C, X) := by
  unfold f_X11_planLine_71 at h
  refine ab_istoren (lv' := [(0, .ref (gA G 10 0 0)), (1, .int as0)]) dX11_planLine_71 rfl (Nat.le_of_ble_eq_true rfl) rfl ?_
  refine ab_iloadn 1 dX11_planLine_72 rfl ?_
  refine ab_if_ge (tgt := 82) dX11_planLine_73 (by decide) (fun hc1 => ?_) (fun hc1 => ?_)
  · have h := sat_t hc1 h
    refine ab_aloadn 0 dX11_planLine_82 rfl ?_
    refine fX_gi (x := 40) ⟨by decide, by decide⟩ rfl rfl (Nat.le_of_ble_eq_true rfl) wd_461 rfl dX11_planLine_83 ?_
    refine ab_bipush (v := 30) dX11_planLine_86 (by decide) ?_
    refine ab_icmp_ne (tgt := 97) dX11_planLine_88 (by decide) (fun hc2 => ?_) (fun hc2 => ?_)
    · have h := sat_f hc2 h
      refine ab_iconst (v := 1) dX11_planLine_97 (by decide) ?_
      refine ab_iconst (v := 4) dX11_planLine_98 (by decide) ?_
      refine ab_aloadn 0 dX11_planLine_99 rfl ?_
      refine fX_gi (x := 40) ⟨by decide, by decide⟩ rfl rfl (Nat.le_of_ble_eq_true rfl) wd_461 rfl dX11_planLine_100 ?_
      refine ab_imul dX11_planLine_103 ?_
      refine ab_iadd dX11_planLine_104 ?_
      refine ab_istoren (lv' := [(0, .ref (gA G 10 0 0)), (1, .int as0), (2, .int (1 + (4 * (X.1 0 40))))]) dX11_planLine_105 rfl (Nat.le_of_ble_eq_true rfl) rfl ?_
      refine ab_iconst (v := 0) dX11_planLine_106 (by decide) ?_
      refine ab_istoren (lv' := [(0, .ref (gA G 10 0 0)), (1, .int as0), (2, .int (1 + (4 * (X.1 0 40)))), (3, .int 0)]) dX11_planLine_107 rfl (Nat.le_of_ble_eq_true rfl) rfl ?_
      exact t_X11_planLine_108 N as0 (1 + (4 * (X.1 0 40))) N 0 X h
    · have h := sat_t hc2 h
      refine ab_aloadn 0 dX11_planLine_91 rfl ?_
      refine ab_iconst (v := 4) dX11_planLine_92 (by decide) ?_
      refine fX_Vi (mtc := mt_X11_bad) (As := [.int 4]) h (fun Q h => ct_X11_bad 4 X h) ⟨by decide, by decide⟩ rfl rfl rfl mw_X11_bad wd_386 rfl rfl ⟨Nat.le_of_ble_eq_true rfl, Nat.le_of_ble_eq_true rfl⟩ ⟨Nat.zero_le _, Nat.zero_le _⟩ (Nat.le_of_ble_eq_true rfl) rfl dX11_planLine_93 (fun v3 X4 h => ?_)
      exact fX_iretb h rfl dX11_planLine_96
  · have h := sat_f hc1 h
    refine ab_aloadn 0 dX11_planLine_76 rfl ?_
    refine ab_iconst (v := 1) dX11_planLine_77 (by decide) ?_
    refine fX_Vi (mtc := mt_X11_bad) (As := [.int 1]) h (fun Q h => ct_X11_bad 1 X h) ⟨by decide, by decide⟩ rfl rfl rfl mw_X11_bad wd_386 rfl rfl ⟨Nat.le_of_ble_eq_true rfl, Nat.le_of_ble_eq_true rfl⟩ ⟨Nat.zero_le _, Nat.zero_le _⟩ (Nat.le_of_ble_eq_true rfl) rfl dX11_planLine_78 (fun v5 X6 h => ?_)
    exact fX_iretb h rfl dX11_planLine_81
set_option maxRecDepth 8000 in
theorem t_X11_planLine_0 {l : Launch} {G : GX} {C : CM} {Q : Int32 → Mem → Prop} (N : Nat) (X : XM) (h : SAT (f_X11_planLine N X) (fun v c => Q v (C, c))) : AB l G (rmD 4) 0 0 mt_X11_planLine (ZQ G mt_X11_planLine Q) 0 [(0, .ref (gA G 10 0 0))] [] (C, X) := by
  unfold f_X11_planLine at h
  refine ab_aloadn 0 dX11_planLine_0 rfl ?_
  refine ab_ldc2 wd_463 dX11_planLine_1 ?_
  refine fX_Vi (mtc := mt_X11_isWord) (As := [.long 7562612]) h (fun Q h => ct_X11_isWord 7562612 X h) ⟨by decide, by decide⟩ rfl rfl rfl mw_X11_isWord wd_372 rfl rfl ⟨Nat.le_of_ble_eq_true rfl, Nat.le_of_ble_eq_true rfl⟩ ⟨Nat.zero_le _, Nat.zero_le _⟩ (Nat.le_of_ble_eq_true rfl) rfl dX11_planLine_4 (fun v1 X2 h => ?_)
  refine ab_if_eq (tgt := 14) dX11_planLine_7 (by decide) (fun hc3 => ?_) (fun hc3 => ?_)
  · have h := sat_t hc3 h
    refine ab_aloadn 0 dX11_planLine_14 rfl ?_
    refine ab_ldc2 wd_464 dX11_planLine_15 ?_
    refine fX_Vi (mtc := mt_X11_isWord) (As := [.long 1717922924]) h (fun Q h => ct_X11_isWord 1717922924 X2 h) ⟨by decide, by decide⟩ rfl rfl rfl mw_X11_isWord wd_372 rfl rfl ⟨Nat.le_of_ble_eq_true rfl, Nat.le_of_ble_eq_true rfl⟩ ⟨Nat.zero_le _, Nat.zero_le _⟩ (Nat.le_of_ble_eq_true rfl) rfl dX11_planLine_18 (fun v4 X5 h => ?_)
    refine ab_if_eq (tgt := 28) dX11_planLine_21 (by decide) (fun hc6 => ?_) (fun hc6 => ?_)
    · have h := sat_t hc6 h
      refine ab_aloadn 0 dX11_planLine_28 rfl ?_
      refine ab_ldc2 wd_465 dX11_planLine_29 ?_
      refine fX_Vi (mtc := mt_X11_isWord) (As := [.long 7301484]) h (fun Q h => ct_X11_isWord 7301484 X5 h) ⟨by decide, by decide⟩ rfl rfl rfl mw_X11_isWord wd_372 rfl rfl ⟨Nat.le_of_ble_eq_true rfl, Nat.le_of_ble_eq_true rfl⟩ ⟨Nat.zero_le _, Nat.zero_le _⟩ (Nat.le_of_ble_eq_true rfl) rfl dX11_planLine_32 (fun v7 X8 h => ?_)
      refine ab_if_eq (tgt := 42) dX11_planLine_35 (by decide) (fun hc9 => ?_) (fun hc9 => ?_)
      · have h := sat_t hc9 h
        refine ab_aloadn 0 dX11_planLine_42 rfl ?_
        refine ab_ldc2 wd_466 dX11_planLine_43 ?_
        refine fX_Vi (mtc := mt_X11_isWord) (As := [.long 482905517684]) h (fun Q h => ct_X11_isWord 482905517684 X8 h) ⟨by decide, by decide⟩ rfl rfl rfl mw_X11_isWord wd_372 rfl rfl ⟨Nat.le_of_ble_eq_true rfl, Nat.le_of_ble_eq_true rfl⟩ ⟨Nat.zero_le _, Nat.zero_le _⟩ (Nat.le_of_ble_eq_true rfl) rfl dX11_planLine_46 (fun v10 X11 h => ?_)
        refine ab_if_eq (tgt := 56) dX11_planLine_49 (by decide) (fun hc12 => ?_) (fun hc12 => ?_)
        · have h := sat_t hc12 h
          refine ab_aloadn 0 dX11_planLine_56 rfl ?_
          refine ab_ldc2 wd_467 dX11_planLine_57 ?_
          refine fX_Vi (mtc := mt_X11_isWord) (As := [.long 1651273591]) h (fun Q h => ct_X11_isWord 1651273591 X11 h) ⟨by decide, by decide⟩ rfl rfl rfl mw_X11_isWord wd_372 rfl rfl ⟨Nat.le_of_ble_eq_true rfl, Nat.le_of_ble_eq_true rfl⟩ ⟨Nat.zero_le _, Nat.zero_le _⟩ (Nat.le_of_ble_eq_true rfl) rfl dX11_planLine_60 (fun v13 X14 h => ?_)
          refine ab_if_eq (tgt := 70) dX11_planLine_63 (by decide) (fun hc15 => ?_) (fun hc15 => ?_)
          · have h := sat_t hc15 h
            refine ab_iconst (v := (-1)) dX11_planLine_70 (by decide) ?_
            exact t_X11_planLine_71 N (-1) X14 h
          · have h := sat_f hc15 h
            refine ab_iconst (v := 4) dX11_planLine_66 (by decide) ?_
            refine ab_goto (tgt := 71) dX11_planLine_67 (by decide) ?_
            exact t_X11_planLine_71 N 4 X14 h
        · have h := sat_f hc12 h
          refine ab_iconst (v := 3) dX11_planLine_52 (by decide) ?_
          refine ab_goto (tgt := 71) dX11_planLine_53 (by decide) ?_
          exact t_X11_planLine_71 N 3 X11 h
      · have h := sat_f hc9 h
        refine ab_iconst (v := 2) dX11_planLine_38 (by decide) ?_
        refine ab_goto (tgt := 71) dX11_planLine_39 (by decide) ?_
        exact t_X11_planLine_71 N 2 X8 h
    · have h := sat_f hc6 h
      refine ab_iconst (v := 1) dX11_planLine_24 (by decide) ?_
      refine ab_goto (tgt := 71) dX11_planLine_25 (by decide) ?_
      exact t_X11_planLine_71 N 1 X5 h
  · have h := sat_f hc3 h
    refine ab_iconst (v := 0) dX11_planLine_10 (by decide) ?_
    refine ab_goto (tgt := 71) dX11_planLine_11 (by decide) ?_
    exact t_X11_planLine_71 N 0 X2 h
theorem ct_X11_planLine {l : Launch} {G : GX} {C : CM} {Q : Int32 → Mem → Prop} (N : Nat) (X : XM) (h : SAT (f_X11_planLine N X) (fun v c => Q v (C, c))) : CT l G 4 mt_X11_planLine [.ref (gA G 10 0 0)] (C, X) Q := ct_of pn_X11 (Nat.le_of_ble_eq_true rfl) (t_X11_planLine_0 N X h)
def f_X11_plan_81 (N : Nat) : Nat → Int32 → XM → Option (Int32 × XM)
  | 0, _, _ => none
  | n + 1, a1, X => (if (4 * (X.1 0 40)) < a1 then (rt (X.1 0 40) X) else ldA (X.1 4) 135 a1 (fun v2 => sxA X 2 845 (543 + a1) v2 (fun X3 => (f_X11_plan_81 N n (a1 + 1) X3))))
def f_X11_plan_49 (N : Nat) (X : XM) : Option (Int32 × XM) := (rt ((-1) - (X.1 0 16)) X)
def f_X11_plan_26 (N : Nat) : Nat → XM → Option (Int32 × XM)
  | 0, _ => none
  | n + 1, X => (if (X.1 0 11) = 0 then sxA X 4 135 0 (X.1 0 40) (fun X2 => (f_X11_plan_81 N N 0 X2)) else cal (f_X11_planLine N X) (fun v3 X4 => (if v3 = 0 then (f_X11_plan_49 N X4) else cal (f_X11_sign N 59 X4) (fun v6 X7 => (if v6 = 0 then (f_X11_plan_49 N X7) else bnd (stX X7 0 40 ((X7.1 0 40) + 1)) (fun X9 => (f_X11_plan_26 N n X9)))))))
def f_X11_plan (N : Nat) (X : XM) : Option (Int32 × XM) := bnd (stX X 0 0 0) (fun X1 => cal (f_X11_taken 400 X1) (fun v2 X3 => bnd (stX X3 0 15 0) (fun X4 => bnd (stX X4 0 40 0) (fun X5 => cal (f_X11_next N X5) (fun v6 X7 => (f_X11_plan_26 N N X7))))))
set_option maxRecDepth 8000 in
theorem t_X11_plan_81 {l : Launch} {G : GX} {C : CM} {Q : Int32 → Mem → Prop} (N : Nat) : ∀ (n : Nat) (a1 : Int32) (X : XM), SAT (f_X11_plan_81 N n a1 X) (fun v c => Q v (C, c)) → AB l G (rmD 5) 0 0 mt_X11_plan (ZQ G mt_X11_plan Q) 81 [(0, .ref (gA G 10 0 0)), (1, .int a1)] [] (C, X) := by
  intro n
  induction n with
  | zero => intro a1 X h; exact h.elim
  | succ n ih =>
    intro a1 X h
    rw [f_X11_plan_81] at h
    refine ab_iloadn 1 dX11_plan_81 rfl ?_
    refine ab_iconst (v := 4) dX11_plan_82 (by decide) ?_
    refine ab_aloadn 0 dX11_plan_83 rfl ?_
    refine fX_gi (x := 40) ⟨by decide, by decide⟩ rfl rfl (Nat.le_of_ble_eq_true rfl) wd_461 rfl dX11_plan_84 ?_
    refine ab_imul dX11_plan_87 ?_
    refine ab_icmp_gt (tgt := 113) dX11_plan_88 (by decide) (fun hc1 => ?_) (fun hc1 => ?_)
    · have h := sat_t hc1 h
      refine ab_aloadn 0 dX11_plan_113 rfl ?_
      refine fX_gi (x := 40) ⟨by decide, by decide⟩ rfl rfl (Nat.le_of_ble_eq_true rfl) wd_461 rfl dX11_plan_114 ?_
      exact fX_iret h rfl rfl dX11_plan_117
    · have h := sat_f hc1 h
      refine ab_aloadn 0 dX11_plan_91 rfl ?_
      refine f_gr (x := 6) (k2 := 10) (i2 := 0) (j2 := 2) ⟨by decide, by decide⟩ rfl rfl (Nat.le_of_ble_eq_true rfl) wd_406 rfl rfl dX11_plan_92 ?_
      refine ab_sipush (v := 543) dX11_plan_95 (by decide) ?_
      refine ab_iloadn 1 dX11_plan_98 rfl ?_
      refine ab_iadd dX11_plan_99 ?_
      refine ab_aloadn 0 dX11_plan_100 rfl ?_
      refine f_gr (x := 8) (k2 := 10) (i2 := 0) (j2 := 4) ⟨by decide, by decide⟩ rfl rfl (Nat.le_of_ble_eq_true rfl) wd_462 rfl rfl dX11_plan_101 ?_
      refine ab_iloadn 1 dX11_plan_104 rfl ?_
      refine fX_iald ⟨by decide, by decide⟩ rfl (fun _ => rfl) h dX11_plan_105 (fun v2 h => ?_)
      refine fX_iast ⟨by decide, by decide⟩ rfl (fun _ => rfl) h dX11_plan_106 (fun X3 h => ?_)
      refine ab_iinc (q := 1) (v := (a1 + 1)) (lv' := [(0, .ref (gA G 10 0 0)), (1, .int (a1 + 1))]) dX11_plan_107 rfl rfl rfl (Nat.le_of_ble_eq_true rfl) rfl ?_
      refine ab_goto (tgt := 81) dX11_plan_110 (by decide) ?_
      exact ih (a1 + 1) X3 h
set_option maxRecDepth 8000 in
theorem t_X11_plan_49 {l : Launch} {G : GX} {C : CM} {Q : Int32 → Mem → Prop} (N : Nat) (X : XM) (h : SAT (f_X11_plan_49 N X) (fun v c => Q v (C, c))) : AB l G (rmD 5) 0 0 mt_X11_plan (ZQ G mt_X11_plan Q) 49 [(0, .ref (gA G 10 0 0))] [] (C, X) := by
  unfold f_X11_plan_49 at h
  refine ab_iconst (v := (-1)) dX11_plan_49 (by decide) ?_
  refine ab_aloadn 0 dX11_plan_50 rfl ?_
  refine fX_gi (x := 16) ⟨by decide, by decide⟩ rfl rfl (Nat.le_of_ble_eq_true rfl) wd_385 rfl dX11_plan_51 ?_
  refine ab_isub dX11_plan_54 ?_
  exact fX_iret h rfl rfl dX11_plan_55
set_option maxRecDepth 8000 in
theorem t_X11_plan_26 {l : Launch} {G : GX} {C : CM} {Q : Int32 → Mem → Prop} (N : Nat) : ∀ (n : Nat) (X : XM), SAT (f_X11_plan_26 N n X) (fun v c => Q v (C, c)) → AB l G (rmD 5) 0 0 mt_X11_plan (ZQ G mt_X11_plan Q) 26 [(0, .ref (gA G 10 0 0))] [] (C, X) := by
  intro n
  induction n with
  | zero => intro X h; exact h.elim
  | succ n ih =>
    intro X h
    rw [f_X11_plan_26] at h
    refine ab_aloadn 0 dX11_plan_26 rfl ?_
    refine fX_gi (x := 11) ⟨by decide, by decide⟩ rfl rfl (Nat.le_of_ble_eq_true rfl) wd_362 rfl dX11_plan_27 ?_
    refine ab_if_eq (tgt := 69) dX11_plan_30 (by decide) (fun hc1 => ?_) (fun hc1 => ?_)
    · have h := sat_t hc1 h
      refine ab_aloadn 0 dX11_plan_69 rfl ?_
      refine f_gr (x := 8) (k2 := 10) (i2 := 0) (j2 := 4) ⟨by decide, by decide⟩ rfl rfl (Nat.le_of_ble_eq_true rfl) wd_462 rfl rfl dX11_plan_70 ?_
      refine ab_iconst (v := 0) dX11_plan_73 (by decide) ?_
      refine ab_aloadn 0 dX11_plan_74 rfl ?_
      refine fX_gi (x := 40) ⟨by decide, by decide⟩ rfl rfl (Nat.le_of_ble_eq_true rfl) wd_461 rfl dX11_plan_75 ?_
      refine fX_iast ⟨by decide, by decide⟩ rfl (fun _ => rfl) h dX11_plan_78 (fun X2 h => ?_)
      refine ab_iconst (v := 0) dX11_plan_79 (by decide) ?_
      refine ab_istoren (lv' := [(0, .ref (gA G 10 0 0)), (1, .int 0)]) dX11_plan_80 rfl (Nat.le_of_ble_eq_true rfl) rfl ?_
      exact t_X11_plan_81 N N 0 X2 h
    · have h := sat_f hc1 h
      refine ab_aloadn 0 dX11_plan_33 rfl ?_
      refine fX_Vi (mtc := mt_X11_planLine) (As := []) h (fun Q h => ct_X11_planLine N X h) ⟨by decide, by decide⟩ rfl rfl rfl mw_X11_planLine wd_468 rfl rfl ⟨Nat.le_of_ble_eq_true rfl, Nat.le_of_ble_eq_true rfl⟩ ⟨Nat.zero_le _, Nat.zero_le _⟩ (Nat.le_of_ble_eq_true rfl) rfl dX11_plan_34 (fun v3 X4 h => ?_)
      refine ab_if_eq (tgt := 49) dX11_plan_37 (by decide) (fun hc5 => ?_) (fun hc5 => ?_)
      · have h := sat_t hc5 h
        exact t_X11_plan_49 N X4 h
      · have h := sat_f hc5 h
        refine ab_aloadn 0 dX11_plan_40 rfl ?_
        refine ab_bipush (v := 59) dX11_plan_41 (by decide) ?_
        refine fX_Vi (mtc := mt_X11_sign) (As := [.int 59]) h (fun Q h => ct_X11_sign N 59 X4 h) ⟨by decide, by decide⟩ rfl rfl rfl mw_X11_sign wd_405 rfl rfl ⟨Nat.le_of_ble_eq_true rfl, Nat.le_of_ble_eq_true rfl⟩ ⟨Nat.zero_le _, Nat.zero_le _⟩ (Nat.le_of_ble_eq_true rfl) rfl dX11_plan_43 (fun v6 X7 h => ?_)
        refine ab_if_ne (tgt := 56) dX11_plan_46 (by decide) (fun hc8 => ?_) (fun hc8 => ?_)
        · have h := sat_f hc8 h
          refine ab_aloadn 0 dX11_plan_56 rfl ?_
          refine ab_dup dX11_plan_57 rfl ?_
          refine fX_gi (x := 40) ⟨by decide, by decide⟩ rfl rfl (Nat.le_of_ble_eq_true rfl) wd_461 rfl dX11_plan_58 ?_
          refine ab_iconst (v := 1) dX11_plan_61 (by decide) ?_
          refine ab_iadd dX11_plan_62 ?_
          refine fX_pi (x := 40) (ty := .int) ⟨by decide, by decide⟩ rfl rfl (Nat.le_of_ble_eq_true rfl) wd_461 rfl h rfl (by decide +kernel) rfl rfl dX11_plan_63 (fun X9 h => ?_)
          refine ab_goto (tgt := 26) dX11_plan_66 (by decide) ?_
          exact ih X9 h
        · have h := sat_t hc8 h
          exact t_X11_plan_49 N X7 h
set_option maxRecDepth 8000 in
theorem t_X11_plan_0 {l : Launch} {G : GX} {C : CM} {Q : Int32 → Mem → Prop} (N : Nat) (X : XM) (h : SAT (f_X11_plan N X) (fun v c => Q v (C, c))) : AB l G (rmD 5) 0 0 mt_X11_plan (ZQ G mt_X11_plan Q) 0 [(0, .ref (gA G 10 0 0))] [] (C, X) := by
  unfold f_X11_plan at h
  refine ab_aloadn 0 dX11_plan_0 rfl ?_
  refine ab_iconst (v := 0) dX11_plan_1 (by decide) ?_
  refine fX_pi (x := 0) (ty := .int) ⟨by decide, by decide⟩ rfl rfl (Nat.le_of_ble_eq_true rfl) wd_344 rfl h rfl (by decide +kernel) rfl rfl dX11_plan_2 (fun X1 h => ?_)
  refine ab_aloadn 0 dX11_plan_5 rfl ?_
  refine ab_sipush (v := 400) dX11_plan_6 (by decide) ?_
  refine fX_Vv (mtc := mt_X11_taken) (As := [.int 400]) h (fun Q h => ct_X11_taken 400 X1 h) ⟨by decide, by decide⟩ rfl rfl rfl mw_X11_taken wd_351 rfl rfl ⟨Nat.le_of_ble_eq_true rfl, Nat.le_of_ble_eq_true rfl⟩ ⟨Nat.zero_le _, Nat.zero_le _⟩ (Nat.le_of_ble_eq_true rfl) rfl dX11_plan_9 (fun v2 X3 h => ?_)
  refine ab_aloadn 0 dX11_plan_12 rfl ?_
  refine ab_iconst (v := 0) dX11_plan_13 (by decide) ?_
  refine fX_pi (x := 15) (ty := .int) ⟨by decide, by decide⟩ rfl rfl (Nat.le_of_ble_eq_true rfl) wd_352 rfl h rfl (by decide +kernel) rfl rfl dX11_plan_14 (fun X4 h => ?_)
  refine ab_aloadn 0 dX11_plan_17 rfl ?_
  refine ab_iconst (v := 0) dX11_plan_18 (by decide) ?_
  refine fX_pi (x := 40) (ty := .int) ⟨by decide, by decide⟩ rfl rfl (Nat.le_of_ble_eq_true rfl) wd_461 rfl h rfl (by decide +kernel) rfl rfl dX11_plan_19 (fun X5 h => ?_)
  refine ab_aloadn 0 dX11_plan_22 rfl ?_
  refine fX_Vv (mtc := mt_X11_next) (As := []) h (fun Q h => ct_X11_next N X5 h) ⟨by decide, by decide⟩ rfl rfl rfl mw_X11_next wd_369 rfl rfl ⟨Nat.le_of_ble_eq_true rfl, Nat.le_of_ble_eq_true rfl⟩ ⟨Nat.zero_le _, Nat.zero_le _⟩ (Nat.le_of_ble_eq_true rfl) rfl dX11_plan_23 (fun v6 X7 h => ?_)
  exact t_X11_plan_26 N N X7 h
theorem ct_X11_plan {l : Launch} {G : GX} {C : CM} {Q : Int32 → Mem → Prop} (N : Nat) (X : XM) (h : SAT (f_X11_plan N X) (fun v c => Q v (C, c))) : CT l G 5 mt_X11_plan [.ref (gA G 10 0 0)] (C, X) Q := ct_of pn_X11 (Nat.le_of_ble_eq_true rfl) (t_X11_plan_0 N X h)
def f_X11_does_59 (N : Nat) (a4 : Int32) (X : XM) : Option (Int32 × XM) := (rt a4 X)
def f_X11_does (N : Nat) (a1 : Int32) (a2 : Int32) (a3 : Int32) (X : XM) : Option (Int32 × XM) := (if a1 = 0 then cal (f_X11_whySet N a2 X) (fun v2 X3 => (if v2 = 0 then sxA X3 2 845 (441 + a2) 1 (fun X5 => (f_X11_does_59 N v2 X5)) else (f_X11_does_59 N v2 X3))) else if a1 = 1 then cal (f_X11_isTree a2 X) (fun v7 X8 => (if v7 = 0 then (rt 3 X8) else sxA X8 2 845 (429 + a2) 0 (fun X10 => (rt 0 X10)))) else if a1 = 2 then cal (f_X11_oils a2 X) (fun v12 X13 => (rt 0 X13)) else if a1 = 3 then cal (f_X11_points a2 a3 X) (fun v15 X16 => (rt 0 X16)) else ldA (X.1 2) 845 371 (fun v17 => (if v17 ≤ 47 then cal (f_X11_goes N a2 X) (fun v19 X20 => (rt 0 X20)) else (rt 4 X))))
set_option maxRecDepth 8000 in
theorem t_X11_does_59 {l : Launch} {G : GX} {C : CM} {Q : Int32 → Mem → Prop} (N : Nat) (a4 : Int32) (X : XM) (h : SAT (f_X11_does_59 N a4 X) (fun v c => Q v (C, c))) : AB l G (rmD 7) 0 0 mt_X11_does (ZQ G mt_X11_does Q) 59 [(4, .int a4)] [] (C, X) := by
  unfold f_X11_does_59 at h
  refine ab_iload 0 dX11_does_59 rfl ?_
  exact fX_iret h rfl rfl dX11_does_61
set_option maxRecDepth 8000 in
theorem t_X11_does_0 {l : Launch} {G : GX} {C : CM} {Q : Int32 → Mem → Prop} (N : Nat) (a1 : Int32) (a2 : Int32) (a3 : Int32) (X : XM) (h : SAT (f_X11_does N a1 a2 a3 X) (fun v c => Q v (C, c))) : AB l G (rmD 7) 0 0 mt_X11_does (ZQ G mt_X11_does Q) 0 [(0, .ref (gA G 10 0 0)), (1, .int a1), (2, .int a2), (3, .int a3)] [] (C, X) := by
  unfold f_X11_does at h
  refine ab_iconst (v := 0) dX11_does_0 (by decide) ?_
  refine ab_istore (lv' := [(0, .ref (gA G 10 0 0)), (1, .int a1), (2, .int a2), (3, .int a3), (4, .int 0)]) dX11_does_1 rfl (Nat.le_of_ble_eq_true rfl) rfl ?_
  refine ab_iloadn 1 dX11_does_3 rfl ?_
  by_cases hc1 : a1 = 0
  · have h := sat_t hc1 h
    refine ab_tin (tgt := 36) (off := 32) hc1 (by decide) (by decide) (by decide) (by decide) dX11_does_4 ?_
    refine ab_aloadn 0 dX11_does_36 rfl ?_
    refine ab_iloadn 2 dX11_does_37 rfl ?_
    refine fX_Vi (mtc := mt_X11_whySet) (As := [.int a2]) h (fun Q h => ct_X11_whySet N a2 X h) ⟨by decide, by decide⟩ rfl rfl rfl mw_X11_whySet wd_441 rfl rfl ⟨Nat.le_of_ble_eq_true rfl, Nat.le_of_ble_eq_true rfl⟩ ⟨Nat.zero_le _, Nat.zero_le _⟩ (Nat.le_of_ble_eq_true rfl) rfl dX11_does_38 (fun v2 X3 h => ?_)
    refine ab_istore (lv' := [(0, .ref (gA G 10 0 0)), (1, .int a1), (2, .int a2), (3, .int a3), (4, .int v2)]) dX11_does_41 rfl (Nat.le_of_ble_eq_true rfl) rfl ?_
    refine ab_iload 4 dX11_does_43 rfl ?_
    refine ab_if_ne (tgt := 59) dX11_does_45 (by decide) (fun hc4 => ?_) (fun hc4 => ?_)
    · have h := sat_f hc4 h
      refine ab_sub [4] rfl ?_
      exact t_X11_does_59 N v2 X3 h
    · have h := sat_t hc4 h
      refine ab_aloadn 0 dX11_does_48 rfl ?_
      refine f_gr (x := 6) (k2 := 10) (i2 := 0) (j2 := 2) ⟨by decide, by decide⟩ rfl rfl (Nat.le_of_ble_eq_true rfl) wd_406 rfl rfl dX11_does_49 ?_
      refine ab_sipush (v := 441) dX11_does_52 (by decide) ?_
      refine ab_iloadn 2 dX11_does_55 rfl ?_
      refine ab_iadd dX11_does_56 ?_
      refine ab_iconst (v := 1) dX11_does_57 (by decide) ?_
      refine fX_iast ⟨by decide, by decide⟩ rfl (fun _ => rfl) h dX11_does_58 (fun X5 h => ?_)
      refine ab_sub [4] rfl ?_
      exact t_X11_does_59 N v2 X5 h
  have h := sat_f hc1 h
  by_cases hc6 : a1 = 1
  · have h := sat_t hc6 h
    refine ab_tin (tgt := 62) (off := 58) hc6 (by decide) (by decide) (by decide) (by decide) dX11_does_4 ?_
    refine ab_aloadn 0 dX11_does_62 rfl ?_
    refine ab_iloadn 2 dX11_does_63 rfl ?_
    refine fX_Vi (mtc := mt_X11_isTree) (As := [.int a2]) h (fun Q h => ct_X11_isTree a2 X h) ⟨by decide, by decide⟩ rfl rfl rfl mw_X11_isTree wd_442 rfl rfl ⟨Nat.le_of_ble_eq_true rfl, Nat.le_of_ble_eq_true rfl⟩ ⟨Nat.zero_le _, Nat.zero_le _⟩ (Nat.le_of_ble_eq_true rfl) rfl dX11_does_64 (fun v7 X8 h => ?_)
    refine ab_if_ne (tgt := 72) dX11_does_67 (by decide) (fun hc9 => ?_) (fun hc9 => ?_)
    · have h := sat_f hc9 h
      refine ab_aloadn 0 dX11_does_72 rfl ?_
      refine f_gr (x := 6) (k2 := 10) (i2 := 0) (j2 := 2) ⟨by decide, by decide⟩ rfl rfl (Nat.le_of_ble_eq_true rfl) wd_406 rfl rfl dX11_does_73 ?_
      refine ab_sipush (v := 429) dX11_does_76 (by decide) ?_
      refine ab_iloadn 2 dX11_does_79 rfl ?_
      refine ab_iadd dX11_does_80 ?_
      refine ab_iconst (v := 0) dX11_does_81 (by decide) ?_
      refine fX_iast ⟨by decide, by decide⟩ rfl (fun _ => rfl) h dX11_does_82 (fun X10 h => ?_)
      refine ab_iconst (v := 0) dX11_does_83 (by decide) ?_
      exact fX_iret h rfl rfl dX11_does_84
    · have h := sat_t hc9 h
      refine ab_iconst (v := 3) dX11_does_70 (by decide) ?_
      exact fX_iret h rfl rfl dX11_does_71
  have h := sat_f hc6 h
  by_cases hc11 : a1 = 2
  · have h := sat_t hc11 h
    refine ab_tin (tgt := 85) (off := 81) hc11 (by decide) (by decide) (by decide) (by decide) dX11_does_4 ?_
    refine ab_aloadn 0 dX11_does_85 rfl ?_
    refine ab_iloadn 2 dX11_does_86 rfl ?_
    refine fX_Vv (mtc := mt_X11_oils) (As := [.int a2]) h (fun Q h => ct_X11_oils a2 X h) ⟨by decide, by decide⟩ rfl rfl rfl mw_X11_oils wd_443 rfl rfl ⟨Nat.le_of_ble_eq_true rfl, Nat.le_of_ble_eq_true rfl⟩ ⟨Nat.zero_le _, Nat.zero_le _⟩ (Nat.le_of_ble_eq_true rfl) rfl dX11_does_87 (fun v12 X13 h => ?_)
    refine ab_iconst (v := 0) dX11_does_90 (by decide) ?_
    exact fX_iret h rfl rfl dX11_does_91
  have h := sat_f hc11 h
  by_cases hc14 : a1 = 3
  · have h := sat_t hc14 h
    refine ab_tin (tgt := 92) (off := 88) hc14 (by decide) (by decide) (by decide) (by decide) dX11_does_4 ?_
    refine ab_aloadn 0 dX11_does_92 rfl ?_
    refine ab_iloadn 2 dX11_does_93 rfl ?_
    refine ab_iloadn 3 dX11_does_94 rfl ?_
    refine fX_Vv (mtc := mt_X11_points) (As := [.int a2, .int a3]) h (fun Q h => ct_X11_points a2 a3 X h) ⟨by decide, by decide⟩ rfl rfl rfl mw_X11_points wd_444 rfl rfl ⟨Nat.le_of_ble_eq_true rfl, Nat.le_of_ble_eq_true rfl⟩ ⟨Nat.zero_le _, Nat.zero_le _⟩ (Nat.le_of_ble_eq_true rfl) rfl dX11_does_95 (fun v15 X16 h => ?_)
    refine ab_iconst (v := 0) dX11_does_98 (by decide) ?_
    exact fX_iret h rfl rfl dX11_does_99
  have h := sat_f hc14 h
  refine ab_tout (tgt := 100) (by have := ne_toI hc1 (show Int32.toInt 0 = 0 by decide); have := ne_toI hc6 (show Int32.toInt 1 = 1 by decide); have := ne_toI hc11 (show Int32.toInt 2 = 2 by decide); have := ne_toI hc14 (show Int32.toInt 3 = 3 by decide); omega) (by decide) dX11_does_4 ?_
  refine ab_aloadn 0 dX11_does_100 rfl ?_
  refine f_gr (x := 6) (k2 := 10) (i2 := 0) (j2 := 2) ⟨by decide, by decide⟩ rfl rfl (Nat.le_of_ble_eq_true rfl) wd_406 rfl rfl dX11_does_101 ?_
  refine ab_sipush (v := 371) dX11_does_104 (by decide) ?_
  refine fX_iald ⟨by decide, by decide⟩ rfl (fun _ => rfl) h dX11_does_107 (fun v17 h => ?_)
  refine ab_bipush (v := 47) dX11_does_108 (by decide) ?_
  refine ab_icmp_le (tgt := 115) dX11_does_110 (by decide) (fun hc18 => ?_) (fun hc18 => ?_)
  · have h := sat_t hc18 h
    refine ab_aloadn 0 dX11_does_115 rfl ?_
    refine ab_iloadn 2 dX11_does_116 rfl ?_
    refine fX_Vi (mtc := mt_X11_goes) (As := [.int a2]) h (fun Q h => ct_X11_goes N a2 X h) ⟨by decide, by decide⟩ rfl rfl rfl mw_X11_goes wd_438 rfl rfl ⟨Nat.le_of_ble_eq_true rfl, Nat.le_of_ble_eq_true rfl⟩ ⟨Nat.zero_le _, Nat.zero_le _⟩ (Nat.le_of_ble_eq_true rfl) rfl dX11_does_117 (fun v19 X20 h => ?_)
    refine ab_pop dX11_does_120 rfl ?_
    refine ab_iconst (v := 0) dX11_does_121 (by decide) ?_
    exact fX_iret h rfl rfl dX11_does_122
  · have h := sat_f hc18 h
    refine ab_iconst (v := 4) dX11_does_113 (by decide) ?_
    exact fX_iret h rfl rfl dX11_does_114
theorem ct_X11_does {l : Launch} {G : GX} {C : CM} {Q : Int32 → Mem → Prop} (N : Nat) (a1 : Int32) (a2 : Int32) (a3 : Int32) (X : XM) (h : SAT (f_X11_does N a1 a2 a3 X) (fun v c => Q v (C, c))) : CT l G 7 mt_X11_does [.ref (gA G 10 0 0), .int a1, .int a2, .int a3] (C, X) Q := ct_of pn_X11 (Nat.le_of_ble_eq_true rfl) (t_X11_does_0 N a1 a2 a3 X h)
def f_X11_judge_296 (N : Nat) (a2 : Int32) (X : XM) : Option (Int32 × XM) := (rt a2 X)
def f_X11_judge_263 (N : Nat) (a1 : Int32) (a2 : Int32) : Nat → Int32 → XM → Option (Int32 × XM)
  | 0, _, _ => none
  | n + 1, a3, X => (if 172 ≤ a3 then (f_X11_judge_296 N a2 X) else (if a1 = 0 then ldA (X.1 14) 172 a3 (fun v3 => sxA X 2 845 (371 + a3) v3 (fun X4 => (f_X11_judge_263 N a1 a2 n (a3 + 1) X4))) else (f_X11_judge_296 N a2 X)))
def f_X11_judge_261 (N : Nat) (a1 : Int32) (a2 : Int32) (X : XM) : Option (Int32 × XM) := (f_X11_judge_263 N a1 a2 N 0 X)
def f_X11_judge_225 (N : Nat) (a1 : Int32) (a2 : Int32) : Nat → Int32 → XM → Option (Int32 × XM)
  | 0, _, _ => none
  | n + 1, a3, X => (if 172 ≤ a3 then (f_X11_judge_261 N a1 a2 X) else ldA (X.1 14) 172 a3 (fun v2 => sxA X 10 1376 ((172 * ((X.1 0 33) - 1)) + a3) v2 (fun X3 => (f_X11_judge_225 N a1 a2 n (a3 + 1) X3))))
def f_X11_judge_162 (N : Nat) (a1 : Int32) (a2 : Int32) (X : XM) : Option (Int32 × XM) := ldA (X.1 2) 845 371 (fun v1 => sxA X 13 5 2 v1 (fun X2 => ldA (X2.1 2) 845 372 (fun v3 => sxA X2 13 5 3 v3 (fun X4 => cal (f_X11_fences N X4) (fun v5 X6 => sxA X6 13 5 4 v5 (fun X7 => bnd (stX X7 0 43 1) (fun X8 => (if a1 = 1 then ldA (X8.1 13) 5 1 (fun v10 => (if v10 ≤ 0 then (f_X11_judge_261 N a1 a2 X8) else cal (f_X11_keep N X8) (fun v12 X13 => (f_X11_judge_225 N a1 a2 N 0 X13)))) else (f_X11_judge_261 N a1 a2 X8)))))))))
def f_X11_judge_72 (N : Nat) (a1 : Int32) : Nat → Int32 → Int32 → XM → Option (Int32 × XM)
  | 0, _, _, _ => none
  | n + 1, a2, a3, X => ldA (X.1 2) 845 543 (fun v1 => (if v1 ≤ a3 then (f_X11_judge_162 N a1 a2 X) else (if 0 ≤ a2 then (f_X11_judge_162 N a1 a2 X) else ldA (X.1 2) 845 (544 + (4 * a3)) (fun v4 => ldA (X.1 2) 845 ((544 + (4 * a3)) + 1) (fun v5 => ldA (X.1 2) 845 ((544 + (4 * a3)) + 2) (fun v6 => cal (f_X11_does N v4 v5 v6 X) (fun v7 X8 => sxA X8 13 5 0 v7 (fun X9 => ldA (X9.1 13) 5 0 (fun v10 => (if v10 ≤ 0 then ldA (X9.1 13) 5 1 (fun v12 => sxA X9 13 5 1 (v12 + 1) (fun X13 => (f_X11_judge_72 N a1 n a2 (a3 + 1) X13))) else (f_X11_judge_72 N a1 n a3 (a3 + 1) X9)))))))))))
def f_X11_judge_50 (N : Nat) (a1 : Int32) : Nat → Int32 → XM → Option (Int32 × XM)
  | 0, _, _ => none
  | n + 1, a2, X => (if 5 ≤ a2 then (f_X11_judge_72 N a1 N (-1) 0 X) else sxA X 13 5 a2 0 (fun X2 => (f_X11_judge_50 N a1 n (a2 + 1) X2)))
def f_X11_judge_19 (N : Nat) (a1 : Int32) : Nat → Int32 → XM → Option (Int32 × XM)
  | 0, _, _ => none
  | n + 1, a2, X => (if 172 ≤ a2 then (f_X11_judge_50 N a1 N 0 X) else ldA (X.1 2) 845 (371 + a2) (fun v2 => sxA X 14 172 a2 v2 (fun X3 => (f_X11_judge_19 N a1 n (a2 + 1) X3))))
def f_X11_judge (N : Nat) (a1 : Int32) (X : XM) : Option (Int32 × XM) := bnd (stX X 0 0 0) (fun X1 => cal (f_X11_isIn a1 0 1 X1) (fun v2 X3 => (if v2 = 0 then (rt (-2) X3) else (f_X11_judge_19 N a1 N 0 X3))))
set_option maxRecDepth 8000 in
theorem t_X11_judge_296 {l : Launch} {G : GX} {C : CM} {Q : Int32 → Mem → Prop} (N : Nat) (a2 : Int32) (X : XM) (h : SAT (f_X11_judge_296 N a2 X) (fun v c => Q v (C, c))) : AB l G (rmD 8) 0 0 mt_X11_judge (ZQ G mt_X11_judge Q) 296 [(2, .int a2)] [] (C, X) := by
  unfold f_X11_judge_296 at h
  refine ab_iloadn 0 dX11_judge_296 rfl ?_
  exact fX_iret h rfl rfl dX11_judge_297
set_option maxRecDepth 8000 in
theorem t_X11_judge_263 {l : Launch} {G : GX} {C : CM} {Q : Int32 → Mem → Prop} (N : Nat) (a1 : Int32) (a2 : Int32) : ∀ (n : Nat) (a3 : Int32) (X : XM), SAT (f_X11_judge_263 N a1 a2 n a3 X) (fun v c => Q v (C, c)) → AB l G (rmD 8) 0 0 mt_X11_judge (ZQ G mt_X11_judge Q) 263 [(0, .ref (gA G 10 0 0)), (1, .int a1), (2, .int a2), (3, .int a3)] [] (C, X) := by
  intro n
  induction n with
  | zero => intro a3 X h; exact h.elim
  | succ n ih =>
    intro a3 X h
    rw [f_X11_judge_263] at h
    refine ab_iloadn 3 dX11_judge_263 rfl ?_
    refine ab_sipush (v := 172) dX11_judge_264 (by decide) ?_
    refine ab_icmp_ge (tgt := 296) dX11_judge_267 (by decide) (fun hc1 => ?_) (fun hc1 => ?_)
    · have h := sat_t hc1 h
      refine ab_sub [2] rfl ?_
      exact t_X11_judge_296 N a2 X h
    · have h := sat_f hc1 h
      refine ab_iloadn 1 dX11_judge_270 rfl ?_
      refine ab_if_ne (tgt := 296) dX11_judge_271 (by decide) (fun hc2 => ?_) (fun hc2 => ?_)
      · have h := sat_f hc2 h
        refine ab_sub [2] rfl ?_
        exact t_X11_judge_296 N a2 X h
      · have h := sat_t hc2 h
        refine ab_aloadn 0 dX11_judge_274 rfl ?_
        refine f_gr (x := 6) (k2 := 10) (i2 := 0) (j2 := 2) ⟨by decide, by decide⟩ rfl rfl (Nat.le_of_ble_eq_true rfl) wd_406 rfl rfl dX11_judge_275 ?_
        refine ab_sipush (v := 371) dX11_judge_278 (by decide) ?_
        refine ab_iloadn 3 dX11_judge_281 rfl ?_
        refine ab_iadd dX11_judge_282 ?_
        refine ab_aloadn 0 dX11_judge_283 rfl ?_
        refine f_gr (x := 42) (k2 := 10) (i2 := 0) (j2 := 14) ⟨by decide, by decide⟩ rfl rfl (Nat.le_of_ble_eq_true rfl) wd_469 rfl rfl dX11_judge_284 ?_
        refine ab_iloadn 3 dX11_judge_287 rfl ?_
        refine fX_iald ⟨by decide, by decide⟩ rfl (fun _ => rfl) h dX11_judge_288 (fun v3 h => ?_)
        refine fX_iast ⟨by decide, by decide⟩ rfl (fun _ => rfl) h dX11_judge_289 (fun X4 h => ?_)
        refine ab_iinc (q := 3) (v := (a3 + 1)) (lv' := [(0, .ref (gA G 10 0 0)), (1, .int a1), (2, .int a2), (3, .int (a3 + 1))]) dX11_judge_290 rfl rfl rfl (Nat.le_of_ble_eq_true rfl) rfl ?_
        refine ab_goto (tgt := 263) dX11_judge_293 (by decide) ?_
        exact ih (a3 + 1) X4 h
set_option maxRecDepth 8000 in
theorem t_X11_judge_261 {l : Launch} {G : GX} {C : CM} {Q : Int32 → Mem → Prop} (N : Nat) (a1 : Int32) (a2 : Int32) (X : XM) (h : SAT (f_X11_judge_261 N a1 a2 X) (fun v c => Q v (C, c))) : AB l G (rmD 8) 0 0 mt_X11_judge (ZQ G mt_X11_judge Q) 261 [(0, .ref (gA G 10 0 0)), (1, .int a1), (2, .int a2)] [] (C, X) := by
  unfold f_X11_judge_261 at h
  refine ab_iconst (v := 0) dX11_judge_261 (by decide) ?_
  refine ab_istoren (lv' := [(0, .ref (gA G 10 0 0)), (1, .int a1), (2, .int a2), (3, .int 0)]) dX11_judge_262 rfl (Nat.le_of_ble_eq_true rfl) rfl ?_
  exact t_X11_judge_263 N a1 a2 N 0 X h
set_option maxRecDepth 8000 in
theorem t_X11_judge_225 {l : Launch} {G : GX} {C : CM} {Q : Int32 → Mem → Prop} (N : Nat) (a1 : Int32) (a2 : Int32) : ∀ (n : Nat) (a3 : Int32) (X : XM), SAT (f_X11_judge_225 N a1 a2 n a3 X) (fun v c => Q v (C, c)) → AB l G (rmD 8) 0 0 mt_X11_judge (ZQ G mt_X11_judge Q) 225 [(0, .ref (gA G 10 0 0)), (1, .int a1), (2, .int a2), (3, .int a3)] [] (C, X) := by
  intro n
  induction n with
  | zero => intro a3 X h; exact h.elim
  | succ n ih =>
    intro a3 X h
    rw [f_X11_judge_225] at h
    refine ab_iloadn 3 dX11_judge_225 rfl ?_
    refine ab_sipush (v := 172) dX11_judge_226 (by decide) ?_
    refine ab_icmp_ge (tgt := 261) dX11_judge_229 (by decide) (fun hc1 => ?_) (fun hc1 => ?_)
    · have h := sat_t hc1 h
      refine ab_sub [0, 1, 2] rfl ?_
      exact t_X11_judge_261 N a1 a2 X h
    · have h := sat_f hc1 h
      refine ab_aloadn 0 dX11_judge_232 rfl ?_
      refine f_gr (x := 32) (k2 := 10) (i2 := 0) (j2 := 10) ⟨by decide, by decide⟩ rfl rfl (Nat.le_of_ble_eq_true rfl) wd_434 rfl rfl dX11_judge_233 ?_
      refine ab_sipush (v := 172) dX11_judge_236 (by decide) ?_
      refine ab_aloadn 0 dX11_judge_239 rfl ?_
      refine fX_gi (x := 33) ⟨by decide, by decide⟩ rfl rfl (Nat.le_of_ble_eq_true rfl) wd_408 rfl dX11_judge_240 ?_
      refine ab_iconst (v := 1) dX11_judge_243 (by decide) ?_
      refine ab_isub dX11_judge_244 ?_
      refine ab_imul dX11_judge_245 ?_
      refine ab_iloadn 3 dX11_judge_246 rfl ?_
      refine ab_iadd dX11_judge_247 ?_
      refine ab_aloadn 0 dX11_judge_248 rfl ?_
      refine f_gr (x := 42) (k2 := 10) (i2 := 0) (j2 := 14) ⟨by decide, by decide⟩ rfl rfl (Nat.le_of_ble_eq_true rfl) wd_469 rfl rfl dX11_judge_249 ?_
      refine ab_iloadn 3 dX11_judge_252 rfl ?_
      refine fX_iald ⟨by decide, by decide⟩ rfl (fun _ => rfl) h dX11_judge_253 (fun v2 h => ?_)
      refine fX_iast ⟨by decide, by decide⟩ rfl (fun _ => rfl) h dX11_judge_254 (fun X3 h => ?_)
      refine ab_iinc (q := 3) (v := (a3 + 1)) (lv' := [(0, .ref (gA G 10 0 0)), (1, .int a1), (2, .int a2), (3, .int (a3 + 1))]) dX11_judge_255 rfl rfl rfl (Nat.le_of_ble_eq_true rfl) rfl ?_
      refine ab_goto (tgt := 225) dX11_judge_258 (by decide) ?_
      exact ih (a3 + 1) X3 h
set_option maxRecDepth 8000 in
theorem t_X11_judge_162 {l : Launch} {G : GX} {C : CM} {Q : Int32 → Mem → Prop} (N : Nat) (a1 : Int32) (a2 : Int32) (X : XM) (h : SAT (f_X11_judge_162 N a1 a2 X) (fun v c => Q v (C, c))) : AB l G (rmD 8) 0 0 mt_X11_judge (ZQ G mt_X11_judge Q) 162 [(0, .ref (gA G 10 0 0)), (1, .int a1), (2, .int a2)] [] (C, X) := by
  unfold f_X11_judge_162 at h
  refine ab_aloadn 0 dX11_judge_162 rfl ?_
  refine f_gr (x := 41) (k2 := 10) (i2 := 0) (j2 := 13) ⟨by decide, by decide⟩ rfl rfl (Nat.le_of_ble_eq_true rfl) wd_470 rfl rfl dX11_judge_163 ?_
  refine ab_iconst (v := 2) dX11_judge_166 (by decide) ?_
  refine ab_aloadn 0 dX11_judge_167 rfl ?_
  refine f_gr (x := 6) (k2 := 10) (i2 := 0) (j2 := 2) ⟨by decide, by decide⟩ rfl rfl (Nat.le_of_ble_eq_true rfl) wd_406 rfl rfl dX11_judge_168 ?_
  refine ab_sipush (v := 371) dX11_judge_171 (by decide) ?_
  refine fX_iald ⟨by decide, by decide⟩ rfl (fun _ => rfl) h dX11_judge_174 (fun v1 h => ?_)
  refine fX_iast ⟨by decide, by decide⟩ rfl (fun _ => rfl) h dX11_judge_175 (fun X2 h => ?_)
  refine ab_aloadn 0 dX11_judge_176 rfl ?_
  refine f_gr (x := 41) (k2 := 10) (i2 := 0) (j2 := 13) ⟨by decide, by decide⟩ rfl rfl (Nat.le_of_ble_eq_true rfl) wd_470 rfl rfl dX11_judge_177 ?_
  refine ab_iconst (v := 3) dX11_judge_180 (by decide) ?_
  refine ab_aloadn 0 dX11_judge_181 rfl ?_
  refine f_gr (x := 6) (k2 := 10) (i2 := 0) (j2 := 2) ⟨by decide, by decide⟩ rfl rfl (Nat.le_of_ble_eq_true rfl) wd_406 rfl rfl dX11_judge_182 ?_
  refine ab_sipush (v := 372) dX11_judge_185 (by decide) ?_
  refine fX_iald ⟨by decide, by decide⟩ rfl (fun _ => rfl) h dX11_judge_188 (fun v3 h => ?_)
  refine fX_iast ⟨by decide, by decide⟩ rfl (fun _ => rfl) h dX11_judge_189 (fun X4 h => ?_)
  refine ab_aloadn 0 dX11_judge_190 rfl ?_
  refine f_gr (x := 41) (k2 := 10) (i2 := 0) (j2 := 13) ⟨by decide, by decide⟩ rfl rfl (Nat.le_of_ble_eq_true rfl) wd_470 rfl rfl dX11_judge_191 ?_
  refine ab_iconst (v := 4) dX11_judge_194 (by decide) ?_
  refine ab_aloadn 0 dX11_judge_195 rfl ?_
  refine fX_Vi (mtc := mt_X11_fences) (As := []) h (fun Q h => ct_X11_fences N X4 h) ⟨by decide, by decide⟩ rfl rfl rfl mw_X11_fences wd_440 rfl rfl ⟨Nat.le_of_ble_eq_true rfl, Nat.le_of_ble_eq_true rfl⟩ ⟨Nat.zero_le _, Nat.zero_le _⟩ (Nat.le_of_ble_eq_true rfl) rfl dX11_judge_196 (fun v5 X6 h => ?_)
  refine fX_iast ⟨by decide, by decide⟩ rfl (fun _ => rfl) h dX11_judge_199 (fun X7 h => ?_)
  refine ab_aloadn 0 dX11_judge_200 rfl ?_
  refine ab_iconst (v := 1) dX11_judge_201 (by decide) ?_
  refine fX_pi (x := 43) (ty := .boolean) ⟨by decide, by decide⟩ rfl rfl (Nat.le_of_ble_eq_true rfl) wd_472 rfl h rfl (by decide +kernel) rfl rfl dX11_judge_202 (fun X8 h => ?_)
  refine ab_iloadn 1 dX11_judge_205 rfl ?_
  refine ab_iconst (v := 1) dX11_judge_206 (by decide) ?_
  refine ab_icmp_ne (tgt := 261) dX11_judge_207 (by decide) (fun hc9 => ?_) (fun hc9 => ?_)
  · have h := sat_f hc9 h
    exact t_X11_judge_261 N a1 a2 X8 h
  · have h := sat_t hc9 h
    refine ab_aloadn 0 dX11_judge_210 rfl ?_
    refine f_gr (x := 41) (k2 := 10) (i2 := 0) (j2 := 13) ⟨by decide, by decide⟩ rfl rfl (Nat.le_of_ble_eq_true rfl) wd_470 rfl rfl dX11_judge_211 ?_
    refine ab_iconst (v := 1) dX11_judge_214 (by decide) ?_
    refine fX_iald ⟨by decide, by decide⟩ rfl (fun _ => rfl) h dX11_judge_215 (fun v10 h => ?_)
    refine ab_if_le (tgt := 261) dX11_judge_216 (by decide) (fun hc11 => ?_) (fun hc11 => ?_)
    · have h := sat_t hc11 h
      exact t_X11_judge_261 N a1 a2 X8 h
    · have h := sat_f hc11 h
      refine ab_aloadn 0 dX11_judge_219 rfl ?_
      refine fX_Vv (mtc := mt_X11_keep) (As := []) h (fun Q h => ct_X11_keep N X8 h) ⟨by decide, by decide⟩ rfl rfl rfl mw_X11_keep wd_435 rfl rfl ⟨Nat.le_of_ble_eq_true rfl, Nat.le_of_ble_eq_true rfl⟩ ⟨Nat.zero_le _, Nat.zero_le _⟩ (Nat.le_of_ble_eq_true rfl) rfl dX11_judge_220 (fun v12 X13 h => ?_)
      refine ab_iconst (v := 0) dX11_judge_223 (by decide) ?_
      refine ab_istoren (lv' := [(0, .ref (gA G 10 0 0)), (1, .int a1), (2, .int a2), (3, .int 0)]) dX11_judge_224 rfl (Nat.le_of_ble_eq_true rfl) rfl ?_
      exact t_X11_judge_225 N a1 a2 N 0 X13 h
set_option maxRecDepth 8000 in
theorem t_X11_judge_72 {l : Launch} {G : GX} {C : CM} {Q : Int32 → Mem → Prop} (N : Nat) (a1 : Int32) : ∀ (n : Nat) (a2 : Int32) (a3 : Int32) (X : XM), SAT (f_X11_judge_72 N a1 n a2 a3 X) (fun v c => Q v (C, c)) → AB l G (rmD 8) 0 0 mt_X11_judge (ZQ G mt_X11_judge Q) 72 [(0, .ref (gA G 10 0 0)), (1, .int a1), (2, .int a2), (3, .int a3)] [] (C, X) := by
  intro n
  induction n with
  | zero => intro a2 a3 X h; exact h.elim
  | succ n ih =>
    intro a2 a3 X h
    rw [f_X11_judge_72] at h
    refine ab_iloadn 3 dX11_judge_72 rfl ?_
    refine ab_aloadn 0 dX11_judge_73 rfl ?_
    refine f_gr (x := 6) (k2 := 10) (i2 := 0) (j2 := 2) ⟨by decide, by decide⟩ rfl rfl (Nat.le_of_ble_eq_true rfl) wd_406 rfl rfl dX11_judge_74 ?_
    refine ab_sipush (v := 543) dX11_judge_77 (by decide) ?_
    refine fX_iald ⟨by decide, by decide⟩ rfl (fun _ => rfl) h dX11_judge_80 (fun v1 h => ?_)
    refine ab_icmp_ge (tgt := 162) dX11_judge_81 (by decide) (fun hc2 => ?_) (fun hc2 => ?_)
    · have h := sat_t hc2 h
      refine ab_sub [0, 1, 2] rfl ?_
      exact t_X11_judge_162 N a1 a2 X h
    · have h := sat_f hc2 h
      refine ab_iloadn 2 dX11_judge_84 rfl ?_
      refine ab_if_ge (tgt := 162) dX11_judge_85 (by decide) (fun hc3 => ?_) (fun hc3 => ?_)
      · have h := sat_t hc3 h
        refine ab_sub [0, 1, 2] rfl ?_
        exact t_X11_judge_162 N a1 a2 X h
      · have h := sat_f hc3 h
        refine ab_sipush (v := 544) dX11_judge_88 (by decide) ?_
        refine ab_iconst (v := 4) dX11_judge_91 (by decide) ?_
        refine ab_iloadn 3 dX11_judge_92 rfl ?_
        refine ab_imul dX11_judge_93 ?_
        refine ab_iadd dX11_judge_94 ?_
        refine ab_istore (lv' := [(0, .ref (gA G 10 0 0)), (1, .int a1), (2, .int a2), (3, .int a3), (4, .int (544 + (4 * a3)))]) dX11_judge_95 rfl (Nat.le_of_ble_eq_true rfl) rfl ?_
        refine ab_aloadn 0 dX11_judge_97 rfl ?_
        refine f_gr (x := 41) (k2 := 10) (i2 := 0) (j2 := 13) ⟨by decide, by decide⟩ rfl rfl (Nat.le_of_ble_eq_true rfl) wd_470 rfl rfl dX11_judge_98 ?_
        refine ab_iconst (v := 0) dX11_judge_101 (by decide) ?_
        refine ab_aloadn 0 dX11_judge_102 rfl ?_
        refine ab_aloadn 0 dX11_judge_103 rfl ?_
        refine f_gr (x := 6) (k2 := 10) (i2 := 0) (j2 := 2) ⟨by decide, by decide⟩ rfl rfl (Nat.le_of_ble_eq_true rfl) wd_406 rfl rfl dX11_judge_104 ?_
        refine ab_iload 4 dX11_judge_107 rfl ?_
        refine fX_iald ⟨by decide, by decide⟩ rfl (fun _ => rfl) h dX11_judge_109 (fun v4 h => ?_)
        refine ab_aloadn 0 dX11_judge_110 rfl ?_
        refine f_gr (x := 6) (k2 := 10) (i2 := 0) (j2 := 2) ⟨by decide, by decide⟩ rfl rfl (Nat.le_of_ble_eq_true rfl) wd_406 rfl rfl dX11_judge_111 ?_
        refine ab_iload 4 dX11_judge_114 rfl ?_
        refine ab_iconst (v := 1) dX11_judge_116 (by decide) ?_
        refine ab_iadd dX11_judge_117 ?_
        refine fX_iald ⟨by decide, by decide⟩ rfl (fun _ => rfl) h dX11_judge_118 (fun v5 h => ?_)
        refine ab_aloadn 0 dX11_judge_119 rfl ?_
        refine f_gr (x := 6) (k2 := 10) (i2 := 0) (j2 := 2) ⟨by decide, by decide⟩ rfl rfl (Nat.le_of_ble_eq_true rfl) wd_406 rfl rfl dX11_judge_120 ?_
        refine ab_iload 4 dX11_judge_123 rfl ?_
        refine ab_iconst (v := 2) dX11_judge_125 (by decide) ?_
        refine ab_iadd dX11_judge_126 ?_
        refine fX_iald ⟨by decide, by decide⟩ rfl (fun _ => rfl) h dX11_judge_127 (fun v6 h => ?_)
        refine fX_Vi (mtc := mt_X11_does) (As := [.int v4, .int v5, .int v6]) h (fun Q h => ct_X11_does N v4 v5 v6 X h) ⟨by decide, by decide⟩ rfl rfl rfl mw_X11_does wd_471 rfl rfl ⟨Nat.le_of_ble_eq_true rfl, Nat.le_of_ble_eq_true rfl⟩ ⟨Nat.zero_le _, Nat.zero_le _⟩ (Nat.le_of_ble_eq_true rfl) rfl dX11_judge_128 (fun v7 X8 h => ?_)
        refine fX_iast ⟨by decide, by decide⟩ rfl (fun _ => rfl) h dX11_judge_131 (fun X9 h => ?_)
        refine ab_aloadn 0 dX11_judge_132 rfl ?_
        refine f_gr (x := 41) (k2 := 10) (i2 := 0) (j2 := 13) ⟨by decide, by decide⟩ rfl rfl (Nat.le_of_ble_eq_true rfl) wd_470 rfl rfl dX11_judge_133 ?_
        refine ab_iconst (v := 0) dX11_judge_136 (by decide) ?_
        refine fX_iald ⟨by decide, by decide⟩ rfl (fun _ => rfl) h dX11_judge_137 (fun v10 h => ?_)
        refine ab_if_le (tgt := 146) dX11_judge_138 (by decide) (fun hc11 => ?_) (fun hc11 => ?_)
        · have h := sat_t hc11 h
          refine ab_aloadn 0 dX11_judge_146 rfl ?_
          refine f_gr (x := 41) (k2 := 10) (i2 := 0) (j2 := 13) ⟨by decide, by decide⟩ rfl rfl (Nat.le_of_ble_eq_true rfl) wd_470 rfl rfl dX11_judge_147 ?_
          refine ab_iconst (v := 1) dX11_judge_150 (by decide) ?_
          refine ab_dup2 dX11_judge_151 rfl rfl ?_
          refine fX_iald ⟨by decide, by decide⟩ rfl (fun _ => rfl) h dX11_judge_152 (fun v12 h => ?_)
          refine ab_iconst (v := 1) dX11_judge_153 (by decide) ?_
          refine ab_iadd dX11_judge_154 ?_
          refine fX_iast ⟨by decide, by decide⟩ rfl (fun _ => rfl) h dX11_judge_155 (fun X13 h => ?_)
          refine ab_iinc (q := 3) (v := (a3 + 1)) (lv' := [(0, .ref (gA G 10 0 0)), (1, .int a1), (2, .int a2), (3, .int (a3 + 1)), (4, .int (544 + (4 * a3)))]) dX11_judge_156 rfl rfl rfl (Nat.le_of_ble_eq_true rfl) rfl ?_
          refine ab_goto (tgt := 72) dX11_judge_159 (by decide) ?_
          refine ab_sub [0, 1, 2, 3] rfl ?_
          exact ih a2 (a3 + 1) X13 h
        · have h := sat_f hc11 h
          refine ab_iloadn 3 dX11_judge_141 rfl ?_
          refine ab_istoren (lv' := [(0, .ref (gA G 10 0 0)), (1, .int a1), (2, .int a3), (3, .int a3), (4, .int (544 + (4 * a3)))]) dX11_judge_142 rfl (Nat.le_of_ble_eq_true rfl) rfl ?_
          refine ab_goto (tgt := 156) dX11_judge_143 (by decide) ?_
          refine ab_iinc (q := 3) (v := (a3 + 1)) (lv' := [(0, .ref (gA G 10 0 0)), (1, .int a1), (2, .int a3), (3, .int (a3 + 1)), (4, .int (544 + (4 * a3)))]) dX11_judge_156 rfl rfl rfl (Nat.le_of_ble_eq_true rfl) rfl ?_
          refine ab_goto (tgt := 72) dX11_judge_159 (by decide) ?_
          refine ab_sub [0, 1, 2, 3] rfl ?_
          exact ih a3 (a3 + 1) X9 h
set_option maxRecDepth 8000 in
theorem t_X11_judge_50 {l : Launch} {G : GX} {C : CM} {Q : Int32 → Mem → Prop} (N : Nat) (a1 : Int32) : ∀ (n : Nat) (a2 : Int32) (X : XM), SAT (f_X11_judge_50 N a1 n a2 X) (fun v c => Q v (C, c)) → AB l G (rmD 8) 0 0 mt_X11_judge (ZQ G mt_X11_judge Q) 50 [(0, .ref (gA G 10 0 0)), (1, .int a1), (2, .int a2)] [] (C, X) := by
  intro n
  induction n with
  | zero => intro a2 X h; exact h.elim
  | succ n ih =>
    intro a2 X h
    rw [f_X11_judge_50] at h
    refine ab_iloadn 2 dX11_judge_50 rfl ?_
    refine ab_iconst (v := 5) dX11_judge_51 (by decide) ?_
    refine ab_icmp_ge (tgt := 68) dX11_judge_52 (by decide) (fun hc1 => ?_) (fun hc1 => ?_)
    · have h := sat_t hc1 h
      refine ab_iconst (v := (-1)) dX11_judge_68 (by decide) ?_
      refine ab_istoren (lv' := [(0, .ref (gA G 10 0 0)), (1, .int a1), (2, .int (-1))]) dX11_judge_69 rfl (Nat.le_of_ble_eq_true rfl) rfl ?_
      refine ab_iconst (v := 0) dX11_judge_70 (by decide) ?_
      refine ab_istoren (lv' := [(0, .ref (gA G 10 0 0)), (1, .int a1), (2, .int (-1)), (3, .int 0)]) dX11_judge_71 rfl (Nat.le_of_ble_eq_true rfl) rfl ?_
      exact t_X11_judge_72 N a1 N (-1) 0 X h
    · have h := sat_f hc1 h
      refine ab_aloadn 0 dX11_judge_55 rfl ?_
      refine f_gr (x := 41) (k2 := 10) (i2 := 0) (j2 := 13) ⟨by decide, by decide⟩ rfl rfl (Nat.le_of_ble_eq_true rfl) wd_470 rfl rfl dX11_judge_56 ?_
      refine ab_iloadn 2 dX11_judge_59 rfl ?_
      refine ab_iconst (v := 0) dX11_judge_60 (by decide) ?_
      refine fX_iast ⟨by decide, by decide⟩ rfl (fun _ => rfl) h dX11_judge_61 (fun X2 h => ?_)
      refine ab_iinc (q := 2) (v := (a2 + 1)) (lv' := [(0, .ref (gA G 10 0 0)), (1, .int a1), (2, .int (a2 + 1))]) dX11_judge_62 rfl rfl rfl (Nat.le_of_ble_eq_true rfl) rfl ?_
      refine ab_goto (tgt := 50) dX11_judge_65 (by decide) ?_
      exact ih (a2 + 1) X2 h
set_option maxRecDepth 8000 in
theorem t_X11_judge_19 {l : Launch} {G : GX} {C : CM} {Q : Int32 → Mem → Prop} (N : Nat) (a1 : Int32) : ∀ (n : Nat) (a2 : Int32) (X : XM), SAT (f_X11_judge_19 N a1 n a2 X) (fun v c => Q v (C, c)) → AB l G (rmD 8) 0 0 mt_X11_judge (ZQ G mt_X11_judge Q) 19 [(0, .ref (gA G 10 0 0)), (1, .int a1), (2, .int a2)] [] (C, X) := by
  intro n
  induction n with
  | zero => intro a2 X h; exact h.elim
  | succ n ih =>
    intro a2 X h
    rw [f_X11_judge_19] at h
    refine ab_iloadn 2 dX11_judge_19 rfl ?_
    refine ab_sipush (v := 172) dX11_judge_20 (by decide) ?_
    refine ab_icmp_ge (tgt := 48) dX11_judge_23 (by decide) (fun hc1 => ?_) (fun hc1 => ?_)
    · have h := sat_t hc1 h
      refine ab_iconst (v := 0) dX11_judge_48 (by decide) ?_
      refine ab_istoren (lv' := [(0, .ref (gA G 10 0 0)), (1, .int a1), (2, .int 0)]) dX11_judge_49 rfl (Nat.le_of_ble_eq_true rfl) rfl ?_
      exact t_X11_judge_50 N a1 N 0 X h
    · have h := sat_f hc1 h
      refine ab_aloadn 0 dX11_judge_26 rfl ?_
      refine f_gr (x := 42) (k2 := 10) (i2 := 0) (j2 := 14) ⟨by decide, by decide⟩ rfl rfl (Nat.le_of_ble_eq_true rfl) wd_469 rfl rfl dX11_judge_27 ?_
      refine ab_iloadn 2 dX11_judge_30 rfl ?_
      refine ab_aloadn 0 dX11_judge_31 rfl ?_
      refine f_gr (x := 6) (k2 := 10) (i2 := 0) (j2 := 2) ⟨by decide, by decide⟩ rfl rfl (Nat.le_of_ble_eq_true rfl) wd_406 rfl rfl dX11_judge_32 ?_
      refine ab_sipush (v := 371) dX11_judge_35 (by decide) ?_
      refine ab_iloadn 2 dX11_judge_38 rfl ?_
      refine ab_iadd dX11_judge_39 ?_
      refine fX_iald ⟨by decide, by decide⟩ rfl (fun _ => rfl) h dX11_judge_40 (fun v2 h => ?_)
      refine fX_iast ⟨by decide, by decide⟩ rfl (fun _ => rfl) h dX11_judge_41 (fun X3 h => ?_)
      refine ab_iinc (q := 2) (v := (a2 + 1)) (lv' := [(0, .ref (gA G 10 0 0)), (1, .int a1), (2, .int (a2 + 1))]) dX11_judge_42 rfl rfl rfl (Nat.le_of_ble_eq_true rfl) rfl ?_
      refine ab_goto (tgt := 19) dX11_judge_45 (by decide) ?_
      exact ih (a2 + 1) X3 h
set_option maxRecDepth 8000 in
theorem t_X11_judge_0 {l : Launch} {G : GX} {C : CM} {Q : Int32 → Mem → Prop} (N : Nat) (a1 : Int32) (X : XM) (h : SAT (f_X11_judge N a1 X) (fun v c => Q v (C, c))) : AB l G (rmD 8) 0 0 mt_X11_judge (ZQ G mt_X11_judge Q) 0 [(0, .ref (gA G 10 0 0)), (1, .int a1)] [] (C, X) := by
  unfold f_X11_judge at h
  refine ab_aloadn 0 dX11_judge_0 rfl ?_
  refine ab_iconst (v := 0) dX11_judge_1 (by decide) ?_
  refine fX_pi (x := 0) (ty := .int) ⟨by decide, by decide⟩ rfl rfl (Nat.le_of_ble_eq_true rfl) wd_344 rfl h rfl (by decide +kernel) rfl rfl dX11_judge_2 (fun X1 h => ?_)
  refine ab_iloadn 1 dX11_judge_5 rfl ?_
  refine ab_iconst (v := 0) dX11_judge_6 (by decide) ?_
  refine ab_iconst (v := 1) dX11_judge_7 (by decide) ?_
  refine fX_Si (mtc := mt_X11_isIn) (As := [.int a1, .int 0, .int 1]) h (fun Q h => ct_X11_isIn a1 0 1 X1 h) mw_X11_isIn wd_382 wd_383 rfl rfl ⟨Nat.le_of_ble_eq_true rfl, Nat.le_of_ble_eq_true rfl⟩ ⟨Nat.zero_le _, Nat.zero_le _⟩ (Nat.le_of_ble_eq_true rfl) rfl dX11_judge_8 (fun v2 X3 h => ?_)
  refine ab_if_ne (tgt := 17) dX11_judge_11 (by decide) (fun hc4 => ?_) (fun hc4 => ?_)
  · have h := sat_f hc4 h
    refine ab_iconst (v := 0) dX11_judge_17 (by decide) ?_
    refine ab_istoren (lv' := [(0, .ref (gA G 10 0 0)), (1, .int a1), (2, .int 0)]) dX11_judge_18 rfl (Nat.le_of_ble_eq_true rfl) rfl ?_
    exact t_X11_judge_19 N a1 N 0 X3 h
  · have h := sat_t hc4 h
    refine ab_bipush (v := (-2)) dX11_judge_14 (by decide) ?_
    exact fX_iret h rfl rfl dX11_judge_16
theorem ct_X11_judge {l : Launch} {G : GX} {C : CM} {Q : Int32 → Mem → Prop} (N : Nat) (a1 : Int32) (X : XM) (h : SAT (f_X11_judge N a1 X) (fun v c => Q v (C, c))) : CT l G 8 mt_X11_judge [.ref (gA G 10 0 0), .int a1] (C, X) Q := ct_of pn_X11 (Nat.le_of_ble_eq_true rfl) (t_X11_judge_0 N a1 X h)
def f_X11_judged (a1 : Int32) (X : XM) : Option (Int32 × XM) := bnd (stX X 0 0 0) (fun X1 => (if (X1.1 0 43) = 0 then (rt (-1) X1) else cal (f_X11_isIn a1 0 4 X1) (fun v3 X4 => (if v3 = 0 then (rt (-1) X4) else ldA (X4.1 13) 5 a1 (fun v6 => (rt v6 X4))))))
set_option maxRecDepth 8000 in
theorem t_X11_judged_0 {l : Launch} {G : GX} {C : CM} {Q : Int32 → Mem → Prop} (a1 : Int32) (X : XM) (h : SAT (f_X11_judged a1 X) (fun v c => Q v (C, c))) : AB l G (rmD 2) 0 0 mt_X11_judged (ZQ G mt_X11_judged Q) 0 [(0, .ref (gA G 10 0 0)), (1, .int a1)] [] (C, X) := by
  unfold f_X11_judged at h
  refine ab_aloadn 0 dX11_judged_0 rfl ?_
  refine ab_iconst (v := 0) dX11_judged_1 (by decide) ?_
  refine fX_pi (x := 0) (ty := .int) ⟨by decide, by decide⟩ rfl rfl (Nat.le_of_ble_eq_true rfl) wd_344 rfl h rfl (by decide +kernel) rfl rfl dX11_judged_2 (fun X1 h => ?_)
  refine ab_aloadn 0 dX11_judged_5 rfl ?_
  refine fX_gi (x := 43) ⟨by decide, by decide⟩ rfl rfl (Nat.le_of_ble_eq_true rfl) wd_472 rfl dX11_judged_6 ?_
  refine ab_if_eq (tgt := 30) dX11_judged_9 (by decide) (fun hc2 => ?_) (fun hc2 => ?_)
  · have h := sat_t hc2 h
    refine ab_iconst (v := (-1)) dX11_judged_30 (by decide) ?_
    exact fX_iret h rfl rfl dX11_judged_31
  · have h := sat_f hc2 h
    refine ab_iloadn 1 dX11_judged_12 rfl ?_
    refine ab_iconst (v := 0) dX11_judged_13 (by decide) ?_
    refine ab_iconst (v := 4) dX11_judged_14 (by decide) ?_
    refine fX_Si (mtc := mt_X11_isIn) (As := [.int a1, .int 0, .int 4]) h (fun Q h => ct_X11_isIn a1 0 4 X1 h) mw_X11_isIn wd_382 wd_383 rfl rfl ⟨Nat.le_of_ble_eq_true rfl, Nat.le_of_ble_eq_true rfl⟩ ⟨Nat.zero_le _, Nat.zero_le _⟩ (Nat.le_of_ble_eq_true rfl) rfl dX11_judged_15 (fun v3 X4 h => ?_)
    refine ab_if_eq (tgt := 30) dX11_judged_18 (by decide) (fun hc5 => ?_) (fun hc5 => ?_)
    · have h := sat_t hc5 h
      refine ab_iconst (v := (-1)) dX11_judged_30 (by decide) ?_
      exact fX_iret h rfl rfl dX11_judged_31
    · have h := sat_f hc5 h
      refine ab_aloadn 0 dX11_judged_21 rfl ?_
      refine f_gr (x := 41) (k2 := 10) (i2 := 0) (j2 := 13) ⟨by decide, by decide⟩ rfl rfl (Nat.le_of_ble_eq_true rfl) wd_470 rfl rfl dX11_judged_22 ?_
      refine ab_iloadn 1 dX11_judged_25 rfl ?_
      refine fX_iald ⟨by decide, by decide⟩ rfl (fun _ => rfl) h dX11_judged_26 (fun v6 h => ?_)
      refine ab_goto (tgt := 31) dX11_judged_27 (by decide) ?_
      exact fX_iret h rfl rfl dX11_judged_31
theorem ct_X11_judged {l : Launch} {G : GX} {C : CM} {Q : Int32 → Mem → Prop} (a1 : Int32) (X : XM) (h : SAT (f_X11_judged a1 X) (fun v c => Q v (C, c))) : CT l G 2 mt_X11_judged [.ref (gA G 10 0 0), .int a1] (C, X) Q := ct_of pn_X11 (Nat.le_of_ble_eq_true rfl) (t_X11_judged_0 a1 X h)
def f_X11_code (a1 : Int32) (a2 : Int32) (a3 : Int32) (X : XM) : Option (Int32 × XM) := sxA X 4 135 (3 * (X.1 0 45)) a1 (fun X1 => sxA X1 4 135 ((3 * (X1.1 0 45)) + 1) a2 (fun X2 => sxA X2 4 135 ((3 * (X2.1 0 45)) + 2) a3 (fun X3 => bnd (stX X3 0 45 ((X3.1 0 45) + 1)) (fun X4 => (rt 0 X4)))))
set_option maxRecDepth 8000 in
theorem t_X11_code_0 {l : Launch} {G : GX} {C : CM} {Q : Int32 → Mem → Prop} (a1 : Int32) (a2 : Int32) (a3 : Int32) (X : XM) (h : SAT (f_X11_code a1 a2 a3 X) (fun v c => Q v (C, c))) : AB l G (rmD 1) 0 0 mt_X11_code (ZQ G mt_X11_code Q) 0 [(0, .ref (gA G 10 0 0)), (1, .int a1), (2, .int a2), (3, .int a3)] [] (C, X) := by
  unfold f_X11_code at h
  refine ab_aloadn 0 dX11_code_0 rfl ?_
  refine f_gr (x := 8) (k2 := 10) (i2 := 0) (j2 := 4) ⟨by decide, by decide⟩ rfl rfl (Nat.le_of_ble_eq_true rfl) wd_462 rfl rfl dX11_code_1 ?_
  refine ab_iconst (v := 3) dX11_code_4 (by decide) ?_
  refine ab_aloadn 0 dX11_code_5 rfl ?_
  refine fX_gi (x := 45) ⟨by decide, by decide⟩ rfl rfl (Nat.le_of_ble_eq_true rfl) wd_473 rfl dX11_code_6 ?_
  refine ab_imul dX11_code_9 ?_
  refine ab_iloadn 1 dX11_code_10 rfl ?_
  refine fX_iast ⟨by decide, by decide⟩ rfl (fun _ => rfl) h dX11_code_11 (fun X1 h => ?_)
  refine ab_aloadn 0 dX11_code_12 rfl ?_
  refine f_gr (x := 8) (k2 := 10) (i2 := 0) (j2 := 4) ⟨by decide, by decide⟩ rfl rfl (Nat.le_of_ble_eq_true rfl) wd_462 rfl rfl dX11_code_13 ?_
  refine ab_iconst (v := 3) dX11_code_16 (by decide) ?_
  refine ab_aloadn 0 dX11_code_17 rfl ?_
  refine fX_gi (x := 45) ⟨by decide, by decide⟩ rfl rfl (Nat.le_of_ble_eq_true rfl) wd_473 rfl dX11_code_18 ?_
  refine ab_imul dX11_code_21 ?_
  refine ab_iconst (v := 1) dX11_code_22 (by decide) ?_
  refine ab_iadd dX11_code_23 ?_
  refine ab_iloadn 2 dX11_code_24 rfl ?_
  refine fX_iast ⟨by decide, by decide⟩ rfl (fun _ => rfl) h dX11_code_25 (fun X2 h => ?_)
  refine ab_aloadn 0 dX11_code_26 rfl ?_
  refine f_gr (x := 8) (k2 := 10) (i2 := 0) (j2 := 4) ⟨by decide, by decide⟩ rfl rfl (Nat.le_of_ble_eq_true rfl) wd_462 rfl rfl dX11_code_27 ?_
  refine ab_iconst (v := 3) dX11_code_30 (by decide) ?_
  refine ab_aloadn 0 dX11_code_31 rfl ?_
  refine fX_gi (x := 45) ⟨by decide, by decide⟩ rfl rfl (Nat.le_of_ble_eq_true rfl) wd_473 rfl dX11_code_32 ?_
  refine ab_imul dX11_code_35 ?_
  refine ab_iconst (v := 2) dX11_code_36 (by decide) ?_
  refine ab_iadd dX11_code_37 ?_
  refine ab_iloadn 3 dX11_code_38 rfl ?_
  refine fX_iast ⟨by decide, by decide⟩ rfl (fun _ => rfl) h dX11_code_39 (fun X3 h => ?_)
  refine ab_aloadn 0 dX11_code_40 rfl ?_
  refine ab_dup dX11_code_41 rfl ?_
  refine fX_gi (x := 45) ⟨by decide, by decide⟩ rfl rfl (Nat.le_of_ble_eq_true rfl) wd_473 rfl dX11_code_42 ?_
  refine ab_iconst (v := 1) dX11_code_45 (by decide) ?_
  refine ab_iadd dX11_code_46 ?_
  refine fX_pi (x := 45) (ty := .int) ⟨by decide, by decide⟩ rfl rfl (Nat.le_of_ble_eq_true rfl) wd_473 rfl h rfl (by decide +kernel) rfl rfl dX11_code_47 (fun X4 h => ?_)
  exact fX_vret h rfl dX11_code_50
theorem ct_X11_code {l : Launch} {G : GX} {C : CM} {Q : Int32 → Mem → Prop} (a1 : Int32) (a2 : Int32) (a3 : Int32) (X : XM) (h : SAT (f_X11_code a1 a2 a3 X) (fun v c => Q v (C, c))) : CT l G 1 mt_X11_code [.ref (gA G 10 0 0), .int a1, .int a2, .int a3] (C, X) Q := ct_of pn_X11 (Nat.le_of_ble_eq_true rfl) (t_X11_code_0 a1 a2 a3 X h)
def f_X11_nots_0 (N : Nat) : Nat → XM → Option (Int32 × XM)
  | 0, _ => none
  | n + 1, X => (if (X.1 0 47) ≤ 0 then (rt 0 X) else ldA (X.1 15) 45 ((X.1 0 47) - 1) (fun v2 => (if v2 = 10 then bnd (stX X 0 47 ((X.1 0 47) - 1)) (fun X4 => bnd (stX X4 0 48 ((X4.1 0 48) - 1)) (fun X5 => cal (f_X11_code 10 0 0 X5) (fun v6 X7 => (f_X11_nots_0 N n X7)))) else (rt 0 X))))
set_option maxRecDepth 8000 in
theorem t_X11_nots_0 {l : Launch} {G : GX} {C : CM} {Q : Int32 → Mem → Prop} (N : Nat) : ∀ (n : Nat) (X : XM), SAT (f_X11_nots_0 N n X) (fun v c => Q v (C, c)) → AB l G (rmD 2) 0 0 mt_X11_nots (ZQ G mt_X11_nots Q) 0 [(0, .ref (gA G 10 0 0))] [] (C, X) := by
  intro n
  induction n with
  | zero => intro X h; exact h.elim
  | succ n ih =>
    intro X h
    rw [f_X11_nots_0] at h
    refine ab_aloadn 0 dX11_nots_0 rfl ?_
    refine fX_gi (x := 47) ⟨by decide, by decide⟩ rfl rfl (Nat.le_of_ble_eq_true rfl) wd_475 rfl dX11_nots_1 ?_
    refine ab_if_le (tgt := 54) dX11_nots_4 (by decide) (fun hc1 => ?_) (fun hc1 => ?_)
    · have h := sat_t hc1 h
      exact fX_vret h rfl dX11_nots_54
    · have h := sat_f hc1 h
      refine ab_aloadn 0 dX11_nots_7 rfl ?_
      refine f_gr (x := 44) (k2 := 10) (i2 := 0) (j2 := 15) ⟨by decide, by decide⟩ rfl rfl (Nat.le_of_ble_eq_true rfl) wd_478 rfl rfl dX11_nots_8 ?_
      refine ab_aloadn 0 dX11_nots_11 rfl ?_
      refine fX_gi (x := 47) ⟨by decide, by decide⟩ rfl rfl (Nat.le_of_ble_eq_true rfl) wd_475 rfl dX11_nots_12 ?_
      refine ab_iconst (v := 1) dX11_nots_15 (by decide) ?_
      refine ab_isub dX11_nots_16 ?_
      refine fX_iald ⟨by decide, by decide⟩ rfl (fun _ => rfl) h dX11_nots_17 (fun v2 h => ?_)
      refine ab_bipush (v := 10) dX11_nots_18 (by decide) ?_
      refine ab_icmp_ne (tgt := 54) dX11_nots_20 (by decide) (fun hc3 => ?_) (fun hc3 => ?_)
      · have h := sat_f hc3 h
        exact fX_vret h rfl dX11_nots_54
      · have h := sat_t hc3 h
        refine ab_aloadn 0 dX11_nots_23 rfl ?_
        refine ab_dup dX11_nots_24 rfl ?_
        refine fX_gi (x := 47) ⟨by decide, by decide⟩ rfl rfl (Nat.le_of_ble_eq_true rfl) wd_475 rfl dX11_nots_25 ?_
        refine ab_iconst (v := 1) dX11_nots_28 (by decide) ?_
        refine ab_isub dX11_nots_29 ?_
        refine fX_pi (x := 47) (ty := .int) ⟨by decide, by decide⟩ rfl rfl (Nat.le_of_ble_eq_true rfl) wd_475 rfl h rfl (by decide +kernel) rfl rfl dX11_nots_30 (fun X4 h => ?_)
        refine ab_aloadn 0 dX11_nots_33 rfl ?_
        refine ab_dup dX11_nots_34 rfl ?_
        refine fX_gi (x := 48) ⟨by decide, by decide⟩ rfl rfl (Nat.le_of_ble_eq_true rfl) wd_476 rfl dX11_nots_35 ?_
        refine ab_iconst (v := 1) dX11_nots_38 (by decide) ?_
        refine ab_isub dX11_nots_39 ?_
        refine fX_pi (x := 48) (ty := .int) ⟨by decide, by decide⟩ rfl rfl (Nat.le_of_ble_eq_true rfl) wd_476 rfl h rfl (by decide +kernel) rfl rfl dX11_nots_40 (fun X5 h => ?_)
        refine ab_aloadn 0 dX11_nots_43 rfl ?_
        refine ab_bipush (v := 10) dX11_nots_44 (by decide) ?_
        refine ab_iconst (v := 0) dX11_nots_46 (by decide) ?_
        refine ab_iconst (v := 0) dX11_nots_47 (by decide) ?_
        refine fX_Vv (mtc := mt_X11_code) (As := [.int 10, .int 0, .int 0]) h (fun Q h => ct_X11_code 10 0 0 X5 h) ⟨by decide, by decide⟩ rfl rfl rfl mw_X11_code wd_479 rfl rfl ⟨Nat.le_of_ble_eq_true rfl, Nat.le_of_ble_eq_true rfl⟩ ⟨Nat.zero_le _, Nat.zero_le _⟩ (Nat.le_of_ble_eq_true rfl) rfl dX11_nots_48 (fun v6 X7 h => ?_)
        refine ab_goto (tgt := 0) dX11_nots_51 (by decide) ?_
        exact ih X7 h
def f_X11_nots (N : Nat) (X : XM) : Option (Int32 × XM) := f_X11_nots_0 N N X
theorem te_X11_nots_0 {l : Launch} {G : GX} {C : CM} {Q : Int32 → Mem → Prop} (N : Nat) (X : XM) (h : SAT (f_X11_nots N X) (fun v c => Q v (C, c))) : AB l G (rmD 2) 0 0 mt_X11_nots (ZQ G mt_X11_nots Q) 0 [(0, .ref (gA G 10 0 0))] [] (C, X) := by
  unfold f_X11_nots at h
  exact t_X11_nots_0 N N X h
theorem ct_X11_nots {l : Launch} {G : GX} {C : CM} {Q : Int32 → Mem → Prop} (N : Nat) (X : XM) (h : SAT (f_X11_nots N X) (fun v c => Q v (C, c))) : CT l G 2 mt_X11_nots [.ref (gA G 10 0 0)] (C, X) Q := ct_of pn_X11 (Nat.le_of_ble_eq_true rfl) (te_X11_nots_0 N X h)
def f_X11_joins_45 (N : Nat) (k0 : XM → Option (Int32 × XM)) (a1 : Int32) (X : XM) : Option (Int32 × XM) := bnd (stX X 0 47 ((X.1 0 47) - 1)) (fun X1 => ldA (X1.1 15) 45 (X1.1 0 47) (fun v2 => cal (f_X11_code v2 0 0 X1) (fun v3 X4 => (k0 X4))))
def f_X11_joins_0 (N : Nat) (a1 : Int32) : Nat → XM → Option (Int32 × XM)
  | 0, _ => none
  | n + 1, X => (if (X.1 0 47) ≤ 0 then (rt 0 X) else ldA (X.1 15) 45 ((X.1 0 47) - 1) (fun v2 => (if v2 = 11 then (f_X11_joins_45 N (fun c => f_X11_joins_0 N a1 n c) a1 X) else ldA (X.1 15) 45 ((X.1 0 47) - 1) (fun v4 => (if v4 = 12 then (if a1 = 12 then (f_X11_joins_45 N (fun c => f_X11_joins_0 N a1 n c) a1 X) else (rt 0 X)) else (rt 0 X))))))
set_option maxRecDepth 8000 in
theorem t_X11_joins_45 {l : Launch} {G : GX} {C : CM} {Q : Int32 → Mem → Prop} (N : Nat) (k0 : XM → Option (Int32 × XM)) (a1 : Int32) (hk0 : ∀ (X : XM), SAT (k0 X) (fun v c => Q v (C, c)) → AB l G (rmD 2) 0 0 mt_X11_joins (ZQ G mt_X11_joins Q) 0 [(0, .ref (gA G 10 0 0)), (1, .int a1)] [] (C, X)) (X : XM) (h : SAT (f_X11_joins_45 N k0 a1 X) (fun v c => Q v (C, c))) : AB l G (rmD 2) 0 0 mt_X11_joins (ZQ G mt_X11_joins Q) 45 [(0, .ref (gA G 10 0 0)), (1, .int a1)] [] (C, X) := by
  unfold f_X11_joins_45 at h
  refine ab_aloadn 0 dX11_joins_45 rfl ?_
  refine ab_dup dX11_joins_46 rfl ?_
  refine fX_gi (x := 47) ⟨by decide, by decide⟩ rfl rfl (Nat.le_of_ble_eq_true rfl) wd_475 rfl dX11_joins_47 ?_
  refine ab_iconst (v := 1) dX11_joins_50 (by decide) ?_
  refine ab_isub dX11_joins_51 ?_
  refine fX_pi (x := 47) (ty := .int) ⟨by decide, by decide⟩ rfl rfl (Nat.le_of_ble_eq_true rfl) wd_475 rfl h rfl (by decide +kernel) rfl rfl dX11_joins_52 (fun X1 h => ?_)
  refine ab_aloadn 0 dX11_joins_55 rfl ?_
  refine ab_aloadn 0 dX11_joins_56 rfl ?_
  refine f_gr (x := 44) (k2 := 10) (i2 := 0) (j2 := 15) ⟨by decide, by decide⟩ rfl rfl (Nat.le_of_ble_eq_true rfl) wd_478 rfl rfl dX11_joins_57 ?_
  refine ab_aloadn 0 dX11_joins_60 rfl ?_
  refine fX_gi (x := 47) ⟨by decide, by decide⟩ rfl rfl (Nat.le_of_ble_eq_true rfl) wd_475 rfl dX11_joins_61 ?_
  refine fX_iald ⟨by decide, by decide⟩ rfl (fun _ => rfl) h dX11_joins_64 (fun v2 h => ?_)
  refine ab_iconst (v := 0) dX11_joins_65 (by decide) ?_
  refine ab_iconst (v := 0) dX11_joins_66 (by decide) ?_
  refine fX_Vv (mtc := mt_X11_code) (As := [.int v2, .int 0, .int 0]) h (fun Q h => ct_X11_code v2 0 0 X1 h) ⟨by decide, by decide⟩ rfl rfl rfl mw_X11_code wd_479 rfl rfl ⟨Nat.le_of_ble_eq_true rfl, Nat.le_of_ble_eq_true rfl⟩ ⟨Nat.zero_le _, Nat.zero_le _⟩ (Nat.le_of_ble_eq_true rfl) rfl dX11_joins_67 (fun v3 X4 h => ?_)
  refine ab_goto (tgt := 0) dX11_joins_70 (by decide) ?_
  exact hk0 X4 h
set_option maxRecDepth 8000 in
theorem t_X11_joins_0 {l : Launch} {G : GX} {C : CM} {Q : Int32 → Mem → Prop} (N : Nat) (a1 : Int32) : ∀ (n : Nat) (X : XM), SAT (f_X11_joins_0 N a1 n X) (fun v c => Q v (C, c)) → AB l G (rmD 2) 0 0 mt_X11_joins (ZQ G mt_X11_joins Q) 0 [(0, .ref (gA G 10 0 0)), (1, .int a1)] [] (C, X) := by
  intro n
  induction n with
  | zero => intro X h; exact h.elim
  | succ n ih =>
    intro X h
    rw [f_X11_joins_0] at h
    refine ab_aloadn 0 dX11_joins_0 rfl ?_
    refine fX_gi (x := 47) ⟨by decide, by decide⟩ rfl rfl (Nat.le_of_ble_eq_true rfl) wd_475 rfl dX11_joins_1 ?_
    refine ab_if_le (tgt := 73) dX11_joins_4 (by decide) (fun hc1 => ?_) (fun hc1 => ?_)
    · have h := sat_t hc1 h
      exact fX_vret h rfl dX11_joins_73
    · have h := sat_f hc1 h
      refine ab_aloadn 0 dX11_joins_7 rfl ?_
      refine f_gr (x := 44) (k2 := 10) (i2 := 0) (j2 := 15) ⟨by decide, by decide⟩ rfl rfl (Nat.le_of_ble_eq_true rfl) wd_478 rfl rfl dX11_joins_8 ?_
      refine ab_aloadn 0 dX11_joins_11 rfl ?_
      refine fX_gi (x := 47) ⟨by decide, by decide⟩ rfl rfl (Nat.le_of_ble_eq_true rfl) wd_475 rfl dX11_joins_12 ?_
      refine ab_iconst (v := 1) dX11_joins_15 (by decide) ?_
      refine ab_isub dX11_joins_16 ?_
      refine fX_iald ⟨by decide, by decide⟩ rfl (fun _ => rfl) h dX11_joins_17 (fun v2 h => ?_)
      refine ab_bipush (v := 11) dX11_joins_18 (by decide) ?_
      refine ab_icmp_eq (tgt := 45) dX11_joins_20 (by decide) (fun hc3 => ?_) (fun hc3 => ?_)
      · have h := sat_t hc3 h
        exact t_X11_joins_45 N (fun c => f_X11_joins_0 N a1 n c) a1 ih X h
      · have h := sat_f hc3 h
        refine ab_aloadn 0 dX11_joins_23 rfl ?_
        refine f_gr (x := 44) (k2 := 10) (i2 := 0) (j2 := 15) ⟨by decide, by decide⟩ rfl rfl (Nat.le_of_ble_eq_true rfl) wd_478 rfl rfl dX11_joins_24 ?_
        refine ab_aloadn 0 dX11_joins_27 rfl ?_
        refine fX_gi (x := 47) ⟨by decide, by decide⟩ rfl rfl (Nat.le_of_ble_eq_true rfl) wd_475 rfl dX11_joins_28 ?_
        refine ab_iconst (v := 1) dX11_joins_31 (by decide) ?_
        refine ab_isub dX11_joins_32 ?_
        refine fX_iald ⟨by decide, by decide⟩ rfl (fun _ => rfl) h dX11_joins_33 (fun v4 h => ?_)
        refine ab_bipush (v := 12) dX11_joins_34 (by decide) ?_
        refine ab_icmp_ne (tgt := 73) dX11_joins_36 (by decide) (fun hc5 => ?_) (fun hc5 => ?_)
        · have h := sat_f hc5 h
          exact fX_vret h rfl dX11_joins_73
        · have h := sat_t hc5 h
          refine ab_iloadn 1 dX11_joins_39 rfl ?_
          refine ab_bipush (v := 12) dX11_joins_40 (by decide) ?_
          refine ab_icmp_ne (tgt := 73) dX11_joins_42 (by decide) (fun hc6 => ?_) (fun hc6 => ?_)
          · have h := sat_f hc6 h
            exact fX_vret h rfl dX11_joins_73
          · have h := sat_t hc6 h
            exact t_X11_joins_45 N (fun c => f_X11_joins_0 N a1 n c) a1 ih X h
def f_X11_joins (N : Nat) (a1 : Int32) (X : XM) : Option (Int32 × XM) := f_X11_joins_0 N a1 N X
theorem te_X11_joins_0 {l : Launch} {G : GX} {C : CM} {Q : Int32 → Mem → Prop} (N : Nat) (a1 : Int32) (X : XM) (h : SAT (f_X11_joins N a1 X) (fun v c => Q v (C, c))) : AB l G (rmD 2) 0 0 mt_X11_joins (ZQ G mt_X11_joins Q) 0 [(0, .ref (gA G 10 0 0)), (1, .int a1)] [] (C, X) := by
  unfold f_X11_joins at h
  exact t_X11_joins_0 N a1 N X h
theorem ct_X11_joins {l : Launch} {G : GX} {C : CM} {Q : Int32 → Mem → Prop} (N : Nat) (a1 : Int32) (X : XM) (h : SAT (f_X11_joins N a1 X) (fun v c => Q v (C, c))) : CT l G 2 mt_X11_joins [.ref (gA G 10 0 0), .int a1] (C, X) Q := ct_of pn_X11 (Nat.le_of_ble_eq_true rfl) (te_X11_joins_0 N a1 X h)
def f_X11_leafOf (X : XM) : Option (Int32 × XM) := cal (f_X11_isWord 439720568179 X) (fun v1 X2 => (if v1 = 0 then cal (f_X11_isWord 1735355492 X2) (fun v4 X5 => (if v4 = 0 then cal (f_X11_isWord 483006772069 X5) (fun v7 X8 => (if v7 = 0 then cal (f_X11_isWord 495874302827 X8) (fun v10 X11 => (if v10 = 0 then cal (f_X11_isWord 6580594 X11) (fun v13 X14 => (if v13 = 0 then cal (f_X11_isWord 482854658917 X14) (fun v16 X17 => (if v16 = 0 then (rt (-1) X17) else (rt 5 X17))) else (rt 4 X14))) else (rt 3 X11))) else (rt 2 X8))) else (rt 1 X5))) else (rt 0 X2)))
set_option maxRecDepth 8000 in
theorem t_X11_leafOf_0 {l : Launch} {G : GX} {C : CM} {Q : Int32 → Mem → Prop} (X : XM) (h : SAT (f_X11_leafOf X) (fun v c => Q v (C, c))) : AB l G (rmD 2) 0 0 mt_X11_leafOf (ZQ G mt_X11_leafOf Q) 0 [(0, .ref (gA G 10 0 0))] [] (C, X) := by
  unfold f_X11_leafOf at h
  refine ab_aloadn 0 dX11_leafOf_0 rfl ?_
  refine ab_ldc2 wd_483 dX11_leafOf_1 ?_
  refine fX_Vi (mtc := mt_X11_isWord) (As := [.long 439720568179]) h (fun Q h => ct_X11_isWord 439720568179 X h) ⟨by decide, by decide⟩ rfl rfl rfl mw_X11_isWord wd_372 rfl rfl ⟨Nat.le_of_ble_eq_true rfl, Nat.le_of_ble_eq_true rfl⟩ ⟨Nat.zero_le _, Nat.zero_le _⟩ (Nat.le_of_ble_eq_true rfl) rfl dX11_leafOf_4 (fun v1 X2 h => ?_)
  refine ab_if_eq (tgt := 14) dX11_leafOf_7 (by decide) (fun hc3 => ?_) (fun hc3 => ?_)
  · have h := sat_t hc3 h
    refine ab_aloadn 0 dX11_leafOf_14 rfl ?_
    refine ab_ldc2 wd_484 dX11_leafOf_15 ?_
    refine fX_Vi (mtc := mt_X11_isWord) (As := [.long 1735355492]) h (fun Q h => ct_X11_isWord 1735355492 X2 h) ⟨by decide, by decide⟩ rfl rfl rfl mw_X11_isWord wd_372 rfl rfl ⟨Nat.le_of_ble_eq_true rfl, Nat.le_of_ble_eq_true rfl⟩ ⟨Nat.zero_le _, Nat.zero_le _⟩ (Nat.le_of_ble_eq_true rfl) rfl dX11_leafOf_18 (fun v4 X5 h => ?_)
    refine ab_if_eq (tgt := 28) dX11_leafOf_21 (by decide) (fun hc6 => ?_) (fun hc6 => ?_)
    · have h := sat_t hc6 h
      refine ab_aloadn 0 dX11_leafOf_28 rfl ?_
      refine ab_ldc2 wd_485 dX11_leafOf_29 ?_
      refine fX_Vi (mtc := mt_X11_isWord) (As := [.long 483006772069]) h (fun Q h => ct_X11_isWord 483006772069 X5 h) ⟨by decide, by decide⟩ rfl rfl rfl mw_X11_isWord wd_372 rfl rfl ⟨Nat.le_of_ble_eq_true rfl, Nat.le_of_ble_eq_true rfl⟩ ⟨Nat.zero_le _, Nat.zero_le _⟩ (Nat.le_of_ble_eq_true rfl) rfl dX11_leafOf_32 (fun v7 X8 h => ?_)
      refine ab_if_eq (tgt := 42) dX11_leafOf_35 (by decide) (fun hc9 => ?_) (fun hc9 => ?_)
      · have h := sat_t hc9 h
        refine ab_aloadn 0 dX11_leafOf_42 rfl ?_
        refine ab_ldc2 wd_486 dX11_leafOf_43 ?_
        refine fX_Vi (mtc := mt_X11_isWord) (As := [.long 495874302827]) h (fun Q h => ct_X11_isWord 495874302827 X8 h) ⟨by decide, by decide⟩ rfl rfl rfl mw_X11_isWord wd_372 rfl rfl ⟨Nat.le_of_ble_eq_true rfl, Nat.le_of_ble_eq_true rfl⟩ ⟨Nat.zero_le _, Nat.zero_le _⟩ (Nat.le_of_ble_eq_true rfl) rfl dX11_leafOf_46 (fun v10 X11 h => ?_)
        refine ab_if_eq (tgt := 56) dX11_leafOf_49 (by decide) (fun hc12 => ?_) (fun hc12 => ?_)
        · have h := sat_t hc12 h
          refine ab_aloadn 0 dX11_leafOf_56 rfl ?_
          refine ab_ldc2 wd_487 dX11_leafOf_57 ?_
          refine fX_Vi (mtc := mt_X11_isWord) (As := [.long 6580594]) h (fun Q h => ct_X11_isWord 6580594 X11 h) ⟨by decide, by decide⟩ rfl rfl rfl mw_X11_isWord wd_372 rfl rfl ⟨Nat.le_of_ble_eq_true rfl, Nat.le_of_ble_eq_true rfl⟩ ⟨Nat.zero_le _, Nat.zero_le _⟩ (Nat.le_of_ble_eq_true rfl) rfl dX11_leafOf_60 (fun v13 X14 h => ?_)
          refine ab_if_eq (tgt := 70) dX11_leafOf_63 (by decide) (fun hc15 => ?_) (fun hc15 => ?_)
          · have h := sat_t hc15 h
            refine ab_aloadn 0 dX11_leafOf_70 rfl ?_
            refine ab_ldc2 wd_488 dX11_leafOf_71 ?_
            refine fX_Vi (mtc := mt_X11_isWord) (As := [.long 482854658917]) h (fun Q h => ct_X11_isWord 482854658917 X14 h) ⟨by decide, by decide⟩ rfl rfl rfl mw_X11_isWord wd_372 rfl rfl ⟨Nat.le_of_ble_eq_true rfl, Nat.le_of_ble_eq_true rfl⟩ ⟨Nat.zero_le _, Nat.zero_le _⟩ (Nat.le_of_ble_eq_true rfl) rfl dX11_leafOf_74 (fun v16 X17 h => ?_)
            refine ab_if_eq (tgt := 84) dX11_leafOf_77 (by decide) (fun hc18 => ?_) (fun hc18 => ?_)
            · have h := sat_t hc18 h
              refine ab_iconst (v := (-1)) dX11_leafOf_84 (by decide) ?_
              exact fX_iret h rfl rfl dX11_leafOf_85
            · have h := sat_f hc18 h
              refine ab_iconst (v := 5) dX11_leafOf_80 (by decide) ?_
              refine ab_goto (tgt := 85) dX11_leafOf_81 (by decide) ?_
              exact fX_iret h rfl rfl dX11_leafOf_85
          · have h := sat_f hc15 h
            refine ab_iconst (v := 4) dX11_leafOf_66 (by decide) ?_
            refine ab_goto (tgt := 85) dX11_leafOf_67 (by decide) ?_
            exact fX_iret h rfl rfl dX11_leafOf_85
        · have h := sat_f hc12 h
          refine ab_iconst (v := 3) dX11_leafOf_52 (by decide) ?_
          refine ab_goto (tgt := 85) dX11_leafOf_53 (by decide) ?_
          exact fX_iret h rfl rfl dX11_leafOf_85
      · have h := sat_f hc9 h
        refine ab_iconst (v := 2) dX11_leafOf_38 (by decide) ?_
        refine ab_goto (tgt := 85) dX11_leafOf_39 (by decide) ?_
        exact fX_iret h rfl rfl dX11_leafOf_85
    · have h := sat_f hc6 h
      refine ab_iconst (v := 1) dX11_leafOf_24 (by decide) ?_
      refine ab_goto (tgt := 85) dX11_leafOf_25 (by decide) ?_
      exact fX_iret h rfl rfl dX11_leafOf_85
  · have h := sat_f hc3 h
    refine ab_iconst (v := 0) dX11_leafOf_10 (by decide) ?_
    refine ab_goto (tgt := 85) dX11_leafOf_11 (by decide) ?_
    exact fX_iret h rfl rfl dX11_leafOf_85
theorem ct_X11_leafOf {l : Launch} {G : GX} {C : CM} {Q : Int32 → Mem → Prop} (X : XM) (h : SAT (f_X11_leafOf X) (fun v c => Q v (C, c))) : CT l G 2 mt_X11_leafOf [.ref (gA G 10 0 0)] (C, X) Q := ct_of pn_X11 (Nat.le_of_ble_eq_true rfl) (t_X11_leafOf_0 X h)
def f_X11_operand_170 (N : Nat) (X : XM) : Option (Int32 × XM) := cal (f_X11_bad 1 X) (fun v1 X2 => (chk (isB v1) (rt v1 X2)))
def f_X11_operand_103 (N : Nat) (as0 : Int32) (as1 : Int32) (X : XM) : Option (Int32 × XM) := sxA X 15 45 as1 as0 (fun X1 => bnd (stX X1 0 47 ((X1.1 0 47) + 1)) (fun X2 => bnd (stX X2 0 48 ((X2.1 0 48) + 1)) (fun X3 => (rt 1 X3))))
def f_X11_operand_84 (N : Nat) (a1 : Int32) (X : XM) : Option (Int32 × XM) := (if a1 = 0 then (f_X11_operand_103 N 13 (X.1 0 47) X) else (f_X11_operand_103 N 10 (X.1 0 47) X))
def f_X11_operand_56 (N : Nat) (X : XM) : Option (Int32 × XM) := cal (f_X11_bad 4 X) (fun v1 X2 => (chk (isB v1) (rt v1 X2)))
def f_X11_operand_38 (N : Nat) (a1 : Int32) (a2 : Int32) (a3 : Int32) (X : XM) : Option (Int32 × XM) := (if (X.1 0 46) = 20 then (f_X11_operand_56 N X) else (if (X.1 0 48) ≤ 8 then bnd (stX X 0 46 ((X.1 0 46) + 1)) (fun X3 => cal (f_X11_next N X3) (fun v4 X5 => (if a1 = 0 then (if a2 = 0 then bnd (stX X5 0 49 1) (fun X8 => (if a3 = 0 then cal (f_X11_code a3 0 0 X8) (fun v22 X23 => (rt 1 X23)) else (if (X8.1 0 11) = 3 then (if (X8.1 0 14) < 60 then (f_X11_operand_170 N X8) else (if (X8.1 0 14) ≤ 62 then cal (f_X11_next N X8) (fun v13 X14 => (if (X14.1 0 11) = 2 then cal (f_X11_code a3 (X8.1 0 14) (X14.1 0 14) X14) (fun v16 X17 => cal (f_X11_next N X17) (fun v18 X19 => (rt 1 X19))) else cal (f_X11_bad 1 X14) (fun v20 X21 => (chk (isB v20) (rt v20 X21))))) else (f_X11_operand_170 N X8))) else (f_X11_operand_170 N X8)))) else (f_X11_operand_84 N a1 X5)) else (f_X11_operand_84 N a1 X5)))) else (f_X11_operand_56 N X)))
def f_X11_operand (N : Nat) (X : XM) : Option (Int32 × XM) := cal (f_X11_isWord 7237492 X) (fun v1 X2 => cal (f_X11_isSign 40 X2) (fun v3 X4 => cal (f_X11_leafOf X4) (fun v5 X6 => (if v1 = 0 then (if v3 = 0 then (if 0 ≤ v5 then (f_X11_operand_38 N v1 v3 v5 X6) else cal (f_X11_bad 1 X6) (fun v10 X11 => (chk (isB v10) (rt v10 X11)))) else (f_X11_operand_38 N v1 v3 v5 X6)) else (f_X11_operand_38 N v1 v3 v5 X6)))))
set_option maxRecDepth 8000 in
theorem t_X11_operand_170 {l : Launch} {G : GX} {C : CM} {Q : Int32 → Mem → Prop} (N : Nat) (X : XM) (h : SAT (f_X11_operand_170 N X) (fun v c => Q v (C, c))) : AB l G (rmD 3) 0 0 mt_X11_operand (ZQ G mt_X11_operand Q) 170 [(0, .ref (gA G 10 0 0))] [] (C, X) := by
  unfold f_X11_operand_170 at h
  refine ab_aloadn 0 dX11_operand_170 rfl ?_
  refine ab_iconst (v := 1) dX11_operand_171 (by decide) ?_
  refine fX_Vi (mtc := mt_X11_bad) (As := [.int 1]) h (fun Q h => ct_X11_bad 1 X h) ⟨by decide, by decide⟩ rfl rfl rfl mw_X11_bad wd_386 rfl rfl ⟨Nat.le_of_ble_eq_true rfl, Nat.le_of_ble_eq_true rfl⟩ ⟨Nat.zero_le _, Nat.zero_le _⟩ (Nat.le_of_ble_eq_true rfl) rfl dX11_operand_172 (fun v1 X2 h => ?_)
  exact fX_iretb h rfl dX11_operand_175
set_option maxRecDepth 8000 in
theorem t_X11_operand_103 {l : Launch} {G : GX} {C : CM} {Q : Int32 → Mem → Prop} (N : Nat) (as0 : Int32) (as1 : Int32) (X : XM) (h : SAT (f_X11_operand_103 N as0 as1 X) (fun v c => Q v (C, c))) : AB l G (rmD 3) 0 0 mt_X11_operand (ZQ G mt_X11_operand Q) 103 [(0, .ref (gA G 10 0 0))] [.int as0, .int as1, .ref (gA G 10 0 15)] (C, X) := by
  unfold f_X11_operand_103 at h
  refine fX_iast ⟨by decide, by decide⟩ rfl (fun _ => rfl) h dX11_operand_103 (fun X1 h => ?_)
  refine ab_aloadn 0 dX11_operand_104 rfl ?_
  refine ab_dup dX11_operand_105 rfl ?_
  refine fX_gi (x := 47) ⟨by decide, by decide⟩ rfl rfl (Nat.le_of_ble_eq_true rfl) wd_475 rfl dX11_operand_106 ?_
  refine ab_iconst (v := 1) dX11_operand_109 (by decide) ?_
  refine ab_iadd dX11_operand_110 ?_
  refine fX_pi (x := 47) (ty := .int) ⟨by decide, by decide⟩ rfl rfl (Nat.le_of_ble_eq_true rfl) wd_475 rfl h rfl (by decide +kernel) rfl rfl dX11_operand_111 (fun X2 h => ?_)
  refine ab_aloadn 0 dX11_operand_114 rfl ?_
  refine ab_dup dX11_operand_115 rfl ?_
  refine fX_gi (x := 48) ⟨by decide, by decide⟩ rfl rfl (Nat.le_of_ble_eq_true rfl) wd_476 rfl dX11_operand_116 ?_
  refine ab_iconst (v := 1) dX11_operand_119 (by decide) ?_
  refine ab_iadd dX11_operand_120 ?_
  refine fX_pi (x := 48) (ty := .int) ⟨by decide, by decide⟩ rfl rfl (Nat.le_of_ble_eq_true rfl) wd_476 rfl h rfl (by decide +kernel) rfl rfl dX11_operand_121 (fun X3 h => ?_)
  refine ab_iconst (v := 1) dX11_operand_124 (by decide) ?_
  exact fX_iret h rfl rfl dX11_operand_125
set_option maxRecDepth 8000 in
theorem t_X11_operand_84 {l : Launch} {G : GX} {C : CM} {Q : Int32 → Mem → Prop} (N : Nat) (a1 : Int32) (X : XM) (h : SAT (f_X11_operand_84 N a1 X) (fun v c => Q v (C, c))) : AB l G (rmD 3) 0 0 mt_X11_operand (ZQ G mt_X11_operand Q) 84 [(0, .ref (gA G 10 0 0)), (1, .int a1)] [] (C, X) := by
  unfold f_X11_operand_84 at h
  refine ab_aloadn 0 dX11_operand_84 rfl ?_
  refine f_gr (x := 44) (k2 := 10) (i2 := 0) (j2 := 15) ⟨by decide, by decide⟩ rfl rfl (Nat.le_of_ble_eq_true rfl) wd_478 rfl rfl dX11_operand_85 ?_
  refine ab_aloadn 0 dX11_operand_88 rfl ?_
  refine fX_gi (x := 47) ⟨by decide, by decide⟩ rfl rfl (Nat.le_of_ble_eq_true rfl) wd_475 rfl dX11_operand_89 ?_
  refine ab_iloadn 1 dX11_operand_92 rfl ?_
  refine ab_if_eq (tgt := 101) dX11_operand_93 (by decide) (fun hc1 => ?_) (fun hc1 => ?_)
  · have h := sat_t hc1 h
    refine ab_bipush (v := 13) dX11_operand_101 (by decide) ?_
    refine ab_sub [0] rfl ?_
    exact t_X11_operand_103 N 13 (X.1 0 47) X h
  · have h := sat_f hc1 h
    refine ab_bipush (v := 10) dX11_operand_96 (by decide) ?_
    refine ab_goto (tgt := 103) dX11_operand_98 (by decide) ?_
    refine ab_sub [0] rfl ?_
    exact t_X11_operand_103 N 10 (X.1 0 47) X h
set_option maxRecDepth 8000 in
theorem t_X11_operand_56 {l : Launch} {G : GX} {C : CM} {Q : Int32 → Mem → Prop} (N : Nat) (X : XM) (h : SAT (f_X11_operand_56 N X) (fun v c => Q v (C, c))) : AB l G (rmD 3) 0 0 mt_X11_operand (ZQ G mt_X11_operand Q) 56 [(0, .ref (gA G 10 0 0))] [] (C, X) := by
  unfold f_X11_operand_56 at h
  refine ab_aloadn 0 dX11_operand_56 rfl ?_
  refine ab_iconst (v := 4) dX11_operand_57 (by decide) ?_
  refine fX_Vi (mtc := mt_X11_bad) (As := [.int 4]) h (fun Q h => ct_X11_bad 4 X h) ⟨by decide, by decide⟩ rfl rfl rfl mw_X11_bad wd_386 rfl rfl ⟨Nat.le_of_ble_eq_true rfl, Nat.le_of_ble_eq_true rfl⟩ ⟨Nat.zero_le _, Nat.zero_le _⟩ (Nat.le_of_ble_eq_true rfl) rfl dX11_operand_58 (fun v1 X2 h => ?_)
  exact fX_iretb h rfl dX11_operand_61
set_option maxRecDepth 8000 in
theorem t_X11_operand_38 {l : Launch} {G : GX} {C : CM} {Q : Int32 → Mem → Prop} (N : Nat) (a1 : Int32) (a2 : Int32) (a3 : Int32) (X : XM) (h : SAT (f_X11_operand_38 N a1 a2 a3 X) (fun v c => Q v (C, c))) : AB l G (rmD 3) 0 0 mt_X11_operand (ZQ G mt_X11_operand Q) 38 [(0, .ref (gA G 10 0 0)), (1, .int a1), (2, .int a2), (3, .int a3)] [] (C, X) := by
  unfold f_X11_operand_38 at h
  refine ab_aloadn 0 dX11_operand_38 rfl ?_
  refine fX_gi (x := 46) ⟨by decide, by decide⟩ rfl rfl (Nat.le_of_ble_eq_true rfl) wd_474 rfl dX11_operand_39 ?_
  refine ab_bipush (v := 20) dX11_operand_42 (by decide) ?_
  refine ab_icmp_eq (tgt := 56) dX11_operand_44 (by decide) (fun hc1 => ?_) (fun hc1 => ?_)
  · have h := sat_t hc1 h
    refine ab_sub [0] rfl ?_
    exact t_X11_operand_56 N X h
  · have h := sat_f hc1 h
    refine ab_aloadn 0 dX11_operand_47 rfl ?_
    refine fX_gi (x := 48) ⟨by decide, by decide⟩ rfl rfl (Nat.le_of_ble_eq_true rfl) wd_476 rfl dX11_operand_48 ?_
    refine ab_bipush (v := 8) dX11_operand_51 (by decide) ?_
    refine ab_icmp_le (tgt := 62) dX11_operand_53 (by decide) (fun hc2 => ?_) (fun hc2 => ?_)
    · have h := sat_t hc2 h
      refine ab_aloadn 0 dX11_operand_62 rfl ?_
      refine ab_dup dX11_operand_63 rfl ?_
      refine fX_gi (x := 46) ⟨by decide, by decide⟩ rfl rfl (Nat.le_of_ble_eq_true rfl) wd_474 rfl dX11_operand_64 ?_
      refine ab_iconst (v := 1) dX11_operand_67 (by decide) ?_
      refine ab_iadd dX11_operand_68 ?_
      refine fX_pi (x := 46) (ty := .int) ⟨by decide, by decide⟩ rfl rfl (Nat.le_of_ble_eq_true rfl) wd_474 rfl h rfl (by decide +kernel) rfl rfl dX11_operand_69 (fun X3 h => ?_)
      refine ab_aloadn 0 dX11_operand_72 rfl ?_
      refine fX_Vv (mtc := mt_X11_next) (As := []) h (fun Q h => ct_X11_next N X3 h) ⟨by decide, by decide⟩ rfl rfl rfl mw_X11_next wd_369 rfl rfl ⟨Nat.le_of_ble_eq_true rfl, Nat.le_of_ble_eq_true rfl⟩ ⟨Nat.zero_le _, Nat.zero_le _⟩ (Nat.le_of_ble_eq_true rfl) rfl dX11_operand_73 (fun v4 X5 h => ?_)
      refine ab_iloadn 1 dX11_operand_76 rfl ?_
      refine ab_if_ne (tgt := 84) dX11_operand_77 (by decide) (fun hc6 => ?_) (fun hc6 => ?_)
      · have h := sat_f hc6 h
        refine ab_sub [0, 1] rfl ?_
        exact t_X11_operand_84 N a1 X5 h
      · have h := sat_t hc6 h
        refine ab_iloadn 2 dX11_operand_80 rfl ?_
        refine ab_if_eq (tgt := 126) dX11_operand_81 (by decide) (fun hc7 => ?_) (fun hc7 => ?_)
        · have h := sat_t hc7 h
          refine ab_aloadn 0 dX11_operand_126 rfl ?_
          refine ab_iconst (v := 1) dX11_operand_127 (by decide) ?_
          refine fX_pi (x := 49) (ty := .boolean) ⟨by decide, by decide⟩ rfl rfl (Nat.le_of_ble_eq_true rfl) wd_477 rfl h rfl (by decide +kernel) rfl rfl dX11_operand_128 (fun X8 h => ?_)
          refine ab_iloadn 3 dX11_operand_131 rfl ?_
          refine ab_if_ne (tgt := 144) dX11_operand_132 (by decide) (fun hc9 => ?_) (fun hc9 => ?_)
          · have h := sat_f hc9 h
            refine ab_aloadn 0 dX11_operand_144 rfl ?_
            refine fX_gi (x := 11) ⟨by decide, by decide⟩ rfl rfl (Nat.le_of_ble_eq_true rfl) wd_362 rfl dX11_operand_145 ?_
            refine ab_iconst (v := 3) dX11_operand_148 (by decide) ?_
            refine ab_icmp_ne (tgt := 170) dX11_operand_149 (by decide) (fun hc10 => ?_) (fun hc10 => ?_)
            · have h := sat_f hc10 h
              refine ab_sub [0] rfl ?_
              exact t_X11_operand_170 N X8 h
            · have h := sat_t hc10 h
              refine ab_aloadn 0 dX11_operand_152 rfl ?_
              refine fX_gi (x := 14) ⟨by decide, by decide⟩ rfl rfl (Nat.le_of_ble_eq_true rfl) wd_367 rfl dX11_operand_153 ?_
              refine ab_bipush (v := 60) dX11_operand_156 (by decide) ?_
              refine ab_icmp_lt (tgt := 170) dX11_operand_158 (by decide) (fun hc11 => ?_) (fun hc11 => ?_)
              · have h := sat_t hc11 h
                refine ab_sub [0] rfl ?_
                exact t_X11_operand_170 N X8 h
              · have h := sat_f hc11 h
                refine ab_aloadn 0 dX11_operand_161 rfl ?_
                refine fX_gi (x := 14) ⟨by decide, by decide⟩ rfl rfl (Nat.le_of_ble_eq_true rfl) wd_367 rfl dX11_operand_162 ?_
                refine ab_bipush (v := 62) dX11_operand_165 (by decide) ?_
                refine ab_icmp_le (tgt := 176) dX11_operand_167 (by decide) (fun hc12 => ?_) (fun hc12 => ?_)
                · have h := sat_t hc12 h
                  refine ab_aloadn 0 dX11_operand_176 rfl ?_
                  refine fX_gi (x := 14) ⟨by decide, by decide⟩ rfl rfl (Nat.le_of_ble_eq_true rfl) wd_367 rfl dX11_operand_177 ?_
                  refine ab_istore (lv' := [(0, .ref (gA G 10 0 0)), (1, .int a1), (2, .int a2), (3, .int a3), (4, .int (X8.1 0 14))]) dX11_operand_180 rfl (Nat.le_of_ble_eq_true rfl) rfl ?_
                  refine ab_aloadn 0 dX11_operand_182 rfl ?_
                  refine fX_Vv (mtc := mt_X11_next) (As := []) h (fun Q h => ct_X11_next N X8 h) ⟨by decide, by decide⟩ rfl rfl rfl mw_X11_next wd_369 rfl rfl ⟨Nat.le_of_ble_eq_true rfl, Nat.le_of_ble_eq_true rfl⟩ ⟨Nat.zero_le _, Nat.zero_le _⟩ (Nat.le_of_ble_eq_true rfl) rfl dX11_operand_183 (fun v13 X14 h => ?_)
                  refine ab_aloadn 0 dX11_operand_186 rfl ?_
                  refine fX_gi (x := 11) ⟨by decide, by decide⟩ rfl rfl (Nat.le_of_ble_eq_true rfl) wd_362 rfl dX11_operand_187 ?_
                  refine ab_iconst (v := 2) dX11_operand_190 (by decide) ?_
                  refine ab_icmp_eq (tgt := 200) dX11_operand_191 (by decide) (fun hc15 => ?_) (fun hc15 => ?_)
                  · have h := sat_t hc15 h
                    refine ab_aloadn 0 dX11_operand_200 rfl ?_
                    refine ab_iloadn 3 dX11_operand_201 rfl ?_
                    refine ab_iload 4 dX11_operand_202 rfl ?_
                    refine ab_aloadn 0 dX11_operand_204 rfl ?_
                    refine fX_gi (x := 14) ⟨by decide, by decide⟩ rfl rfl (Nat.le_of_ble_eq_true rfl) wd_367 rfl dX11_operand_205 ?_
                    refine fX_Vv (mtc := mt_X11_code) (As := [.int a3, .int (X8.1 0 14), .int (X14.1 0 14)]) h (fun Q h => ct_X11_code a3 (X8.1 0 14) (X14.1 0 14) X14 h) ⟨by decide, by decide⟩ rfl rfl rfl mw_X11_code wd_479 rfl rfl ⟨Nat.le_of_ble_eq_true rfl, Nat.le_of_ble_eq_true rfl⟩ ⟨Nat.zero_le _, Nat.zero_le _⟩ (Nat.le_of_ble_eq_true rfl) rfl dX11_operand_208 (fun v16 X17 h => ?_)
                    refine ab_aloadn 0 dX11_operand_211 rfl ?_
                    refine fX_Vv (mtc := mt_X11_next) (As := []) h (fun Q h => ct_X11_next N X17 h) ⟨by decide, by decide⟩ rfl rfl rfl mw_X11_next wd_369 rfl rfl ⟨Nat.le_of_ble_eq_true rfl, Nat.le_of_ble_eq_true rfl⟩ ⟨Nat.zero_le _, Nat.zero_le _⟩ (Nat.le_of_ble_eq_true rfl) rfl dX11_operand_212 (fun v18 X19 h => ?_)
                    refine ab_iconst (v := 1) dX11_operand_215 (by decide) ?_
                    exact fX_iret h rfl rfl dX11_operand_216
                  · have h := sat_f hc15 h
                    refine ab_aloadn 0 dX11_operand_194 rfl ?_
                    refine ab_iconst (v := 1) dX11_operand_195 (by decide) ?_
                    refine fX_Vi (mtc := mt_X11_bad) (As := [.int 1]) h (fun Q h => ct_X11_bad 1 X14 h) ⟨by decide, by decide⟩ rfl rfl rfl mw_X11_bad wd_386 rfl rfl ⟨Nat.le_of_ble_eq_true rfl, Nat.le_of_ble_eq_true rfl⟩ ⟨Nat.zero_le _, Nat.zero_le _⟩ (Nat.le_of_ble_eq_true rfl) rfl dX11_operand_196 (fun v20 X21 h => ?_)
                    exact fX_iretb h rfl dX11_operand_199
                · have h := sat_f hc12 h
                  refine ab_sub [0] rfl ?_
                  exact t_X11_operand_170 N X8 h
          · have h := sat_t hc9 h
            refine ab_aloadn 0 dX11_operand_135 rfl ?_
            refine ab_iloadn 3 dX11_operand_136 rfl ?_
            refine ab_iconst (v := 0) dX11_operand_137 (by decide) ?_
            refine ab_iconst (v := 0) dX11_operand_138 (by decide) ?_
            refine fX_Vv (mtc := mt_X11_code) (As := [.int a3, .int 0, .int 0]) h (fun Q h => ct_X11_code a3 0 0 X8 h) ⟨by decide, by decide⟩ rfl rfl rfl mw_X11_code wd_479 rfl rfl ⟨Nat.le_of_ble_eq_true rfl, Nat.le_of_ble_eq_true rfl⟩ ⟨Nat.zero_le _, Nat.zero_le _⟩ (Nat.le_of_ble_eq_true rfl) rfl dX11_operand_139 (fun v22 X23 h => ?_)
            refine ab_iconst (v := 1) dX11_operand_142 (by decide) ?_
            exact fX_iret h rfl rfl dX11_operand_143
        · have h := sat_f hc7 h
          refine ab_sub [0, 1] rfl ?_
          exact t_X11_operand_84 N a1 X5 h
    · have h := sat_f hc2 h
      refine ab_sub [0] rfl ?_
      exact t_X11_operand_56 N X h
set_option maxRecDepth 8000 in
theorem t_X11_operand_0 {l : Launch} {G : GX} {C : CM} {Q : Int32 → Mem → Prop} (N : Nat) (X : XM) (h : SAT (f_X11_operand N X) (fun v c => Q v (C, c))) : AB l G (rmD 3) 0 0 mt_X11_operand (ZQ G mt_X11_operand Q) 0 [(0, .ref (gA G 10 0 0))] [] (C, X) := by
  unfold f_X11_operand at h
  refine ab_aloadn 0 dX11_operand_0 rfl ?_
  refine ab_ldc2 wd_482 dX11_operand_1 ?_
  refine fX_Vi (mtc := mt_X11_isWord) (As := [.long 7237492]) h (fun Q h => ct_X11_isWord 7237492 X h) ⟨by decide, by decide⟩ rfl rfl rfl mw_X11_isWord wd_372 rfl rfl ⟨Nat.le_of_ble_eq_true rfl, Nat.le_of_ble_eq_true rfl⟩ ⟨Nat.zero_le _, Nat.zero_le _⟩ (Nat.le_of_ble_eq_true rfl) rfl dX11_operand_4 (fun v1 X2 h => ?_)
  refine ab_istoren (lv' := [(0, .ref (gA G 10 0 0)), (1, .int v1)]) dX11_operand_7 rfl (Nat.le_of_ble_eq_true rfl) rfl ?_
  refine ab_aloadn 0 dX11_operand_8 rfl ?_
  refine ab_bipush (v := 40) dX11_operand_9 (by decide) ?_
  refine fX_Vi (mtc := mt_X11_isSign) (As := [.int 40]) h (fun Q h => ct_X11_isSign 40 X2 h) ⟨by decide, by decide⟩ rfl rfl rfl mw_X11_isSign wd_404 rfl rfl ⟨Nat.le_of_ble_eq_true rfl, Nat.le_of_ble_eq_true rfl⟩ ⟨Nat.zero_le _, Nat.zero_le _⟩ (Nat.le_of_ble_eq_true rfl) rfl dX11_operand_11 (fun v3 X4 h => ?_)
  refine ab_istoren (lv' := [(0, .ref (gA G 10 0 0)), (1, .int v1), (2, .int v3)]) dX11_operand_14 rfl (Nat.le_of_ble_eq_true rfl) rfl ?_
  refine ab_aloadn 0 dX11_operand_15 rfl ?_
  refine fX_Vi (mtc := mt_X11_leafOf) (As := []) h (fun Q h => ct_X11_leafOf X4 h) ⟨by decide, by decide⟩ rfl rfl rfl mw_X11_leafOf wd_489 rfl rfl ⟨Nat.le_of_ble_eq_true rfl, Nat.le_of_ble_eq_true rfl⟩ ⟨Nat.zero_le _, Nat.zero_le _⟩ (Nat.le_of_ble_eq_true rfl) rfl dX11_operand_16 (fun v5 X6 h => ?_)
  refine ab_istoren (lv' := [(0, .ref (gA G 10 0 0)), (1, .int v1), (2, .int v3), (3, .int v5)]) dX11_operand_19 rfl (Nat.le_of_ble_eq_true rfl) rfl ?_
  refine ab_iloadn 1 dX11_operand_20 rfl ?_
  refine ab_if_ne (tgt := 38) dX11_operand_21 (by decide) (fun hc7 => ?_) (fun hc7 => ?_)
  · have h := sat_f hc7 h
    exact t_X11_operand_38 N v1 v3 v5 X6 h
  · have h := sat_t hc7 h
    refine ab_iloadn 2 dX11_operand_24 rfl ?_
    refine ab_if_ne (tgt := 38) dX11_operand_25 (by decide) (fun hc8 => ?_) (fun hc8 => ?_)
    · have h := sat_f hc8 h
      exact t_X11_operand_38 N v1 v3 v5 X6 h
    · have h := sat_t hc8 h
      refine ab_iloadn 3 dX11_operand_28 rfl ?_
      refine ab_if_ge (tgt := 38) dX11_operand_29 (by decide) (fun hc9 => ?_) (fun hc9 => ?_)
      · have h := sat_t hc9 h
        exact t_X11_operand_38 N v1 v3 v5 X6 h
      · have h := sat_f hc9 h
        refine ab_aloadn 0 dX11_operand_32 rfl ?_
        refine ab_iconst (v := 1) dX11_operand_33 (by decide) ?_
        refine fX_Vi (mtc := mt_X11_bad) (As := [.int 1]) h (fun Q h => ct_X11_bad 1 X6 h) ⟨by decide, by decide⟩ rfl rfl rfl mw_X11_bad wd_386 rfl rfl ⟨Nat.le_of_ble_eq_true rfl, Nat.le_of_ble_eq_true rfl⟩ ⟨Nat.zero_le _, Nat.zero_le _⟩ (Nat.le_of_ble_eq_true rfl) rfl dX11_operand_34 (fun v10 X11 h => ?_)
        exact fX_iretb h rfl dX11_operand_37
theorem ct_X11_operand {l : Launch} {G : GX} {C : CM} {Q : Int32 → Mem → Prop} (N : Nat) (X : XM) (h : SAT (f_X11_operand N X) (fun v c => Q v (C, c))) : CT l G 3 mt_X11_operand [.ref (gA G 10 0 0)] (C, X) Q := ct_of pn_X11 (Nat.le_of_ble_eq_true rfl) (t_X11_operand_0 N X h)
def f_X11_behind_114 (N : Nat) (X : XM) : Option (Int32 × XM) := cal (f_X11_bad 1 X) (fun v1 X2 => (chk (isB v1) (rt v1 X2)))
def f_X11_behind_70 (N : Nat) (as0 : Int32) (as1 : Int32) (X : XM) : Option (Int32 × XM) := sxA X 15 45 as1 as0 (fun X1 => bnd (stX X1 0 47 ((X1.1 0 47) + 1)) (fun X2 => bnd (stX X2 0 49 0) (fun X3 => cal (f_X11_next N X3) (fun v4 X5 => (rt 1 X5)))))
def f_X11_behind_42 (N : Nat) (as0 : Int32) (X : XM) : Option (Int32 × XM) := cal (f_X11_joins N as0 X) (fun v1 X2 => cal (f_X11_isWord 6385252 X2) (fun v3 X4 => (if v3 = 0 then (f_X11_behind_70 N 12 (X2.1 0 47) X4) else (f_X11_behind_70 N 11 (X2.1 0 47) X4))))
def f_X11_behind_24 (N : Nat) (X : XM) : Option (Int32 × XM) := cal (f_X11_isWord 6385252 X) (fun v1 X2 => (if v1 = 0 then (f_X11_behind_42 N 12 X2) else (f_X11_behind_42 N 11 X2)))
def f_X11_behind (N : Nat) (X : XM) : Option (Int32 × XM) := cal (f_X11_nots N X) (fun v1 X2 => cal (f_X11_isWord 6385252 X2) (fun v3 X4 => (if v3 = 0 then cal (f_X11_isWord 28530 X4) (fun v6 X7 => (if v6 = 0 then cal (f_X11_joins N 12 X7) (fun v9 X10 => cal (f_X11_isSign 41 X10) (fun v11 X12 => (if v11 = 0 then (f_X11_behind_114 N X12) else (if (X12.1 0 47) = 0 then (f_X11_behind_114 N X12) else bnd (stX X12 0 47 ((X12.1 0 47) - 1)) (fun X15 => bnd (stX X15 0 48 ((X15.1 0 48) - 1)) (fun X16 => cal (f_X11_next N X16) (fun v17 X18 => (rt 1 X18)))))))) else (f_X11_behind_24 N X7))) else (f_X11_behind_24 N X4))))
set_option maxRecDepth 8000 in
theorem t_X11_behind_114 {l : Launch} {G : GX} {C : CM} {Q : Int32 → Mem → Prop} (N : Nat) (X : XM) (h : SAT (f_X11_behind_114 N X) (fun v c => Q v (C, c))) : AB l G (rmD 3) 0 0 mt_X11_behind (ZQ G mt_X11_behind Q) 114 [(0, .ref (gA G 10 0 0))] [] (C, X) := by
  unfold f_X11_behind_114 at h
  refine ab_aloadn 0 dX11_behind_114 rfl ?_
  refine ab_iconst (v := 1) dX11_behind_115 (by decide) ?_
  refine fX_Vi (mtc := mt_X11_bad) (As := [.int 1]) h (fun Q h => ct_X11_bad 1 X h) ⟨by decide, by decide⟩ rfl rfl rfl mw_X11_bad wd_386 rfl rfl ⟨Nat.le_of_ble_eq_true rfl, Nat.le_of_ble_eq_true rfl⟩ ⟨Nat.zero_le _, Nat.zero_le _⟩ (Nat.le_of_ble_eq_true rfl) rfl dX11_behind_116 (fun v1 X2 h => ?_)
  exact fX_iretb h rfl dX11_behind_119
set_option maxRecDepth 8000 in
theorem t_X11_behind_70 {l : Launch} {G : GX} {C : CM} {Q : Int32 → Mem → Prop} (N : Nat) (as0 : Int32) (as1 : Int32) (X : XM) (h : SAT (f_X11_behind_70 N as0 as1 X) (fun v c => Q v (C, c))) : AB l G (rmD 3) 0 0 mt_X11_behind (ZQ G mt_X11_behind Q) 70 [(0, .ref (gA G 10 0 0))] [.int as0, .int as1, .ref (gA G 10 0 15)] (C, X) := by
  unfold f_X11_behind_70 at h
  refine fX_iast ⟨by decide, by decide⟩ rfl (fun _ => rfl) h dX11_behind_70 (fun X1 h => ?_)
  refine ab_aloadn 0 dX11_behind_71 rfl ?_
  refine ab_dup dX11_behind_72 rfl ?_
  refine fX_gi (x := 47) ⟨by decide, by decide⟩ rfl rfl (Nat.le_of_ble_eq_true rfl) wd_475 rfl dX11_behind_73 ?_
  refine ab_iconst (v := 1) dX11_behind_76 (by decide) ?_
  refine ab_iadd dX11_behind_77 ?_
  refine fX_pi (x := 47) (ty := .int) ⟨by decide, by decide⟩ rfl rfl (Nat.le_of_ble_eq_true rfl) wd_475 rfl h rfl (by decide +kernel) rfl rfl dX11_behind_78 (fun X2 h => ?_)
  refine ab_aloadn 0 dX11_behind_81 rfl ?_
  refine ab_iconst (v := 0) dX11_behind_82 (by decide) ?_
  refine fX_pi (x := 49) (ty := .boolean) ⟨by decide, by decide⟩ rfl rfl (Nat.le_of_ble_eq_true rfl) wd_477 rfl h rfl (by decide +kernel) rfl rfl dX11_behind_83 (fun X3 h => ?_)
  refine ab_aloadn 0 dX11_behind_86 rfl ?_
  refine fX_Vv (mtc := mt_X11_next) (As := []) h (fun Q h => ct_X11_next N X3 h) ⟨by decide, by decide⟩ rfl rfl rfl mw_X11_next wd_369 rfl rfl ⟨Nat.le_of_ble_eq_true rfl, Nat.le_of_ble_eq_true rfl⟩ ⟨Nat.zero_le _, Nat.zero_le _⟩ (Nat.le_of_ble_eq_true rfl) rfl dX11_behind_87 (fun v4 X5 h => ?_)
  refine ab_iconst (v := 1) dX11_behind_90 (by decide) ?_
  exact fX_iret h rfl rfl dX11_behind_91
set_option maxRecDepth 8000 in
theorem t_X11_behind_42 {l : Launch} {G : GX} {C : CM} {Q : Int32 → Mem → Prop} (N : Nat) (as0 : Int32) (X : XM) (h : SAT (f_X11_behind_42 N as0 X) (fun v c => Q v (C, c))) : AB l G (rmD 3) 0 0 mt_X11_behind (ZQ G mt_X11_behind Q) 42 [(0, .ref (gA G 10 0 0))] [.int as0, .ref (gA G 10 0 0)] (C, X) := by
  unfold f_X11_behind_42 at h
  refine fX_Vv (mtc := mt_X11_joins) (As := [.int as0]) h (fun Q h => ct_X11_joins N as0 X h) ⟨by decide, by decide⟩ rfl rfl rfl mw_X11_joins wd_481 rfl rfl ⟨Nat.le_of_ble_eq_true rfl, Nat.le_of_ble_eq_true rfl⟩ ⟨Nat.zero_le _, Nat.zero_le _⟩ (Nat.le_of_ble_eq_true rfl) rfl dX11_behind_42 (fun v1 X2 h => ?_)
  refine ab_aloadn 0 dX11_behind_45 rfl ?_
  refine f_gr (x := 44) (k2 := 10) (i2 := 0) (j2 := 15) ⟨by decide, by decide⟩ rfl rfl (Nat.le_of_ble_eq_true rfl) wd_478 rfl rfl dX11_behind_46 ?_
  refine ab_aloadn 0 dX11_behind_49 rfl ?_
  refine fX_gi (x := 47) ⟨by decide, by decide⟩ rfl rfl (Nat.le_of_ble_eq_true rfl) wd_475 rfl dX11_behind_50 ?_
  refine ab_aloadn 0 dX11_behind_53 rfl ?_
  refine ab_ldc2 wd_491 dX11_behind_54 ?_
  refine fX_Vi (mtc := mt_X11_isWord) (As := [.long 6385252]) h (fun Q h => ct_X11_isWord 6385252 X2 h) ⟨by decide, by decide⟩ rfl rfl rfl mw_X11_isWord wd_372 rfl rfl ⟨Nat.le_of_ble_eq_true rfl, Nat.le_of_ble_eq_true rfl⟩ ⟨Nat.zero_le _, Nat.zero_le _⟩ (Nat.le_of_ble_eq_true rfl) rfl dX11_behind_57 (fun v3 X4 h => ?_)
  refine ab_if_eq (tgt := 68) dX11_behind_60 (by decide) (fun hc5 => ?_) (fun hc5 => ?_)
  · have h := sat_t hc5 h
    refine ab_bipush (v := 12) dX11_behind_68 (by decide) ?_
    exact t_X11_behind_70 N 12 (X2.1 0 47) X4 h
  · have h := sat_f hc5 h
    refine ab_bipush (v := 11) dX11_behind_63 (by decide) ?_
    refine ab_goto (tgt := 70) dX11_behind_65 (by decide) ?_
    exact t_X11_behind_70 N 11 (X2.1 0 47) X4 h
set_option maxRecDepth 8000 in
theorem t_X11_behind_24 {l : Launch} {G : GX} {C : CM} {Q : Int32 → Mem → Prop} (N : Nat) (X : XM) (h : SAT (f_X11_behind_24 N X) (fun v c => Q v (C, c))) : AB l G (rmD 3) 0 0 mt_X11_behind (ZQ G mt_X11_behind Q) 24 [(0, .ref (gA G 10 0 0))] [] (C, X) := by
  unfold f_X11_behind_24 at h
  refine ab_aloadn 0 dX11_behind_24 rfl ?_
  refine ab_aloadn 0 dX11_behind_25 rfl ?_
  refine ab_ldc2 wd_491 dX11_behind_26 ?_
  refine fX_Vi (mtc := mt_X11_isWord) (As := [.long 6385252]) h (fun Q h => ct_X11_isWord 6385252 X h) ⟨by decide, by decide⟩ rfl rfl rfl mw_X11_isWord wd_372 rfl rfl ⟨Nat.le_of_ble_eq_true rfl, Nat.le_of_ble_eq_true rfl⟩ ⟨Nat.zero_le _, Nat.zero_le _⟩ (Nat.le_of_ble_eq_true rfl) rfl dX11_behind_29 (fun v1 X2 h => ?_)
  refine ab_if_eq (tgt := 40) dX11_behind_32 (by decide) (fun hc3 => ?_) (fun hc3 => ?_)
  · have h := sat_t hc3 h
    refine ab_bipush (v := 12) dX11_behind_40 (by decide) ?_
    exact t_X11_behind_42 N 12 X2 h
  · have h := sat_f hc3 h
    refine ab_bipush (v := 11) dX11_behind_35 (by decide) ?_
    refine ab_goto (tgt := 42) dX11_behind_37 (by decide) ?_
    exact t_X11_behind_42 N 11 X2 h
set_option maxRecDepth 8000 in
theorem t_X11_behind_0 {l : Launch} {G : GX} {C : CM} {Q : Int32 → Mem → Prop} (N : Nat) (X : XM) (h : SAT (f_X11_behind N X) (fun v c => Q v (C, c))) : AB l G (rmD 3) 0 0 mt_X11_behind (ZQ G mt_X11_behind Q) 0 [(0, .ref (gA G 10 0 0))] [] (C, X) := by
  unfold f_X11_behind at h
  refine ab_aloadn 0 dX11_behind_0 rfl ?_
  refine fX_Vv (mtc := mt_X11_nots) (As := []) h (fun Q h => ct_X11_nots N X h) ⟨by decide, by decide⟩ rfl rfl rfl mw_X11_nots wd_480 rfl rfl ⟨Nat.le_of_ble_eq_true rfl, Nat.le_of_ble_eq_true rfl⟩ ⟨Nat.zero_le _, Nat.zero_le _⟩ (Nat.le_of_ble_eq_true rfl) rfl dX11_behind_1 (fun v1 X2 h => ?_)
  refine ab_aloadn 0 dX11_behind_4 rfl ?_
  refine ab_ldc2 wd_491 dX11_behind_5 ?_
  refine fX_Vi (mtc := mt_X11_isWord) (As := [.long 6385252]) h (fun Q h => ct_X11_isWord 6385252 X2 h) ⟨by decide, by decide⟩ rfl rfl rfl mw_X11_isWord wd_372 rfl rfl ⟨Nat.le_of_ble_eq_true rfl, Nat.le_of_ble_eq_true rfl⟩ ⟨Nat.zero_le _, Nat.zero_le _⟩ (Nat.le_of_ble_eq_true rfl) rfl dX11_behind_8 (fun v3 X4 h => ?_)
  refine ab_if_ne (tgt := 24) dX11_behind_11 (by decide) (fun hc5 => ?_) (fun hc5 => ?_)
  · have h := sat_f hc5 h
    exact t_X11_behind_24 N X4 h
  · have h := sat_t hc5 h
    refine ab_aloadn 0 dX11_behind_14 rfl ?_
    refine ab_ldc2 wd_492 dX11_behind_15 ?_
    refine fX_Vi (mtc := mt_X11_isWord) (As := [.long 28530]) h (fun Q h => ct_X11_isWord 28530 X4 h) ⟨by decide, by decide⟩ rfl rfl rfl mw_X11_isWord wd_372 rfl rfl ⟨Nat.le_of_ble_eq_true rfl, Nat.le_of_ble_eq_true rfl⟩ ⟨Nat.zero_le _, Nat.zero_le _⟩ (Nat.le_of_ble_eq_true rfl) rfl dX11_behind_18 (fun v6 X7 h => ?_)
    refine ab_if_eq (tgt := 92) dX11_behind_21 (by decide) (fun hc8 => ?_) (fun hc8 => ?_)
    · have h := sat_t hc8 h
      refine ab_aloadn 0 dX11_behind_92 rfl ?_
      refine ab_bipush (v := 12) dX11_behind_93 (by decide) ?_
      refine fX_Vv (mtc := mt_X11_joins) (As := [.int 12]) h (fun Q h => ct_X11_joins N 12 X7 h) ⟨by decide, by decide⟩ rfl rfl rfl mw_X11_joins wd_481 rfl rfl ⟨Nat.le_of_ble_eq_true rfl, Nat.le_of_ble_eq_true rfl⟩ ⟨Nat.zero_le _, Nat.zero_le _⟩ (Nat.le_of_ble_eq_true rfl) rfl dX11_behind_95 (fun v9 X10 h => ?_)
      refine ab_aloadn 0 dX11_behind_98 rfl ?_
      refine ab_bipush (v := 41) dX11_behind_99 (by decide) ?_
      refine fX_Vi (mtc := mt_X11_isSign) (As := [.int 41]) h (fun Q h => ct_X11_isSign 41 X10 h) ⟨by decide, by decide⟩ rfl rfl rfl mw_X11_isSign wd_404 rfl rfl ⟨Nat.le_of_ble_eq_true rfl, Nat.le_of_ble_eq_true rfl⟩ ⟨Nat.zero_le _, Nat.zero_le _⟩ (Nat.le_of_ble_eq_true rfl) rfl dX11_behind_101 (fun v11 X12 h => ?_)
      refine ab_if_eq (tgt := 114) dX11_behind_104 (by decide) (fun hc13 => ?_) (fun hc13 => ?_)
      · have h := sat_t hc13 h
        exact t_X11_behind_114 N X12 h
      · have h := sat_f hc13 h
        refine ab_aloadn 0 dX11_behind_107 rfl ?_
        refine fX_gi (x := 47) ⟨by decide, by decide⟩ rfl rfl (Nat.le_of_ble_eq_true rfl) wd_475 rfl dX11_behind_108 ?_
        refine ab_if_ne (tgt := 120) dX11_behind_111 (by decide) (fun hc14 => ?_) (fun hc14 => ?_)
        · have h := sat_f hc14 h
          refine ab_aloadn 0 dX11_behind_120 rfl ?_
          refine ab_dup dX11_behind_121 rfl ?_
          refine fX_gi (x := 47) ⟨by decide, by decide⟩ rfl rfl (Nat.le_of_ble_eq_true rfl) wd_475 rfl dX11_behind_122 ?_
          refine ab_iconst (v := 1) dX11_behind_125 (by decide) ?_
          refine ab_isub dX11_behind_126 ?_
          refine fX_pi (x := 47) (ty := .int) ⟨by decide, by decide⟩ rfl rfl (Nat.le_of_ble_eq_true rfl) wd_475 rfl h rfl (by decide +kernel) rfl rfl dX11_behind_127 (fun X15 h => ?_)
          refine ab_aloadn 0 dX11_behind_130 rfl ?_
          refine ab_dup dX11_behind_131 rfl ?_
          refine fX_gi (x := 48) ⟨by decide, by decide⟩ rfl rfl (Nat.le_of_ble_eq_true rfl) wd_476 rfl dX11_behind_132 ?_
          refine ab_iconst (v := 1) dX11_behind_135 (by decide) ?_
          refine ab_isub dX11_behind_136 ?_
          refine fX_pi (x := 48) (ty := .int) ⟨by decide, by decide⟩ rfl rfl (Nat.le_of_ble_eq_true rfl) wd_476 rfl h rfl (by decide +kernel) rfl rfl dX11_behind_137 (fun X16 h => ?_)
          refine ab_aloadn 0 dX11_behind_140 rfl ?_
          refine fX_Vv (mtc := mt_X11_next) (As := []) h (fun Q h => ct_X11_next N X16 h) ⟨by decide, by decide⟩ rfl rfl rfl mw_X11_next wd_369 rfl rfl ⟨Nat.le_of_ble_eq_true rfl, Nat.le_of_ble_eq_true rfl⟩ ⟨Nat.zero_le _, Nat.zero_le _⟩ (Nat.le_of_ble_eq_true rfl) rfl dX11_behind_141 (fun v17 X18 h => ?_)
          refine ab_iconst (v := 1) dX11_behind_144 (by decide) ?_
          exact fX_iret h rfl rfl dX11_behind_145
        · have h := sat_t hc14 h
          exact t_X11_behind_114 N X12 h
    · have h := sat_f hc8 h
      exact t_X11_behind_24 N X7 h
theorem ct_X11_behind {l : Launch} {G : GX} {C : CM} {Q : Int32 → Mem → Prop} (N : Nat) (X : XM) (h : SAT (f_X11_behind N X) (fun v c => Q v (C, c))) : CT l G 3 mt_X11_behind [.ref (gA G 10 0 0)] (C, X) Q := ct_of pn_X11 (Nat.le_of_ble_eq_true rfl) (t_X11_behind_0 N X h)
def f_X11_sentence_146 (N : Nat) : Nat → Int32 → XM → Option (Int32 × XM)
  | 0, _, _ => none
  | n + 1, a2, X => (if (3 * (X.1 0 45)) ≤ a2 then (rt (X.1 0 46) X) else ldA (X.1 4) 135 a2 (fun v2 => sxA X 2 845 (665 + a2) v2 (fun X3 => (f_X11_sentence_146 N n (a2 + 1) X3))))
def f_X11_sentence_125 (N : Nat) (X : XM) : Option (Int32 × XM) := (rt ((-1) - (X.1 0 16)) X)
def f_X11_sentence_101 (N : Nat) (k48 : Int32 → XM → Option (Int32 × XM)) (a1 : Int32) (X : XM) : Option (Int32 × XM) := (if (X.1 0 49) = 0 then cal (f_X11_operand N X) (fun v2 X3 => (if v2 = 0 then (f_X11_sentence_125 N X3) else (k48 a1 X3))) else cal (f_X11_behind N X) (fun v5 X6 => (if v5 = 0 then (f_X11_sentence_125 N X6) else (k48 a1 X6))))
def f_X11_sentence_48 (N : Nat) : Nat → Int32 → XM → Option (Int32 × XM)
  | 0, _, _ => none
  | n + 1, a1, X => (if a1 = 0 then sxA X 2 845 664 (X.1 0 45) (fun X2 => (f_X11_sentence_146 N N 0 X2)) else (if (X.1 0 49) = 0 then (f_X11_sentence_101 N (fun z1 c => f_X11_sentence_48 N n z1 c) a1 X) else (if (X.1 0 11) = 0 then cal (f_X11_nots N X) (fun v5 X6 => cal (f_X11_joins N 12 X6) (fun v7 X8 => (if (X8.1 0 47) ≤ 0 then (f_X11_sentence_48 N n 0 X8) else cal (f_X11_bad 1 X8) (fun v10 X11 => (rt ((-1) - (X11.1 0 16)) X11))))) else (f_X11_sentence_101 N (fun z1 c => f_X11_sentence_48 N n z1 c) a1 X))))
def f_X11_sentence (N : Nat) (X : XM) : Option (Int32 × XM) := bnd (stX X 0 0 0) (fun X1 => cal (f_X11_taken 200 X1) (fun v2 X3 => bnd (stX X3 0 15 0) (fun X4 => bnd (stX X4 0 45 0) (fun X5 => bnd (stX X5 0 46 0) (fun X6 => bnd (stX X6 0 47 0) (fun X7 => bnd (stX X7 0 48 1) (fun X8 => bnd (stX X8 0 49 0) (fun X9 => cal (f_X11_next N X9) (fun v10 X11 => (f_X11_sentence_48 N N 1 X11))))))))))
set_option maxRecDepth 8000 in
theorem t_X11_sentence_146 {l : Launch} {G : GX} {C : CM} {Q : Int32 → Mem → Prop} (N : Nat) : ∀ (n : Nat) (a2 : Int32) (X : XM), SAT (f_X11_sentence_146 N n a2 X) (fun v c => Q v (C, c)) → AB l G (rmD 4) 0 0 mt_X11_sentence (ZQ G mt_X11_sentence Q) 146 [(0, .ref (gA G 10 0 0)), (2, .int a2)] [] (C, X) := by
  intro n
  induction n with
  | zero => intro a2 X h; exact h.elim
  | succ n ih =>
    intro a2 X h
    rw [f_X11_sentence_146] at h
    refine ab_iloadn 1 dX11_sentence_146 rfl ?_
    refine ab_iconst (v := 3) dX11_sentence_147 (by decide) ?_
    refine ab_aloadn 0 dX11_sentence_148 rfl ?_
    refine fX_gi (x := 45) ⟨by decide, by decide⟩ rfl rfl (Nat.le_of_ble_eq_true rfl) wd_473 rfl dX11_sentence_149 ?_
    refine ab_imul dX11_sentence_152 ?_
    refine ab_icmp_ge (tgt := 178) dX11_sentence_153 (by decide) (fun hc1 => ?_) (fun hc1 => ?_)
    · have h := sat_t hc1 h
      refine ab_aloadn 0 dX11_sentence_178 rfl ?_
      refine fX_gi (x := 46) ⟨by decide, by decide⟩ rfl rfl (Nat.le_of_ble_eq_true rfl) wd_474 rfl dX11_sentence_179 ?_
      exact fX_iret h rfl rfl dX11_sentence_182
    · have h := sat_f hc1 h
      refine ab_aloadn 0 dX11_sentence_156 rfl ?_
      refine f_gr (x := 6) (k2 := 10) (i2 := 0) (j2 := 2) ⟨by decide, by decide⟩ rfl rfl (Nat.le_of_ble_eq_true rfl) wd_406 rfl rfl dX11_sentence_157 ?_
      refine ab_sipush (v := 665) dX11_sentence_160 (by decide) ?_
      refine ab_iloadn 1 dX11_sentence_163 rfl ?_
      refine ab_iadd dX11_sentence_164 ?_
      refine ab_aloadn 0 dX11_sentence_165 rfl ?_
      refine f_gr (x := 8) (k2 := 10) (i2 := 0) (j2 := 4) ⟨by decide, by decide⟩ rfl rfl (Nat.le_of_ble_eq_true rfl) wd_462 rfl rfl dX11_sentence_166 ?_
      refine ab_iloadn 1 dX11_sentence_169 rfl ?_
      refine fX_iald ⟨by decide, by decide⟩ rfl (fun _ => rfl) h dX11_sentence_170 (fun v2 h => ?_)
      refine fX_iast ⟨by decide, by decide⟩ rfl (fun _ => rfl) h dX11_sentence_171 (fun X3 h => ?_)
      refine ab_iinc (q := 1) (v := (a2 + 1)) (lv' := [(0, .ref (gA G 10 0 0)), (2, .int (a2 + 1))]) dX11_sentence_172 rfl rfl rfl (Nat.le_of_ble_eq_true rfl) rfl ?_
      refine ab_goto (tgt := 146) dX11_sentence_175 (by decide) ?_
      exact ih (a2 + 1) X3 h
set_option maxRecDepth 8000 in
theorem t_X11_sentence_125 {l : Launch} {G : GX} {C : CM} {Q : Int32 → Mem → Prop} (N : Nat) (X : XM) (h : SAT (f_X11_sentence_125 N X) (fun v c => Q v (C, c))) : AB l G (rmD 4) 0 0 mt_X11_sentence (ZQ G mt_X11_sentence Q) 125 [(0, .ref (gA G 10 0 0))] [] (C, X) := by
  unfold f_X11_sentence_125 at h
  refine ab_iconst (v := (-1)) dX11_sentence_125 (by decide) ?_
  refine ab_aloadn 0 dX11_sentence_126 rfl ?_
  refine fX_gi (x := 16) ⟨by decide, by decide⟩ rfl rfl (Nat.le_of_ble_eq_true rfl) wd_385 rfl dX11_sentence_127 ?_
  refine ab_isub dX11_sentence_130 ?_
  exact fX_iret h rfl rfl dX11_sentence_131
set_option maxRecDepth 8000 in
theorem t_X11_sentence_101 {l : Launch} {G : GX} {C : CM} {Q : Int32 → Mem → Prop} (N : Nat) (k48 : Int32 → XM → Option (Int32 × XM)) (a1 : Int32) (hk48 : ∀ (ac1 : Int32) (X : XM), SAT (k48 ac1 X) (fun v c => Q v (C, c)) → AB l G (rmD 4) 0 0 mt_X11_sentence (ZQ G mt_X11_sentence Q) 48 [(0, .ref (gA G 10 0 0)), (1, .int ac1)] [] (C, X)) (X : XM) (h : SAT (f_X11_sentence_101 N k48 a1 X) (fun v c => Q v (C, c))) : AB l G (rmD 4) 0 0 mt_X11_sentence (ZQ G mt_X11_sentence Q) 101 [(0, .ref (gA G 10 0 0)), (1, .int a1)] [] (C, X) := by
  unfold f_X11_sentence_101 at h
  refine ab_aloadn 0 dX11_sentence_101 rfl ?_
  refine fX_gi (x := 49) ⟨by decide, by decide⟩ rfl rfl (Nat.le_of_ble_eq_true rfl) wd_477 rfl dX11_sentence_102 ?_
  refine ab_if_eq (tgt := 118) dX11_sentence_105 (by decide) (fun hc1 => ?_) (fun hc1 => ?_)
  · have h := sat_t hc1 h
    refine ab_aloadn 0 dX11_sentence_118 rfl ?_
    refine fX_Vi (mtc := mt_X11_operand) (As := []) h (fun Q h => ct_X11_operand N X h) ⟨by decide, by decide⟩ rfl rfl rfl mw_X11_operand wd_490 rfl rfl ⟨Nat.le_of_ble_eq_true rfl, Nat.le_of_ble_eq_true rfl⟩ ⟨Nat.zero_le _, Nat.zero_le _⟩ (Nat.le_of_ble_eq_true rfl) rfl dX11_sentence_119 (fun v2 X3 h => ?_)
    refine ab_if_ne (tgt := 48) dX11_sentence_122 (by decide) (fun hc4 => ?_) (fun hc4 => ?_)
    · have h := sat_f hc4 h
      exact hk48 a1 X3 h
    · have h := sat_t hc4 h
      refine ab_sub [0] rfl ?_
      exact t_X11_sentence_125 N X3 h
  · have h := sat_f hc1 h
    refine ab_aloadn 0 dX11_sentence_108 rfl ?_
    refine fX_Vi (mtc := mt_X11_behind) (As := []) h (fun Q h => ct_X11_behind N X h) ⟨by decide, by decide⟩ rfl rfl rfl mw_X11_behind wd_493 rfl rfl ⟨Nat.le_of_ble_eq_true rfl, Nat.le_of_ble_eq_true rfl⟩ ⟨Nat.zero_le _, Nat.zero_le _⟩ (Nat.le_of_ble_eq_true rfl) rfl dX11_sentence_109 (fun v5 X6 h => ?_)
    refine ab_if_ne (tgt := 48) dX11_sentence_112 (by decide) (fun hc7 => ?_) (fun hc7 => ?_)
    · have h := sat_f hc7 h
      exact hk48 a1 X6 h
    · have h := sat_t hc7 h
      refine ab_goto (tgt := 125) dX11_sentence_115 (by decide) ?_
      refine ab_sub [0] rfl ?_
      exact t_X11_sentence_125 N X6 h
set_option maxRecDepth 8000 in
theorem t_X11_sentence_48 {l : Launch} {G : GX} {C : CM} {Q : Int32 → Mem → Prop} (N : Nat) : ∀ (n : Nat) (a1 : Int32) (X : XM), SAT (f_X11_sentence_48 N n a1 X) (fun v c => Q v (C, c)) → AB l G (rmD 4) 0 0 mt_X11_sentence (ZQ G mt_X11_sentence Q) 48 [(0, .ref (gA G 10 0 0)), (1, .int a1)] [] (C, X) := by
  intro n
  induction n with
  | zero => intro a1 X h; exact h.elim
  | succ n ih =>
    intro a1 X h
    rw [f_X11_sentence_48] at h
    refine ab_iloadn 1 dX11_sentence_48 rfl ?_
    refine ab_if_eq (tgt := 132) dX11_sentence_49 (by decide) (fun hc1 => ?_) (fun hc1 => ?_)
    · have h := sat_t hc1 h
      refine ab_aloadn 0 dX11_sentence_132 rfl ?_
      refine f_gr (x := 6) (k2 := 10) (i2 := 0) (j2 := 2) ⟨by decide, by decide⟩ rfl rfl (Nat.le_of_ble_eq_true rfl) wd_406 rfl rfl dX11_sentence_133 ?_
      refine ab_sipush (v := 664) dX11_sentence_136 (by decide) ?_
      refine ab_aloadn 0 dX11_sentence_139 rfl ?_
      refine fX_gi (x := 45) ⟨by decide, by decide⟩ rfl rfl (Nat.le_of_ble_eq_true rfl) wd_473 rfl dX11_sentence_140 ?_
      refine fX_iast ⟨by decide, by decide⟩ rfl (fun _ => rfl) h dX11_sentence_143 (fun X2 h => ?_)
      refine ab_iconst (v := 0) dX11_sentence_144 (by decide) ?_
      refine ab_istoren (lv' := [(0, .ref (gA G 10 0 0)), (1, .int a1), (2, .int 0)]) dX11_sentence_145 rfl (Nat.le_of_ble_eq_true rfl) rfl ?_
      refine ab_sub [0, 2] rfl ?_
      exact t_X11_sentence_146 N N 0 X2 h
    · have h := sat_f hc1 h
      refine ab_aloadn 0 dX11_sentence_52 rfl ?_
      refine fX_gi (x := 49) ⟨by decide, by decide⟩ rfl rfl (Nat.le_of_ble_eq_true rfl) wd_477 rfl dX11_sentence_53 ?_
      refine ab_if_eq (tgt := 101) dX11_sentence_56 (by decide) (fun hc3 => ?_) (fun hc3 => ?_)
      · have h := sat_t hc3 h
        exact t_X11_sentence_101 N (fun z1 c => f_X11_sentence_48 N n z1 c) a1 ih X h
      · have h := sat_f hc3 h
        refine ab_aloadn 0 dX11_sentence_59 rfl ?_
        refine fX_gi (x := 11) ⟨by decide, by decide⟩ rfl rfl (Nat.le_of_ble_eq_true rfl) wd_362 rfl dX11_sentence_60 ?_
        refine ab_if_ne (tgt := 101) dX11_sentence_63 (by decide) (fun hc4 => ?_) (fun hc4 => ?_)
        · have h := sat_f hc4 h
          exact t_X11_sentence_101 N (fun z1 c => f_X11_sentence_48 N n z1 c) a1 ih X h
        · have h := sat_t hc4 h
          refine ab_aloadn 0 dX11_sentence_66 rfl ?_
          refine fX_Vv (mtc := mt_X11_nots) (As := []) h (fun Q h => ct_X11_nots N X h) ⟨by decide, by decide⟩ rfl rfl rfl mw_X11_nots wd_480 rfl rfl ⟨Nat.le_of_ble_eq_true rfl, Nat.le_of_ble_eq_true rfl⟩ ⟨Nat.zero_le _, Nat.zero_le _⟩ (Nat.le_of_ble_eq_true rfl) rfl dX11_sentence_67 (fun v5 X6 h => ?_)
          refine ab_aloadn 0 dX11_sentence_70 rfl ?_
          refine ab_bipush (v := 12) dX11_sentence_71 (by decide) ?_
          refine fX_Vv (mtc := mt_X11_joins) (As := [.int 12]) h (fun Q h => ct_X11_joins N 12 X6 h) ⟨by decide, by decide⟩ rfl rfl rfl mw_X11_joins wd_481 rfl rfl ⟨Nat.le_of_ble_eq_true rfl, Nat.le_of_ble_eq_true rfl⟩ ⟨Nat.zero_le _, Nat.zero_le _⟩ (Nat.le_of_ble_eq_true rfl) rfl dX11_sentence_73 (fun v7 X8 h => ?_)
          refine ab_aloadn 0 dX11_sentence_76 rfl ?_
          refine fX_gi (x := 47) ⟨by decide, by decide⟩ rfl rfl (Nat.le_of_ble_eq_true rfl) wd_475 rfl dX11_sentence_77 ?_
          refine ab_if_le (tgt := 96) dX11_sentence_80 (by decide) (fun hc9 => ?_) (fun hc9 => ?_)
          · have h := sat_t hc9 h
            refine ab_iconst (v := 0) dX11_sentence_96 (by decide) ?_
            refine ab_istoren (lv' := [(0, .ref (gA G 10 0 0)), (1, .int 0)]) dX11_sentence_97 rfl (Nat.le_of_ble_eq_true rfl) rfl ?_
            refine ab_goto (tgt := 48) dX11_sentence_98 (by decide) ?_
            exact ih 0 X8 h
          · have h := sat_f hc9 h
            refine ab_aloadn 0 dX11_sentence_83 rfl ?_
            refine ab_iconst (v := 1) dX11_sentence_84 (by decide) ?_
            refine fX_Vi (mtc := mt_X11_bad) (As := [.int 1]) h (fun Q h => ct_X11_bad 1 X8 h) ⟨by decide, by decide⟩ rfl rfl rfl mw_X11_bad wd_386 rfl rfl ⟨Nat.le_of_ble_eq_true rfl, Nat.le_of_ble_eq_true rfl⟩ ⟨Nat.zero_le _, Nat.zero_le _⟩ (Nat.le_of_ble_eq_true rfl) rfl dX11_sentence_85 (fun v10 X11 h => ?_)
            refine ab_pop dX11_sentence_88 rfl ?_
            refine ab_iconst (v := (-1)) dX11_sentence_89 (by decide) ?_
            refine ab_aloadn 0 dX11_sentence_90 rfl ?_
            refine fX_gi (x := 16) ⟨by decide, by decide⟩ rfl rfl (Nat.le_of_ble_eq_true rfl) wd_385 rfl dX11_sentence_91 ?_
            refine ab_isub dX11_sentence_94 ?_
            exact fX_iret h rfl rfl dX11_sentence_95
set_option maxRecDepth 8000 in
theorem t_X11_sentence_0 {l : Launch} {G : GX} {C : CM} {Q : Int32 → Mem → Prop} (N : Nat) (X : XM) (h : SAT (f_X11_sentence N X) (fun v c => Q v (C, c))) : AB l G (rmD 4) 0 0 mt_X11_sentence (ZQ G mt_X11_sentence Q) 0 [(0, .ref (gA G 10 0 0))] [] (C, X) := by
  unfold f_X11_sentence at h
  refine ab_aloadn 0 dX11_sentence_0 rfl ?_
  refine ab_iconst (v := 0) dX11_sentence_1 (by decide) ?_
  refine fX_pi (x := 0) (ty := .int) ⟨by decide, by decide⟩ rfl rfl (Nat.le_of_ble_eq_true rfl) wd_344 rfl h rfl (by decide +kernel) rfl rfl dX11_sentence_2 (fun X1 h => ?_)
  refine ab_aloadn 0 dX11_sentence_5 rfl ?_
  refine ab_sipush (v := 200) dX11_sentence_6 (by decide) ?_
  refine fX_Vv (mtc := mt_X11_taken) (As := [.int 200]) h (fun Q h => ct_X11_taken 200 X1 h) ⟨by decide, by decide⟩ rfl rfl rfl mw_X11_taken wd_351 rfl rfl ⟨Nat.le_of_ble_eq_true rfl, Nat.le_of_ble_eq_true rfl⟩ ⟨Nat.zero_le _, Nat.zero_le _⟩ (Nat.le_of_ble_eq_true rfl) rfl dX11_sentence_9 (fun v2 X3 h => ?_)
  refine ab_aloadn 0 dX11_sentence_12 rfl ?_
  refine ab_iconst (v := 0) dX11_sentence_13 (by decide) ?_
  refine fX_pi (x := 15) (ty := .int) ⟨by decide, by decide⟩ rfl rfl (Nat.le_of_ble_eq_true rfl) wd_352 rfl h rfl (by decide +kernel) rfl rfl dX11_sentence_14 (fun X4 h => ?_)
  refine ab_aloadn 0 dX11_sentence_17 rfl ?_
  refine ab_iconst (v := 0) dX11_sentence_18 (by decide) ?_
  refine fX_pi (x := 45) (ty := .int) ⟨by decide, by decide⟩ rfl rfl (Nat.le_of_ble_eq_true rfl) wd_473 rfl h rfl (by decide +kernel) rfl rfl dX11_sentence_19 (fun X5 h => ?_)
  refine ab_aloadn 0 dX11_sentence_22 rfl ?_
  refine ab_iconst (v := 0) dX11_sentence_23 (by decide) ?_
  refine fX_pi (x := 46) (ty := .int) ⟨by decide, by decide⟩ rfl rfl (Nat.le_of_ble_eq_true rfl) wd_474 rfl h rfl (by decide +kernel) rfl rfl dX11_sentence_24 (fun X6 h => ?_)
  refine ab_aloadn 0 dX11_sentence_27 rfl ?_
  refine ab_iconst (v := 0) dX11_sentence_28 (by decide) ?_
  refine fX_pi (x := 47) (ty := .int) ⟨by decide, by decide⟩ rfl rfl (Nat.le_of_ble_eq_true rfl) wd_475 rfl h rfl (by decide +kernel) rfl rfl dX11_sentence_29 (fun X7 h => ?_)
  refine ab_aloadn 0 dX11_sentence_32 rfl ?_
  refine ab_iconst (v := 1) dX11_sentence_33 (by decide) ?_
  refine fX_pi (x := 48) (ty := .int) ⟨by decide, by decide⟩ rfl rfl (Nat.le_of_ble_eq_true rfl) wd_476 rfl h rfl (by decide +kernel) rfl rfl dX11_sentence_34 (fun X8 h => ?_)
  refine ab_aloadn 0 dX11_sentence_37 rfl ?_
  refine ab_iconst (v := 0) dX11_sentence_38 (by decide) ?_
  refine fX_pi (x := 49) (ty := .boolean) ⟨by decide, by decide⟩ rfl rfl (Nat.le_of_ble_eq_true rfl) wd_477 rfl h rfl (by decide +kernel) rfl rfl dX11_sentence_39 (fun X9 h => ?_)
  refine ab_aloadn 0 dX11_sentence_42 rfl ?_
  refine fX_Vv (mtc := mt_X11_next) (As := []) h (fun Q h => ct_X11_next N X9 h) ⟨by decide, by decide⟩ rfl rfl rfl mw_X11_next wd_369 rfl rfl ⟨Nat.le_of_ble_eq_true rfl, Nat.le_of_ble_eq_true rfl⟩ ⟨Nat.zero_le _, Nat.zero_le _⟩ (Nat.le_of_ble_eq_true rfl) rfl dX11_sentence_43 (fun v10 X11 h => ?_)
  refine ab_iconst (v := 1) dX11_sentence_46 (by decide) ?_
  refine ab_istoren (lv' := [(0, .ref (gA G 10 0 0)), (1, .int 1)]) dX11_sentence_47 rfl (Nat.le_of_ble_eq_true rfl) rfl ?_
  exact t_X11_sentence_48 N N 1 X11 h
theorem ct_X11_sentence {l : Launch} {G : GX} {C : CM} {Q : Int32 → Mem → Prop} (N : Nat) (X : XM) (h : SAT (f_X11_sentence N X) (fun v c => Q v (C, c))) : CT l G 4 mt_X11_sentence [.ref (gA G 10 0 0)] (C, X) Q := ct_of pn_X11 (Nat.le_of_ble_eq_true rfl) (t_X11_sentence_0 N X h)
def f_X11_isLeaf_106 (a3 : Int32) (a4 : Int32) (as0 : Int32) (X : XM) : Option (Int32 × XM) := (if a3 = 60 then (if a4 ≤ as0 then (rt 0 X) else (rt 1 X)) else (if a3 = 61 then (if as0 = a4 then (rt 1 X) else (rt 0 X)) else (if as0 ≤ a4 then (rt 0 X) else (rt 1 X))))
def f_X11_isLeaf (a1 : Int32) (a2 : Int32) (a3 : Int32) (a4 : Int32) (X : XM) : Option (Int32 × XM) := (if a2 = 0 then ldA (X.1 2) 845 541 (fun v10 => ldA (X.1 2) 845 (397 + a1) (fun v11 => (if v10 = (v11 + 1) then (rt 1 X) else (rt 0 X)))) else (if a2 = 1 then ldA (X.1 2) 845 (373 + a1) (fun v9 => (f_X11_isLeaf_106 a3 a4 v9 X)) else (if a2 = 2 then ldA (X.1 2) 845 (381 + a1) (fun v8 => (f_X11_isLeaf_106 a3 a4 v8 X)) else (if a2 = 3 then ldA (X.1 2) 845 (389 + a1) (fun v7 => (f_X11_isLeaf_106 a3 a4 v7 X)) else (if a2 = 4 then ldA (X.1 2) 845 (397 + a1) (fun v6 => (f_X11_isLeaf_106 a3 a4 v6 X)) else (f_X11_isLeaf_106 a3 a4 a1 X))))))
set_option maxRecDepth 8000 in
theorem t_X11_isLeaf_106 {l : Launch} {G : GX} {C : CM} {Q : Int32 → Mem → Prop} (a3 : Int32) (a4 : Int32) (as0 : Int32) (X : XM) (h : SAT (f_X11_isLeaf_106 a3 a4 as0 X) (fun v c => Q v (C, c))) : AB l G (rmD 1) 0 0 mt_X11_isLeaf (ZQ G mt_X11_isLeaf Q) 106 [(3, .int a3), (4, .int a4)] [.int as0] (C, X) := by
  unfold f_X11_isLeaf_106 at h
  refine ab_istore (lv' := [(3, .int a3), (4, .int a4), (5, .int as0)]) dX11_isLeaf_106 rfl (Nat.le_of_ble_eq_true rfl) rfl ?_
  refine ab_iloadn 0 dX11_isLeaf_108 rfl ?_
  refine ab_bipush (v := 60) dX11_isLeaf_109 (by decide) ?_
  refine ab_icmp_ne (tgt := 129) dX11_isLeaf_111 (by decide) (fun hc1 => ?_) (fun hc1 => ?_)
  · have h := sat_f hc1 h
    refine ab_iloadn 0 dX11_isLeaf_129 rfl ?_
    refine ab_bipush (v := 61) dX11_isLeaf_130 (by decide) ?_
    refine ab_icmp_ne (tgt := 150) dX11_isLeaf_132 (by decide) (fun hc2 => ?_) (fun hc2 => ?_)
    · have h := sat_f hc2 h
      refine ab_iload 2 dX11_isLeaf_150 rfl ?_
      refine ab_iload 1 dX11_isLeaf_152 rfl ?_
      refine ab_icmp_le (tgt := 161) dX11_isLeaf_154 (by decide) (fun hc3 => ?_) (fun hc3 => ?_)
      · have h := sat_t hc3 h
        refine ab_iconst (v := 0) dX11_isLeaf_161 (by decide) ?_
        exact fX_iret h rfl rfl dX11_isLeaf_162
      · have h := sat_f hc3 h
        refine ab_iconst (v := 1) dX11_isLeaf_157 (by decide) ?_
        refine ab_goto (tgt := 162) dX11_isLeaf_158 (by decide) ?_
        exact fX_iret h rfl rfl dX11_isLeaf_162
    · have h := sat_t hc2 h
      refine ab_iload 2 dX11_isLeaf_135 rfl ?_
      refine ab_iload 1 dX11_isLeaf_137 rfl ?_
      refine ab_icmp_ne (tgt := 146) dX11_isLeaf_139 (by decide) (fun hc4 => ?_) (fun hc4 => ?_)
      · have h := sat_f hc4 h
        refine ab_iconst (v := 0) dX11_isLeaf_146 (by decide) ?_
        refine ab_goto (tgt := 162) dX11_isLeaf_147 (by decide) ?_
        exact fX_iret h rfl rfl dX11_isLeaf_162
      · have h := sat_t hc4 h
        refine ab_iconst (v := 1) dX11_isLeaf_142 (by decide) ?_
        refine ab_goto (tgt := 162) dX11_isLeaf_143 (by decide) ?_
        exact fX_iret h rfl rfl dX11_isLeaf_162
  · have h := sat_t hc1 h
    refine ab_iload 2 dX11_isLeaf_114 rfl ?_
    refine ab_iload 1 dX11_isLeaf_116 rfl ?_
    refine ab_icmp_ge (tgt := 125) dX11_isLeaf_118 (by decide) (fun hc5 => ?_) (fun hc5 => ?_)
    · have h := sat_t hc5 h
      refine ab_iconst (v := 0) dX11_isLeaf_125 (by decide) ?_
      refine ab_goto (tgt := 162) dX11_isLeaf_126 (by decide) ?_
      exact fX_iret h rfl rfl dX11_isLeaf_162
    · have h := sat_f hc5 h
      refine ab_iconst (v := 1) dX11_isLeaf_121 (by decide) ?_
      refine ab_goto (tgt := 162) dX11_isLeaf_122 (by decide) ?_
      exact fX_iret h rfl rfl dX11_isLeaf_162
set_option maxRecDepth 8000 in
theorem t_X11_isLeaf_0 {l : Launch} {G : GX} {C : CM} {Q : Int32 → Mem → Prop} (a1 : Int32) (a2 : Int32) (a3 : Int32) (a4 : Int32) (X : XM) (h : SAT (f_X11_isLeaf a1 a2 a3 a4 X) (fun v c => Q v (C, c))) : AB l G (rmD 1) 0 0 mt_X11_isLeaf (ZQ G mt_X11_isLeaf Q) 0 [(0, .ref (gA G 10 0 0)), (1, .int a1), (2, .int a2), (3, .int a3), (4, .int a4)] [] (C, X) := by
  unfold f_X11_isLeaf at h
  refine ab_iloadn 2 dX11_isLeaf_0 rfl ?_
  refine ab_if_ne (tgt := 33) dX11_isLeaf_1 (by decide) (fun hc1 => ?_) (fun hc1 => ?_)
  · have h := sat_f hc1 h
    refine ab_iloadn 2 dX11_isLeaf_33 rfl ?_
    refine ab_iconst (v := 1) dX11_isLeaf_34 (by decide) ?_
    refine ab_icmp_ne (tgt := 51) dX11_isLeaf_35 (by decide) (fun hc2 => ?_) (fun hc2 => ?_)
    · have h := sat_f hc2 h
      refine ab_iloadn 2 dX11_isLeaf_51 rfl ?_
      refine ab_iconst (v := 2) dX11_isLeaf_52 (by decide) ?_
      refine ab_icmp_ne (tgt := 69) dX11_isLeaf_53 (by decide) (fun hc3 => ?_) (fun hc3 => ?_)
      · have h := sat_f hc3 h
        refine ab_iloadn 2 dX11_isLeaf_69 rfl ?_
        refine ab_iconst (v := 3) dX11_isLeaf_70 (by decide) ?_
        refine ab_icmp_ne (tgt := 87) dX11_isLeaf_71 (by decide) (fun hc4 => ?_) (fun hc4 => ?_)
        · have h := sat_f hc4 h
          refine ab_iloadn 2 dX11_isLeaf_87 rfl ?_
          refine ab_iconst (v := 4) dX11_isLeaf_88 (by decide) ?_
          refine ab_icmp_ne (tgt := 105) dX11_isLeaf_89 (by decide) (fun hc5 => ?_) (fun hc5 => ?_)
          · have h := sat_f hc5 h
            refine ab_iloadn 1 dX11_isLeaf_105 rfl ?_
            refine ab_sub [3, 4] rfl ?_
            exact t_X11_isLeaf_106 a3 a4 a1 X h
          · have h := sat_t hc5 h
            refine ab_aloadn 0 dX11_isLeaf_92 rfl ?_
            refine f_gr (x := 6) (k2 := 10) (i2 := 0) (j2 := 2) ⟨by decide, by decide⟩ rfl rfl (Nat.le_of_ble_eq_true rfl) wd_406 rfl rfl dX11_isLeaf_93 ?_
            refine ab_sipush (v := 397) dX11_isLeaf_96 (by decide) ?_
            refine ab_iloadn 1 dX11_isLeaf_99 rfl ?_
            refine ab_iadd dX11_isLeaf_100 ?_
            refine fX_iald ⟨by decide, by decide⟩ rfl (fun _ => rfl) h dX11_isLeaf_101 (fun v6 h => ?_)
            refine ab_goto (tgt := 106) dX11_isLeaf_102 (by decide) ?_
            refine ab_sub [3, 4] rfl ?_
            exact t_X11_isLeaf_106 a3 a4 v6 X h
        · have h := sat_t hc4 h
          refine ab_aloadn 0 dX11_isLeaf_74 rfl ?_
          refine f_gr (x := 6) (k2 := 10) (i2 := 0) (j2 := 2) ⟨by decide, by decide⟩ rfl rfl (Nat.le_of_ble_eq_true rfl) wd_406 rfl rfl dX11_isLeaf_75 ?_
          refine ab_sipush (v := 389) dX11_isLeaf_78 (by decide) ?_
          refine ab_iloadn 1 dX11_isLeaf_81 rfl ?_
          refine ab_iadd dX11_isLeaf_82 ?_
          refine fX_iald ⟨by decide, by decide⟩ rfl (fun _ => rfl) h dX11_isLeaf_83 (fun v7 h => ?_)
          refine ab_goto (tgt := 106) dX11_isLeaf_84 (by decide) ?_
          refine ab_sub [3, 4] rfl ?_
          exact t_X11_isLeaf_106 a3 a4 v7 X h
      · have h := sat_t hc3 h
        refine ab_aloadn 0 dX11_isLeaf_56 rfl ?_
        refine f_gr (x := 6) (k2 := 10) (i2 := 0) (j2 := 2) ⟨by decide, by decide⟩ rfl rfl (Nat.le_of_ble_eq_true rfl) wd_406 rfl rfl dX11_isLeaf_57 ?_
        refine ab_sipush (v := 381) dX11_isLeaf_60 (by decide) ?_
        refine ab_iloadn 1 dX11_isLeaf_63 rfl ?_
        refine ab_iadd dX11_isLeaf_64 ?_
        refine fX_iald ⟨by decide, by decide⟩ rfl (fun _ => rfl) h dX11_isLeaf_65 (fun v8 h => ?_)
        refine ab_goto (tgt := 106) dX11_isLeaf_66 (by decide) ?_
        refine ab_sub [3, 4] rfl ?_
        exact t_X11_isLeaf_106 a3 a4 v8 X h
    · have h := sat_t hc2 h
      refine ab_aloadn 0 dX11_isLeaf_38 rfl ?_
      refine f_gr (x := 6) (k2 := 10) (i2 := 0) (j2 := 2) ⟨by decide, by decide⟩ rfl rfl (Nat.le_of_ble_eq_true rfl) wd_406 rfl rfl dX11_isLeaf_39 ?_
      refine ab_sipush (v := 373) dX11_isLeaf_42 (by decide) ?_
      refine ab_iloadn 1 dX11_isLeaf_45 rfl ?_
      refine ab_iadd dX11_isLeaf_46 ?_
      refine fX_iald ⟨by decide, by decide⟩ rfl (fun _ => rfl) h dX11_isLeaf_47 (fun v9 h => ?_)
      refine ab_goto (tgt := 106) dX11_isLeaf_48 (by decide) ?_
      refine ab_sub [3, 4] rfl ?_
      exact t_X11_isLeaf_106 a3 a4 v9 X h
  · have h := sat_t hc1 h
    refine ab_aloadn 0 dX11_isLeaf_4 rfl ?_
    refine f_gr (x := 6) (k2 := 10) (i2 := 0) (j2 := 2) ⟨by decide, by decide⟩ rfl rfl (Nat.le_of_ble_eq_true rfl) wd_406 rfl rfl dX11_isLeaf_5 ?_
    refine ab_sipush (v := 541) dX11_isLeaf_8 (by decide) ?_
    refine fX_iald ⟨by decide, by decide⟩ rfl (fun _ => rfl) h dX11_isLeaf_11 (fun v10 h => ?_)
    refine ab_aloadn 0 dX11_isLeaf_12 rfl ?_
    refine f_gr (x := 6) (k2 := 10) (i2 := 0) (j2 := 2) ⟨by decide, by decide⟩ rfl rfl (Nat.le_of_ble_eq_true rfl) wd_406 rfl rfl dX11_isLeaf_13 ?_
    refine ab_sipush (v := 397) dX11_isLeaf_16 (by decide) ?_
    refine ab_iloadn 1 dX11_isLeaf_19 rfl ?_
    refine ab_iadd dX11_isLeaf_20 ?_
    refine fX_iald ⟨by decide, by decide⟩ rfl (fun _ => rfl) h dX11_isLeaf_21 (fun v11 h => ?_)
    refine ab_iconst (v := 1) dX11_isLeaf_22 (by decide) ?_
    refine ab_iadd dX11_isLeaf_23 ?_
    refine ab_icmp_ne (tgt := 31) dX11_isLeaf_24 (by decide) (fun hc12 => ?_) (fun hc12 => ?_)
    · have h := sat_f hc12 h
      refine ab_iconst (v := 0) dX11_isLeaf_31 (by decide) ?_
      exact fX_iret h rfl rfl dX11_isLeaf_32
    · have h := sat_t hc12 h
      refine ab_iconst (v := 1) dX11_isLeaf_27 (by decide) ?_
      refine ab_goto (tgt := 32) dX11_isLeaf_28 (by decide) ?_
      exact fX_iret h rfl rfl dX11_isLeaf_32
theorem ct_X11_isLeaf {l : Launch} {G : GX} {C : CM} {Q : Int32 → Mem → Prop} (a1 : Int32) (a2 : Int32) (a3 : Int32) (a4 : Int32) (X : XM) (h : SAT (f_X11_isLeaf a1 a2 a3 a4 X) (fun v c => Q v (C, c))) : CT l G 1 mt_X11_isLeaf [.ref (gA G 10 0 0), .int a1, .int a2, .int a3, .int a4] (C, X) Q := ct_of pn_X11 (Nat.le_of_ble_eq_true rfl) (t_X11_isLeaf_0 a1 a2 a3 a4 X h)
def f_X11_isSaid_163 (N : Nat) (k4 : Int32 → Int32 → XM → Option (Int32 × XM)) (a1 : Int32) (a2 : Int32) (a3 : Int32) (as0 : Int32) (as1 : Int32) (X : XM) : Option (Int32 × XM) := sxA X 16 45 as1 (nrZ as0) (fun X1 => (k4 a2 (a3 + 1) X1))
def f_X11_isSaid_158 (N : Nat) (k4 : Int32 → Int32 → XM → Option (Int32 × XM)) (a1 : Int32) (a2 : Int32) (a3 : Int32) (as0 : Int32) (X : XM) : Option (Int32 × XM) := (f_X11_isSaid_163 N k4 a1 a2 a3 1 as0 X)
def f_X11_isSaid_134 (N : Nat) (k4 : Int32 → Int32 → XM → Option (Int32 × XM)) (a1 : Int32) (a2 : Int32) (a3 : Int32) (as0 : Int32) (X : XM) : Option (Int32 × XM) := (f_X11_isSaid_163 N k4 a1 a2 a3 0 as0 X)
def f_X11_isSaid_88 (N : Nat) (k4 : Int32 → Int32 → XM → Option (Int32 × XM)) (a1 : Int32) (a2 : Int32) (a3 : Int32) (a4 : Int32) (X : XM) : Option (Int32 × XM) := ldA (X.1 2) 845 a4 (fun v1 => (if v1 = 11 then ldA (X.1 16) 45 ((a2 - 1) - 1) (fun v7 => (if v7 = 0 then (f_X11_isSaid_134 N k4 a1 (a2 - 1) a3 ((a2 - 1) - 1) X) else ldA (X.1 16) 45 (a2 - 1) (fun v9 => (if v9 = 0 then (f_X11_isSaid_134 N k4 a1 (a2 - 1) a3 ((a2 - 1) - 1) X) else (f_X11_isSaid_163 N k4 a1 (a2 - 1) a3 1 ((a2 - 1) - 1) X))))) else ldA (X.1 16) 45 ((a2 - 1) - 1) (fun v3 => (if v3 = 0 then ldA (X.1 16) 45 (a2 - 1) (fun v5 => (if v5 = 0 then (f_X11_isSaid_163 N k4 a1 (a2 - 1) a3 0 ((a2 - 1) - 1) X) else (f_X11_isSaid_158 N k4 a1 (a2 - 1) a3 ((a2 - 1) - 1) X))) else (f_X11_isSaid_158 N k4 a1 (a2 - 1) a3 ((a2 - 1) - 1) X)))))
def f_X11_isSaid_60 (N : Nat) (k4 : Int32 → Int32 → XM → Option (Int32 × XM)) (a1 : Int32) (a2 : Int32) (a3 : Int32) (as0 : Int32) (as1 : Int32) (X : XM) : Option (Int32 × XM) := sxA X 16 45 as1 (nrZ as0) (fun X1 => (k4 a2 (a3 + 1) X1))
def f_X11_isSaid_4 (N : Nat) (a1 : Int32) : Nat → Int32 → Int32 → XM → Option (Int32 × XM)
  | 0, _, _, _ => none
  | n + 1, a2, a3, X => ldA (X.1 2) 845 664 (fun v1 => (if v1 ≤ a3 then ldA (X.1 16) 45 0 (fun v3 => (chk (isB v3) (rt v3 X))) else ldA (X.1 2) 845 (665 + (3 * a3)) (fun v4 => (if v4 = 10 then ldA (X.1 16) 45 (a2 - 1) (fun v16 => (if v16 = 0 then (f_X11_isSaid_60 N (fun z2 z3 c => f_X11_isSaid_4 N a1 n z2 z3 c) a1 a2 a3 1 (a2 - 1) X) else (f_X11_isSaid_60 N (fun z2 z3 c => f_X11_isSaid_4 N a1 n z2 z3 c) a1 a2 a3 0 (a2 - 1) X))) else ldA (X.1 2) 845 (665 + (3 * a3)) (fun v6 => (if v6 = 11 then (f_X11_isSaid_88 N (fun z2 z3 c => f_X11_isSaid_4 N a1 n z2 z3 c) a1 a2 a3 (665 + (3 * a3)) X) else ldA (X.1 2) 845 (665 + (3 * a3)) (fun v8 => (if v8 = 12 then (f_X11_isSaid_88 N (fun z2 z3 c => f_X11_isSaid_4 N a1 n z2 z3 c) a1 a2 a3 (665 + (3 * a3)) X) else ldA (X.1 2) 845 (665 + (3 * a3)) (fun v10 => ldA (X.1 2) 845 ((665 + (3 * a3)) + 1) (fun v11 => ldA (X.1 2) 845 ((665 + (3 * a3)) + 2) (fun v12 => cal (f_X11_isLeaf a1 v10 v11 v12 X) (fun v13 X14 => sxA X14 16 45 a2 (nrZ v13) (fun X15 => (f_X11_isSaid_4 N a1 n (a2 + 1) (a3 + 1) X15))))))))))))))
def f_X11_isSaid (N : Nat) (a1 : Int32) (X : XM) : Option (Int32 × XM) := (f_X11_isSaid_4 N a1 N 0 0 X)
set_option maxRecDepth 8000 in
theorem t_X11_isSaid_163 {l : Launch} {G : GX} {C : CM} {Q : Int32 → Mem → Prop} (N : Nat) (k4 : Int32 → Int32 → XM → Option (Int32 × XM)) (a1 : Int32) (a2 : Int32) (a3 : Int32) (as0 : Int32) (as1 : Int32) (hk4 : ∀ (ac2 : Int32) (ac3 : Int32) (X : XM), SAT (k4 ac2 ac3 X) (fun v c => Q v (C, c)) → AB l G (rmD 2) 0 0 mt_X11_isSaid (ZQ G mt_X11_isSaid Q) 4 [(0, .ref (gA G 10 0 0)), (1, .int a1), (2, .int ac2), (3, .int ac3)] [] (C, X)) (X : XM) (h : SAT (f_X11_isSaid_163 N k4 a1 a2 a3 as0 as1 X) (fun v c => Q v (C, c))) : AB l G (rmD 2) 0 0 mt_X11_isSaid (ZQ G mt_X11_isSaid Q) 163 [(0, .ref (gA G 10 0 0)), (1, .int a1), (2, .int a2), (3, .int a3)] [.int as0, .int as1, .ref (gA G 10 0 16)] (C, X) := by
  unfold f_X11_isSaid_163 at h
  refine fX_zast ⟨by decide, by decide⟩ rfl (fun _ => rfl) h dX11_isSaid_163 (fun X1 h => ?_)
  refine ab_goto (tgt := 206) dX11_isSaid_164 (by decide) ?_
  refine ab_iinc (q := 3) (v := (a3 + 1)) (lv' := [(0, .ref (gA G 10 0 0)), (1, .int a1), (2, .int a2), (3, .int (a3 + 1))]) dX11_isSaid_206 rfl rfl rfl (Nat.le_of_ble_eq_true rfl) rfl ?_
  refine ab_goto (tgt := 4) dX11_isSaid_209 (by decide) ?_
  exact hk4 a2 (a3 + 1) X1 h
set_option maxRecDepth 8000 in
theorem t_X11_isSaid_158 {l : Launch} {G : GX} {C : CM} {Q : Int32 → Mem → Prop} (N : Nat) (k4 : Int32 → Int32 → XM → Option (Int32 × XM)) (a1 : Int32) (a2 : Int32) (a3 : Int32) (as0 : Int32) (hk4 : ∀ (ac2 : Int32) (ac3 : Int32) (X : XM), SAT (k4 ac2 ac3 X) (fun v c => Q v (C, c)) → AB l G (rmD 2) 0 0 mt_X11_isSaid (ZQ G mt_X11_isSaid Q) 4 [(0, .ref (gA G 10 0 0)), (1, .int a1), (2, .int ac2), (3, .int ac3)] [] (C, X)) (X : XM) (h : SAT (f_X11_isSaid_158 N k4 a1 a2 a3 as0 X) (fun v c => Q v (C, c))) : AB l G (rmD 2) 0 0 mt_X11_isSaid (ZQ G mt_X11_isSaid Q) 158 [(0, .ref (gA G 10 0 0)), (1, .int a1), (2, .int a2), (3, .int a3)] [.int as0, .ref (gA G 10 0 16)] (C, X) := by
  unfold f_X11_isSaid_158 at h
  refine ab_iconst (v := 1) dX11_isSaid_158 (by decide) ?_
  refine ab_goto (tgt := 163) dX11_isSaid_159 (by decide) ?_
  exact t_X11_isSaid_163 N k4 a1 a2 a3 1 as0 hk4 X h
set_option maxRecDepth 8000 in
theorem t_X11_isSaid_134 {l : Launch} {G : GX} {C : CM} {Q : Int32 → Mem → Prop} (N : Nat) (k4 : Int32 → Int32 → XM → Option (Int32 × XM)) (a1 : Int32) (a2 : Int32) (a3 : Int32) (as0 : Int32) (hk4 : ∀ (ac2 : Int32) (ac3 : Int32) (X : XM), SAT (k4 ac2 ac3 X) (fun v c => Q v (C, c)) → AB l G (rmD 2) 0 0 mt_X11_isSaid (ZQ G mt_X11_isSaid Q) 4 [(0, .ref (gA G 10 0 0)), (1, .int a1), (2, .int ac2), (3, .int ac3)] [] (C, X)) (X : XM) (h : SAT (f_X11_isSaid_134 N k4 a1 a2 a3 as0 X) (fun v c => Q v (C, c))) : AB l G (rmD 2) 0 0 mt_X11_isSaid (ZQ G mt_X11_isSaid Q) 134 [(0, .ref (gA G 10 0 0)), (1, .int a1), (2, .int a2), (3, .int a3)] [.int as0, .ref (gA G 10 0 16)] (C, X) := by
  unfold f_X11_isSaid_134 at h
  refine ab_iconst (v := 0) dX11_isSaid_134 (by decide) ?_
  refine ab_goto (tgt := 163) dX11_isSaid_135 (by decide) ?_
  exact t_X11_isSaid_163 N k4 a1 a2 a3 0 as0 hk4 X h
set_option maxRecDepth 8000 in
theorem t_X11_isSaid_88 {l : Launch} {G : GX} {C : CM} {Q : Int32 → Mem → Prop} (N : Nat) (k4 : Int32 → Int32 → XM → Option (Int32 × XM)) (a1 : Int32) (a2 : Int32) (a3 : Int32) (a4 : Int32) (hk4 : ∀ (ac2 : Int32) (ac3 : Int32) (X : XM), SAT (k4 ac2 ac3 X) (fun v c => Q v (C, c)) → AB l G (rmD 2) 0 0 mt_X11_isSaid (ZQ G mt_X11_isSaid Q) 4 [(0, .ref (gA G 10 0 0)), (1, .int a1), (2, .int ac2), (3, .int ac3)] [] (C, X)) (X : XM) (h : SAT (f_X11_isSaid_88 N k4 a1 a2 a3 a4 X) (fun v c => Q v (C, c))) : AB l G (rmD 2) 0 0 mt_X11_isSaid (ZQ G mt_X11_isSaid Q) 88 [(0, .ref (gA G 10 0 0)), (1, .int a1), (2, .int a2), (3, .int a3), (4, .int a4)] [] (C, X) := by
  unfold f_X11_isSaid_88 at h
  refine ab_iinc (q := 2) (v := (a2 - 1)) (lv' := [(0, .ref (gA G 10 0 0)), (1, .int a1), (2, .int (a2 - 1)), (3, .int a3), (4, .int a4)]) dX11_isSaid_88 rfl (ii_m1 _) rfl (Nat.le_of_ble_eq_true rfl) rfl ?_
  refine ab_aloadn 0 dX11_isSaid_91 rfl ?_
  refine f_gr (x := 50) (k2 := 10) (i2 := 0) (j2 := 16) ⟨by decide, by decide⟩ rfl rfl (Nat.le_of_ble_eq_true rfl) wd_494 rfl rfl dX11_isSaid_92 ?_
  refine ab_iloadn 2 dX11_isSaid_95 rfl ?_
  refine ab_iconst (v := 1) dX11_isSaid_96 (by decide) ?_
  refine ab_isub dX11_isSaid_97 ?_
  refine ab_aloadn 0 dX11_isSaid_98 rfl ?_
  refine f_gr (x := 6) (k2 := 10) (i2 := 0) (j2 := 2) ⟨by decide, by decide⟩ rfl rfl (Nat.le_of_ble_eq_true rfl) wd_406 rfl rfl dX11_isSaid_99 ?_
  refine ab_iload 4 dX11_isSaid_102 rfl ?_
  refine fX_iald ⟨by decide, by decide⟩ rfl (fun _ => rfl) h dX11_isSaid_104 (fun v1 h => ?_)
  refine ab_bipush (v := 11) dX11_isSaid_105 (by decide) ?_
  refine ab_icmp_ne (tgt := 138) dX11_isSaid_107 (by decide) (fun hc2 => ?_) (fun hc2 => ?_)
  · have h := sat_f hc2 h
    refine ab_aloadn 0 dX11_isSaid_138 rfl ?_
    refine f_gr (x := 50) (k2 := 10) (i2 := 0) (j2 := 16) ⟨by decide, by decide⟩ rfl rfl (Nat.le_of_ble_eq_true rfl) wd_494 rfl rfl dX11_isSaid_139 ?_
    refine ab_iloadn 2 dX11_isSaid_142 rfl ?_
    refine ab_iconst (v := 1) dX11_isSaid_143 (by decide) ?_
    refine ab_isub dX11_isSaid_144 ?_
    refine fX_zald ⟨by decide, by decide⟩ rfl (fun _ => rfl) h dX11_isSaid_145 (fun v3 h => ?_)
    refine ab_if_ne (tgt := 158) dX11_isSaid_146 (by decide) (fun hc4 => ?_) (fun hc4 => ?_)
    · have h := sat_f hc4 h
      refine ab_sub [0, 1, 2, 3] rfl ?_
      exact t_X11_isSaid_158 N k4 a1 (a2 - 1) a3 ((a2 - 1) - 1) hk4 X h
    · have h := sat_t hc4 h
      refine ab_aloadn 0 dX11_isSaid_149 rfl ?_
      refine f_gr (x := 50) (k2 := 10) (i2 := 0) (j2 := 16) ⟨by decide, by decide⟩ rfl rfl (Nat.le_of_ble_eq_true rfl) wd_494 rfl rfl dX11_isSaid_150 ?_
      refine ab_iloadn 2 dX11_isSaid_153 rfl ?_
      refine fX_zald ⟨by decide, by decide⟩ rfl (fun _ => rfl) h dX11_isSaid_154 (fun v5 h => ?_)
      refine ab_if_eq (tgt := 162) dX11_isSaid_155 (by decide) (fun hc6 => ?_) (fun hc6 => ?_)
      · have h := sat_t hc6 h
        refine ab_iconst (v := 0) dX11_isSaid_162 (by decide) ?_
        refine ab_sub [0, 1, 2, 3] rfl ?_
        exact t_X11_isSaid_163 N k4 a1 (a2 - 1) a3 0 ((a2 - 1) - 1) hk4 X h
      · have h := sat_f hc6 h
        refine ab_sub [0, 1, 2, 3] rfl ?_
        exact t_X11_isSaid_158 N k4 a1 (a2 - 1) a3 ((a2 - 1) - 1) hk4 X h
  · have h := sat_t hc2 h
    refine ab_aloadn 0 dX11_isSaid_110 rfl ?_
    refine f_gr (x := 50) (k2 := 10) (i2 := 0) (j2 := 16) ⟨by decide, by decide⟩ rfl rfl (Nat.le_of_ble_eq_true rfl) wd_494 rfl rfl dX11_isSaid_111 ?_
    refine ab_iloadn 2 dX11_isSaid_114 rfl ?_
    refine ab_iconst (v := 1) dX11_isSaid_115 (by decide) ?_
    refine ab_isub dX11_isSaid_116 ?_
    refine fX_zald ⟨by decide, by decide⟩ rfl (fun _ => rfl) h dX11_isSaid_117 (fun v7 h => ?_)
    refine ab_if_eq (tgt := 134) dX11_isSaid_118 (by decide) (fun hc8 => ?_) (fun hc8 => ?_)
    · have h := sat_t hc8 h
      refine ab_sub [0, 1, 2, 3] rfl ?_
      exact t_X11_isSaid_134 N k4 a1 (a2 - 1) a3 ((a2 - 1) - 1) hk4 X h
    · have h := sat_f hc8 h
      refine ab_aloadn 0 dX11_isSaid_121 rfl ?_
      refine f_gr (x := 50) (k2 := 10) (i2 := 0) (j2 := 16) ⟨by decide, by decide⟩ rfl rfl (Nat.le_of_ble_eq_true rfl) wd_494 rfl rfl dX11_isSaid_122 ?_
      refine ab_iloadn 2 dX11_isSaid_125 rfl ?_
      refine fX_zald ⟨by decide, by decide⟩ rfl (fun _ => rfl) h dX11_isSaid_126 (fun v9 h => ?_)
      refine ab_if_eq (tgt := 134) dX11_isSaid_127 (by decide) (fun hc10 => ?_) (fun hc10 => ?_)
      · have h := sat_t hc10 h
        refine ab_sub [0, 1, 2, 3] rfl ?_
        exact t_X11_isSaid_134 N k4 a1 (a2 - 1) a3 ((a2 - 1) - 1) hk4 X h
      · have h := sat_f hc10 h
        refine ab_iconst (v := 1) dX11_isSaid_130 (by decide) ?_
        refine ab_goto (tgt := 163) dX11_isSaid_131 (by decide) ?_
        refine ab_sub [0, 1, 2, 3] rfl ?_
        exact t_X11_isSaid_163 N k4 a1 (a2 - 1) a3 1 ((a2 - 1) - 1) hk4 X h
set_option maxRecDepth 8000 in
theorem t_X11_isSaid_60 {l : Launch} {G : GX} {C : CM} {Q : Int32 → Mem → Prop} (N : Nat) (k4 : Int32 → Int32 → XM → Option (Int32 × XM)) (a1 : Int32) (a2 : Int32) (a3 : Int32) (as0 : Int32) (as1 : Int32) (hk4 : ∀ (ac2 : Int32) (ac3 : Int32) (X : XM), SAT (k4 ac2 ac3 X) (fun v c => Q v (C, c)) → AB l G (rmD 2) 0 0 mt_X11_isSaid (ZQ G mt_X11_isSaid Q) 4 [(0, .ref (gA G 10 0 0)), (1, .int a1), (2, .int ac2), (3, .int ac3)] [] (C, X)) (X : XM) (h : SAT (f_X11_isSaid_60 N k4 a1 a2 a3 as0 as1 X) (fun v c => Q v (C, c))) : AB l G (rmD 2) 0 0 mt_X11_isSaid (ZQ G mt_X11_isSaid Q) 60 [(0, .ref (gA G 10 0 0)), (1, .int a1), (2, .int a2), (3, .int a3)] [.int as0, .int as1, .ref (gA G 10 0 16)] (C, X) := by
  unfold f_X11_isSaid_60 at h
  refine fX_zast ⟨by decide, by decide⟩ rfl (fun _ => rfl) h dX11_isSaid_60 (fun X1 h => ?_)
  refine ab_goto (tgt := 206) dX11_isSaid_61 (by decide) ?_
  refine ab_iinc (q := 3) (v := (a3 + 1)) (lv' := [(0, .ref (gA G 10 0 0)), (1, .int a1), (2, .int a2), (3, .int (a3 + 1))]) dX11_isSaid_206 rfl rfl rfl (Nat.le_of_ble_eq_true rfl) rfl ?_
  refine ab_goto (tgt := 4) dX11_isSaid_209 (by decide) ?_
  exact hk4 a2 (a3 + 1) X1 h
set_option maxRecDepth 8000 in
theorem t_X11_isSaid_4 {l : Launch} {G : GX} {C : CM} {Q : Int32 → Mem → Prop} (N : Nat) (a1 : Int32) : ∀ (n : Nat) (a2 : Int32) (a3 : Int32) (X : XM), SAT (f_X11_isSaid_4 N a1 n a2 a3 X) (fun v c => Q v (C, c)) → AB l G (rmD 2) 0 0 mt_X11_isSaid (ZQ G mt_X11_isSaid Q) 4 [(0, .ref (gA G 10 0 0)), (1, .int a1), (2, .int a2), (3, .int a3)] [] (C, X) := by
  intro n
  induction n with
  | zero => intro a2 a3 X h; exact h.elim
  | succ n ih =>
    intro a2 a3 X h
    rw [f_X11_isSaid_4] at h
    refine ab_iloadn 3 dX11_isSaid_4 rfl ?_
    refine ab_aloadn 0 dX11_isSaid_5 rfl ?_
    refine f_gr (x := 6) (k2 := 10) (i2 := 0) (j2 := 2) ⟨by decide, by decide⟩ rfl rfl (Nat.le_of_ble_eq_true rfl) wd_406 rfl rfl dX11_isSaid_6 ?_
    refine ab_sipush (v := 664) dX11_isSaid_9 (by decide) ?_
    refine fX_iald ⟨by decide, by decide⟩ rfl (fun _ => rfl) h dX11_isSaid_12 (fun v1 h => ?_)
    refine ab_icmp_ge (tgt := 212) dX11_isSaid_13 (by decide) (fun hc2 => ?_) (fun hc2 => ?_)
    · have h := sat_t hc2 h
      refine ab_aloadn 0 dX11_isSaid_212 rfl ?_
      refine f_gr (x := 50) (k2 := 10) (i2 := 0) (j2 := 16) ⟨by decide, by decide⟩ rfl rfl (Nat.le_of_ble_eq_true rfl) wd_494 rfl rfl dX11_isSaid_213 ?_
      refine ab_iconst (v := 0) dX11_isSaid_216 (by decide) ?_
      refine fX_zald ⟨by decide, by decide⟩ rfl (fun _ => rfl) h dX11_isSaid_217 (fun v3 h => ?_)
      exact fX_iretb h rfl dX11_isSaid_218
    · have h := sat_f hc2 h
      refine ab_sipush (v := 665) dX11_isSaid_16 (by decide) ?_
      refine ab_iconst (v := 3) dX11_isSaid_19 (by decide) ?_
      refine ab_iloadn 3 dX11_isSaid_20 rfl ?_
      refine ab_imul dX11_isSaid_21 ?_
      refine ab_iadd dX11_isSaid_22 ?_
      refine ab_istore (lv' := [(0, .ref (gA G 10 0 0)), (1, .int a1), (2, .int a2), (3, .int a3), (4, .int (665 + (3 * a3)))]) dX11_isSaid_23 rfl (Nat.le_of_ble_eq_true rfl) rfl ?_
      refine ab_aloadn 0 dX11_isSaid_25 rfl ?_
      refine f_gr (x := 6) (k2 := 10) (i2 := 0) (j2 := 2) ⟨by decide, by decide⟩ rfl rfl (Nat.le_of_ble_eq_true rfl) wd_406 rfl rfl dX11_isSaid_26 ?_
      refine ab_iload 4 dX11_isSaid_29 rfl ?_
      refine fX_iald ⟨by decide, by decide⟩ rfl (fun _ => rfl) h dX11_isSaid_31 (fun v4 h => ?_)
      refine ab_bipush (v := 10) dX11_isSaid_32 (by decide) ?_
      refine ab_icmp_ne (tgt := 64) dX11_isSaid_34 (by decide) (fun hc5 => ?_) (fun hc5 => ?_)
      · have h := sat_f hc5 h
        refine ab_aloadn 0 dX11_isSaid_64 rfl ?_
        refine f_gr (x := 6) (k2 := 10) (i2 := 0) (j2 := 2) ⟨by decide, by decide⟩ rfl rfl (Nat.le_of_ble_eq_true rfl) wd_406 rfl rfl dX11_isSaid_65 ?_
        refine ab_iload 4 dX11_isSaid_68 rfl ?_
        refine fX_iald ⟨by decide, by decide⟩ rfl (fun _ => rfl) h dX11_isSaid_70 (fun v6 h => ?_)
        refine ab_bipush (v := 11) dX11_isSaid_71 (by decide) ?_
        refine ab_icmp_eq (tgt := 88) dX11_isSaid_73 (by decide) (fun hc7 => ?_) (fun hc7 => ?_)
        · have h := sat_t hc7 h
          exact t_X11_isSaid_88 N (fun z2 z3 c => f_X11_isSaid_4 N a1 n z2 z3 c) a1 a2 a3 (665 + (3 * a3)) ih X h
        · have h := sat_f hc7 h
          refine ab_aloadn 0 dX11_isSaid_76 rfl ?_
          refine f_gr (x := 6) (k2 := 10) (i2 := 0) (j2 := 2) ⟨by decide, by decide⟩ rfl rfl (Nat.le_of_ble_eq_true rfl) wd_406 rfl rfl dX11_isSaid_77 ?_
          refine ab_iload 4 dX11_isSaid_80 rfl ?_
          refine fX_iald ⟨by decide, by decide⟩ rfl (fun _ => rfl) h dX11_isSaid_82 (fun v8 h => ?_)
          refine ab_bipush (v := 12) dX11_isSaid_83 (by decide) ?_
          refine ab_icmp_ne (tgt := 167) dX11_isSaid_85 (by decide) (fun hc9 => ?_) (fun hc9 => ?_)
          · have h := sat_f hc9 h
            refine ab_aloadn 0 dX11_isSaid_167 rfl ?_
            refine f_gr (x := 50) (k2 := 10) (i2 := 0) (j2 := 16) ⟨by decide, by decide⟩ rfl rfl (Nat.le_of_ble_eq_true rfl) wd_494 rfl rfl dX11_isSaid_168 ?_
            refine ab_iloadn 2 dX11_isSaid_171 rfl ?_
            refine ab_aloadn 0 dX11_isSaid_172 rfl ?_
            refine ab_iloadn 1 dX11_isSaid_173 rfl ?_
            refine ab_aloadn 0 dX11_isSaid_174 rfl ?_
            refine f_gr (x := 6) (k2 := 10) (i2 := 0) (j2 := 2) ⟨by decide, by decide⟩ rfl rfl (Nat.le_of_ble_eq_true rfl) wd_406 rfl rfl dX11_isSaid_175 ?_
            refine ab_iload 4 dX11_isSaid_178 rfl ?_
            refine fX_iald ⟨by decide, by decide⟩ rfl (fun _ => rfl) h dX11_isSaid_180 (fun v10 h => ?_)
            refine ab_aloadn 0 dX11_isSaid_181 rfl ?_
            refine f_gr (x := 6) (k2 := 10) (i2 := 0) (j2 := 2) ⟨by decide, by decide⟩ rfl rfl (Nat.le_of_ble_eq_true rfl) wd_406 rfl rfl dX11_isSaid_182 ?_
            refine ab_iload 4 dX11_isSaid_185 rfl ?_
            refine ab_iconst (v := 1) dX11_isSaid_187 (by decide) ?_
            refine ab_iadd dX11_isSaid_188 ?_
            refine fX_iald ⟨by decide, by decide⟩ rfl (fun _ => rfl) h dX11_isSaid_189 (fun v11 h => ?_)
            refine ab_aloadn 0 dX11_isSaid_190 rfl ?_
            refine f_gr (x := 6) (k2 := 10) (i2 := 0) (j2 := 2) ⟨by decide, by decide⟩ rfl rfl (Nat.le_of_ble_eq_true rfl) wd_406 rfl rfl dX11_isSaid_191 ?_
            refine ab_iload 4 dX11_isSaid_194 rfl ?_
            refine ab_iconst (v := 2) dX11_isSaid_196 (by decide) ?_
            refine ab_iadd dX11_isSaid_197 ?_
            refine fX_iald ⟨by decide, by decide⟩ rfl (fun _ => rfl) h dX11_isSaid_198 (fun v12 h => ?_)
            refine fX_Vi (mtc := mt_X11_isLeaf) (As := [.int a1, .int v10, .int v11, .int v12]) h (fun Q h => ct_X11_isLeaf a1 v10 v11 v12 X h) ⟨by decide, by decide⟩ rfl rfl rfl mw_X11_isLeaf wd_495 rfl rfl ⟨Nat.le_of_ble_eq_true rfl, Nat.le_of_ble_eq_true rfl⟩ ⟨Nat.zero_le _, Nat.zero_le _⟩ (Nat.le_of_ble_eq_true rfl) rfl dX11_isSaid_199 (fun v13 X14 h => ?_)
            refine fX_zast ⟨by decide, by decide⟩ rfl (fun _ => rfl) h dX11_isSaid_202 (fun X15 h => ?_)
            refine ab_iinc (q := 2) (v := (a2 + 1)) (lv' := [(0, .ref (gA G 10 0 0)), (1, .int a1), (2, .int (a2 + 1)), (3, .int a3), (4, .int (665 + (3 * a3)))]) dX11_isSaid_203 rfl rfl rfl (Nat.le_of_ble_eq_true rfl) rfl ?_
            refine ab_iinc (q := 3) (v := (a3 + 1)) (lv' := [(0, .ref (gA G 10 0 0)), (1, .int a1), (2, .int (a2 + 1)), (3, .int (a3 + 1)), (4, .int (665 + (3 * a3)))]) dX11_isSaid_206 rfl rfl rfl (Nat.le_of_ble_eq_true rfl) rfl ?_
            refine ab_goto (tgt := 4) dX11_isSaid_209 (by decide) ?_
            refine ab_sub [0, 1, 2, 3] rfl ?_
            exact ih (a2 + 1) (a3 + 1) X15 h
          · have h := sat_t hc9 h
            exact t_X11_isSaid_88 N (fun z2 z3 c => f_X11_isSaid_4 N a1 n z2 z3 c) a1 a2 a3 (665 + (3 * a3)) ih X h
      · have h := sat_t hc5 h
        refine ab_aloadn 0 dX11_isSaid_37 rfl ?_
        refine f_gr (x := 50) (k2 := 10) (i2 := 0) (j2 := 16) ⟨by decide, by decide⟩ rfl rfl (Nat.le_of_ble_eq_true rfl) wd_494 rfl rfl dX11_isSaid_38 ?_
        refine ab_iloadn 2 dX11_isSaid_41 rfl ?_
        refine ab_iconst (v := 1) dX11_isSaid_42 (by decide) ?_
        refine ab_isub dX11_isSaid_43 ?_
        refine ab_aloadn 0 dX11_isSaid_44 rfl ?_
        refine f_gr (x := 50) (k2 := 10) (i2 := 0) (j2 := 16) ⟨by decide, by decide⟩ rfl rfl (Nat.le_of_ble_eq_true rfl) wd_494 rfl rfl dX11_isSaid_45 ?_
        refine ab_iloadn 2 dX11_isSaid_48 rfl ?_
        refine ab_iconst (v := 1) dX11_isSaid_49 (by decide) ?_
        refine ab_isub dX11_isSaid_50 ?_
        refine fX_zald ⟨by decide, by decide⟩ rfl (fun _ => rfl) h dX11_isSaid_51 (fun v16 h => ?_)
        refine ab_if_ne (tgt := 59) dX11_isSaid_52 (by decide) (fun hc17 => ?_) (fun hc17 => ?_)
        · have h := sat_f hc17 h
          refine ab_iconst (v := 0) dX11_isSaid_59 (by decide) ?_
          refine ab_sub [0, 1, 2, 3] rfl ?_
          exact t_X11_isSaid_60 N (fun z2 z3 c => f_X11_isSaid_4 N a1 n z2 z3 c) a1 a2 a3 0 (a2 - 1) ih X h
        · have h := sat_t hc17 h
          refine ab_iconst (v := 1) dX11_isSaid_55 (by decide) ?_
          refine ab_goto (tgt := 60) dX11_isSaid_56 (by decide) ?_
          refine ab_sub [0, 1, 2, 3] rfl ?_
          exact t_X11_isSaid_60 N (fun z2 z3 c => f_X11_isSaid_4 N a1 n z2 z3 c) a1 a2 a3 1 (a2 - 1) ih X h
set_option maxRecDepth 8000 in
theorem t_X11_isSaid_0 {l : Launch} {G : GX} {C : CM} {Q : Int32 → Mem → Prop} (N : Nat) (a1 : Int32) (X : XM) (h : SAT (f_X11_isSaid N a1 X) (fun v c => Q v (C, c))) : AB l G (rmD 2) 0 0 mt_X11_isSaid (ZQ G mt_X11_isSaid Q) 0 [(0, .ref (gA G 10 0 0)), (1, .int a1)] [] (C, X) := by
  unfold f_X11_isSaid at h
  refine ab_iconst (v := 0) dX11_isSaid_0 (by decide) ?_
  refine ab_istoren (lv' := [(0, .ref (gA G 10 0 0)), (1, .int a1), (2, .int 0)]) dX11_isSaid_1 rfl (Nat.le_of_ble_eq_true rfl) rfl ?_
  refine ab_iconst (v := 0) dX11_isSaid_2 (by decide) ?_
  refine ab_istoren (lv' := [(0, .ref (gA G 10 0 0)), (1, .int a1), (2, .int 0), (3, .int 0)]) dX11_isSaid_3 rfl (Nat.le_of_ble_eq_true rfl) rfl ?_
  exact t_X11_isSaid_4 N a1 N 0 0 X h
theorem ct_X11_isSaid {l : Launch} {G : GX} {C : CM} {Q : Int32 → Mem → Prop} (N : Nat) (a1 : Int32) (X : XM) (h : SAT (f_X11_isSaid N a1 X) (fun v c => Q v (C, c))) : CT l G 2 mt_X11_isSaid [.ref (gA G 10 0 0), .int a1] (C, X) Q := ct_of pn_X11 (Nat.le_of_ble_eq_true rfl) (t_X11_isSaid_0 N a1 X h)
def f_X11_said_27 (N : Nat) (a1 : Int32) : Nat → Int32 → Int32 → XM → Option (Int32 × XM)
  | 0, _, _, _ => none
  | n + 1, a2, a3, X => ldA (X.1 2) 845 2 (fun v1 => (if v1 ≤ a3 then (if a1 = (-1) then (rt a2 X) else (rt (-1) X)) else cal (f_X11_isSaid N a3 X) (fun v4 X5 => (if v4 = 0 then (f_X11_said_27 N a1 n a2 (a3 + 1) X5) else (if a2 = a1 then (rt a3 X5) else (f_X11_said_27 N a1 n (a2 + 1) (a3 + 1) X5))))))
def f_X11_said (N : Nat) (a1 : Int32) (X : XM) : Option (Int32 × XM) := bnd (stX X 0 0 0) (fun X1 => ldA (X1.1 2) 845 664 (fun v2 => (if v2 = 0 then (rt (-1) X1) else (if (-1) ≤ a1 then (f_X11_said_27 N a1 N 0 0 X1) else (rt (-1) X1)))))
set_option maxRecDepth 8000 in
theorem t_X11_said_27 {l : Launch} {G : GX} {C : CM} {Q : Int32 → Mem → Prop} (N : Nat) (a1 : Int32) : ∀ (n : Nat) (a2 : Int32) (a3 : Int32) (X : XM), SAT (f_X11_said_27 N a1 n a2 a3 X) (fun v c => Q v (C, c)) → AB l G (rmD 3) 0 0 mt_X11_said (ZQ G mt_X11_said Q) 27 [(0, .ref (gA G 10 0 0)), (1, .int a1), (2, .int a2), (3, .int a3)] [] (C, X) := by
  intro n
  induction n with
  | zero => intro a2 a3 X h; exact h.elim
  | succ n ih =>
    intro a2 a3 X h
    rw [f_X11_said_27] at h
    refine ab_iloadn 3 dX11_said_27 rfl ?_
    refine ab_aloadn 0 dX11_said_28 rfl ?_
    refine f_gr (x := 6) (k2 := 10) (i2 := 0) (j2 := 2) ⟨by decide, by decide⟩ rfl rfl (Nat.le_of_ble_eq_true rfl) wd_406 rfl rfl dX11_said_29 ?_
    refine ab_iconst (v := 2) dX11_said_32 (by decide) ?_
    refine fX_iald ⟨by decide, by decide⟩ rfl (fun _ => rfl) h dX11_said_33 (fun v1 h => ?_)
    refine ab_icmp_ge (tgt := 64) dX11_said_34 (by decide) (fun hc2 => ?_) (fun hc2 => ?_)
    · have h := sat_t hc2 h
      refine ab_iloadn 1 dX11_said_64 rfl ?_
      refine ab_iconst (v := (-1)) dX11_said_65 (by decide) ?_
      refine ab_icmp_ne (tgt := 73) dX11_said_66 (by decide) (fun hc3 => ?_) (fun hc3 => ?_)
      · have h := sat_f hc3 h
        refine ab_iconst (v := (-1)) dX11_said_73 (by decide) ?_
        exact fX_iret h rfl rfl dX11_said_74
      · have h := sat_t hc3 h
        refine ab_iloadn 2 dX11_said_69 rfl ?_
        refine ab_goto (tgt := 74) dX11_said_70 (by decide) ?_
        exact fX_iret h rfl rfl dX11_said_74
    · have h := sat_f hc2 h
      refine ab_aloadn 0 dX11_said_37 rfl ?_
      refine ab_iloadn 3 dX11_said_38 rfl ?_
      refine fX_Vi (mtc := mt_X11_isSaid) (As := [.int a3]) h (fun Q h => ct_X11_isSaid N a3 X h) ⟨by decide, by decide⟩ rfl rfl rfl mw_X11_isSaid wd_496 rfl rfl ⟨Nat.le_of_ble_eq_true rfl, Nat.le_of_ble_eq_true rfl⟩ ⟨Nat.zero_le _, Nat.zero_le _⟩ (Nat.le_of_ble_eq_true rfl) rfl dX11_said_39 (fun v4 X5 h => ?_)
      refine ab_if_ne (tgt := 48) dX11_said_42 (by decide) (fun hc6 => ?_) (fun hc6 => ?_)
      · have h := sat_f hc6 h
        refine ab_iloadn 2 dX11_said_48 rfl ?_
        refine ab_iloadn 1 dX11_said_49 rfl ?_
        refine ab_icmp_ne (tgt := 55) dX11_said_50 (by decide) (fun hc7 => ?_) (fun hc7 => ?_)
        · have h := sat_f hc7 h
          refine ab_iinc (q := 2) (v := (a2 + 1)) (lv' := [(0, .ref (gA G 10 0 0)), (1, .int a1), (2, .int (a2 + 1)), (3, .int a3)]) dX11_said_55 rfl rfl rfl (Nat.le_of_ble_eq_true rfl) rfl ?_
          refine ab_iinc (q := 3) (v := (a3 + 1)) (lv' := [(0, .ref (gA G 10 0 0)), (1, .int a1), (2, .int (a2 + 1)), (3, .int (a3 + 1))]) dX11_said_58 rfl rfl rfl (Nat.le_of_ble_eq_true rfl) rfl ?_
          refine ab_goto (tgt := 27) dX11_said_61 (by decide) ?_
          exact ih (a2 + 1) (a3 + 1) X5 h
        · have h := sat_t hc7 h
          refine ab_iloadn 3 dX11_said_53 rfl ?_
          exact fX_iret h rfl rfl dX11_said_54
      · have h := sat_t hc6 h
        refine ab_goto (tgt := 58) dX11_said_45 (by decide) ?_
        refine ab_iinc (q := 3) (v := (a3 + 1)) (lv' := [(0, .ref (gA G 10 0 0)), (1, .int a1), (2, .int a2), (3, .int (a3 + 1))]) dX11_said_58 rfl rfl rfl (Nat.le_of_ble_eq_true rfl) rfl ?_
        refine ab_goto (tgt := 27) dX11_said_61 (by decide) ?_
        exact ih a2 (a3 + 1) X5 h
set_option maxRecDepth 8000 in
theorem t_X11_said_0 {l : Launch} {G : GX} {C : CM} {Q : Int32 → Mem → Prop} (N : Nat) (a1 : Int32) (X : XM) (h : SAT (f_X11_said N a1 X) (fun v c => Q v (C, c))) : AB l G (rmD 3) 0 0 mt_X11_said (ZQ G mt_X11_said Q) 0 [(0, .ref (gA G 10 0 0)), (1, .int a1)] [] (C, X) := by
  unfold f_X11_said at h
  refine ab_aloadn 0 dX11_said_0 rfl ?_
  refine ab_iconst (v := 0) dX11_said_1 (by decide) ?_
  refine fX_pi (x := 0) (ty := .int) ⟨by decide, by decide⟩ rfl rfl (Nat.le_of_ble_eq_true rfl) wd_344 rfl h rfl (by decide +kernel) rfl rfl dX11_said_2 (fun X1 h => ?_)
  refine ab_aloadn 0 dX11_said_5 rfl ?_
  refine f_gr (x := 6) (k2 := 10) (i2 := 0) (j2 := 2) ⟨by decide, by decide⟩ rfl rfl (Nat.le_of_ble_eq_true rfl) wd_406 rfl rfl dX11_said_6 ?_
  refine ab_sipush (v := 664) dX11_said_9 (by decide) ?_
  refine fX_iald ⟨by decide, by decide⟩ rfl (fun _ => rfl) h dX11_said_12 (fun v2 h => ?_)
  refine ab_if_eq (tgt := 21) dX11_said_13 (by decide) (fun hc3 => ?_) (fun hc3 => ?_)
  · have h := sat_t hc3 h
    refine ab_iconst (v := (-1)) dX11_said_21 (by decide) ?_
    exact fX_iret h rfl rfl dX11_said_22
  · have h := sat_f hc3 h
    refine ab_iloadn 1 dX11_said_16 rfl ?_
    refine ab_iconst (v := (-1)) dX11_said_17 (by decide) ?_
    refine ab_icmp_ge (tgt := 23) dX11_said_18 (by decide) (fun hc4 => ?_) (fun hc4 => ?_)
    · have h := sat_t hc4 h
      refine ab_iconst (v := 0) dX11_said_23 (by decide) ?_
      refine ab_istoren (lv' := [(0, .ref (gA G 10 0 0)), (1, .int a1), (2, .int 0)]) dX11_said_24 rfl (Nat.le_of_ble_eq_true rfl) rfl ?_
      refine ab_iconst (v := 0) dX11_said_25 (by decide) ?_
      refine ab_istoren (lv' := [(0, .ref (gA G 10 0 0)), (1, .int a1), (2, .int 0), (3, .int 0)]) dX11_said_26 rfl (Nat.le_of_ble_eq_true rfl) rfl ?_
      exact t_X11_said_27 N a1 N 0 0 X1 h
    · have h := sat_f hc4 h
      refine ab_iconst (v := (-1)) dX11_said_21 (by decide) ?_
      exact fX_iret h rfl rfl dX11_said_22
theorem ct_X11_said {l : Launch} {G : GX} {C : CM} {Q : Int32 → Mem → Prop} (N : Nat) (a1 : Int32) (X : XM) (h : SAT (f_X11_said N a1 X) (fun v c => Q v (C, c))) : CT l G 3 mt_X11_said [.ref (gA G 10 0 0), .int a1] (C, X) Q := ct_of pn_X11 (Nat.le_of_ble_eq_true rfl) (t_X11_said_0 N a1 X h)
def f_X11_image_51 (N : Nat) (a1 : Int32) : Nat → Int32 → XM → Option (Int32 × XM)
  | 0, _, _ => none
  | n + 1, a2, X => (if 8 ≤ a2 then sxA X 19 2 a1 (nrZ 1) (fun X2 => (rt 1 X2)) else ldL (X.2 5) 16 a2 (fun v3 => slA X 18 16 ((8 * a1) + a2) v3 (fun X4 => (f_X11_image_51 N a1 n (a2 + 1) X4))))
def f_X11_image_18 (N : Nat) (a1 : Int32) : Nat → Int32 → XM → Option (Int32 × XM)
  | 0, _, _ => none
  | n + 1, a2, X => (if 845 ≤ a2 then (f_X11_image_51 N a1 N 0 X) else ldA (X.1 2) 845 a2 (fun v2 => sxA X 17 1690 ((845 * a1) + a2) v2 (fun X3 => (f_X11_image_18 N a1 n (a2 + 1) X3))))
def f_X11_image (N : Nat) (a1 : Int32) (X : XM) : Option (Int32 × XM) := bnd (stX X 0 0 0) (fun X1 => cal (f_X11_isIn a1 0 1 X1) (fun v2 X3 => (if v2 = 0 then (rt 0 X3) else (f_X11_image_18 N a1 N 0 X3))))
set_option maxRecDepth 8000 in
theorem t_X11_image_51 {l : Launch} {G : GX} {C : CM} {Q : Int32 → Mem → Prop} (N : Nat) (a1 : Int32) : ∀ (n : Nat) (a2 : Int32) (X : XM), SAT (f_X11_image_51 N a1 n a2 X) (fun v c => Q v (C, c)) → AB l G (rmD 2) 0 0 mt_X11_image (ZQ G mt_X11_image Q) 51 [(0, .ref (gA G 10 0 0)), (1, .int a1), (2, .int a2)] [] (C, X) := by
  intro n
  induction n with
  | zero => intro a2 X h; exact h.elim
  | succ n ih =>
    intro a2 X h
    rw [f_X11_image_51] at h
    refine ab_iloadn 2 dX11_image_51 rfl ?_
    refine ab_bipush (v := 8) dX11_image_52 (by decide) ?_
    refine ab_icmp_ge (tgt := 80) dX11_image_54 (by decide) (fun hc1 => ?_) (fun hc1 => ?_)
    · have h := sat_t hc1 h
      refine ab_aloadn 0 dX11_image_80 rfl ?_
      refine f_gr (x := 53) (k2 := 10) (i2 := 0) (j2 := 19) ⟨by decide, by decide⟩ rfl rfl (Nat.le_of_ble_eq_true rfl) wd_498 rfl rfl dX11_image_81 ?_
      refine ab_iloadn 1 dX11_image_84 rfl ?_
      refine ab_iconst (v := 1) dX11_image_85 (by decide) ?_
      refine fX_zast ⟨by decide, by decide⟩ rfl (fun _ => rfl) h dX11_image_86 (fun X2 h => ?_)
      refine ab_iconst (v := 1) dX11_image_87 (by decide) ?_
      exact fX_iret h rfl rfl dX11_image_88
    · have h := sat_f hc1 h
      refine ab_aloadn 0 dX11_image_57 rfl ?_
      refine f_gr (x := 52) (k2 := 10) (i2 := 0) (j2 := 18) ⟨by decide, by decide⟩ rfl rfl (Nat.le_of_ble_eq_true rfl) wd_499 rfl rfl dX11_image_58 ?_
      refine ab_bipush (v := 8) dX11_image_61 (by decide) ?_
      refine ab_iloadn 1 dX11_image_63 rfl ?_
      refine ab_imul dX11_image_64 ?_
      refine ab_iloadn 2 dX11_image_65 rfl ?_
      refine ab_iadd dX11_image_66 ?_
      refine ab_aloadn 0 dX11_image_67 rfl ?_
      refine f_gr (x := 9) (k2 := 10) (i2 := 0) (j2 := 5) ⟨by decide, by decide⟩ rfl rfl (Nat.le_of_ble_eq_true rfl) wd_390 rfl rfl dX11_image_68 ?_
      refine ab_iloadn 2 dX11_image_71 rfl ?_
      refine fX_lald ⟨by decide, by decide⟩ rfl (fun _ => rfl) h dX11_image_72 (fun v3 h => ?_)
      refine fX_last ⟨by decide, by decide⟩ rfl (by decide) (fun _ => rfl) h dX11_image_73 (fun X4 h => ?_)
      refine ab_iinc (q := 2) (v := (a2 + 1)) (lv' := [(0, .ref (gA G 10 0 0)), (1, .int a1), (2, .int (a2 + 1))]) dX11_image_74 rfl rfl rfl (Nat.le_of_ble_eq_true rfl) rfl ?_
      refine ab_goto (tgt := 51) dX11_image_77 (by decide) ?_
      exact ih (a2 + 1) X4 h
set_option maxRecDepth 8000 in
theorem t_X11_image_18 {l : Launch} {G : GX} {C : CM} {Q : Int32 → Mem → Prop} (N : Nat) (a1 : Int32) : ∀ (n : Nat) (a2 : Int32) (X : XM), SAT (f_X11_image_18 N a1 n a2 X) (fun v c => Q v (C, c)) → AB l G (rmD 2) 0 0 mt_X11_image (ZQ G mt_X11_image Q) 18 [(0, .ref (gA G 10 0 0)), (1, .int a1), (2, .int a2)] [] (C, X) := by
  intro n
  induction n with
  | zero => intro a2 X h; exact h.elim
  | succ n ih =>
    intro a2 X h
    rw [f_X11_image_18] at h
    refine ab_iloadn 2 dX11_image_18 rfl ?_
    refine ab_sipush (v := 845) dX11_image_19 (by decide) ?_
    refine ab_icmp_ge (tgt := 49) dX11_image_22 (by decide) (fun hc1 => ?_) (fun hc1 => ?_)
    · have h := sat_t hc1 h
      refine ab_iconst (v := 0) dX11_image_49 (by decide) ?_
      refine ab_istoren (lv' := [(0, .ref (gA G 10 0 0)), (1, .int a1), (2, .int 0)]) dX11_image_50 rfl (Nat.le_of_ble_eq_true rfl) rfl ?_
      exact t_X11_image_51 N a1 N 0 X h
    · have h := sat_f hc1 h
      refine ab_aloadn 0 dX11_image_25 rfl ?_
      refine f_gr (x := 51) (k2 := 10) (i2 := 0) (j2 := 17) ⟨by decide, by decide⟩ rfl rfl (Nat.le_of_ble_eq_true rfl) wd_497 rfl rfl dX11_image_26 ?_
      refine ab_sipush (v := 845) dX11_image_29 (by decide) ?_
      refine ab_iloadn 1 dX11_image_32 rfl ?_
      refine ab_imul dX11_image_33 ?_
      refine ab_iloadn 2 dX11_image_34 rfl ?_
      refine ab_iadd dX11_image_35 ?_
      refine ab_aloadn 0 dX11_image_36 rfl ?_
      refine f_gr (x := 6) (k2 := 10) (i2 := 0) (j2 := 2) ⟨by decide, by decide⟩ rfl rfl (Nat.le_of_ble_eq_true rfl) wd_406 rfl rfl dX11_image_37 ?_
      refine ab_iloadn 2 dX11_image_40 rfl ?_
      refine fX_iald ⟨by decide, by decide⟩ rfl (fun _ => rfl) h dX11_image_41 (fun v2 h => ?_)
      refine fX_iast ⟨by decide, by decide⟩ rfl (fun _ => rfl) h dX11_image_42 (fun X3 h => ?_)
      refine ab_iinc (q := 2) (v := (a2 + 1)) (lv' := [(0, .ref (gA G 10 0 0)), (1, .int a1), (2, .int (a2 + 1))]) dX11_image_43 rfl rfl rfl (Nat.le_of_ble_eq_true rfl) rfl ?_
      refine ab_goto (tgt := 18) dX11_image_46 (by decide) ?_
      exact ih (a2 + 1) X3 h
set_option maxRecDepth 8000 in
theorem t_X11_image_0 {l : Launch} {G : GX} {C : CM} {Q : Int32 → Mem → Prop} (N : Nat) (a1 : Int32) (X : XM) (h : SAT (f_X11_image N a1 X) (fun v c => Q v (C, c))) : AB l G (rmD 2) 0 0 mt_X11_image (ZQ G mt_X11_image Q) 0 [(0, .ref (gA G 10 0 0)), (1, .int a1)] [] (C, X) := by
  unfold f_X11_image at h
  refine ab_aloadn 0 dX11_image_0 rfl ?_
  refine ab_iconst (v := 0) dX11_image_1 (by decide) ?_
  refine fX_pi (x := 0) (ty := .int) ⟨by decide, by decide⟩ rfl rfl (Nat.le_of_ble_eq_true rfl) wd_344 rfl h rfl (by decide +kernel) rfl rfl dX11_image_2 (fun X1 h => ?_)
  refine ab_iloadn 1 dX11_image_5 rfl ?_
  refine ab_iconst (v := 0) dX11_image_6 (by decide) ?_
  refine ab_iconst (v := 1) dX11_image_7 (by decide) ?_
  refine fX_Si (mtc := mt_X11_isIn) (As := [.int a1, .int 0, .int 1]) h (fun Q h => ct_X11_isIn a1 0 1 X1 h) mw_X11_isIn wd_382 wd_383 rfl rfl ⟨Nat.le_of_ble_eq_true rfl, Nat.le_of_ble_eq_true rfl⟩ ⟨Nat.zero_le _, Nat.zero_le _⟩ (Nat.le_of_ble_eq_true rfl) rfl dX11_image_8 (fun v2 X3 h => ?_)
  refine ab_if_ne (tgt := 16) dX11_image_11 (by decide) (fun hc4 => ?_) (fun hc4 => ?_)
  · have h := sat_f hc4 h
    refine ab_iconst (v := 0) dX11_image_16 (by decide) ?_
    refine ab_istoren (lv' := [(0, .ref (gA G 10 0 0)), (1, .int a1), (2, .int 0)]) dX11_image_17 rfl (Nat.le_of_ble_eq_true rfl) rfl ?_
    exact t_X11_image_18 N a1 N 0 X3 h
  · have h := sat_t hc4 h
    refine ab_iconst (v := 0) dX11_image_14 (by decide) ?_
    exact fX_iret h rfl rfl dX11_image_15
theorem ct_X11_image {l : Launch} {G : GX} {C : CM} {Q : Int32 → Mem → Prop} (N : Nat) (a1 : Int32) (X : XM) (h : SAT (f_X11_image N a1 X) (fun v c => Q v (C, c))) : CT l G 2 mt_X11_image [.ref (gA G 10 0 0), .int a1] (C, X) Q := ct_of pn_X11 (Nat.le_of_ble_eq_true rfl) (t_X11_image_0 N a1 X h)
def f_X11_restore_60 (N : Nat) (a1 : Int32) : Nat → Int32 → XM → Option (Int32 × XM)
  | 0, _, _ => none
  | n + 1, a2, X => (if 8 ≤ a2 then bnd (stX X 0 33 0) (fun X2 => (rt 1 X2)) else ldL (X.2 18) 16 ((8 * a1) + a2) (fun v3 => slA X 5 16 a2 v3 (fun X4 => (f_X11_restore_60 N a1 n (a2 + 1) X4))))
def f_X11_restore_27 (N : Nat) (a1 : Int32) : Nat → Int32 → XM → Option (Int32 × XM)
  | 0, _, _ => none
  | n + 1, a2, X => (if 845 ≤ a2 then (f_X11_restore_60 N a1 N 0 X) else ldA (X.1 17) 1690 ((845 * a1) + a2) (fun v2 => sxA X 2 845 a2 v2 (fun X3 => (f_X11_restore_27 N a1 n (a2 + 1) X3))))
def f_X11_restore (N : Nat) (a1 : Int32) (X : XM) : Option (Int32 × XM) := bnd (stX X 0 0 0) (fun X1 => cal (f_X11_isIn a1 0 1 X1) (fun v2 X3 => (if v2 = 0 then (rt 0 X3) else ldA (X3.1 19) 2 a1 (fun v5 => (if v5 = 0 then (rt 0 X3) else (f_X11_restore_27 N a1 N 0 X3))))))
set_option maxRecDepth 8000 in
theorem t_X11_restore_60 {l : Launch} {G : GX} {C : CM} {Q : Int32 → Mem → Prop} (N : Nat) (a1 : Int32) : ∀ (n : Nat) (a2 : Int32) (X : XM), SAT (f_X11_restore_60 N a1 n a2 X) (fun v c => Q v (C, c)) → AB l G (rmD 2) 0 0 mt_X11_restore (ZQ G mt_X11_restore Q) 60 [(0, .ref (gA G 10 0 0)), (1, .int a1), (2, .int a2)] [] (C, X) := by
  intro n
  induction n with
  | zero => intro a2 X h; exact h.elim
  | succ n ih =>
    intro a2 X h
    rw [f_X11_restore_60] at h
    refine ab_iloadn 2 dX11_restore_60 rfl ?_
    refine ab_bipush (v := 8) dX11_restore_61 (by decide) ?_
    refine ab_icmp_ge (tgt := 89) dX11_restore_63 (by decide) (fun hc1 => ?_) (fun hc1 => ?_)
    · have h := sat_t hc1 h
      refine ab_aloadn 0 dX11_restore_89 rfl ?_
      refine ab_iconst (v := 0) dX11_restore_90 (by decide) ?_
      refine fX_pi (x := 33) (ty := .int) ⟨by decide, by decide⟩ rfl rfl (Nat.le_of_ble_eq_true rfl) wd_408 rfl h rfl (by decide +kernel) rfl rfl dX11_restore_91 (fun X2 h => ?_)
      refine ab_iconst (v := 1) dX11_restore_94 (by decide) ?_
      exact fX_iret h rfl rfl dX11_restore_95
    · have h := sat_f hc1 h
      refine ab_aloadn 0 dX11_restore_66 rfl ?_
      refine f_gr (x := 9) (k2 := 10) (i2 := 0) (j2 := 5) ⟨by decide, by decide⟩ rfl rfl (Nat.le_of_ble_eq_true rfl) wd_390 rfl rfl dX11_restore_67 ?_
      refine ab_iloadn 2 dX11_restore_70 rfl ?_
      refine ab_aloadn 0 dX11_restore_71 rfl ?_
      refine f_gr (x := 52) (k2 := 10) (i2 := 0) (j2 := 18) ⟨by decide, by decide⟩ rfl rfl (Nat.le_of_ble_eq_true rfl) wd_499 rfl rfl dX11_restore_72 ?_
      refine ab_bipush (v := 8) dX11_restore_75 (by decide) ?_
      refine ab_iloadn 1 dX11_restore_77 rfl ?_
      refine ab_imul dX11_restore_78 ?_
      refine ab_iloadn 2 dX11_restore_79 rfl ?_
      refine ab_iadd dX11_restore_80 ?_
      refine fX_lald ⟨by decide, by decide⟩ rfl (fun _ => rfl) h dX11_restore_81 (fun v3 h => ?_)
      refine fX_last ⟨by decide, by decide⟩ rfl (by decide) (fun _ => rfl) h dX11_restore_82 (fun X4 h => ?_)
      refine ab_iinc (q := 2) (v := (a2 + 1)) (lv' := [(0, .ref (gA G 10 0 0)), (1, .int a1), (2, .int (a2 + 1))]) dX11_restore_83 rfl rfl rfl (Nat.le_of_ble_eq_true rfl) rfl ?_
      refine ab_goto (tgt := 60) dX11_restore_86 (by decide) ?_
      exact ih (a2 + 1) X4 h
set_option maxRecDepth 8000 in
theorem t_X11_restore_27 {l : Launch} {G : GX} {C : CM} {Q : Int32 → Mem → Prop} (N : Nat) (a1 : Int32) : ∀ (n : Nat) (a2 : Int32) (X : XM), SAT (f_X11_restore_27 N a1 n a2 X) (fun v c => Q v (C, c)) → AB l G (rmD 2) 0 0 mt_X11_restore (ZQ G mt_X11_restore Q) 27 [(0, .ref (gA G 10 0 0)), (1, .int a1), (2, .int a2)] [] (C, X) := by
  intro n
  induction n with
  | zero => intro a2 X h; exact h.elim
  | succ n ih =>
    intro a2 X h
    rw [f_X11_restore_27] at h
    refine ab_iloadn 2 dX11_restore_27 rfl ?_
    refine ab_sipush (v := 845) dX11_restore_28 (by decide) ?_
    refine ab_icmp_ge (tgt := 58) dX11_restore_31 (by decide) (fun hc1 => ?_) (fun hc1 => ?_)
    · have h := sat_t hc1 h
      refine ab_iconst (v := 0) dX11_restore_58 (by decide) ?_
      refine ab_istoren (lv' := [(0, .ref (gA G 10 0 0)), (1, .int a1), (2, .int 0)]) dX11_restore_59 rfl (Nat.le_of_ble_eq_true rfl) rfl ?_
      exact t_X11_restore_60 N a1 N 0 X h
    · have h := sat_f hc1 h
      refine ab_aloadn 0 dX11_restore_34 rfl ?_
      refine f_gr (x := 6) (k2 := 10) (i2 := 0) (j2 := 2) ⟨by decide, by decide⟩ rfl rfl (Nat.le_of_ble_eq_true rfl) wd_406 rfl rfl dX11_restore_35 ?_
      refine ab_iloadn 2 dX11_restore_38 rfl ?_
      refine ab_aloadn 0 dX11_restore_39 rfl ?_
      refine f_gr (x := 51) (k2 := 10) (i2 := 0) (j2 := 17) ⟨by decide, by decide⟩ rfl rfl (Nat.le_of_ble_eq_true rfl) wd_497 rfl rfl dX11_restore_40 ?_
      refine ab_sipush (v := 845) dX11_restore_43 (by decide) ?_
      refine ab_iloadn 1 dX11_restore_46 rfl ?_
      refine ab_imul dX11_restore_47 ?_
      refine ab_iloadn 2 dX11_restore_48 rfl ?_
      refine ab_iadd dX11_restore_49 ?_
      refine fX_iald ⟨by decide, by decide⟩ rfl (fun _ => rfl) h dX11_restore_50 (fun v2 h => ?_)
      refine fX_iast ⟨by decide, by decide⟩ rfl (fun _ => rfl) h dX11_restore_51 (fun X3 h => ?_)
      refine ab_iinc (q := 2) (v := (a2 + 1)) (lv' := [(0, .ref (gA G 10 0 0)), (1, .int a1), (2, .int (a2 + 1))]) dX11_restore_52 rfl rfl rfl (Nat.le_of_ble_eq_true rfl) rfl ?_
      refine ab_goto (tgt := 27) dX11_restore_55 (by decide) ?_
      exact ih (a2 + 1) X3 h
set_option maxRecDepth 8000 in
theorem t_X11_restore_0 {l : Launch} {G : GX} {C : CM} {Q : Int32 → Mem → Prop} (N : Nat) (a1 : Int32) (X : XM) (h : SAT (f_X11_restore N a1 X) (fun v c => Q v (C, c))) : AB l G (rmD 2) 0 0 mt_X11_restore (ZQ G mt_X11_restore Q) 0 [(0, .ref (gA G 10 0 0)), (1, .int a1)] [] (C, X) := by
  unfold f_X11_restore at h
  refine ab_aloadn 0 dX11_restore_0 rfl ?_
  refine ab_iconst (v := 0) dX11_restore_1 (by decide) ?_
  refine fX_pi (x := 0) (ty := .int) ⟨by decide, by decide⟩ rfl rfl (Nat.le_of_ble_eq_true rfl) wd_344 rfl h rfl (by decide +kernel) rfl rfl dX11_restore_2 (fun X1 h => ?_)
  refine ab_iloadn 1 dX11_restore_5 rfl ?_
  refine ab_iconst (v := 0) dX11_restore_6 (by decide) ?_
  refine ab_iconst (v := 1) dX11_restore_7 (by decide) ?_
  refine fX_Si (mtc := mt_X11_isIn) (As := [.int a1, .int 0, .int 1]) h (fun Q h => ct_X11_isIn a1 0 1 X1 h) mw_X11_isIn wd_382 wd_383 rfl rfl ⟨Nat.le_of_ble_eq_true rfl, Nat.le_of_ble_eq_true rfl⟩ ⟨Nat.zero_le _, Nat.zero_le _⟩ (Nat.le_of_ble_eq_true rfl) rfl dX11_restore_8 (fun v2 X3 h => ?_)
  refine ab_if_eq (tgt := 23) dX11_restore_11 (by decide) (fun hc4 => ?_) (fun hc4 => ?_)
  · have h := sat_t hc4 h
    refine ab_iconst (v := 0) dX11_restore_23 (by decide) ?_
    exact fX_iret h rfl rfl dX11_restore_24
  · have h := sat_f hc4 h
    refine ab_aloadn 0 dX11_restore_14 rfl ?_
    refine f_gr (x := 53) (k2 := 10) (i2 := 0) (j2 := 19) ⟨by decide, by decide⟩ rfl rfl (Nat.le_of_ble_eq_true rfl) wd_498 rfl rfl dX11_restore_15 ?_
    refine ab_iloadn 1 dX11_restore_18 rfl ?_
    refine fX_zald ⟨by decide, by decide⟩ rfl (fun _ => rfl) h dX11_restore_19 (fun v5 h => ?_)
    refine ab_if_ne (tgt := 25) dX11_restore_20 (by decide) (fun hc6 => ?_) (fun hc6 => ?_)
    · have h := sat_f hc6 h
      refine ab_iconst (v := 0) dX11_restore_25 (by decide) ?_
      refine ab_istoren (lv' := [(0, .ref (gA G 10 0 0)), (1, .int a1), (2, .int 0)]) dX11_restore_26 rfl (Nat.le_of_ble_eq_true rfl) rfl ?_
      exact t_X11_restore_27 N a1 N 0 X3 h
    · have h := sat_t hc6 h
      refine ab_iconst (v := 0) dX11_restore_23 (by decide) ?_
      exact fX_iret h rfl rfl dX11_restore_24
theorem ct_X11_restore {l : Launch} {G : GX} {C : CM} {Q : Int32 → Mem → Prop} (N : Nat) (a1 : Int32) (X : XM) (h : SAT (f_X11_restore N a1 X) (fun v c => Q v (C, c))) : CT l G 2 mt_X11_restore [.ref (gA G 10 0 0), .int a1] (C, X) Q := ct_of pn_X11 (Nat.le_of_ble_eq_true rfl) (t_X11_restore_0 N a1 X h)
def f_X11_count (a1 : Int32) (X : XM) : Option (Int32 × XM) := bnd (stX X 0 0 0) (fun X1 => (if a1 = 7 then ldA (X1.1 2) 845 543 (fun v8 => (rt v8 X1)) else (if a1 = 8 then (rt (X1.1 0 2) X1) else cal (f_X11_isIn a1 0 6 X1) (fun v4 X5 => (if v4 = 0 then (rt (-1) X5) else ldA (X5.1 2) 845 a1 (fun v7 => (rt v7 X5)))))))
set_option maxRecDepth 8000 in
theorem t_X11_count_0 {l : Launch} {G : GX} {C : CM} {Q : Int32 → Mem → Prop} (a1 : Int32) (X : XM) (h : SAT (f_X11_count a1 X) (fun v c => Q v (C, c))) : AB l G (rmD 2) 0 0 mt_X11_count (ZQ G mt_X11_count Q) 0 [(0, .ref (gA G 10 0 0)), (1, .int a1)] [] (C, X) := by
  unfold f_X11_count at h
  refine ab_aloadn 0 dX11_count_0 rfl ?_
  refine ab_iconst (v := 0) dX11_count_1 (by decide) ?_
  refine fX_pi (x := 0) (ty := .int) ⟨by decide, by decide⟩ rfl rfl (Nat.le_of_ble_eq_true rfl) wd_344 rfl h rfl (by decide +kernel) rfl rfl dX11_count_2 (fun X1 h => ?_)
  refine ab_iloadn 1 dX11_count_5 rfl ?_
  refine ab_bipush (v := 7) dX11_count_6 (by decide) ?_
  refine ab_icmp_ne (tgt := 22) dX11_count_8 (by decide) (fun hc2 => ?_) (fun hc2 => ?_)
  · have h := sat_f hc2 h
    refine ab_iloadn 1 dX11_count_22 rfl ?_
    refine ab_bipush (v := 8) dX11_count_23 (by decide) ?_
    refine ab_icmp_ne (tgt := 35) dX11_count_25 (by decide) (fun hc3 => ?_) (fun hc3 => ?_)
    · have h := sat_f hc3 h
      refine ab_iloadn 1 dX11_count_35 rfl ?_
      refine ab_iconst (v := 0) dX11_count_36 (by decide) ?_
      refine ab_bipush (v := 6) dX11_count_37 (by decide) ?_
      refine fX_Si (mtc := mt_X11_isIn) (As := [.int a1, .int 0, .int 6]) h (fun Q h => ct_X11_isIn a1 0 6 X1 h) mw_X11_isIn wd_382 wd_383 rfl rfl ⟨Nat.le_of_ble_eq_true rfl, Nat.le_of_ble_eq_true rfl⟩ ⟨Nat.zero_le _, Nat.zero_le _⟩ (Nat.le_of_ble_eq_true rfl) rfl dX11_count_39 (fun v4 X5 h => ?_)
      refine ab_if_eq (tgt := 54) dX11_count_42 (by decide) (fun hc6 => ?_) (fun hc6 => ?_)
      · have h := sat_t hc6 h
        refine ab_iconst (v := (-1)) dX11_count_54 (by decide) ?_
        exact fX_iret h rfl rfl dX11_count_55
      · have h := sat_f hc6 h
        refine ab_aloadn 0 dX11_count_45 rfl ?_
        refine f_gr (x := 6) (k2 := 10) (i2 := 0) (j2 := 2) ⟨by decide, by decide⟩ rfl rfl (Nat.le_of_ble_eq_true rfl) wd_406 rfl rfl dX11_count_46 ?_
        refine ab_iloadn 1 dX11_count_49 rfl ?_
        refine fX_iald ⟨by decide, by decide⟩ rfl (fun _ => rfl) h dX11_count_50 (fun v7 h => ?_)
        refine ab_goto (tgt := 55) dX11_count_51 (by decide) ?_
        exact fX_iret h rfl rfl dX11_count_55
    · have h := sat_t hc3 h
      refine ab_aloadn 0 dX11_count_28 rfl ?_
      refine fX_gi (x := 2) ⟨by decide, by decide⟩ rfl rfl (Nat.le_of_ble_eq_true rfl) wd_345 rfl dX11_count_29 ?_
      refine ab_goto (tgt := 55) dX11_count_32 (by decide) ?_
      exact fX_iret h rfl rfl dX11_count_55
  · have h := sat_t hc2 h
    refine ab_aloadn 0 dX11_count_11 rfl ?_
    refine f_gr (x := 6) (k2 := 10) (i2 := 0) (j2 := 2) ⟨by decide, by decide⟩ rfl rfl (Nat.le_of_ble_eq_true rfl) wd_406 rfl rfl dX11_count_12 ?_
    refine ab_sipush (v := 543) dX11_count_15 (by decide) ?_
    refine fX_iald ⟨by decide, by decide⟩ rfl (fun _ => rfl) h dX11_count_18 (fun v8 h => ?_)
    refine ab_goto (tgt := 55) dX11_count_19 (by decide) ?_
    exact fX_iret h rfl rfl dX11_count_55
theorem ct_X11_count {l : Launch} {G : GX} {C : CM} {Q : Int32 → Mem → Prop} (a1 : Int32) (X : XM) (h : SAT (f_X11_count a1 X) (fun v c => Q v (C, c))) : CT l G 2 mt_X11_count [.ref (gA G 10 0 0), .int a1] (C, X) Q := ct_of pn_X11 (Nat.le_of_ble_eq_true rfl) (t_X11_count_0 a1 X h)
