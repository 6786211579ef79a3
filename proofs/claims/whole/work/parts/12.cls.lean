theorem ii_m1 (x : Int32) : x + Int32.ofInt (-1) = x - 1 := by rw [show Int32.ofInt (-1) = -(1 : Int32) from by decide, ← Int32.sub_eq_add_neg]
theorem ii_m2 (x : Int32) : x + Int32.ofInt (-2) = x - 2 := by rw [show Int32.ofInt (-2) = -(2 : Int32) from by decide, ← Int32.sub_eq_add_neg]
theorem ii_m3 (x : Int32) : x + Int32.ofInt (-3) = x - 3 := by rw [show Int32.ofInt (-3) = -(3 : Int32) from by decide, ← Int32.sub_eq_add_neg]
theorem ii_m8 (x : Int32) : x + Int32.ofInt (-8) = x - 8 := by rw [show Int32.ofInt (-8) = -(8 : Int32) from by decide, ← Int32.sub_eq_add_neg]
def f_X7_sees (a1 : Int32) (a2 : Int32) (C : CM) : Option (Int32 × CM) := (if (C.1 1 0 0 3) ≤ (C.1 1 0 0 4) then (rt 0 C) else ldA (C.1 1 0 1) 941 (C.1 1 0 0 4) (fun v2 => (if v2 = a1 then ldA (C.1 1 0 2) 941 (C.1 1 0 0 4) (fun v4 => (if v4 = a2 then (rt 1 C) else (rt 0 C))) else (rt 0 C))))
set_option maxRecDepth 8000 in
theorem t_X7_sees_0 {l : Launch} {G : GX} {X : XM} {Q : Int32 → Mem → Prop} (a1 : Int32) (a2 : Int32) (C : CM) (h : SAT (f_X7_sees a1 a2 C) (fun v c => Q v (c, X))) : AB l G (rmD 1) 0 0 mt_X7_sees (ZQ G mt_X7_sees Q) 0 [(0, .ref (gA G 1 0 0)), (1, .int a1), (2, .int a2)] [] (C, X) := by
  unfold f_X7_sees at h
  refine ab_aloadn 0 dX7_sees_0 rfl ?_
  refine fC_gi (x := 4) ⟨by decide, by decide⟩ rfl rfl (Nat.le_of_ble_eq_true rfl) wd_0 (by decide) rfl dX7_sees_1 ?_
  refine ab_aloadn 0 dX7_sees_4 rfl ?_
  refine fC_gi (x := 3) ⟨by decide, by decide⟩ rfl rfl (Nat.le_of_ble_eq_true rfl) wd_1 (by decide) rfl dX7_sees_5 ?_
  refine ab_icmp_ge (tgt := 41) dX7_sees_8 (by decide) (fun hc1 => ?_) (fun hc1 => ?_)
  · have h := sat_t hc1 h
    refine ab_iconst (v := 0) dX7_sees_41 (by decide) ?_
    exact fC_iret h rfl rfl dX7_sees_42
  · have h := sat_f hc1 h
    refine ab_aloadn 0 dX7_sees_11 rfl ?_
    refine f_gr (x := 0) (k2 := 1) (i2 := 0) (j2 := 1) ⟨by decide, by decide⟩ rfl rfl (Nat.le_of_ble_eq_true rfl) wd_2 rfl rfl dX7_sees_12 ?_
    refine ab_aloadn 0 dX7_sees_15 rfl ?_
    refine fC_gi (x := 4) ⟨by decide, by decide⟩ rfl rfl (Nat.le_of_ble_eq_true rfl) wd_0 (by decide) rfl dX7_sees_16 ?_
    refine fC_iald ⟨by decide, by decide⟩ rfl (by decide) (fun _ => rfl) h dX7_sees_19 (fun v2 h => ?_)
    refine ab_iloadn 1 dX7_sees_20 rfl ?_
    refine ab_icmp_ne (tgt := 41) dX7_sees_21 (by decide) (fun hc3 => ?_) (fun hc3 => ?_)
    · have h := sat_f hc3 h
      refine ab_iconst (v := 0) dX7_sees_41 (by decide) ?_
      exact fC_iret h rfl rfl dX7_sees_42
    · have h := sat_t hc3 h
      refine ab_aloadn 0 dX7_sees_24 rfl ?_
      refine f_gr (x := 1) (k2 := 1) (i2 := 0) (j2 := 2) ⟨by decide, by decide⟩ rfl rfl (Nat.le_of_ble_eq_true rfl) wd_3 rfl rfl dX7_sees_25 ?_
      refine ab_aloadn 0 dX7_sees_28 rfl ?_
      refine fC_gi (x := 4) ⟨by decide, by decide⟩ rfl rfl (Nat.le_of_ble_eq_true rfl) wd_0 (by decide) rfl dX7_sees_29 ?_
      refine fC_iald ⟨by decide, by decide⟩ rfl (by decide) (fun _ => rfl) h dX7_sees_32 (fun v4 h => ?_)
      refine ab_iloadn 2 dX7_sees_33 rfl ?_
      refine ab_icmp_ne (tgt := 41) dX7_sees_34 (by decide) (fun hc5 => ?_) (fun hc5 => ?_)
      · have h := sat_f hc5 h
        refine ab_iconst (v := 0) dX7_sees_41 (by decide) ?_
        exact fC_iret h rfl rfl dX7_sees_42
      · have h := sat_t hc5 h
        refine ab_iconst (v := 1) dX7_sees_37 (by decide) ?_
        refine ab_goto (tgt := 42) dX7_sees_38 (by decide) ?_
        exact fC_iret h rfl rfl dX7_sees_42
theorem ct_X7_sees {l : Launch} {G : GX} {X : XM} {Q : Int32 → Mem → Prop} (a1 : Int32) (a2 : Int32) (C : CM) (h : SAT (f_X7_sees a1 a2 C) (fun v c => Q v (c, X))) : CT l G 1 mt_X7_sees [.ref (gA G 1 0 0), .int a1, .int a2] (C, X) Q := ct_of pn_X7 (Nat.le_of_ble_eq_true rfl) (t_X7_sees_0 a1 a2 C h)
def f_X7_nextWord (C : CM) : Option (Int32 × CM) := (if (C.1 1 0 0 3) ≤ (C.1 1 0 0 4) then (rt (-1) C) else ldA (C.1 1 0 1) 941 (C.1 1 0 0 4) (fun v2 => (if v2 = 2 then ldA (C.1 1 0 2) 941 (C.1 1 0 0 4) (fun v4 => (rt v4 C)) else (rt (-1) C))))
set_option maxRecDepth 8000 in
theorem t_X7_nextWord_0 {l : Launch} {G : GX} {X : XM} {Q : Int32 → Mem → Prop} (C : CM) (h : SAT (f_X7_nextWord C) (fun v c => Q v (c, X))) : AB l G (rmD 1) 0 0 mt_X7_nextWord (ZQ G mt_X7_nextWord Q) 0 [(0, .ref (gA G 1 0 0))] [] (C, X) := by
  unfold f_X7_nextWord at h
  refine ab_aloadn 0 dX7_nextWord_0 rfl ?_
  refine fC_gi (x := 4) ⟨by decide, by decide⟩ rfl rfl (Nat.le_of_ble_eq_true rfl) wd_0 (by decide) rfl dX7_nextWord_1 ?_
  refine ab_aloadn 0 dX7_nextWord_4 rfl ?_
  refine fC_gi (x := 3) ⟨by decide, by decide⟩ rfl rfl (Nat.le_of_ble_eq_true rfl) wd_1 (by decide) rfl dX7_nextWord_5 ?_
  refine ab_icmp_ge (tgt := 36) dX7_nextWord_8 (by decide) (fun hc1 => ?_) (fun hc1 => ?_)
  · have h := sat_t hc1 h
    refine ab_iconst (v := (-1)) dX7_nextWord_36 (by decide) ?_
    exact fC_iret h rfl rfl dX7_nextWord_37
  · have h := sat_f hc1 h
    refine ab_aloadn 0 dX7_nextWord_11 rfl ?_
    refine f_gr (x := 0) (k2 := 1) (i2 := 0) (j2 := 1) ⟨by decide, by decide⟩ rfl rfl (Nat.le_of_ble_eq_true rfl) wd_2 rfl rfl dX7_nextWord_12 ?_
    refine ab_aloadn 0 dX7_nextWord_15 rfl ?_
    refine fC_gi (x := 4) ⟨by decide, by decide⟩ rfl rfl (Nat.le_of_ble_eq_true rfl) wd_0 (by decide) rfl dX7_nextWord_16 ?_
    refine fC_iald ⟨by decide, by decide⟩ rfl (by decide) (fun _ => rfl) h dX7_nextWord_19 (fun v2 h => ?_)
    refine ab_iconst (v := 2) dX7_nextWord_20 (by decide) ?_
    refine ab_icmp_ne (tgt := 36) dX7_nextWord_21 (by decide) (fun hc3 => ?_) (fun hc3 => ?_)
    · have h := sat_f hc3 h
      refine ab_iconst (v := (-1)) dX7_nextWord_36 (by decide) ?_
      exact fC_iret h rfl rfl dX7_nextWord_37
    · have h := sat_t hc3 h
      refine ab_aloadn 0 dX7_nextWord_24 rfl ?_
      refine f_gr (x := 1) (k2 := 1) (i2 := 0) (j2 := 2) ⟨by decide, by decide⟩ rfl rfl (Nat.le_of_ble_eq_true rfl) wd_3 rfl rfl dX7_nextWord_25 ?_
      refine ab_aloadn 0 dX7_nextWord_28 rfl ?_
      refine fC_gi (x := 4) ⟨by decide, by decide⟩ rfl rfl (Nat.le_of_ble_eq_true rfl) wd_0 (by decide) rfl dX7_nextWord_29 ?_
      refine fC_iald ⟨by decide, by decide⟩ rfl (by decide) (fun _ => rfl) h dX7_nextWord_32 (fun v4 h => ?_)
      refine ab_goto (tgt := 37) dX7_nextWord_33 (by decide) ?_
      exact fC_iret h rfl rfl dX7_nextWord_37
theorem ct_X7_nextWord {l : Launch} {G : GX} {X : XM} {Q : Int32 → Mem → Prop} (C : CM) (h : SAT (f_X7_nextWord C) (fun v c => Q v (c, X))) : CT l G 1 mt_X7_nextWord [.ref (gA G 1 0 0)] (C, X) Q := ct_of pn_X7 (Nat.le_of_ble_eq_true rfl) (t_X7_nextWord_0 C h)
def f_X7_blameNext (a1 : Int32) (C : CM) : Option (Int32 × CM) := (if (C.1 1 0 0 5) = 0 then (if (C.1 1 0 0 3) ≤ (C.1 1 0 0 4) then (rt 0 C) else bnd (stC C 1 0 0 5 a1) (fun C3 => ldA (C3.1 1 0 3) 941 (C3.1 1 0 0 4) (fun v4 => bnd (stC C3 1 0 0 6 v4) (fun C5 => (rt 0 C5))))) else (rt 0 C))
set_option maxRecDepth 8000 in
theorem t_X7_blameNext_0 {l : Launch} {G : GX} {X : XM} {Q : Int32 → Mem → Prop} (a1 : Int32) (C : CM) (h : SAT (f_X7_blameNext a1 C) (fun v c => Q v (c, X))) : AB l G (rmD 1) 0 0 mt_X7_blameNext (ZQ G mt_X7_blameNext Q) 0 [(0, .ref (gA G 1 0 0)), (1, .int a1)] [] (C, X) := by
  unfold f_X7_blameNext at h
  refine ab_aloadn 0 dX7_blameNext_0 rfl ?_
  refine fC_gi (x := 5) ⟨by decide, by decide⟩ rfl rfl (Nat.le_of_ble_eq_true rfl) wd_6 (by decide) rfl dX7_blameNext_1 ?_
  refine ab_if_ne (tgt := 36) dX7_blameNext_4 (by decide) (fun hc1 => ?_) (fun hc1 => ?_)
  · have h := sat_f hc1 h
    exact fC_vret h rfl dX7_blameNext_36
  · have h := sat_t hc1 h
    refine ab_aloadn 0 dX7_blameNext_7 rfl ?_
    refine fC_gi (x := 4) ⟨by decide, by decide⟩ rfl rfl (Nat.le_of_ble_eq_true rfl) wd_0 (by decide) rfl dX7_blameNext_8 ?_
    refine ab_aloadn 0 dX7_blameNext_11 rfl ?_
    refine fC_gi (x := 3) ⟨by decide, by decide⟩ rfl rfl (Nat.le_of_ble_eq_true rfl) wd_1 (by decide) rfl dX7_blameNext_12 ?_
    refine ab_icmp_ge (tgt := 36) dX7_blameNext_15 (by decide) (fun hc2 => ?_) (fun hc2 => ?_)
    · have h := sat_t hc2 h
      exact fC_vret h rfl dX7_blameNext_36
    · have h := sat_f hc2 h
      refine ab_aloadn 0 dX7_blameNext_18 rfl ?_
      refine ab_iloadn 1 dX7_blameNext_19 rfl ?_
      refine fC_pi (x := 5) (ty := .int) ⟨by decide, by decide⟩ rfl rfl (Nat.le_of_ble_eq_true rfl) wd_6 (by decide) rfl h rfl (by decide +kernel) rfl rfl dX7_blameNext_20 (fun C3 h => ?_)
      refine ab_aloadn 0 dX7_blameNext_23 rfl ?_
      refine ab_aloadn 0 dX7_blameNext_24 rfl ?_
      refine f_gr (x := 2) (k2 := 1) (i2 := 0) (j2 := 3) ⟨by decide, by decide⟩ rfl rfl (Nat.le_of_ble_eq_true rfl) wd_7 rfl rfl dX7_blameNext_25 ?_
      refine ab_aloadn 0 dX7_blameNext_28 rfl ?_
      refine fC_gi (x := 4) ⟨by decide, by decide⟩ rfl rfl (Nat.le_of_ble_eq_true rfl) wd_0 (by decide) rfl dX7_blameNext_29 ?_
      refine fC_iald ⟨by decide, by decide⟩ rfl (by decide) (fun _ => rfl) h dX7_blameNext_32 (fun v4 h => ?_)
      refine fC_pi (x := 6) (ty := .int) ⟨by decide, by decide⟩ rfl rfl (Nat.le_of_ble_eq_true rfl) wd_8 (by decide) rfl h rfl (by decide +kernel) rfl rfl dX7_blameNext_33 (fun C5 h => ?_)
      exact fC_vret h rfl dX7_blameNext_36
theorem ct_X7_blameNext {l : Launch} {G : GX} {X : XM} {Q : Int32 → Mem → Prop} (a1 : Int32) (C : CM) (h : SAT (f_X7_blameNext a1 C) (fun v c => Q v (c, X))) : CT l G 1 mt_X7_blameNext [.ref (gA G 1 0 0), .int a1] (C, X) Q := ct_of pn_X7 (Nat.le_of_ble_eq_true rfl) (t_X7_blameNext_0 a1 C h)
def f_X7_isSound (C : CM) : Option (Int32 × CM) := (if (C.1 1 0 0 5) = 0 then (rt 1 C) else (rt 0 C))
set_option maxRecDepth 8000 in
theorem t_X7_isSound_0 {l : Launch} {G : GX} {X : XM} {Q : Int32 → Mem → Prop} (C : CM) (h : SAT (f_X7_isSound C) (fun v c => Q v (c, X))) : AB l G (rmD 1) 0 0 mt_X7_isSound (ZQ G mt_X7_isSound Q) 0 [(0, .ref (gA G 1 0 0))] [] (C, X) := by
  unfold f_X7_isSound at h
  refine ab_aloadn 0 dX7_isSound_0 rfl ?_
  refine fC_gi (x := 5) ⟨by decide, by decide⟩ rfl rfl (Nat.le_of_ble_eq_true rfl) wd_6 (by decide) rfl dX7_isSound_1 ?_
  refine ab_if_ne (tgt := 11) dX7_isSound_4 (by decide) (fun hc1 => ?_) (fun hc1 => ?_)
  · have h := sat_f hc1 h
    refine ab_iconst (v := 0) dX7_isSound_11 (by decide) ?_
    exact fC_iret h rfl rfl dX7_isSound_12
  · have h := sat_t hc1 h
    refine ab_iconst (v := 1) dX7_isSound_7 (by decide) ?_
    refine ab_goto (tgt := 12) dX7_isSound_8 (by decide) ?_
    exact fC_iret h rfl rfl dX7_isSound_12
theorem ct_X7_isSound {l : Launch} {G : GX} {X : XM} {Q : Int32 → Mem → Prop} (C : CM) (h : SAT (f_X7_isSound C) (fun v c => Q v (c, X))) : CT l G 1 mt_X7_isSound [.ref (gA G 1 0 0)] (C, X) Q := ct_of pn_X7 (Nat.le_of_ble_eq_true rfl) (t_X7_isSound_0 C h)
def f_X7_take (C : CM) : Option (Int32 × CM) := (if (C.1 1 0 0 3) ≤ (C.1 1 0 0 4) then (rt 0 C) else bnd (stC C 1 0 0 4 ((C.1 1 0 0 4) + 1)) (fun C2 => (rt 0 C2)))
set_option maxRecDepth 8000 in
theorem t_X7_take_0 {l : Launch} {G : GX} {X : XM} {Q : Int32 → Mem → Prop} (C : CM) (h : SAT (f_X7_take C) (fun v c => Q v (c, X))) : AB l G (rmD 1) 0 0 mt_X7_take (ZQ G mt_X7_take Q) 0 [(0, .ref (gA G 1 0 0))] [] (C, X) := by
  unfold f_X7_take at h
  refine ab_aloadn 0 dX7_take_0 rfl ?_
  refine fC_gi (x := 4) ⟨by decide, by decide⟩ rfl rfl (Nat.le_of_ble_eq_true rfl) wd_0 (by decide) rfl dX7_take_1 ?_
  refine ab_aloadn 0 dX7_take_4 rfl ?_
  refine fC_gi (x := 3) ⟨by decide, by decide⟩ rfl rfl (Nat.le_of_ble_eq_true rfl) wd_1 (by decide) rfl dX7_take_5 ?_
  refine ab_icmp_ge (tgt := 21) dX7_take_8 (by decide) (fun hc1 => ?_) (fun hc1 => ?_)
  · have h := sat_t hc1 h
    exact fC_vret h rfl dX7_take_21
  · have h := sat_f hc1 h
    refine ab_aloadn 0 dX7_take_11 rfl ?_
    refine ab_dup dX7_take_12 rfl ?_
    refine fC_gi (x := 4) ⟨by decide, by decide⟩ rfl rfl (Nat.le_of_ble_eq_true rfl) wd_0 (by decide) rfl dX7_take_13 ?_
    refine ab_iconst (v := 1) dX7_take_16 (by decide) ?_
    refine ab_iadd dX7_take_17 ?_
    refine fC_pi (x := 4) (ty := .int) ⟨by decide, by decide⟩ rfl rfl (Nat.le_of_ble_eq_true rfl) wd_0 (by decide) rfl h rfl (by decide +kernel) rfl rfl dX7_take_18 (fun C2 h => ?_)
    exact fC_vret h rfl dX7_take_21
theorem ct_X7_take {l : Launch} {G : GX} {X : XM} {Q : Int32 → Mem → Prop} (C : CM) (h : SAT (f_X7_take C) (fun v c => Q v (c, X))) : CT l G 1 mt_X7_take [.ref (gA G 1 0 0)] (C, X) Q := ct_of pn_X7 (Nat.le_of_ble_eq_true rfl) (t_X7_take_0 C h)
def f_X5_takeSign_3 (N : Nat) : Nat → Int32 → CM → Option (Int32 × CM)
  | 0, _, _ => none
  | n + 1, a1, C => (if 62 < a1 then cal (f_X7_blameNext 1 C) (fun v2 C3 => (rt (-1) C3)) else cal (f_X7_sees 5 a1 C) (fun v4 C5 => (if v4 = 0 then (f_X5_takeSign_3 N n (a1 + 1) C5) else cal (f_X7_take C5) (fun v7 C8 => (rt a1 C8)))))
def f_X5_takeSign (N : Nat) (C : CM) : Option (Int32 × CM) := (f_X5_takeSign_3 N N 60 C)
set_option maxRecDepth 8000 in
theorem t_X5_takeSign_3 {l : Launch} {G : GX} {X : XM} {Q : Int32 → Mem → Prop} (N : Nat) : ∀ (n : Nat) (a1 : Int32) (C : CM), SAT (f_X5_takeSign_3 N n a1 C) (fun v c => Q v (c, X)) → AB l G (rmD 2) 0 0 mt_X5_takeSign (ZQ G mt_X5_takeSign Q) 3 [(0, .ref (gA G 1 0 0)), (1, .int a1)] [] (C, X) := by
  intro n
  induction n with
  | zero => intro a1 C h; exact h.elim
  | succ n ih =>
    intro a1 C h
    rw [f_X5_takeSign_3] at h
    refine ab_iloadn 1 dX5_takeSign_3 rfl ?_
    refine ab_bipush (v := 62) dX5_takeSign_4 (by decide) ?_
    refine ab_icmp_gt (tgt := 30) dX5_takeSign_6 (by decide) (fun hc1 => ?_) (fun hc1 => ?_)
    · have h := sat_t hc1 h
      refine ab_aloadn 0 dX5_takeSign_30 rfl ?_
      refine ab_iconst (v := 1) dX5_takeSign_31 (by decide) ?_
      refine fC_Vv (mtc := mt_X7_blameNext) (As := [.int 1]) h (fun Q h => ct_X7_blameNext 1 C h) ⟨by decide, by decide⟩ rfl rfl rfl mw_X7_blameNext wd_9 rfl rfl ⟨Nat.le_of_ble_eq_true rfl, Nat.le_of_ble_eq_true rfl⟩ ⟨Nat.zero_le _, Nat.zero_le _⟩ (Nat.le_of_ble_eq_true rfl) rfl dX5_takeSign_32 (fun v2 C3 h => ?_)
      refine ab_iconst (v := (-1)) dX5_takeSign_35 (by decide) ?_
      exact fC_iret h rfl rfl dX5_takeSign_36
    · have h := sat_f hc1 h
      refine ab_aloadn 0 dX5_takeSign_9 rfl ?_
      refine ab_iconst (v := 5) dX5_takeSign_10 (by decide) ?_
      refine ab_iloadn 1 dX5_takeSign_11 rfl ?_
      refine fC_Vi (mtc := mt_X7_sees) (As := [.int 5, .int a1]) h (fun Q h => ct_X7_sees 5 a1 C h) ⟨by decide, by decide⟩ rfl rfl rfl mw_X7_sees wd_4 rfl rfl ⟨Nat.le_of_ble_eq_true rfl, Nat.le_of_ble_eq_true rfl⟩ ⟨Nat.zero_le _, Nat.zero_le _⟩ (Nat.le_of_ble_eq_true rfl) rfl dX5_takeSign_12 (fun v4 C5 h => ?_)
      refine ab_if_eq (tgt := 24) dX5_takeSign_15 (by decide) (fun hc6 => ?_) (fun hc6 => ?_)
      · have h := sat_t hc6 h
        refine ab_iinc (q := 1) (v := (a1 + 1)) (lv' := [(0, .ref (gA G 1 0 0)), (1, .int (a1 + 1))]) dX5_takeSign_24 rfl rfl rfl (Nat.le_of_ble_eq_true rfl) rfl ?_
        refine ab_goto (tgt := 3) dX5_takeSign_27 (by decide) ?_
        exact ih (a1 + 1) C5 h
      · have h := sat_f hc6 h
        refine ab_aloadn 0 dX5_takeSign_18 rfl ?_
        refine fC_Vv (mtc := mt_X7_take) (As := []) h (fun Q h => ct_X7_take C5 h) ⟨by decide, by decide⟩ rfl rfl rfl mw_X7_take wd_12 rfl rfl ⟨Nat.le_of_ble_eq_true rfl, Nat.le_of_ble_eq_true rfl⟩ ⟨Nat.zero_le _, Nat.zero_le _⟩ (Nat.le_of_ble_eq_true rfl) rfl dX5_takeSign_19 (fun v7 C8 h => ?_)
        refine ab_iloadn 1 dX5_takeSign_22 rfl ?_
        exact fC_iret h rfl rfl dX5_takeSign_23
set_option maxRecDepth 8000 in
theorem t_X5_takeSign_0 {l : Launch} {G : GX} {X : XM} {Q : Int32 → Mem → Prop} (N : Nat) (C : CM) (h : SAT (f_X5_takeSign N C) (fun v c => Q v (c, X))) : AB l G (rmD 2) 0 0 mt_X5_takeSign (ZQ G mt_X5_takeSign Q) 0 [(0, .ref (gA G 1 0 0))] [] (C, X) := by
  unfold f_X5_takeSign at h
  refine ab_bipush (v := 60) dX5_takeSign_0 (by decide) ?_
  refine ab_istoren (lv' := [(0, .ref (gA G 1 0 0)), (1, .int 60)]) dX5_takeSign_2 rfl (Nat.le_of_ble_eq_true rfl) rfl ?_
  exact t_X5_takeSign_3 N N 60 C h
theorem ct_X5_takeSign {l : Launch} {G : GX} {X : XM} {Q : Int32 → Mem → Prop} (N : Nat) (C : CM) (h : SAT (f_X5_takeSign N C) (fun v c => Q v (c, X))) : CT l G 2 mt_X5_takeSign [.ref (gA G 1 0 0)] (C, X) Q := ct_of pn_X5 (Nat.le_of_ble_eq_true rfl) (t_X5_takeSign_0 N C h)
def f_X7_takeKind (a1 : Int32) (C : CM) : Option (Int32 × CM) := (if (C.1 1 0 0 5) = 0 then (if (C.1 1 0 0 4) < (C.1 1 0 0 3) then ldA (C.1 1 0 1) 941 (C.1 1 0 0 4) (fun v3 => (if v3 = a1 then ldA (C.1 1 0 2) 941 (C.1 1 0 0 4) (fun v5 => bnd (stC C 1 0 0 4 ((C.1 1 0 0 4) + 1)) (fun C6 => (rt v5 C6))) else bnd (stC C 1 0 0 5 1) (fun C7 => ldA (C7.1 1 0 3) 941 (C7.1 1 0 0 4) (fun v8 => bnd (stC C7 1 0 0 6 v8) (fun C9 => (rt (-1) C9)))))) else (rt (-1) C)) else (rt (-1) C))
set_option maxRecDepth 8000 in
theorem t_X7_takeKind_0 {l : Launch} {G : GX} {X : XM} {Q : Int32 → Mem → Prop} (a1 : Int32) (C : CM) (h : SAT (f_X7_takeKind a1 C) (fun v c => Q v (c, X))) : AB l G (rmD 1) 0 0 mt_X7_takeKind (ZQ G mt_X7_takeKind Q) 0 [(0, .ref (gA G 1 0 0)), (1, .int a1)] [] (C, X) := by
  unfold f_X7_takeKind at h
  refine ab_aloadn 0 dX7_takeKind_0 rfl ?_
  refine fC_gi (x := 5) ⟨by decide, by decide⟩ rfl rfl (Nat.le_of_ble_eq_true rfl) wd_6 (by decide) rfl dX7_takeKind_1 ?_
  refine ab_if_ne (tgt := 18) dX7_takeKind_4 (by decide) (fun hc1 => ?_) (fun hc1 => ?_)
  · have h := sat_f hc1 h
    refine ab_iconst (v := (-1)) dX7_takeKind_18 (by decide) ?_
    exact fC_iret h rfl rfl dX7_takeKind_19
  · have h := sat_t hc1 h
    refine ab_aloadn 0 dX7_takeKind_7 rfl ?_
    refine fC_gi (x := 4) ⟨by decide, by decide⟩ rfl rfl (Nat.le_of_ble_eq_true rfl) wd_0 (by decide) rfl dX7_takeKind_8 ?_
    refine ab_aloadn 0 dX7_takeKind_11 rfl ?_
    refine fC_gi (x := 3) ⟨by decide, by decide⟩ rfl rfl (Nat.le_of_ble_eq_true rfl) wd_1 (by decide) rfl dX7_takeKind_12 ?_
    refine ab_icmp_lt (tgt := 20) dX7_takeKind_15 (by decide) (fun hc2 => ?_) (fun hc2 => ?_)
    · have h := sat_t hc2 h
      refine ab_aloadn 0 dX7_takeKind_20 rfl ?_
      refine f_gr (x := 0) (k2 := 1) (i2 := 0) (j2 := 1) ⟨by decide, by decide⟩ rfl rfl (Nat.le_of_ble_eq_true rfl) wd_2 rfl rfl dX7_takeKind_21 ?_
      refine ab_aloadn 0 dX7_takeKind_24 rfl ?_
      refine fC_gi (x := 4) ⟨by decide, by decide⟩ rfl rfl (Nat.le_of_ble_eq_true rfl) wd_0 (by decide) rfl dX7_takeKind_25 ?_
      refine fC_iald ⟨by decide, by decide⟩ rfl (by decide) (fun _ => rfl) h dX7_takeKind_28 (fun v3 h => ?_)
      refine ab_iloadn 1 dX7_takeKind_29 rfl ?_
      refine ab_icmp_eq (tgt := 53) dX7_takeKind_30 (by decide) (fun hc4 => ?_) (fun hc4 => ?_)
      · have h := sat_t hc4 h
        refine ab_aloadn 0 dX7_takeKind_53 rfl ?_
        refine f_gr (x := 1) (k2 := 1) (i2 := 0) (j2 := 2) ⟨by decide, by decide⟩ rfl rfl (Nat.le_of_ble_eq_true rfl) wd_3 rfl rfl dX7_takeKind_54 ?_
        refine ab_aloadn 0 dX7_takeKind_57 rfl ?_
        refine fC_gi (x := 4) ⟨by decide, by decide⟩ rfl rfl (Nat.le_of_ble_eq_true rfl) wd_0 (by decide) rfl dX7_takeKind_58 ?_
        refine fC_iald ⟨by decide, by decide⟩ rfl (by decide) (fun _ => rfl) h dX7_takeKind_61 (fun v5 h => ?_)
        refine ab_istoren (lv' := [(0, .ref (gA G 1 0 0)), (1, .int a1), (2, .int v5)]) dX7_takeKind_62 rfl (Nat.le_of_ble_eq_true rfl) rfl ?_
        refine ab_aloadn 0 dX7_takeKind_63 rfl ?_
        refine ab_dup dX7_takeKind_64 rfl ?_
        refine fC_gi (x := 4) ⟨by decide, by decide⟩ rfl rfl (Nat.le_of_ble_eq_true rfl) wd_0 (by decide) rfl dX7_takeKind_65 ?_
        refine ab_iconst (v := 1) dX7_takeKind_68 (by decide) ?_
        refine ab_iadd dX7_takeKind_69 ?_
        refine fC_pi (x := 4) (ty := .int) ⟨by decide, by decide⟩ rfl rfl (Nat.le_of_ble_eq_true rfl) wd_0 (by decide) rfl h rfl (by decide +kernel) rfl rfl dX7_takeKind_70 (fun C6 h => ?_)
        refine ab_iloadn 2 dX7_takeKind_73 rfl ?_
        exact fC_iret h rfl rfl dX7_takeKind_74
      · have h := sat_f hc4 h
        refine ab_aloadn 0 dX7_takeKind_33 rfl ?_
        refine ab_iconst (v := 1) dX7_takeKind_34 (by decide) ?_
        refine fC_pi (x := 5) (ty := .int) ⟨by decide, by decide⟩ rfl rfl (Nat.le_of_ble_eq_true rfl) wd_6 (by decide) rfl h rfl (by decide +kernel) rfl rfl dX7_takeKind_35 (fun C7 h => ?_)
        refine ab_aloadn 0 dX7_takeKind_38 rfl ?_
        refine ab_aloadn 0 dX7_takeKind_39 rfl ?_
        refine f_gr (x := 2) (k2 := 1) (i2 := 0) (j2 := 3) ⟨by decide, by decide⟩ rfl rfl (Nat.le_of_ble_eq_true rfl) wd_7 rfl rfl dX7_takeKind_40 ?_
        refine ab_aloadn 0 dX7_takeKind_43 rfl ?_
        refine fC_gi (x := 4) ⟨by decide, by decide⟩ rfl rfl (Nat.le_of_ble_eq_true rfl) wd_0 (by decide) rfl dX7_takeKind_44 ?_
        refine fC_iald ⟨by decide, by decide⟩ rfl (by decide) (fun _ => rfl) h dX7_takeKind_47 (fun v8 h => ?_)
        refine fC_pi (x := 6) (ty := .int) ⟨by decide, by decide⟩ rfl rfl (Nat.le_of_ble_eq_true rfl) wd_8 (by decide) rfl h rfl (by decide +kernel) rfl rfl dX7_takeKind_48 (fun C9 h => ?_)
        refine ab_iconst (v := (-1)) dX7_takeKind_51 (by decide) ?_
        exact fC_iret h rfl rfl dX7_takeKind_52
    · have h := sat_f hc2 h
      refine ab_iconst (v := (-1)) dX7_takeKind_18 (by decide) ?_
      exact fC_iret h rfl rfl dX7_takeKind_19
theorem ct_X7_takeKind {l : Launch} {G : GX} {X : XM} {Q : Int32 → Mem → Prop} (a1 : Int32) (C : CM) (h : SAT (f_X7_takeKind a1 C) (fun v c => Q v (c, X))) : CT l G 1 mt_X7_takeKind [.ref (gA G 1 0 0), .int a1] (C, X) Q := ct_of pn_X7 (Nat.le_of_ble_eq_true rfl) (t_X7_takeKind_0 a1 C h)
def f_X7_blameTaken (a1 : Int32) (C : CM) : Option (Int32 × CM) := (if (C.1 1 0 0 5) = 0 then (if (C.1 1 0 0 4) ≤ 0 then (rt 0 C) else (if (C.1 1 0 0 3) < (C.1 1 0 0 4) then (rt 0 C) else bnd (stC C 1 0 0 5 a1) (fun C4 => ldA (C4.1 1 0 3) 941 ((C4.1 1 0 0 4) - 1) (fun v5 => bnd (stC C4 1 0 0 6 v5) (fun C6 => (rt 0 C6)))))) else (rt 0 C))
set_option maxRecDepth 8000 in
theorem t_X7_blameTaken_0 {l : Launch} {G : GX} {X : XM} {Q : Int32 → Mem → Prop} (a1 : Int32) (C : CM) (h : SAT (f_X7_blameTaken a1 C) (fun v c => Q v (c, X))) : AB l G (rmD 1) 0 0 mt_X7_blameTaken (ZQ G mt_X7_blameTaken Q) 0 [(0, .ref (gA G 1 0 0)), (1, .int a1)] [] (C, X) := by
  unfold f_X7_blameTaken at h
  refine ab_aloadn 0 dX7_blameTaken_0 rfl ?_
  refine fC_gi (x := 5) ⟨by decide, by decide⟩ rfl rfl (Nat.le_of_ble_eq_true rfl) wd_6 (by decide) rfl dX7_blameTaken_1 ?_
  refine ab_if_ne (tgt := 45) dX7_blameTaken_4 (by decide) (fun hc1 => ?_) (fun hc1 => ?_)
  · have h := sat_f hc1 h
    exact fC_vret h rfl dX7_blameTaken_45
  · have h := sat_t hc1 h
    refine ab_aloadn 0 dX7_blameTaken_7 rfl ?_
    refine fC_gi (x := 4) ⟨by decide, by decide⟩ rfl rfl (Nat.le_of_ble_eq_true rfl) wd_0 (by decide) rfl dX7_blameTaken_8 ?_
    refine ab_if_le (tgt := 45) dX7_blameTaken_11 (by decide) (fun hc2 => ?_) (fun hc2 => ?_)
    · have h := sat_t hc2 h
      exact fC_vret h rfl dX7_blameTaken_45
    · have h := sat_f hc2 h
      refine ab_aloadn 0 dX7_blameTaken_14 rfl ?_
      refine fC_gi (x := 4) ⟨by decide, by decide⟩ rfl rfl (Nat.le_of_ble_eq_true rfl) wd_0 (by decide) rfl dX7_blameTaken_15 ?_
      refine ab_aloadn 0 dX7_blameTaken_18 rfl ?_
      refine fC_gi (x := 3) ⟨by decide, by decide⟩ rfl rfl (Nat.le_of_ble_eq_true rfl) wd_1 (by decide) rfl dX7_blameTaken_19 ?_
      refine ab_icmp_gt (tgt := 45) dX7_blameTaken_22 (by decide) (fun hc3 => ?_) (fun hc3 => ?_)
      · have h := sat_t hc3 h
        exact fC_vret h rfl dX7_blameTaken_45
      · have h := sat_f hc3 h
        refine ab_aloadn 0 dX7_blameTaken_25 rfl ?_
        refine ab_iloadn 1 dX7_blameTaken_26 rfl ?_
        refine fC_pi (x := 5) (ty := .int) ⟨by decide, by decide⟩ rfl rfl (Nat.le_of_ble_eq_true rfl) wd_6 (by decide) rfl h rfl (by decide +kernel) rfl rfl dX7_blameTaken_27 (fun C4 h => ?_)
        refine ab_aloadn 0 dX7_blameTaken_30 rfl ?_
        refine ab_aloadn 0 dX7_blameTaken_31 rfl ?_
        refine f_gr (x := 2) (k2 := 1) (i2 := 0) (j2 := 3) ⟨by decide, by decide⟩ rfl rfl (Nat.le_of_ble_eq_true rfl) wd_7 rfl rfl dX7_blameTaken_32 ?_
        refine ab_aloadn 0 dX7_blameTaken_35 rfl ?_
        refine fC_gi (x := 4) ⟨by decide, by decide⟩ rfl rfl (Nat.le_of_ble_eq_true rfl) wd_0 (by decide) rfl dX7_blameTaken_36 ?_
        refine ab_iconst (v := 1) dX7_blameTaken_39 (by decide) ?_
        refine ab_isub dX7_blameTaken_40 ?_
        refine fC_iald ⟨by decide, by decide⟩ rfl (by decide) (fun _ => rfl) h dX7_blameTaken_41 (fun v5 h => ?_)
        refine fC_pi (x := 6) (ty := .int) ⟨by decide, by decide⟩ rfl rfl (Nat.le_of_ble_eq_true rfl) wd_8 (by decide) rfl h rfl (by decide +kernel) rfl rfl dX7_blameTaken_42 (fun C6 h => ?_)
        exact fC_vret h rfl dX7_blameTaken_45
theorem ct_X7_blameTaken {l : Launch} {G : GX} {X : XM} {Q : Int32 → Mem → Prop} (a1 : Int32) (C : CM) (h : SAT (f_X7_blameTaken a1 C) (fun v c => Q v (c, X))) : CT l G 1 mt_X7_blameTaken [.ref (gA G 1 0 0), .int a1] (C, X) Q := ct_of pn_X7 (Nat.le_of_ble_eq_true rfl) (t_X7_blameTaken_0 a1 C h)
def f_X7_takeNumber_28 (a3 : Int32) (C : CM) : Option (Int32 × CM) := (if (C.1 1 0 0 5) = 0 then (rt a3 C) else (rt (-1) C))
def f_X7_takeNumber_23 (a3 : Int32) (C : CM) : Option (Int32 × CM) := cal (f_X7_blameTaken 2 C) (fun v1 C2 => (f_X7_takeNumber_28 a3 C2))
def f_X7_takeNumber (a1 : Int32) (a2 : Int32) (C : CM) : Option (Int32 × CM) := cal (f_X7_takeKind 4 C) (fun v1 C2 => (if (C2.1 1 0 0 5) = 0 then (if v1 < a1 then (f_X7_takeNumber_23 v1 C2) else (if v1 ≤ a2 then (f_X7_takeNumber_28 v1 C2) else (f_X7_takeNumber_23 v1 C2))) else (f_X7_takeNumber_28 v1 C2)))
set_option maxRecDepth 8000 in
theorem t_X7_takeNumber_28 {l : Launch} {G : GX} {X : XM} {Q : Int32 → Mem → Prop} (a3 : Int32) (C : CM) (h : SAT (f_X7_takeNumber_28 a3 C) (fun v c => Q v (c, X))) : AB l G (rmD 2) 0 0 mt_X7_takeNumber (ZQ G mt_X7_takeNumber Q) 28 [(0, .ref (gA G 1 0 0)), (3, .int a3)] [] (C, X) := by
  unfold f_X7_takeNumber_28 at h
  refine ab_aloadn 0 dX7_takeNumber_28 rfl ?_
  refine fC_gi (x := 5) ⟨by decide, by decide⟩ rfl rfl (Nat.le_of_ble_eq_true rfl) wd_6 (by decide) rfl dX7_takeNumber_29 ?_
  refine ab_if_ne (tgt := 39) dX7_takeNumber_32 (by decide) (fun hc1 => ?_) (fun hc1 => ?_)
  · have h := sat_f hc1 h
    refine ab_iconst (v := (-1)) dX7_takeNumber_39 (by decide) ?_
    exact fC_iret h rfl rfl dX7_takeNumber_40
  · have h := sat_t hc1 h
    refine ab_iloadn 1 dX7_takeNumber_35 rfl ?_
    refine ab_goto (tgt := 40) dX7_takeNumber_36 (by decide) ?_
    exact fC_iret h rfl rfl dX7_takeNumber_40
set_option maxRecDepth 8000 in
theorem t_X7_takeNumber_23 {l : Launch} {G : GX} {X : XM} {Q : Int32 → Mem → Prop} (a3 : Int32) (C : CM) (h : SAT (f_X7_takeNumber_23 a3 C) (fun v c => Q v (c, X))) : AB l G (rmD 2) 0 0 mt_X7_takeNumber (ZQ G mt_X7_takeNumber Q) 23 [(0, .ref (gA G 1 0 0)), (3, .int a3)] [] (C, X) := by
  unfold f_X7_takeNumber_23 at h
  refine ab_aloadn 0 dX7_takeNumber_23 rfl ?_
  refine ab_iconst (v := 2) dX7_takeNumber_24 (by decide) ?_
  refine fC_Vv (mtc := mt_X7_blameTaken) (As := [.int 2]) h (fun Q h => ct_X7_blameTaken 2 C h) ⟨by decide, by decide⟩ rfl rfl rfl mw_X7_blameTaken wd_16 rfl rfl ⟨Nat.le_of_ble_eq_true rfl, Nat.le_of_ble_eq_true rfl⟩ ⟨Nat.zero_le _, Nat.zero_le _⟩ (Nat.le_of_ble_eq_true rfl) rfl dX7_takeNumber_25 (fun v1 C2 h => ?_)
  exact t_X7_takeNumber_28 a3 C2 h
set_option maxRecDepth 8000 in
theorem t_X7_takeNumber_0 {l : Launch} {G : GX} {X : XM} {Q : Int32 → Mem → Prop} (a1 : Int32) (a2 : Int32) (C : CM) (h : SAT (f_X7_takeNumber a1 a2 C) (fun v c => Q v (c, X))) : AB l G (rmD 2) 0 0 mt_X7_takeNumber (ZQ G mt_X7_takeNumber Q) 0 [(0, .ref (gA G 1 0 0)), (1, .int a1), (2, .int a2)] [] (C, X) := by
  unfold f_X7_takeNumber at h
  refine ab_aloadn 0 dX7_takeNumber_0 rfl ?_
  refine ab_iconst (v := 4) dX7_takeNumber_1 (by decide) ?_
  refine fC_Vi (mtc := mt_X7_takeKind) (As := [.int 4]) h (fun Q h => ct_X7_takeKind 4 C h) ⟨by decide, by decide⟩ rfl rfl rfl mw_X7_takeKind wd_15 rfl rfl ⟨Nat.le_of_ble_eq_true rfl, Nat.le_of_ble_eq_true rfl⟩ ⟨Nat.zero_le _, Nat.zero_le _⟩ (Nat.le_of_ble_eq_true rfl) rfl dX7_takeNumber_2 (fun v1 C2 h => ?_)
  refine ab_istoren (lv' := [(0, .ref (gA G 1 0 0)), (1, .int a1), (2, .int a2), (3, .int v1)]) dX7_takeNumber_5 rfl (Nat.le_of_ble_eq_true rfl) rfl ?_
  refine ab_aloadn 0 dX7_takeNumber_6 rfl ?_
  refine fC_gi (x := 5) ⟨by decide, by decide⟩ rfl rfl (Nat.le_of_ble_eq_true rfl) wd_6 (by decide) rfl dX7_takeNumber_7 ?_
  refine ab_if_ne (tgt := 28) dX7_takeNumber_10 (by decide) (fun hc3 => ?_) (fun hc3 => ?_)
  · have h := sat_f hc3 h
    refine ab_sub [0, 3] rfl ?_
    exact t_X7_takeNumber_28 v1 C2 h
  · have h := sat_t hc3 h
    refine ab_iloadn 3 dX7_takeNumber_13 rfl ?_
    refine ab_iloadn 1 dX7_takeNumber_14 rfl ?_
    refine ab_icmp_lt (tgt := 23) dX7_takeNumber_15 (by decide) (fun hc4 => ?_) (fun hc4 => ?_)
    · have h := sat_t hc4 h
      refine ab_sub [0, 3] rfl ?_
      exact t_X7_takeNumber_23 v1 C2 h
    · have h := sat_f hc4 h
      refine ab_iloadn 3 dX7_takeNumber_18 rfl ?_
      refine ab_iloadn 2 dX7_takeNumber_19 rfl ?_
      refine ab_icmp_le (tgt := 28) dX7_takeNumber_20 (by decide) (fun hc5 => ?_) (fun hc5 => ?_)
      · have h := sat_t hc5 h
        refine ab_sub [0, 3] rfl ?_
        exact t_X7_takeNumber_28 v1 C2 h
      · have h := sat_f hc5 h
        refine ab_sub [0, 3] rfl ?_
        exact t_X7_takeNumber_23 v1 C2 h
theorem ct_X7_takeNumber {l : Launch} {G : GX} {X : XM} {Q : Int32 → Mem → Prop} (a1 : Int32) (a2 : Int32) (C : CM) (h : SAT (f_X7_takeNumber a1 a2 C) (fun v c => Q v (c, X))) : CT l G 2 mt_X7_takeNumber [.ref (gA G 1 0 0), .int a1, .int a2] (C, X) Q := ct_of pn_X7 (Nat.le_of_ble_eq_true rfl) (t_X7_takeNumber_0 a1 a2 C h)
def f_X5_add (r0 : Nat) (a1 : Int32) (a2 : Int32) (a3 : Int32) (C : CM) : Option (Int32 × CM) := (if 40 ≤ (C.1 6 r0 0 1) then (rt 0 C) else stA C 6 r0 1 40 (C.1 6 r0 0 1) a1 (fun C2 => stA C2 6 r0 2 40 (C2.1 6 r0 0 1) a2 (fun C3 => stA C3 6 r0 3 40 (C3.1 6 r0 0 1) a3 (fun C4 => bnd (stC C4 6 r0 0 1 ((C4.1 6 r0 0 1) + 1)) (fun C5 => (rt 0 C5))))))
set_option maxRecDepth 8000 in
theorem t_X5_add_0 {l : Launch} {G : GX} {X : XM} {Q : Int32 → Mem → Prop} (r0 : Nat) (h0 : r0 < 4) (a1 : Int32) (a2 : Int32) (a3 : Int32) (C : CM) (h : SAT (f_X5_add r0 a1 a2 a3 C) (fun v c => Q v (c, X))) : AB l G (rmD 1) 0 0 mt_X5_add (ZQ G mt_X5_add Q) 0 [(0, .ref (gA G 6 r0 0)), (1, .int a1), (2, .int a2), (3, .int a3)] [] (C, X) := by
  unfold f_X5_add at h
  refine ab_aloadn 0 dX5_add_0 rfl ?_
  refine fC_gi (x := 1) ⟨h0, by decide⟩ rfl rfl (Nat.le_of_ble_eq_true rfl) wd_18 (by decide) rfl dX5_add_1 ?_
  refine ab_bipush (v := 40) dX5_add_4 (by decide) ?_
  refine ab_icmp_ge (tgt := 49) dX5_add_6 (by decide) (fun hc1 => ?_) (fun hc1 => ?_)
  · have h := sat_t hc1 h
    exact fC_vret h rfl dX5_add_49
  · have h := sat_f hc1 h
    refine ab_aloadn 0 dX5_add_9 rfl ?_
    refine f_gr (x := 2) (k2 := 6) (i2 := r0) (j2 := 1) ⟨h0, by decide⟩ rfl rfl (Nat.le_of_ble_eq_true rfl) wd_19 rfl rfl dX5_add_10 ?_
    refine ab_aloadn 0 dX5_add_13 rfl ?_
    refine fC_gi (x := 1) ⟨h0, by decide⟩ rfl rfl (Nat.le_of_ble_eq_true rfl) wd_18 (by decide) rfl dX5_add_14 ?_
    refine ab_iloadn 1 dX5_add_17 rfl ?_
    refine fC_iast ⟨h0, by decide⟩ rfl (by decide) (fun _ => rfl) h dX5_add_18 (fun C2 h => ?_)
    refine ab_aloadn 0 dX5_add_19 rfl ?_
    refine f_gr (x := 3) (k2 := 6) (i2 := r0) (j2 := 2) ⟨h0, by decide⟩ rfl rfl (Nat.le_of_ble_eq_true rfl) wd_20 rfl rfl dX5_add_20 ?_
    refine ab_aloadn 0 dX5_add_23 rfl ?_
    refine fC_gi (x := 1) ⟨h0, by decide⟩ rfl rfl (Nat.le_of_ble_eq_true rfl) wd_18 (by decide) rfl dX5_add_24 ?_
    refine ab_iloadn 2 dX5_add_27 rfl ?_
    refine fC_iast ⟨h0, by decide⟩ rfl (by decide) (fun _ => rfl) h dX5_add_28 (fun C3 h => ?_)
    refine ab_aloadn 0 dX5_add_29 rfl ?_
    refine f_gr (x := 4) (k2 := 6) (i2 := r0) (j2 := 3) ⟨h0, by decide⟩ rfl rfl (Nat.le_of_ble_eq_true rfl) wd_21 rfl rfl dX5_add_30 ?_
    refine ab_aloadn 0 dX5_add_33 rfl ?_
    refine fC_gi (x := 1) ⟨h0, by decide⟩ rfl rfl (Nat.le_of_ble_eq_true rfl) wd_18 (by decide) rfl dX5_add_34 ?_
    refine ab_iloadn 3 dX5_add_37 rfl ?_
    refine fC_iast ⟨h0, by decide⟩ rfl (by decide) (fun _ => rfl) h dX5_add_38 (fun C4 h => ?_)
    refine ab_aloadn 0 dX5_add_39 rfl ?_
    refine ab_dup dX5_add_40 rfl ?_
    refine fC_gi (x := 1) ⟨h0, by decide⟩ rfl rfl (Nat.le_of_ble_eq_true rfl) wd_18 (by decide) rfl dX5_add_41 ?_
    refine ab_iconst (v := 1) dX5_add_44 (by decide) ?_
    refine ab_iadd dX5_add_45 ?_
    refine fC_pi (x := 1) (ty := .int) ⟨h0, by decide⟩ rfl rfl (Nat.le_of_ble_eq_true rfl) wd_18 (by decide) rfl h rfl (by decide +kernel) rfl rfl dX5_add_46 (fun C5 h => ?_)
    exact fC_vret h rfl dX5_add_49
theorem ct_X5_add {l : Launch} {G : GX} {X : XM} {Q : Int32 → Mem → Prop} (r0 : Nat) (h0 : r0 < 4) (a1 : Int32) (a2 : Int32) (a3 : Int32) (C : CM) (h : SAT (f_X5_add r0 a1 a2 a3 C) (fun v c => Q v (c, X))) : CT l G 1 mt_X5_add [.ref (gA G 6 r0 0), .int a1, .int a2, .int a3] (C, X) Q := ct_of pn_X5 (Nat.le_of_ble_eq_true rfl) (t_X5_add_0 r0 h0 a1 a2 a3 C h)
def f_X7_takeMark (a1 : Int32) (C : CM) : Option (Int32 × CM) := cal (f_X7_sees 5 a1 C) (fun v1 C2 => (if v1 = 0 then cal (f_X7_blameNext 1 C2) (fun v4 C5 => (rt 0 C5)) else cal (f_X7_take C2) (fun v6 C7 => (rt 0 C7))))
set_option maxRecDepth 8000 in
theorem t_X7_takeMark_0 {l : Launch} {G : GX} {X : XM} {Q : Int32 → Mem → Prop} (a1 : Int32) (C : CM) (h : SAT (f_X7_takeMark a1 C) (fun v c => Q v (c, X))) : AB l G (rmD 2) 0 0 mt_X7_takeMark (ZQ G mt_X7_takeMark Q) 0 [(0, .ref (gA G 1 0 0)), (1, .int a1)] [] (C, X) := by
  unfold f_X7_takeMark at h
  refine ab_aloadn 0 dX7_takeMark_0 rfl ?_
  refine ab_iconst (v := 5) dX7_takeMark_1 (by decide) ?_
  refine ab_iloadn 1 dX7_takeMark_2 rfl ?_
  refine fC_Vi (mtc := mt_X7_sees) (As := [.int 5, .int a1]) h (fun Q h => ct_X7_sees 5 a1 C h) ⟨by decide, by decide⟩ rfl rfl rfl mw_X7_sees wd_26 rfl rfl ⟨Nat.le_of_ble_eq_true rfl, Nat.le_of_ble_eq_true rfl⟩ ⟨Nat.zero_le _, Nat.zero_le _⟩ (Nat.le_of_ble_eq_true rfl) rfl dX7_takeMark_3 (fun v1 C2 h => ?_)
  refine ab_if_eq (tgt := 16) dX7_takeMark_6 (by decide) (fun hc3 => ?_) (fun hc3 => ?_)
  · have h := sat_t hc3 h
    refine ab_aloadn 0 dX7_takeMark_16 rfl ?_
    refine ab_iconst (v := 1) dX7_takeMark_17 (by decide) ?_
    refine fC_Vv (mtc := mt_X7_blameNext) (As := [.int 1]) h (fun Q h => ct_X7_blameNext 1 C2 h) ⟨by decide, by decide⟩ rfl rfl rfl mw_X7_blameNext wd_27 rfl rfl ⟨Nat.le_of_ble_eq_true rfl, Nat.le_of_ble_eq_true rfl⟩ ⟨Nat.zero_le _, Nat.zero_le _⟩ (Nat.le_of_ble_eq_true rfl) rfl dX7_takeMark_18 (fun v4 C5 h => ?_)
    exact fC_vret h rfl dX7_takeMark_21
  · have h := sat_f hc3 h
    refine ab_aloadn 0 dX7_takeMark_9 rfl ?_
    refine fC_Vv (mtc := mt_X7_take) (As := []) h (fun Q h => ct_X7_take C2 h) ⟨by decide, by decide⟩ rfl rfl rfl mw_X7_take wd_28 rfl rfl ⟨Nat.le_of_ble_eq_true rfl, Nat.le_of_ble_eq_true rfl⟩ ⟨Nat.zero_le _, Nat.zero_le _⟩ (Nat.le_of_ble_eq_true rfl) rfl dX7_takeMark_10 (fun v6 C7 h => ?_)
    refine ab_goto (tgt := 21) dX7_takeMark_13 (by decide) ?_
    exact fC_vret h rfl dX7_takeMark_21
theorem ct_X7_takeMark {l : Launch} {G : GX} {X : XM} {Q : Int32 → Mem → Prop} (a1 : Int32) (C : CM) (h : SAT (f_X7_takeMark a1 C) (fun v c => Q v (c, X))) : CT l G 2 mt_X7_takeMark [.ref (gA G 1 0 0), .int a1] (C, X) Q := ct_of pn_X7 (Nat.le_of_ble_eq_true rfl) (t_X7_takeMark_0 a1 C h)
def f_X10_putFour_3 (N : Nat) (a1 : Int32) : Nat → Int32 → CM → Option (Int32 × CM)
  | 0, _, _ => none
  | n + 1, a2, C => (if a2 < 0 then (rt 0 C) else (if 940 ≤ (C.1 0 0 0 1) then (f_X10_putFour_3 N a1 n (a2 - 8) C) else stA C 0 0 1 940 (C.1 0 0 0 1) (nrB (Int8.toInt32 (Int32.toInt8 ((Int32.toUInt32 a1 >>> (Int32.toUInt32 a2 &&& Int32.toUInt32 31)).toInt32)))) (fun C3 => bnd (stC C3 0 0 0 1 ((C3.1 0 0 0 1) + 1)) (fun C4 => (f_X10_putFour_3 N a1 n (a2 - 8) C4)))))
def f_X10_putFour (N : Nat) (a1 : Int32) (C : CM) : Option (Int32 × CM) := (f_X10_putFour_3 N a1 N 24 C)
set_option maxRecDepth 8000 in
theorem t_X10_putFour_3 {l : Launch} {G : GX} {X : XM} {Q : Int32 → Mem → Prop} (N : Nat) (a1 : Int32) : ∀ (n : Nat) (a2 : Int32) (C : CM), SAT (f_X10_putFour_3 N a1 n a2 C) (fun v c => Q v (c, X)) → AB l G (rmD 1) 0 0 mt_X10_putFour (ZQ G mt_X10_putFour Q) 3 [(0, .ref (gA G 0 0 0)), (1, .int a1), (2, .int a2)] [] (C, X) := by
  intro n
  induction n with
  | zero => intro a2 C h; exact h.elim
  | succ n ih =>
    intro a2 C h
    rw [f_X10_putFour_3] at h
    refine ab_iloadn 2 dX10_putFour_3 rfl ?_
    refine ab_if_lt (tgt := 46) dX10_putFour_4 (by decide) (fun hc1 => ?_) (fun hc1 => ?_)
    · have h := sat_t hc1 h
      exact fC_vret h rfl dX10_putFour_46
    · have h := sat_f hc1 h
      refine ab_aloadn 0 dX10_putFour_7 rfl ?_
      refine fC_gi (x := 1) ⟨by decide, by decide⟩ rfl rfl (Nat.le_of_ble_eq_true rfl) wd_30 (by decide) rfl dX10_putFour_8 ?_
      refine ab_sipush (v := 940) dX10_putFour_11 (by decide) ?_
      refine ab_icmp_ge (tgt := 40) dX10_putFour_14 (by decide) (fun hc2 => ?_) (fun hc2 => ?_)
      · have h := sat_t hc2 h
        refine ab_iinc (q := 2) (v := (a2 - 8)) (lv' := [(0, .ref (gA G 0 0 0)), (1, .int a1), (2, .int (a2 - 8))]) dX10_putFour_40 rfl (ii_m8 _) rfl (Nat.le_of_ble_eq_true rfl) rfl ?_
        refine ab_goto (tgt := 3) dX10_putFour_43 (by decide) ?_
        exact ih (a2 - 8) C h
      · have h := sat_f hc2 h
        refine ab_aloadn 0 dX10_putFour_17 rfl ?_
        refine f_gr (x := 0) (k2 := 0) (i2 := 0) (j2 := 1) ⟨by decide, by decide⟩ rfl rfl (Nat.le_of_ble_eq_true rfl) wd_31 rfl rfl dX10_putFour_18 ?_
        refine ab_aloadn 0 dX10_putFour_21 rfl ?_
        refine fC_gi (x := 1) ⟨by decide, by decide⟩ rfl rfl (Nat.le_of_ble_eq_true rfl) wd_30 (by decide) rfl dX10_putFour_22 ?_
        refine ab_iloadn 1 dX10_putFour_25 rfl ?_
        refine ab_iloadn 2 dX10_putFour_26 rfl ?_
        refine ab_iushr dX10_putFour_27 ?_
        refine ab_i2b dX10_putFour_28 ?_
        refine fC_bast ⟨by decide, by decide⟩ rfl (by decide) (fun _ => rfl) h dX10_putFour_29 (fun C3 h => ?_)
        refine ab_aloadn 0 dX10_putFour_30 rfl ?_
        refine ab_dup dX10_putFour_31 rfl ?_
        refine fC_gi (x := 1) ⟨by decide, by decide⟩ rfl rfl (Nat.le_of_ble_eq_true rfl) wd_30 (by decide) rfl dX10_putFour_32 ?_
        refine ab_iconst (v := 1) dX10_putFour_35 (by decide) ?_
        refine ab_iadd dX10_putFour_36 ?_
        refine fC_pi (x := 1) (ty := .int) ⟨by decide, by decide⟩ rfl rfl (Nat.le_of_ble_eq_true rfl) wd_30 (by decide) rfl h rfl (by decide +kernel) rfl rfl dX10_putFour_37 (fun C4 h => ?_)
        refine ab_iinc (q := 2) (v := (a2 - 8)) (lv' := [(0, .ref (gA G 0 0 0)), (1, .int a1), (2, .int (a2 - 8))]) dX10_putFour_40 rfl (ii_m8 _) rfl (Nat.le_of_ble_eq_true rfl) rfl ?_
        refine ab_goto (tgt := 3) dX10_putFour_43 (by decide) ?_
        exact ih (a2 - 8) C4 h
set_option maxRecDepth 8000 in
theorem t_X10_putFour_0 {l : Launch} {G : GX} {X : XM} {Q : Int32 → Mem → Prop} (N : Nat) (a1 : Int32) (C : CM) (h : SAT (f_X10_putFour N a1 C) (fun v c => Q v (c, X))) : AB l G (rmD 1) 0 0 mt_X10_putFour (ZQ G mt_X10_putFour Q) 0 [(0, .ref (gA G 0 0 0)), (1, .int a1)] [] (C, X) := by
  unfold f_X10_putFour at h
  refine ab_bipush (v := 24) dX10_putFour_0 (by decide) ?_
  refine ab_istoren (lv' := [(0, .ref (gA G 0 0 0)), (1, .int a1), (2, .int 24)]) dX10_putFour_2 rfl (Nat.le_of_ble_eq_true rfl) rfl ?_
  exact t_X10_putFour_3 N a1 N 24 C h
theorem ct_X10_putFour {l : Launch} {G : GX} {X : XM} {Q : Int32 → Mem → Prop} (N : Nat) (a1 : Int32) (C : CM) (h : SAT (f_X10_putFour N a1 C) (fun v c => Q v (c, X))) : CT l G 1 mt_X10_putFour [.ref (gA G 0 0 0), .int a1] (C, X) Q := ct_of pn_X10 (Nat.le_of_ble_eq_true rfl) (t_X10_putFour_0 N a1 C h)
def f_X10_feed (N : Nat) (a1 : Int32) (a2 : Int32) (a3 : Int32) (a4 : Int32) (a5 : Int32) (C : CM) : Option (Int32 × CM) := (if (C.1 0 0 0 1) ≤ 920 then cal (f_X10_putFour N a1 C) (fun v2 C3 => cal (f_X10_putFour N a2 C3) (fun v4 C5 => cal (f_X10_putFour N a3 C5) (fun v6 C7 => cal (f_X10_putFour N a4 C7) (fun v8 C9 => cal (f_X10_putFour N a5 C9) (fun v10 C11 => (rt (C11.1 0 0 0 1) C11)))))) else (rt (-1) C))
set_option maxRecDepth 8000 in
theorem t_X10_feed_0 {l : Launch} {G : GX} {X : XM} {Q : Int32 → Mem → Prop} (N : Nat) (a1 : Int32) (a2 : Int32) (a3 : Int32) (a4 : Int32) (a5 : Int32) (C : CM) (h : SAT (f_X10_feed N a1 a2 a3 a4 a5 C) (fun v c => Q v (c, X))) : AB l G (rmD 2) 0 0 mt_X10_feed (ZQ G mt_X10_feed Q) 0 [(0, .ref (gA G 0 0 0)), (1, .int a1), (2, .int a2), (3, .int a3), (4, .int a4), (5, .int a5)] [] (C, X) := by
  unfold f_X10_feed at h
  refine ab_aloadn 0 dX10_feed_0 rfl ?_
  refine fC_gi (x := 1) ⟨by decide, by decide⟩ rfl rfl (Nat.le_of_ble_eq_true rfl) wd_30 (by decide) rfl dX10_feed_1 ?_
  refine ab_sipush (v := 920) dX10_feed_4 (by decide) ?_
  refine ab_icmp_le (tgt := 12) dX10_feed_7 (by decide) (fun hc1 => ?_) (fun hc1 => ?_)
  · have h := sat_t hc1 h
    refine ab_aloadn 0 dX10_feed_12 rfl ?_
    refine ab_iloadn 1 dX10_feed_13 rfl ?_
    refine fC_Vv (mtc := mt_X10_putFour) (As := [.int a1]) h (fun Q h => ct_X10_putFour N a1 C h) ⟨by decide, by decide⟩ rfl rfl rfl mw_X10_putFour wd_32 rfl rfl ⟨Nat.le_of_ble_eq_true rfl, Nat.le_of_ble_eq_true rfl⟩ ⟨Nat.zero_le _, Nat.zero_le _⟩ (Nat.le_of_ble_eq_true rfl) rfl dX10_feed_14 (fun v2 C3 h => ?_)
    refine ab_aloadn 0 dX10_feed_17 rfl ?_
    refine ab_iloadn 2 dX10_feed_18 rfl ?_
    refine fC_Vv (mtc := mt_X10_putFour) (As := [.int a2]) h (fun Q h => ct_X10_putFour N a2 C3 h) ⟨by decide, by decide⟩ rfl rfl rfl mw_X10_putFour wd_32 rfl rfl ⟨Nat.le_of_ble_eq_true rfl, Nat.le_of_ble_eq_true rfl⟩ ⟨Nat.zero_le _, Nat.zero_le _⟩ (Nat.le_of_ble_eq_true rfl) rfl dX10_feed_19 (fun v4 C5 h => ?_)
    refine ab_aloadn 0 dX10_feed_22 rfl ?_
    refine ab_iloadn 3 dX10_feed_23 rfl ?_
    refine fC_Vv (mtc := mt_X10_putFour) (As := [.int a3]) h (fun Q h => ct_X10_putFour N a3 C5 h) ⟨by decide, by decide⟩ rfl rfl rfl mw_X10_putFour wd_32 rfl rfl ⟨Nat.le_of_ble_eq_true rfl, Nat.le_of_ble_eq_true rfl⟩ ⟨Nat.zero_le _, Nat.zero_le _⟩ (Nat.le_of_ble_eq_true rfl) rfl dX10_feed_24 (fun v6 C7 h => ?_)
    refine ab_aloadn 0 dX10_feed_27 rfl ?_
    refine ab_iload 4 dX10_feed_28 rfl ?_
    refine fC_Vv (mtc := mt_X10_putFour) (As := [.int a4]) h (fun Q h => ct_X10_putFour N a4 C7 h) ⟨by decide, by decide⟩ rfl rfl rfl mw_X10_putFour wd_32 rfl rfl ⟨Nat.le_of_ble_eq_true rfl, Nat.le_of_ble_eq_true rfl⟩ ⟨Nat.zero_le _, Nat.zero_le _⟩ (Nat.le_of_ble_eq_true rfl) rfl dX10_feed_30 (fun v8 C9 h => ?_)
    refine ab_aloadn 0 dX10_feed_33 rfl ?_
    refine ab_iload 5 dX10_feed_34 rfl ?_
    refine fC_Vv (mtc := mt_X10_putFour) (As := [.int a5]) h (fun Q h => ct_X10_putFour N a5 C9 h) ⟨by decide, by decide⟩ rfl rfl rfl mw_X10_putFour wd_32 rfl rfl ⟨Nat.le_of_ble_eq_true rfl, Nat.le_of_ble_eq_true rfl⟩ ⟨Nat.zero_le _, Nat.zero_le _⟩ (Nat.le_of_ble_eq_true rfl) rfl dX10_feed_36 (fun v10 C11 h => ?_)
    refine ab_aloadn 0 dX10_feed_39 rfl ?_
    refine fC_gi (x := 1) ⟨by decide, by decide⟩ rfl rfl (Nat.le_of_ble_eq_true rfl) wd_30 (by decide) rfl dX10_feed_40 ?_
    exact fC_iret h rfl rfl dX10_feed_43
  · have h := sat_f hc1 h
    refine ab_iconst (v := (-1)) dX10_feed_10 (by decide) ?_
    exact fC_iret h rfl rfl dX10_feed_11
theorem ct_X10_feed {l : Launch} {G : GX} {X : XM} {Q : Int32 → Mem → Prop} (N : Nat) (a1 : Int32) (a2 : Int32) (a3 : Int32) (a4 : Int32) (a5 : Int32) (C : CM) (h : SAT (f_X10_feed N a1 a2 a3 a4 a5 C) (fun v c => Q v (c, X))) : CT l G 2 mt_X10_feed [.ref (gA G 0 0 0), .int a1, .int a2, .int a3, .int a4, .int a5] (C, X) Q := ct_of pn_X10 (Nat.le_of_ble_eq_true rfl) (t_X10_feed_0 N a1 a2 a3 a4 a5 C h)
def f_X10_end (a1 : Int32) (C : CM) : Option (Int32 × CM) := (if a1 < 0 then (rt 0 C) else (if a1 ≤ (C.1 0 0 0 1) then bnd (stC C 0 0 0 1 a1) (fun C3 => (rt 1 C3)) else (rt 0 C)))
set_option maxRecDepth 8000 in
theorem t_X10_end_0 {l : Launch} {G : GX} {X : XM} {Q : Int32 → Mem → Prop} (a1 : Int32) (C : CM) (h : SAT (f_X10_end a1 C) (fun v c => Q v (c, X))) : AB l G (rmD 1) 0 0 mt_X10_end (ZQ G mt_X10_end Q) 0 [(0, .ref (gA G 0 0 0)), (1, .int a1)] [] (C, X) := by
  unfold f_X10_end at h
  refine ab_iloadn 1 dX10_end_0 rfl ?_
  refine ab_if_lt (tgt := 12) dX10_end_1 (by decide) (fun hc1 => ?_) (fun hc1 => ?_)
  · have h := sat_t hc1 h
    refine ab_iconst (v := 0) dX10_end_12 (by decide) ?_
    exact fC_iret h rfl rfl dX10_end_13
  · have h := sat_f hc1 h
    refine ab_iloadn 1 dX10_end_4 rfl ?_
    refine ab_aloadn 0 dX10_end_5 rfl ?_
    refine fC_gi (x := 1) ⟨by decide, by decide⟩ rfl rfl (Nat.le_of_ble_eq_true rfl) wd_30 (by decide) rfl dX10_end_6 ?_
    refine ab_icmp_le (tgt := 14) dX10_end_9 (by decide) (fun hc2 => ?_) (fun hc2 => ?_)
    · have h := sat_t hc2 h
      refine ab_aloadn 0 dX10_end_14 rfl ?_
      refine ab_iloadn 1 dX10_end_15 rfl ?_
      refine fC_pi (x := 1) (ty := .int) ⟨by decide, by decide⟩ rfl rfl (Nat.le_of_ble_eq_true rfl) wd_30 (by decide) rfl h rfl (by decide +kernel) rfl rfl dX10_end_16 (fun C3 h => ?_)
      refine ab_iconst (v := 1) dX10_end_19 (by decide) ?_
      exact fC_iret h rfl rfl dX10_end_20
    · have h := sat_f hc2 h
      refine ab_iconst (v := 0) dX10_end_12 (by decide) ?_
      exact fC_iret h rfl rfl dX10_end_13
theorem ct_X10_end {l : Launch} {G : GX} {X : XM} {Q : Int32 → Mem → Prop} (a1 : Int32) (C : CM) (h : SAT (f_X10_end a1 C) (fun v c => Q v (c, X))) : CT l G 1 mt_X10_end [.ref (gA G 0 0 0), .int a1] (C, X) Q := ct_of pn_X10 (Nat.le_of_ble_eq_true rfl) (t_X10_end_0 a1 C h)
def f_X7_isLetter (a0 : Int32) (C : CM) : Option (Int32 × CM) := (if a0 < 97 then (rt 0 C) else (if 122 < a0 then (rt 0 C) else (rt 1 C)))
set_option maxRecDepth 8000 in
theorem t_X7_isLetter_0 {l : Launch} {G : GX} {X : XM} {Q : Int32 → Mem → Prop} (a0 : Int32) (C : CM) (h : SAT (f_X7_isLetter a0 C) (fun v c => Q v (c, X))) : AB l G (rmD 1) 0 0 mt_X7_isLetter (ZQ G mt_X7_isLetter Q) 0 [(0, .int a0)] [] (C, X) := by
  unfold f_X7_isLetter at h
  refine ab_iloadn 0 dX7_isLetter_0 rfl ?_
  refine ab_bipush (v := 97) dX7_isLetter_1 (by decide) ?_
  refine ab_icmp_lt (tgt := 16) dX7_isLetter_3 (by decide) (fun hc1 => ?_) (fun hc1 => ?_)
  · have h := sat_t hc1 h
    refine ab_iconst (v := 0) dX7_isLetter_16 (by decide) ?_
    exact fC_iret h rfl rfl dX7_isLetter_17
  · have h := sat_f hc1 h
    refine ab_iloadn 0 dX7_isLetter_6 rfl ?_
    refine ab_bipush (v := 122) dX7_isLetter_7 (by decide) ?_
    refine ab_icmp_gt (tgt := 16) dX7_isLetter_9 (by decide) (fun hc2 => ?_) (fun hc2 => ?_)
    · have h := sat_t hc2 h
      refine ab_iconst (v := 0) dX7_isLetter_16 (by decide) ?_
      exact fC_iret h rfl rfl dX7_isLetter_17
    · have h := sat_f hc2 h
      refine ab_iconst (v := 1) dX7_isLetter_12 (by decide) ?_
      refine ab_goto (tgt := 17) dX7_isLetter_13 (by decide) ?_
      exact fC_iret h rfl rfl dX7_isLetter_17
theorem ct_X7_isLetter {l : Launch} {G : GX} {X : XM} {Q : Int32 → Mem → Prop} (a0 : Int32) (C : CM) (h : SAT (f_X7_isLetter a0 C) (fun v c => Q v (c, X))) : CT l G 1 mt_X7_isLetter [.int a0] (C, X) Q := ct_of pn_X7 (Nat.le_of_ble_eq_true rfl) (t_X7_isLetter_0 a0 C h)
def f_X7_isDigit (a0 : Int32) (C : CM) : Option (Int32 × CM) := (if a0 < 48 then (rt 0 C) else (if 57 < a0 then (rt 0 C) else (rt 1 C)))
set_option maxRecDepth 8000 in
theorem t_X7_isDigit_0 {l : Launch} {G : GX} {X : XM} {Q : Int32 → Mem → Prop} (a0 : Int32) (C : CM) (h : SAT (f_X7_isDigit a0 C) (fun v c => Q v (c, X))) : AB l G (rmD 1) 0 0 mt_X7_isDigit (ZQ G mt_X7_isDigit Q) 0 [(0, .int a0)] [] (C, X) := by
  unfold f_X7_isDigit at h
  refine ab_iloadn 0 dX7_isDigit_0 rfl ?_
  refine ab_bipush (v := 48) dX7_isDigit_1 (by decide) ?_
  refine ab_icmp_lt (tgt := 16) dX7_isDigit_3 (by decide) (fun hc1 => ?_) (fun hc1 => ?_)
  · have h := sat_t hc1 h
    refine ab_iconst (v := 0) dX7_isDigit_16 (by decide) ?_
    exact fC_iret h rfl rfl dX7_isDigit_17
  · have h := sat_f hc1 h
    refine ab_iloadn 0 dX7_isDigit_6 rfl ?_
    refine ab_bipush (v := 57) dX7_isDigit_7 (by decide) ?_
    refine ab_icmp_gt (tgt := 16) dX7_isDigit_9 (by decide) (fun hc2 => ?_) (fun hc2 => ?_)
    · have h := sat_t hc2 h
      refine ab_iconst (v := 0) dX7_isDigit_16 (by decide) ?_
      exact fC_iret h rfl rfl dX7_isDigit_17
    · have h := sat_f hc2 h
      refine ab_iconst (v := 1) dX7_isDigit_12 (by decide) ?_
      refine ab_goto (tgt := 17) dX7_isDigit_13 (by decide) ?_
      exact fC_iret h rfl rfl dX7_isDigit_17
theorem ct_X7_isDigit {l : Launch} {G : GX} {X : XM} {Q : Int32 → Mem → Prop} (a0 : Int32) (C : CM) (h : SAT (f_X7_isDigit a0 C) (fun v c => Q v (c, X))) : CT l G 1 mt_X7_isDigit [.int a0] (C, X) Q := ct_of pn_X7 (Nat.le_of_ble_eq_true rfl) (t_X7_isDigit_0 a0 C h)
def f_X7_isMark_36 (C : CM) : Option (Int32 × CM) := (rt 1 C)
def f_X7_isMark (a0 : Int32) (C : CM) : Option (Int32 × CM) := (if a0 = 59 then (f_X7_isMark_36 C) else (if a0 = 60 then (f_X7_isMark_36 C) else (if a0 = 61 then (f_X7_isMark_36 C) else (if a0 = 62 then (f_X7_isMark_36 C) else (if a0 = 40 then (f_X7_isMark_36 C) else (if a0 = 41 then (f_X7_isMark_36 C) else (rt 0 C)))))))
set_option maxRecDepth 8000 in
theorem t_X7_isMark_36 {l : Launch} {G : GX} {X : XM} {Q : Int32 → Mem → Prop} (C : CM) (h : SAT (f_X7_isMark_36 C) (fun v c => Q v (c, X))) : AB l G (rmD 1) 0 0 mt_X7_isMark (ZQ G mt_X7_isMark Q) 36 [] [] (C, X) := by
  unfold f_X7_isMark_36 at h
  refine ab_iconst (v := 1) dX7_isMark_36 (by decide) ?_
  refine ab_goto (tgt := 41) dX7_isMark_37 (by decide) ?_
  exact fC_iret h rfl rfl dX7_isMark_41
set_option maxRecDepth 8000 in
theorem t_X7_isMark_0 {l : Launch} {G : GX} {X : XM} {Q : Int32 → Mem → Prop} (a0 : Int32) (C : CM) (h : SAT (f_X7_isMark a0 C) (fun v c => Q v (c, X))) : AB l G (rmD 1) 0 0 mt_X7_isMark (ZQ G mt_X7_isMark Q) 0 [(0, .int a0)] [] (C, X) := by
  unfold f_X7_isMark at h
  refine ab_iloadn 0 dX7_isMark_0 rfl ?_
  refine ab_bipush (v := 59) dX7_isMark_1 (by decide) ?_
  refine ab_icmp_eq (tgt := 36) dX7_isMark_3 (by decide) (fun hc1 => ?_) (fun hc1 => ?_)
  · have h := sat_t hc1 h
    refine ab_sub [] rfl ?_
    exact t_X7_isMark_36 C h
  · have h := sat_f hc1 h
    refine ab_iloadn 0 dX7_isMark_6 rfl ?_
    refine ab_bipush (v := 60) dX7_isMark_7 (by decide) ?_
    refine ab_icmp_eq (tgt := 36) dX7_isMark_9 (by decide) (fun hc2 => ?_) (fun hc2 => ?_)
    · have h := sat_t hc2 h
      refine ab_sub [] rfl ?_
      exact t_X7_isMark_36 C h
    · have h := sat_f hc2 h
      refine ab_iloadn 0 dX7_isMark_12 rfl ?_
      refine ab_bipush (v := 61) dX7_isMark_13 (by decide) ?_
      refine ab_icmp_eq (tgt := 36) dX7_isMark_15 (by decide) (fun hc3 => ?_) (fun hc3 => ?_)
      · have h := sat_t hc3 h
        refine ab_sub [] rfl ?_
        exact t_X7_isMark_36 C h
      · have h := sat_f hc3 h
        refine ab_iloadn 0 dX7_isMark_18 rfl ?_
        refine ab_bipush (v := 62) dX7_isMark_19 (by decide) ?_
        refine ab_icmp_eq (tgt := 36) dX7_isMark_21 (by decide) (fun hc4 => ?_) (fun hc4 => ?_)
        · have h := sat_t hc4 h
          refine ab_sub [] rfl ?_
          exact t_X7_isMark_36 C h
        · have h := sat_f hc4 h
          refine ab_iloadn 0 dX7_isMark_24 rfl ?_
          refine ab_bipush (v := 40) dX7_isMark_25 (by decide) ?_
          refine ab_icmp_eq (tgt := 36) dX7_isMark_27 (by decide) (fun hc5 => ?_) (fun hc5 => ?_)
          · have h := sat_t hc5 h
            refine ab_sub [] rfl ?_
            exact t_X7_isMark_36 C h
          · have h := sat_f hc5 h
            refine ab_iloadn 0 dX7_isMark_30 rfl ?_
            refine ab_bipush (v := 41) dX7_isMark_31 (by decide) ?_
            refine ab_icmp_ne (tgt := 40) dX7_isMark_33 (by decide) (fun hc6 => ?_) (fun hc6 => ?_)
            · have h := sat_f hc6 h
              refine ab_iconst (v := 0) dX7_isMark_40 (by decide) ?_
              exact fC_iret h rfl rfl dX7_isMark_41
            · have h := sat_t hc6 h
              refine ab_sub [] rfl ?_
              exact t_X7_isMark_36 C h
theorem ct_X7_isMark {l : Launch} {G : GX} {X : XM} {Q : Int32 → Mem → Prop} (a0 : Int32) (C : CM) (h : SAT (f_X7_isMark a0 C) (fun v c => Q v (c, X))) : CT l G 1 mt_X7_isMark [.int a0] (C, X) Q := ct_of pn_X7 (Nat.le_of_ble_eq_true rfl) (t_X7_isMark_0 a0 C h)
def f_X7_wordOf_6 (N : Nat) (a0 : Int32) : Nat → Int32 → Int32 → Int32 → CM → Option (Int32 × CM)
  | 0, _, _, _, _ => none
  | n + 1, a1, a2, a3, C => (if 119 ≤ a3 then (rt (-1) C) else ldA byC lnW a3 (fun v2 => (if v2 = 32 then (if a2 = a0 then (rt a1 C) else (f_X7_wordOf_6 N a0 n (a1 + 1) 0 (a3 + 1) C)) else (f_X7_wordOf_6 N a0 n a1 ((a2 * 32) + (v2 - 96)) (a3 + 1) C))))
def f_X7_wordOf (N : Nat) (a0 : Int32) (C : CM) : Option (Int32 × CM) := (f_X7_wordOf_6 N a0 N 0 0 0 C)
set_option maxRecDepth 8000 in
theorem t_X7_wordOf_6 {l : Launch} {G : GX} {X : XM} {Q : Int32 → Mem → Prop} (N : Nat) (a0 : Int32) : ∀ (n : Nat) (a1 : Int32) (a2 : Int32) (a3 : Int32) (C : CM), SAT (f_X7_wordOf_6 N a0 n a1 a2 a3 C) (fun v c => Q v (c, X)) → AB l G (rmD 5) 0 0 mt_X7_wordOf (ZQ G mt_X7_wordOf Q) 6 [(0, .int a0), (1, .int a1), (2, .int a2), (3, .int a3)] [] (C, X) := by
  intro n
  induction n with
  | zero => intro a1 a2 a3 C h; exact h.elim
  | succ n ih =>
    intro a1 a2 a3 C h
    rw [f_X7_wordOf_6] at h
    refine ab_iloadn 3 dX7_wordOf_6 rfl ?_
    refine ab_ldcS rfl dX7_wordOf_7 ?_
    refine f_slen wd_43 ⟨Nat.le_of_ble_eq_true rfl, Nat.le_of_ble_eq_true rfl⟩ ⟨Nat.zero_le _, Nat.zero_le _⟩ (Nat.le_of_ble_eq_true rfl) dX7_wordOf_9 ?_
    refine ab_icmp_ge (tgt := 62) dX7_wordOf_12 (by decide) (fun hc1 => ?_) (fun hc1 => ?_)
    · have h := sat_t hc1 h
      refine ab_iconst (v := (-1)) dX7_wordOf_62 (by decide) ?_
      exact fC_iret h rfl rfl dX7_wordOf_63
    · have h := sat_f hc1 h
      refine ab_ldcS rfl dX7_wordOf_15 ?_
      refine ab_iloadn 3 dX7_wordOf_17 rfl ?_
      refine f_schr h wd_44 ⟨Nat.le_of_ble_eq_true rfl, Nat.le_of_ble_eq_true rfl⟩ ⟨Nat.zero_le _, Nat.zero_le _⟩ (Nat.le_of_ble_eq_true rfl) dX7_wordOf_18 (fun v2 h => ?_)
      refine ab_istore (lv' := [(0, .int a0), (1, .int a1), (2, .int a2), (3, .int a3), (4, .int v2)]) dX7_wordOf_21 rfl (Nat.le_of_ble_eq_true rfl) rfl ?_
      refine ab_iload 4 dX7_wordOf_23 rfl ?_
      refine ab_bipush (v := 32) dX7_wordOf_25 (by decide) ?_
      refine ab_icmp_eq (tgt := 44) dX7_wordOf_27 (by decide) (fun hc3 => ?_) (fun hc3 => ?_)
      · have h := sat_t hc3 h
        refine ab_iloadn 2 dX7_wordOf_44 rfl ?_
        refine ab_iloadn 0 dX7_wordOf_45 rfl ?_
        refine ab_icmp_ne (tgt := 51) dX7_wordOf_46 (by decide) (fun hc4 => ?_) (fun hc4 => ?_)
        · have h := sat_f hc4 h
          refine ab_iinc (q := 1) (v := (a1 + 1)) (lv' := [(0, .int a0), (1, .int (a1 + 1)), (2, .int a2), (3, .int a3), (4, .int v2)]) dX7_wordOf_51 rfl rfl rfl (Nat.le_of_ble_eq_true rfl) rfl ?_
          refine ab_iconst (v := 0) dX7_wordOf_54 (by decide) ?_
          refine ab_istoren (lv' := [(0, .int a0), (1, .int (a1 + 1)), (2, .int 0), (3, .int a3), (4, .int v2)]) dX7_wordOf_55 rfl (Nat.le_of_ble_eq_true rfl) rfl ?_
          refine ab_iinc (q := 3) (v := (a3 + 1)) (lv' := [(0, .int a0), (1, .int (a1 + 1)), (2, .int 0), (3, .int (a3 + 1)), (4, .int v2)]) dX7_wordOf_56 rfl rfl rfl (Nat.le_of_ble_eq_true rfl) rfl ?_
          refine ab_goto (tgt := 6) dX7_wordOf_59 (by decide) ?_
          refine ab_sub [0, 1, 2, 3] rfl ?_
          exact ih (a1 + 1) 0 (a3 + 1) C h
        · have h := sat_t hc4 h
          refine ab_iloadn 1 dX7_wordOf_49 rfl ?_
          exact fC_iret h rfl rfl dX7_wordOf_50
      · have h := sat_f hc3 h
        refine ab_iloadn 2 dX7_wordOf_30 rfl ?_
        refine ab_bipush (v := 32) dX7_wordOf_31 (by decide) ?_
        refine ab_imul dX7_wordOf_33 ?_
        refine ab_iload 4 dX7_wordOf_34 rfl ?_
        refine ab_bipush (v := 96) dX7_wordOf_36 (by decide) ?_
        refine ab_isub dX7_wordOf_38 ?_
        refine ab_iadd dX7_wordOf_39 ?_
        refine ab_istoren (lv' := [(0, .int a0), (1, .int a1), (2, .int ((a2 * 32) + (v2 - 96))), (3, .int a3), (4, .int v2)]) dX7_wordOf_40 rfl (Nat.le_of_ble_eq_true rfl) rfl ?_
        refine ab_goto (tgt := 56) dX7_wordOf_41 (by decide) ?_
        refine ab_iinc (q := 3) (v := (a3 + 1)) (lv' := [(0, .int a0), (1, .int a1), (2, .int ((a2 * 32) + (v2 - 96))), (3, .int (a3 + 1)), (4, .int v2)]) dX7_wordOf_56 rfl rfl rfl (Nat.le_of_ble_eq_true rfl) rfl ?_
        refine ab_goto (tgt := 6) dX7_wordOf_59 (by decide) ?_
        refine ab_sub [0, 1, 2, 3] rfl ?_
        exact ih a1 ((a2 * 32) + (v2 - 96)) (a3 + 1) C h
set_option maxRecDepth 8000 in
theorem t_X7_wordOf_0 {l : Launch} {G : GX} {X : XM} {Q : Int32 → Mem → Prop} (N : Nat) (a0 : Int32) (C : CM) (h : SAT (f_X7_wordOf N a0 C) (fun v c => Q v (c, X))) : AB l G (rmD 5) 0 0 mt_X7_wordOf (ZQ G mt_X7_wordOf Q) 0 [(0, .int a0)] [] (C, X) := by
  unfold f_X7_wordOf at h
  refine ab_iconst (v := 0) dX7_wordOf_0 (by decide) ?_
  refine ab_istoren (lv' := [(0, .int a0), (1, .int 0)]) dX7_wordOf_1 rfl (Nat.le_of_ble_eq_true rfl) rfl ?_
  refine ab_iconst (v := 0) dX7_wordOf_2 (by decide) ?_
  refine ab_istoren (lv' := [(0, .int a0), (1, .int 0), (2, .int 0)]) dX7_wordOf_3 rfl (Nat.le_of_ble_eq_true rfl) rfl ?_
  refine ab_iconst (v := 0) dX7_wordOf_4 (by decide) ?_
  refine ab_istoren (lv' := [(0, .int a0), (1, .int 0), (2, .int 0), (3, .int 0)]) dX7_wordOf_5 rfl (Nat.le_of_ble_eq_true rfl) rfl ?_
  exact t_X7_wordOf_6 N a0 N 0 0 0 C h
theorem ct_X7_wordOf {l : Launch} {G : GX} {X : XM} {Q : Int32 → Mem → Prop} (N : Nat) (a0 : Int32) (C : CM) (h : SAT (f_X7_wordOf N a0 C) (fun v c => Q v (c, X))) : CT l G 5 mt_X7_wordOf [.int a0] (C, X) Q := ct_of pn_X7 (Nat.le_of_ble_eq_true rfl) (t_X7_wordOf_0 N a0 C h)
def f_X7_add (a1 : Int32) (a2 : Int32) (a3 : Int32) (C : CM) : Option (Int32 × CM) := (if 941 ≤ (C.1 1 0 0 3) then (rt 0 C) else stA C 1 0 1 941 (C.1 1 0 0 3) a1 (fun C2 => stA C2 1 0 2 941 (C2.1 1 0 0 3) a2 (fun C3 => stA C3 1 0 3 941 (C3.1 1 0 0 3) a3 (fun C4 => bnd (stC C4 1 0 0 3 ((C4.1 1 0 0 3) + 1)) (fun C5 => (rt 0 C5))))))
set_option maxRecDepth 8000 in
theorem t_X7_add_0 {l : Launch} {G : GX} {X : XM} {Q : Int32 → Mem → Prop} (a1 : Int32) (a2 : Int32) (a3 : Int32) (C : CM) (h : SAT (f_X7_add a1 a2 a3 C) (fun v c => Q v (c, X))) : AB l G (rmD 1) 0 0 mt_X7_add (ZQ G mt_X7_add Q) 0 [(0, .ref (gA G 1 0 0)), (1, .int a1), (2, .int a2), (3, .int a3)] [] (C, X) := by
  unfold f_X7_add at h
  refine ab_aloadn 0 dX7_add_0 rfl ?_
  refine fC_gi (x := 3) ⟨by decide, by decide⟩ rfl rfl (Nat.le_of_ble_eq_true rfl) wd_1 (by decide) rfl dX7_add_1 ?_
  refine ab_aloadn 0 dX7_add_4 rfl ?_
  refine f_gr (x := 0) (k2 := 1) (i2 := 0) (j2 := 1) ⟨by decide, by decide⟩ rfl rfl (Nat.le_of_ble_eq_true rfl) wd_2 rfl rfl dX7_add_5 ?_
  refine ab_alen (v := 941) ⟨by decide, by decide⟩ rfl (by decide) (by decide) dX7_add_8 ?_
  refine ab_icmp_ge (tgt := 52) dX7_add_9 (by decide) (fun hc1 => ?_) (fun hc1 => ?_)
  · have h := sat_t hc1 h
    exact fC_vret h rfl dX7_add_52
  · have h := sat_f hc1 h
    refine ab_aloadn 0 dX7_add_12 rfl ?_
    refine f_gr (x := 0) (k2 := 1) (i2 := 0) (j2 := 1) ⟨by decide, by decide⟩ rfl rfl (Nat.le_of_ble_eq_true rfl) wd_2 rfl rfl dX7_add_13 ?_
    refine ab_aloadn 0 dX7_add_16 rfl ?_
    refine fC_gi (x := 3) ⟨by decide, by decide⟩ rfl rfl (Nat.le_of_ble_eq_true rfl) wd_1 (by decide) rfl dX7_add_17 ?_
    refine ab_iloadn 1 dX7_add_20 rfl ?_
    refine fC_iast ⟨by decide, by decide⟩ rfl (by decide) (fun _ => rfl) h dX7_add_21 (fun C2 h => ?_)
    refine ab_aloadn 0 dX7_add_22 rfl ?_
    refine f_gr (x := 1) (k2 := 1) (i2 := 0) (j2 := 2) ⟨by decide, by decide⟩ rfl rfl (Nat.le_of_ble_eq_true rfl) wd_3 rfl rfl dX7_add_23 ?_
    refine ab_aloadn 0 dX7_add_26 rfl ?_
    refine fC_gi (x := 3) ⟨by decide, by decide⟩ rfl rfl (Nat.le_of_ble_eq_true rfl) wd_1 (by decide) rfl dX7_add_27 ?_
    refine ab_iloadn 2 dX7_add_30 rfl ?_
    refine fC_iast ⟨by decide, by decide⟩ rfl (by decide) (fun _ => rfl) h dX7_add_31 (fun C3 h => ?_)
    refine ab_aloadn 0 dX7_add_32 rfl ?_
    refine f_gr (x := 2) (k2 := 1) (i2 := 0) (j2 := 3) ⟨by decide, by decide⟩ rfl rfl (Nat.le_of_ble_eq_true rfl) wd_7 rfl rfl dX7_add_33 ?_
    refine ab_aloadn 0 dX7_add_36 rfl ?_
    refine fC_gi (x := 3) ⟨by decide, by decide⟩ rfl rfl (Nat.le_of_ble_eq_true rfl) wd_1 (by decide) rfl dX7_add_37 ?_
    refine ab_iloadn 3 dX7_add_40 rfl ?_
    refine fC_iast ⟨by decide, by decide⟩ rfl (by decide) (fun _ => rfl) h dX7_add_41 (fun C4 h => ?_)
    refine ab_aloadn 0 dX7_add_42 rfl ?_
    refine ab_dup dX7_add_43 rfl ?_
    refine fC_gi (x := 3) ⟨by decide, by decide⟩ rfl rfl (Nat.le_of_ble_eq_true rfl) wd_1 (by decide) rfl dX7_add_44 ?_
    refine ab_iconst (v := 1) dX7_add_47 (by decide) ?_
    refine ab_iadd dX7_add_48 ?_
    refine fC_pi (x := 3) (ty := .int) ⟨by decide, by decide⟩ rfl rfl (Nat.le_of_ble_eq_true rfl) wd_1 (by decide) rfl h rfl (by decide +kernel) rfl rfl dX7_add_49 (fun C5 h => ?_)
    exact fC_vret h rfl dX7_add_52
theorem ct_X7_add {l : Launch} {G : GX} {X : XM} {Q : Int32 → Mem → Prop} (a1 : Int32) (a2 : Int32) (a3 : Int32) (C : CM) (h : SAT (f_X7_add a1 a2 a3 C) (fun v c => Q v (c, X))) : CT l G 1 mt_X7_add [.ref (gA G 1 0 0), .int a1, .int a2, .int a3] (C, X) Q := ct_of pn_X7 (Nat.le_of_ble_eq_true rfl) (t_X7_add_0 a1 a2 a3 C h)
def f_X7_splitRun_t_178 (N : Nat) (a4 : Int32) (C : CM) : Option (Int32 × CM) := (rt a4 C)
def f_X7_splitRun_t_171 (N : Nat) (a2 : Int32) (a4 : Int32) (C : CM) : Option (Int32 × CM) := cal (f_X7_add 1 0 a2 C) (fun v1 C2 => (f_X7_splitRun_t_178 N a4 C2))
def f_X7_splitRun_t_149 (N : Nat) (a2 : Int32) (a4 : Int32) (a5 : Int32) (a7 : Int32) (a8 : Int32) (C : CM) : Option (Int32 × CM) := (if a5 = 0 then (if 3 < a8 then (f_X7_splitRun_t_171 N a2 a4 C) else cal (f_X7_add 4 a7 a2 C) (fun v3 C4 => (f_X7_splitRun_t_178 N a4 C4))) else (f_X7_splitRun_t_171 N a2 a4 C))
def f_X7_splitRun_t_142 (N : Nat) (a2 : Int32) (a4 : Int32) (as0 : Int32) (as1 : Int32) (C : CM) : Option (Int32 × CM) := cal (f_X7_add as1 as0 a2 C) (fun v1 C2 => (f_X7_splitRun_t_178 N a4 C2))
def f_X7_splitRun_t_129 (N : Nat) (a2 : Int32) (a4 : Int32) (a6 : Int32) (a9 : Int32) (as0 : Int32) (C : CM) : Option (Int32 × CM) := (if a9 = (-1) then (f_X7_splitRun_t_142 N a2 a4 a6 as0 C) else (f_X7_splitRun_t_142 N a2 a4 a9 as0 C))
def f_X7_splitRun_t_90 (N : Nat) (a2 : Int32) (a4 : Int32) (a5 : Int32) (a6 : Int32) (a7 : Int32) (C : CM) : Option (Int32 × CM) := (if a5 = (a4 - a2) then (if 6 < (a4 - a2) then (f_X7_splitRun_t_149 N a2 a4 a5 a7 (a4 - a2) C) else cal (f_X7_wordOf N a6 C) (fun v3 C4 => (if v3 = (-1) then (f_X7_splitRun_t_129 N a2 a4 a6 v3 3 C4) else (f_X7_splitRun_t_129 N a2 a4 a6 v3 2 C4)))) else (f_X7_splitRun_t_149 N a2 a4 a5 a7 (a4 - a2) C))
def f_X7_splitRun_t_38 (N : Nat) (k12 : Int32 → Int32 → Int32 → Int32 → CM → Option (Int32 × CM)) (a2 : Int32) (a3 : Int32) (a4 : Int32) (a5 : Int32) (a6 : Int32) (a7 : Int32) (C : CM) : Option (Int32 × CM) := ldA (C.1 0 0 1) 940 a4 (fun v1 => cal (f_X7_isLetter v1 C) (fun v2 C3 => (if v2 = 0 then ldA (C3.1 0 0 1) 940 a4 (fun v5 => (k12 (a4 + 1) a5 a6 ((a7 * 10) + (v5 - 48)) C3)) else ldA (C3.1 0 0 1) 940 a4 (fun v6 => (k12 (a4 + 1) (a5 + 1) ((a6 * 32) + (v6 - 96)) a7 C3)))))
def f_X7_splitRun_t_12 (N : Nat) (a2 : Int32) (a3 : Int32) : Nat → Int32 → Int32 → Int32 → Int32 → CM → Option (Int32 × CM)
  | 0, _, _, _, _, _ => none
  | n + 1, a4, a5, a6, a7, C => (if a3 ≤ a4 then (f_X7_splitRun_t_90 N a2 a4 a5 a6 a7 C) else ldA (C.1 0 0 1) 940 a4 (fun v2 => cal (f_X7_isLetter v2 C) (fun v3 C4 => (if v3 = 0 then ldA (C4.1 0 0 1) 940 a4 (fun v6 => cal (f_X7_isDigit v6 C4) (fun v7 C8 => (if v7 = 0 then (f_X7_splitRun_t_90 N a2 a4 a5 a6 a7 C8) else (f_X7_splitRun_t_38 N (fun z4 z5 z6 z7 c => f_X7_splitRun_t_12 N a2 a3 n z4 z5 z6 z7 c) a2 a3 a4 a5 a6 a7 C8)))) else (f_X7_splitRun_t_38 N (fun z4 z5 z6 z7 c => f_X7_splitRun_t_12 N a2 a3 n z4 z5 z6 z7 c) a2 a3 a4 a5 a6 a7 C4)))))
def f_X7_splitRun_t (N : Nat) (a2 : Int32) (a3 : Int32) (C : CM) : Option (Int32 × CM) := (f_X7_splitRun_t_12 N a2 a3 N a2 0 0 0 C)
set_option maxRecDepth 8000 in
theorem t_X7_splitRun_t_178 {l : Launch} {G : GX} {X : XM} {Q : Int32 → Mem → Prop} (N : Nat) (a4 : Int32) (C : CM) (h : SAT (f_X7_splitRun_t_178 N a4 C) (fun v c => Q v (c, X))) : AB l G (rmD 6) 0 0 mt_X7_splitRun (ZQ G mt_X7_splitRun Q) 178 [(4, .int a4)] [] (C, X) := by
  unfold f_X7_splitRun_t_178 at h
  refine ab_iload 0 dX7_splitRun_178 rfl ?_
  exact fC_iret h rfl rfl dX7_splitRun_180
set_option maxRecDepth 8000 in
theorem t_X7_splitRun_t_171 {l : Launch} {G : GX} {X : XM} {Q : Int32 → Mem → Prop} (N : Nat) (a2 : Int32) (a4 : Int32) (C : CM) (h : SAT (f_X7_splitRun_t_171 N a2 a4 C) (fun v c => Q v (c, X))) : AB l G (rmD 6) 0 0 mt_X7_splitRun (ZQ G mt_X7_splitRun Q) 171 [(0, .ref (gA G 1 0 0)), (2, .int a2), (4, .int a4)] [] (C, X) := by
  unfold f_X7_splitRun_t_171 at h
  refine ab_aloadn 0 dX7_splitRun_171 rfl ?_
  refine ab_iconst (v := 1) dX7_splitRun_172 (by decide) ?_
  refine ab_iconst (v := 0) dX7_splitRun_173 (by decide) ?_
  refine ab_iloadn 1 dX7_splitRun_174 rfl ?_
  refine fC_Vv (mtc := mt_X7_add) (As := [.int 1, .int 0, .int a2]) h (fun Q h => ct_X7_add 1 0 a2 C h) ⟨by decide, by decide⟩ rfl rfl rfl mw_X7_add wd_47 rfl rfl ⟨Nat.le_of_ble_eq_true rfl, Nat.le_of_ble_eq_true rfl⟩ ⟨Nat.zero_le _, Nat.zero_le _⟩ (Nat.le_of_ble_eq_true rfl) rfl dX7_splitRun_175 (fun v1 C2 h => ?_)
  refine ab_sub [2] rfl ?_
  exact t_X7_splitRun_t_178 N a4 C2 h
set_option maxRecDepth 8000 in
theorem t_X7_splitRun_t_149 {l : Launch} {G : GX} {X : XM} {Q : Int32 → Mem → Prop} (N : Nat) (a2 : Int32) (a4 : Int32) (a5 : Int32) (a7 : Int32) (a8 : Int32) (C : CM) (h : SAT (f_X7_splitRun_t_149 N a2 a4 a5 a7 a8 C) (fun v c => Q v (c, X))) : AB l G (rmD 6) 0 0 mt_X7_splitRun (ZQ G mt_X7_splitRun Q) 149 [(0, .ref (gA G 1 0 0)), (2, .int a2), (4, .int a4), (5, .int a5), (7, .int a7), (8, .int a8)] [] (C, X) := by
  unfold f_X7_splitRun_t_149 at h
  refine ab_iload 3 dX7_splitRun_149 rfl ?_
  refine ab_if_ne (tgt := 171) dX7_splitRun_151 (by decide) (fun hc1 => ?_) (fun hc1 => ?_)
  · have h := sat_f hc1 h
    refine ab_sub [0, 1, 2] rfl ?_
    exact t_X7_splitRun_t_171 N a2 a4 C h
  · have h := sat_t hc1 h
    refine ab_iload 5 dX7_splitRun_154 rfl ?_
    refine ab_iconst (v := 3) dX7_splitRun_156 (by decide) ?_
    refine ab_icmp_gt (tgt := 171) dX7_splitRun_157 (by decide) (fun hc2 => ?_) (fun hc2 => ?_)
    · have h := sat_t hc2 h
      refine ab_sub [0, 1, 2] rfl ?_
      exact t_X7_splitRun_t_171 N a2 a4 C h
    · have h := sat_f hc2 h
      refine ab_aloadn 0 dX7_splitRun_160 rfl ?_
      refine ab_iconst (v := 4) dX7_splitRun_161 (by decide) ?_
      refine ab_iload 4 dX7_splitRun_162 rfl ?_
      refine ab_iloadn 1 dX7_splitRun_164 rfl ?_
      refine fC_Vv (mtc := mt_X7_add) (As := [.int 4, .int a7, .int a2]) h (fun Q h => ct_X7_add 4 a7 a2 C h) ⟨by decide, by decide⟩ rfl rfl rfl mw_X7_add wd_47 rfl rfl ⟨Nat.le_of_ble_eq_true rfl, Nat.le_of_ble_eq_true rfl⟩ ⟨Nat.zero_le _, Nat.zero_le _⟩ (Nat.le_of_ble_eq_true rfl) rfl dX7_splitRun_165 (fun v3 C4 h => ?_)
      refine ab_goto (tgt := 178) dX7_splitRun_168 (by decide) ?_
      refine ab_sub [2] rfl ?_
      exact t_X7_splitRun_t_178 N a4 C4 h
set_option maxRecDepth 8000 in
theorem t_X7_splitRun_t_142 {l : Launch} {G : GX} {X : XM} {Q : Int32 → Mem → Prop} (N : Nat) (a2 : Int32) (a4 : Int32) (as0 : Int32) (as1 : Int32) (C : CM) (h : SAT (f_X7_splitRun_t_142 N a2 a4 as0 as1 C) (fun v c => Q v (c, X))) : AB l G (rmD 6) 0 0 mt_X7_splitRun (ZQ G mt_X7_splitRun Q) 142 [(2, .int a2), (4, .int a4)] [.int as0, .int as1, .ref (gA G 1 0 0)] (C, X) := by
  unfold f_X7_splitRun_t_142 at h
  refine ab_iloadn 0 dX7_splitRun_142 rfl ?_
  refine fC_Vv (mtc := mt_X7_add) (As := [.int as1, .int as0, .int a2]) h (fun Q h => ct_X7_add as1 as0 a2 C h) ⟨by decide, by decide⟩ rfl rfl rfl mw_X7_add wd_47 rfl rfl ⟨Nat.le_of_ble_eq_true rfl, Nat.le_of_ble_eq_true rfl⟩ ⟨Nat.zero_le _, Nat.zero_le _⟩ (Nat.le_of_ble_eq_true rfl) rfl dX7_splitRun_143 (fun v1 C2 h => ?_)
  refine ab_goto (tgt := 178) dX7_splitRun_146 (by decide) ?_
  refine ab_sub [1] rfl ?_
  exact t_X7_splitRun_t_178 N a4 C2 h
set_option maxRecDepth 8000 in
theorem t_X7_splitRun_t_129 {l : Launch} {G : GX} {X : XM} {Q : Int32 → Mem → Prop} (N : Nat) (a2 : Int32) (a4 : Int32) (a6 : Int32) (a9 : Int32) (as0 : Int32) (C : CM) (h : SAT (f_X7_splitRun_t_129 N a2 a4 a6 a9 as0 C) (fun v c => Q v (c, X))) : AB l G (rmD 6) 0 0 mt_X7_splitRun (ZQ G mt_X7_splitRun Q) 129 [(2, .int a2), (4, .int a4), (6, .int a6), (9, .int a9)] [.int as0, .ref (gA G 1 0 0)] (C, X) := by
  unfold f_X7_splitRun_t_129 at h
  refine ab_iload 3 dX7_splitRun_129 rfl ?_
  refine ab_iconst (v := (-1)) dX7_splitRun_131 (by decide) ?_
  refine ab_icmp_ne (tgt := 140) dX7_splitRun_132 (by decide) (fun hc1 => ?_) (fun hc1 => ?_)
  · have h := sat_f hc1 h
    refine ab_iload 3 dX7_splitRun_140 rfl ?_
    refine ab_sub [0, 1] rfl ?_
    exact t_X7_splitRun_t_142 N a2 a4 a9 as0 C h
  · have h := sat_t hc1 h
    refine ab_iload 2 dX7_splitRun_135 rfl ?_
    refine ab_goto (tgt := 142) dX7_splitRun_137 (by decide) ?_
    refine ab_sub [0, 1] rfl ?_
    exact t_X7_splitRun_t_142 N a2 a4 a6 as0 C h
set_option maxRecDepth 8000 in
theorem t_X7_splitRun_t_90 {l : Launch} {G : GX} {X : XM} {Q : Int32 → Mem → Prop} (N : Nat) (a2 : Int32) (a4 : Int32) (a5 : Int32) (a6 : Int32) (a7 : Int32) (C : CM) (h : SAT (f_X7_splitRun_t_90 N a2 a4 a5 a6 a7 C) (fun v c => Q v (c, X))) : AB l G (rmD 6) 0 0 mt_X7_splitRun (ZQ G mt_X7_splitRun Q) 90 [(0, .ref (gA G 1 0 0)), (2, .int a2), (4, .int a4), (5, .int a5), (6, .int a6), (7, .int a7)] [] (C, X) := by
  unfold f_X7_splitRun_t_90 at h
  refine ab_iload 2 dX7_splitRun_90 rfl ?_
  refine ab_iloadn 1 dX7_splitRun_92 rfl ?_
  refine ab_isub dX7_splitRun_93 ?_
  refine ab_istore (lv' := [(0, .ref (gA G 1 0 0)), (2, .int a2), (4, .int a4), (5, .int a5), (6, .int a6), (7, .int a7), (8, .int (a4 - a2))]) dX7_splitRun_94 rfl (Nat.le_of_ble_eq_true rfl) rfl ?_
  refine ab_iload 3 dX7_splitRun_96 rfl ?_
  refine ab_iload 6 dX7_splitRun_98 rfl ?_
  refine ab_icmp_ne (tgt := 149) dX7_splitRun_100 (by decide) (fun hc1 => ?_) (fun hc1 => ?_)
  · have h := sat_f hc1 h
    refine ab_sub [0, 1, 2, 3, 5, 6] rfl ?_
    exact t_X7_splitRun_t_149 N a2 a4 a5 a7 (a4 - a2) C h
  · have h := sat_t hc1 h
    refine ab_iload 6 dX7_splitRun_103 rfl ?_
    refine ab_bipush (v := 6) dX7_splitRun_105 (by decide) ?_
    refine ab_icmp_gt (tgt := 149) dX7_splitRun_107 (by decide) (fun hc2 => ?_) (fun hc2 => ?_)
    · have h := sat_t hc2 h
      refine ab_sub [0, 1, 2, 3, 5, 6] rfl ?_
      exact t_X7_splitRun_t_149 N a2 a4 a5 a7 (a4 - a2) C h
    · have h := sat_f hc2 h
      refine ab_iload 4 dX7_splitRun_110 rfl ?_
      refine fC_Si (mtc := mt_X7_wordOf) (As := [.int a6]) h (fun Q h => ct_X7_wordOf N a6 C h) mw_X7_wordOf wd_45 wd_46 rfl rfl ⟨Nat.le_of_ble_eq_true rfl, Nat.le_of_ble_eq_true rfl⟩ ⟨Nat.zero_le _, Nat.zero_le _⟩ (Nat.le_of_ble_eq_true rfl) rfl dX7_splitRun_112 (fun v3 C4 h => ?_)
      refine ab_istore (lv' := [(0, .ref (gA G 1 0 0)), (2, .int a2), (4, .int a4), (5, .int a5), (6, .int a6), (7, .int a7), (8, .int (a4 - a2)), (9, .int v3)]) dX7_splitRun_115 rfl (Nat.le_of_ble_eq_true rfl) rfl ?_
      refine ab_aloadn 0 dX7_splitRun_117 rfl ?_
      refine ab_iload 7 dX7_splitRun_118 rfl ?_
      refine ab_iconst (v := (-1)) dX7_splitRun_120 (by decide) ?_
      refine ab_icmp_ne (tgt := 128) dX7_splitRun_121 (by decide) (fun hc5 => ?_) (fun hc5 => ?_)
      · have h := sat_f hc5 h
        refine ab_iconst (v := 2) dX7_splitRun_128 (by decide) ?_
        refine ab_sub [1, 2, 4, 7] rfl ?_
        exact t_X7_splitRun_t_129 N a2 a4 a6 v3 2 C4 h
      · have h := sat_t hc5 h
        refine ab_iconst (v := 3) dX7_splitRun_124 (by decide) ?_
        refine ab_goto (tgt := 129) dX7_splitRun_125 (by decide) ?_
        refine ab_sub [1, 2, 4, 7] rfl ?_
        exact t_X7_splitRun_t_129 N a2 a4 a6 v3 3 C4 h
set_option maxRecDepth 8000 in
theorem t_X7_splitRun_t_38 {l : Launch} {G : GX} {X : XM} {Q : Int32 → Mem → Prop} (N : Nat) (k12 : Int32 → Int32 → Int32 → Int32 → CM → Option (Int32 × CM)) (a2 : Int32) (a3 : Int32) (a4 : Int32) (a5 : Int32) (a6 : Int32) (a7 : Int32) (hk12 : ∀ (ac4 : Int32) (ac5 : Int32) (ac6 : Int32) (ac7 : Int32) (C : CM), SAT (k12 ac4 ac5 ac6 ac7 C) (fun v c => Q v (c, X)) → AB l G (rmD 6) 0 0 mt_X7_splitRun (ZQ G mt_X7_splitRun Q) 12 [(0, .ref (gA G 1 0 0)), (1, .ref (gA G 0 0 1)), (2, .int a2), (3, .int a3), (4, .int ac4), (5, .int ac5), (6, .int ac6), (7, .int ac7)] [] (C, X)) (C : CM) (h : SAT (f_X7_splitRun_t_38 N k12 a2 a3 a4 a5 a6 a7 C) (fun v c => Q v (c, X))) : AB l G (rmD 6) 0 0 mt_X7_splitRun (ZQ G mt_X7_splitRun Q) 38 [(0, .ref (gA G 1 0 0)), (1, .ref (gA G 0 0 1)), (2, .int a2), (3, .int a3), (4, .int a4), (5, .int a5), (6, .int a6), (7, .int a7)] [] (C, X) := by
  unfold f_X7_splitRun_t_38 at h
  refine ab_aloadn 1 dX7_splitRun_38 rfl ?_
  refine ab_iload 4 dX7_splitRun_39 rfl ?_
  refine fC_bald ⟨by decide, by decide⟩ rfl (by decide) (fun _ => rfl) h dX7_splitRun_41 (fun v1 h => ?_)
  refine fC_Si (mtc := mt_X7_isLetter) (As := [.int v1]) h (fun Q h => ct_X7_isLetter v1 C h) mw_X7_isLetter wd_37 wd_38 rfl rfl ⟨Nat.le_of_ble_eq_true rfl, Nat.le_of_ble_eq_true rfl⟩ ⟨Nat.zero_le _, Nat.zero_le _⟩ (Nat.le_of_ble_eq_true rfl) rfl dX7_splitRun_42 (fun v2 C3 h => ?_)
  refine ab_if_eq (tgt := 69) dX7_splitRun_45 (by decide) (fun hc4 => ?_) (fun hc4 => ?_)
  · have h := sat_t hc4 h
    refine ab_iload 7 dX7_splitRun_69 rfl ?_
    refine ab_bipush (v := 10) dX7_splitRun_71 (by decide) ?_
    refine ab_imul dX7_splitRun_73 ?_
    refine ab_aloadn 1 dX7_splitRun_74 rfl ?_
    refine ab_iload 4 dX7_splitRun_75 rfl ?_
    refine fC_bald ⟨by decide, by decide⟩ rfl (by decide) (fun _ => rfl) h dX7_splitRun_77 (fun v5 h => ?_)
    refine ab_bipush (v := 48) dX7_splitRun_78 (by decide) ?_
    refine ab_isub dX7_splitRun_80 ?_
    refine ab_iadd dX7_splitRun_81 ?_
    refine ab_istore (lv' := [(0, .ref (gA G 1 0 0)), (1, .ref (gA G 0 0 1)), (2, .int a2), (3, .int a3), (4, .int a4), (5, .int a5), (6, .int a6), (7, .int ((a7 * 10) + (v5 - 48)))]) dX7_splitRun_82 rfl (Nat.le_of_ble_eq_true rfl) rfl ?_
    refine ab_iinc (q := 4) (v := (a4 + 1)) (lv' := [(0, .ref (gA G 1 0 0)), (1, .ref (gA G 0 0 1)), (2, .int a2), (3, .int a3), (4, .int (a4 + 1)), (5, .int a5), (6, .int a6), (7, .int ((a7 * 10) + (v5 - 48)))]) dX7_splitRun_84 rfl rfl rfl (Nat.le_of_ble_eq_true rfl) rfl ?_
    refine ab_goto (tgt := 12) dX7_splitRun_87 (by decide) ?_
    exact hk12 (a4 + 1) a5 a6 ((a7 * 10) + (v5 - 48)) C3 h
  · have h := sat_f hc4 h
    refine ab_iinc (q := 5) (v := (a5 + 1)) (lv' := [(0, .ref (gA G 1 0 0)), (1, .ref (gA G 0 0 1)), (2, .int a2), (3, .int a3), (4, .int a4), (5, .int (a5 + 1)), (6, .int a6), (7, .int a7)]) dX7_splitRun_48 rfl rfl rfl (Nat.le_of_ble_eq_true rfl) rfl ?_
    refine ab_iload 6 dX7_splitRun_51 rfl ?_
    refine ab_bipush (v := 32) dX7_splitRun_53 (by decide) ?_
    refine ab_imul dX7_splitRun_55 ?_
    refine ab_aloadn 1 dX7_splitRun_56 rfl ?_
    refine ab_iload 4 dX7_splitRun_57 rfl ?_
    refine fC_bald ⟨by decide, by decide⟩ rfl (by decide) (fun _ => rfl) h dX7_splitRun_59 (fun v6 h => ?_)
    refine ab_bipush (v := 96) dX7_splitRun_60 (by decide) ?_
    refine ab_isub dX7_splitRun_62 ?_
    refine ab_iadd dX7_splitRun_63 ?_
    refine ab_istore (lv' := [(0, .ref (gA G 1 0 0)), (1, .ref (gA G 0 0 1)), (2, .int a2), (3, .int a3), (4, .int a4), (5, .int (a5 + 1)), (6, .int ((a6 * 32) + (v6 - 96))), (7, .int a7)]) dX7_splitRun_64 rfl (Nat.le_of_ble_eq_true rfl) rfl ?_
    refine ab_goto (tgt := 84) dX7_splitRun_66 (by decide) ?_
    refine ab_iinc (q := 4) (v := (a4 + 1)) (lv' := [(0, .ref (gA G 1 0 0)), (1, .ref (gA G 0 0 1)), (2, .int a2), (3, .int a3), (4, .int (a4 + 1)), (5, .int (a5 + 1)), (6, .int ((a6 * 32) + (v6 - 96))), (7, .int a7)]) dX7_splitRun_84 rfl rfl rfl (Nat.le_of_ble_eq_true rfl) rfl ?_
    refine ab_goto (tgt := 12) dX7_splitRun_87 (by decide) ?_
    exact hk12 (a4 + 1) (a5 + 1) ((a6 * 32) + (v6 - 96)) a7 C3 h
set_option maxRecDepth 8000 in
theorem t_X7_splitRun_t_12 {l : Launch} {G : GX} {X : XM} {Q : Int32 → Mem → Prop} (N : Nat) (a2 : Int32) (a3 : Int32) : ∀ (n : Nat) (a4 : Int32) (a5 : Int32) (a6 : Int32) (a7 : Int32) (C : CM), SAT (f_X7_splitRun_t_12 N a2 a3 n a4 a5 a6 a7 C) (fun v c => Q v (c, X)) → AB l G (rmD 6) 0 0 mt_X7_splitRun (ZQ G mt_X7_splitRun Q) 12 [(0, .ref (gA G 1 0 0)), (1, .ref (gA G 0 0 1)), (2, .int a2), (3, .int a3), (4, .int a4), (5, .int a5), (6, .int a6), (7, .int a7)] [] (C, X) := by
  intro n
  induction n with
  | zero => intro a4 a5 a6 a7 C h; exact h.elim
  | succ n ih =>
    intro a4 a5 a6 a7 C h
    rw [f_X7_splitRun_t_12] at h
    refine ab_iload 4 dX7_splitRun_12 rfl ?_
    refine ab_iloadn 3 dX7_splitRun_14 rfl ?_
    refine ab_icmp_ge (tgt := 90) dX7_splitRun_15 (by decide) (fun hc1 => ?_) (fun hc1 => ?_)
    · have h := sat_t hc1 h
      refine ab_sub [0, 2, 4, 5, 6, 7] rfl ?_
      exact t_X7_splitRun_t_90 N a2 a4 a5 a6 a7 C h
    · have h := sat_f hc1 h
      refine ab_aloadn 1 dX7_splitRun_18 rfl ?_
      refine ab_iload 4 dX7_splitRun_19 rfl ?_
      refine fC_bald ⟨by decide, by decide⟩ rfl (by decide) (fun _ => rfl) h dX7_splitRun_21 (fun v2 h => ?_)
      refine fC_Si (mtc := mt_X7_isLetter) (As := [.int v2]) h (fun Q h => ct_X7_isLetter v2 C h) mw_X7_isLetter wd_37 wd_38 rfl rfl ⟨Nat.le_of_ble_eq_true rfl, Nat.le_of_ble_eq_true rfl⟩ ⟨Nat.zero_le _, Nat.zero_le _⟩ (Nat.le_of_ble_eq_true rfl) rfl dX7_splitRun_22 (fun v3 C4 h => ?_)
      refine ab_if_ne (tgt := 38) dX7_splitRun_25 (by decide) (fun hc5 => ?_) (fun hc5 => ?_)
      · have h := sat_f hc5 h
        exact t_X7_splitRun_t_38 N (fun z4 z5 z6 z7 c => f_X7_splitRun_t_12 N a2 a3 n z4 z5 z6 z7 c) a2 a3 a4 a5 a6 a7 ih C4 h
      · have h := sat_t hc5 h
        refine ab_aloadn 1 dX7_splitRun_28 rfl ?_
        refine ab_iload 4 dX7_splitRun_29 rfl ?_
        refine fC_bald ⟨by decide, by decide⟩ rfl (by decide) (fun _ => rfl) h dX7_splitRun_31 (fun v6 h => ?_)
        refine fC_Si (mtc := mt_X7_isDigit) (As := [.int v6]) h (fun Q h => ct_X7_isDigit v6 C4 h) mw_X7_isDigit wd_39 wd_40 rfl rfl ⟨Nat.le_of_ble_eq_true rfl, Nat.le_of_ble_eq_true rfl⟩ ⟨Nat.zero_le _, Nat.zero_le _⟩ (Nat.le_of_ble_eq_true rfl) rfl dX7_splitRun_32 (fun v7 C8 h => ?_)
        refine ab_if_eq (tgt := 90) dX7_splitRun_35 (by decide) (fun hc9 => ?_) (fun hc9 => ?_)
        · have h := sat_t hc9 h
          refine ab_sub [0, 2, 4, 5, 6, 7] rfl ?_
          exact t_X7_splitRun_t_90 N a2 a4 a5 a6 a7 C8 h
        · have h := sat_f hc9 h
          exact t_X7_splitRun_t_38 N (fun z4 z5 z6 z7 c => f_X7_splitRun_t_12 N a2 a3 n z4 z5 z6 z7 c) a2 a3 a4 a5 a6 a7 ih C8 h
set_option maxRecDepth 8000 in
theorem t_X7_splitRun_t_0 {l : Launch} {G : GX} {X : XM} {Q : Int32 → Mem → Prop} (N : Nat) (a2 : Int32) (a3 : Int32) (C : CM) (h : SAT (f_X7_splitRun_t N a2 a3 C) (fun v c => Q v (c, X))) : AB l G (rmD 6) 0 0 mt_X7_splitRun (ZQ G mt_X7_splitRun Q) 0 [(0, .ref (gA G 1 0 0)), (1, .ref (gA G 0 0 1)), (2, .int a2), (3, .int a3)] [] (C, X) := by
  unfold f_X7_splitRun_t at h
  refine ab_iloadn 2 dX7_splitRun_0 rfl ?_
  refine ab_istore (lv' := [(0, .ref (gA G 1 0 0)), (1, .ref (gA G 0 0 1)), (2, .int a2), (3, .int a3), (4, .int a2)]) dX7_splitRun_1 rfl (Nat.le_of_ble_eq_true rfl) rfl ?_
  refine ab_iconst (v := 0) dX7_splitRun_3 (by decide) ?_
  refine ab_istore (lv' := [(0, .ref (gA G 1 0 0)), (1, .ref (gA G 0 0 1)), (2, .int a2), (3, .int a3), (4, .int a2), (5, .int 0)]) dX7_splitRun_4 rfl (Nat.le_of_ble_eq_true rfl) rfl ?_
  refine ab_iconst (v := 0) dX7_splitRun_6 (by decide) ?_
  refine ab_istore (lv' := [(0, .ref (gA G 1 0 0)), (1, .ref (gA G 0 0 1)), (2, .int a2), (3, .int a3), (4, .int a2), (5, .int 0), (6, .int 0)]) dX7_splitRun_7 rfl (Nat.le_of_ble_eq_true rfl) rfl ?_
  refine ab_iconst (v := 0) dX7_splitRun_9 (by decide) ?_
  refine ab_istore (lv' := [(0, .ref (gA G 1 0 0)), (1, .ref (gA G 0 0 1)), (2, .int a2), (3, .int a3), (4, .int a2), (5, .int 0), (6, .int 0), (7, .int 0)]) dX7_splitRun_10 rfl (Nat.le_of_ble_eq_true rfl) rfl ?_
  exact t_X7_splitRun_t_12 N a2 a3 N a2 0 0 0 C h
theorem ct_X7_splitRun_t {l : Launch} {G : GX} {X : XM} {Q : Int32 → Mem → Prop} (N : Nat) (a2 : Int32) (a3 : Int32) (C : CM) (h : SAT (f_X7_splitRun_t N a2 a3 C) (fun v c => Q v (c, X))) : CT l G 6 mt_X7_splitRun [.ref (gA G 1 0 0), .ref (gA G 0 0 1), .int a2, .int a3] (C, X) Q := ct_of pn_X7 (Nat.le_of_ble_eq_true rfl) (t_X7_splitRun_t_0 N a2 a3 C h)
def f_X7_split_t_144 (N : Nat) (a4 : Int32) (as0 : Int32) (C : CM) : Option (Int32 × CM) := cal (f_X7_add as0 0 a4 C) (fun v1 C2 => (rt 0 C2))
def f_X7_split_t_133 (N : Nat) (a2 : Int32) (a3 : Int32) (a4 : Int32) (C : CM) : Option (Int32 × CM) := (if a2 ≤ a3 then (f_X7_split_t_144 N a4 0 C) else (f_X7_split_t_144 N a4 1 C))
def f_X7_split_t_117 (N : Nat) (k33 : Int32 → Int32 → CM → Option (Int32 × CM)) (a2 : Int32) (a3 : Int32) (a4 : Int32) (a5 : Int32) (a6 : Int32) (a7 : Int32) (as0 : Int32) (C : CM) : Option (Int32 × CM) := cal (f_X7_add as0 a7 a5 C) (fun v1 C2 => (k33 (a5 + 1) (a6 + 1) C2))
def f_X7_split_t_90 (N : Nat) (k33 : Int32 → Int32 → CM → Option (Int32 × CM)) (a2 : Int32) (a3 : Int32) (a4 : Int32) (a5 : Int32) (a6 : Int32) (C : CM) : Option (Int32 × CM) := cal (f_X7_splitRun_t N a5 a2 C) (fun v1 C2 => (k33 v1 (a6 + 1) C2))
def f_X7_split_t_33 (N : Nat) (a2 : Int32) (a3 : Int32) (a4 : Int32) : Nat → Int32 → Int32 → CM → Option (Int32 × CM)
  | 0, _, _, _ => none
  | n + 1, a5, a6, C => (if 940 ≤ a6 then (f_X7_split_t_133 N a2 a3 a4 C) else (if a4 ≤ a5 then (f_X7_split_t_133 N a2 a3 a4 C) else ldA (C.1 0 0 1) 940 a5 (fun v3 => (if v3 = 32 then (f_X7_split_t_33 N a2 a3 a4 n (a5 + 1) (a6 + 1) C) else (if v3 = 10 then (f_X7_split_t_33 N a2 a3 a4 n (a5 + 1) (a6 + 1) C) else cal (f_X7_isLetter v3 C) (fun v6 C7 => (if v6 = 0 then cal (f_X7_isDigit v3 C7) (fun v9 C10 => (if v9 = 0 then cal (f_X7_isMark v3 C10) (fun v12 C13 => (if v12 = 0 then (f_X7_split_t_117 N (fun z5 z6 c => f_X7_split_t_33 N a2 a3 a4 n z5 z6 c) a2 a3 a4 a5 a6 v3 1 C13) else (f_X7_split_t_117 N (fun z5 z6 c => f_X7_split_t_33 N a2 a3 a4 n z5 z6 c) a2 a3 a4 a5 a6 v3 5 C13))) else (f_X7_split_t_90 N (fun z5 z6 c => f_X7_split_t_33 N a2 a3 a4 n z5 z6 c) a2 a3 a4 a5 a6 C10))) else (f_X7_split_t_90 N (fun z5 z6 c => f_X7_split_t_33 N a2 a3 a4 n z5 z6 c) a2 a3 a4 a5 a6 C7))))))))
def f_X7_split_t (N : Nat) (a2 : Int32) (a3 : Int32) (C : CM) : Option (Int32 × CM) := bnd (stC C 1 0 0 3 0) (fun C1 => bnd (stC C1 1 0 0 4 0) (fun C2 => bnd (stC C2 1 0 0 5 0) (fun C3 => bnd (stC C3 1 0 0 6 0) (fun C4 => (f_X7_split_t_33 N a2 a3 (imin a2 a3) N 0 0 C4)))))
set_option maxRecDepth 8000 in
theorem t_X7_split_t_144 {l : Launch} {G : GX} {X : XM} {Q : Int32 → Mem → Prop} (N : Nat) (a4 : Int32) (as0 : Int32) (C : CM) (h : SAT (f_X7_split_t_144 N a4 as0 C) (fun v c => Q v (c, X))) : AB l G (rmD 7) 0 0 mt_X7_split (ZQ G mt_X7_split Q) 144 [(4, .int a4)] [.int as0, .ref (gA G 1 0 0)] (C, X) := by
  unfold f_X7_split_t_144 at h
  refine ab_iconst (v := 0) dX7_split_144 (by decide) ?_
  refine ab_iload 0 dX7_split_145 rfl ?_
  refine fC_Vv (mtc := mt_X7_add) (As := [.int as0, .int 0, .int a4]) h (fun Q h => ct_X7_add as0 0 a4 C h) ⟨by decide, by decide⟩ rfl rfl rfl mw_X7_add wd_47 rfl rfl ⟨Nat.le_of_ble_eq_true rfl, Nat.le_of_ble_eq_true rfl⟩ ⟨Nat.zero_le _, Nat.zero_le _⟩ (Nat.le_of_ble_eq_true rfl) rfl dX7_split_147 (fun v1 C2 h => ?_)
  exact fC_vret h rfl dX7_split_150
set_option maxRecDepth 8000 in
theorem t_X7_split_t_133 {l : Launch} {G : GX} {X : XM} {Q : Int32 → Mem → Prop} (N : Nat) (a2 : Int32) (a3 : Int32) (a4 : Int32) (C : CM) (h : SAT (f_X7_split_t_133 N a2 a3 a4 C) (fun v c => Q v (c, X))) : AB l G (rmD 7) 0 0 mt_X7_split (ZQ G mt_X7_split Q) 133 [(0, .ref (gA G 1 0 0)), (2, .int a2), (3, .int a3), (4, .int a4)] [] (C, X) := by
  unfold f_X7_split_t_133 at h
  refine ab_aloadn 0 dX7_split_133 rfl ?_
  refine ab_iloadn 1 dX7_split_134 rfl ?_
  refine ab_iloadn 2 dX7_split_135 rfl ?_
  refine ab_icmp_le (tgt := 143) dX7_split_136 (by decide) (fun hc1 => ?_) (fun hc1 => ?_)
  · have h := sat_t hc1 h
    refine ab_iconst (v := 0) dX7_split_143 (by decide) ?_
    refine ab_sub [3] rfl ?_
    exact t_X7_split_t_144 N a4 0 C h
  · have h := sat_f hc1 h
    refine ab_iconst (v := 1) dX7_split_139 (by decide) ?_
    refine ab_goto (tgt := 144) dX7_split_140 (by decide) ?_
    refine ab_sub [3] rfl ?_
    exact t_X7_split_t_144 N a4 1 C h
set_option maxRecDepth 8000 in
theorem t_X7_split_t_117 {l : Launch} {G : GX} {X : XM} {Q : Int32 → Mem → Prop} (N : Nat) (k33 : Int32 → Int32 → CM → Option (Int32 × CM)) (a2 : Int32) (a3 : Int32) (a4 : Int32) (a5 : Int32) (a6 : Int32) (a7 : Int32) (as0 : Int32) (hk33 : ∀ (ac5 : Int32) (ac6 : Int32) (C : CM), SAT (k33 ac5 ac6 C) (fun v c => Q v (c, X)) → AB l G (rmD 7) 0 0 mt_X7_split (ZQ G mt_X7_split Q) 33 [(0, .ref (gA G 1 0 0)), (1, .ref (gA G 0 0 1)), (2, .int a2), (3, .int a3), (4, .int a4), (5, .int ac5), (6, .int ac6)] [] (C, X)) (C : CM) (h : SAT (f_X7_split_t_117 N k33 a2 a3 a4 a5 a6 a7 as0 C) (fun v c => Q v (c, X))) : AB l G (rmD 7) 0 0 mt_X7_split (ZQ G mt_X7_split Q) 117 [(0, .ref (gA G 1 0 0)), (1, .ref (gA G 0 0 1)), (2, .int a2), (3, .int a3), (4, .int a4), (5, .int a5), (6, .int a6), (7, .int a7)] [.int as0, .ref (gA G 1 0 0)] (C, X) := by
  unfold f_X7_split_t_117 at h
  refine ab_iload 7 dX7_split_117 rfl ?_
  refine ab_iload 5 dX7_split_119 rfl ?_
  refine fC_Vv (mtc := mt_X7_add) (As := [.int as0, .int a7, .int a5]) h (fun Q h => ct_X7_add as0 a7 a5 C h) ⟨by decide, by decide⟩ rfl rfl rfl mw_X7_add wd_47 rfl rfl ⟨Nat.le_of_ble_eq_true rfl, Nat.le_of_ble_eq_true rfl⟩ ⟨Nat.zero_le _, Nat.zero_le _⟩ (Nat.le_of_ble_eq_true rfl) rfl dX7_split_121 (fun v1 C2 h => ?_)
  refine ab_iinc (q := 5) (v := (a5 + 1)) (lv' := [(0, .ref (gA G 1 0 0)), (1, .ref (gA G 0 0 1)), (2, .int a2), (3, .int a3), (4, .int a4), (5, .int (a5 + 1)), (6, .int a6), (7, .int a7)]) dX7_split_124 rfl rfl rfl (Nat.le_of_ble_eq_true rfl) rfl ?_
  refine ab_iinc (q := 6) (v := (a6 + 1)) (lv' := [(0, .ref (gA G 1 0 0)), (1, .ref (gA G 0 0 1)), (2, .int a2), (3, .int a3), (4, .int a4), (5, .int (a5 + 1)), (6, .int (a6 + 1)), (7, .int a7)]) dX7_split_127 rfl rfl rfl (Nat.le_of_ble_eq_true rfl) rfl ?_
  refine ab_goto (tgt := 33) dX7_split_130 (by decide) ?_
  refine ab_sub [0, 1, 2, 3, 4, 5, 6] rfl ?_
  exact hk33 (a5 + 1) (a6 + 1) C2 h
set_option maxRecDepth 8000 in
theorem t_X7_split_t_90 {l : Launch} {G : GX} {X : XM} {Q : Int32 → Mem → Prop} (N : Nat) (k33 : Int32 → Int32 → CM → Option (Int32 × CM)) (a2 : Int32) (a3 : Int32) (a4 : Int32) (a5 : Int32) (a6 : Int32) (hk33 : ∀ (ac5 : Int32) (ac6 : Int32) (C : CM), SAT (k33 ac5 ac6 C) (fun v c => Q v (c, X)) → AB l G (rmD 7) 0 0 mt_X7_split (ZQ G mt_X7_split Q) 33 [(0, .ref (gA G 1 0 0)), (1, .ref (gA G 0 0 1)), (2, .int a2), (3, .int a3), (4, .int a4), (5, .int ac5), (6, .int ac6)] [] (C, X)) (C : CM) (h : SAT (f_X7_split_t_90 N k33 a2 a3 a4 a5 a6 C) (fun v c => Q v (c, X))) : AB l G (rmD 7) 0 0 mt_X7_split (ZQ G mt_X7_split Q) 90 [(0, .ref (gA G 1 0 0)), (1, .ref (gA G 0 0 1)), (2, .int a2), (3, .int a3), (4, .int a4), (5, .int a5), (6, .int a6)] [] (C, X) := by
  unfold f_X7_split_t_90 at h
  refine ab_aloadn 0 dX7_split_90 rfl ?_
  refine ab_aloadn 1 dX7_split_91 rfl ?_
  refine ab_iload 5 dX7_split_92 rfl ?_
  refine ab_iloadn 2 dX7_split_94 rfl ?_
  refine fC_Vi (mtc := mt_X7_splitRun) (As := [.ref (gA G 0 0 1), .int a5, .int a2]) h (fun Q h => ct_X7_splitRun_t N a5 a2 C h) ⟨by decide, by decide⟩ rfl rfl rfl mw_X7_splitRun wd_48 rfl rfl ⟨Nat.le_of_ble_eq_true rfl, Nat.le_of_ble_eq_true rfl⟩ ⟨Nat.zero_le _, Nat.zero_le _⟩ (Nat.le_of_ble_eq_true rfl) rfl dX7_split_95 (fun v1 C2 h => ?_)
  refine ab_istore (lv' := [(0, .ref (gA G 1 0 0)), (1, .ref (gA G 0 0 1)), (2, .int a2), (3, .int a3), (4, .int a4), (5, .int v1), (6, .int a6)]) dX7_split_98 rfl (Nat.le_of_ble_eq_true rfl) rfl ?_
  refine ab_goto (tgt := 127) dX7_split_100 (by decide) ?_
  refine ab_iinc (q := 6) (v := (a6 + 1)) (lv' := [(0, .ref (gA G 1 0 0)), (1, .ref (gA G 0 0 1)), (2, .int a2), (3, .int a3), (4, .int a4), (5, .int v1), (6, .int (a6 + 1))]) dX7_split_127 rfl rfl rfl (Nat.le_of_ble_eq_true rfl) rfl ?_
  refine ab_goto (tgt := 33) dX7_split_130 (by decide) ?_
  exact hk33 v1 (a6 + 1) C2 h
set_option maxRecDepth 8000 in
theorem t_X7_split_t_33 {l : Launch} {G : GX} {X : XM} {Q : Int32 → Mem → Prop} (N : Nat) (a2 : Int32) (a3 : Int32) (a4 : Int32) : ∀ (n : Nat) (a5 : Int32) (a6 : Int32) (C : CM), SAT (f_X7_split_t_33 N a2 a3 a4 n a5 a6 C) (fun v c => Q v (c, X)) → AB l G (rmD 7) 0 0 mt_X7_split (ZQ G mt_X7_split Q) 33 [(0, .ref (gA G 1 0 0)), (1, .ref (gA G 0 0 1)), (2, .int a2), (3, .int a3), (4, .int a4), (5, .int a5), (6, .int a6)] [] (C, X) := by
  intro n
  induction n with
  | zero => intro a5 a6 C h; exact h.elim
  | succ n ih =>
    intro a5 a6 C h
    rw [f_X7_split_t_33] at h
    refine ab_iload 6 dX7_split_33 rfl ?_
    refine ab_sipush (v := 940) dX7_split_35 (by decide) ?_
    refine ab_icmp_ge (tgt := 133) dX7_split_38 (by decide) (fun hc1 => ?_) (fun hc1 => ?_)
    · have h := sat_t hc1 h
      refine ab_sub [0, 2, 3, 4] rfl ?_
      exact t_X7_split_t_133 N a2 a3 a4 C h
    · have h := sat_f hc1 h
      refine ab_iload 5 dX7_split_41 rfl ?_
      refine ab_iload 4 dX7_split_43 rfl ?_
      refine ab_icmp_ge (tgt := 133) dX7_split_45 (by decide) (fun hc2 => ?_) (fun hc2 => ?_)
      · have h := sat_t hc2 h
        refine ab_sub [0, 2, 3, 4] rfl ?_
        exact t_X7_split_t_133 N a2 a3 a4 C h
      · have h := sat_f hc2 h
        refine ab_aloadn 1 dX7_split_48 rfl ?_
        refine ab_iload 5 dX7_split_49 rfl ?_
        refine fC_bald ⟨by decide, by decide⟩ rfl (by decide) (fun _ => rfl) h dX7_split_51 (fun v3 h => ?_)
        refine ab_istore (lv' := [(0, .ref (gA G 1 0 0)), (1, .ref (gA G 0 0 1)), (2, .int a2), (3, .int a3), (4, .int a4), (5, .int a5), (6, .int a6), (7, .int v3)]) dX7_split_52 rfl (Nat.le_of_ble_eq_true rfl) rfl ?_
        refine ab_iload 7 dX7_split_54 rfl ?_
        refine ab_bipush (v := 32) dX7_split_56 (by decide) ?_
        refine ab_icmp_eq (tgt := 68) dX7_split_58 (by decide) (fun hc4 => ?_) (fun hc4 => ?_)
        · have h := sat_t hc4 h
          refine ab_iinc (q := 5) (v := (a5 + 1)) (lv' := [(0, .ref (gA G 1 0 0)), (1, .ref (gA G 0 0 1)), (2, .int a2), (3, .int a3), (4, .int a4), (5, .int (a5 + 1)), (6, .int a6), (7, .int v3)]) dX7_split_68 rfl rfl rfl (Nat.le_of_ble_eq_true rfl) rfl ?_
          refine ab_goto (tgt := 127) dX7_split_71 (by decide) ?_
          refine ab_iinc (q := 6) (v := (a6 + 1)) (lv' := [(0, .ref (gA G 1 0 0)), (1, .ref (gA G 0 0 1)), (2, .int a2), (3, .int a3), (4, .int a4), (5, .int (a5 + 1)), (6, .int (a6 + 1)), (7, .int v3)]) dX7_split_127 rfl rfl rfl (Nat.le_of_ble_eq_true rfl) rfl ?_
          refine ab_goto (tgt := 33) dX7_split_130 (by decide) ?_
          refine ab_sub [0, 1, 2, 3, 4, 5, 6] rfl ?_
          exact ih (a5 + 1) (a6 + 1) C h
        · have h := sat_f hc4 h
          refine ab_iload 7 dX7_split_61 rfl ?_
          refine ab_bipush (v := 10) dX7_split_63 (by decide) ?_
          refine ab_icmp_ne (tgt := 74) dX7_split_65 (by decide) (fun hc5 => ?_) (fun hc5 => ?_)
          · have h := sat_f hc5 h
            refine ab_iload 7 dX7_split_74 rfl ?_
            refine fC_Si (mtc := mt_X7_isLetter) (As := [.int v3]) h (fun Q h => ct_X7_isLetter v3 C h) mw_X7_isLetter wd_37 wd_38 rfl rfl ⟨Nat.le_of_ble_eq_true rfl, Nat.le_of_ble_eq_true rfl⟩ ⟨Nat.zero_le _, Nat.zero_le _⟩ (Nat.le_of_ble_eq_true rfl) rfl dX7_split_76 (fun v6 C7 h => ?_)
            refine ab_if_ne (tgt := 90) dX7_split_79 (by decide) (fun hc8 => ?_) (fun hc8 => ?_)
            · have h := sat_f hc8 h
              refine ab_sub [0, 1, 2, 3, 4, 5, 6] rfl ?_
              exact t_X7_split_t_90 N (fun z5 z6 c => f_X7_split_t_33 N a2 a3 a4 n z5 z6 c) a2 a3 a4 a5 a6 ih C7 h
            · have h := sat_t hc8 h
              refine ab_iload 7 dX7_split_82 rfl ?_
              refine fC_Si (mtc := mt_X7_isDigit) (As := [.int v3]) h (fun Q h => ct_X7_isDigit v3 C7 h) mw_X7_isDigit wd_39 wd_40 rfl rfl ⟨Nat.le_of_ble_eq_true rfl, Nat.le_of_ble_eq_true rfl⟩ ⟨Nat.zero_le _, Nat.zero_le _⟩ (Nat.le_of_ble_eq_true rfl) rfl dX7_split_84 (fun v9 C10 h => ?_)
              refine ab_if_eq (tgt := 103) dX7_split_87 (by decide) (fun hc11 => ?_) (fun hc11 => ?_)
              · have h := sat_t hc11 h
                refine ab_aloadn 0 dX7_split_103 rfl ?_
                refine ab_iload 7 dX7_split_104 rfl ?_
                refine fC_Si (mtc := mt_X7_isMark) (As := [.int v3]) h (fun Q h => ct_X7_isMark v3 C10 h) mw_X7_isMark wd_41 wd_42 rfl rfl ⟨Nat.le_of_ble_eq_true rfl, Nat.le_of_ble_eq_true rfl⟩ ⟨Nat.zero_le _, Nat.zero_le _⟩ (Nat.le_of_ble_eq_true rfl) rfl dX7_split_106 (fun v12 C13 h => ?_)
                refine ab_if_eq (tgt := 116) dX7_split_109 (by decide) (fun hc14 => ?_) (fun hc14 => ?_)
                · have h := sat_t hc14 h
                  refine ab_iconst (v := 1) dX7_split_116 (by decide) ?_
                  exact t_X7_split_t_117 N (fun z5 z6 c => f_X7_split_t_33 N a2 a3 a4 n z5 z6 c) a2 a3 a4 a5 a6 v3 1 ih C13 h
                · have h := sat_f hc14 h
                  refine ab_iconst (v := 5) dX7_split_112 (by decide) ?_
                  refine ab_goto (tgt := 117) dX7_split_113 (by decide) ?_
                  exact t_X7_split_t_117 N (fun z5 z6 c => f_X7_split_t_33 N a2 a3 a4 n z5 z6 c) a2 a3 a4 a5 a6 v3 5 ih C13 h
              · have h := sat_f hc11 h
                refine ab_sub [0, 1, 2, 3, 4, 5, 6] rfl ?_
                exact t_X7_split_t_90 N (fun z5 z6 c => f_X7_split_t_33 N a2 a3 a4 n z5 z6 c) a2 a3 a4 a5 a6 ih C10 h
          · have h := sat_t hc5 h
            refine ab_iinc (q := 5) (v := (a5 + 1)) (lv' := [(0, .ref (gA G 1 0 0)), (1, .ref (gA G 0 0 1)), (2, .int a2), (3, .int a3), (4, .int a4), (5, .int (a5 + 1)), (6, .int a6), (7, .int v3)]) dX7_split_68 rfl rfl rfl (Nat.le_of_ble_eq_true rfl) rfl ?_
            refine ab_goto (tgt := 127) dX7_split_71 (by decide) ?_
            refine ab_iinc (q := 6) (v := (a6 + 1)) (lv' := [(0, .ref (gA G 1 0 0)), (1, .ref (gA G 0 0 1)), (2, .int a2), (3, .int a3), (4, .int a4), (5, .int (a5 + 1)), (6, .int (a6 + 1)), (7, .int v3)]) dX7_split_127 rfl rfl rfl (Nat.le_of_ble_eq_true rfl) rfl ?_
            refine ab_goto (tgt := 33) dX7_split_130 (by decide) ?_
            refine ab_sub [0, 1, 2, 3, 4, 5, 6] rfl ?_
            exact ih (a5 + 1) (a6 + 1) C h
set_option maxRecDepth 8000 in
theorem t_X7_split_t_0 {l : Launch} {G : GX} {X : XM} {Q : Int32 → Mem → Prop} (N : Nat) (a2 : Int32) (a3 : Int32) (C : CM) (h : SAT (f_X7_split_t N a2 a3 C) (fun v c => Q v (c, X))) : AB l G (rmD 7) 0 0 mt_X7_split (ZQ G mt_X7_split Q) 0 [(0, .ref (gA G 1 0 0)), (1, .ref (gA G 0 0 1)), (2, .int a2), (3, .int a3)] [] (C, X) := by
  unfold f_X7_split_t at h
  refine ab_aloadn 0 dX7_split_0 rfl ?_
  refine ab_iconst (v := 0) dX7_split_1 (by decide) ?_
  refine fC_pi (x := 3) (ty := .int) ⟨by decide, by decide⟩ rfl rfl (Nat.le_of_ble_eq_true rfl) wd_1 (by decide) rfl h rfl (by decide +kernel) rfl rfl dX7_split_2 (fun C1 h => ?_)
  refine ab_aloadn 0 dX7_split_5 rfl ?_
  refine ab_iconst (v := 0) dX7_split_6 (by decide) ?_
  refine fC_pi (x := 4) (ty := .int) ⟨by decide, by decide⟩ rfl rfl (Nat.le_of_ble_eq_true rfl) wd_0 (by decide) rfl h rfl (by decide +kernel) rfl rfl dX7_split_7 (fun C2 h => ?_)
  refine ab_aloadn 0 dX7_split_10 rfl ?_
  refine ab_iconst (v := 0) dX7_split_11 (by decide) ?_
  refine fC_pi (x := 5) (ty := .int) ⟨by decide, by decide⟩ rfl rfl (Nat.le_of_ble_eq_true rfl) wd_6 (by decide) rfl h rfl (by decide +kernel) rfl rfl dX7_split_12 (fun C3 h => ?_)
  refine ab_aloadn 0 dX7_split_15 rfl ?_
  refine ab_iconst (v := 0) dX7_split_16 (by decide) ?_
  refine fC_pi (x := 6) (ty := .int) ⟨by decide, by decide⟩ rfl rfl (Nat.le_of_ble_eq_true rfl) wd_8 (by decide) rfl h rfl (by decide +kernel) rfl rfl dX7_split_17 (fun C4 h => ?_)
  refine ab_iloadn 2 dX7_split_20 rfl ?_
  refine ab_iloadn 3 dX7_split_21 rfl ?_
  refine ab_mmin wd_34 wd_35 wd_36 wm_min ⟨Nat.le_of_ble_eq_true rfl, Nat.le_of_ble_eq_true rfl⟩ ⟨Nat.zero_le _, Nat.zero_le _⟩ dX7_split_22 ?_
  refine ab_istore (lv' := [(0, .ref (gA G 1 0 0)), (1, .ref (gA G 0 0 1)), (2, .int a2), (3, .int a3), (4, .int (imin a2 a3))]) dX7_split_25 rfl (Nat.le_of_ble_eq_true rfl) rfl ?_
  refine ab_iconst (v := 0) dX7_split_27 (by decide) ?_
  refine ab_istore (lv' := [(0, .ref (gA G 1 0 0)), (1, .ref (gA G 0 0 1)), (2, .int a2), (3, .int a3), (4, .int (imin a2 a3)), (5, .int 0)]) dX7_split_28 rfl (Nat.le_of_ble_eq_true rfl) rfl ?_
  refine ab_iconst (v := 0) dX7_split_30 (by decide) ?_
  refine ab_istore (lv' := [(0, .ref (gA G 1 0 0)), (1, .ref (gA G 0 0 1)), (2, .int a2), (3, .int a3), (4, .int (imin a2 a3)), (5, .int 0), (6, .int 0)]) dX7_split_31 rfl (Nat.le_of_ble_eq_true rfl) rfl ?_
  exact t_X7_split_t_33 N a2 a3 (imin a2 a3) N 0 0 C4 h
theorem ct_X7_split_t {l : Launch} {G : GX} {X : XM} {Q : Int32 → Mem → Prop} (N : Nat) (a2 : Int32) (a3 : Int32) (C : CM) (h : SAT (f_X7_split_t N a2 a3 C) (fun v c => Q v (c, X))) : CT l G 7 mt_X7_split [.ref (gA G 1 0 0), .ref (gA G 0 0 1), .int a2, .int a3] (C, X) Q := ct_of pn_X7 (Nat.le_of_ble_eq_true rfl) (t_X7_split_t_0 N a2 a3 C h)
def f_X10_splitTape (N : Nat) (a1 : Int32) (C : CM) : Option (Int32 × CM) := cal (f_X7_split_t N (C.1 0 0 0 1) a1 C) (fun v1 C2 => bnd (stC C2 0 0 0 1 0) (fun C3 => (rt 0 C3)))
set_option maxRecDepth 8000 in
theorem t_X10_splitTape_0 {l : Launch} {G : GX} {X : XM} {Q : Int32 → Mem → Prop} (N : Nat) (a1 : Int32) (C : CM) (h : SAT (f_X10_splitTape N a1 C) (fun v c => Q v (c, X))) : AB l G (rmD 8) 0 0 mt_X10_splitTape (ZQ G mt_X10_splitTape Q) 0 [(0, .ref (gA G 0 0 0)), (1, .int a1)] [] (C, X) := by
  unfold f_X10_splitTape at h
  refine ab_aloadn 0 dX10_splitTape_0 rfl ?_
  refine f_gr (x := 2) (k2 := 1) (i2 := 0) (j2 := 0) ⟨by decide, by decide⟩ rfl rfl (Nat.le_of_ble_eq_true rfl) wd_33 rfl rfl dX10_splitTape_1 ?_
  refine ab_aloadn 0 dX10_splitTape_4 rfl ?_
  refine f_gr (x := 0) (k2 := 0) (i2 := 0) (j2 := 1) ⟨by decide, by decide⟩ rfl rfl (Nat.le_of_ble_eq_true rfl) wd_31 rfl rfl dX10_splitTape_5 ?_
  refine ab_aloadn 0 dX10_splitTape_8 rfl ?_
  refine fC_gi (x := 1) ⟨by decide, by decide⟩ rfl rfl (Nat.le_of_ble_eq_true rfl) wd_30 (by decide) rfl dX10_splitTape_9 ?_
  refine ab_iloadn 1 dX10_splitTape_12 rfl ?_
  refine fC_Vv (mtc := mt_X7_split) (As := [.ref (gA G 0 0 1), .int (C.1 0 0 0 1), .int a1]) h (fun Q h => ct_X7_split_t N (C.1 0 0 0 1) a1 C h) ⟨by decide, by decide⟩ rfl rfl rfl mw_X7_split wd_49 rfl rfl ⟨Nat.le_of_ble_eq_true rfl, Nat.le_of_ble_eq_true rfl⟩ ⟨Nat.zero_le _, Nat.zero_le _⟩ (Nat.le_of_ble_eq_true rfl) rfl dX10_splitTape_13 (fun v1 C2 h => ?_)
  refine ab_aloadn 0 dX10_splitTape_16 rfl ?_
  refine ab_iconst (v := 0) dX10_splitTape_17 (by decide) ?_
  refine fC_pi (x := 1) (ty := .int) ⟨by decide, by decide⟩ rfl rfl (Nat.le_of_ble_eq_true rfl) wd_30 (by decide) rfl h rfl (by decide +kernel) rfl rfl dX10_splitTape_18 (fun C3 h => ?_)
  exact fC_vret h rfl dX10_splitTape_21
theorem ct_X10_splitTape {l : Launch} {G : GX} {X : XM} {Q : Int32 → Mem → Prop} (N : Nat) (a1 : Int32) (C : CM) (h : SAT (f_X10_splitTape N a1 C) (fun v c => Q v (c, X))) : CT l G 8 mt_X10_splitTape [.ref (gA G 0 0 0), .int a1] (C, X) Q := ct_of pn_X10 (Nat.le_of_ble_eq_true rfl) (t_X10_splitTape_0 N a1 C h)
def f_X1_clear_12 (N : Nat) (r0 : Nat) : Nat → Int32 → CM → Option (Int32 × CM)
  | 0, _, _ => none
  | n + 1, a1, C => (if 8 ≤ a1 then (rt 0 C) else stA C 3 r0 9 8 a1 0 (fun C2 => stA C2 3 r0 11 8 a1 0 (fun C3 => stA C3 3 r0 12 8 a1 0 (fun C4 => stA C4 3 r0 13 8 a1 (-1) (fun C5 => stA C5 3 r0 14 8 a1 (-1) (fun C6 => (f_X1_clear_12 N r0 n (a1 + 1) C6)))))))
def f_X1_clear (N : Nat) (r0 : Nat) (C : CM) : Option (Int32 × CM) := bnd (stC C 3 r0 6 0 0) (fun C1 => bnd (stC C1 3 r0 6 1 0) (fun C2 => (f_X1_clear_12 N r0 N 0 C2)))
set_option maxRecDepth 8000 in
theorem t_X1_clear_12 {l : Launch} {G : GX} {X : XM} {Q : Int32 → Mem → Prop} (N : Nat) (r0 : Nat) (h0 : r0 < 4) : ∀ (n : Nat) (a1 : Int32) (C : CM), SAT (f_X1_clear_12 N r0 n a1 C) (fun v c => Q v (c, X)) → AB l G (rmD 1) 0 0 mt_X1_clear (ZQ G mt_X1_clear Q) 12 [(0, .ref (gA G 3 r0 6)), (1, .int a1)] [] (C, X) := by
  intro n
  induction n with
  | zero => intro a1 C h; exact h.elim
  | succ n ih =>
    intro a1 C h
    rw [f_X1_clear_12] at h
    refine ab_iloadn 1 dX1_clear_12 rfl ?_
    refine ab_bipush (v := 8) dX1_clear_13 (by decide) ?_
    refine ab_icmp_ge (tgt := 59) dX1_clear_15 (by decide) (fun hc1 => ?_) (fun hc1 => ?_)
    · have h := sat_t hc1 h
      exact fC_vret h rfl dX1_clear_59
    · have h := sat_f hc1 h
      refine ab_aloadn 0 dX1_clear_18 rfl ?_
      refine f_gr (x := 4) (k2 := 3) (i2 := r0) (j2 := 9) ⟨h0, by decide⟩ rfl rfl (Nat.le_of_ble_eq_true rfl) wd_65 rfl rfl dX1_clear_19 ?_
      refine ab_iloadn 1 dX1_clear_22 rfl ?_
      refine ab_iconst (v := 0) dX1_clear_23 (by decide) ?_
      refine fC_iast ⟨h0, by decide⟩ rfl (by decide) (fun _ => rfl) h dX1_clear_24 (fun C2 h => ?_)
      refine ab_aloadn 0 dX1_clear_25 rfl ?_
      refine f_gr (x := 6) (k2 := 3) (i2 := r0) (j2 := 11) ⟨h0, by decide⟩ rfl rfl (Nat.le_of_ble_eq_true rfl) wd_66 rfl rfl dX1_clear_26 ?_
      refine ab_iloadn 1 dX1_clear_29 rfl ?_
      refine ab_iconst (v := 0) dX1_clear_30 (by decide) ?_
      refine fC_iast ⟨h0, by decide⟩ rfl (by decide) (fun _ => rfl) h dX1_clear_31 (fun C3 h => ?_)
      refine ab_aloadn 0 dX1_clear_32 rfl ?_
      refine f_gr (x := 7) (k2 := 3) (i2 := r0) (j2 := 12) ⟨h0, by decide⟩ rfl rfl (Nat.le_of_ble_eq_true rfl) wd_67 rfl rfl dX1_clear_33 ?_
      refine ab_iloadn 1 dX1_clear_36 rfl ?_
      refine ab_iconst (v := 0) dX1_clear_37 (by decide) ?_
      refine fC_iast ⟨h0, by decide⟩ rfl (by decide) (fun _ => rfl) h dX1_clear_38 (fun C4 h => ?_)
      refine ab_aloadn 0 dX1_clear_39 rfl ?_
      refine f_gr (x := 8) (k2 := 3) (i2 := r0) (j2 := 13) ⟨h0, by decide⟩ rfl rfl (Nat.le_of_ble_eq_true rfl) wd_68 rfl rfl dX1_clear_40 ?_
      refine ab_iloadn 1 dX1_clear_43 rfl ?_
      refine ab_iconst (v := (-1)) dX1_clear_44 (by decide) ?_
      refine fC_iast ⟨h0, by decide⟩ rfl (by decide) (fun _ => rfl) h dX1_clear_45 (fun C5 h => ?_)
      refine ab_aloadn 0 dX1_clear_46 rfl ?_
      refine f_gr (x := 9) (k2 := 3) (i2 := r0) (j2 := 14) ⟨h0, by decide⟩ rfl rfl (Nat.le_of_ble_eq_true rfl) wd_69 rfl rfl dX1_clear_47 ?_
      refine ab_iloadn 1 dX1_clear_50 rfl ?_
      refine ab_iconst (v := (-1)) dX1_clear_51 (by decide) ?_
      refine fC_iast ⟨h0, by decide⟩ rfl (by decide) (fun _ => rfl) h dX1_clear_52 (fun C6 h => ?_)
      refine ab_iinc (q := 1) (v := (a1 + 1)) (lv' := [(0, .ref (gA G 3 r0 6)), (1, .int (a1 + 1))]) dX1_clear_53 rfl rfl rfl (Nat.le_of_ble_eq_true rfl) rfl ?_
      refine ab_goto (tgt := 12) dX1_clear_56 (by decide) ?_
      exact ih (a1 + 1) C6 h
set_option maxRecDepth 8000 in
theorem t_X1_clear_0 {l : Launch} {G : GX} {X : XM} {Q : Int32 → Mem → Prop} (N : Nat) (r0 : Nat) (h0 : r0 < 4) (C : CM) (h : SAT (f_X1_clear N r0 C) (fun v c => Q v (c, X))) : AB l G (rmD 1) 0 0 mt_X1_clear (ZQ G mt_X1_clear Q) 0 [(0, .ref (gA G 3 r0 6))] [] (C, X) := by
  unfold f_X1_clear at h
  refine ab_aloadn 0 dX1_clear_0 rfl ?_
  refine ab_iconst (v := 0) dX1_clear_1 (by decide) ?_
  refine fC_pi (x := 0) (ty := .int) ⟨h0, by decide⟩ rfl rfl (Nat.le_of_ble_eq_true rfl) wd_63 (by decide) rfl h rfl (by decide +kernel) rfl rfl dX1_clear_2 (fun C1 h => ?_)
  refine ab_aloadn 0 dX1_clear_5 rfl ?_
  refine ab_iconst (v := 0) dX1_clear_6 (by decide) ?_
  refine fC_pi (x := 1) (ty := .int) ⟨h0, by decide⟩ rfl rfl (Nat.le_of_ble_eq_true rfl) wd_64 (by decide) rfl h rfl (by decide +kernel) rfl rfl dX1_clear_7 (fun C2 h => ?_)
  refine ab_iconst (v := 0) dX1_clear_10 (by decide) ?_
  refine ab_istoren (lv' := [(0, .ref (gA G 3 r0 6)), (1, .int 0)]) dX1_clear_11 rfl (Nat.le_of_ble_eq_true rfl) rfl ?_
  exact t_X1_clear_12 N r0 h0 N 0 C2 h
theorem ct_X1_clear {l : Launch} {G : GX} {X : XM} {Q : Int32 → Mem → Prop} (N : Nat) (r0 : Nat) (h0 : r0 < 4) (C : CM) (h : SAT (f_X1_clear N r0 C) (fun v c => Q v (c, X))) : CT l G 1 mt_X1_clear [.ref (gA G 3 r0 6)] (C, X) Q := ct_of pn_X1 (Nat.le_of_ble_eq_true rfl) (t_X1_clear_0 N r0 h0 C h)
def f_X0_clear_87 (N : Nat) (r0 : Nat) : Nat → Int32 → CM → Option (Int32 × CM)
  | 0, _, _ => none
  | n + 1, a1, C => (if 48 ≤ a1 then (rt 0 C) else stA C 3 r0 5 48 a1 0 (fun C2 => (f_X0_clear_87 N r0 n (a1 + 1) C2)))
def f_X0_clear_59 (N : Nat) (r0 : Nat) : Nat → Int32 → CM → Option (Int32 × CM)
  | 0, _, _ => none
  | n + 1, a1, C => (if 100 ≤ a1 then (f_X0_clear_87 N r0 N 0 C) else stA C 3 r0 1 100 a1 0 (fun C2 => stA C2 3 r0 2 100 a1 0 (fun C3 => (f_X0_clear_59 N r0 n (a1 + 1) C3))))
def f_X0_clear (N : Nat) (r0 : Nat) (C : CM) : Option (Int32 × CM) := bnd (stC C 3 r0 0 0 0) (fun C1 => bnd (stC C1 3 r0 0 1 0) (fun C2 => bnd (stC C2 3 r0 0 2 0) (fun C3 => bnd (stC C3 3 r0 0 3 0) (fun C4 => bnd (stC C4 3 r0 0 4 0) (fun C5 => bnd (stC C5 3 r0 0 5 0) (fun C6 => bnd (stC C6 3 r0 0 6 0) (fun C7 => bnd (stC C7 3 r0 0 7 0) (fun C8 => bnd (stC C8 3 r0 0 8 0) (fun C9 => bnd (stC C9 3 r0 0 9 0) (fun C10 => cal (f_X1_clear N r0 C10) (fun v11 C12 => (f_X0_clear_59 N r0 N 0 C12))))))))))))
set_option maxRecDepth 8000 in
theorem t_X0_clear_87 {l : Launch} {G : GX} {X : XM} {Q : Int32 → Mem → Prop} (N : Nat) (r0 : Nat) (h0 : r0 < 4) : ∀ (n : Nat) (a1 : Int32) (C : CM), SAT (f_X0_clear_87 N r0 n a1 C) (fun v c => Q v (c, X)) → AB l G (rmD 2) 0 0 mt_X0_clear (ZQ G mt_X0_clear Q) 87 [(0, .ref (gA G 3 r0 0)), (1, .int a1)] [] (C, X) := by
  intro n
  induction n with
  | zero => intro a1 C h; exact h.elim
  | succ n ih =>
    intro a1 C h
    rw [f_X0_clear_87] at h
    refine ab_iloadn 1 dX0_clear_87 rfl ?_
    refine ab_bipush (v := 48) dX0_clear_88 (by decide) ?_
    refine ab_icmp_ge (tgt := 106) dX0_clear_90 (by decide) (fun hc1 => ?_) (fun hc1 => ?_)
    · have h := sat_t hc1 h
      exact fC_vret h rfl dX0_clear_106
    · have h := sat_f hc1 h
      refine ab_aloadn 0 dX0_clear_93 rfl ?_
      refine f_gr (x := 15) (k2 := 3) (i2 := r0) (j2 := 5) ⟨h0, by decide⟩ rfl rfl (Nat.le_of_ble_eq_true rfl) wd_73 rfl rfl dX0_clear_94 ?_
      refine ab_iloadn 1 dX0_clear_97 rfl ?_
      refine ab_iconst (v := 0) dX0_clear_98 (by decide) ?_
      refine fC_iast ⟨h0, by decide⟩ rfl (by decide) (fun _ => rfl) h dX0_clear_99 (fun C2 h => ?_)
      refine ab_iinc (q := 1) (v := (a1 + 1)) (lv' := [(0, .ref (gA G 3 r0 0)), (1, .int (a1 + 1))]) dX0_clear_100 rfl rfl rfl (Nat.le_of_ble_eq_true rfl) rfl ?_
      refine ab_goto (tgt := 87) dX0_clear_103 (by decide) ?_
      exact ih (a1 + 1) C2 h
set_option maxRecDepth 8000 in
theorem t_X0_clear_59 {l : Launch} {G : GX} {X : XM} {Q : Int32 → Mem → Prop} (N : Nat) (r0 : Nat) (h0 : r0 < 4) : ∀ (n : Nat) (a1 : Int32) (C : CM), SAT (f_X0_clear_59 N r0 n a1 C) (fun v c => Q v (c, X)) → AB l G (rmD 2) 0 0 mt_X0_clear (ZQ G mt_X0_clear Q) 59 [(0, .ref (gA G 3 r0 0)), (1, .int a1)] [] (C, X) := by
  intro n
  induction n with
  | zero => intro a1 C h; exact h.elim
  | succ n ih =>
    intro a1 C h
    rw [f_X0_clear_59] at h
    refine ab_iloadn 1 dX0_clear_59 rfl ?_
    refine ab_bipush (v := 100) dX0_clear_60 (by decide) ?_
    refine ab_icmp_ge (tgt := 85) dX0_clear_62 (by decide) (fun hc1 => ?_) (fun hc1 => ?_)
    · have h := sat_t hc1 h
      refine ab_iconst (v := 0) dX0_clear_85 (by decide) ?_
      refine ab_istoren (lv' := [(0, .ref (gA G 3 r0 0)), (1, .int 0)]) dX0_clear_86 rfl (Nat.le_of_ble_eq_true rfl) rfl ?_
      exact t_X0_clear_87 N r0 h0 N 0 C h
    · have h := sat_f hc1 h
      refine ab_aloadn 0 dX0_clear_65 rfl ?_
      refine f_gr (x := 11) (k2 := 3) (i2 := r0) (j2 := 1) ⟨h0, by decide⟩ rfl rfl (Nat.le_of_ble_eq_true rfl) wd_71 rfl rfl dX0_clear_66 ?_
      refine ab_iloadn 1 dX0_clear_69 rfl ?_
      refine ab_iconst (v := 0) dX0_clear_70 (by decide) ?_
      refine fC_iast ⟨h0, by decide⟩ rfl (by decide) (fun _ => rfl) h dX0_clear_71 (fun C2 h => ?_)
      refine ab_aloadn 0 dX0_clear_72 rfl ?_
      refine f_gr (x := 12) (k2 := 3) (i2 := r0) (j2 := 2) ⟨h0, by decide⟩ rfl rfl (Nat.le_of_ble_eq_true rfl) wd_72 rfl rfl dX0_clear_73 ?_
      refine ab_iloadn 1 dX0_clear_76 rfl ?_
      refine ab_iconst (v := 0) dX0_clear_77 (by decide) ?_
      refine fC_iast ⟨h0, by decide⟩ rfl (by decide) (fun _ => rfl) h dX0_clear_78 (fun C3 h => ?_)
      refine ab_iinc (q := 1) (v := (a1 + 1)) (lv' := [(0, .ref (gA G 3 r0 0)), (1, .int (a1 + 1))]) dX0_clear_79 rfl rfl rfl (Nat.le_of_ble_eq_true rfl) rfl ?_
      refine ab_goto (tgt := 59) dX0_clear_82 (by decide) ?_
      exact ih (a1 + 1) C3 h
set_option maxRecDepth 8000 in
theorem t_X0_clear_0 {l : Launch} {G : GX} {X : XM} {Q : Int32 → Mem → Prop} (N : Nat) (r0 : Nat) (h0 : r0 < 4) (C : CM) (h : SAT (f_X0_clear N r0 C) (fun v c => Q v (c, X))) : AB l G (rmD 2) 0 0 mt_X0_clear (ZQ G mt_X0_clear Q) 0 [(0, .ref (gA G 3 r0 0))] [] (C, X) := by
  unfold f_X0_clear at h
  refine ab_aloadn 0 dX0_clear_0 rfl ?_
  refine ab_iconst (v := 0) dX0_clear_1 (by decide) ?_
  refine fC_pi (x := 0) (ty := .int) ⟨h0, by decide⟩ rfl rfl (Nat.le_of_ble_eq_true rfl) wd_52 (by decide) rfl h rfl (by decide +kernel) rfl rfl dX0_clear_2 (fun C1 h => ?_)
  refine ab_aloadn 0 dX0_clear_5 rfl ?_
  refine ab_iconst (v := 0) dX0_clear_6 (by decide) ?_
  refine fC_pi (x := 1) (ty := .int) ⟨h0, by decide⟩ rfl rfl (Nat.le_of_ble_eq_true rfl) wd_53 (by decide) rfl h rfl (by decide +kernel) rfl rfl dX0_clear_7 (fun C2 h => ?_)
  refine ab_aloadn 0 dX0_clear_10 rfl ?_
  refine ab_iconst (v := 0) dX0_clear_11 (by decide) ?_
  refine fC_pi (x := 2) (ty := .int) ⟨h0, by decide⟩ rfl rfl (Nat.le_of_ble_eq_true rfl) wd_54 (by decide) rfl h rfl (by decide +kernel) rfl rfl dX0_clear_12 (fun C3 h => ?_)
  refine ab_aloadn 0 dX0_clear_15 rfl ?_
  refine ab_iconst (v := 0) dX0_clear_16 (by decide) ?_
  refine fC_pi (x := 3) (ty := .int) ⟨h0, by decide⟩ rfl rfl (Nat.le_of_ble_eq_true rfl) wd_55 (by decide) rfl h rfl (by decide +kernel) rfl rfl dX0_clear_17 (fun C4 h => ?_)
  refine ab_aloadn 0 dX0_clear_20 rfl ?_
  refine ab_iconst (v := 0) dX0_clear_21 (by decide) ?_
  refine fC_pi (x := 4) (ty := .int) ⟨h0, by decide⟩ rfl rfl (Nat.le_of_ble_eq_true rfl) wd_56 (by decide) rfl h rfl (by decide +kernel) rfl rfl dX0_clear_22 (fun C5 h => ?_)
  refine ab_aloadn 0 dX0_clear_25 rfl ?_
  refine ab_iconst (v := 0) dX0_clear_26 (by decide) ?_
  refine fC_pi (x := 5) (ty := .int) ⟨h0, by decide⟩ rfl rfl (Nat.le_of_ble_eq_true rfl) wd_57 (by decide) rfl h rfl (by decide +kernel) rfl rfl dX0_clear_27 (fun C6 h => ?_)
  refine ab_aloadn 0 dX0_clear_30 rfl ?_
  refine ab_iconst (v := 0) dX0_clear_31 (by decide) ?_
  refine fC_pi (x := 6) (ty := .int) ⟨h0, by decide⟩ rfl rfl (Nat.le_of_ble_eq_true rfl) wd_58 (by decide) rfl h rfl (by decide +kernel) rfl rfl dX0_clear_32 (fun C7 h => ?_)
  refine ab_aloadn 0 dX0_clear_35 rfl ?_
  refine ab_iconst (v := 0) dX0_clear_36 (by decide) ?_
  refine fC_pi (x := 7) (ty := .boolean) ⟨h0, by decide⟩ rfl rfl (Nat.le_of_ble_eq_true rfl) wd_59 (by decide) rfl h rfl (by decide +kernel) rfl rfl dX0_clear_37 (fun C8 h => ?_)
  refine ab_aloadn 0 dX0_clear_40 rfl ?_
  refine ab_iconst (v := 0) dX0_clear_41 (by decide) ?_
  refine fC_pi (x := 8) (ty := .int) ⟨h0, by decide⟩ rfl rfl (Nat.le_of_ble_eq_true rfl) wd_60 (by decide) rfl h rfl (by decide +kernel) rfl rfl dX0_clear_42 (fun C9 h => ?_)
  refine ab_aloadn 0 dX0_clear_45 rfl ?_
  refine ab_iconst (v := 0) dX0_clear_46 (by decide) ?_
  refine fC_pi (x := 9) (ty := .int) ⟨h0, by decide⟩ rfl rfl (Nat.le_of_ble_eq_true rfl) wd_61 (by decide) rfl h rfl (by decide +kernel) rfl rfl dX0_clear_47 (fun C10 h => ?_)
  refine ab_aloadn 0 dX0_clear_50 rfl ?_
  refine f_gr (x := 10) (k2 := 3) (i2 := r0) (j2 := 6) ⟨h0, by decide⟩ rfl rfl (Nat.le_of_ble_eq_true rfl) wd_62 rfl rfl dX0_clear_51 ?_
  refine fC_Vv (mtc := mt_X1_clear) (As := []) h (fun Q h => ct_X1_clear N r0 h0 C10 h) ⟨h0, by decide⟩ rfl rfl rfl mw_X1_clear wd_70 rfl rfl ⟨Nat.le_of_ble_eq_true rfl, Nat.le_of_ble_eq_true rfl⟩ ⟨Nat.zero_le _, Nat.zero_le _⟩ (Nat.le_of_ble_eq_true rfl) rfl dX0_clear_54 (fun v11 C12 h => ?_)
  refine ab_iconst (v := 0) dX0_clear_57 (by decide) ?_
  refine ab_istoren (lv' := [(0, .ref (gA G 3 r0 0)), (1, .int 0)]) dX0_clear_58 rfl (Nat.le_of_ble_eq_true rfl) rfl ?_
  exact t_X0_clear_59 N r0 h0 N 0 C12 h
theorem ct_X0_clear {l : Launch} {G : GX} {X : XM} {Q : Int32 → Mem → Prop} (N : Nat) (r0 : Nat) (h0 : r0 < 4) (C : CM) (h : SAT (f_X0_clear N r0 C) (fun v c => Q v (c, X))) : CT l G 2 mt_X0_clear [.ref (gA G 3 r0 0)] (C, X) Q := ct_of pn_X0 (Nat.le_of_ble_eq_true rfl) (t_X0_clear_0 N r0 h0 C h)
def f_X7_goesOn (C : CM) : Option (Int32 × CM) := (if (C.1 1 0 0 5) = 0 then cal (f_X7_sees 0 0 C) (fun v2 C3 => (if v2 = 0 then (rt 1 C3) else (rt 0 C3))) else (rt 0 C))
set_option maxRecDepth 8000 in
theorem t_X7_goesOn_0 {l : Launch} {G : GX} {X : XM} {Q : Int32 → Mem → Prop} (C : CM) (h : SAT (f_X7_goesOn C) (fun v c => Q v (c, X))) : AB l G (rmD 2) 0 0 mt_X7_goesOn (ZQ G mt_X7_goesOn Q) 0 [(0, .ref (gA G 1 0 0))] [] (C, X) := by
  unfold f_X7_goesOn at h
  refine ab_aloadn 0 dX7_goesOn_0 rfl ?_
  refine fC_gi (x := 5) ⟨by decide, by decide⟩ rfl rfl (Nat.le_of_ble_eq_true rfl) wd_6 (by decide) rfl dX7_goesOn_1 ?_
  refine ab_if_ne (tgt := 20) dX7_goesOn_4 (by decide) (fun hc1 => ?_) (fun hc1 => ?_)
  · have h := sat_f hc1 h
    refine ab_iconst (v := 0) dX7_goesOn_20 (by decide) ?_
    exact fC_iret h rfl rfl dX7_goesOn_21
  · have h := sat_t hc1 h
    refine ab_aloadn 0 dX7_goesOn_7 rfl ?_
    refine ab_iconst (v := 0) dX7_goesOn_8 (by decide) ?_
    refine ab_iconst (v := 0) dX7_goesOn_9 (by decide) ?_
    refine fC_Vi (mtc := mt_X7_sees) (As := [.int 0, .int 0]) h (fun Q h => ct_X7_sees 0 0 C h) ⟨by decide, by decide⟩ rfl rfl rfl mw_X7_sees wd_26 rfl rfl ⟨Nat.le_of_ble_eq_true rfl, Nat.le_of_ble_eq_true rfl⟩ ⟨Nat.zero_le _, Nat.zero_le _⟩ (Nat.le_of_ble_eq_true rfl) rfl dX7_goesOn_10 (fun v2 C3 h => ?_)
    refine ab_if_ne (tgt := 20) dX7_goesOn_13 (by decide) (fun hc4 => ?_) (fun hc4 => ?_)
    · have h := sat_f hc4 h
      refine ab_iconst (v := 0) dX7_goesOn_20 (by decide) ?_
      exact fC_iret h rfl rfl dX7_goesOn_21
    · have h := sat_t hc4 h
      refine ab_iconst (v := 1) dX7_goesOn_16 (by decide) ?_
      refine ab_goto (tgt := 21) dX7_goesOn_17 (by decide) ?_
      exact fC_iret h rfl rfl dX7_goesOn_21
theorem ct_X7_goesOn {l : Launch} {G : GX} {X : XM} {Q : Int32 → Mem → Prop} (C : CM) (h : SAT (f_X7_goesOn C) (fun v c => Q v (c, X))) : CT l G 2 mt_X7_goesOn [.ref (gA G 1 0 0)] (C, X) Q := ct_of pn_X7 (Nat.le_of_ble_eq_true rfl) (t_X7_goesOn_0 C h)
def f_X7_takeWord_15 (C : CM) : Option (Int32 × CM) := cal (f_X7_blameNext 1 C) (fun v1 C2 => (rt (-1) C2))
def f_X7_takeWord (a1 : Int32) (a2 : Int32) (C : CM) : Option (Int32 × CM) := cal (f_X7_nextWord C) (fun v1 C2 => (if v1 < a1 then (f_X7_takeWord_15 C2) else (if v1 ≤ a2 then cal (f_X7_takeKind 2 C2) (fun v5 C6 => (rt v5 C6)) else (f_X7_takeWord_15 C2))))
set_option maxRecDepth 8000 in
theorem t_X7_takeWord_15 {l : Launch} {G : GX} {X : XM} {Q : Int32 → Mem → Prop} (C : CM) (h : SAT (f_X7_takeWord_15 C) (fun v c => Q v (c, X))) : AB l G (rmD 2) 0 0 mt_X7_takeWord (ZQ G mt_X7_takeWord Q) 15 [(0, .ref (gA G 1 0 0))] [] (C, X) := by
  unfold f_X7_takeWord_15 at h
  refine ab_aloadn 0 dX7_takeWord_15 rfl ?_
  refine ab_iconst (v := 1) dX7_takeWord_16 (by decide) ?_
  refine fC_Vv (mtc := mt_X7_blameNext) (As := [.int 1]) h (fun Q h => ct_X7_blameNext 1 C h) ⟨by decide, by decide⟩ rfl rfl rfl mw_X7_blameNext wd_27 rfl rfl ⟨Nat.le_of_ble_eq_true rfl, Nat.le_of_ble_eq_true rfl⟩ ⟨Nat.zero_le _, Nat.zero_le _⟩ (Nat.le_of_ble_eq_true rfl) rfl dX7_takeWord_17 (fun v1 C2 h => ?_)
  refine ab_iconst (v := (-1)) dX7_takeWord_20 (by decide) ?_
  exact fC_iret h rfl rfl dX7_takeWord_21
set_option maxRecDepth 8000 in
theorem t_X7_takeWord_0 {l : Launch} {G : GX} {X : XM} {Q : Int32 → Mem → Prop} (a1 : Int32) (a2 : Int32) (C : CM) (h : SAT (f_X7_takeWord a1 a2 C) (fun v c => Q v (c, X))) : AB l G (rmD 2) 0 0 mt_X7_takeWord (ZQ G mt_X7_takeWord Q) 0 [(0, .ref (gA G 1 0 0)), (1, .int a1), (2, .int a2)] [] (C, X) := by
  unfold f_X7_takeWord at h
  refine ab_aloadn 0 dX7_takeWord_0 rfl ?_
  refine fC_Vi (mtc := mt_X7_nextWord) (As := []) h (fun Q h => ct_X7_nextWord C h) ⟨by decide, by decide⟩ rfl rfl rfl mw_X7_nextWord wd_76 rfl rfl ⟨Nat.le_of_ble_eq_true rfl, Nat.le_of_ble_eq_true rfl⟩ ⟨Nat.zero_le _, Nat.zero_le _⟩ (Nat.le_of_ble_eq_true rfl) rfl dX7_takeWord_1 (fun v1 C2 h => ?_)
  refine ab_istoren (lv' := [(0, .ref (gA G 1 0 0)), (1, .int a1), (2, .int a2), (3, .int v1)]) dX7_takeWord_4 rfl (Nat.le_of_ble_eq_true rfl) rfl ?_
  refine ab_iloadn 3 dX7_takeWord_5 rfl ?_
  refine ab_iloadn 1 dX7_takeWord_6 rfl ?_
  refine ab_icmp_lt (tgt := 15) dX7_takeWord_7 (by decide) (fun hc3 => ?_) (fun hc3 => ?_)
  · have h := sat_t hc3 h
    refine ab_sub [0] rfl ?_
    exact t_X7_takeWord_15 C2 h
  · have h := sat_f hc3 h
    refine ab_iloadn 3 dX7_takeWord_10 rfl ?_
    refine ab_iloadn 2 dX7_takeWord_11 rfl ?_
    refine ab_icmp_le (tgt := 22) dX7_takeWord_12 (by decide) (fun hc4 => ?_) (fun hc4 => ?_)
    · have h := sat_t hc4 h
      refine ab_aloadn 0 dX7_takeWord_22 rfl ?_
      refine ab_iconst (v := 2) dX7_takeWord_23 (by decide) ?_
      refine fC_Vi (mtc := mt_X7_takeKind) (As := [.int 2]) h (fun Q h => ct_X7_takeKind 2 C2 h) ⟨by decide, by decide⟩ rfl rfl rfl mw_X7_takeKind wd_15 rfl rfl ⟨Nat.le_of_ble_eq_true rfl, Nat.le_of_ble_eq_true rfl⟩ ⟨Nat.zero_le _, Nat.zero_le _⟩ (Nat.le_of_ble_eq_true rfl) rfl dX7_takeWord_24 (fun v5 C6 h => ?_)
      exact fC_iret h rfl rfl dX7_takeWord_27
    · have h := sat_f hc4 h
      refine ab_sub [0] rfl ?_
      exact t_X7_takeWord_15 C2 h
theorem ct_X7_takeWord {l : Launch} {G : GX} {X : XM} {Q : Int32 → Mem → Prop} (a1 : Int32) (a2 : Int32) (C : CM) (h : SAT (f_X7_takeWord a1 a2 C) (fun v c => Q v (c, X))) : CT l G 2 mt_X7_takeWord [.ref (gA G 1 0 0), .int a1, .int a2] (C, X) Q := ct_of pn_X7 (Nat.le_of_ble_eq_true rfl) (t_X7_takeWord_0 a1 a2 C h)
def f_X0_readYard_12 (r0 : Nat) (C : CM) : Option (Int32 × CM) := cal (f_X7_takeNumber 2 10 C) (fun v1 C2 => cal (f_X7_takeNumber 2 10 C2) (fun v3 C4 => cal (f_X7_isSound C4) (fun v5 C6 => (if v5 = 0 then (rt 0 C6) else bnd (stC C6 3 r0 0 1 v1) (fun C8 => bnd (stC C8 3 r0 0 2 v3) (fun C9 => (rt 0 C9)))))))
def f_X0_readYard (r0 : Nat) (C : CM) : Option (Int32 × CM) := (if (C.1 3 r0 0 1) = 0 then (f_X0_readYard_12 r0 C) else cal (f_X7_blameTaken 3 C) (fun v2 C3 => (f_X0_readYard_12 r0 C3)))
set_option maxRecDepth 8000 in
theorem t_X0_readYard_12 {l : Launch} {G : GX} {X : XM} {Q : Int32 → Mem → Prop} (r0 : Nat) (h0 : r0 < 4) (C : CM) (h : SAT (f_X0_readYard_12 r0 C) (fun v c => Q v (c, X))) : AB l G (rmD 3) 0 0 mt_X0_readYard (ZQ G mt_X0_readYard Q) 12 [(0, .ref (gA G 3 r0 0)), (1, .ref (gA G 1 0 0))] [] (C, X) := by
  unfold f_X0_readYard_12 at h
  refine ab_aloadn 1 dX0_readYard_12 rfl ?_
  refine ab_iconst (v := 2) dX0_readYard_13 (by decide) ?_
  refine ab_bipush (v := 10) dX0_readYard_14 (by decide) ?_
  refine fC_Vi (mtc := mt_X7_takeNumber) (As := [.int 2, .int 10]) h (fun Q h => ct_X7_takeNumber 2 10 C h) ⟨by decide, by decide⟩ rfl rfl rfl mw_X7_takeNumber wd_79 rfl rfl ⟨Nat.le_of_ble_eq_true rfl, Nat.le_of_ble_eq_true rfl⟩ ⟨Nat.zero_le _, Nat.zero_le _⟩ (Nat.le_of_ble_eq_true rfl) rfl dX0_readYard_16 (fun v1 C2 h => ?_)
  refine ab_istoren (lv' := [(0, .ref (gA G 3 r0 0)), (1, .ref (gA G 1 0 0)), (2, .int v1)]) dX0_readYard_19 rfl (Nat.le_of_ble_eq_true rfl) rfl ?_
  refine ab_aloadn 1 dX0_readYard_20 rfl ?_
  refine ab_iconst (v := 2) dX0_readYard_21 (by decide) ?_
  refine ab_bipush (v := 10) dX0_readYard_22 (by decide) ?_
  refine fC_Vi (mtc := mt_X7_takeNumber) (As := [.int 2, .int 10]) h (fun Q h => ct_X7_takeNumber 2 10 C2 h) ⟨by decide, by decide⟩ rfl rfl rfl mw_X7_takeNumber wd_79 rfl rfl ⟨Nat.le_of_ble_eq_true rfl, Nat.le_of_ble_eq_true rfl⟩ ⟨Nat.zero_le _, Nat.zero_le _⟩ (Nat.le_of_ble_eq_true rfl) rfl dX0_readYard_24 (fun v3 C4 h => ?_)
  refine ab_istoren (lv' := [(0, .ref (gA G 3 r0 0)), (1, .ref (gA G 1 0 0)), (2, .int v1), (3, .int v3)]) dX0_readYard_27 rfl (Nat.le_of_ble_eq_true rfl) rfl ?_
  refine ab_aloadn 1 dX0_readYard_28 rfl ?_
  refine fC_Vi (mtc := mt_X7_isSound) (As := []) h (fun Q h => ct_X7_isSound C4 h) ⟨by decide, by decide⟩ rfl rfl rfl mw_X7_isSound wd_80 rfl rfl ⟨Nat.le_of_ble_eq_true rfl, Nat.le_of_ble_eq_true rfl⟩ ⟨Nat.zero_le _, Nat.zero_le _⟩ (Nat.le_of_ble_eq_true rfl) rfl dX0_readYard_29 (fun v5 C6 h => ?_)
  refine ab_if_eq (tgt := 45) dX0_readYard_32 (by decide) (fun hc7 => ?_) (fun hc7 => ?_)
  · have h := sat_t hc7 h
    exact fC_vret h rfl dX0_readYard_45
  · have h := sat_f hc7 h
    refine ab_aloadn 0 dX0_readYard_35 rfl ?_
    refine ab_iloadn 2 dX0_readYard_36 rfl ?_
    refine fC_pi (x := 1) (ty := .int) ⟨h0, by decide⟩ rfl rfl (Nat.le_of_ble_eq_true rfl) wd_53 (by decide) rfl h rfl (by decide +kernel) rfl rfl dX0_readYard_37 (fun C8 h => ?_)
    refine ab_aloadn 0 dX0_readYard_40 rfl ?_
    refine ab_iloadn 3 dX0_readYard_41 rfl ?_
    refine fC_pi (x := 2) (ty := .int) ⟨h0, by decide⟩ rfl rfl (Nat.le_of_ble_eq_true rfl) wd_54 (by decide) rfl h rfl (by decide +kernel) rfl rfl dX0_readYard_42 (fun C9 h => ?_)
    exact fC_vret h rfl dX0_readYard_45
set_option maxRecDepth 8000 in
theorem t_X0_readYard_0 {l : Launch} {G : GX} {X : XM} {Q : Int32 → Mem → Prop} (r0 : Nat) (h0 : r0 < 4) (C : CM) (h : SAT (f_X0_readYard r0 C) (fun v c => Q v (c, X))) : AB l G (rmD 3) 0 0 mt_X0_readYard (ZQ G mt_X0_readYard Q) 0 [(0, .ref (gA G 3 r0 0)), (1, .ref (gA G 1 0 0))] [] (C, X) := by
  unfold f_X0_readYard at h
  refine ab_aloadn 0 dX0_readYard_0 rfl ?_
  refine fC_gi (x := 1) ⟨h0, by decide⟩ rfl rfl (Nat.le_of_ble_eq_true rfl) wd_53 (by decide) rfl dX0_readYard_1 ?_
  refine ab_if_eq (tgt := 12) dX0_readYard_4 (by decide) (fun hc1 => ?_) (fun hc1 => ?_)
  · have h := sat_t hc1 h
    exact t_X0_readYard_12 r0 h0 C h
  · have h := sat_f hc1 h
    refine ab_aloadn 1 dX0_readYard_7 rfl ?_
    refine ab_iconst (v := 3) dX0_readYard_8 (by decide) ?_
    refine fC_Vv (mtc := mt_X7_blameTaken) (As := [.int 3]) h (fun Q h => ct_X7_blameTaken 3 C h) ⟨by decide, by decide⟩ rfl rfl rfl mw_X7_blameTaken wd_78 rfl rfl ⟨Nat.le_of_ble_eq_true rfl, Nat.le_of_ble_eq_true rfl⟩ ⟨Nat.zero_le _, Nat.zero_le _⟩ (Nat.le_of_ble_eq_true rfl) rfl dX0_readYard_9 (fun v2 C3 h => ?_)
    exact t_X0_readYard_12 r0 h0 C3 h
theorem ct_X0_readYard {l : Launch} {G : GX} {X : XM} {Q : Int32 → Mem → Prop} (r0 : Nat) (h0 : r0 < 4) (C : CM) (h : SAT (f_X0_readYard r0 C) (fun v c => Q v (c, X))) : CT l G 3 mt_X0_readYard [.ref (gA G 3 r0 0), .ref (gA G 1 0 0)] (C, X) Q := ct_of pn_X0 (Nat.le_of_ble_eq_true rfl) (t_X0_readYard_0 r0 h0 C h)
def f_X7_takeName (C : CM) : Option (Int32 × CM) := cal (f_X7_takeKind 3 C) (fun v1 C2 => (rt v1 C2))
set_option maxRecDepth 8000 in
theorem t_X7_takeName_0 {l : Launch} {G : GX} {X : XM} {Q : Int32 → Mem → Prop} (C : CM) (h : SAT (f_X7_takeName C) (fun v c => Q v (c, X))) : AB l G (rmD 2) 0 0 mt_X7_takeName (ZQ G mt_X7_takeName Q) 0 [(0, .ref (gA G 1 0 0))] [] (C, X) := by
  unfold f_X7_takeName at h
  refine ab_aloadn 0 dX7_takeName_0 rfl ?_
  refine ab_iconst (v := 3) dX7_takeName_1 (by decide) ?_
  refine fC_Vi (mtc := mt_X7_takeKind) (As := [.int 3]) h (fun Q h => ct_X7_takeKind 3 C h) ⟨by decide, by decide⟩ rfl rfl rfl mw_X7_takeKind wd_15 rfl rfl ⟨Nat.le_of_ble_eq_true rfl, Nat.le_of_ble_eq_true rfl⟩ ⟨Nat.zero_le _, Nat.zero_le _⟩ (Nat.le_of_ble_eq_true rfl) rfl dX7_takeName_2 (fun v1 C2 h => ?_)
  exact fC_iret h rfl rfl dX7_takeName_5
theorem ct_X7_takeName {l : Launch} {G : GX} {X : XM} {Q : Int32 → Mem → Prop} (C : CM) (h : SAT (f_X7_takeName C) (fun v c => Q v (c, X))) : CT l G 2 mt_X7_takeName [.ref (gA G 1 0 0)] (C, X) Q := ct_of pn_X7 (Nat.le_of_ble_eq_true rfl) (t_X7_takeName_0 C h)
def f_X1_find_2 (N : Nat) (r0 : Nat) (a1 : Int32) : Nat → Int32 → CM → Option (Int32 × CM)
  | 0, _, _ => none
  | n + 1, a2, C => (if (C.1 3 r0 6 0) ≤ a2 then (rt (-1) C) else ldA (C.1 3 r0 7) 8 a2 (fun v2 => (if v2 = a1 then (rt a2 C) else (f_X1_find_2 N r0 a1 n (a2 + 1) C))))
def f_X1_find (N : Nat) (r0 : Nat) (a1 : Int32) (C : CM) : Option (Int32 × CM) := (f_X1_find_2 N r0 a1 N 0 C)
set_option maxRecDepth 8000 in
theorem t_X1_find_2 {l : Launch} {G : GX} {X : XM} {Q : Int32 → Mem → Prop} (N : Nat) (r0 : Nat) (h0 : r0 < 4) (a1 : Int32) : ∀ (n : Nat) (a2 : Int32) (C : CM), SAT (f_X1_find_2 N r0 a1 n a2 C) (fun v c => Q v (c, X)) → AB l G (rmD 1) 0 0 mt_X1_find (ZQ G mt_X1_find Q) 2 [(0, .ref (gA G 3 r0 6)), (1, .int a1), (2, .int a2)] [] (C, X) := by
  intro n
  induction n with
  | zero => intro a2 C h; exact h.elim
  | succ n ih =>
    intro a2 C h
    rw [f_X1_find_2] at h
    refine ab_iloadn 2 dX1_find_2 rfl ?_
    refine ab_aloadn 0 dX1_find_3 rfl ?_
    refine fC_gi (x := 0) ⟨h0, by decide⟩ rfl rfl (Nat.le_of_ble_eq_true rfl) wd_63 (by decide) rfl dX1_find_4 ?_
    refine ab_icmp_ge (tgt := 28) dX1_find_7 (by decide) (fun hc1 => ?_) (fun hc1 => ?_)
    · have h := sat_t hc1 h
      refine ab_iconst (v := (-1)) dX1_find_28 (by decide) ?_
      exact fC_iret h rfl rfl dX1_find_29
    · have h := sat_f hc1 h
      refine ab_aloadn 0 dX1_find_10 rfl ?_
      refine f_gr (x := 2) (k2 := 3) (i2 := r0) (j2 := 7) ⟨h0, by decide⟩ rfl rfl (Nat.le_of_ble_eq_true rfl) wd_84 rfl rfl dX1_find_11 ?_
      refine ab_iloadn 2 dX1_find_14 rfl ?_
      refine fC_iald ⟨h0, by decide⟩ rfl (by decide) (fun _ => rfl) h dX1_find_15 (fun v2 h => ?_)
      refine ab_iloadn 1 dX1_find_16 rfl ?_
      refine ab_icmp_ne (tgt := 22) dX1_find_17 (by decide) (fun hc3 => ?_) (fun hc3 => ?_)
      · have h := sat_f hc3 h
        refine ab_iinc (q := 2) (v := (a2 + 1)) (lv' := [(0, .ref (gA G 3 r0 6)), (1, .int a1), (2, .int (a2 + 1))]) dX1_find_22 rfl rfl rfl (Nat.le_of_ble_eq_true rfl) rfl ?_
        refine ab_goto (tgt := 2) dX1_find_25 (by decide) ?_
        exact ih (a2 + 1) C h
      · have h := sat_t hc3 h
        refine ab_iloadn 2 dX1_find_20 rfl ?_
        exact fC_iret h rfl rfl dX1_find_21
set_option maxRecDepth 8000 in
theorem t_X1_find_0 {l : Launch} {G : GX} {X : XM} {Q : Int32 → Mem → Prop} (N : Nat) (r0 : Nat) (h0 : r0 < 4) (a1 : Int32) (C : CM) (h : SAT (f_X1_find N r0 a1 C) (fun v c => Q v (c, X))) : AB l G (rmD 1) 0 0 mt_X1_find (ZQ G mt_X1_find Q) 0 [(0, .ref (gA G 3 r0 6)), (1, .int a1)] [] (C, X) := by
  unfold f_X1_find at h
  refine ab_iconst (v := 0) dX1_find_0 (by decide) ?_
  refine ab_istoren (lv' := [(0, .ref (gA G 3 r0 6)), (1, .int a1), (2, .int 0)]) dX1_find_1 rfl (Nat.le_of_ble_eq_true rfl) rfl ?_
  exact t_X1_find_2 N r0 h0 a1 N 0 C h
theorem ct_X1_find {l : Launch} {G : GX} {X : XM} {Q : Int32 → Mem → Prop} (N : Nat) (r0 : Nat) (h0 : r0 < 4) (a1 : Int32) (C : CM) (h : SAT (f_X1_find N r0 a1 C) (fun v c => Q v (c, X))) : CT l G 1 mt_X1_find [.ref (gA G 3 r0 6), .int a1] (C, X) Q := ct_of pn_X1 (Nat.le_of_ble_eq_true rfl) (t_X1_find_0 N r0 h0 a1 C h)
def f_X0_takeCell (r0 : Nat) (C : CM) : Option (Int32 × CM) := cal (f_X7_takeNumber 0 ((C.1 3 r0 0 1) - 1) C) (fun v1 C2 => cal (f_X7_takeNumber 0 ((C2.1 3 r0 0 2) - 1) C2) (fun v3 C4 => cal (f_X7_isSound C4) (fun v5 C6 => (if v5 = 0 then (rt (-1) C6) else (rt ((v3 * 10) + v1) C6)))))
set_option maxRecDepth 8000 in
theorem t_X0_takeCell_0 {l : Launch} {G : GX} {X : XM} {Q : Int32 → Mem → Prop} (r0 : Nat) (h0 : r0 < 4) (C : CM) (h : SAT (f_X0_takeCell r0 C) (fun v c => Q v (c, X))) : AB l G (rmD 3) 0 0 mt_X0_takeCell (ZQ G mt_X0_takeCell Q) 0 [(0, .ref (gA G 3 r0 0)), (1, .ref (gA G 1 0 0))] [] (C, X) := by
  unfold f_X0_takeCell at h
  refine ab_aloadn 1 dX0_takeCell_0 rfl ?_
  refine ab_iconst (v := 0) dX0_takeCell_1 (by decide) ?_
  refine ab_aloadn 0 dX0_takeCell_2 rfl ?_
  refine fC_gi (x := 1) ⟨h0, by decide⟩ rfl rfl (Nat.le_of_ble_eq_true rfl) wd_53 (by decide) rfl dX0_takeCell_3 ?_
  refine ab_iconst (v := 1) dX0_takeCell_6 (by decide) ?_
  refine ab_isub dX0_takeCell_7 ?_
  refine fC_Vi (mtc := mt_X7_takeNumber) (As := [.int 0, .int ((C.1 3 r0 0 1) - 1)]) h (fun Q h => ct_X7_takeNumber 0 ((C.1 3 r0 0 1) - 1) C h) ⟨by decide, by decide⟩ rfl rfl rfl mw_X7_takeNumber wd_79 rfl rfl ⟨Nat.le_of_ble_eq_true rfl, Nat.le_of_ble_eq_true rfl⟩ ⟨Nat.zero_le _, Nat.zero_le _⟩ (Nat.le_of_ble_eq_true rfl) rfl dX0_takeCell_8 (fun v1 C2 h => ?_)
  refine ab_istoren (lv' := [(0, .ref (gA G 3 r0 0)), (1, .ref (gA G 1 0 0)), (2, .int v1)]) dX0_takeCell_11 rfl (Nat.le_of_ble_eq_true rfl) rfl ?_
  refine ab_aloadn 1 dX0_takeCell_12 rfl ?_
  refine ab_iconst (v := 0) dX0_takeCell_13 (by decide) ?_
  refine ab_aloadn 0 dX0_takeCell_14 rfl ?_
  refine fC_gi (x := 2) ⟨h0, by decide⟩ rfl rfl (Nat.le_of_ble_eq_true rfl) wd_54 (by decide) rfl dX0_takeCell_15 ?_
  refine ab_iconst (v := 1) dX0_takeCell_18 (by decide) ?_
  refine ab_isub dX0_takeCell_19 ?_
  refine fC_Vi (mtc := mt_X7_takeNumber) (As := [.int 0, .int ((C2.1 3 r0 0 2) - 1)]) h (fun Q h => ct_X7_takeNumber 0 ((C2.1 3 r0 0 2) - 1) C2 h) ⟨by decide, by decide⟩ rfl rfl rfl mw_X7_takeNumber wd_79 rfl rfl ⟨Nat.le_of_ble_eq_true rfl, Nat.le_of_ble_eq_true rfl⟩ ⟨Nat.zero_le _, Nat.zero_le _⟩ (Nat.le_of_ble_eq_true rfl) rfl dX0_takeCell_20 (fun v3 C4 h => ?_)
  refine ab_istoren (lv' := [(0, .ref (gA G 3 r0 0)), (1, .ref (gA G 1 0 0)), (2, .int v1), (3, .int v3)]) dX0_takeCell_23 rfl (Nat.le_of_ble_eq_true rfl) rfl ?_
  refine ab_aloadn 1 dX0_takeCell_24 rfl ?_
  refine fC_Vi (mtc := mt_X7_isSound) (As := []) h (fun Q h => ct_X7_isSound C4 h) ⟨by decide, by decide⟩ rfl rfl rfl mw_X7_isSound wd_80 rfl rfl ⟨Nat.le_of_ble_eq_true rfl, Nat.le_of_ble_eq_true rfl⟩ ⟨Nat.zero_le _, Nat.zero_le _⟩ (Nat.le_of_ble_eq_true rfl) rfl dX0_takeCell_25 (fun v5 C6 h => ?_)
  refine ab_if_eq (tgt := 40) dX0_takeCell_28 (by decide) (fun hc7 => ?_) (fun hc7 => ?_)
  · have h := sat_t hc7 h
    refine ab_iconst (v := (-1)) dX0_takeCell_40 (by decide) ?_
    exact fC_iret h rfl rfl dX0_takeCell_41
  · have h := sat_f hc7 h
    refine ab_iloadn 3 dX0_takeCell_31 rfl ?_
    refine ab_bipush (v := 10) dX0_takeCell_32 (by decide) ?_
    refine ab_imul dX0_takeCell_34 ?_
    refine ab_iloadn 2 dX0_takeCell_35 rfl ?_
    refine ab_iadd dX0_takeCell_36 ?_
    refine ab_goto (tgt := 41) dX0_takeCell_37 (by decide) ?_
    exact fC_iret h rfl rfl dX0_takeCell_41
theorem ct_X0_takeCell {l : Launch} {G : GX} {X : XM} {Q : Int32 → Mem → Prop} (r0 : Nat) (h0 : r0 < 4) (C : CM) (h : SAT (f_X0_takeCell r0 C) (fun v c => Q v (c, X))) : CT l G 3 mt_X0_takeCell [.ref (gA G 3 r0 0), .ref (gA G 1 0 0)] (C, X) Q := ct_of pn_X0 (Nat.le_of_ble_eq_true rfl) (t_X0_takeCell_0 r0 h0 C h)
def f_X0_refuseIfTaken_b (r1 : Nat) (a2 : Int32) (C : CM) : Option (Int32 × CM) := (if a2 < 0 then (rt 0 C) else (if 100 ≤ a2 then (rt 0 C) else ldA (C.1 3 r1 1) 100 a2 (fun v3 => (if v3 = 0 then (rt 0 C) else cal (f_X7_blameTaken 3 C) (fun v5 C6 => (rt 0 C6))))))
set_option maxRecDepth 8000 in
theorem t_X0_refuseIfTaken_b_0 {l : Launch} {G : GX} {X : XM} {Q : Int32 → Mem → Prop} (r1 : Nat) (h1 : r1 < 4) (a2 : Int32) (C : CM) (h : SAT (f_X0_refuseIfTaken_b r1 a2 C) (fun v c => Q v (c, X))) : AB l G (rmD 2) 0 0 mt_X0_refuseIfTaken (ZQ G mt_X0_refuseIfTaken Q) 0 [(0, .ref (gA G 1 0 0)), (1, .ref (gA G 3 r1 1)), (2, .int a2)] [] (C, X) := by
  unfold f_X0_refuseIfTaken_b at h
  refine ab_iloadn 2 dX0_refuseIfTaken_0 rfl ?_
  refine ab_if_lt (tgt := 21) dX0_refuseIfTaken_1 (by decide) (fun hc1 => ?_) (fun hc1 => ?_)
  · have h := sat_t hc1 h
    exact fC_vret h rfl dX0_refuseIfTaken_21
  · have h := sat_f hc1 h
    refine ab_iloadn 2 dX0_refuseIfTaken_4 rfl ?_
    refine ab_aloadn 1 dX0_refuseIfTaken_5 rfl ?_
    refine ab_alen (v := 100) ⟨h1, by decide⟩ rfl (by decide) (by decide) dX0_refuseIfTaken_6 ?_
    refine ab_icmp_ge (tgt := 21) dX0_refuseIfTaken_7 (by decide) (fun hc2 => ?_) (fun hc2 => ?_)
    · have h := sat_t hc2 h
      exact fC_vret h rfl dX0_refuseIfTaken_21
    · have h := sat_f hc2 h
      refine ab_aloadn 1 dX0_refuseIfTaken_10 rfl ?_
      refine ab_iloadn 2 dX0_refuseIfTaken_11 rfl ?_
      refine fC_iald ⟨h1, by decide⟩ rfl (by decide) (fun _ => rfl) h dX0_refuseIfTaken_12 (fun v3 h => ?_)
      refine ab_if_eq (tgt := 21) dX0_refuseIfTaken_13 (by decide) (fun hc4 => ?_) (fun hc4 => ?_)
      · have h := sat_t hc4 h
        exact fC_vret h rfl dX0_refuseIfTaken_21
      · have h := sat_f hc4 h
        refine ab_aloadn 0 dX0_refuseIfTaken_16 rfl ?_
        refine ab_iconst (v := 3) dX0_refuseIfTaken_17 (by decide) ?_
        refine fC_Vv (mtc := mt_X7_blameTaken) (As := [.int 3]) h (fun Q h => ct_X7_blameTaken 3 C h) ⟨by decide, by decide⟩ rfl rfl rfl mw_X7_blameTaken wd_78 rfl rfl ⟨Nat.le_of_ble_eq_true rfl, Nat.le_of_ble_eq_true rfl⟩ ⟨Nat.zero_le _, Nat.zero_le _⟩ (Nat.le_of_ble_eq_true rfl) rfl dX0_refuseIfTaken_18 (fun v5 C6 h => ?_)
        exact fC_vret h rfl dX0_refuseIfTaken_21
theorem ct_X0_refuseIfTaken_b {l : Launch} {G : GX} {X : XM} {Q : Int32 → Mem → Prop} (r1 : Nat) (h1 : r1 < 4) (a2 : Int32) (C : CM) (h : SAT (f_X0_refuseIfTaken_b r1 a2 C) (fun v c => Q v (c, X))) : CT l G 2 mt_X0_refuseIfTaken [.ref (gA G 1 0 0), .ref (gA G 3 r1 1), .int a2] (C, X) Q := ct_of pn_X0 (Nat.le_of_ble_eq_true rfl) (t_X0_refuseIfTaken_b_0 r1 h1 a2 C h)
def f_X0_readOwner_39 (N : Nat) (r0 : Nat) (a2 : Int32) (C : CM) : Option (Int32 × CM) := cal (f_X0_takeCell r0 C) (fun v1 C2 => cal (f_X0_refuseIfTaken_b r0 v1 C2) (fun v3 C4 => cal (f_X7_takeNumber 0 999 C4) (fun v5 C6 => cal (f_X7_takeNumber 1 99 C6) (fun v7 C8 => cal (f_X7_takeNumber 0 9 C8) (fun v9 C10 => cal (f_X7_isSound C10) (fun v11 C12 => (if v11 = 0 then (rt 0 C12) else (if 8 ≤ (C10.1 3 r0 6 0) then (rt 0 C12) else (if v1 < 0 then (rt 0 C12) else (if 100 ≤ v1 then (rt 0 C12) else stA C12 3 r0 7 8 (C10.1 3 r0 6 0) a2 (fun C17 => stA C17 3 r0 8 8 (C10.1 3 r0 6 0) v1 (fun C18 => stA C18 3 r0 9 8 (C10.1 3 r0 6 0) v5 (fun C19 => stA C19 3 r0 10 8 (C10.1 3 r0 6 0) v7 (fun C20 => stA C20 3 r0 11 8 (C10.1 3 r0 6 0) v9 (fun C21 => stA C21 3 r0 1 100 v1 (16 + (C10.1 3 r0 6 0)) (fun C22 => bnd (stC C22 3 r0 6 0 ((C22.1 3 r0 6 0) + 1)) (fun C23 => (rt 0 C23))))))))))))))))))
def f_X0_readOwner_17 (N : Nat) (r0 : Nat) (C : CM) : Option (Int32 × CM) := cal (f_X7_takeName C) (fun v1 C2 => cal (f_X1_find N r0 v1 C2) (fun v3 C4 => (if v3 = (-1) then (f_X0_readOwner_39 N r0 v1 C4) else cal (f_X7_blameTaken 3 C4) (fun v6 C7 => (f_X0_readOwner_39 N r0 v1 C7)))))
def f_X0_readOwner (N : Nat) (r0 : Nat) (C : CM) : Option (Int32 × CM) := (if (C.1 3 r0 6 0) < 8 then (f_X0_readOwner_17 N r0 C) else cal (f_X7_blameTaken 4 C) (fun v2 C3 => (f_X0_readOwner_17 N r0 C3)))
set_option maxRecDepth 8000 in
theorem t_X0_readOwner_39 {l : Launch} {G : GX} {X : XM} {Q : Int32 → Mem → Prop} (N : Nat) (r0 : Nat) (h0 : r0 < 4) (a2 : Int32) (C : CM) (h : SAT (f_X0_readOwner_39 N r0 a2 C) (fun v c => Q v (c, X))) : AB l G (rmD 4) 0 0 mt_X0_readOwner (ZQ G mt_X0_readOwner Q) 39 [(0, .ref (gA G 3 r0 0)), (1, .ref (gA G 1 0 0)), (2, .int a2)] [] (C, X) := by
  unfold f_X0_readOwner_39 at h
  refine ab_aloadn 0 dX0_readOwner_39 rfl ?_
  refine ab_aloadn 1 dX0_readOwner_40 rfl ?_
  refine fC_Vi (mtc := mt_X0_takeCell) (As := [.ref (gA G 1 0 0)]) h (fun Q h => ct_X0_takeCell r0 h0 C h) ⟨h0, by decide⟩ rfl rfl rfl mw_X0_takeCell wd_86 rfl rfl ⟨Nat.le_of_ble_eq_true rfl, Nat.le_of_ble_eq_true rfl⟩ ⟨Nat.zero_le _, Nat.zero_le _⟩ (Nat.le_of_ble_eq_true rfl) rfl dX0_readOwner_41 (fun v1 C2 h => ?_)
  refine ab_istoren (lv' := [(0, .ref (gA G 3 r0 0)), (1, .ref (gA G 1 0 0)), (2, .int a2), (3, .int v1)]) dX0_readOwner_44 rfl (Nat.le_of_ble_eq_true rfl) rfl ?_
  refine ab_aloadn 1 dX0_readOwner_45 rfl ?_
  refine ab_aloadn 0 dX0_readOwner_46 rfl ?_
  refine f_gr (x := 11) (k2 := 3) (i2 := r0) (j2 := 1) ⟨h0, by decide⟩ rfl rfl (Nat.le_of_ble_eq_true rfl) wd_71 rfl rfl dX0_readOwner_47 ?_
  refine ab_iloadn 3 dX0_readOwner_50 rfl ?_
  refine fC_Sv (mtc := mt_X0_refuseIfTaken) (As := [.ref (gA G 1 0 0), .ref (gA G 3 r0 1), .int v1]) h (fun Q h => ct_X0_refuseIfTaken_b r0 h0 v1 C2 h) mw_X0_refuseIfTaken wd_87 wd_88 rfl rfl ⟨Nat.le_of_ble_eq_true rfl, Nat.le_of_ble_eq_true rfl⟩ ⟨Nat.zero_le _, Nat.zero_le _⟩ (Nat.le_of_ble_eq_true rfl) rfl dX0_readOwner_51 (fun v3 C4 h => ?_)
  refine ab_aloadn 1 dX0_readOwner_54 rfl ?_
  refine ab_iconst (v := 0) dX0_readOwner_55 (by decide) ?_
  refine ab_sipush (v := 999) dX0_readOwner_56 (by decide) ?_
  refine fC_Vi (mtc := mt_X7_takeNumber) (As := [.int 0, .int 999]) h (fun Q h => ct_X7_takeNumber 0 999 C4 h) ⟨by decide, by decide⟩ rfl rfl rfl mw_X7_takeNumber wd_79 rfl rfl ⟨Nat.le_of_ble_eq_true rfl, Nat.le_of_ble_eq_true rfl⟩ ⟨Nat.zero_le _, Nat.zero_le _⟩ (Nat.le_of_ble_eq_true rfl) rfl dX0_readOwner_59 (fun v5 C6 h => ?_)
  refine ab_istore (lv' := [(0, .ref (gA G 3 r0 0)), (1, .ref (gA G 1 0 0)), (2, .int a2), (3, .int v1), (4, .int v5)]) dX0_readOwner_62 rfl (Nat.le_of_ble_eq_true rfl) rfl ?_
  refine ab_aloadn 1 dX0_readOwner_64 rfl ?_
  refine ab_iconst (v := 1) dX0_readOwner_65 (by decide) ?_
  refine ab_bipush (v := 99) dX0_readOwner_66 (by decide) ?_
  refine fC_Vi (mtc := mt_X7_takeNumber) (As := [.int 1, .int 99]) h (fun Q h => ct_X7_takeNumber 1 99 C6 h) ⟨by decide, by decide⟩ rfl rfl rfl mw_X7_takeNumber wd_79 rfl rfl ⟨Nat.le_of_ble_eq_true rfl, Nat.le_of_ble_eq_true rfl⟩ ⟨Nat.zero_le _, Nat.zero_le _⟩ (Nat.le_of_ble_eq_true rfl) rfl dX0_readOwner_68 (fun v7 C8 h => ?_)
  refine ab_istore (lv' := [(0, .ref (gA G 3 r0 0)), (1, .ref (gA G 1 0 0)), (2, .int a2), (3, .int v1), (4, .int v5), (5, .int v7)]) dX0_readOwner_71 rfl (Nat.le_of_ble_eq_true rfl) rfl ?_
  refine ab_aloadn 1 dX0_readOwner_73 rfl ?_
  refine ab_iconst (v := 0) dX0_readOwner_74 (by decide) ?_
  refine ab_bipush (v := 9) dX0_readOwner_75 (by decide) ?_
  refine fC_Vi (mtc := mt_X7_takeNumber) (As := [.int 0, .int 9]) h (fun Q h => ct_X7_takeNumber 0 9 C8 h) ⟨by decide, by decide⟩ rfl rfl rfl mw_X7_takeNumber wd_79 rfl rfl ⟨Nat.le_of_ble_eq_true rfl, Nat.le_of_ble_eq_true rfl⟩ ⟨Nat.zero_le _, Nat.zero_le _⟩ (Nat.le_of_ble_eq_true rfl) rfl dX0_readOwner_77 (fun v9 C10 h => ?_)
  refine ab_istore (lv' := [(0, .ref (gA G 3 r0 0)), (1, .ref (gA G 1 0 0)), (2, .int a2), (3, .int v1), (4, .int v5), (5, .int v7), (6, .int v9)]) dX0_readOwner_80 rfl (Nat.le_of_ble_eq_true rfl) rfl ?_
  refine ab_aloadn 0 dX0_readOwner_82 rfl ?_
  refine f_gr (x := 10) (k2 := 3) (i2 := r0) (j2 := 6) ⟨h0, by decide⟩ rfl rfl (Nat.le_of_ble_eq_true rfl) wd_62 rfl rfl dX0_readOwner_83 ?_
  refine fC_gi (x := 0) ⟨h0, by decide⟩ rfl rfl (Nat.le_of_ble_eq_true rfl) wd_82 (by decide) rfl dX0_readOwner_86 ?_
  refine ab_istore (lv' := [(0, .ref (gA G 3 r0 0)), (1, .ref (gA G 1 0 0)), (2, .int a2), (3, .int v1), (4, .int v5), (5, .int v7), (6, .int v9), (7, .int (C10.1 3 r0 6 0))]) dX0_readOwner_89 rfl (Nat.le_of_ble_eq_true rfl) rfl ?_
  refine ab_aloadn 1 dX0_readOwner_91 rfl ?_
  refine fC_Vi (mtc := mt_X7_isSound) (As := []) h (fun Q h => ct_X7_isSound C10 h) ⟨by decide, by decide⟩ rfl rfl rfl mw_X7_isSound wd_80 rfl rfl ⟨Nat.le_of_ble_eq_true rfl, Nat.le_of_ble_eq_true rfl⟩ ⟨Nat.zero_le _, Nat.zero_le _⟩ (Nat.le_of_ble_eq_true rfl) rfl dX0_readOwner_92 (fun v11 C12 h => ?_)
  refine ab_if_eq (tgt := 197) dX0_readOwner_95 (by decide) (fun hc13 => ?_) (fun hc13 => ?_)
  · have h := sat_t hc13 h
    exact fC_vret h rfl dX0_readOwner_197
  · have h := sat_f hc13 h
    refine ab_iload 7 dX0_readOwner_98 rfl ?_
    refine ab_bipush (v := 8) dX0_readOwner_100 (by decide) ?_
    refine ab_icmp_ge (tgt := 197) dX0_readOwner_102 (by decide) (fun hc14 => ?_) (fun hc14 => ?_)
    · have h := sat_t hc14 h
      exact fC_vret h rfl dX0_readOwner_197
    · have h := sat_f hc14 h
      refine ab_iloadn 3 dX0_readOwner_105 rfl ?_
      refine ab_if_lt (tgt := 197) dX0_readOwner_106 (by decide) (fun hc15 => ?_) (fun hc15 => ?_)
      · have h := sat_t hc15 h
        exact fC_vret h rfl dX0_readOwner_197
      · have h := sat_f hc15 h
        refine ab_iloadn 3 dX0_readOwner_109 rfl ?_
        refine ab_bipush (v := 100) dX0_readOwner_110 (by decide) ?_
        refine ab_icmp_ge (tgt := 197) dX0_readOwner_112 (by decide) (fun hc16 => ?_) (fun hc16 => ?_)
        · have h := sat_t hc16 h
          exact fC_vret h rfl dX0_readOwner_197
        · have h := sat_f hc16 h
          refine ab_aloadn 0 dX0_readOwner_115 rfl ?_
          refine f_gr (x := 10) (k2 := 3) (i2 := r0) (j2 := 6) ⟨h0, by decide⟩ rfl rfl (Nat.le_of_ble_eq_true rfl) wd_62 rfl rfl dX0_readOwner_116 ?_
          refine f_gr (x := 2) (k2 := 3) (i2 := r0) (j2 := 7) ⟨h0, by decide⟩ rfl rfl (Nat.le_of_ble_eq_true rfl) wd_89 rfl rfl dX0_readOwner_119 ?_
          refine ab_iload 7 dX0_readOwner_122 rfl ?_
          refine ab_iloadn 2 dX0_readOwner_124 rfl ?_
          refine fC_iast ⟨h0, by decide⟩ rfl (by decide) (fun _ => rfl) h dX0_readOwner_125 (fun C17 h => ?_)
          refine ab_aloadn 0 dX0_readOwner_126 rfl ?_
          refine f_gr (x := 10) (k2 := 3) (i2 := r0) (j2 := 6) ⟨h0, by decide⟩ rfl rfl (Nat.le_of_ble_eq_true rfl) wd_62 rfl rfl dX0_readOwner_127 ?_
          refine f_gr (x := 3) (k2 := 3) (i2 := r0) (j2 := 8) ⟨h0, by decide⟩ rfl rfl (Nat.le_of_ble_eq_true rfl) wd_90 rfl rfl dX0_readOwner_130 ?_
          refine ab_iload 7 dX0_readOwner_133 rfl ?_
          refine ab_iloadn 3 dX0_readOwner_135 rfl ?_
          refine fC_iast ⟨h0, by decide⟩ rfl (by decide) (fun _ => rfl) h dX0_readOwner_136 (fun C18 h => ?_)
          refine ab_aloadn 0 dX0_readOwner_137 rfl ?_
          refine f_gr (x := 10) (k2 := 3) (i2 := r0) (j2 := 6) ⟨h0, by decide⟩ rfl rfl (Nat.le_of_ble_eq_true rfl) wd_62 rfl rfl dX0_readOwner_138 ?_
          refine f_gr (x := 4) (k2 := 3) (i2 := r0) (j2 := 9) ⟨h0, by decide⟩ rfl rfl (Nat.le_of_ble_eq_true rfl) wd_91 rfl rfl dX0_readOwner_141 ?_
          refine ab_iload 7 dX0_readOwner_144 rfl ?_
          refine ab_iload 4 dX0_readOwner_146 rfl ?_
          refine fC_iast ⟨h0, by decide⟩ rfl (by decide) (fun _ => rfl) h dX0_readOwner_148 (fun C19 h => ?_)
          refine ab_aloadn 0 dX0_readOwner_149 rfl ?_
          refine f_gr (x := 10) (k2 := 3) (i2 := r0) (j2 := 6) ⟨h0, by decide⟩ rfl rfl (Nat.le_of_ble_eq_true rfl) wd_62 rfl rfl dX0_readOwner_150 ?_
          refine f_gr (x := 5) (k2 := 3) (i2 := r0) (j2 := 10) ⟨h0, by decide⟩ rfl rfl (Nat.le_of_ble_eq_true rfl) wd_92 rfl rfl dX0_readOwner_153 ?_
          refine ab_iload 7 dX0_readOwner_156 rfl ?_
          refine ab_iload 5 dX0_readOwner_158 rfl ?_
          refine fC_iast ⟨h0, by decide⟩ rfl (by decide) (fun _ => rfl) h dX0_readOwner_160 (fun C20 h => ?_)
          refine ab_aloadn 0 dX0_readOwner_161 rfl ?_
          refine f_gr (x := 10) (k2 := 3) (i2 := r0) (j2 := 6) ⟨h0, by decide⟩ rfl rfl (Nat.le_of_ble_eq_true rfl) wd_62 rfl rfl dX0_readOwner_162 ?_
          refine f_gr (x := 6) (k2 := 3) (i2 := r0) (j2 := 11) ⟨h0, by decide⟩ rfl rfl (Nat.le_of_ble_eq_true rfl) wd_93 rfl rfl dX0_readOwner_165 ?_
          refine ab_iload 7 dX0_readOwner_168 rfl ?_
          refine ab_iload 6 dX0_readOwner_170 rfl ?_
          refine fC_iast ⟨h0, by decide⟩ rfl (by decide) (fun _ => rfl) h dX0_readOwner_172 (fun C21 h => ?_)
          refine ab_aloadn 0 dX0_readOwner_173 rfl ?_
          refine f_gr (x := 11) (k2 := 3) (i2 := r0) (j2 := 1) ⟨h0, by decide⟩ rfl rfl (Nat.le_of_ble_eq_true rfl) wd_71 rfl rfl dX0_readOwner_174 ?_
          refine ab_iloadn 3 dX0_readOwner_177 rfl ?_
          refine ab_bipush (v := 16) dX0_readOwner_178 (by decide) ?_
          refine ab_iload 7 dX0_readOwner_180 rfl ?_
          refine ab_iadd dX0_readOwner_182 ?_
          refine fC_iast ⟨h0, by decide⟩ rfl (by decide) (fun _ => rfl) h dX0_readOwner_183 (fun C22 h => ?_)
          refine ab_aloadn 0 dX0_readOwner_184 rfl ?_
          refine f_gr (x := 10) (k2 := 3) (i2 := r0) (j2 := 6) ⟨h0, by decide⟩ rfl rfl (Nat.le_of_ble_eq_true rfl) wd_62 rfl rfl dX0_readOwner_185 ?_
          refine ab_dup dX0_readOwner_188 rfl ?_
          refine fC_gi (x := 0) ⟨h0, by decide⟩ rfl rfl (Nat.le_of_ble_eq_true rfl) wd_82 (by decide) rfl dX0_readOwner_189 ?_
          refine ab_iconst (v := 1) dX0_readOwner_192 (by decide) ?_
          refine ab_iadd dX0_readOwner_193 ?_
          refine fC_pi (x := 0) (ty := .int) ⟨h0, by decide⟩ rfl rfl (Nat.le_of_ble_eq_true rfl) wd_82 (by decide) rfl h rfl (by decide +kernel) rfl rfl dX0_readOwner_194 (fun C23 h => ?_)
          exact fC_vret h rfl dX0_readOwner_197
set_option maxRecDepth 8000 in
theorem t_X0_readOwner_17 {l : Launch} {G : GX} {X : XM} {Q : Int32 → Mem → Prop} (N : Nat) (r0 : Nat) (h0 : r0 < 4) (C : CM) (h : SAT (f_X0_readOwner_17 N r0 C) (fun v c => Q v (c, X))) : AB l G (rmD 4) 0 0 mt_X0_readOwner (ZQ G mt_X0_readOwner Q) 17 [(0, .ref (gA G 3 r0 0)), (1, .ref (gA G 1 0 0))] [] (C, X) := by
  unfold f_X0_readOwner_17 at h
  refine ab_aloadn 1 dX0_readOwner_17 rfl ?_
  refine fC_Vi (mtc := mt_X7_takeName) (As := []) h (fun Q h => ct_X7_takeName C h) ⟨by decide, by decide⟩ rfl rfl rfl mw_X7_takeName wd_83 rfl rfl ⟨Nat.le_of_ble_eq_true rfl, Nat.le_of_ble_eq_true rfl⟩ ⟨Nat.zero_le _, Nat.zero_le _⟩ (Nat.le_of_ble_eq_true rfl) rfl dX0_readOwner_18 (fun v1 C2 h => ?_)
  refine ab_istoren (lv' := [(0, .ref (gA G 3 r0 0)), (1, .ref (gA G 1 0 0)), (2, .int v1)]) dX0_readOwner_21 rfl (Nat.le_of_ble_eq_true rfl) rfl ?_
  refine ab_aloadn 0 dX0_readOwner_22 rfl ?_
  refine f_gr (x := 10) (k2 := 3) (i2 := r0) (j2 := 6) ⟨h0, by decide⟩ rfl rfl (Nat.le_of_ble_eq_true rfl) wd_62 rfl rfl dX0_readOwner_23 ?_
  refine ab_iloadn 2 dX0_readOwner_26 rfl ?_
  refine fC_Vi (mtc := mt_X1_find) (As := [.int v1]) h (fun Q h => ct_X1_find N r0 h0 v1 C2 h) ⟨h0, by decide⟩ rfl rfl rfl mw_X1_find wd_85 rfl rfl ⟨Nat.le_of_ble_eq_true rfl, Nat.le_of_ble_eq_true rfl⟩ ⟨Nat.zero_le _, Nat.zero_le _⟩ (Nat.le_of_ble_eq_true rfl) rfl dX0_readOwner_27 (fun v3 C4 h => ?_)
  refine ab_iconst (v := (-1)) dX0_readOwner_30 (by decide) ?_
  refine ab_icmp_eq (tgt := 39) dX0_readOwner_31 (by decide) (fun hc5 => ?_) (fun hc5 => ?_)
  · have h := sat_t hc5 h
    exact t_X0_readOwner_39 N r0 h0 v1 C4 h
  · have h := sat_f hc5 h
    refine ab_aloadn 1 dX0_readOwner_34 rfl ?_
    refine ab_iconst (v := 3) dX0_readOwner_35 (by decide) ?_
    refine fC_Vv (mtc := mt_X7_blameTaken) (As := [.int 3]) h (fun Q h => ct_X7_blameTaken 3 C4 h) ⟨by decide, by decide⟩ rfl rfl rfl mw_X7_blameTaken wd_78 rfl rfl ⟨Nat.le_of_ble_eq_true rfl, Nat.le_of_ble_eq_true rfl⟩ ⟨Nat.zero_le _, Nat.zero_le _⟩ (Nat.le_of_ble_eq_true rfl) rfl dX0_readOwner_36 (fun v6 C7 h => ?_)
    exact t_X0_readOwner_39 N r0 h0 v1 C7 h
set_option maxRecDepth 8000 in
theorem t_X0_readOwner_0 {l : Launch} {G : GX} {X : XM} {Q : Int32 → Mem → Prop} (N : Nat) (r0 : Nat) (h0 : r0 < 4) (C : CM) (h : SAT (f_X0_readOwner N r0 C) (fun v c => Q v (c, X))) : AB l G (rmD 4) 0 0 mt_X0_readOwner (ZQ G mt_X0_readOwner Q) 0 [(0, .ref (gA G 3 r0 0)), (1, .ref (gA G 1 0 0))] [] (C, X) := by
  unfold f_X0_readOwner at h
  refine ab_aloadn 0 dX0_readOwner_0 rfl ?_
  refine f_gr (x := 10) (k2 := 3) (i2 := r0) (j2 := 6) ⟨h0, by decide⟩ rfl rfl (Nat.le_of_ble_eq_true rfl) wd_62 rfl rfl dX0_readOwner_1 ?_
  refine fC_gi (x := 0) ⟨h0, by decide⟩ rfl rfl (Nat.le_of_ble_eq_true rfl) wd_82 (by decide) rfl dX0_readOwner_4 ?_
  refine ab_bipush (v := 8) dX0_readOwner_7 (by decide) ?_
  refine ab_icmp_lt (tgt := 17) dX0_readOwner_9 (by decide) (fun hc1 => ?_) (fun hc1 => ?_)
  · have h := sat_t hc1 h
    exact t_X0_readOwner_17 N r0 h0 C h
  · have h := sat_f hc1 h
    refine ab_aloadn 1 dX0_readOwner_12 rfl ?_
    refine ab_iconst (v := 4) dX0_readOwner_13 (by decide) ?_
    refine fC_Vv (mtc := mt_X7_blameTaken) (As := [.int 4]) h (fun Q h => ct_X7_blameTaken 4 C h) ⟨by decide, by decide⟩ rfl rfl rfl mw_X7_blameTaken wd_78 rfl rfl ⟨Nat.le_of_ble_eq_true rfl, Nat.le_of_ble_eq_true rfl⟩ ⟨Nat.zero_le _, Nat.zero_le _⟩ (Nat.le_of_ble_eq_true rfl) rfl dX0_readOwner_14 (fun v2 C3 h => ?_)
    exact t_X0_readOwner_17 N r0 h0 C3 h
theorem ct_X0_readOwner {l : Launch} {G : GX} {X : XM} {Q : Int32 → Mem → Prop} (N : Nat) (r0 : Nat) (h0 : r0 < 4) (C : CM) (h : SAT (f_X0_readOwner N r0 C) (fun v c => Q v (c, X))) : CT l G 4 mt_X0_readOwner [.ref (gA G 3 r0 0), .ref (gA G 1 0 0)] (C, X) Q := ct_of pn_X0 (Nat.le_of_ble_eq_true rfl) (t_X0_readOwner_0 N r0 h0 C h)
def f_X1_take_19 (N : Nat) (a2 : Int32) (C : CM) : Option (Int32 × CM) := cal (f_X7_isSound C) (fun v1 C2 => (if v1 = 0 then (rt (-1) C2) else (rt a2 C2)))
def f_X1_take (N : Nat) (r0 : Nat) (C : CM) : Option (Int32 × CM) := cal (f_X7_takeName C) (fun v1 C2 => cal (f_X1_find N r0 v1 C2) (fun v3 C4 => (if v3 = (-1) then cal (f_X7_blameTaken 3 C4) (fun v6 C7 => (f_X1_take_19 N v3 C7)) else (f_X1_take_19 N v3 C4))))
set_option maxRecDepth 8000 in
theorem t_X1_take_19 {l : Launch} {G : GX} {X : XM} {Q : Int32 → Mem → Prop} (N : Nat) (a2 : Int32) (C : CM) (h : SAT (f_X1_take_19 N a2 C) (fun v c => Q v (c, X))) : AB l G (rmD 3) 0 0 mt_X1_take (ZQ G mt_X1_take Q) 19 [(1, .ref (gA G 1 0 0)), (2, .int a2)] [] (C, X) := by
  unfold f_X1_take_19 at h
  refine ab_aloadn 0 dX1_take_19 rfl ?_
  refine fC_Vi (mtc := mt_X7_isSound) (As := []) h (fun Q h => ct_X7_isSound C h) ⟨by decide, by decide⟩ rfl rfl rfl mw_X7_isSound wd_98 rfl rfl ⟨Nat.le_of_ble_eq_true rfl, Nat.le_of_ble_eq_true rfl⟩ ⟨Nat.zero_le _, Nat.zero_le _⟩ (Nat.le_of_ble_eq_true rfl) rfl dX1_take_20 (fun v1 C2 h => ?_)
  refine ab_if_eq (tgt := 30) dX1_take_23 (by decide) (fun hc3 => ?_) (fun hc3 => ?_)
  · have h := sat_t hc3 h
    refine ab_iconst (v := (-1)) dX1_take_30 (by decide) ?_
    exact fC_iret h rfl rfl dX1_take_31
  · have h := sat_f hc3 h
    refine ab_iloadn 1 dX1_take_26 rfl ?_
    refine ab_goto (tgt := 31) dX1_take_27 (by decide) ?_
    exact fC_iret h rfl rfl dX1_take_31
set_option maxRecDepth 8000 in
theorem t_X1_take_0 {l : Launch} {G : GX} {X : XM} {Q : Int32 → Mem → Prop} (N : Nat) (r0 : Nat) (h0 : r0 < 4) (C : CM) (h : SAT (f_X1_take N r0 C) (fun v c => Q v (c, X))) : AB l G (rmD 3) 0 0 mt_X1_take (ZQ G mt_X1_take Q) 0 [(0, .ref (gA G 3 r0 6)), (1, .ref (gA G 1 0 0))] [] (C, X) := by
  unfold f_X1_take at h
  refine ab_aloadn 0 dX1_take_0 rfl ?_
  refine ab_aloadn 1 dX1_take_1 rfl ?_
  refine fC_Vi (mtc := mt_X7_takeName) (As := []) h (fun Q h => ct_X7_takeName C h) ⟨by decide, by decide⟩ rfl rfl rfl mw_X7_takeName wd_95 rfl rfl ⟨Nat.le_of_ble_eq_true rfl, Nat.le_of_ble_eq_true rfl⟩ ⟨Nat.zero_le _, Nat.zero_le _⟩ (Nat.le_of_ble_eq_true rfl) rfl dX1_take_2 (fun v1 C2 h => ?_)
  refine fC_Vi (mtc := mt_X1_find) (As := [.int v1]) h (fun Q h => ct_X1_find N r0 h0 v1 C2 h) ⟨h0, by decide⟩ rfl rfl rfl mw_X1_find wd_96 rfl rfl ⟨Nat.le_of_ble_eq_true rfl, Nat.le_of_ble_eq_true rfl⟩ ⟨Nat.zero_le _, Nat.zero_le _⟩ (Nat.le_of_ble_eq_true rfl) rfl dX1_take_5 (fun v3 C4 h => ?_)
  refine ab_istoren (lv' := [(0, .ref (gA G 3 r0 6)), (1, .ref (gA G 1 0 0)), (2, .int v3)]) dX1_take_8 rfl (Nat.le_of_ble_eq_true rfl) rfl ?_
  refine ab_iloadn 2 dX1_take_9 rfl ?_
  refine ab_iconst (v := (-1)) dX1_take_10 (by decide) ?_
  refine ab_icmp_ne (tgt := 19) dX1_take_11 (by decide) (fun hc5 => ?_) (fun hc5 => ?_)
  · have h := sat_f hc5 h
    refine ab_sub [1, 2] rfl ?_
    exact t_X1_take_19 N v3 C4 h
  · have h := sat_t hc5 h
    refine ab_aloadn 1 dX1_take_14 rfl ?_
    refine ab_iconst (v := 3) dX1_take_15 (by decide) ?_
    refine fC_Vv (mtc := mt_X7_blameTaken) (As := [.int 3]) h (fun Q h => ct_X7_blameTaken 3 C4 h) ⟨by decide, by decide⟩ rfl rfl rfl mw_X7_blameTaken wd_97 rfl rfl ⟨Nat.le_of_ble_eq_true rfl, Nat.le_of_ble_eq_true rfl⟩ ⟨Nat.zero_le _, Nat.zero_le _⟩ (Nat.le_of_ble_eq_true rfl) rfl dX1_take_16 (fun v6 C7 h => ?_)
    refine ab_sub [1, 2] rfl ?_
    exact t_X1_take_19 N v3 C7 h
theorem ct_X1_take {l : Launch} {G : GX} {X : XM} {Q : Int32 → Mem → Prop} (N : Nat) (r0 : Nat) (h0 : r0 < 4) (C : CM) (h : SAT (f_X1_take N r0 C) (fun v c => Q v (c, X))) : CT l G 3 mt_X1_take [.ref (gA G 3 r0 6), .ref (gA G 1 0 0)] (C, X) Q := ct_of pn_X1 (Nat.le_of_ble_eq_true rfl) (t_X1_take_0 N r0 h0 C h)
def f_X0_isOwner (r0 : Nat) (a1 : Int32) (C : CM) : Option (Int32 × CM) := (if a1 < 0 then (rt 0 C) else (if (C.1 3 r0 6 0) ≤ a1 then (rt 0 C) else (rt 1 C)))
set_option maxRecDepth 8000 in
theorem t_X0_isOwner_0 {l : Launch} {G : GX} {X : XM} {Q : Int32 → Mem → Prop} (r0 : Nat) (h0 : r0 < 4) (a1 : Int32) (C : CM) (h : SAT (f_X0_isOwner r0 a1 C) (fun v c => Q v (c, X))) : AB l G (rmD 1) 0 0 mt_X0_isOwner (ZQ G mt_X0_isOwner Q) 0 [(0, .ref (gA G 3 r0 0)), (1, .int a1)] [] (C, X) := by
  unfold f_X0_isOwner at h
  refine ab_iloadn 1 dX0_isOwner_0 rfl ?_
  refine ab_if_lt (tgt := 19) dX0_isOwner_1 (by decide) (fun hc1 => ?_) (fun hc1 => ?_)
  · have h := sat_t hc1 h
    refine ab_iconst (v := 0) dX0_isOwner_19 (by decide) ?_
    exact fC_iret h rfl rfl dX0_isOwner_20
  · have h := sat_f hc1 h
    refine ab_iloadn 1 dX0_isOwner_4 rfl ?_
    refine ab_aloadn 0 dX0_isOwner_5 rfl ?_
    refine f_gr (x := 10) (k2 := 3) (i2 := r0) (j2 := 6) ⟨h0, by decide⟩ rfl rfl (Nat.le_of_ble_eq_true rfl) wd_62 rfl rfl dX0_isOwner_6 ?_
    refine fC_gi (x := 0) ⟨h0, by decide⟩ rfl rfl (Nat.le_of_ble_eq_true rfl) wd_82 (by decide) rfl dX0_isOwner_9 ?_
    refine ab_icmp_ge (tgt := 19) dX0_isOwner_12 (by decide) (fun hc2 => ?_) (fun hc2 => ?_)
    · have h := sat_t hc2 h
      refine ab_iconst (v := 0) dX0_isOwner_19 (by decide) ?_
      exact fC_iret h rfl rfl dX0_isOwner_20
    · have h := sat_f hc2 h
      refine ab_iconst (v := 1) dX0_isOwner_15 (by decide) ?_
      refine ab_goto (tgt := 20) dX0_isOwner_16 (by decide) ?_
      exact fC_iret h rfl rfl dX0_isOwner_20
theorem ct_X0_isOwner {l : Launch} {G : GX} {X : XM} {Q : Int32 → Mem → Prop} (r0 : Nat) (h0 : r0 < 4) (a1 : Int32) (C : CM) (h : SAT (f_X0_isOwner r0 a1 C) (fun v c => Q v (c, X))) : CT l G 1 mt_X0_isOwner [.ref (gA G 3 r0 0), .int a1] (C, X) Q := ct_of pn_X0 (Nat.le_of_ble_eq_true rfl) (t_X0_isOwner_0 r0 h0 a1 C h)
def f_X0_readVane_36 (N : Nat) (r0 : Nat) (a2 : Int32) (C : CM) : Option (Int32 × CM) := cal (f_X7_takeNumber 0 7 C) (fun v1 C2 => cal (f_X7_isSound C2) (fun v3 C4 => (if v3 = 0 then (rt 0 C4) else cal (f_X0_isOwner r0 a2 C4) (fun v6 C7 => (if v6 = 0 then (rt 0 C7) else bnd (stC C7 3 r0 6 1 ((C7.1 3 r0 6 1) ||| ((1 : Int32) <<< (a2 &&& 31)))) (fun C9 => stA C9 3 r0 12 8 a2 v1 (fun C10 => (rt 0 C10))))))))
def f_X0_readVane (N : Nat) (r0 : Nat) (C : CM) : Option (Int32 × CM) := cal (f_X1_take N r0 C) (fun v1 C2 => cal (f_X7_isSound C2) (fun v3 C4 => (if v3 = 0 then (f_X0_readVane_36 N r0 v1 C4) else (if (((C4.1 3 r0 6 1) >>> (v1 &&& 31)) &&& 1) = 1 then cal (f_X7_blameTaken 3 C4) (fun v7 C8 => (f_X0_readVane_36 N r0 v1 C8)) else (f_X0_readVane_36 N r0 v1 C4)))))
set_option maxRecDepth 8000 in
theorem t_X0_readVane_36 {l : Launch} {G : GX} {X : XM} {Q : Int32 → Mem → Prop} (N : Nat) (r0 : Nat) (h0 : r0 < 4) (a2 : Int32) (C : CM) (h : SAT (f_X0_readVane_36 N r0 a2 C) (fun v c => Q v (c, X))) : AB l G (rmD 4) 0 0 mt_X0_readVane (ZQ G mt_X0_readVane Q) 36 [(0, .ref (gA G 3 r0 0)), (1, .ref (gA G 1 0 0)), (2, .int a2)] [] (C, X) := by
  unfold f_X0_readVane_36 at h
  refine ab_aloadn 1 dX0_readVane_36 rfl ?_
  refine ab_iconst (v := 0) dX0_readVane_37 (by decide) ?_
  refine ab_bipush (v := 7) dX0_readVane_38 (by decide) ?_
  refine fC_Vi (mtc := mt_X7_takeNumber) (As := [.int 0, .int 7]) h (fun Q h => ct_X7_takeNumber 0 7 C h) ⟨by decide, by decide⟩ rfl rfl rfl mw_X7_takeNumber wd_79 rfl rfl ⟨Nat.le_of_ble_eq_true rfl, Nat.le_of_ble_eq_true rfl⟩ ⟨Nat.zero_le _, Nat.zero_le _⟩ (Nat.le_of_ble_eq_true rfl) rfl dX0_readVane_40 (fun v1 C2 h => ?_)
  refine ab_istoren (lv' := [(0, .ref (gA G 3 r0 0)), (1, .ref (gA G 1 0 0)), (2, .int a2), (3, .int v1)]) dX0_readVane_43 rfl (Nat.le_of_ble_eq_true rfl) rfl ?_
  refine ab_aloadn 1 dX0_readVane_44 rfl ?_
  refine fC_Vi (mtc := mt_X7_isSound) (As := []) h (fun Q h => ct_X7_isSound C2 h) ⟨by decide, by decide⟩ rfl rfl rfl mw_X7_isSound wd_80 rfl rfl ⟨Nat.le_of_ble_eq_true rfl, Nat.le_of_ble_eq_true rfl⟩ ⟨Nat.zero_le _, Nat.zero_le _⟩ (Nat.le_of_ble_eq_true rfl) rfl dX0_readVane_45 (fun v3 C4 h => ?_)
  refine ab_if_eq (tgt := 84) dX0_readVane_48 (by decide) (fun hc5 => ?_) (fun hc5 => ?_)
  · have h := sat_t hc5 h
    exact fC_vret h rfl dX0_readVane_84
  · have h := sat_f hc5 h
    refine ab_aloadn 0 dX0_readVane_51 rfl ?_
    refine ab_iloadn 2 dX0_readVane_52 rfl ?_
    refine fC_Vi (mtc := mt_X0_isOwner) (As := [.int a2]) h (fun Q h => ct_X0_isOwner r0 h0 a2 C4 h) ⟨h0, by decide⟩ rfl rfl rfl mw_X0_isOwner wd_101 rfl rfl ⟨Nat.le_of_ble_eq_true rfl, Nat.le_of_ble_eq_true rfl⟩ ⟨Nat.zero_le _, Nat.zero_le _⟩ (Nat.le_of_ble_eq_true rfl) rfl dX0_readVane_53 (fun v6 C7 h => ?_)
    refine ab_if_eq (tgt := 84) dX0_readVane_56 (by decide) (fun hc8 => ?_) (fun hc8 => ?_)
    · have h := sat_t hc8 h
      exact fC_vret h rfl dX0_readVane_84
    · have h := sat_f hc8 h
      refine ab_aloadn 0 dX0_readVane_59 rfl ?_
      refine f_gr (x := 10) (k2 := 3) (i2 := r0) (j2 := 6) ⟨h0, by decide⟩ rfl rfl (Nat.le_of_ble_eq_true rfl) wd_62 rfl rfl dX0_readVane_60 ?_
      refine ab_dup dX0_readVane_63 rfl ?_
      refine fC_gi (x := 1) ⟨h0, by decide⟩ rfl rfl (Nat.le_of_ble_eq_true rfl) wd_100 (by decide) rfl dX0_readVane_64 ?_
      refine ab_iconst (v := 1) dX0_readVane_67 (by decide) ?_
      refine ab_iloadn 2 dX0_readVane_68 rfl ?_
      refine ab_ishl dX0_readVane_69 ?_
      refine ab_ior dX0_readVane_70 ?_
      refine fC_pi (x := 1) (ty := .int) ⟨h0, by decide⟩ rfl rfl (Nat.le_of_ble_eq_true rfl) wd_100 (by decide) rfl h rfl (by decide +kernel) rfl rfl dX0_readVane_71 (fun C9 h => ?_)
      refine ab_aloadn 0 dX0_readVane_74 rfl ?_
      refine f_gr (x := 10) (k2 := 3) (i2 := r0) (j2 := 6) ⟨h0, by decide⟩ rfl rfl (Nat.le_of_ble_eq_true rfl) wd_62 rfl rfl dX0_readVane_75 ?_
      refine f_gr (x := 7) (k2 := 3) (i2 := r0) (j2 := 12) ⟨h0, by decide⟩ rfl rfl (Nat.le_of_ble_eq_true rfl) wd_102 rfl rfl dX0_readVane_78 ?_
      refine ab_iloadn 2 dX0_readVane_81 rfl ?_
      refine ab_iloadn 3 dX0_readVane_82 rfl ?_
      refine fC_iast ⟨h0, by decide⟩ rfl (by decide) (fun _ => rfl) h dX0_readVane_83 (fun C10 h => ?_)
      exact fC_vret h rfl dX0_readVane_84
set_option maxRecDepth 8000 in
theorem t_X0_readVane_0 {l : Launch} {G : GX} {X : XM} {Q : Int32 → Mem → Prop} (N : Nat) (r0 : Nat) (h0 : r0 < 4) (C : CM) (h : SAT (f_X0_readVane N r0 C) (fun v c => Q v (c, X))) : AB l G (rmD 4) 0 0 mt_X0_readVane (ZQ G mt_X0_readVane Q) 0 [(0, .ref (gA G 3 r0 0)), (1, .ref (gA G 1 0 0))] [] (C, X) := by
  unfold f_X0_readVane at h
  refine ab_aloadn 0 dX0_readVane_0 rfl ?_
  refine f_gr (x := 10) (k2 := 3) (i2 := r0) (j2 := 6) ⟨h0, by decide⟩ rfl rfl (Nat.le_of_ble_eq_true rfl) wd_62 rfl rfl dX0_readVane_1 ?_
  refine ab_aloadn 1 dX0_readVane_4 rfl ?_
  refine fC_Vi (mtc := mt_X1_take) (As := [.ref (gA G 1 0 0)]) h (fun Q h => ct_X1_take N r0 h0 C h) ⟨h0, by decide⟩ rfl rfl rfl mw_X1_take wd_99 rfl rfl ⟨Nat.le_of_ble_eq_true rfl, Nat.le_of_ble_eq_true rfl⟩ ⟨Nat.zero_le _, Nat.zero_le _⟩ (Nat.le_of_ble_eq_true rfl) rfl dX0_readVane_5 (fun v1 C2 h => ?_)
  refine ab_istoren (lv' := [(0, .ref (gA G 3 r0 0)), (1, .ref (gA G 1 0 0)), (2, .int v1)]) dX0_readVane_8 rfl (Nat.le_of_ble_eq_true rfl) rfl ?_
  refine ab_aloadn 1 dX0_readVane_9 rfl ?_
  refine fC_Vi (mtc := mt_X7_isSound) (As := []) h (fun Q h => ct_X7_isSound C2 h) ⟨by decide, by decide⟩ rfl rfl rfl mw_X7_isSound wd_80 rfl rfl ⟨Nat.le_of_ble_eq_true rfl, Nat.le_of_ble_eq_true rfl⟩ ⟨Nat.zero_le _, Nat.zero_le _⟩ (Nat.le_of_ble_eq_true rfl) rfl dX0_readVane_10 (fun v3 C4 h => ?_)
  refine ab_if_eq (tgt := 36) dX0_readVane_13 (by decide) (fun hc5 => ?_) (fun hc5 => ?_)
  · have h := sat_t hc5 h
    exact t_X0_readVane_36 N r0 h0 v1 C4 h
  · have h := sat_f hc5 h
    refine ab_aloadn 0 dX0_readVane_16 rfl ?_
    refine f_gr (x := 10) (k2 := 3) (i2 := r0) (j2 := 6) ⟨h0, by decide⟩ rfl rfl (Nat.le_of_ble_eq_true rfl) wd_62 rfl rfl dX0_readVane_17 ?_
    refine fC_gi (x := 1) ⟨h0, by decide⟩ rfl rfl (Nat.le_of_ble_eq_true rfl) wd_100 (by decide) rfl dX0_readVane_20 ?_
    refine ab_iloadn 2 dX0_readVane_23 rfl ?_
    refine ab_ishr dX0_readVane_24 ?_
    refine ab_iconst (v := 1) dX0_readVane_25 (by decide) ?_
    refine ab_iand dX0_readVane_26 ?_
    refine ab_iconst (v := 1) dX0_readVane_27 (by decide) ?_
    refine ab_icmp_ne (tgt := 36) dX0_readVane_28 (by decide) (fun hc6 => ?_) (fun hc6 => ?_)
    · have h := sat_f hc6 h
      exact t_X0_readVane_36 N r0 h0 v1 C4 h
    · have h := sat_t hc6 h
      refine ab_aloadn 1 dX0_readVane_31 rfl ?_
      refine ab_iconst (v := 3) dX0_readVane_32 (by decide) ?_
      refine fC_Vv (mtc := mt_X7_blameTaken) (As := [.int 3]) h (fun Q h => ct_X7_blameTaken 3 C4 h) ⟨by decide, by decide⟩ rfl rfl rfl mw_X7_blameTaken wd_78 rfl rfl ⟨Nat.le_of_ble_eq_true rfl, Nat.le_of_ble_eq_true rfl⟩ ⟨Nat.zero_le _, Nat.zero_le _⟩ (Nat.le_of_ble_eq_true rfl) rfl dX0_readVane_33 (fun v7 C8 h => ?_)
      exact t_X0_readVane_36 N r0 h0 v1 C8 h
theorem ct_X0_readVane {l : Launch} {G : GX} {X : XM} {Q : Int32 → Mem → Prop} (N : Nat) (r0 : Nat) (h0 : r0 < 4) (C : CM) (h : SAT (f_X0_readVane N r0 C) (fun v c => Q v (c, X))) : CT l G 4 mt_X0_readVane [.ref (gA G 3 r0 0), .ref (gA G 1 0 0)] (C, X) Q := ct_of pn_X0 (Nat.le_of_ble_eq_true rfl) (t_X0_readVane_0 N r0 h0 C h)
def f_X0_readTree_14 (r0 : Nat) (C : CM) : Option (Int32 × CM) := cal (f_X0_takeCell r0 C) (fun v1 C2 => cal (f_X0_refuseIfTaken_b r0 v1 C2) (fun v3 C4 => cal (f_X7_isSound C4) (fun v5 C6 => (if v5 = 0 then (rt 0 C6) else (if 12 ≤ (C6.1 3 r0 0 3) then (rt 0 C6) else (if v1 < 0 then (rt 0 C6) else (if 100 ≤ v1 then (rt 0 C6) else stA C6 3 r0 1 100 v1 (32 + (C6.1 3 r0 0 3)) (fun C11 => stA C11 3 r0 3 12 (C11.1 3 r0 0 3) v1 (fun C12 => bnd (stC C12 3 r0 0 3 ((C12.1 3 r0 0 3) + 1)) (fun C13 => (rt 0 C13)))))))))))
def f_X0_readTree (r0 : Nat) (C : CM) : Option (Int32 × CM) := (if (C.1 3 r0 0 3) < 12 then (f_X0_readTree_14 r0 C) else cal (f_X7_blameTaken 4 C) (fun v2 C3 => (f_X0_readTree_14 r0 C3)))
set_option maxRecDepth 8000 in
theorem t_X0_readTree_14 {l : Launch} {G : GX} {X : XM} {Q : Int32 → Mem → Prop} (r0 : Nat) (h0 : r0 < 4) (C : CM) (h : SAT (f_X0_readTree_14 r0 C) (fun v c => Q v (c, X))) : AB l G (rmD 4) 0 0 mt_X0_readTree (ZQ G mt_X0_readTree Q) 14 [(0, .ref (gA G 3 r0 0)), (1, .ref (gA G 1 0 0))] [] (C, X) := by
  unfold f_X0_readTree_14 at h
  refine ab_aloadn 0 dX0_readTree_14 rfl ?_
  refine ab_aloadn 1 dX0_readTree_15 rfl ?_
  refine fC_Vi (mtc := mt_X0_takeCell) (As := [.ref (gA G 1 0 0)]) h (fun Q h => ct_X0_takeCell r0 h0 C h) ⟨h0, by decide⟩ rfl rfl rfl mw_X0_takeCell wd_86 rfl rfl ⟨Nat.le_of_ble_eq_true rfl, Nat.le_of_ble_eq_true rfl⟩ ⟨Nat.zero_le _, Nat.zero_le _⟩ (Nat.le_of_ble_eq_true rfl) rfl dX0_readTree_16 (fun v1 C2 h => ?_)
  refine ab_istoren (lv' := [(0, .ref (gA G 3 r0 0)), (1, .ref (gA G 1 0 0)), (2, .int v1)]) dX0_readTree_19 rfl (Nat.le_of_ble_eq_true rfl) rfl ?_
  refine ab_aloadn 1 dX0_readTree_20 rfl ?_
  refine ab_aloadn 0 dX0_readTree_21 rfl ?_
  refine f_gr (x := 11) (k2 := 3) (i2 := r0) (j2 := 1) ⟨h0, by decide⟩ rfl rfl (Nat.le_of_ble_eq_true rfl) wd_71 rfl rfl dX0_readTree_22 ?_
  refine ab_iloadn 2 dX0_readTree_25 rfl ?_
  refine fC_Sv (mtc := mt_X0_refuseIfTaken) (As := [.ref (gA G 1 0 0), .ref (gA G 3 r0 1), .int v1]) h (fun Q h => ct_X0_refuseIfTaken_b r0 h0 v1 C2 h) mw_X0_refuseIfTaken wd_87 wd_88 rfl rfl ⟨Nat.le_of_ble_eq_true rfl, Nat.le_of_ble_eq_true rfl⟩ ⟨Nat.zero_le _, Nat.zero_le _⟩ (Nat.le_of_ble_eq_true rfl) rfl dX0_readTree_26 (fun v3 C4 h => ?_)
  refine ab_aloadn 1 dX0_readTree_29 rfl ?_
  refine fC_Vi (mtc := mt_X7_isSound) (As := []) h (fun Q h => ct_X7_isSound C4 h) ⟨by decide, by decide⟩ rfl rfl rfl mw_X7_isSound wd_80 rfl rfl ⟨Nat.le_of_ble_eq_true rfl, Nat.le_of_ble_eq_true rfl⟩ ⟨Nat.zero_le _, Nat.zero_le _⟩ (Nat.le_of_ble_eq_true rfl) rfl dX0_readTree_30 (fun v5 C6 h => ?_)
  refine ab_if_eq (tgt := 88) dX0_readTree_33 (by decide) (fun hc7 => ?_) (fun hc7 => ?_)
  · have h := sat_t hc7 h
    exact fC_vret h rfl dX0_readTree_88
  · have h := sat_f hc7 h
    refine ab_aloadn 0 dX0_readTree_36 rfl ?_
    refine fC_gi (x := 3) ⟨h0, by decide⟩ rfl rfl (Nat.le_of_ble_eq_true rfl) wd_55 (by decide) rfl dX0_readTree_37 ?_
    refine ab_bipush (v := 12) dX0_readTree_40 (by decide) ?_
    refine ab_icmp_ge (tgt := 88) dX0_readTree_42 (by decide) (fun hc8 => ?_) (fun hc8 => ?_)
    · have h := sat_t hc8 h
      exact fC_vret h rfl dX0_readTree_88
    · have h := sat_f hc8 h
      refine ab_iloadn 2 dX0_readTree_45 rfl ?_
      refine ab_if_lt (tgt := 88) dX0_readTree_46 (by decide) (fun hc9 => ?_) (fun hc9 => ?_)
      · have h := sat_t hc9 h
        exact fC_vret h rfl dX0_readTree_88
      · have h := sat_f hc9 h
        refine ab_iloadn 2 dX0_readTree_49 rfl ?_
        refine ab_bipush (v := 100) dX0_readTree_50 (by decide) ?_
        refine ab_icmp_ge (tgt := 88) dX0_readTree_52 (by decide) (fun hc10 => ?_) (fun hc10 => ?_)
        · have h := sat_t hc10 h
          exact fC_vret h rfl dX0_readTree_88
        · have h := sat_f hc10 h
          refine ab_aloadn 0 dX0_readTree_55 rfl ?_
          refine f_gr (x := 11) (k2 := 3) (i2 := r0) (j2 := 1) ⟨h0, by decide⟩ rfl rfl (Nat.le_of_ble_eq_true rfl) wd_71 rfl rfl dX0_readTree_56 ?_
          refine ab_iloadn 2 dX0_readTree_59 rfl ?_
          refine ab_bipush (v := 32) dX0_readTree_60 (by decide) ?_
          refine ab_aloadn 0 dX0_readTree_62 rfl ?_
          refine fC_gi (x := 3) ⟨h0, by decide⟩ rfl rfl (Nat.le_of_ble_eq_true rfl) wd_55 (by decide) rfl dX0_readTree_63 ?_
          refine ab_iadd dX0_readTree_66 ?_
          refine fC_iast ⟨h0, by decide⟩ rfl (by decide) (fun _ => rfl) h dX0_readTree_67 (fun C11 h => ?_)
          refine ab_aloadn 0 dX0_readTree_68 rfl ?_
          refine f_gr (x := 13) (k2 := 3) (i2 := r0) (j2 := 3) ⟨h0, by decide⟩ rfl rfl (Nat.le_of_ble_eq_true rfl) wd_104 rfl rfl dX0_readTree_69 ?_
          refine ab_aloadn 0 dX0_readTree_72 rfl ?_
          refine fC_gi (x := 3) ⟨h0, by decide⟩ rfl rfl (Nat.le_of_ble_eq_true rfl) wd_55 (by decide) rfl dX0_readTree_73 ?_
          refine ab_iloadn 2 dX0_readTree_76 rfl ?_
          refine fC_iast ⟨h0, by decide⟩ rfl (by decide) (fun _ => rfl) h dX0_readTree_77 (fun C12 h => ?_)
          refine ab_aloadn 0 dX0_readTree_78 rfl ?_
          refine ab_dup dX0_readTree_79 rfl ?_
          refine fC_gi (x := 3) ⟨h0, by decide⟩ rfl rfl (Nat.le_of_ble_eq_true rfl) wd_55 (by decide) rfl dX0_readTree_80 ?_
          refine ab_iconst (v := 1) dX0_readTree_83 (by decide) ?_
          refine ab_iadd dX0_readTree_84 ?_
          refine fC_pi (x := 3) (ty := .int) ⟨h0, by decide⟩ rfl rfl (Nat.le_of_ble_eq_true rfl) wd_55 (by decide) rfl h rfl (by decide +kernel) rfl rfl dX0_readTree_85 (fun C13 h => ?_)
          exact fC_vret h rfl dX0_readTree_88
set_option maxRecDepth 8000 in
theorem t_X0_readTree_0 {l : Launch} {G : GX} {X : XM} {Q : Int32 → Mem → Prop} (r0 : Nat) (h0 : r0 < 4) (C : CM) (h : SAT (f_X0_readTree r0 C) (fun v c => Q v (c, X))) : AB l G (rmD 4) 0 0 mt_X0_readTree (ZQ G mt_X0_readTree Q) 0 [(0, .ref (gA G 3 r0 0)), (1, .ref (gA G 1 0 0))] [] (C, X) := by
  unfold f_X0_readTree at h
  refine ab_aloadn 0 dX0_readTree_0 rfl ?_
  refine fC_gi (x := 3) ⟨h0, by decide⟩ rfl rfl (Nat.le_of_ble_eq_true rfl) wd_55 (by decide) rfl dX0_readTree_1 ?_
  refine ab_bipush (v := 12) dX0_readTree_4 (by decide) ?_
  refine ab_icmp_lt (tgt := 14) dX0_readTree_6 (by decide) (fun hc1 => ?_) (fun hc1 => ?_)
  · have h := sat_t hc1 h
    exact t_X0_readTree_14 r0 h0 C h
  · have h := sat_f hc1 h
    refine ab_aloadn 1 dX0_readTree_9 rfl ?_
    refine ab_iconst (v := 4) dX0_readTree_10 (by decide) ?_
    refine fC_Vv (mtc := mt_X7_blameTaken) (As := [.int 4]) h (fun Q h => ct_X7_blameTaken 4 C h) ⟨by decide, by decide⟩ rfl rfl rfl mw_X7_blameTaken wd_78 rfl rfl ⟨Nat.le_of_ble_eq_true rfl, Nat.le_of_ble_eq_true rfl⟩ ⟨Nat.zero_le _, Nat.zero_le _⟩ (Nat.le_of_ble_eq_true rfl) rfl dX0_readTree_11 (fun v2 C3 h => ?_)
    exact t_X0_readTree_14 r0 h0 C3 h
theorem ct_X0_readTree {l : Launch} {G : GX} {X : XM} {Q : Int32 → Mem → Prop} (r0 : Nat) (h0 : r0 < 4) (C : CM) (h : SAT (f_X0_readTree r0 C) (fun v c => Q v (c, X))) : CT l G 4 mt_X0_readTree [.ref (gA G 3 r0 0), .ref (gA G 1 0 0)] (C, X) Q := ct_of pn_X0 (Nat.le_of_ble_eq_true rfl) (t_X0_readTree_0 r0 h0 C h)
def f_X0_readFence_14 (r0 : Nat) (C : CM) : Option (Int32 × CM) := cal (f_X0_takeCell r0 C) (fun v1 C2 => cal (f_X0_refuseIfTaken_b r0 v1 C2) (fun v3 C4 => cal (f_X7_isSound C4) (fun v5 C6 => (if v5 = 0 then (rt 0 C6) else (if v1 < 0 then (rt 0 C6) else (if 100 ≤ v1 then (rt 0 C6) else stA C6 3 r0 1 100 v1 48 (fun C10 => bnd (stC C10 3 r0 0 4 ((C10.1 3 r0 0 4) + 1)) (fun C11 => (rt 0 C11)))))))))
def f_X0_readFence (r0 : Nat) (C : CM) : Option (Int32 × CM) := (if (C.1 3 r0 0 4) < 12 then (f_X0_readFence_14 r0 C) else cal (f_X7_blameTaken 4 C) (fun v2 C3 => (f_X0_readFence_14 r0 C3)))
set_option maxRecDepth 8000 in
theorem t_X0_readFence_14 {l : Launch} {G : GX} {X : XM} {Q : Int32 → Mem → Prop} (r0 : Nat) (h0 : r0 < 4) (C : CM) (h : SAT (f_X0_readFence_14 r0 C) (fun v c => Q v (c, X))) : AB l G (rmD 4) 0 0 mt_X0_readFence (ZQ G mt_X0_readFence Q) 14 [(0, .ref (gA G 3 r0 0)), (1, .ref (gA G 1 0 0))] [] (C, X) := by
  unfold f_X0_readFence_14 at h
  refine ab_aloadn 0 dX0_readFence_14 rfl ?_
  refine ab_aloadn 1 dX0_readFence_15 rfl ?_
  refine fC_Vi (mtc := mt_X0_takeCell) (As := [.ref (gA G 1 0 0)]) h (fun Q h => ct_X0_takeCell r0 h0 C h) ⟨h0, by decide⟩ rfl rfl rfl mw_X0_takeCell wd_86 rfl rfl ⟨Nat.le_of_ble_eq_true rfl, Nat.le_of_ble_eq_true rfl⟩ ⟨Nat.zero_le _, Nat.zero_le _⟩ (Nat.le_of_ble_eq_true rfl) rfl dX0_readFence_16 (fun v1 C2 h => ?_)
  refine ab_istoren (lv' := [(0, .ref (gA G 3 r0 0)), (1, .ref (gA G 1 0 0)), (2, .int v1)]) dX0_readFence_19 rfl (Nat.le_of_ble_eq_true rfl) rfl ?_
  refine ab_aloadn 1 dX0_readFence_20 rfl ?_
  refine ab_aloadn 0 dX0_readFence_21 rfl ?_
  refine f_gr (x := 11) (k2 := 3) (i2 := r0) (j2 := 1) ⟨h0, by decide⟩ rfl rfl (Nat.le_of_ble_eq_true rfl) wd_71 rfl rfl dX0_readFence_22 ?_
  refine ab_iloadn 2 dX0_readFence_25 rfl ?_
  refine fC_Sv (mtc := mt_X0_refuseIfTaken) (As := [.ref (gA G 1 0 0), .ref (gA G 3 r0 1), .int v1]) h (fun Q h => ct_X0_refuseIfTaken_b r0 h0 v1 C2 h) mw_X0_refuseIfTaken wd_87 wd_88 rfl rfl ⟨Nat.le_of_ble_eq_true rfl, Nat.le_of_ble_eq_true rfl⟩ ⟨Nat.zero_le _, Nat.zero_le _⟩ (Nat.le_of_ble_eq_true rfl) rfl dX0_readFence_26 (fun v3 C4 h => ?_)
  refine ab_aloadn 1 dX0_readFence_29 rfl ?_
  refine fC_Vi (mtc := mt_X7_isSound) (As := []) h (fun Q h => ct_X7_isSound C4 h) ⟨by decide, by decide⟩ rfl rfl rfl mw_X7_isSound wd_80 rfl rfl ⟨Nat.le_of_ble_eq_true rfl, Nat.le_of_ble_eq_true rfl⟩ ⟨Nat.zero_le _, Nat.zero_le _⟩ (Nat.le_of_ble_eq_true rfl) rfl dX0_readFence_30 (fun v5 C6 h => ?_)
  refine ab_if_eq (tgt := 64) dX0_readFence_33 (by decide) (fun hc7 => ?_) (fun hc7 => ?_)
  · have h := sat_t hc7 h
    exact fC_vret h rfl dX0_readFence_64
  · have h := sat_f hc7 h
    refine ab_iloadn 2 dX0_readFence_36 rfl ?_
    refine ab_if_lt (tgt := 64) dX0_readFence_37 (by decide) (fun hc8 => ?_) (fun hc8 => ?_)
    · have h := sat_t hc8 h
      exact fC_vret h rfl dX0_readFence_64
    · have h := sat_f hc8 h
      refine ab_iloadn 2 dX0_readFence_40 rfl ?_
      refine ab_bipush (v := 100) dX0_readFence_41 (by decide) ?_
      refine ab_icmp_ge (tgt := 64) dX0_readFence_43 (by decide) (fun hc9 => ?_) (fun hc9 => ?_)
      · have h := sat_t hc9 h
        exact fC_vret h rfl dX0_readFence_64
      · have h := sat_f hc9 h
        refine ab_aloadn 0 dX0_readFence_46 rfl ?_
        refine f_gr (x := 11) (k2 := 3) (i2 := r0) (j2 := 1) ⟨h0, by decide⟩ rfl rfl (Nat.le_of_ble_eq_true rfl) wd_71 rfl rfl dX0_readFence_47 ?_
        refine ab_iloadn 2 dX0_readFence_50 rfl ?_
        refine ab_bipush (v := 48) dX0_readFence_51 (by decide) ?_
        refine fC_iast ⟨h0, by decide⟩ rfl (by decide) (fun _ => rfl) h dX0_readFence_53 (fun C10 h => ?_)
        refine ab_aloadn 0 dX0_readFence_54 rfl ?_
        refine ab_dup dX0_readFence_55 rfl ?_
        refine fC_gi (x := 4) ⟨h0, by decide⟩ rfl rfl (Nat.le_of_ble_eq_true rfl) wd_56 (by decide) rfl dX0_readFence_56 ?_
        refine ab_iconst (v := 1) dX0_readFence_59 (by decide) ?_
        refine ab_iadd dX0_readFence_60 ?_
        refine fC_pi (x := 4) (ty := .int) ⟨h0, by decide⟩ rfl rfl (Nat.le_of_ble_eq_true rfl) wd_56 (by decide) rfl h rfl (by decide +kernel) rfl rfl dX0_readFence_61 (fun C11 h => ?_)
        exact fC_vret h rfl dX0_readFence_64
set_option maxRecDepth 8000 in
theorem t_X0_readFence_0 {l : Launch} {G : GX} {X : XM} {Q : Int32 → Mem → Prop} (r0 : Nat) (h0 : r0 < 4) (C : CM) (h : SAT (f_X0_readFence r0 C) (fun v c => Q v (c, X))) : AB l G (rmD 4) 0 0 mt_X0_readFence (ZQ G mt_X0_readFence Q) 0 [(0, .ref (gA G 3 r0 0)), (1, .ref (gA G 1 0 0))] [] (C, X) := by
  unfold f_X0_readFence at h
  refine ab_aloadn 0 dX0_readFence_0 rfl ?_
  refine fC_gi (x := 4) ⟨h0, by decide⟩ rfl rfl (Nat.le_of_ble_eq_true rfl) wd_56 (by decide) rfl dX0_readFence_1 ?_
  refine ab_bipush (v := 12) dX0_readFence_4 (by decide) ?_
  refine ab_icmp_lt (tgt := 14) dX0_readFence_6 (by decide) (fun hc1 => ?_) (fun hc1 => ?_)
  · have h := sat_t hc1 h
    exact t_X0_readFence_14 r0 h0 C h
  · have h := sat_f hc1 h
    refine ab_aloadn 1 dX0_readFence_9 rfl ?_
    refine ab_iconst (v := 4) dX0_readFence_10 (by decide) ?_
    refine fC_Vv (mtc := mt_X7_blameTaken) (As := [.int 4]) h (fun Q h => ct_X7_blameTaken 4 C h) ⟨by decide, by decide⟩ rfl rfl rfl mw_X7_blameTaken wd_78 rfl rfl ⟨Nat.le_of_ble_eq_true rfl, Nat.le_of_ble_eq_true rfl⟩ ⟨Nat.zero_le _, Nat.zero_le _⟩ (Nat.le_of_ble_eq_true rfl) rfl dX0_readFence_11 (fun v2 C3 h => ?_)
    exact t_X0_readFence_14 r0 h0 C3 h
theorem ct_X0_readFence {l : Launch} {G : GX} {X : XM} {Q : Int32 → Mem → Prop} (r0 : Nat) (h0 : r0 < 4) (C : CM) (h : SAT (f_X0_readFence r0 C) (fun v c => Q v (c, X))) : CT l G 4 mt_X0_readFence [.ref (gA G 3 r0 0), .ref (gA G 1 0 0)] (C, X) Q := ct_of pn_X0 (Nat.le_of_ble_eq_true rfl) (t_X0_readFence_0 r0 h0 C h)
def f_X0_refuseIfTaken_e (r1 : Nat) (a2 : Int32) (C : CM) : Option (Int32 × CM) := (if a2 < 0 then (rt 0 C) else (if 100 ≤ a2 then (rt 0 C) else ldA (C.1 3 r1 2) 100 a2 (fun v3 => (if v3 = 0 then (rt 0 C) else cal (f_X7_blameTaken 3 C) (fun v5 C6 => (rt 0 C6))))))
set_option maxRecDepth 8000 in
theorem t_X0_refuseIfTaken_e_0 {l : Launch} {G : GX} {X : XM} {Q : Int32 → Mem → Prop} (r1 : Nat) (h1 : r1 < 4) (a2 : Int32) (C : CM) (h : SAT (f_X0_refuseIfTaken_e r1 a2 C) (fun v c => Q v (c, X))) : AB l G (rmD 2) 0 0 mt_X0_refuseIfTaken (ZQ G mt_X0_refuseIfTaken Q) 0 [(0, .ref (gA G 1 0 0)), (1, .ref (gA G 3 r1 2)), (2, .int a2)] [] (C, X) := by
  unfold f_X0_refuseIfTaken_e at h
  refine ab_iloadn 2 dX0_refuseIfTaken_0 rfl ?_
  refine ab_if_lt (tgt := 21) dX0_refuseIfTaken_1 (by decide) (fun hc1 => ?_) (fun hc1 => ?_)
  · have h := sat_t hc1 h
    exact fC_vret h rfl dX0_refuseIfTaken_21
  · have h := sat_f hc1 h
    refine ab_iloadn 2 dX0_refuseIfTaken_4 rfl ?_
    refine ab_aloadn 1 dX0_refuseIfTaken_5 rfl ?_
    refine ab_alen (v := 100) ⟨h1, by decide⟩ rfl (by decide) (by decide) dX0_refuseIfTaken_6 ?_
    refine ab_icmp_ge (tgt := 21) dX0_refuseIfTaken_7 (by decide) (fun hc2 => ?_) (fun hc2 => ?_)
    · have h := sat_t hc2 h
      exact fC_vret h rfl dX0_refuseIfTaken_21
    · have h := sat_f hc2 h
      refine ab_aloadn 1 dX0_refuseIfTaken_10 rfl ?_
      refine ab_iloadn 2 dX0_refuseIfTaken_11 rfl ?_
      refine fC_iald ⟨h1, by decide⟩ rfl (by decide) (fun _ => rfl) h dX0_refuseIfTaken_12 (fun v3 h => ?_)
      refine ab_if_eq (tgt := 21) dX0_refuseIfTaken_13 (by decide) (fun hc4 => ?_) (fun hc4 => ?_)
      · have h := sat_t hc4 h
        exact fC_vret h rfl dX0_refuseIfTaken_21
      · have h := sat_f hc4 h
        refine ab_aloadn 0 dX0_refuseIfTaken_16 rfl ?_
        refine ab_iconst (v := 3) dX0_refuseIfTaken_17 (by decide) ?_
        refine fC_Vv (mtc := mt_X7_blameTaken) (As := [.int 3]) h (fun Q h => ct_X7_blameTaken 3 C h) ⟨by decide, by decide⟩ rfl rfl rfl mw_X7_blameTaken wd_78 rfl rfl ⟨Nat.le_of_ble_eq_true rfl, Nat.le_of_ble_eq_true rfl⟩ ⟨Nat.zero_le _, Nat.zero_le _⟩ (Nat.le_of_ble_eq_true rfl) rfl dX0_refuseIfTaken_18 (fun v5 C6 h => ?_)
        exact fC_vret h rfl dX0_refuseIfTaken_21
theorem ct_X0_refuseIfTaken_e {l : Launch} {G : GX} {X : XM} {Q : Int32 → Mem → Prop} (r1 : Nat) (h1 : r1 < 4) (a2 : Int32) (C : CM) (h : SAT (f_X0_refuseIfTaken_e r1 a2 C) (fun v c => Q v (c, X))) : CT l G 2 mt_X0_refuseIfTaken [.ref (gA G 1 0 0), .ref (gA G 3 r1 2), .int a2] (C, X) Q := ct_of pn_X0 (Nat.le_of_ble_eq_true rfl) (t_X0_refuseIfTaken_e_0 r1 h1 a2 C h)
def f_X0_readEddy_14 (r0 : Nat) (C : CM) : Option (Int32 × CM) := cal (f_X0_takeCell r0 C) (fun v1 C2 => cal (f_X0_refuseIfTaken_e r0 v1 C2) (fun v3 C4 => cal (f_X7_takeNumber 1 7 C4) (fun v5 C6 => cal (f_X7_isSound C6) (fun v7 C8 => (if v7 = 0 then (rt 0 C8) else (if v1 < 0 then (rt 0 C8) else (if 100 ≤ v1 then (rt 0 C8) else stA C8 3 r0 2 100 v1 v5 (fun C12 => bnd (stC C12 3 r0 0 5 ((C12.1 3 r0 0 5) + 1)) (fun C13 => (rt 0 C13))))))))))
def f_X0_readEddy (r0 : Nat) (C : CM) : Option (Int32 × CM) := (if (C.1 3 r0 0 5) < 8 then (f_X0_readEddy_14 r0 C) else cal (f_X7_blameTaken 4 C) (fun v2 C3 => (f_X0_readEddy_14 r0 C3)))
set_option maxRecDepth 8000 in
theorem t_X0_readEddy_14 {l : Launch} {G : GX} {X : XM} {Q : Int32 → Mem → Prop} (r0 : Nat) (h0 : r0 < 4) (C : CM) (h : SAT (f_X0_readEddy_14 r0 C) (fun v c => Q v (c, X))) : AB l G (rmD 4) 0 0 mt_X0_readEddy (ZQ G mt_X0_readEddy Q) 14 [(0, .ref (gA G 3 r0 0)), (1, .ref (gA G 1 0 0))] [] (C, X) := by
  unfold f_X0_readEddy_14 at h
  refine ab_aloadn 0 dX0_readEddy_14 rfl ?_
  refine ab_aloadn 1 dX0_readEddy_15 rfl ?_
  refine fC_Vi (mtc := mt_X0_takeCell) (As := [.ref (gA G 1 0 0)]) h (fun Q h => ct_X0_takeCell r0 h0 C h) ⟨h0, by decide⟩ rfl rfl rfl mw_X0_takeCell wd_86 rfl rfl ⟨Nat.le_of_ble_eq_true rfl, Nat.le_of_ble_eq_true rfl⟩ ⟨Nat.zero_le _, Nat.zero_le _⟩ (Nat.le_of_ble_eq_true rfl) rfl dX0_readEddy_16 (fun v1 C2 h => ?_)
  refine ab_istoren (lv' := [(0, .ref (gA G 3 r0 0)), (1, .ref (gA G 1 0 0)), (2, .int v1)]) dX0_readEddy_19 rfl (Nat.le_of_ble_eq_true rfl) rfl ?_
  refine ab_aloadn 1 dX0_readEddy_20 rfl ?_
  refine ab_aloadn 0 dX0_readEddy_21 rfl ?_
  refine f_gr (x := 12) (k2 := 3) (i2 := r0) (j2 := 2) ⟨h0, by decide⟩ rfl rfl (Nat.le_of_ble_eq_true rfl) wd_72 rfl rfl dX0_readEddy_22 ?_
  refine ab_iloadn 2 dX0_readEddy_25 rfl ?_
  refine fC_Sv (mtc := mt_X0_refuseIfTaken) (As := [.ref (gA G 1 0 0), .ref (gA G 3 r0 2), .int v1]) h (fun Q h => ct_X0_refuseIfTaken_e r0 h0 v1 C2 h) mw_X0_refuseIfTaken wd_87 wd_88 rfl rfl ⟨Nat.le_of_ble_eq_true rfl, Nat.le_of_ble_eq_true rfl⟩ ⟨Nat.zero_le _, Nat.zero_le _⟩ (Nat.le_of_ble_eq_true rfl) rfl dX0_readEddy_26 (fun v3 C4 h => ?_)
  refine ab_aloadn 1 dX0_readEddy_29 rfl ?_
  refine ab_iconst (v := 1) dX0_readEddy_30 (by decide) ?_
  refine ab_bipush (v := 7) dX0_readEddy_31 (by decide) ?_
  refine fC_Vi (mtc := mt_X7_takeNumber) (As := [.int 1, .int 7]) h (fun Q h => ct_X7_takeNumber 1 7 C4 h) ⟨by decide, by decide⟩ rfl rfl rfl mw_X7_takeNumber wd_79 rfl rfl ⟨Nat.le_of_ble_eq_true rfl, Nat.le_of_ble_eq_true rfl⟩ ⟨Nat.zero_le _, Nat.zero_le _⟩ (Nat.le_of_ble_eq_true rfl) rfl dX0_readEddy_33 (fun v5 C6 h => ?_)
  refine ab_istoren (lv' := [(0, .ref (gA G 3 r0 0)), (1, .ref (gA G 1 0 0)), (2, .int v1), (3, .int v5)]) dX0_readEddy_36 rfl (Nat.le_of_ble_eq_true rfl) rfl ?_
  refine ab_aloadn 1 dX0_readEddy_37 rfl ?_
  refine fC_Vi (mtc := mt_X7_isSound) (As := []) h (fun Q h => ct_X7_isSound C6 h) ⟨by decide, by decide⟩ rfl rfl rfl mw_X7_isSound wd_80 rfl rfl ⟨Nat.le_of_ble_eq_true rfl, Nat.le_of_ble_eq_true rfl⟩ ⟨Nat.zero_le _, Nat.zero_le _⟩ (Nat.le_of_ble_eq_true rfl) rfl dX0_readEddy_38 (fun v7 C8 h => ?_)
  refine ab_if_eq (tgt := 71) dX0_readEddy_41 (by decide) (fun hc9 => ?_) (fun hc9 => ?_)
  · have h := sat_t hc9 h
    exact fC_vret h rfl dX0_readEddy_71
  · have h := sat_f hc9 h
    refine ab_iloadn 2 dX0_readEddy_44 rfl ?_
    refine ab_if_lt (tgt := 71) dX0_readEddy_45 (by decide) (fun hc10 => ?_) (fun hc10 => ?_)
    · have h := sat_t hc10 h
      exact fC_vret h rfl dX0_readEddy_71
    · have h := sat_f hc10 h
      refine ab_iloadn 2 dX0_readEddy_48 rfl ?_
      refine ab_bipush (v := 100) dX0_readEddy_49 (by decide) ?_
      refine ab_icmp_ge (tgt := 71) dX0_readEddy_51 (by decide) (fun hc11 => ?_) (fun hc11 => ?_)
      · have h := sat_t hc11 h
        exact fC_vret h rfl dX0_readEddy_71
      · have h := sat_f hc11 h
        refine ab_aloadn 0 dX0_readEddy_54 rfl ?_
        refine f_gr (x := 12) (k2 := 3) (i2 := r0) (j2 := 2) ⟨h0, by decide⟩ rfl rfl (Nat.le_of_ble_eq_true rfl) wd_72 rfl rfl dX0_readEddy_55 ?_
        refine ab_iloadn 2 dX0_readEddy_58 rfl ?_
        refine ab_iloadn 3 dX0_readEddy_59 rfl ?_
        refine fC_iast ⟨h0, by decide⟩ rfl (by decide) (fun _ => rfl) h dX0_readEddy_60 (fun C12 h => ?_)
        refine ab_aloadn 0 dX0_readEddy_61 rfl ?_
        refine ab_dup dX0_readEddy_62 rfl ?_
        refine fC_gi (x := 5) ⟨h0, by decide⟩ rfl rfl (Nat.le_of_ble_eq_true rfl) wd_57 (by decide) rfl dX0_readEddy_63 ?_
        refine ab_iconst (v := 1) dX0_readEddy_66 (by decide) ?_
        refine ab_iadd dX0_readEddy_67 ?_
        refine fC_pi (x := 5) (ty := .int) ⟨h0, by decide⟩ rfl rfl (Nat.le_of_ble_eq_true rfl) wd_57 (by decide) rfl h rfl (by decide +kernel) rfl rfl dX0_readEddy_68 (fun C13 h => ?_)
        exact fC_vret h rfl dX0_readEddy_71
set_option maxRecDepth 8000 in
theorem t_X0_readEddy_0 {l : Launch} {G : GX} {X : XM} {Q : Int32 → Mem → Prop} (r0 : Nat) (h0 : r0 < 4) (C : CM) (h : SAT (f_X0_readEddy r0 C) (fun v c => Q v (c, X))) : AB l G (rmD 4) 0 0 mt_X0_readEddy (ZQ G mt_X0_readEddy Q) 0 [(0, .ref (gA G 3 r0 0)), (1, .ref (gA G 1 0 0))] [] (C, X) := by
  unfold f_X0_readEddy at h
  refine ab_aloadn 0 dX0_readEddy_0 rfl ?_
  refine fC_gi (x := 5) ⟨h0, by decide⟩ rfl rfl (Nat.le_of_ble_eq_true rfl) wd_57 (by decide) rfl dX0_readEddy_1 ?_
  refine ab_bipush (v := 8) dX0_readEddy_4 (by decide) ?_
  refine ab_icmp_lt (tgt := 14) dX0_readEddy_6 (by decide) (fun hc1 => ?_) (fun hc1 => ?_)
  · have h := sat_t hc1 h
    exact t_X0_readEddy_14 r0 h0 C h
  · have h := sat_f hc1 h
    refine ab_aloadn 1 dX0_readEddy_9 rfl ?_
    refine ab_iconst (v := 4) dX0_readEddy_10 (by decide) ?_
    refine fC_Vv (mtc := mt_X7_blameTaken) (As := [.int 4]) h (fun Q h => ct_X7_blameTaken 4 C h) ⟨by decide, by decide⟩ rfl rfl rfl mw_X7_blameTaken wd_78 rfl rfl ⟨Nat.le_of_ble_eq_true rfl, Nat.le_of_ble_eq_true rfl⟩ ⟨Nat.zero_le _, Nat.zero_le _⟩ (Nat.le_of_ble_eq_true rfl) rfl dX0_readEddy_11 (fun v2 C3 h => ?_)
    exact t_X0_readEddy_14 r0 h0 C3 h
theorem ct_X0_readEddy {l : Launch} {G : GX} {X : XM} {Q : Int32 → Mem → Prop} (r0 : Nat) (h0 : r0 < 4) (C : CM) (h : SAT (f_X0_readEddy r0 C) (fun v c => Q v (c, X))) : CT l G 4 mt_X0_readEddy [.ref (gA G 3 r0 0), .ref (gA G 1 0 0)] (C, X) Q := ct_of pn_X0 (Nat.le_of_ble_eq_true rfl) (t_X0_readEddy_0 r0 h0 C h)
def f_X0_readGust_46 (r0 : Nat) (a2 : Int32) (C : CM) : Option (Int32 × CM) := cal (f_X7_takeNumber 0 7 C) (fun v1 C2 => cal (f_X7_takeNumber 1 9 C2) (fun v3 C4 => cal (f_X7_isSound C4) (fun v5 C6 => (if v5 = 0 then (rt 0 C6) else (if a2 < 0 then (rt 0 C6) else (if 48 ≤ a2 then (rt 0 C6) else stA C6 3 r0 4 48 a2 v1 (fun C10 => stA C10 3 r0 5 48 a2 v3 (fun C11 => bnd (stC C11 3 r0 0 6 ((C11.1 3 r0 0 6) + 1)) (fun C12 => (rt 0 C12))))))))))
def f_X0_readGust_14 (r0 : Nat) (C : CM) : Option (Int32 × CM) := cal (f_X7_takeNumber 0 47 C) (fun v1 C2 => (if v1 < 0 then (f_X0_readGust_46 r0 v1 C2) else (if 48 ≤ v1 then (f_X0_readGust_46 r0 v1 C2) else ldA (C2.1 3 r0 5) 48 v1 (fun v5 => (if v5 = 0 then (f_X0_readGust_46 r0 v1 C2) else cal (f_X7_blameTaken 3 C2) (fun v7 C8 => (f_X0_readGust_46 r0 v1 C8)))))))
def f_X0_readGust (r0 : Nat) (C : CM) : Option (Int32 × CM) := (if (C.1 3 r0 0 6) < 30 then (f_X0_readGust_14 r0 C) else cal (f_X7_blameTaken 4 C) (fun v2 C3 => (f_X0_readGust_14 r0 C3)))
set_option maxRecDepth 8000 in
theorem t_X0_readGust_46 {l : Launch} {G : GX} {X : XM} {Q : Int32 → Mem → Prop} (r0 : Nat) (h0 : r0 < 4) (a2 : Int32) (C : CM) (h : SAT (f_X0_readGust_46 r0 a2 C) (fun v c => Q v (c, X))) : AB l G (rmD 3) 0 0 mt_X0_readGust (ZQ G mt_X0_readGust Q) 46 [(0, .ref (gA G 3 r0 0)), (1, .ref (gA G 1 0 0)), (2, .int a2)] [] (C, X) := by
  unfold f_X0_readGust_46 at h
  refine ab_aloadn 1 dX0_readGust_46 rfl ?_
  refine ab_iconst (v := 0) dX0_readGust_47 (by decide) ?_
  refine ab_bipush (v := 7) dX0_readGust_48 (by decide) ?_
  refine fC_Vi (mtc := mt_X7_takeNumber) (As := [.int 0, .int 7]) h (fun Q h => ct_X7_takeNumber 0 7 C h) ⟨by decide, by decide⟩ rfl rfl rfl mw_X7_takeNumber wd_79 rfl rfl ⟨Nat.le_of_ble_eq_true rfl, Nat.le_of_ble_eq_true rfl⟩ ⟨Nat.zero_le _, Nat.zero_le _⟩ (Nat.le_of_ble_eq_true rfl) rfl dX0_readGust_50 (fun v1 C2 h => ?_)
  refine ab_istoren (lv' := [(0, .ref (gA G 3 r0 0)), (1, .ref (gA G 1 0 0)), (2, .int a2), (3, .int v1)]) dX0_readGust_53 rfl (Nat.le_of_ble_eq_true rfl) rfl ?_
  refine ab_aloadn 1 dX0_readGust_54 rfl ?_
  refine ab_iconst (v := 1) dX0_readGust_55 (by decide) ?_
  refine ab_bipush (v := 9) dX0_readGust_56 (by decide) ?_
  refine fC_Vi (mtc := mt_X7_takeNumber) (As := [.int 1, .int 9]) h (fun Q h => ct_X7_takeNumber 1 9 C2 h) ⟨by decide, by decide⟩ rfl rfl rfl mw_X7_takeNumber wd_79 rfl rfl ⟨Nat.le_of_ble_eq_true rfl, Nat.le_of_ble_eq_true rfl⟩ ⟨Nat.zero_le _, Nat.zero_le _⟩ (Nat.le_of_ble_eq_true rfl) rfl dX0_readGust_58 (fun v3 C4 h => ?_)
  refine ab_istore (lv' := [(0, .ref (gA G 3 r0 0)), (1, .ref (gA G 1 0 0)), (2, .int a2), (3, .int v1), (4, .int v3)]) dX0_readGust_61 rfl (Nat.le_of_ble_eq_true rfl) rfl ?_
  refine ab_aloadn 1 dX0_readGust_63 rfl ?_
  refine fC_Vi (mtc := mt_X7_isSound) (As := []) h (fun Q h => ct_X7_isSound C4 h) ⟨by decide, by decide⟩ rfl rfl rfl mw_X7_isSound wd_80 rfl rfl ⟨Nat.le_of_ble_eq_true rfl, Nat.le_of_ble_eq_true rfl⟩ ⟨Nat.zero_le _, Nat.zero_le _⟩ (Nat.le_of_ble_eq_true rfl) rfl dX0_readGust_64 (fun v5 C6 h => ?_)
  refine ab_if_eq (tgt := 105) dX0_readGust_67 (by decide) (fun hc7 => ?_) (fun hc7 => ?_)
  · have h := sat_t hc7 h
    exact fC_vret h rfl dX0_readGust_105
  · have h := sat_f hc7 h
    refine ab_iloadn 2 dX0_readGust_70 rfl ?_
    refine ab_if_lt (tgt := 105) dX0_readGust_71 (by decide) (fun hc8 => ?_) (fun hc8 => ?_)
    · have h := sat_t hc8 h
      exact fC_vret h rfl dX0_readGust_105
    · have h := sat_f hc8 h
      refine ab_iloadn 2 dX0_readGust_74 rfl ?_
      refine ab_bipush (v := 48) dX0_readGust_75 (by decide) ?_
      refine ab_icmp_ge (tgt := 105) dX0_readGust_77 (by decide) (fun hc9 => ?_) (fun hc9 => ?_)
      · have h := sat_t hc9 h
        exact fC_vret h rfl dX0_readGust_105
      · have h := sat_f hc9 h
        refine ab_aloadn 0 dX0_readGust_80 rfl ?_
        refine f_gr (x := 14) (k2 := 3) (i2 := r0) (j2 := 4) ⟨h0, by decide⟩ rfl rfl (Nat.le_of_ble_eq_true rfl) wd_108 rfl rfl dX0_readGust_81 ?_
        refine ab_iloadn 2 dX0_readGust_84 rfl ?_
        refine ab_iloadn 3 dX0_readGust_85 rfl ?_
        refine fC_iast ⟨h0, by decide⟩ rfl (by decide) (fun _ => rfl) h dX0_readGust_86 (fun C10 h => ?_)
        refine ab_aloadn 0 dX0_readGust_87 rfl ?_
        refine f_gr (x := 15) (k2 := 3) (i2 := r0) (j2 := 5) ⟨h0, by decide⟩ rfl rfl (Nat.le_of_ble_eq_true rfl) wd_73 rfl rfl dX0_readGust_88 ?_
        refine ab_iloadn 2 dX0_readGust_91 rfl ?_
        refine ab_iload 4 dX0_readGust_92 rfl ?_
        refine fC_iast ⟨h0, by decide⟩ rfl (by decide) (fun _ => rfl) h dX0_readGust_94 (fun C11 h => ?_)
        refine ab_aloadn 0 dX0_readGust_95 rfl ?_
        refine ab_dup dX0_readGust_96 rfl ?_
        refine fC_gi (x := 6) ⟨h0, by decide⟩ rfl rfl (Nat.le_of_ble_eq_true rfl) wd_58 (by decide) rfl dX0_readGust_97 ?_
        refine ab_iconst (v := 1) dX0_readGust_100 (by decide) ?_
        refine ab_iadd dX0_readGust_101 ?_
        refine fC_pi (x := 6) (ty := .int) ⟨h0, by decide⟩ rfl rfl (Nat.le_of_ble_eq_true rfl) wd_58 (by decide) rfl h rfl (by decide +kernel) rfl rfl dX0_readGust_102 (fun C12 h => ?_)
        exact fC_vret h rfl dX0_readGust_105
set_option maxRecDepth 8000 in
theorem t_X0_readGust_14 {l : Launch} {G : GX} {X : XM} {Q : Int32 → Mem → Prop} (r0 : Nat) (h0 : r0 < 4) (C : CM) (h : SAT (f_X0_readGust_14 r0 C) (fun v c => Q v (c, X))) : AB l G (rmD 3) 0 0 mt_X0_readGust (ZQ G mt_X0_readGust Q) 14 [(0, .ref (gA G 3 r0 0)), (1, .ref (gA G 1 0 0))] [] (C, X) := by
  unfold f_X0_readGust_14 at h
  refine ab_aloadn 1 dX0_readGust_14 rfl ?_
  refine ab_iconst (v := 0) dX0_readGust_15 (by decide) ?_
  refine ab_bipush (v := 47) dX0_readGust_16 (by decide) ?_
  refine fC_Vi (mtc := mt_X7_takeNumber) (As := [.int 0, .int 47]) h (fun Q h => ct_X7_takeNumber 0 47 C h) ⟨by decide, by decide⟩ rfl rfl rfl mw_X7_takeNumber wd_79 rfl rfl ⟨Nat.le_of_ble_eq_true rfl, Nat.le_of_ble_eq_true rfl⟩ ⟨Nat.zero_le _, Nat.zero_le _⟩ (Nat.le_of_ble_eq_true rfl) rfl dX0_readGust_18 (fun v1 C2 h => ?_)
  refine ab_istoren (lv' := [(0, .ref (gA G 3 r0 0)), (1, .ref (gA G 1 0 0)), (2, .int v1)]) dX0_readGust_21 rfl (Nat.le_of_ble_eq_true rfl) rfl ?_
  refine ab_iloadn 2 dX0_readGust_22 rfl ?_
  refine ab_if_lt (tgt := 46) dX0_readGust_23 (by decide) (fun hc3 => ?_) (fun hc3 => ?_)
  · have h := sat_t hc3 h
    exact t_X0_readGust_46 r0 h0 v1 C2 h
  · have h := sat_f hc3 h
    refine ab_iloadn 2 dX0_readGust_26 rfl ?_
    refine ab_bipush (v := 48) dX0_readGust_27 (by decide) ?_
    refine ab_icmp_ge (tgt := 46) dX0_readGust_29 (by decide) (fun hc4 => ?_) (fun hc4 => ?_)
    · have h := sat_t hc4 h
      exact t_X0_readGust_46 r0 h0 v1 C2 h
    · have h := sat_f hc4 h
      refine ab_aloadn 0 dX0_readGust_32 rfl ?_
      refine f_gr (x := 15) (k2 := 3) (i2 := r0) (j2 := 5) ⟨h0, by decide⟩ rfl rfl (Nat.le_of_ble_eq_true rfl) wd_73 rfl rfl dX0_readGust_33 ?_
      refine ab_iloadn 2 dX0_readGust_36 rfl ?_
      refine fC_iald ⟨h0, by decide⟩ rfl (by decide) (fun _ => rfl) h dX0_readGust_37 (fun v5 h => ?_)
      refine ab_if_eq (tgt := 46) dX0_readGust_38 (by decide) (fun hc6 => ?_) (fun hc6 => ?_)
      · have h := sat_t hc6 h
        exact t_X0_readGust_46 r0 h0 v1 C2 h
      · have h := sat_f hc6 h
        refine ab_aloadn 1 dX0_readGust_41 rfl ?_
        refine ab_iconst (v := 3) dX0_readGust_42 (by decide) ?_
        refine fC_Vv (mtc := mt_X7_blameTaken) (As := [.int 3]) h (fun Q h => ct_X7_blameTaken 3 C2 h) ⟨by decide, by decide⟩ rfl rfl rfl mw_X7_blameTaken wd_78 rfl rfl ⟨Nat.le_of_ble_eq_true rfl, Nat.le_of_ble_eq_true rfl⟩ ⟨Nat.zero_le _, Nat.zero_le _⟩ (Nat.le_of_ble_eq_true rfl) rfl dX0_readGust_43 (fun v7 C8 h => ?_)
        exact t_X0_readGust_46 r0 h0 v1 C8 h
set_option maxRecDepth 8000 in
theorem t_X0_readGust_0 {l : Launch} {G : GX} {X : XM} {Q : Int32 → Mem → Prop} (r0 : Nat) (h0 : r0 < 4) (C : CM) (h : SAT (f_X0_readGust r0 C) (fun v c => Q v (c, X))) : AB l G (rmD 3) 0 0 mt_X0_readGust (ZQ G mt_X0_readGust Q) 0 [(0, .ref (gA G 3 r0 0)), (1, .ref (gA G 1 0 0))] [] (C, X) := by
  unfold f_X0_readGust at h
  refine ab_aloadn 0 dX0_readGust_0 rfl ?_
  refine fC_gi (x := 6) ⟨h0, by decide⟩ rfl rfl (Nat.le_of_ble_eq_true rfl) wd_58 (by decide) rfl dX0_readGust_1 ?_
  refine ab_bipush (v := 30) dX0_readGust_4 (by decide) ?_
  refine ab_icmp_lt (tgt := 14) dX0_readGust_6 (by decide) (fun hc1 => ?_) (fun hc1 => ?_)
  · have h := sat_t hc1 h
    exact t_X0_readGust_14 r0 h0 C h
  · have h := sat_f hc1 h
    refine ab_aloadn 1 dX0_readGust_9 rfl ?_
    refine ab_iconst (v := 4) dX0_readGust_10 (by decide) ?_
    refine fC_Vv (mtc := mt_X7_blameTaken) (As := [.int 4]) h (fun Q h => ct_X7_blameTaken 4 C h) ⟨by decide, by decide⟩ rfl rfl rfl mw_X7_blameTaken wd_78 rfl rfl ⟨Nat.le_of_ble_eq_true rfl, Nat.le_of_ble_eq_true rfl⟩ ⟨Nat.zero_le _, Nat.zero_le _⟩ (Nat.le_of_ble_eq_true rfl) rfl dX0_readGust_11 (fun v2 C3 h => ?_)
    exact t_X0_readGust_14 r0 h0 C3 h
theorem ct_X0_readGust {l : Launch} {G : GX} {X : XM} {Q : Int32 → Mem → Prop} (r0 : Nat) (h0 : r0 < 4) (C : CM) (h : SAT (f_X0_readGust r0 C) (fun v c => Q v (c, X))) : CT l G 3 mt_X0_readGust [.ref (gA G 3 r0 0), .ref (gA G 1 0 0)] (C, X) Q := ct_of pn_X0 (Nat.le_of_ble_eq_true rfl) (t_X0_readGust_0 r0 h0 C h)
def f_X0_readPact_54 (N : Nat) (r0 : Nat) (a2 : Int32) (a3 : Int32) (C : CM) : Option (Int32 × CM) := cal (f_X7_isSound C) (fun v1 C2 => (if v1 = 0 then (rt 0 C2) else cal (f_X0_isOwner r0 a2 C2) (fun v4 C5 => (if v4 = 0 then (rt 0 C5) else stA C5 3 r0 13 8 a2 a3 (fun C7 => (rt 0 C7))))))
def f_X0_readPact_35 (N : Nat) (r0 : Nat) (a2 : Int32) (C : CM) : Option (Int32 × CM) := cal (f_X1_take N r0 C) (fun v1 C2 => (if a2 = v1 then cal (f_X7_blameTaken 3 C2) (fun v4 C5 => (f_X0_readPact_54 N r0 a2 v1 C5)) else (f_X0_readPact_54 N r0 a2 v1 C2)))
def f_X0_readPact (N : Nat) (r0 : Nat) (C : CM) : Option (Int32 × CM) := cal (f_X1_take N r0 C) (fun v1 C2 => cal (f_X0_isOwner r0 v1 C2) (fun v3 C4 => (if v3 = 0 then (f_X0_readPact_35 N r0 v1 C4) else ldA (C4.1 3 r0 13) 8 v1 (fun v6 => (if v6 = (-1) then (f_X0_readPact_35 N r0 v1 C4) else cal (f_X7_blameTaken 3 C4) (fun v8 C9 => (f_X0_readPact_35 N r0 v1 C9)))))))
set_option maxRecDepth 8000 in
theorem t_X0_readPact_54 {l : Launch} {G : GX} {X : XM} {Q : Int32 → Mem → Prop} (N : Nat) (r0 : Nat) (h0 : r0 < 4) (a2 : Int32) (a3 : Int32) (C : CM) (h : SAT (f_X0_readPact_54 N r0 a2 a3 C) (fun v c => Q v (c, X))) : AB l G (rmD 4) 0 0 mt_X0_readPact (ZQ G mt_X0_readPact Q) 54 [(0, .ref (gA G 3 r0 0)), (1, .ref (gA G 1 0 0)), (2, .int a2), (3, .int a3)] [] (C, X) := by
  unfold f_X0_readPact_54 at h
  refine ab_aloadn 1 dX0_readPact_54 rfl ?_
  refine fC_Vi (mtc := mt_X7_isSound) (As := []) h (fun Q h => ct_X7_isSound C h) ⟨by decide, by decide⟩ rfl rfl rfl mw_X7_isSound wd_80 rfl rfl ⟨Nat.le_of_ble_eq_true rfl, Nat.le_of_ble_eq_true rfl⟩ ⟨Nat.zero_le _, Nat.zero_le _⟩ (Nat.le_of_ble_eq_true rfl) rfl dX0_readPact_55 (fun v1 C2 h => ?_)
  refine ab_if_eq (tgt := 79) dX0_readPact_58 (by decide) (fun hc3 => ?_) (fun hc3 => ?_)
  · have h := sat_t hc3 h
    exact fC_vret h rfl dX0_readPact_79
  · have h := sat_f hc3 h
    refine ab_aloadn 0 dX0_readPact_61 rfl ?_
    refine ab_iloadn 2 dX0_readPact_62 rfl ?_
    refine fC_Vi (mtc := mt_X0_isOwner) (As := [.int a2]) h (fun Q h => ct_X0_isOwner r0 h0 a2 C2 h) ⟨h0, by decide⟩ rfl rfl rfl mw_X0_isOwner wd_101 rfl rfl ⟨Nat.le_of_ble_eq_true rfl, Nat.le_of_ble_eq_true rfl⟩ ⟨Nat.zero_le _, Nat.zero_le _⟩ (Nat.le_of_ble_eq_true rfl) rfl dX0_readPact_63 (fun v4 C5 h => ?_)
    refine ab_if_eq (tgt := 79) dX0_readPact_66 (by decide) (fun hc6 => ?_) (fun hc6 => ?_)
    · have h := sat_t hc6 h
      exact fC_vret h rfl dX0_readPact_79
    · have h := sat_f hc6 h
      refine ab_aloadn 0 dX0_readPact_69 rfl ?_
      refine f_gr (x := 10) (k2 := 3) (i2 := r0) (j2 := 6) ⟨h0, by decide⟩ rfl rfl (Nat.le_of_ble_eq_true rfl) wd_62 rfl rfl dX0_readPact_70 ?_
      refine f_gr (x := 8) (k2 := 3) (i2 := r0) (j2 := 13) ⟨h0, by decide⟩ rfl rfl (Nat.le_of_ble_eq_true rfl) wd_110 rfl rfl dX0_readPact_73 ?_
      refine ab_iloadn 2 dX0_readPact_76 rfl ?_
      refine ab_iloadn 3 dX0_readPact_77 rfl ?_
      refine fC_iast ⟨h0, by decide⟩ rfl (by decide) (fun _ => rfl) h dX0_readPact_78 (fun C7 h => ?_)
      exact fC_vret h rfl dX0_readPact_79
set_option maxRecDepth 8000 in
theorem t_X0_readPact_35 {l : Launch} {G : GX} {X : XM} {Q : Int32 → Mem → Prop} (N : Nat) (r0 : Nat) (h0 : r0 < 4) (a2 : Int32) (C : CM) (h : SAT (f_X0_readPact_35 N r0 a2 C) (fun v c => Q v (c, X))) : AB l G (rmD 4) 0 0 mt_X0_readPact (ZQ G mt_X0_readPact Q) 35 [(0, .ref (gA G 3 r0 0)), (1, .ref (gA G 1 0 0)), (2, .int a2)] [] (C, X) := by
  unfold f_X0_readPact_35 at h
  refine ab_aloadn 0 dX0_readPact_35 rfl ?_
  refine f_gr (x := 10) (k2 := 3) (i2 := r0) (j2 := 6) ⟨h0, by decide⟩ rfl rfl (Nat.le_of_ble_eq_true rfl) wd_62 rfl rfl dX0_readPact_36 ?_
  refine ab_aloadn 1 dX0_readPact_39 rfl ?_
  refine fC_Vi (mtc := mt_X1_take) (As := [.ref (gA G 1 0 0)]) h (fun Q h => ct_X1_take N r0 h0 C h) ⟨h0, by decide⟩ rfl rfl rfl mw_X1_take wd_99 rfl rfl ⟨Nat.le_of_ble_eq_true rfl, Nat.le_of_ble_eq_true rfl⟩ ⟨Nat.zero_le _, Nat.zero_le _⟩ (Nat.le_of_ble_eq_true rfl) rfl dX0_readPact_40 (fun v1 C2 h => ?_)
  refine ab_istoren (lv' := [(0, .ref (gA G 3 r0 0)), (1, .ref (gA G 1 0 0)), (2, .int a2), (3, .int v1)]) dX0_readPact_43 rfl (Nat.le_of_ble_eq_true rfl) rfl ?_
  refine ab_iloadn 2 dX0_readPact_44 rfl ?_
  refine ab_iloadn 3 dX0_readPact_45 rfl ?_
  refine ab_icmp_ne (tgt := 54) dX0_readPact_46 (by decide) (fun hc3 => ?_) (fun hc3 => ?_)
  · have h := sat_f hc3 h
    exact t_X0_readPact_54 N r0 h0 a2 v1 C2 h
  · have h := sat_t hc3 h
    refine ab_aloadn 1 dX0_readPact_49 rfl ?_
    refine ab_iconst (v := 3) dX0_readPact_50 (by decide) ?_
    refine fC_Vv (mtc := mt_X7_blameTaken) (As := [.int 3]) h (fun Q h => ct_X7_blameTaken 3 C2 h) ⟨by decide, by decide⟩ rfl rfl rfl mw_X7_blameTaken wd_78 rfl rfl ⟨Nat.le_of_ble_eq_true rfl, Nat.le_of_ble_eq_true rfl⟩ ⟨Nat.zero_le _, Nat.zero_le _⟩ (Nat.le_of_ble_eq_true rfl) rfl dX0_readPact_51 (fun v4 C5 h => ?_)
    exact t_X0_readPact_54 N r0 h0 a2 v1 C5 h
set_option maxRecDepth 8000 in
theorem t_X0_readPact_0 {l : Launch} {G : GX} {X : XM} {Q : Int32 → Mem → Prop} (N : Nat) (r0 : Nat) (h0 : r0 < 4) (C : CM) (h : SAT (f_X0_readPact N r0 C) (fun v c => Q v (c, X))) : AB l G (rmD 4) 0 0 mt_X0_readPact (ZQ G mt_X0_readPact Q) 0 [(0, .ref (gA G 3 r0 0)), (1, .ref (gA G 1 0 0))] [] (C, X) := by
  unfold f_X0_readPact at h
  refine ab_aloadn 0 dX0_readPact_0 rfl ?_
  refine f_gr (x := 10) (k2 := 3) (i2 := r0) (j2 := 6) ⟨h0, by decide⟩ rfl rfl (Nat.le_of_ble_eq_true rfl) wd_62 rfl rfl dX0_readPact_1 ?_
  refine ab_aloadn 1 dX0_readPact_4 rfl ?_
  refine fC_Vi (mtc := mt_X1_take) (As := [.ref (gA G 1 0 0)]) h (fun Q h => ct_X1_take N r0 h0 C h) ⟨h0, by decide⟩ rfl rfl rfl mw_X1_take wd_99 rfl rfl ⟨Nat.le_of_ble_eq_true rfl, Nat.le_of_ble_eq_true rfl⟩ ⟨Nat.zero_le _, Nat.zero_le _⟩ (Nat.le_of_ble_eq_true rfl) rfl dX0_readPact_5 (fun v1 C2 h => ?_)
  refine ab_istoren (lv' := [(0, .ref (gA G 3 r0 0)), (1, .ref (gA G 1 0 0)), (2, .int v1)]) dX0_readPact_8 rfl (Nat.le_of_ble_eq_true rfl) rfl ?_
  refine ab_aloadn 0 dX0_readPact_9 rfl ?_
  refine ab_iloadn 2 dX0_readPact_10 rfl ?_
  refine fC_Vi (mtc := mt_X0_isOwner) (As := [.int v1]) h (fun Q h => ct_X0_isOwner r0 h0 v1 C2 h) ⟨h0, by decide⟩ rfl rfl rfl mw_X0_isOwner wd_101 rfl rfl ⟨Nat.le_of_ble_eq_true rfl, Nat.le_of_ble_eq_true rfl⟩ ⟨Nat.zero_le _, Nat.zero_le _⟩ (Nat.le_of_ble_eq_true rfl) rfl dX0_readPact_11 (fun v3 C4 h => ?_)
  refine ab_if_eq (tgt := 35) dX0_readPact_14 (by decide) (fun hc5 => ?_) (fun hc5 => ?_)
  · have h := sat_t hc5 h
    exact t_X0_readPact_35 N r0 h0 v1 C4 h
  · have h := sat_f hc5 h
    refine ab_aloadn 0 dX0_readPact_17 rfl ?_
    refine f_gr (x := 10) (k2 := 3) (i2 := r0) (j2 := 6) ⟨h0, by decide⟩ rfl rfl (Nat.le_of_ble_eq_true rfl) wd_62 rfl rfl dX0_readPact_18 ?_
    refine f_gr (x := 8) (k2 := 3) (i2 := r0) (j2 := 13) ⟨h0, by decide⟩ rfl rfl (Nat.le_of_ble_eq_true rfl) wd_110 rfl rfl dX0_readPact_21 ?_
    refine ab_iloadn 2 dX0_readPact_24 rfl ?_
    refine fC_iald ⟨h0, by decide⟩ rfl (by decide) (fun _ => rfl) h dX0_readPact_25 (fun v6 h => ?_)
    refine ab_iconst (v := (-1)) dX0_readPact_26 (by decide) ?_
    refine ab_icmp_eq (tgt := 35) dX0_readPact_27 (by decide) (fun hc7 => ?_) (fun hc7 => ?_)
    · have h := sat_t hc7 h
      exact t_X0_readPact_35 N r0 h0 v1 C4 h
    · have h := sat_f hc7 h
      refine ab_aloadn 1 dX0_readPact_30 rfl ?_
      refine ab_iconst (v := 3) dX0_readPact_31 (by decide) ?_
      refine fC_Vv (mtc := mt_X7_blameTaken) (As := [.int 3]) h (fun Q h => ct_X7_blameTaken 3 C4 h) ⟨by decide, by decide⟩ rfl rfl rfl mw_X7_blameTaken wd_78 rfl rfl ⟨Nat.le_of_ble_eq_true rfl, Nat.le_of_ble_eq_true rfl⟩ ⟨Nat.zero_le _, Nat.zero_le _⟩ (Nat.le_of_ble_eq_true rfl) rfl dX0_readPact_32 (fun v8 C9 h => ?_)
      exact t_X0_readPact_35 N r0 h0 v1 C9 h
theorem ct_X0_readPact {l : Launch} {G : GX} {X : XM} {Q : Int32 → Mem → Prop} (N : Nat) (r0 : Nat) (h0 : r0 < 4) (C : CM) (h : SAT (f_X0_readPact N r0 C) (fun v c => Q v (c, X))) : CT l G 4 mt_X0_readPact [.ref (gA G 3 r0 0), .ref (gA G 1 0 0)] (C, X) Q := ct_of pn_X0 (Nat.le_of_ble_eq_true rfl) (t_X0_readPact_0 N r0 h0 C h)
def f_X1_hasPlotOn_2 (N : Nat) (r0 : Nat) (a1 : Int32) : Nat → Int32 → CM → Option (Int32 × CM)
  | 0, _, _ => none
  | n + 1, a2, C => (if (C.1 3 r0 6 0) ≤ a2 then (rt 0 C) else ldA (C.1 3 r0 14) 8 a2 (fun v2 => (if v2 = a1 then (rt 1 C) else (f_X1_hasPlotOn_2 N r0 a1 n (a2 + 1) C))))
def f_X1_hasPlotOn (N : Nat) (r0 : Nat) (a1 : Int32) (C : CM) : Option (Int32 × CM) := (f_X1_hasPlotOn_2 N r0 a1 N 0 C)
set_option maxRecDepth 8000 in
theorem t_X1_hasPlotOn_2 {l : Launch} {G : GX} {X : XM} {Q : Int32 → Mem → Prop} (N : Nat) (r0 : Nat) (h0 : r0 < 4) (a1 : Int32) : ∀ (n : Nat) (a2 : Int32) (C : CM), SAT (f_X1_hasPlotOn_2 N r0 a1 n a2 C) (fun v c => Q v (c, X)) → AB l G (rmD 1) 0 0 mt_X1_hasPlotOn (ZQ G mt_X1_hasPlotOn Q) 2 [(0, .ref (gA G 3 r0 6)), (1, .int a1), (2, .int a2)] [] (C, X) := by
  intro n
  induction n with
  | zero => intro a2 C h; exact h.elim
  | succ n ih =>
    intro a2 C h
    rw [f_X1_hasPlotOn_2] at h
    refine ab_iloadn 2 dX1_hasPlotOn_2 rfl ?_
    refine ab_aloadn 0 dX1_hasPlotOn_3 rfl ?_
    refine fC_gi (x := 0) ⟨h0, by decide⟩ rfl rfl (Nat.le_of_ble_eq_true rfl) wd_63 (by decide) rfl dX1_hasPlotOn_4 ?_
    refine ab_icmp_ge (tgt := 28) dX1_hasPlotOn_7 (by decide) (fun hc1 => ?_) (fun hc1 => ?_)
    · have h := sat_t hc1 h
      refine ab_iconst (v := 0) dX1_hasPlotOn_28 (by decide) ?_
      exact fC_iret h rfl rfl dX1_hasPlotOn_29
    · have h := sat_f hc1 h
      refine ab_aloadn 0 dX1_hasPlotOn_10 rfl ?_
      refine f_gr (x := 9) (k2 := 3) (i2 := r0) (j2 := 14) ⟨h0, by decide⟩ rfl rfl (Nat.le_of_ble_eq_true rfl) wd_69 rfl rfl dX1_hasPlotOn_11 ?_
      refine ab_iloadn 2 dX1_hasPlotOn_14 rfl ?_
      refine fC_iald ⟨h0, by decide⟩ rfl (by decide) (fun _ => rfl) h dX1_hasPlotOn_15 (fun v2 h => ?_)
      refine ab_iloadn 1 dX1_hasPlotOn_16 rfl ?_
      refine ab_icmp_ne (tgt := 22) dX1_hasPlotOn_17 (by decide) (fun hc3 => ?_) (fun hc3 => ?_)
      · have h := sat_f hc3 h
        refine ab_iinc (q := 2) (v := (a2 + 1)) (lv' := [(0, .ref (gA G 3 r0 6)), (1, .int a1), (2, .int (a2 + 1))]) dX1_hasPlotOn_22 rfl rfl rfl (Nat.le_of_ble_eq_true rfl) rfl ?_
        refine ab_goto (tgt := 2) dX1_hasPlotOn_25 (by decide) ?_
        exact ih (a2 + 1) C h
      · have h := sat_t hc3 h
        refine ab_iconst (v := 1) dX1_hasPlotOn_20 (by decide) ?_
        exact fC_iret h rfl rfl dX1_hasPlotOn_21
set_option maxRecDepth 8000 in
theorem t_X1_hasPlotOn_0 {l : Launch} {G : GX} {X : XM} {Q : Int32 → Mem → Prop} (N : Nat) (r0 : Nat) (h0 : r0 < 4) (a1 : Int32) (C : CM) (h : SAT (f_X1_hasPlotOn N r0 a1 C) (fun v c => Q v (c, X))) : AB l G (rmD 1) 0 0 mt_X1_hasPlotOn (ZQ G mt_X1_hasPlotOn Q) 0 [(0, .ref (gA G 3 r0 6)), (1, .int a1)] [] (C, X) := by
  unfold f_X1_hasPlotOn at h
  refine ab_iconst (v := 0) dX1_hasPlotOn_0 (by decide) ?_
  refine ab_istoren (lv' := [(0, .ref (gA G 3 r0 6)), (1, .int a1), (2, .int 0)]) dX1_hasPlotOn_1 rfl (Nat.le_of_ble_eq_true rfl) rfl ?_
  exact t_X1_hasPlotOn_2 N r0 h0 a1 N 0 C h
theorem ct_X1_hasPlotOn {l : Launch} {G : GX} {X : XM} {Q : Int32 → Mem → Prop} (N : Nat) (r0 : Nat) (h0 : r0 < 4) (a1 : Int32) (C : CM) (h : SAT (f_X1_hasPlotOn N r0 a1 C) (fun v c => Q v (c, X))) : CT l G 1 mt_X1_hasPlotOn [.ref (gA G 3 r0 6), .int a1] (C, X) Q := ct_of pn_X1 (Nat.le_of_ble_eq_true rfl) (t_X1_hasPlotOn_0 N r0 h0 a1 C h)
def f_X0_readPlot_64 (N : Nat) (r0 : Nat) (a2 : Int32) (a3 : Int32) (C : CM) : Option (Int32 × CM) := cal (f_X7_isSound C) (fun v1 C2 => (if v1 = 0 then (rt 0 C2) else cal (f_X0_isOwner r0 a2 C2) (fun v4 C5 => (if v4 = 0 then (rt 0 C5) else stA C5 3 r0 14 8 a2 a3 (fun C7 => (rt 0 C7))))))
def f_X0_readPlot_35 (N : Nat) (r0 : Nat) (a2 : Int32) (C : CM) : Option (Int32 × CM) := cal (f_X0_takeCell r0 C) (fun v1 C2 => cal (f_X7_isSound C2) (fun v3 C4 => (if v3 = 0 then (f_X0_readPlot_64 N r0 a2 v1 C4) else cal (f_X1_hasPlotOn N r0 v1 C4) (fun v6 C7 => (if v6 = 0 then (f_X0_readPlot_64 N r0 a2 v1 C7) else cal (f_X7_blameTaken 3 C7) (fun v9 C10 => (f_X0_readPlot_64 N r0 a2 v1 C10)))))))
def f_X0_readPlot (N : Nat) (r0 : Nat) (C : CM) : Option (Int32 × CM) := cal (f_X1_take N r0 C) (fun v1 C2 => cal (f_X0_isOwner r0 v1 C2) (fun v3 C4 => (if v3 = 0 then (f_X0_readPlot_35 N r0 v1 C4) else ldA (C4.1 3 r0 14) 8 v1 (fun v6 => (if v6 = (-1) then (f_X0_readPlot_35 N r0 v1 C4) else cal (f_X7_blameTaken 3 C4) (fun v8 C9 => (f_X0_readPlot_35 N r0 v1 C9)))))))
set_option maxRecDepth 8000 in
theorem t_X0_readPlot_64 {l : Launch} {G : GX} {X : XM} {Q : Int32 → Mem → Prop} (N : Nat) (r0 : Nat) (h0 : r0 < 4) (a2 : Int32) (a3 : Int32) (C : CM) (h : SAT (f_X0_readPlot_64 N r0 a2 a3 C) (fun v c => Q v (c, X))) : AB l G (rmD 4) 0 0 mt_X0_readPlot (ZQ G mt_X0_readPlot Q) 64 [(0, .ref (gA G 3 r0 0)), (1, .ref (gA G 1 0 0)), (2, .int a2), (3, .int a3)] [] (C, X) := by
  unfold f_X0_readPlot_64 at h
  refine ab_aloadn 1 dX0_readPlot_64 rfl ?_
  refine fC_Vi (mtc := mt_X7_isSound) (As := []) h (fun Q h => ct_X7_isSound C h) ⟨by decide, by decide⟩ rfl rfl rfl mw_X7_isSound wd_80 rfl rfl ⟨Nat.le_of_ble_eq_true rfl, Nat.le_of_ble_eq_true rfl⟩ ⟨Nat.zero_le _, Nat.zero_le _⟩ (Nat.le_of_ble_eq_true rfl) rfl dX0_readPlot_65 (fun v1 C2 h => ?_)
  refine ab_if_eq (tgt := 89) dX0_readPlot_68 (by decide) (fun hc3 => ?_) (fun hc3 => ?_)
  · have h := sat_t hc3 h
    exact fC_vret h rfl dX0_readPlot_89
  · have h := sat_f hc3 h
    refine ab_aloadn 0 dX0_readPlot_71 rfl ?_
    refine ab_iloadn 2 dX0_readPlot_72 rfl ?_
    refine fC_Vi (mtc := mt_X0_isOwner) (As := [.int a2]) h (fun Q h => ct_X0_isOwner r0 h0 a2 C2 h) ⟨h0, by decide⟩ rfl rfl rfl mw_X0_isOwner wd_101 rfl rfl ⟨Nat.le_of_ble_eq_true rfl, Nat.le_of_ble_eq_true rfl⟩ ⟨Nat.zero_le _, Nat.zero_le _⟩ (Nat.le_of_ble_eq_true rfl) rfl dX0_readPlot_73 (fun v4 C5 h => ?_)
    refine ab_if_eq (tgt := 89) dX0_readPlot_76 (by decide) (fun hc6 => ?_) (fun hc6 => ?_)
    · have h := sat_t hc6 h
      exact fC_vret h rfl dX0_readPlot_89
    · have h := sat_f hc6 h
      refine ab_aloadn 0 dX0_readPlot_79 rfl ?_
      refine f_gr (x := 10) (k2 := 3) (i2 := r0) (j2 := 6) ⟨h0, by decide⟩ rfl rfl (Nat.le_of_ble_eq_true rfl) wd_62 rfl rfl dX0_readPlot_80 ?_
      refine f_gr (x := 9) (k2 := 3) (i2 := r0) (j2 := 14) ⟨h0, by decide⟩ rfl rfl (Nat.le_of_ble_eq_true rfl) wd_112 rfl rfl dX0_readPlot_83 ?_
      refine ab_iloadn 2 dX0_readPlot_86 rfl ?_
      refine ab_iloadn 3 dX0_readPlot_87 rfl ?_
      refine fC_iast ⟨h0, by decide⟩ rfl (by decide) (fun _ => rfl) h dX0_readPlot_88 (fun C7 h => ?_)
      exact fC_vret h rfl dX0_readPlot_89
set_option maxRecDepth 8000 in
theorem t_X0_readPlot_35 {l : Launch} {G : GX} {X : XM} {Q : Int32 → Mem → Prop} (N : Nat) (r0 : Nat) (h0 : r0 < 4) (a2 : Int32) (C : CM) (h : SAT (f_X0_readPlot_35 N r0 a2 C) (fun v c => Q v (c, X))) : AB l G (rmD 4) 0 0 mt_X0_readPlot (ZQ G mt_X0_readPlot Q) 35 [(0, .ref (gA G 3 r0 0)), (1, .ref (gA G 1 0 0)), (2, .int a2)] [] (C, X) := by
  unfold f_X0_readPlot_35 at h
  refine ab_aloadn 0 dX0_readPlot_35 rfl ?_
  refine ab_aloadn 1 dX0_readPlot_36 rfl ?_
  refine fC_Vi (mtc := mt_X0_takeCell) (As := [.ref (gA G 1 0 0)]) h (fun Q h => ct_X0_takeCell r0 h0 C h) ⟨h0, by decide⟩ rfl rfl rfl mw_X0_takeCell wd_86 rfl rfl ⟨Nat.le_of_ble_eq_true rfl, Nat.le_of_ble_eq_true rfl⟩ ⟨Nat.zero_le _, Nat.zero_le _⟩ (Nat.le_of_ble_eq_true rfl) rfl dX0_readPlot_37 (fun v1 C2 h => ?_)
  refine ab_istoren (lv' := [(0, .ref (gA G 3 r0 0)), (1, .ref (gA G 1 0 0)), (2, .int a2), (3, .int v1)]) dX0_readPlot_40 rfl (Nat.le_of_ble_eq_true rfl) rfl ?_
  refine ab_aloadn 1 dX0_readPlot_41 rfl ?_
  refine fC_Vi (mtc := mt_X7_isSound) (As := []) h (fun Q h => ct_X7_isSound C2 h) ⟨by decide, by decide⟩ rfl rfl rfl mw_X7_isSound wd_80 rfl rfl ⟨Nat.le_of_ble_eq_true rfl, Nat.le_of_ble_eq_true rfl⟩ ⟨Nat.zero_le _, Nat.zero_le _⟩ (Nat.le_of_ble_eq_true rfl) rfl dX0_readPlot_42 (fun v3 C4 h => ?_)
  refine ab_if_eq (tgt := 64) dX0_readPlot_45 (by decide) (fun hc5 => ?_) (fun hc5 => ?_)
  · have h := sat_t hc5 h
    exact t_X0_readPlot_64 N r0 h0 a2 v1 C4 h
  · have h := sat_f hc5 h
    refine ab_aloadn 0 dX0_readPlot_48 rfl ?_
    refine f_gr (x := 10) (k2 := 3) (i2 := r0) (j2 := 6) ⟨h0, by decide⟩ rfl rfl (Nat.le_of_ble_eq_true rfl) wd_62 rfl rfl dX0_readPlot_49 ?_
    refine ab_iloadn 3 dX0_readPlot_52 rfl ?_
    refine fC_Vi (mtc := mt_X1_hasPlotOn) (As := [.int v1]) h (fun Q h => ct_X1_hasPlotOn N r0 h0 v1 C4 h) ⟨h0, by decide⟩ rfl rfl rfl mw_X1_hasPlotOn wd_113 rfl rfl ⟨Nat.le_of_ble_eq_true rfl, Nat.le_of_ble_eq_true rfl⟩ ⟨Nat.zero_le _, Nat.zero_le _⟩ (Nat.le_of_ble_eq_true rfl) rfl dX0_readPlot_53 (fun v6 C7 h => ?_)
    refine ab_if_eq (tgt := 64) dX0_readPlot_56 (by decide) (fun hc8 => ?_) (fun hc8 => ?_)
    · have h := sat_t hc8 h
      exact t_X0_readPlot_64 N r0 h0 a2 v1 C7 h
    · have h := sat_f hc8 h
      refine ab_aloadn 1 dX0_readPlot_59 rfl ?_
      refine ab_iconst (v := 3) dX0_readPlot_60 (by decide) ?_
      refine fC_Vv (mtc := mt_X7_blameTaken) (As := [.int 3]) h (fun Q h => ct_X7_blameTaken 3 C7 h) ⟨by decide, by decide⟩ rfl rfl rfl mw_X7_blameTaken wd_78 rfl rfl ⟨Nat.le_of_ble_eq_true rfl, Nat.le_of_ble_eq_true rfl⟩ ⟨Nat.zero_le _, Nat.zero_le _⟩ (Nat.le_of_ble_eq_true rfl) rfl dX0_readPlot_61 (fun v9 C10 h => ?_)
      exact t_X0_readPlot_64 N r0 h0 a2 v1 C10 h
set_option maxRecDepth 8000 in
theorem t_X0_readPlot_0 {l : Launch} {G : GX} {X : XM} {Q : Int32 → Mem → Prop} (N : Nat) (r0 : Nat) (h0 : r0 < 4) (C : CM) (h : SAT (f_X0_readPlot N r0 C) (fun v c => Q v (c, X))) : AB l G (rmD 4) 0 0 mt_X0_readPlot (ZQ G mt_X0_readPlot Q) 0 [(0, .ref (gA G 3 r0 0)), (1, .ref (gA G 1 0 0))] [] (C, X) := by
  unfold f_X0_readPlot at h
  refine ab_aloadn 0 dX0_readPlot_0 rfl ?_
  refine f_gr (x := 10) (k2 := 3) (i2 := r0) (j2 := 6) ⟨h0, by decide⟩ rfl rfl (Nat.le_of_ble_eq_true rfl) wd_62 rfl rfl dX0_readPlot_1 ?_
  refine ab_aloadn 1 dX0_readPlot_4 rfl ?_
  refine fC_Vi (mtc := mt_X1_take) (As := [.ref (gA G 1 0 0)]) h (fun Q h => ct_X1_take N r0 h0 C h) ⟨h0, by decide⟩ rfl rfl rfl mw_X1_take wd_99 rfl rfl ⟨Nat.le_of_ble_eq_true rfl, Nat.le_of_ble_eq_true rfl⟩ ⟨Nat.zero_le _, Nat.zero_le _⟩ (Nat.le_of_ble_eq_true rfl) rfl dX0_readPlot_5 (fun v1 C2 h => ?_)
  refine ab_istoren (lv' := [(0, .ref (gA G 3 r0 0)), (1, .ref (gA G 1 0 0)), (2, .int v1)]) dX0_readPlot_8 rfl (Nat.le_of_ble_eq_true rfl) rfl ?_
  refine ab_aloadn 0 dX0_readPlot_9 rfl ?_
  refine ab_iloadn 2 dX0_readPlot_10 rfl ?_
  refine fC_Vi (mtc := mt_X0_isOwner) (As := [.int v1]) h (fun Q h => ct_X0_isOwner r0 h0 v1 C2 h) ⟨h0, by decide⟩ rfl rfl rfl mw_X0_isOwner wd_101 rfl rfl ⟨Nat.le_of_ble_eq_true rfl, Nat.le_of_ble_eq_true rfl⟩ ⟨Nat.zero_le _, Nat.zero_le _⟩ (Nat.le_of_ble_eq_true rfl) rfl dX0_readPlot_11 (fun v3 C4 h => ?_)
  refine ab_if_eq (tgt := 35) dX0_readPlot_14 (by decide) (fun hc5 => ?_) (fun hc5 => ?_)
  · have h := sat_t hc5 h
    exact t_X0_readPlot_35 N r0 h0 v1 C4 h
  · have h := sat_f hc5 h
    refine ab_aloadn 0 dX0_readPlot_17 rfl ?_
    refine f_gr (x := 10) (k2 := 3) (i2 := r0) (j2 := 6) ⟨h0, by decide⟩ rfl rfl (Nat.le_of_ble_eq_true rfl) wd_62 rfl rfl dX0_readPlot_18 ?_
    refine f_gr (x := 9) (k2 := 3) (i2 := r0) (j2 := 14) ⟨h0, by decide⟩ rfl rfl (Nat.le_of_ble_eq_true rfl) wd_112 rfl rfl dX0_readPlot_21 ?_
    refine ab_iloadn 2 dX0_readPlot_24 rfl ?_
    refine fC_iald ⟨h0, by decide⟩ rfl (by decide) (fun _ => rfl) h dX0_readPlot_25 (fun v6 h => ?_)
    refine ab_iconst (v := (-1)) dX0_readPlot_26 (by decide) ?_
    refine ab_icmp_eq (tgt := 35) dX0_readPlot_27 (by decide) (fun hc7 => ?_) (fun hc7 => ?_)
    · have h := sat_t hc7 h
      exact t_X0_readPlot_35 N r0 h0 v1 C4 h
    · have h := sat_f hc7 h
      refine ab_aloadn 1 dX0_readPlot_30 rfl ?_
      refine ab_iconst (v := 3) dX0_readPlot_31 (by decide) ?_
      refine fC_Vv (mtc := mt_X7_blameTaken) (As := [.int 3]) h (fun Q h => ct_X7_blameTaken 3 C4 h) ⟨by decide, by decide⟩ rfl rfl rfl mw_X7_blameTaken wd_78 rfl rfl ⟨Nat.le_of_ble_eq_true rfl, Nat.le_of_ble_eq_true rfl⟩ ⟨Nat.zero_le _, Nat.zero_le _⟩ (Nat.le_of_ble_eq_true rfl) rfl dX0_readPlot_32 (fun v8 C9 h => ?_)
      exact t_X0_readPlot_35 N r0 h0 v1 C9 h
theorem ct_X0_readPlot {l : Launch} {G : GX} {X : XM} {Q : Int32 → Mem → Prop} (N : Nat) (r0 : Nat) (h0 : r0 < 4) (C : CM) (h : SAT (f_X0_readPlot N r0 C) (fun v c => Q v (c, X))) : CT l G 4 mt_X0_readPlot [.ref (gA G 3 r0 0), .ref (gA G 1 0 0)] (C, X) Q := ct_of pn_X0 (Nat.le_of_ble_eq_true rfl) (t_X0_readPlot_0 N r0 h0 C h)
def f_X0_readRun_12 (r0 : Nat) (C : CM) : Option (Int32 × CM) := cal (f_X7_takeNumber 0 99 C) (fun v1 C2 => cal (f_X7_takeNumber 0 999 C2) (fun v3 C4 => cal (f_X7_isSound C4) (fun v5 C6 => (if v5 = 0 then (rt 0 C6) else bnd (stC C6 3 r0 0 7 1) (fun C8 => bnd (stC C8 3 r0 0 8 v1) (fun C9 => bnd (stC C9 3 r0 0 9 v3) (fun C10 => (rt 0 C10))))))))
def f_X0_readRun (r0 : Nat) (C : CM) : Option (Int32 × CM) := (if (C.1 3 r0 0 7) = 0 then (f_X0_readRun_12 r0 C) else cal (f_X7_blameTaken 3 C) (fun v2 C3 => (f_X0_readRun_12 r0 C3)))
set_option maxRecDepth 8000 in
theorem t_X0_readRun_12 {l : Launch} {G : GX} {X : XM} {Q : Int32 → Mem → Prop} (r0 : Nat) (h0 : r0 < 4) (C : CM) (h : SAT (f_X0_readRun_12 r0 C) (fun v c => Q v (c, X))) : AB l G (rmD 3) 0 0 mt_X0_readRun (ZQ G mt_X0_readRun Q) 12 [(0, .ref (gA G 3 r0 0)), (1, .ref (gA G 1 0 0))] [] (C, X) := by
  unfold f_X0_readRun_12 at h
  refine ab_aloadn 1 dX0_readRun_12 rfl ?_
  refine ab_iconst (v := 0) dX0_readRun_13 (by decide) ?_
  refine ab_bipush (v := 99) dX0_readRun_14 (by decide) ?_
  refine fC_Vi (mtc := mt_X7_takeNumber) (As := [.int 0, .int 99]) h (fun Q h => ct_X7_takeNumber 0 99 C h) ⟨by decide, by decide⟩ rfl rfl rfl mw_X7_takeNumber wd_79 rfl rfl ⟨Nat.le_of_ble_eq_true rfl, Nat.le_of_ble_eq_true rfl⟩ ⟨Nat.zero_le _, Nat.zero_le _⟩ (Nat.le_of_ble_eq_true rfl) rfl dX0_readRun_16 (fun v1 C2 h => ?_)
  refine ab_istoren (lv' := [(0, .ref (gA G 3 r0 0)), (1, .ref (gA G 1 0 0)), (2, .int v1)]) dX0_readRun_19 rfl (Nat.le_of_ble_eq_true rfl) rfl ?_
  refine ab_aloadn 1 dX0_readRun_20 rfl ?_
  refine ab_iconst (v := 0) dX0_readRun_21 (by decide) ?_
  refine ab_sipush (v := 999) dX0_readRun_22 (by decide) ?_
  refine fC_Vi (mtc := mt_X7_takeNumber) (As := [.int 0, .int 999]) h (fun Q h => ct_X7_takeNumber 0 999 C2 h) ⟨by decide, by decide⟩ rfl rfl rfl mw_X7_takeNumber wd_79 rfl rfl ⟨Nat.le_of_ble_eq_true rfl, Nat.le_of_ble_eq_true rfl⟩ ⟨Nat.zero_le _, Nat.zero_le _⟩ (Nat.le_of_ble_eq_true rfl) rfl dX0_readRun_25 (fun v3 C4 h => ?_)
  refine ab_istoren (lv' := [(0, .ref (gA G 3 r0 0)), (1, .ref (gA G 1 0 0)), (2, .int v1), (3, .int v3)]) dX0_readRun_28 rfl (Nat.le_of_ble_eq_true rfl) rfl ?_
  refine ab_aloadn 1 dX0_readRun_29 rfl ?_
  refine fC_Vi (mtc := mt_X7_isSound) (As := []) h (fun Q h => ct_X7_isSound C4 h) ⟨by decide, by decide⟩ rfl rfl rfl mw_X7_isSound wd_80 rfl rfl ⟨Nat.le_of_ble_eq_true rfl, Nat.le_of_ble_eq_true rfl⟩ ⟨Nat.zero_le _, Nat.zero_le _⟩ (Nat.le_of_ble_eq_true rfl) rfl dX0_readRun_30 (fun v5 C6 h => ?_)
  refine ab_if_eq (tgt := 51) dX0_readRun_33 (by decide) (fun hc7 => ?_) (fun hc7 => ?_)
  · have h := sat_t hc7 h
    exact fC_vret h rfl dX0_readRun_51
  · have h := sat_f hc7 h
    refine ab_aloadn 0 dX0_readRun_36 rfl ?_
    refine ab_iconst (v := 1) dX0_readRun_37 (by decide) ?_
    refine fC_pi (x := 7) (ty := .boolean) ⟨h0, by decide⟩ rfl rfl (Nat.le_of_ble_eq_true rfl) wd_59 (by decide) rfl h rfl (by decide +kernel) rfl rfl dX0_readRun_38 (fun C8 h => ?_)
    refine ab_aloadn 0 dX0_readRun_41 rfl ?_
    refine ab_iloadn 2 dX0_readRun_42 rfl ?_
    refine fC_pi (x := 8) (ty := .int) ⟨h0, by decide⟩ rfl rfl (Nat.le_of_ble_eq_true rfl) wd_60 (by decide) rfl h rfl (by decide +kernel) rfl rfl dX0_readRun_43 (fun C9 h => ?_)
    refine ab_aloadn 0 dX0_readRun_46 rfl ?_
    refine ab_iloadn 3 dX0_readRun_47 rfl ?_
    refine fC_pi (x := 9) (ty := .int) ⟨h0, by decide⟩ rfl rfl (Nat.le_of_ble_eq_true rfl) wd_61 (by decide) rfl h rfl (by decide +kernel) rfl rfl dX0_readRun_48 (fun C10 h => ?_)
    exact fC_vret h rfl dX0_readRun_51
set_option maxRecDepth 8000 in
theorem t_X0_readRun_0 {l : Launch} {G : GX} {X : XM} {Q : Int32 → Mem → Prop} (r0 : Nat) (h0 : r0 < 4) (C : CM) (h : SAT (f_X0_readRun r0 C) (fun v c => Q v (c, X))) : AB l G (rmD 3) 0 0 mt_X0_readRun (ZQ G mt_X0_readRun Q) 0 [(0, .ref (gA G 3 r0 0)), (1, .ref (gA G 1 0 0))] [] (C, X) := by
  unfold f_X0_readRun at h
  refine ab_aloadn 0 dX0_readRun_0 rfl ?_
  refine fC_gi (x := 7) ⟨h0, by decide⟩ rfl rfl (Nat.le_of_ble_eq_true rfl) wd_59 (by decide) rfl dX0_readRun_1 ?_
  refine ab_if_eq (tgt := 12) dX0_readRun_4 (by decide) (fun hc1 => ?_) (fun hc1 => ?_)
  · have h := sat_t hc1 h
    exact t_X0_readRun_12 r0 h0 C h
  · have h := sat_f hc1 h
    refine ab_aloadn 1 dX0_readRun_7 rfl ?_
    refine ab_iconst (v := 3) dX0_readRun_8 (by decide) ?_
    refine fC_Vv (mtc := mt_X7_blameTaken) (As := [.int 3]) h (fun Q h => ct_X7_blameTaken 3 C h) ⟨by decide, by decide⟩ rfl rfl rfl mw_X7_blameTaken wd_78 rfl rfl ⟨Nat.le_of_ble_eq_true rfl, Nat.le_of_ble_eq_true rfl⟩ ⟨Nat.zero_le _, Nat.zero_le _⟩ (Nat.le_of_ble_eq_true rfl) rfl dX0_readRun_9 (fun v2 C3 h => ?_)
    exact t_X0_readRun_12 r0 h0 C3 h
theorem ct_X0_readRun {l : Launch} {G : GX} {X : XM} {Q : Int32 → Mem → Prop} (r0 : Nat) (h0 : r0 < 4) (C : CM) (h : SAT (f_X0_readRun r0 C) (fun v c => Q v (c, X))) : CT l G 3 mt_X0_readRun [.ref (gA G 3 r0 0), .ref (gA G 1 0 0)] (C, X) Q := ct_of pn_X0 (Nat.le_of_ble_eq_true rfl) (t_X0_readRun_0 r0 h0 C h)
def f_X0_readLine (N : Nat) (r0 : Nat) (C : CM) : Option (Int32 × CM) := cal (f_X7_takeWord 0 9 C) (fun v1 C2 => (if v1 = 0 then cal (f_X0_readYard r0 C2) (fun v4 C5 => (rt 0 C5)) else if v1 = 1 then cal (f_X0_readOwner N r0 C2) (fun v7 C8 => (rt 0 C8)) else if v1 = 2 then cal (f_X0_readVane N r0 C2) (fun v10 C11 => (rt 0 C11)) else if v1 = 3 then cal (f_X0_readTree r0 C2) (fun v13 C14 => (rt 0 C14)) else if v1 = 4 then cal (f_X0_readFence r0 C2) (fun v16 C17 => (rt 0 C17)) else if v1 = 5 then cal (f_X0_readEddy r0 C2) (fun v19 C20 => (rt 0 C20)) else if v1 = 6 then cal (f_X0_readGust r0 C2) (fun v22 C23 => (rt 0 C23)) else if v1 = 7 then cal (f_X0_readPact N r0 C2) (fun v25 C26 => (rt 0 C26)) else if v1 = 8 then cal (f_X0_readPlot N r0 C2) (fun v28 C29 => (rt 0 C29)) else if v1 = 9 then cal (f_X0_readRun r0 C2) (fun v31 C32 => (rt 0 C32)) else (rt 0 C2)))
set_option maxRecDepth 8000 in
theorem t_X0_readLine_0 {l : Launch} {G : GX} {X : XM} {Q : Int32 → Mem → Prop} (N : Nat) (r0 : Nat) (h0 : r0 < 4) (C : CM) (h : SAT (f_X0_readLine N r0 C) (fun v c => Q v (c, X))) : AB l G (rmD 5) 0 0 mt_X0_readLine (ZQ G mt_X0_readLine Q) 0 [(0, .ref (gA G 3 r0 0)), (1, .ref (gA G 1 0 0))] [] (C, X) := by
  unfold f_X0_readLine at h
  refine ab_aloadn 1 dX0_readLine_0 rfl ?_
  refine ab_iconst (v := 0) dX0_readLine_1 (by decide) ?_
  refine ab_bipush (v := 9) dX0_readLine_2 (by decide) ?_
  refine fC_Vi (mtc := mt_X7_takeWord) (As := [.int 0, .int 9]) h (fun Q h => ct_X7_takeWord 0 9 C h) ⟨by decide, by decide⟩ rfl rfl rfl mw_X7_takeWord wd_77 rfl rfl ⟨Nat.le_of_ble_eq_true rfl, Nat.le_of_ble_eq_true rfl⟩ ⟨Nat.zero_le _, Nat.zero_le _⟩ (Nat.le_of_ble_eq_true rfl) rfl dX0_readLine_4 (fun v1 C2 h => ?_)
  by_cases hc3 : v1 = 0
  · have h := sat_t hc3 h
    refine ab_tin (tgt := 60) (off := 53) hc3 (by decide) (by decide) (by decide) (by decide) dX0_readLine_7 ?_
    refine ab_aloadn 0 dX0_readLine_60 rfl ?_
    refine ab_aloadn 1 dX0_readLine_61 rfl ?_
    refine fC_Vv (mtc := mt_X0_readYard) (As := [.ref (gA G 1 0 0)]) h (fun Q h => ct_X0_readYard r0 h0 C2 h) ⟨h0, by decide⟩ rfl rfl rfl mw_X0_readYard wd_81 rfl rfl ⟨Nat.le_of_ble_eq_true rfl, Nat.le_of_ble_eq_true rfl⟩ ⟨Nat.zero_le _, Nat.zero_le _⟩ (Nat.le_of_ble_eq_true rfl) rfl dX0_readLine_62 (fun v4 C5 h => ?_)
    refine ab_goto (tgt := 140) dX0_readLine_65 (by decide) ?_
    exact fC_vret h rfl dX0_readLine_140
  have h := sat_f hc3 h
  by_cases hc6 : v1 = 1
  · have h := sat_t hc6 h
    refine ab_tin (tgt := 68) (off := 61) hc6 (by decide) (by decide) (by decide) (by decide) dX0_readLine_7 ?_
    refine ab_aloadn 0 dX0_readLine_68 rfl ?_
    refine ab_aloadn 1 dX0_readLine_69 rfl ?_
    refine fC_Vv (mtc := mt_X0_readOwner) (As := [.ref (gA G 1 0 0)]) h (fun Q h => ct_X0_readOwner N r0 h0 C2 h) ⟨h0, by decide⟩ rfl rfl rfl mw_X0_readOwner wd_94 rfl rfl ⟨Nat.le_of_ble_eq_true rfl, Nat.le_of_ble_eq_true rfl⟩ ⟨Nat.zero_le _, Nat.zero_le _⟩ (Nat.le_of_ble_eq_true rfl) rfl dX0_readLine_70 (fun v7 C8 h => ?_)
    refine ab_goto (tgt := 140) dX0_readLine_73 (by decide) ?_
    exact fC_vret h rfl dX0_readLine_140
  have h := sat_f hc6 h
  by_cases hc9 : v1 = 2
  · have h := sat_t hc9 h
    refine ab_tin (tgt := 76) (off := 69) hc9 (by decide) (by decide) (by decide) (by decide) dX0_readLine_7 ?_
    refine ab_aloadn 0 dX0_readLine_76 rfl ?_
    refine ab_aloadn 1 dX0_readLine_77 rfl ?_
    refine fC_Vv (mtc := mt_X0_readVane) (As := [.ref (gA G 1 0 0)]) h (fun Q h => ct_X0_readVane N r0 h0 C2 h) ⟨h0, by decide⟩ rfl rfl rfl mw_X0_readVane wd_103 rfl rfl ⟨Nat.le_of_ble_eq_true rfl, Nat.le_of_ble_eq_true rfl⟩ ⟨Nat.zero_le _, Nat.zero_le _⟩ (Nat.le_of_ble_eq_true rfl) rfl dX0_readLine_78 (fun v10 C11 h => ?_)
    refine ab_goto (tgt := 140) dX0_readLine_81 (by decide) ?_
    exact fC_vret h rfl dX0_readLine_140
  have h := sat_f hc9 h
  by_cases hc12 : v1 = 3
  · have h := sat_t hc12 h
    refine ab_tin (tgt := 84) (off := 77) hc12 (by decide) (by decide) (by decide) (by decide) dX0_readLine_7 ?_
    refine ab_aloadn 0 dX0_readLine_84 rfl ?_
    refine ab_aloadn 1 dX0_readLine_85 rfl ?_
    refine fC_Vv (mtc := mt_X0_readTree) (As := [.ref (gA G 1 0 0)]) h (fun Q h => ct_X0_readTree r0 h0 C2 h) ⟨h0, by decide⟩ rfl rfl rfl mw_X0_readTree wd_105 rfl rfl ⟨Nat.le_of_ble_eq_true rfl, Nat.le_of_ble_eq_true rfl⟩ ⟨Nat.zero_le _, Nat.zero_le _⟩ (Nat.le_of_ble_eq_true rfl) rfl dX0_readLine_86 (fun v13 C14 h => ?_)
    refine ab_goto (tgt := 140) dX0_readLine_89 (by decide) ?_
    exact fC_vret h rfl dX0_readLine_140
  have h := sat_f hc12 h
  by_cases hc15 : v1 = 4
  · have h := sat_t hc15 h
    refine ab_tin (tgt := 92) (off := 85) hc15 (by decide) (by decide) (by decide) (by decide) dX0_readLine_7 ?_
    refine ab_aloadn 0 dX0_readLine_92 rfl ?_
    refine ab_aloadn 1 dX0_readLine_93 rfl ?_
    refine fC_Vv (mtc := mt_X0_readFence) (As := [.ref (gA G 1 0 0)]) h (fun Q h => ct_X0_readFence r0 h0 C2 h) ⟨h0, by decide⟩ rfl rfl rfl mw_X0_readFence wd_106 rfl rfl ⟨Nat.le_of_ble_eq_true rfl, Nat.le_of_ble_eq_true rfl⟩ ⟨Nat.zero_le _, Nat.zero_le _⟩ (Nat.le_of_ble_eq_true rfl) rfl dX0_readLine_94 (fun v16 C17 h => ?_)
    refine ab_goto (tgt := 140) dX0_readLine_97 (by decide) ?_
    exact fC_vret h rfl dX0_readLine_140
  have h := sat_f hc15 h
  by_cases hc18 : v1 = 5
  · have h := sat_t hc18 h
    refine ab_tin (tgt := 100) (off := 93) hc18 (by decide) (by decide) (by decide) (by decide) dX0_readLine_7 ?_
    refine ab_aloadn 0 dX0_readLine_100 rfl ?_
    refine ab_aloadn 1 dX0_readLine_101 rfl ?_
    refine fC_Vv (mtc := mt_X0_readEddy) (As := [.ref (gA G 1 0 0)]) h (fun Q h => ct_X0_readEddy r0 h0 C2 h) ⟨h0, by decide⟩ rfl rfl rfl mw_X0_readEddy wd_107 rfl rfl ⟨Nat.le_of_ble_eq_true rfl, Nat.le_of_ble_eq_true rfl⟩ ⟨Nat.zero_le _, Nat.zero_le _⟩ (Nat.le_of_ble_eq_true rfl) rfl dX0_readLine_102 (fun v19 C20 h => ?_)
    refine ab_goto (tgt := 140) dX0_readLine_105 (by decide) ?_
    exact fC_vret h rfl dX0_readLine_140
  have h := sat_f hc18 h
  by_cases hc21 : v1 = 6
  · have h := sat_t hc21 h
    refine ab_tin (tgt := 108) (off := 101) hc21 (by decide) (by decide) (by decide) (by decide) dX0_readLine_7 ?_
    refine ab_aloadn 0 dX0_readLine_108 rfl ?_
    refine ab_aloadn 1 dX0_readLine_109 rfl ?_
    refine fC_Vv (mtc := mt_X0_readGust) (As := [.ref (gA G 1 0 0)]) h (fun Q h => ct_X0_readGust r0 h0 C2 h) ⟨h0, by decide⟩ rfl rfl rfl mw_X0_readGust wd_109 rfl rfl ⟨Nat.le_of_ble_eq_true rfl, Nat.le_of_ble_eq_true rfl⟩ ⟨Nat.zero_le _, Nat.zero_le _⟩ (Nat.le_of_ble_eq_true rfl) rfl dX0_readLine_110 (fun v22 C23 h => ?_)
    refine ab_goto (tgt := 140) dX0_readLine_113 (by decide) ?_
    exact fC_vret h rfl dX0_readLine_140
  have h := sat_f hc21 h
  by_cases hc24 : v1 = 7
  · have h := sat_t hc24 h
    refine ab_tin (tgt := 116) (off := 109) hc24 (by decide) (by decide) (by decide) (by decide) dX0_readLine_7 ?_
    refine ab_aloadn 0 dX0_readLine_116 rfl ?_
    refine ab_aloadn 1 dX0_readLine_117 rfl ?_
    refine fC_Vv (mtc := mt_X0_readPact) (As := [.ref (gA G 1 0 0)]) h (fun Q h => ct_X0_readPact N r0 h0 C2 h) ⟨h0, by decide⟩ rfl rfl rfl mw_X0_readPact wd_111 rfl rfl ⟨Nat.le_of_ble_eq_true rfl, Nat.le_of_ble_eq_true rfl⟩ ⟨Nat.zero_le _, Nat.zero_le _⟩ (Nat.le_of_ble_eq_true rfl) rfl dX0_readLine_118 (fun v25 C26 h => ?_)
    refine ab_goto (tgt := 140) dX0_readLine_121 (by decide) ?_
    exact fC_vret h rfl dX0_readLine_140
  have h := sat_f hc24 h
  by_cases hc27 : v1 = 8
  · have h := sat_t hc27 h
    refine ab_tin (tgt := 124) (off := 117) hc27 (by decide) (by decide) (by decide) (by decide) dX0_readLine_7 ?_
    refine ab_aloadn 0 dX0_readLine_124 rfl ?_
    refine ab_aloadn 1 dX0_readLine_125 rfl ?_
    refine fC_Vv (mtc := mt_X0_readPlot) (As := [.ref (gA G 1 0 0)]) h (fun Q h => ct_X0_readPlot N r0 h0 C2 h) ⟨h0, by decide⟩ rfl rfl rfl mw_X0_readPlot wd_114 rfl rfl ⟨Nat.le_of_ble_eq_true rfl, Nat.le_of_ble_eq_true rfl⟩ ⟨Nat.zero_le _, Nat.zero_le _⟩ (Nat.le_of_ble_eq_true rfl) rfl dX0_readLine_126 (fun v28 C29 h => ?_)
    refine ab_goto (tgt := 140) dX0_readLine_129 (by decide) ?_
    exact fC_vret h rfl dX0_readLine_140
  have h := sat_f hc27 h
  by_cases hc30 : v1 = 9
  · have h := sat_t hc30 h
    refine ab_tin (tgt := 132) (off := 125) hc30 (by decide) (by decide) (by decide) (by decide) dX0_readLine_7 ?_
    refine ab_aloadn 0 dX0_readLine_132 rfl ?_
    refine ab_aloadn 1 dX0_readLine_133 rfl ?_
    refine fC_Vv (mtc := mt_X0_readRun) (As := [.ref (gA G 1 0 0)]) h (fun Q h => ct_X0_readRun r0 h0 C2 h) ⟨h0, by decide⟩ rfl rfl rfl mw_X0_readRun wd_115 rfl rfl ⟨Nat.le_of_ble_eq_true rfl, Nat.le_of_ble_eq_true rfl⟩ ⟨Nat.zero_le _, Nat.zero_le _⟩ (Nat.le_of_ble_eq_true rfl) rfl dX0_readLine_134 (fun v31 C32 h => ?_)
    refine ab_goto (tgt := 140) dX0_readLine_137 (by decide) ?_
    exact fC_vret h rfl dX0_readLine_140
  have h := sat_f hc30 h
  refine ab_tout (tgt := 140) (by have := ne_toI hc3 (show Int32.toInt 0 = 0 by decide); have := ne_toI hc6 (show Int32.toInt 1 = 1 by decide); have := ne_toI hc9 (show Int32.toInt 2 = 2 by decide); have := ne_toI hc12 (show Int32.toInt 3 = 3 by decide); have := ne_toI hc15 (show Int32.toInt 4 = 4 by decide); have := ne_toI hc18 (show Int32.toInt 5 = 5 by decide); have := ne_toI hc21 (show Int32.toInt 6 = 6 by decide); have := ne_toI hc24 (show Int32.toInt 7 = 7 by decide); have := ne_toI hc27 (show Int32.toInt 8 = 8 by decide); have := ne_toI hc30 (show Int32.toInt 9 = 9 by decide); omega) (by decide) dX0_readLine_7 ?_
  exact fC_vret h rfl dX0_readLine_140
theorem ct_X0_readLine {l : Launch} {G : GX} {X : XM} {Q : Int32 → Mem → Prop} (N : Nat) (r0 : Nat) (h0 : r0 < 4) (C : CM) (h : SAT (f_X0_readLine N r0 C) (fun v c => Q v (c, X))) : CT l G 5 mt_X0_readLine [.ref (gA G 3 r0 0), .ref (gA G 1 0 0)] (C, X) Q := ct_of pn_X0 (Nat.le_of_ble_eq_true rfl) (t_X0_readLine_0 N r0 h0 C h)
def f_X1_sortByShare_57 (N : Nat) (k2 : Int32 → CM → Option (Int32 × CM)) (k14 : Int32 → Int32 → CM → Option (Int32 × CM)) (r0 : Nat) (a1 : Int32) (a2 : Int32) (a3 : Int32) (C : CM) : Option (Int32 × CM) := (k14 (a2 + 1) (a3 + 1) C)
def f_X1_sortByShare_14 (N : Nat) (k2 : Int32 → CM → Option (Int32 × CM)) (r0 : Nat) (a1 : Int32) : Nat → Int32 → Int32 → CM → Option (Int32 × CM)
  | 0, _, _, _ => none
  | n + 1, a2, a3, C => (if (C.1 3 r0 6 0) ≤ a3 then (if 8 ≤ a2 then (k2 (a1 + 1) C) else stA C 3 r0 15 8 a2 a1 (fun C3 => (k2 (a1 + 1) C3))) else ldA (C.1 3 r0 10) 8 a3 (fun v4 => ldA (C.1 3 r0 10) 8 a1 (fun v5 => (if v5 < v4 then (f_X1_sortByShare_57 N k2 (fun z2 z3 c => f_X1_sortByShare_14 N k2 r0 a1 n z2 z3 c) r0 a1 a2 a3 C) else ldA (C.1 3 r0 10) 8 a3 (fun v7 => ldA (C.1 3 r0 10) 8 a1 (fun v8 => (if v7 = v8 then (if a1 ≤ a3 then (f_X1_sortByShare_14 N k2 r0 a1 n a2 (a3 + 1) C) else (f_X1_sortByShare_57 N k2 (fun z2 z3 c => f_X1_sortByShare_14 N k2 r0 a1 n z2 z3 c) r0 a1 a2 a3 C)) else (f_X1_sortByShare_14 N k2 r0 a1 n a2 (a3 + 1) C))))))))
def f_X1_sortByShare_2 (N : Nat) (r0 : Nat) : Nat → Int32 → CM → Option (Int32 × CM)
  | 0, _, _ => none
  | n + 1, a1, C => (if (C.1 3 r0 6 0) ≤ a1 then (rt 0 C) else (f_X1_sortByShare_14 N (fun z1 c => f_X1_sortByShare_2 N r0 n z1 c) r0 a1 N 0 0 C))
def f_X1_sortByShare (N : Nat) (r0 : Nat) (C : CM) : Option (Int32 × CM) := (f_X1_sortByShare_2 N r0 N 0 C)
set_option maxRecDepth 8000 in
theorem t_X1_sortByShare_57 {l : Launch} {G : GX} {X : XM} {Q : Int32 → Mem → Prop} (N : Nat) (k2 : Int32 → CM → Option (Int32 × CM)) (k14 : Int32 → Int32 → CM → Option (Int32 × CM)) (r0 : Nat) (h0 : r0 < 4) (a1 : Int32) (a2 : Int32) (a3 : Int32) (hk2 : ∀ (ac1 : Int32) (C : CM), SAT (k2 ac1 C) (fun v c => Q v (c, X)) → AB l G (rmD 1) 0 0 mt_X1_sortByShare (ZQ G mt_X1_sortByShare Q) 2 [(0, .ref (gA G 3 r0 6)), (1, .int ac1)] [] (C, X)) (hk14 : ∀ (ac2 : Int32) (ac3 : Int32) (C : CM), SAT (k14 ac2 ac3 C) (fun v c => Q v (c, X)) → AB l G (rmD 1) 0 0 mt_X1_sortByShare (ZQ G mt_X1_sortByShare Q) 14 [(0, .ref (gA G 3 r0 6)), (1, .int a1), (2, .int ac2), (3, .int ac3)] [] (C, X)) (C : CM) (h : SAT (f_X1_sortByShare_57 N k2 k14 r0 a1 a2 a3 C) (fun v c => Q v (c, X))) : AB l G (rmD 1) 0 0 mt_X1_sortByShare (ZQ G mt_X1_sortByShare Q) 57 [(0, .ref (gA G 3 r0 6)), (1, .int a1), (2, .int a2), (3, .int a3)] [] (C, X) := by
  unfold f_X1_sortByShare_57 at h
  refine ab_iinc (q := 2) (v := (a2 + 1)) (lv' := [(0, .ref (gA G 3 r0 6)), (1, .int a1), (2, .int (a2 + 1)), (3, .int a3)]) dX1_sortByShare_57 rfl rfl rfl (Nat.le_of_ble_eq_true rfl) rfl ?_
  refine ab_iinc (q := 3) (v := (a3 + 1)) (lv' := [(0, .ref (gA G 3 r0 6)), (1, .int a1), (2, .int (a2 + 1)), (3, .int (a3 + 1))]) dX1_sortByShare_60 rfl rfl rfl (Nat.le_of_ble_eq_true rfl) rfl ?_
  refine ab_goto (tgt := 14) dX1_sortByShare_63 (by decide) ?_
  exact hk14 (a2 + 1) (a3 + 1) C h
set_option maxRecDepth 8000 in
theorem t_X1_sortByShare_14 {l : Launch} {G : GX} {X : XM} {Q : Int32 → Mem → Prop} (N : Nat) (k2 : Int32 → CM → Option (Int32 × CM)) (r0 : Nat) (h0 : r0 < 4) (a1 : Int32) (hk2 : ∀ (ac1 : Int32) (C : CM), SAT (k2 ac1 C) (fun v c => Q v (c, X)) → AB l G (rmD 1) 0 0 mt_X1_sortByShare (ZQ G mt_X1_sortByShare Q) 2 [(0, .ref (gA G 3 r0 6)), (1, .int ac1)] [] (C, X)) : ∀ (n : Nat) (a2 : Int32) (a3 : Int32) (C : CM), SAT (f_X1_sortByShare_14 N k2 r0 a1 n a2 a3 C) (fun v c => Q v (c, X)) → AB l G (rmD 1) 0 0 mt_X1_sortByShare (ZQ G mt_X1_sortByShare Q) 14 [(0, .ref (gA G 3 r0 6)), (1, .int a1), (2, .int a2), (3, .int a3)] [] (C, X) := by
  intro n
  induction n with
  | zero => intro a2 a3 C h; exact h.elim
  | succ n ih =>
    intro a2 a3 C h
    rw [f_X1_sortByShare_14] at h
    refine ab_iloadn 3 dX1_sortByShare_14 rfl ?_
    refine ab_aloadn 0 dX1_sortByShare_15 rfl ?_
    refine fC_gi (x := 0) ⟨h0, by decide⟩ rfl rfl (Nat.le_of_ble_eq_true rfl) wd_63 (by decide) rfl dX1_sortByShare_16 ?_
    refine ab_icmp_ge (tgt := 66) dX1_sortByShare_19 (by decide) (fun hc1 => ?_) (fun hc1 => ?_)
    · have h := sat_t hc1 h
      refine ab_iloadn 2 dX1_sortByShare_66 rfl ?_
      refine ab_bipush (v := 8) dX1_sortByShare_67 (by decide) ?_
      refine ab_icmp_ge (tgt := 79) dX1_sortByShare_69 (by decide) (fun hc2 => ?_) (fun hc2 => ?_)
      · have h := sat_t hc2 h
        refine ab_iinc (q := 1) (v := (a1 + 1)) (lv' := [(0, .ref (gA G 3 r0 6)), (1, .int (a1 + 1)), (2, .int a2), (3, .int a3)]) dX1_sortByShare_79 rfl rfl rfl (Nat.le_of_ble_eq_true rfl) rfl ?_
        refine ab_goto (tgt := 2) dX1_sortByShare_82 (by decide) ?_
        refine ab_sub [0, 1] rfl ?_
        exact hk2 (a1 + 1) C h
      · have h := sat_f hc2 h
        refine ab_aloadn 0 dX1_sortByShare_72 rfl ?_
        refine f_gr (x := 10) (k2 := 3) (i2 := r0) (j2 := 15) ⟨h0, by decide⟩ rfl rfl (Nat.le_of_ble_eq_true rfl) wd_118 rfl rfl dX1_sortByShare_73 ?_
        refine ab_iloadn 2 dX1_sortByShare_76 rfl ?_
        refine ab_iloadn 1 dX1_sortByShare_77 rfl ?_
        refine fC_iast ⟨h0, by decide⟩ rfl (by decide) (fun _ => rfl) h dX1_sortByShare_78 (fun C3 h => ?_)
        refine ab_iinc (q := 1) (v := (a1 + 1)) (lv' := [(0, .ref (gA G 3 r0 6)), (1, .int (a1 + 1)), (2, .int a2), (3, .int a3)]) dX1_sortByShare_79 rfl rfl rfl (Nat.le_of_ble_eq_true rfl) rfl ?_
        refine ab_goto (tgt := 2) dX1_sortByShare_82 (by decide) ?_
        refine ab_sub [0, 1] rfl ?_
        exact hk2 (a1 + 1) C3 h
    · have h := sat_f hc1 h
      refine ab_aloadn 0 dX1_sortByShare_22 rfl ?_
      refine f_gr (x := 5) (k2 := 3) (i2 := r0) (j2 := 10) ⟨h0, by decide⟩ rfl rfl (Nat.le_of_ble_eq_true rfl) wd_119 rfl rfl dX1_sortByShare_23 ?_
      refine ab_iloadn 3 dX1_sortByShare_26 rfl ?_
      refine fC_iald ⟨h0, by decide⟩ rfl (by decide) (fun _ => rfl) h dX1_sortByShare_27 (fun v4 h => ?_)
      refine ab_aloadn 0 dX1_sortByShare_28 rfl ?_
      refine f_gr (x := 5) (k2 := 3) (i2 := r0) (j2 := 10) ⟨h0, by decide⟩ rfl rfl (Nat.le_of_ble_eq_true rfl) wd_119 rfl rfl dX1_sortByShare_29 ?_
      refine ab_iloadn 1 dX1_sortByShare_32 rfl ?_
      refine fC_iald ⟨h0, by decide⟩ rfl (by decide) (fun _ => rfl) h dX1_sortByShare_33 (fun v5 h => ?_)
      refine ab_icmp_gt (tgt := 57) dX1_sortByShare_34 (by decide) (fun hc6 => ?_) (fun hc6 => ?_)
      · have h := sat_t hc6 h
        exact t_X1_sortByShare_57 N k2 (fun z2 z3 c => f_X1_sortByShare_14 N k2 r0 a1 n z2 z3 c) r0 h0 a1 a2 a3 hk2 ih C h
      · have h := sat_f hc6 h
        refine ab_aloadn 0 dX1_sortByShare_37 rfl ?_
        refine f_gr (x := 5) (k2 := 3) (i2 := r0) (j2 := 10) ⟨h0, by decide⟩ rfl rfl (Nat.le_of_ble_eq_true rfl) wd_119 rfl rfl dX1_sortByShare_38 ?_
        refine ab_iloadn 3 dX1_sortByShare_41 rfl ?_
        refine fC_iald ⟨h0, by decide⟩ rfl (by decide) (fun _ => rfl) h dX1_sortByShare_42 (fun v7 h => ?_)
        refine ab_aloadn 0 dX1_sortByShare_43 rfl ?_
        refine f_gr (x := 5) (k2 := 3) (i2 := r0) (j2 := 10) ⟨h0, by decide⟩ rfl rfl (Nat.le_of_ble_eq_true rfl) wd_119 rfl rfl dX1_sortByShare_44 ?_
        refine ab_iloadn 1 dX1_sortByShare_47 rfl ?_
        refine fC_iald ⟨h0, by decide⟩ rfl (by decide) (fun _ => rfl) h dX1_sortByShare_48 (fun v8 h => ?_)
        refine ab_icmp_ne (tgt := 60) dX1_sortByShare_49 (by decide) (fun hc9 => ?_) (fun hc9 => ?_)
        · have h := sat_f hc9 h
          refine ab_iinc (q := 3) (v := (a3 + 1)) (lv' := [(0, .ref (gA G 3 r0 6)), (1, .int a1), (2, .int a2), (3, .int (a3 + 1))]) dX1_sortByShare_60 rfl rfl rfl (Nat.le_of_ble_eq_true rfl) rfl ?_
          refine ab_goto (tgt := 14) dX1_sortByShare_63 (by decide) ?_
          exact ih a2 (a3 + 1) C h
        · have h := sat_t hc9 h
          refine ab_iloadn 3 dX1_sortByShare_52 rfl ?_
          refine ab_iloadn 1 dX1_sortByShare_53 rfl ?_
          refine ab_icmp_ge (tgt := 60) dX1_sortByShare_54 (by decide) (fun hc10 => ?_) (fun hc10 => ?_)
          · have h := sat_t hc10 h
            refine ab_iinc (q := 3) (v := (a3 + 1)) (lv' := [(0, .ref (gA G 3 r0 6)), (1, .int a1), (2, .int a2), (3, .int (a3 + 1))]) dX1_sortByShare_60 rfl rfl rfl (Nat.le_of_ble_eq_true rfl) rfl ?_
            refine ab_goto (tgt := 14) dX1_sortByShare_63 (by decide) ?_
            exact ih a2 (a3 + 1) C h
          · have h := sat_f hc10 h
            exact t_X1_sortByShare_57 N k2 (fun z2 z3 c => f_X1_sortByShare_14 N k2 r0 a1 n z2 z3 c) r0 h0 a1 a2 a3 hk2 ih C h
set_option maxRecDepth 8000 in
theorem t_X1_sortByShare_2 {l : Launch} {G : GX} {X : XM} {Q : Int32 → Mem → Prop} (N : Nat) (r0 : Nat) (h0 : r0 < 4) : ∀ (n : Nat) (a1 : Int32) (C : CM), SAT (f_X1_sortByShare_2 N r0 n a1 C) (fun v c => Q v (c, X)) → AB l G (rmD 1) 0 0 mt_X1_sortByShare (ZQ G mt_X1_sortByShare Q) 2 [(0, .ref (gA G 3 r0 6)), (1, .int a1)] [] (C, X) := by
  intro n
  induction n with
  | zero => intro a1 C h; exact h.elim
  | succ n ih =>
    intro a1 C h
    rw [f_X1_sortByShare_2] at h
    refine ab_iloadn 1 dX1_sortByShare_2 rfl ?_
    refine ab_aloadn 0 dX1_sortByShare_3 rfl ?_
    refine fC_gi (x := 0) ⟨h0, by decide⟩ rfl rfl (Nat.le_of_ble_eq_true rfl) wd_63 (by decide) rfl dX1_sortByShare_4 ?_
    refine ab_icmp_ge (tgt := 85) dX1_sortByShare_7 (by decide) (fun hc1 => ?_) (fun hc1 => ?_)
    · have h := sat_t hc1 h
      exact fC_vret h rfl dX1_sortByShare_85
    · have h := sat_f hc1 h
      refine ab_iconst (v := 0) dX1_sortByShare_10 (by decide) ?_
      refine ab_istoren (lv' := [(0, .ref (gA G 3 r0 6)), (1, .int a1), (2, .int 0)]) dX1_sortByShare_11 rfl (Nat.le_of_ble_eq_true rfl) rfl ?_
      refine ab_iconst (v := 0) dX1_sortByShare_12 (by decide) ?_
      refine ab_istoren (lv' := [(0, .ref (gA G 3 r0 6)), (1, .int a1), (2, .int 0), (3, .int 0)]) dX1_sortByShare_13 rfl (Nat.le_of_ble_eq_true rfl) rfl ?_
      exact t_X1_sortByShare_14 N (fun z1 c => f_X1_sortByShare_2 N r0 n z1 c) r0 h0 a1 ih N 0 0 C h
set_option maxRecDepth 8000 in
theorem t_X1_sortByShare_0 {l : Launch} {G : GX} {X : XM} {Q : Int32 → Mem → Prop} (N : Nat) (r0 : Nat) (h0 : r0 < 4) (C : CM) (h : SAT (f_X1_sortByShare N r0 C) (fun v c => Q v (c, X))) : AB l G (rmD 1) 0 0 mt_X1_sortByShare (ZQ G mt_X1_sortByShare Q) 0 [(0, .ref (gA G 3 r0 6))] [] (C, X) := by
  unfold f_X1_sortByShare at h
  refine ab_iconst (v := 0) dX1_sortByShare_0 (by decide) ?_
  refine ab_istoren (lv' := [(0, .ref (gA G 3 r0 6)), (1, .int 0)]) dX1_sortByShare_1 rfl (Nat.le_of_ble_eq_true rfl) rfl ?_
  exact t_X1_sortByShare_2 N r0 h0 N 0 C h
theorem ct_X1_sortByShare {l : Launch} {G : GX} {X : XM} {Q : Int32 → Mem → Prop} (N : Nat) (r0 : Nat) (h0 : r0 < 4) (C : CM) (h : SAT (f_X1_sortByShare N r0 C) (fun v c => Q v (c, X))) : CT l G 1 mt_X1_sortByShare [.ref (gA G 3 r0 6)] (C, X) Q := ct_of pn_X1 (Nat.le_of_ble_eq_true rfl) (t_X1_sortByShare_0 N r0 h0 C h)
def f_X0_read_47 (N : Nat) (r0 : Nat) (C : CM) : Option (Int32 × CM) := cal (f_X1_sortByShare N r0 C) (fun v1 C2 => (rt 0 C2))
def f_X0_read_6 (N : Nat) (r0 : Nat) : Nat → Int32 → CM → Option (Int32 × CM)
  | 0, _, _ => none
  | n + 1, a2, C => (if 900 ≤ a2 then (f_X0_read_47 N r0 C) else cal (f_X7_goesOn C) (fun v2 C3 => (if v2 = 0 then (f_X0_read_47 N r0 C3) else cal (f_X0_readLine N r0 C3) (fun v5 C6 => cal (f_X7_takeMark 59 C6) (fun v7 C8 => bnd (stC C8 3 r0 0 0 ((C8.1 3 r0 0 0) + 1)) (fun C9 => (f_X0_read_6 N r0 n (a2 + 1) C9)))))))
def f_X0_read (N : Nat) (r0 : Nat) (C : CM) : Option (Int32 × CM) := cal (f_X0_clear N r0 C) (fun v1 C2 => (f_X0_read_6 N r0 N 0 C2))
set_option maxRecDepth 8000 in
theorem t_X0_read_47 {l : Launch} {G : GX} {X : XM} {Q : Int32 → Mem → Prop} (N : Nat) (r0 : Nat) (h0 : r0 < 4) (C : CM) (h : SAT (f_X0_read_47 N r0 C) (fun v c => Q v (c, X))) : AB l G (rmD 6) 0 0 mt_X0_read (ZQ G mt_X0_read Q) 47 [(0, .ref (gA G 3 r0 0))] [] (C, X) := by
  unfold f_X0_read_47 at h
  refine ab_aloadn 0 dX0_read_47 rfl ?_
  refine f_gr (x := 10) (k2 := 3) (i2 := r0) (j2 := 6) ⟨h0, by decide⟩ rfl rfl (Nat.le_of_ble_eq_true rfl) wd_62 rfl rfl dX0_read_48 ?_
  refine fC_Vv (mtc := mt_X1_sortByShare) (As := []) h (fun Q h => ct_X1_sortByShare N r0 h0 C h) ⟨h0, by decide⟩ rfl rfl rfl mw_X1_sortByShare wd_120 rfl rfl ⟨Nat.le_of_ble_eq_true rfl, Nat.le_of_ble_eq_true rfl⟩ ⟨Nat.zero_le _, Nat.zero_le _⟩ (Nat.le_of_ble_eq_true rfl) rfl dX0_read_51 (fun v1 C2 h => ?_)
  exact fC_vret h rfl dX0_read_54
set_option maxRecDepth 8000 in
theorem t_X0_read_6 {l : Launch} {G : GX} {X : XM} {Q : Int32 → Mem → Prop} (N : Nat) (r0 : Nat) (h0 : r0 < 4) : ∀ (n : Nat) (a2 : Int32) (C : CM), SAT (f_X0_read_6 N r0 n a2 C) (fun v c => Q v (c, X)) → AB l G (rmD 6) 0 0 mt_X0_read (ZQ G mt_X0_read Q) 6 [(0, .ref (gA G 3 r0 0)), (1, .ref (gA G 1 0 0)), (2, .int a2)] [] (C, X) := by
  intro n
  induction n with
  | zero => intro a2 C h; exact h.elim
  | succ n ih =>
    intro a2 C h
    rw [f_X0_read_6] at h
    refine ab_iloadn 2 dX0_read_6 rfl ?_
    refine ab_sipush (v := 900) dX0_read_7 (by decide) ?_
    refine ab_icmp_ge (tgt := 47) dX0_read_10 (by decide) (fun hc1 => ?_) (fun hc1 => ?_)
    · have h := sat_t hc1 h
      refine ab_sub [0] rfl ?_
      exact t_X0_read_47 N r0 h0 C h
    · have h := sat_f hc1 h
      refine ab_aloadn 1 dX0_read_13 rfl ?_
      refine fC_Vi (mtc := mt_X7_goesOn) (As := []) h (fun Q h => ct_X7_goesOn C h) ⟨by decide, by decide⟩ rfl rfl rfl mw_X7_goesOn wd_75 rfl rfl ⟨Nat.le_of_ble_eq_true rfl, Nat.le_of_ble_eq_true rfl⟩ ⟨Nat.zero_le _, Nat.zero_le _⟩ (Nat.le_of_ble_eq_true rfl) rfl dX0_read_14 (fun v2 C3 h => ?_)
      refine ab_if_eq (tgt := 47) dX0_read_17 (by decide) (fun hc4 => ?_) (fun hc4 => ?_)
      · have h := sat_t hc4 h
        refine ab_sub [0] rfl ?_
        exact t_X0_read_47 N r0 h0 C3 h
      · have h := sat_f hc4 h
        refine ab_aloadn 0 dX0_read_20 rfl ?_
        refine ab_aloadn 1 dX0_read_21 rfl ?_
        refine fC_Vv (mtc := mt_X0_readLine) (As := [.ref (gA G 1 0 0)]) h (fun Q h => ct_X0_readLine N r0 h0 C3 h) ⟨h0, by decide⟩ rfl rfl rfl mw_X0_readLine wd_116 rfl rfl ⟨Nat.le_of_ble_eq_true rfl, Nat.le_of_ble_eq_true rfl⟩ ⟨Nat.zero_le _, Nat.zero_le _⟩ (Nat.le_of_ble_eq_true rfl) rfl dX0_read_22 (fun v5 C6 h => ?_)
        refine ab_aloadn 1 dX0_read_25 rfl ?_
        refine ab_bipush (v := 59) dX0_read_26 (by decide) ?_
        refine fC_Vv (mtc := mt_X7_takeMark) (As := [.int 59]) h (fun Q h => ct_X7_takeMark 59 C6 h) ⟨by decide, by decide⟩ rfl rfl rfl mw_X7_takeMark wd_117 rfl rfl ⟨Nat.le_of_ble_eq_true rfl, Nat.le_of_ble_eq_true rfl⟩ ⟨Nat.zero_le _, Nat.zero_le _⟩ (Nat.le_of_ble_eq_true rfl) rfl dX0_read_28 (fun v7 C8 h => ?_)
        refine ab_aloadn 0 dX0_read_31 rfl ?_
        refine ab_dup dX0_read_32 rfl ?_
        refine fC_gi (x := 0) ⟨h0, by decide⟩ rfl rfl (Nat.le_of_ble_eq_true rfl) wd_52 (by decide) rfl dX0_read_33 ?_
        refine ab_iconst (v := 1) dX0_read_36 (by decide) ?_
        refine ab_iadd dX0_read_37 ?_
        refine fC_pi (x := 0) (ty := .int) ⟨h0, by decide⟩ rfl rfl (Nat.le_of_ble_eq_true rfl) wd_52 (by decide) rfl h rfl (by decide +kernel) rfl rfl dX0_read_38 (fun C9 h => ?_)
        refine ab_iinc (q := 2) (v := (a2 + 1)) (lv' := [(0, .ref (gA G 3 r0 0)), (1, .ref (gA G 1 0 0)), (2, .int (a2 + 1))]) dX0_read_41 rfl rfl rfl (Nat.le_of_ble_eq_true rfl) rfl ?_
        refine ab_goto (tgt := 6) dX0_read_44 (by decide) ?_
        exact ih (a2 + 1) C9 h
set_option maxRecDepth 8000 in
theorem t_X0_read_0 {l : Launch} {G : GX} {X : XM} {Q : Int32 → Mem → Prop} (N : Nat) (r0 : Nat) (h0 : r0 < 4) (C : CM) (h : SAT (f_X0_read N r0 C) (fun v c => Q v (c, X))) : AB l G (rmD 6) 0 0 mt_X0_read (ZQ G mt_X0_read Q) 0 [(0, .ref (gA G 3 r0 0)), (1, .ref (gA G 1 0 0))] [] (C, X) := by
  unfold f_X0_read at h
  refine ab_aloadn 0 dX0_read_0 rfl ?_
  refine fC_Vv (mtc := mt_X0_clear) (As := []) h (fun Q h => ct_X0_clear N r0 h0 C h) ⟨h0, by decide⟩ rfl rfl rfl mw_X0_clear wd_74 rfl rfl ⟨Nat.le_of_ble_eq_true rfl, Nat.le_of_ble_eq_true rfl⟩ ⟨Nat.zero_le _, Nat.zero_le _⟩ (Nat.le_of_ble_eq_true rfl) rfl dX0_read_1 (fun v1 C2 h => ?_)
  refine ab_iconst (v := 0) dX0_read_4 (by decide) ?_
  refine ab_istoren (lv' := [(0, .ref (gA G 3 r0 0)), (1, .ref (gA G 1 0 0)), (2, .int 0)]) dX0_read_5 rfl (Nat.le_of_ble_eq_true rfl) rfl ?_
  exact t_X0_read_6 N r0 h0 N 0 C2 h
theorem ct_X0_read {l : Launch} {G : GX} {X : XM} {Q : Int32 → Mem → Prop} (N : Nat) (r0 : Nat) (h0 : r0 < 4) (C : CM) (h : SAT (f_X0_read N r0 C) (fun v c => Q v (c, X))) : CT l G 6 mt_X0_read [.ref (gA G 3 r0 0), .ref (gA G 1 0 0)] (C, X) Q := ct_of pn_X0 (Nat.le_of_ble_eq_true rfl) (t_X0_read_0 N r0 h0 C h)
def f_X6_begin_42 (N : Nat) (r0 : Nat) (r1 : Nat) : Nat → Int32 → CM → Option (Int32 × CM)
  | 0, _, _ => none
  | n + 1, a2, C => (if 8 ≤ a2 then bnd (rwC C 4 r0 8 (C.1 3 r1 1)) (fun C2 => (rt 0 C2)) else ldA (C.1 3 r1 9) 8 a2 (fun v3 => stA C 4 r0 1 8 a2 v3 (fun C4 => stA C4 4 r0 2 8 a2 0 (fun C5 => ldA (C5.1 3 r1 11) 8 a2 (fun v6 => stA C5 4 r0 3 8 a2 v6 (fun C7 => ldA (C7.1 3 r1 12) 8 a2 (fun v8 => stA C7 4 r0 4 8 a2 v8 (fun C9 => stA C9 4 r0 5 8 a2 0 (fun C10 => stA C10 4 r0 6 8 a2 0 (fun C11 => stA C11 4 r0 7 8 a2 0 (fun C12 => (f_X6_begin_42 N r0 r1 n (a2 + 1) C12))))))))))))
def f_X6_begin (N : Nat) (r0 : Nat) (r1 : Nat) (C : CM) : Option (Int32 × CM) := bnd (stC C 4 r0 0 0 0) (fun C1 => bnd (stC C1 4 r0 0 1 0) (fun C2 => bnd (stC C2 4 r0 0 2 (C2.1 3 r1 0 4)) (fun C3 => bnd (stC C3 4 r0 0 3 (((1 : Int32) <<< ((C3.1 3 r1 0 3) &&& 31)) - 1)) (fun C4 => bnd (stC C4 4 r0 0 4 (-1)) (fun C5 => bnd (stC C5 4 r0 0 5 0) (fun C6 => (f_X6_begin_42 N r0 r1 N 0 C6)))))))
set_option maxRecDepth 8000 in
theorem t_X6_begin_42 {l : Launch} {G : GX} {X : XM} {Q : Int32 → Mem → Prop} (N : Nat) (r0 : Nat) (h0 : r0 < 12) (r1 : Nat) (h1 : r1 < 4) : ∀ (n : Nat) (a2 : Int32) (C : CM), SAT (f_X6_begin_42 N r0 r1 n a2 C) (fun v c => Q v (c, X)) → AB l G (rmD 1) 0 0 mt_X6_begin (ZQ G mt_X6_begin Q) 42 [(0, .ref (gA G 4 r0 0)), (1, .ref (gA G 3 r1 0)), (2, .int a2)] [] (C, X) := by
  intro n
  induction n with
  | zero => intro a2 C h; exact h.elim
  | succ n ih =>
    intro a2 C h
    rw [f_X6_begin_42] at h
    refine ab_iloadn 2 dX6_begin_42 rfl ?_
    refine ab_bipush (v := 8) dX6_begin_43 (by decide) ?_
    refine ab_icmp_ge (tgt := 127) dX6_begin_45 (by decide) (fun hc1 => ?_) (fun hc1 => ?_)
    · have h := sat_t hc1 h
      refine ab_aloadn 1 dX6_begin_127 rfl ?_
      refine f_gr (x := 11) (k2 := 3) (i2 := r1) (j2 := 1) ⟨h1, by decide⟩ rfl rfl (Nat.le_of_ble_eq_true rfl) wd_135 rfl rfl dX6_begin_128 ?_
      refine ab_iconst (v := 0) dX6_begin_131 (by decide) ?_
      refine ab_aloadn 0 dX6_begin_132 rfl ?_
      refine f_gr (x := 13) (k2 := 4) (i2 := r0) (j2 := 8) ⟨h0, by decide⟩ rfl rfl (Nat.le_of_ble_eq_true rfl) wd_136 rfl rfl dX6_begin_133 ?_
      refine ab_iconst (v := 0) dX6_begin_136 (by decide) ?_
      refine ab_bipush (v := 100) dX6_begin_137 (by decide) ?_
      refine fC_copy (n := 100) h ⟨h1, by decide⟩ ⟨h0, by decide⟩ rfl rfl (by decide) (by decide) (fun _ => rfl) (fun _ => rfl) (by decide) (by decide) wd_137 wd_138 wd_139 wd_140 ⟨Nat.le_of_ble_eq_true rfl, Nat.le_of_ble_eq_true rfl⟩ dX6_begin_139 (fun C2 h => ?_)
      exact fC_vret h rfl dX6_begin_142
    · have h := sat_f hc1 h
      refine ab_aloadn 0 dX6_begin_48 rfl ?_
      refine f_gr (x := 6) (k2 := 4) (i2 := r0) (j2 := 1) ⟨h0, by decide⟩ rfl rfl (Nat.le_of_ble_eq_true rfl) wd_141 rfl rfl dX6_begin_49 ?_
      refine ab_iloadn 2 dX6_begin_52 rfl ?_
      refine ab_aloadn 1 dX6_begin_53 rfl ?_
      refine f_gr (x := 10) (k2 := 3) (i2 := r1) (j2 := 6) ⟨h1, by decide⟩ rfl rfl (Nat.le_of_ble_eq_true rfl) wd_142 rfl rfl dX6_begin_54 ?_
      refine f_gr (x := 4) (k2 := 3) (i2 := r1) (j2 := 9) ⟨h1, by decide⟩ rfl rfl (Nat.le_of_ble_eq_true rfl) wd_143 rfl rfl dX6_begin_57 ?_
      refine ab_iloadn 2 dX6_begin_60 rfl ?_
      refine fC_iald ⟨h1, by decide⟩ rfl (by decide) (fun _ => rfl) h dX6_begin_61 (fun v3 h => ?_)
      refine fC_iast ⟨h0, by decide⟩ rfl (by decide) (fun _ => rfl) h dX6_begin_62 (fun C4 h => ?_)
      refine ab_aloadn 0 dX6_begin_63 rfl ?_
      refine f_gr (x := 7) (k2 := 4) (i2 := r0) (j2 := 2) ⟨h0, by decide⟩ rfl rfl (Nat.le_of_ble_eq_true rfl) wd_144 rfl rfl dX6_begin_64 ?_
      refine ab_iloadn 2 dX6_begin_67 rfl ?_
      refine ab_iconst (v := 0) dX6_begin_68 (by decide) ?_
      refine fC_iast ⟨h0, by decide⟩ rfl (by decide) (fun _ => rfl) h dX6_begin_69 (fun C5 h => ?_)
      refine ab_aloadn 0 dX6_begin_70 rfl ?_
      refine f_gr (x := 8) (k2 := 4) (i2 := r0) (j2 := 3) ⟨h0, by decide⟩ rfl rfl (Nat.le_of_ble_eq_true rfl) wd_145 rfl rfl dX6_begin_71 ?_
      refine ab_iloadn 2 dX6_begin_74 rfl ?_
      refine ab_aloadn 1 dX6_begin_75 rfl ?_
      refine f_gr (x := 10) (k2 := 3) (i2 := r1) (j2 := 6) ⟨h1, by decide⟩ rfl rfl (Nat.le_of_ble_eq_true rfl) wd_142 rfl rfl dX6_begin_76 ?_
      refine f_gr (x := 6) (k2 := 3) (i2 := r1) (j2 := 11) ⟨h1, by decide⟩ rfl rfl (Nat.le_of_ble_eq_true rfl) wd_146 rfl rfl dX6_begin_79 ?_
      refine ab_iloadn 2 dX6_begin_82 rfl ?_
      refine fC_iald ⟨h1, by decide⟩ rfl (by decide) (fun _ => rfl) h dX6_begin_83 (fun v6 h => ?_)
      refine fC_iast ⟨h0, by decide⟩ rfl (by decide) (fun _ => rfl) h dX6_begin_84 (fun C7 h => ?_)
      refine ab_aloadn 0 dX6_begin_85 rfl ?_
      refine f_gr (x := 9) (k2 := 4) (i2 := r0) (j2 := 4) ⟨h0, by decide⟩ rfl rfl (Nat.le_of_ble_eq_true rfl) wd_147 rfl rfl dX6_begin_86 ?_
      refine ab_iloadn 2 dX6_begin_89 rfl ?_
      refine ab_aloadn 1 dX6_begin_90 rfl ?_
      refine f_gr (x := 10) (k2 := 3) (i2 := r1) (j2 := 6) ⟨h1, by decide⟩ rfl rfl (Nat.le_of_ble_eq_true rfl) wd_142 rfl rfl dX6_begin_91 ?_
      refine f_gr (x := 7) (k2 := 3) (i2 := r1) (j2 := 12) ⟨h1, by decide⟩ rfl rfl (Nat.le_of_ble_eq_true rfl) wd_148 rfl rfl dX6_begin_94 ?_
      refine ab_iloadn 2 dX6_begin_97 rfl ?_
      refine fC_iald ⟨h1, by decide⟩ rfl (by decide) (fun _ => rfl) h dX6_begin_98 (fun v8 h => ?_)
      refine fC_iast ⟨h0, by decide⟩ rfl (by decide) (fun _ => rfl) h dX6_begin_99 (fun C9 h => ?_)
      refine ab_aloadn 0 dX6_begin_100 rfl ?_
      refine f_gr (x := 10) (k2 := 4) (i2 := r0) (j2 := 5) ⟨h0, by decide⟩ rfl rfl (Nat.le_of_ble_eq_true rfl) wd_149 rfl rfl dX6_begin_101 ?_
      refine ab_iloadn 2 dX6_begin_104 rfl ?_
      refine ab_iconst (v := 0) dX6_begin_105 (by decide) ?_
      refine fC_iast ⟨h0, by decide⟩ rfl (by decide) (fun _ => rfl) h dX6_begin_106 (fun C10 h => ?_)
      refine ab_aloadn 0 dX6_begin_107 rfl ?_
      refine f_gr (x := 11) (k2 := 4) (i2 := r0) (j2 := 6) ⟨h0, by decide⟩ rfl rfl (Nat.le_of_ble_eq_true rfl) wd_150 rfl rfl dX6_begin_108 ?_
      refine ab_iloadn 2 dX6_begin_111 rfl ?_
      refine ab_iconst (v := 0) dX6_begin_112 (by decide) ?_
      refine fC_iast ⟨h0, by decide⟩ rfl (by decide) (fun _ => rfl) h dX6_begin_113 (fun C11 h => ?_)
      refine ab_aloadn 0 dX6_begin_114 rfl ?_
      refine f_gr (x := 12) (k2 := 4) (i2 := r0) (j2 := 7) ⟨h0, by decide⟩ rfl rfl (Nat.le_of_ble_eq_true rfl) wd_151 rfl rfl dX6_begin_115 ?_
      refine ab_iloadn 2 dX6_begin_118 rfl ?_
      refine ab_iconst (v := 0) dX6_begin_119 (by decide) ?_
      refine fC_iast ⟨h0, by decide⟩ rfl (by decide) (fun _ => rfl) h dX6_begin_120 (fun C12 h => ?_)
      refine ab_iinc (q := 2) (v := (a2 + 1)) (lv' := [(0, .ref (gA G 4 r0 0)), (1, .ref (gA G 3 r1 0)), (2, .int (a2 + 1))]) dX6_begin_121 rfl rfl rfl (Nat.le_of_ble_eq_true rfl) rfl ?_
      refine ab_goto (tgt := 42) dX6_begin_124 (by decide) ?_
      exact ih (a2 + 1) C12 h
set_option maxRecDepth 8000 in
theorem t_X6_begin_0 {l : Launch} {G : GX} {X : XM} {Q : Int32 → Mem → Prop} (N : Nat) (r0 : Nat) (h0 : r0 < 12) (r1 : Nat) (h1 : r1 < 4) (C : CM) (h : SAT (f_X6_begin N r0 r1 C) (fun v c => Q v (c, X))) : AB l G (rmD 1) 0 0 mt_X6_begin (ZQ G mt_X6_begin Q) 0 [(0, .ref (gA G 4 r0 0)), (1, .ref (gA G 3 r1 0))] [] (C, X) := by
  unfold f_X6_begin at h
  refine ab_aloadn 0 dX6_begin_0 rfl ?_
  refine ab_iconst (v := 0) dX6_begin_1 (by decide) ?_
  refine fC_pi (x := 0) (ty := .int) ⟨h0, by decide⟩ rfl rfl (Nat.le_of_ble_eq_true rfl) wd_127 (by decide) rfl h rfl (by decide +kernel) rfl rfl dX6_begin_2 (fun C1 h => ?_)
  refine ab_aloadn 0 dX6_begin_5 rfl ?_
  refine ab_iconst (v := 0) dX6_begin_6 (by decide) ?_
  refine fC_pi (x := 1) (ty := .int) ⟨h0, by decide⟩ rfl rfl (Nat.le_of_ble_eq_true rfl) wd_128 (by decide) rfl h rfl (by decide +kernel) rfl rfl dX6_begin_7 (fun C2 h => ?_)
  refine ab_aloadn 0 dX6_begin_10 rfl ?_
  refine ab_aloadn 1 dX6_begin_11 rfl ?_
  refine fC_gi (x := 4) ⟨h1, by decide⟩ rfl rfl (Nat.le_of_ble_eq_true rfl) wd_129 (by decide) rfl dX6_begin_12 ?_
  refine fC_pi (x := 2) (ty := .int) ⟨h0, by decide⟩ rfl rfl (Nat.le_of_ble_eq_true rfl) wd_130 (by decide) rfl h rfl (by decide +kernel) rfl rfl dX6_begin_15 (fun C3 h => ?_)
  refine ab_aloadn 0 dX6_begin_18 rfl ?_
  refine ab_iconst (v := 1) dX6_begin_19 (by decide) ?_
  refine ab_aloadn 1 dX6_begin_20 rfl ?_
  refine fC_gi (x := 3) ⟨h1, by decide⟩ rfl rfl (Nat.le_of_ble_eq_true rfl) wd_131 (by decide) rfl dX6_begin_21 ?_
  refine ab_ishl dX6_begin_24 ?_
  refine ab_iconst (v := 1) dX6_begin_25 (by decide) ?_
  refine ab_isub dX6_begin_26 ?_
  refine fC_pi (x := 3) (ty := .int) ⟨h0, by decide⟩ rfl rfl (Nat.le_of_ble_eq_true rfl) wd_132 (by decide) rfl h rfl (by decide +kernel) rfl rfl dX6_begin_27 (fun C4 h => ?_)
  refine ab_aloadn 0 dX6_begin_30 rfl ?_
  refine ab_iconst (v := (-1)) dX6_begin_31 (by decide) ?_
  refine fC_pi (x := 4) (ty := .int) ⟨h0, by decide⟩ rfl rfl (Nat.le_of_ble_eq_true rfl) wd_133 (by decide) rfl h rfl (by decide +kernel) rfl rfl dX6_begin_32 (fun C5 h => ?_)
  refine ab_aloadn 0 dX6_begin_35 rfl ?_
  refine ab_iconst (v := 0) dX6_begin_36 (by decide) ?_
  refine fC_pi (x := 5) (ty := .int) ⟨h0, by decide⟩ rfl rfl (Nat.le_of_ble_eq_true rfl) wd_134 (by decide) rfl h rfl (by decide +kernel) rfl rfl dX6_begin_37 (fun C6 h => ?_)
  refine ab_iconst (v := 0) dX6_begin_40 (by decide) ?_
  refine ab_istoren (lv' := [(0, .ref (gA G 4 r0 0)), (1, .ref (gA G 3 r1 0)), (2, .int 0)]) dX6_begin_41 rfl (Nat.le_of_ble_eq_true rfl) rfl ?_
  exact t_X6_begin_42 N r0 h0 r1 h1 N 0 C6 h
theorem ct_X6_begin {l : Launch} {G : GX} {X : XM} {Q : Int32 → Mem → Prop} (N : Nat) (r0 : Nat) (h0 : r0 < 12) (r1 : Nat) (h1 : r1 < 4) (C : CM) (h : SAT (f_X6_begin N r0 r1 C) (fun v c => Q v (c, X))) : CT l G 1 mt_X6_begin [.ref (gA G 4 r0 0), .ref (gA G 3 r1 0)] (C, X) Q := ct_of pn_X6 (Nat.le_of_ble_eq_true rfl) (t_X6_begin_0 N r0 h0 r1 h1 C h)
def f_X2_forget (C : CM) : Option (Int32 × CM) := bnd (stC C 7 0 0 2 0) (fun C1 => (rt 0 C1))
set_option maxRecDepth 8000 in
theorem t_X2_forget_0 {l : Launch} {G : GX} {X : XM} {Q : Int32 → Mem → Prop} (C : CM) (h : SAT (f_X2_forget C) (fun v c => Q v (c, X))) : AB l G (rmD 1) 0 0 mt_X2_forget (ZQ G mt_X2_forget Q) 0 [(0, .ref (gA G 7 0 0))] [] (C, X) := by
  unfold f_X2_forget at h
  refine ab_aloadn 0 dX2_forget_0 rfl ?_
  refine ab_iconst (v := 0) dX2_forget_1 (by decide) ?_
  refine fC_pi (x := 2) (ty := .int) ⟨by decide, by decide⟩ rfl rfl (Nat.le_of_ble_eq_true rfl) wd_158 (by decide) rfl h rfl (by decide +kernel) rfl rfl dX2_forget_2 (fun C1 h => ?_)
  exact fC_vret h rfl dX2_forget_5
theorem ct_X2_forget {l : Launch} {G : GX} {X : XM} {Q : Int32 → Mem → Prop} (C : CM) (h : SAT (f_X2_forget C) (fun v c => Q v (c, X))) : CT l G 1 mt_X2_forget [.ref (gA G 7 0 0)] (C, X) Q := ct_of pn_X2 (Nat.le_of_ble_eq_true rfl) (t_X2_forget_0 C h)
def f_X10_bank (N : Nat) (C : CM) : Option (Int32 × CM) := cal (f_X10_splitTape N 900 C) (fun v1 C2 => ldR (C2.2 0 0 6) 4 (fun y3 => cal (f_X0_read N y3 C2) (fun v5 C6 => bnd (stC C6 0 0 0 3 (C6.1 1 0 0 5)) (fun C7 => (if (C7.1 0 0 0 3) = 0 then ldR (C7.2 2 0 1) 4 (fun y9 => ldR (C7.2 0 0 6) 4 (fun y11 => bnd (rfC C7 2 0 1 y11) (fun C13 => bnd (rfC C13 0 0 6 y9) (fun C14 => ldR (C14.2 2 0 1) 4 (fun y15 => cal (f_X6_begin N 0 y15 C14) (fun v17 C18 => ldR (C18.2 2 0 3) 4 (fun y19 => bnd (stC C18 5 y19 0 0 0) (fun C21 => ldR (C21.2 2 0 4) 4 (fun y22 => bnd (stC C21 6 y22 0 0 0) (fun C24 => cal (f_X2_forget C24) (fun v25 C26 => bnd (stC C26 9 0 0 0 0) (fun C27 => ldR (C27.2 2 0 1) 4 (fun y28 => (rt (C27.1 3 y28 0 0) C27)))))))))))))) else (rt ((-1) - (C7.1 1 0 0 6)) C7))))))
set_option maxRecDepth 8000 in
theorem t_X10_bank_0 {l : Launch} {G : GX} {X : XM} {Q : Int32 → Mem → Prop} (N : Nat) (C : CM) (h : SAT (f_X10_bank N C) (fun v c => Q v (c, X))) : AB l G (rmD 9) 0 0 mt_X10_bank (ZQ G mt_X10_bank Q) 0 [(0, .ref (gA G 0 0 0))] [] (C, X) := by
  unfold f_X10_bank at h
  refine ab_aloadn 0 dX10_bank_0 rfl ?_
  refine ab_sipush (v := 900) dX10_bank_1 (by decide) ?_
  refine fC_Vv (mtc := mt_X10_splitTape) (As := [.int 900]) h (fun Q h => ct_X10_splitTape N 900 C h) ⟨by decide, by decide⟩ rfl rfl rfl mw_X10_splitTape wd_50 rfl rfl ⟨Nat.le_of_ble_eq_true rfl, Nat.le_of_ble_eq_true rfl⟩ ⟨Nat.zero_le _, Nat.zero_le _⟩ (Nat.le_of_ble_eq_true rfl) rfl dX10_bank_4 (fun v1 C2 h => ?_)
  refine ab_aloadn 0 dX10_bank_7 rfl ?_
  refine fC_gd (x := 6) ⟨by decide, by decide⟩ rfl rfl (Nat.le_of_ble_eq_true rfl) wd_51 rfl h rfl dX10_bank_8 (fun y3 hy4 h => ?_)
  refine ab_aloadn 0 dX10_bank_11 rfl ?_
  refine f_gr (x := 2) (k2 := 1) (i2 := 0) (j2 := 0) ⟨by decide, by decide⟩ rfl rfl (Nat.le_of_ble_eq_true rfl) wd_33 rfl rfl dX10_bank_12 ?_
  refine fC_Vv (mtc := mt_X0_read) (As := [.ref (gA G 1 0 0)]) h (fun Q h => ct_X0_read N y3 hy4 C2 h) ⟨hy4, by decide⟩ rfl rfl rfl mw_X0_read wd_121 rfl rfl ⟨Nat.le_of_ble_eq_true rfl, Nat.le_of_ble_eq_true rfl⟩ ⟨Nat.zero_le _, Nat.zero_le _⟩ (Nat.le_of_ble_eq_true rfl) rfl dX10_bank_15 (fun v5 C6 h => ?_)
  refine ab_aloadn 0 dX10_bank_18 rfl ?_
  refine ab_aloadn 0 dX10_bank_19 rfl ?_
  refine f_gr (x := 2) (k2 := 1) (i2 := 0) (j2 := 0) ⟨by decide, by decide⟩ rfl rfl (Nat.le_of_ble_eq_true rfl) wd_33 rfl rfl dX10_bank_20 ?_
  refine fC_gi (x := 5) ⟨by decide, by decide⟩ rfl rfl (Nat.le_of_ble_eq_true rfl) wd_122 (by decide) rfl dX10_bank_23 ?_
  refine fC_pi (x := 3) (ty := .int) ⟨by decide, by decide⟩ rfl rfl (Nat.le_of_ble_eq_true rfl) wd_123 (by decide) rfl h rfl (by decide +kernel) rfl rfl dX10_bank_26 (fun C7 h => ?_)
  refine ab_aloadn 0 dX10_bank_29 rfl ?_
  refine fC_gi (x := 3) ⟨by decide, by decide⟩ rfl rfl (Nat.le_of_ble_eq_true rfl) wd_123 (by decide) rfl dX10_bank_30 ?_
  refine ab_if_eq (tgt := 46) dX10_bank_33 (by decide) (fun hc8 => ?_) (fun hc8 => ?_)
  · have h := sat_t hc8 h
    refine ab_aloadn 0 dX10_bank_46 rfl ?_
    refine f_gr (x := 4) (k2 := 2) (i2 := 0) (j2 := 0) ⟨by decide, by decide⟩ rfl rfl (Nat.le_of_ble_eq_true rfl) wd_124 rfl rfl dX10_bank_47 ?_
    refine fC_gd (x := 1) ⟨by decide, by decide⟩ rfl rfl (Nat.le_of_ble_eq_true rfl) wd_125 rfl h rfl dX10_bank_50 (fun y9 hy10 h => ?_)
    refine ab_astoren (lv' := [(0, .ref (gA G 0 0 0)), (1, .ref (gA G 3 y9 0))]) dX10_bank_53 rfl (Nat.le_of_ble_eq_true rfl) rfl ?_
    refine ab_aloadn 0 dX10_bank_54 rfl ?_
    refine f_gr (x := 4) (k2 := 2) (i2 := 0) (j2 := 0) ⟨by decide, by decide⟩ rfl rfl (Nat.le_of_ble_eq_true rfl) wd_124 rfl rfl dX10_bank_55 ?_
    refine ab_aloadn 0 dX10_bank_58 rfl ?_
    refine fC_gd (x := 6) ⟨by decide, by decide⟩ rfl rfl (Nat.le_of_ble_eq_true rfl) wd_51 rfl h rfl dX10_bank_59 (fun y11 hy12 h => ?_)
    refine fC_pr (x := 1) (y := y11) (ty := .object "GaleBank$Bank") ⟨by decide, by decide⟩ rfl rfl (Nat.le_of_ble_eq_true rfl) wd_125 rfl h rfl (by decide +kernel) rfl rfl dX10_bank_62 (fun C13 h => ?_)
    refine ab_aloadn 0 dX10_bank_65 rfl ?_
    refine ab_aloadn 1 dX10_bank_66 rfl ?_
    refine fC_pr (x := 6) (y := y9) (ty := .object "GaleBank$Bank") ⟨by decide, by decide⟩ rfl rfl (Nat.le_of_ble_eq_true rfl) wd_51 rfl h rfl (by decide +kernel) rfl rfl dX10_bank_67 (fun C14 h => ?_)
    refine ab_aloadn 0 dX10_bank_70 rfl ?_
    refine f_gr (x := 4) (k2 := 2) (i2 := 0) (j2 := 0) ⟨by decide, by decide⟩ rfl rfl (Nat.le_of_ble_eq_true rfl) wd_124 rfl rfl dX10_bank_71 ?_
    refine f_gr (x := 2) (k2 := 4) (i2 := 0) (j2 := 0) ⟨by decide, by decide⟩ rfl rfl (Nat.le_of_ble_eq_true rfl) wd_126 rfl rfl dX10_bank_74 ?_
    refine ab_aloadn 0 dX10_bank_77 rfl ?_
    refine f_gr (x := 4) (k2 := 2) (i2 := 0) (j2 := 0) ⟨by decide, by decide⟩ rfl rfl (Nat.le_of_ble_eq_true rfl) wd_124 rfl rfl dX10_bank_78 ?_
    refine fC_gd (x := 1) ⟨by decide, by decide⟩ rfl rfl (Nat.le_of_ble_eq_true rfl) wd_125 rfl h rfl dX10_bank_81 (fun y15 hy16 h => ?_)
    refine fC_Vv (mtc := mt_X6_begin) (As := [.ref (gA G 3 y15 0)]) h (fun Q h => ct_X6_begin N 0 (by decide) y15 hy16 C14 h) ⟨by decide, by decide⟩ rfl rfl rfl mw_X6_begin wd_152 rfl rfl ⟨Nat.le_of_ble_eq_true rfl, Nat.le_of_ble_eq_true rfl⟩ ⟨Nat.zero_le _, Nat.zero_le _⟩ (Nat.le_of_ble_eq_true rfl) rfl dX10_bank_84 (fun v17 C18 h => ?_)
    refine ab_aloadn 0 dX10_bank_87 rfl ?_
    refine f_gr (x := 4) (k2 := 2) (i2 := 0) (j2 := 0) ⟨by decide, by decide⟩ rfl rfl (Nat.le_of_ble_eq_true rfl) wd_124 rfl rfl dX10_bank_88 ?_
    refine fC_gd (x := 3) ⟨by decide, by decide⟩ rfl rfl (Nat.le_of_ble_eq_true rfl) wd_153 rfl h rfl dX10_bank_91 (fun y19 hy20 h => ?_)
    refine ab_iconst (v := 0) dX10_bank_94 (by decide) ?_
    refine fC_pi (x := 0) (ty := .int) ⟨hy20, by decide⟩ rfl rfl (Nat.le_of_ble_eq_true rfl) wd_154 (by decide) rfl h rfl (by decide +kernel) rfl rfl dX10_bank_95 (fun C21 h => ?_)
    refine ab_aloadn 0 dX10_bank_98 rfl ?_
    refine f_gr (x := 4) (k2 := 2) (i2 := 0) (j2 := 0) ⟨by decide, by decide⟩ rfl rfl (Nat.le_of_ble_eq_true rfl) wd_124 rfl rfl dX10_bank_99 ?_
    refine fC_gd (x := 4) ⟨by decide, by decide⟩ rfl rfl (Nat.le_of_ble_eq_true rfl) wd_155 rfl h rfl dX10_bank_102 (fun y22 hy23 h => ?_)
    refine ab_iconst (v := 0) dX10_bank_105 (by decide) ?_
    refine fC_pi (x := 0) (ty := .int) ⟨hy23, by decide⟩ rfl rfl (Nat.le_of_ble_eq_true rfl) wd_156 (by decide) rfl h rfl (by decide +kernel) rfl rfl dX10_bank_106 (fun C24 h => ?_)
    refine ab_aloadn 0 dX10_bank_109 rfl ?_
    refine f_gr (x := 9) (k2 := 7) (i2 := 0) (j2 := 0) ⟨by decide, by decide⟩ rfl rfl (Nat.le_of_ble_eq_true rfl) wd_157 rfl rfl dX10_bank_110 ?_
    refine fC_Vv (mtc := mt_X2_forget) (As := []) h (fun Q h => ct_X2_forget C24 h) ⟨by decide, by decide⟩ rfl rfl rfl mw_X2_forget wd_159 rfl rfl ⟨Nat.le_of_ble_eq_true rfl, Nat.le_of_ble_eq_true rfl⟩ ⟨Nat.zero_le _, Nat.zero_le _⟩ (Nat.le_of_ble_eq_true rfl) rfl dX10_bank_113 (fun v25 C26 h => ?_)
    refine ab_aloadn 0 dX10_bank_116 rfl ?_
    refine f_gr (x := 11) (k2 := 9) (i2 := 0) (j2 := 0) ⟨by decide, by decide⟩ rfl rfl (Nat.le_of_ble_eq_true rfl) wd_160 rfl rfl dX10_bank_117 ?_
    refine ab_iconst (v := 0) dX10_bank_120 (by decide) ?_
    refine fC_pi (x := 0) (ty := .boolean) ⟨by decide, by decide⟩ rfl rfl (Nat.le_of_ble_eq_true rfl) wd_161 (by decide) rfl h rfl (by decide +kernel) rfl rfl dX10_bank_121 (fun C27 h => ?_)
    refine ab_aloadn 0 dX10_bank_124 rfl ?_
    refine f_gr (x := 4) (k2 := 2) (i2 := 0) (j2 := 0) ⟨by decide, by decide⟩ rfl rfl (Nat.le_of_ble_eq_true rfl) wd_124 rfl rfl dX10_bank_125 ?_
    refine fC_gd (x := 1) ⟨by decide, by decide⟩ rfl rfl (Nat.le_of_ble_eq_true rfl) wd_125 rfl h rfl dX10_bank_128 (fun y28 hy29 h => ?_)
    refine fC_gi (x := 0) ⟨hy29, by decide⟩ rfl rfl (Nat.le_of_ble_eq_true rfl) wd_162 (by decide) rfl dX10_bank_131 ?_
    exact fC_iret h rfl rfl dX10_bank_134
  · have h := sat_f hc8 h
    refine ab_iconst (v := (-1)) dX10_bank_36 (by decide) ?_
    refine ab_aloadn 0 dX10_bank_37 rfl ?_
    refine f_gr (x := 2) (k2 := 1) (i2 := 0) (j2 := 0) ⟨by decide, by decide⟩ rfl rfl (Nat.le_of_ble_eq_true rfl) wd_33 rfl rfl dX10_bank_38 ?_
    refine fC_gi (x := 6) ⟨by decide, by decide⟩ rfl rfl (Nat.le_of_ble_eq_true rfl) wd_163 (by decide) rfl dX10_bank_41 ?_
    refine ab_isub dX10_bank_44 ?_
    exact fC_iret h rfl rfl dX10_bank_45
theorem ct_X10_bank {l : Launch} {G : GX} {X : XM} {Q : Int32 → Mem → Prop} (N : Nat) (C : CM) (h : SAT (f_X10_bank N C) (fun v c => Q v (c, X))) : CT l G 9 mt_X10_bank [.ref (gA G 0 0 0)] (C, X) Q := ct_of pn_X10 (Nat.le_of_ble_eq_true rfl) (t_X10_bank_0 N C h)
def f_X3_readLine (N : Nat) (r0 : Nat) (r2 : Nat) (a3 : Int32) (C : CM) : Option (Int32 × CM) := cal (f_X7_isSound C) (fun v1 C2 => (if v1 = 0 then (rt 0 C2) else (if (C2.1 5 r0 0 0) < 30 then stA C2 5 r0 1 30 (C2.1 5 r0 0 0) a3 (fun C5 => stA C5 5 r0 3 30 (C5.1 5 r0 0 0) 0 (fun C6 => (if a3 = 10 then cal (f_X0_takeCell r2 C6) (fun v8 C9 => stA C9 5 r0 2 30 (C6.1 5 r0 0 0) v8 (fun C10 => (rt 0 C10))) else if a3 = 11 then cal (f_X7_takeNumber 0 999 C6) (fun v12 C13 => stA C13 5 r0 2 30 (C6.1 5 r0 0 0) v12 (fun C14 => (rt 0 C14))) else if a3 = 12 then cal (f_X1_take N r2 C6) (fun v16 C17 => stA C17 5 r0 2 30 (C6.1 5 r0 0 0) v16 (fun C18 => (rt 0 C18))) else if a3 = 13 then cal (f_X1_take N r2 C6) (fun v20 C21 => stA C21 5 r0 2 30 (C6.1 5 r0 0 0) v20 (fun C22 => cal (f_X7_takeNumber 0 7 C22) (fun v23 C24 => stA C24 5 r0 3 30 (C22.1 5 r0 0 0) v23 (fun C25 => (rt 0 C25))))) else cal (f_X7_takeNumber 1 48 C6) (fun v26 C27 => stA C27 5 r0 2 30 (C6.1 5 r0 0 0) v26 (fun C28 => (rt 0 C28)))))) else (rt 0 C2))))
set_option maxRecDepth 8000 in
theorem t_X3_readLine_0 {l : Launch} {G : GX} {X : XM} {Q : Int32 → Mem → Prop} (N : Nat) (r0 : Nat) (h0 : r0 < 4) (r2 : Nat) (h2 : r2 < 4) (a3 : Int32) (C : CM) (h : SAT (f_X3_readLine N r0 r2 a3 C) (fun v c => Q v (c, X))) : AB l G (rmD 4) 0 0 mt_X3_readLine (ZQ G mt_X3_readLine Q) 0 [(0, .ref (gA G 5 r0 0)), (1, .ref (gA G 1 0 0)), (2, .ref (gA G 3 r2 0)), (3, .int a3)] [] (C, X) := by
  unfold f_X3_readLine at h
  refine ab_aloadn 1 dX3_readLine_0 rfl ?_
  refine fC_Vi (mtc := mt_X7_isSound) (As := []) h (fun Q h => ct_X7_isSound C h) ⟨by decide, by decide⟩ rfl rfl rfl mw_X7_isSound wd_169 rfl rfl ⟨Nat.le_of_ble_eq_true rfl, Nat.le_of_ble_eq_true rfl⟩ ⟨Nat.zero_le _, Nat.zero_le _⟩ (Nat.le_of_ble_eq_true rfl) rfl dX3_readLine_1 (fun v1 C2 h => ?_)
  refine ab_if_eq (tgt := 16) dX3_readLine_4 (by decide) (fun hc3 => ?_) (fun hc3 => ?_)
  · have h := sat_t hc3 h
    exact fC_vret h rfl dX3_readLine_16
  · have h := sat_f hc3 h
    refine ab_aloadn 0 dX3_readLine_7 rfl ?_
    refine fC_gi (x := 0) ⟨h0, by decide⟩ rfl rfl (Nat.le_of_ble_eq_true rfl) wd_165 (by decide) rfl dX3_readLine_8 ?_
    refine ab_bipush (v := 30) dX3_readLine_11 (by decide) ?_
    refine ab_icmp_lt (tgt := 17) dX3_readLine_13 (by decide) (fun hc4 => ?_) (fun hc4 => ?_)
    · have h := sat_t hc4 h
      refine ab_aloadn 0 dX3_readLine_17 rfl ?_
      refine f_gr (x := 1) (k2 := 5) (i2 := r0) (j2 := 1) ⟨h0, by decide⟩ rfl rfl (Nat.le_of_ble_eq_true rfl) wd_170 rfl rfl dX3_readLine_18 ?_
      refine ab_aloadn 0 dX3_readLine_21 rfl ?_
      refine fC_gi (x := 0) ⟨h0, by decide⟩ rfl rfl (Nat.le_of_ble_eq_true rfl) wd_165 (by decide) rfl dX3_readLine_22 ?_
      refine ab_iloadn 3 dX3_readLine_25 rfl ?_
      refine fC_iast ⟨h0, by decide⟩ rfl (by decide) (fun _ => rfl) h dX3_readLine_26 (fun C5 h => ?_)
      refine ab_aloadn 0 dX3_readLine_27 rfl ?_
      refine f_gr (x := 3) (k2 := 5) (i2 := r0) (j2 := 3) ⟨h0, by decide⟩ rfl rfl (Nat.le_of_ble_eq_true rfl) wd_171 rfl rfl dX3_readLine_28 ?_
      refine ab_aloadn 0 dX3_readLine_31 rfl ?_
      refine fC_gi (x := 0) ⟨h0, by decide⟩ rfl rfl (Nat.le_of_ble_eq_true rfl) wd_165 (by decide) rfl dX3_readLine_32 ?_
      refine ab_iconst (v := 0) dX3_readLine_35 (by decide) ?_
      refine fC_iast ⟨h0, by decide⟩ rfl (by decide) (fun _ => rfl) h dX3_readLine_36 (fun C6 h => ?_)
      refine ab_iloadn 3 dX3_readLine_37 rfl ?_
      by_cases hc7 : a3 = 10
      · have h := sat_t hc7 h
        refine ab_tin (tgt := 68) (off := 30) hc7 (by decide) (by decide) (by decide) (by decide) dX3_readLine_38 ?_
        refine ab_aloadn 0 dX3_readLine_68 rfl ?_
        refine f_gr (x := 2) (k2 := 5) (i2 := r0) (j2 := 2) ⟨h0, by decide⟩ rfl rfl (Nat.le_of_ble_eq_true rfl) wd_172 rfl rfl dX3_readLine_69 ?_
        refine ab_aloadn 0 dX3_readLine_72 rfl ?_
        refine fC_gi (x := 0) ⟨h0, by decide⟩ rfl rfl (Nat.le_of_ble_eq_true rfl) wd_165 (by decide) rfl dX3_readLine_73 ?_
        refine ab_aloadn 2 dX3_readLine_76 rfl ?_
        refine ab_aloadn 1 dX3_readLine_77 rfl ?_
        refine fC_Vi (mtc := mt_X0_takeCell) (As := [.ref (gA G 1 0 0)]) h (fun Q h => ct_X0_takeCell r2 h2 C6 h) ⟨h2, by decide⟩ rfl rfl rfl mw_X0_takeCell wd_173 rfl rfl ⟨Nat.le_of_ble_eq_true rfl, Nat.le_of_ble_eq_true rfl⟩ ⟨Nat.zero_le _, Nat.zero_le _⟩ (Nat.le_of_ble_eq_true rfl) rfl dX3_readLine_78 (fun v8 C9 h => ?_)
        refine fC_iast ⟨h0, by decide⟩ rfl (by decide) (fun _ => rfl) h dX3_readLine_81 (fun C10 h => ?_)
        refine ab_goto (tgt := 177) dX3_readLine_82 (by decide) ?_
        exact fC_vret h rfl dX3_readLine_177
      have h := sat_f hc7 h
      by_cases hc11 : a3 = 11
      · have h := sat_t hc11 h
        refine ab_tin (tgt := 85) (off := 47) hc11 (by decide) (by decide) (by decide) (by decide) dX3_readLine_38 ?_
        refine ab_aloadn 0 dX3_readLine_85 rfl ?_
        refine f_gr (x := 2) (k2 := 5) (i2 := r0) (j2 := 2) ⟨h0, by decide⟩ rfl rfl (Nat.le_of_ble_eq_true rfl) wd_172 rfl rfl dX3_readLine_86 ?_
        refine ab_aloadn 0 dX3_readLine_89 rfl ?_
        refine fC_gi (x := 0) ⟨h0, by decide⟩ rfl rfl (Nat.le_of_ble_eq_true rfl) wd_165 (by decide) rfl dX3_readLine_90 ?_
        refine ab_aloadn 1 dX3_readLine_93 rfl ?_
        refine ab_iconst (v := 0) dX3_readLine_94 (by decide) ?_
        refine ab_sipush (v := 999) dX3_readLine_95 (by decide) ?_
        refine fC_Vi (mtc := mt_X7_takeNumber) (As := [.int 0, .int 999]) h (fun Q h => ct_X7_takeNumber 0 999 C6 h) ⟨by decide, by decide⟩ rfl rfl rfl mw_X7_takeNumber wd_174 rfl rfl ⟨Nat.le_of_ble_eq_true rfl, Nat.le_of_ble_eq_true rfl⟩ ⟨Nat.zero_le _, Nat.zero_le _⟩ (Nat.le_of_ble_eq_true rfl) rfl dX3_readLine_98 (fun v12 C13 h => ?_)
        refine fC_iast ⟨h0, by decide⟩ rfl (by decide) (fun _ => rfl) h dX3_readLine_101 (fun C14 h => ?_)
        refine ab_goto (tgt := 177) dX3_readLine_102 (by decide) ?_
        exact fC_vret h rfl dX3_readLine_177
      have h := sat_f hc11 h
      by_cases hc15 : a3 = 12
      · have h := sat_t hc15 h
        refine ab_tin (tgt := 105) (off := 67) hc15 (by decide) (by decide) (by decide) (by decide) dX3_readLine_38 ?_
        refine ab_aloadn 0 dX3_readLine_105 rfl ?_
        refine f_gr (x := 2) (k2 := 5) (i2 := r0) (j2 := 2) ⟨h0, by decide⟩ rfl rfl (Nat.le_of_ble_eq_true rfl) wd_172 rfl rfl dX3_readLine_106 ?_
        refine ab_aloadn 0 dX3_readLine_109 rfl ?_
        refine fC_gi (x := 0) ⟨h0, by decide⟩ rfl rfl (Nat.le_of_ble_eq_true rfl) wd_165 (by decide) rfl dX3_readLine_110 ?_
        refine ab_aloadn 2 dX3_readLine_113 rfl ?_
        refine f_gr (x := 10) (k2 := 3) (i2 := r2) (j2 := 6) ⟨h2, by decide⟩ rfl rfl (Nat.le_of_ble_eq_true rfl) wd_175 rfl rfl dX3_readLine_114 ?_
        refine ab_aloadn 1 dX3_readLine_117 rfl ?_
        refine fC_Vi (mtc := mt_X1_take) (As := [.ref (gA G 1 0 0)]) h (fun Q h => ct_X1_take N r2 h2 C6 h) ⟨h2, by decide⟩ rfl rfl rfl mw_X1_take wd_176 rfl rfl ⟨Nat.le_of_ble_eq_true rfl, Nat.le_of_ble_eq_true rfl⟩ ⟨Nat.zero_le _, Nat.zero_le _⟩ (Nat.le_of_ble_eq_true rfl) rfl dX3_readLine_118 (fun v16 C17 h => ?_)
        refine fC_iast ⟨h0, by decide⟩ rfl (by decide) (fun _ => rfl) h dX3_readLine_121 (fun C18 h => ?_)
        refine ab_goto (tgt := 177) dX3_readLine_122 (by decide) ?_
        exact fC_vret h rfl dX3_readLine_177
      have h := sat_f hc15 h
      by_cases hc19 : a3 = 13
      · have h := sat_t hc19 h
        refine ab_tin (tgt := 125) (off := 87) hc19 (by decide) (by decide) (by decide) (by decide) dX3_readLine_38 ?_
        refine ab_aloadn 0 dX3_readLine_125 rfl ?_
        refine f_gr (x := 2) (k2 := 5) (i2 := r0) (j2 := 2) ⟨h0, by decide⟩ rfl rfl (Nat.le_of_ble_eq_true rfl) wd_172 rfl rfl dX3_readLine_126 ?_
        refine ab_aloadn 0 dX3_readLine_129 rfl ?_
        refine fC_gi (x := 0) ⟨h0, by decide⟩ rfl rfl (Nat.le_of_ble_eq_true rfl) wd_165 (by decide) rfl dX3_readLine_130 ?_
        refine ab_aloadn 2 dX3_readLine_133 rfl ?_
        refine f_gr (x := 10) (k2 := 3) (i2 := r2) (j2 := 6) ⟨h2, by decide⟩ rfl rfl (Nat.le_of_ble_eq_true rfl) wd_175 rfl rfl dX3_readLine_134 ?_
        refine ab_aloadn 1 dX3_readLine_137 rfl ?_
        refine fC_Vi (mtc := mt_X1_take) (As := [.ref (gA G 1 0 0)]) h (fun Q h => ct_X1_take N r2 h2 C6 h) ⟨h2, by decide⟩ rfl rfl rfl mw_X1_take wd_176 rfl rfl ⟨Nat.le_of_ble_eq_true rfl, Nat.le_of_ble_eq_true rfl⟩ ⟨Nat.zero_le _, Nat.zero_le _⟩ (Nat.le_of_ble_eq_true rfl) rfl dX3_readLine_138 (fun v20 C21 h => ?_)
        refine fC_iast ⟨h0, by decide⟩ rfl (by decide) (fun _ => rfl) h dX3_readLine_141 (fun C22 h => ?_)
        refine ab_aloadn 0 dX3_readLine_142 rfl ?_
        refine f_gr (x := 3) (k2 := 5) (i2 := r0) (j2 := 3) ⟨h0, by decide⟩ rfl rfl (Nat.le_of_ble_eq_true rfl) wd_171 rfl rfl dX3_readLine_143 ?_
        refine ab_aloadn 0 dX3_readLine_146 rfl ?_
        refine fC_gi (x := 0) ⟨h0, by decide⟩ rfl rfl (Nat.le_of_ble_eq_true rfl) wd_165 (by decide) rfl dX3_readLine_147 ?_
        refine ab_aloadn 1 dX3_readLine_150 rfl ?_
        refine ab_iconst (v := 0) dX3_readLine_151 (by decide) ?_
        refine ab_bipush (v := 7) dX3_readLine_152 (by decide) ?_
        refine fC_Vi (mtc := mt_X7_takeNumber) (As := [.int 0, .int 7]) h (fun Q h => ct_X7_takeNumber 0 7 C22 h) ⟨by decide, by decide⟩ rfl rfl rfl mw_X7_takeNumber wd_174 rfl rfl ⟨Nat.le_of_ble_eq_true rfl, Nat.le_of_ble_eq_true rfl⟩ ⟨Nat.zero_le _, Nat.zero_le _⟩ (Nat.le_of_ble_eq_true rfl) rfl dX3_readLine_154 (fun v23 C24 h => ?_)
        refine fC_iast ⟨h0, by decide⟩ rfl (by decide) (fun _ => rfl) h dX3_readLine_157 (fun C25 h => ?_)
        refine ab_goto (tgt := 177) dX3_readLine_158 (by decide) ?_
        exact fC_vret h rfl dX3_readLine_177
      have h := sat_f hc19 h
      refine ab_tout (tgt := 161) (by have := ne_toI hc7 (show Int32.toInt 10 = 10 by decide); have := ne_toI hc11 (show Int32.toInt 11 = 11 by decide); have := ne_toI hc15 (show Int32.toInt 12 = 12 by decide); have := ne_toI hc19 (show Int32.toInt 13 = 13 by decide); omega) (by decide) dX3_readLine_38 ?_
      refine ab_aloadn 0 dX3_readLine_161 rfl ?_
      refine f_gr (x := 2) (k2 := 5) (i2 := r0) (j2 := 2) ⟨h0, by decide⟩ rfl rfl (Nat.le_of_ble_eq_true rfl) wd_172 rfl rfl dX3_readLine_162 ?_
      refine ab_aloadn 0 dX3_readLine_165 rfl ?_
      refine fC_gi (x := 0) ⟨h0, by decide⟩ rfl rfl (Nat.le_of_ble_eq_true rfl) wd_165 (by decide) rfl dX3_readLine_166 ?_
      refine ab_aloadn 1 dX3_readLine_169 rfl ?_
      refine ab_iconst (v := 1) dX3_readLine_170 (by decide) ?_
      refine ab_bipush (v := 48) dX3_readLine_171 (by decide) ?_
      refine fC_Vi (mtc := mt_X7_takeNumber) (As := [.int 1, .int 48]) h (fun Q h => ct_X7_takeNumber 1 48 C6 h) ⟨by decide, by decide⟩ rfl rfl rfl mw_X7_takeNumber wd_174 rfl rfl ⟨Nat.le_of_ble_eq_true rfl, Nat.le_of_ble_eq_true rfl⟩ ⟨Nat.zero_le _, Nat.zero_le _⟩ (Nat.le_of_ble_eq_true rfl) rfl dX3_readLine_173 (fun v26 C27 h => ?_)
      refine fC_iast ⟨h0, by decide⟩ rfl (by decide) (fun _ => rfl) h dX3_readLine_176 (fun C28 h => ?_)
      exact fC_vret h rfl dX3_readLine_177
    · have h := sat_f hc4 h
      exact fC_vret h rfl dX3_readLine_16
theorem ct_X3_readLine {l : Launch} {G : GX} {X : XM} {Q : Int32 → Mem → Prop} (N : Nat) (r0 : Nat) (h0 : r0 < 4) (r2 : Nat) (h2 : r2 < 4) (a3 : Int32) (C : CM) (h : SAT (f_X3_readLine N r0 r2 a3 C) (fun v c => Q v (c, X))) : CT l G 4 mt_X3_readLine [.ref (gA G 5 r0 0), .ref (gA G 1 0 0), .ref (gA G 3 r2 0), .int a3] (C, X) Q := ct_of pn_X3 (Nat.le_of_ble_eq_true rfl) (t_X3_readLine_0 N r0 h0 r2 h2 a3 C h)
def f_X3_read_44 (N : Nat) (k7 : Int32 → CM → Option (Int32 × CM)) (r0 : Nat) (r2 : Nat) (a3 : Int32) (a4 : Int32) (C : CM) : Option (Int32 × CM) := cal (f_X3_readLine N r0 r2 a4 C) (fun v1 C2 => cal (f_X7_takeMark 59 C2) (fun v3 C4 => cal (f_X7_isSound C4) (fun v5 C6 => (if v5 = 0 then (k7 (a3 + 1) C6) else bnd (stC C6 5 r0 0 0 ((C6.1 5 r0 0 0) + 1)) (fun C8 => (k7 (a3 + 1) C8))))))
def f_X3_read_7 (N : Nat) (r0 : Nat) (r2 : Nat) : Nat → Int32 → CM → Option (Int32 × CM)
  | 0, _, _ => none
  | n + 1, a3, C => (if 30 < a3 then (rt 0 C) else cal (f_X7_goesOn C) (fun v2 C3 => (if v2 = 0 then (rt 0 C3) else cal (f_X7_takeWord 10 14 C3) (fun v5 C6 => (if (C6.1 5 r0 0 0) < 30 then (f_X3_read_44 N (fun z3 c => f_X3_read_7 N r0 r2 n z3 c) r0 r2 a3 v5 C6) else cal (f_X7_blameTaken 4 C6) (fun v8 C9 => (f_X3_read_44 N (fun z3 c => f_X3_read_7 N r0 r2 n z3 c) r0 r2 a3 v5 C9)))))))
def f_X3_read (N : Nat) (r0 : Nat) (r2 : Nat) (C : CM) : Option (Int32 × CM) := bnd (stC C 5 r0 0 0 0) (fun C1 => (f_X3_read_7 N r0 r2 N 0 C1))
set_option maxRecDepth 8000 in
theorem t_X3_read_44 {l : Launch} {G : GX} {X : XM} {Q : Int32 → Mem → Prop} (N : Nat) (k7 : Int32 → CM → Option (Int32 × CM)) (r0 : Nat) (h0 : r0 < 4) (r2 : Nat) (h2 : r2 < 4) (a3 : Int32) (a4 : Int32) (hk7 : ∀ (ac3 : Int32) (C : CM), SAT (k7 ac3 C) (fun v c => Q v (c, X)) → AB l G (rmD 5) 0 0 mt_X3_read (ZQ G mt_X3_read Q) 7 [(0, .ref (gA G 5 r0 0)), (1, .ref (gA G 1 0 0)), (2, .ref (gA G 3 r2 0)), (3, .int ac3)] [] (C, X)) (C : CM) (h : SAT (f_X3_read_44 N k7 r0 r2 a3 a4 C) (fun v c => Q v (c, X))) : AB l G (rmD 5) 0 0 mt_X3_read (ZQ G mt_X3_read Q) 44 [(0, .ref (gA G 5 r0 0)), (1, .ref (gA G 1 0 0)), (2, .ref (gA G 3 r2 0)), (3, .int a3), (4, .int a4)] [] (C, X) := by
  unfold f_X3_read_44 at h
  refine ab_aloadn 0 dX3_read_44 rfl ?_
  refine ab_aloadn 1 dX3_read_45 rfl ?_
  refine ab_aloadn 2 dX3_read_46 rfl ?_
  refine ab_iload 4 dX3_read_47 rfl ?_
  refine fC_Vv (mtc := mt_X3_readLine) (As := [.ref (gA G 1 0 0), .ref (gA G 3 r2 0), .int a4]) h (fun Q h => ct_X3_readLine N r0 h0 r2 h2 a4 C h) ⟨h0, by decide⟩ rfl rfl rfl mw_X3_readLine wd_177 rfl rfl ⟨Nat.le_of_ble_eq_true rfl, Nat.le_of_ble_eq_true rfl⟩ ⟨Nat.zero_le _, Nat.zero_le _⟩ (Nat.le_of_ble_eq_true rfl) rfl dX3_read_49 (fun v1 C2 h => ?_)
  refine ab_aloadn 1 dX3_read_52 rfl ?_
  refine ab_bipush (v := 59) dX3_read_53 (by decide) ?_
  refine fC_Vv (mtc := mt_X7_takeMark) (As := [.int 59]) h (fun Q h => ct_X7_takeMark 59 C2 h) ⟨by decide, by decide⟩ rfl rfl rfl mw_X7_takeMark wd_178 rfl rfl ⟨Nat.le_of_ble_eq_true rfl, Nat.le_of_ble_eq_true rfl⟩ ⟨Nat.zero_le _, Nat.zero_le _⟩ (Nat.le_of_ble_eq_true rfl) rfl dX3_read_55 (fun v3 C4 h => ?_)
  refine ab_aloadn 1 dX3_read_58 rfl ?_
  refine fC_Vi (mtc := mt_X7_isSound) (As := []) h (fun Q h => ct_X7_isSound C4 h) ⟨by decide, by decide⟩ rfl rfl rfl mw_X7_isSound wd_169 rfl rfl ⟨Nat.le_of_ble_eq_true rfl, Nat.le_of_ble_eq_true rfl⟩ ⟨Nat.zero_le _, Nat.zero_le _⟩ (Nat.le_of_ble_eq_true rfl) rfl dX3_read_59 (fun v5 C6 h => ?_)
  refine ab_if_eq (tgt := 75) dX3_read_62 (by decide) (fun hc7 => ?_) (fun hc7 => ?_)
  · have h := sat_t hc7 h
    refine ab_iinc (q := 3) (v := (a3 + 1)) (lv' := [(0, .ref (gA G 5 r0 0)), (1, .ref (gA G 1 0 0)), (2, .ref (gA G 3 r2 0)), (3, .int (a3 + 1)), (4, .int a4)]) dX3_read_75 rfl rfl rfl (Nat.le_of_ble_eq_true rfl) rfl ?_
    refine ab_goto (tgt := 7) dX3_read_78 (by decide) ?_
    refine ab_sub [0, 1, 2, 3] rfl ?_
    exact hk7 (a3 + 1) C6 h
  · have h := sat_f hc7 h
    refine ab_aloadn 0 dX3_read_65 rfl ?_
    refine ab_dup dX3_read_66 rfl ?_
    refine fC_gi (x := 0) ⟨h0, by decide⟩ rfl rfl (Nat.le_of_ble_eq_true rfl) wd_165 (by decide) rfl dX3_read_67 ?_
    refine ab_iconst (v := 1) dX3_read_70 (by decide) ?_
    refine ab_iadd dX3_read_71 ?_
    refine fC_pi (x := 0) (ty := .int) ⟨h0, by decide⟩ rfl rfl (Nat.le_of_ble_eq_true rfl) wd_165 (by decide) rfl h rfl (by decide +kernel) rfl rfl dX3_read_72 (fun C8 h => ?_)
    refine ab_iinc (q := 3) (v := (a3 + 1)) (lv' := [(0, .ref (gA G 5 r0 0)), (1, .ref (gA G 1 0 0)), (2, .ref (gA G 3 r2 0)), (3, .int (a3 + 1)), (4, .int a4)]) dX3_read_75 rfl rfl rfl (Nat.le_of_ble_eq_true rfl) rfl ?_
    refine ab_goto (tgt := 7) dX3_read_78 (by decide) ?_
    refine ab_sub [0, 1, 2, 3] rfl ?_
    exact hk7 (a3 + 1) C8 h
set_option maxRecDepth 8000 in
theorem t_X3_read_7 {l : Launch} {G : GX} {X : XM} {Q : Int32 → Mem → Prop} (N : Nat) (r0 : Nat) (h0 : r0 < 4) (r2 : Nat) (h2 : r2 < 4) : ∀ (n : Nat) (a3 : Int32) (C : CM), SAT (f_X3_read_7 N r0 r2 n a3 C) (fun v c => Q v (c, X)) → AB l G (rmD 5) 0 0 mt_X3_read (ZQ G mt_X3_read Q) 7 [(0, .ref (gA G 5 r0 0)), (1, .ref (gA G 1 0 0)), (2, .ref (gA G 3 r2 0)), (3, .int a3)] [] (C, X) := by
  intro n
  induction n with
  | zero => intro a3 C h; exact h.elim
  | succ n ih =>
    intro a3 C h
    rw [f_X3_read_7] at h
    refine ab_iloadn 3 dX3_read_7 rfl ?_
    refine ab_bipush (v := 30) dX3_read_8 (by decide) ?_
    refine ab_icmp_gt (tgt := 81) dX3_read_10 (by decide) (fun hc1 => ?_) (fun hc1 => ?_)
    · have h := sat_t hc1 h
      exact fC_vret h rfl dX3_read_81
    · have h := sat_f hc1 h
      refine ab_aloadn 1 dX3_read_13 rfl ?_
      refine fC_Vi (mtc := mt_X7_goesOn) (As := []) h (fun Q h => ct_X7_goesOn C h) ⟨by decide, by decide⟩ rfl rfl rfl mw_X7_goesOn wd_166 rfl rfl ⟨Nat.le_of_ble_eq_true rfl, Nat.le_of_ble_eq_true rfl⟩ ⟨Nat.zero_le _, Nat.zero_le _⟩ (Nat.le_of_ble_eq_true rfl) rfl dX3_read_14 (fun v2 C3 h => ?_)
      refine ab_if_eq (tgt := 81) dX3_read_17 (by decide) (fun hc4 => ?_) (fun hc4 => ?_)
      · have h := sat_t hc4 h
        exact fC_vret h rfl dX3_read_81
      · have h := sat_f hc4 h
        refine ab_aloadn 1 dX3_read_20 rfl ?_
        refine ab_bipush (v := 10) dX3_read_21 (by decide) ?_
        refine ab_bipush (v := 14) dX3_read_23 (by decide) ?_
        refine fC_Vi (mtc := mt_X7_takeWord) (As := [.int 10, .int 14]) h (fun Q h => ct_X7_takeWord 10 14 C3 h) ⟨by decide, by decide⟩ rfl rfl rfl mw_X7_takeWord wd_167 rfl rfl ⟨Nat.le_of_ble_eq_true rfl, Nat.le_of_ble_eq_true rfl⟩ ⟨Nat.zero_le _, Nat.zero_le _⟩ (Nat.le_of_ble_eq_true rfl) rfl dX3_read_25 (fun v5 C6 h => ?_)
        refine ab_istore (lv' := [(0, .ref (gA G 5 r0 0)), (1, .ref (gA G 1 0 0)), (2, .ref (gA G 3 r2 0)), (3, .int a3), (4, .int v5)]) dX3_read_28 rfl (Nat.le_of_ble_eq_true rfl) rfl ?_
        refine ab_aloadn 0 dX3_read_30 rfl ?_
        refine fC_gi (x := 0) ⟨h0, by decide⟩ rfl rfl (Nat.le_of_ble_eq_true rfl) wd_165 (by decide) rfl dX3_read_31 ?_
        refine ab_bipush (v := 30) dX3_read_34 (by decide) ?_
        refine ab_icmp_lt (tgt := 44) dX3_read_36 (by decide) (fun hc7 => ?_) (fun hc7 => ?_)
        · have h := sat_t hc7 h
          exact t_X3_read_44 N (fun z3 c => f_X3_read_7 N r0 r2 n z3 c) r0 h0 r2 h2 a3 v5 ih C6 h
        · have h := sat_f hc7 h
          refine ab_aloadn 1 dX3_read_39 rfl ?_
          refine ab_iconst (v := 4) dX3_read_40 (by decide) ?_
          refine fC_Vv (mtc := mt_X7_blameTaken) (As := [.int 4]) h (fun Q h => ct_X7_blameTaken 4 C6 h) ⟨by decide, by decide⟩ rfl rfl rfl mw_X7_blameTaken wd_168 rfl rfl ⟨Nat.le_of_ble_eq_true rfl, Nat.le_of_ble_eq_true rfl⟩ ⟨Nat.zero_le _, Nat.zero_le _⟩ (Nat.le_of_ble_eq_true rfl) rfl dX3_read_41 (fun v8 C9 h => ?_)
          exact t_X3_read_44 N (fun z3 c => f_X3_read_7 N r0 r2 n z3 c) r0 h0 r2 h2 a3 v5 ih C9 h
set_option maxRecDepth 8000 in
theorem t_X3_read_0 {l : Launch} {G : GX} {X : XM} {Q : Int32 → Mem → Prop} (N : Nat) (r0 : Nat) (h0 : r0 < 4) (r2 : Nat) (h2 : r2 < 4) (C : CM) (h : SAT (f_X3_read N r0 r2 C) (fun v c => Q v (c, X))) : AB l G (rmD 5) 0 0 mt_X3_read (ZQ G mt_X3_read Q) 0 [(0, .ref (gA G 5 r0 0)), (1, .ref (gA G 1 0 0)), (2, .ref (gA G 3 r2 0))] [] (C, X) := by
  unfold f_X3_read at h
  refine ab_aloadn 0 dX3_read_0 rfl ?_
  refine ab_iconst (v := 0) dX3_read_1 (by decide) ?_
  refine fC_pi (x := 0) (ty := .int) ⟨h0, by decide⟩ rfl rfl (Nat.le_of_ble_eq_true rfl) wd_165 (by decide) rfl h rfl (by decide +kernel) rfl rfl dX3_read_2 (fun C1 h => ?_)
  refine ab_iconst (v := 0) dX3_read_5 (by decide) ?_
  refine ab_istoren (lv' := [(0, .ref (gA G 5 r0 0)), (1, .ref (gA G 1 0 0)), (2, .ref (gA G 3 r2 0)), (3, .int 0)]) dX3_read_6 rfl (Nat.le_of_ble_eq_true rfl) rfl ?_
  exact t_X3_read_7 N r0 h0 r2 h2 N 0 C1 h
theorem ct_X3_read {l : Launch} {G : GX} {X : XM} {Q : Int32 → Mem → Prop} (N : Nat) (r0 : Nat) (h0 : r0 < 4) (r2 : Nat) (h2 : r2 < 4) (C : CM) (h : SAT (f_X3_read N r0 r2 C) (fun v c => Q v (c, X))) : CT l G 5 mt_X3_read [.ref (gA G 5 r0 0), .ref (gA G 1 0 0), .ref (gA G 3 r2 0)] (C, X) Q := ct_of pn_X3 (Nat.le_of_ble_eq_true rfl) (t_X3_read_0 N r0 h0 r2 h2 C h)
def f_X10_plan (N : Nat) (C : CM) : Option (Int32 × CM) := cal (f_X10_splitTape N 400 C) (fun v1 C2 => ldR (C2.2 0 0 7) 4 (fun y3 => ldR (C2.2 2 0 1) 4 (fun y5 => cal (f_X3_read N y3 y5 C2) (fun v7 C8 => bnd (stC C8 0 0 0 3 (C8.1 1 0 0 5)) (fun C9 => (if (C9.1 0 0 0 3) = 0 then ldR (C9.2 2 0 3) 4 (fun y11 => ldR (C9.2 0 0 7) 4 (fun y13 => bnd (rfC C9 2 0 3 y13) (fun C15 => bnd (rfC C15 0 0 7 y11) (fun C16 => ldR (C16.2 2 0 3) 4 (fun y17 => (rt (C16.1 5 y17 0 0) C16)))))) else (rt ((-1) - (C9.1 1 0 0 6)) C9)))))))
set_option maxRecDepth 8000 in
theorem t_X10_plan_0 {l : Launch} {G : GX} {X : XM} {Q : Int32 → Mem → Prop} (N : Nat) (C : CM) (h : SAT (f_X10_plan N C) (fun v c => Q v (c, X))) : AB l G (rmD 9) 0 0 mt_X10_plan (ZQ G mt_X10_plan Q) 0 [(0, .ref (gA G 0 0 0))] [] (C, X) := by
  unfold f_X10_plan at h
  refine ab_aloadn 0 dX10_plan_0 rfl ?_
  refine ab_sipush (v := 400) dX10_plan_1 (by decide) ?_
  refine fC_Vv (mtc := mt_X10_splitTape) (As := [.int 400]) h (fun Q h => ct_X10_splitTape N 400 C h) ⟨by decide, by decide⟩ rfl rfl rfl mw_X10_splitTape wd_50 rfl rfl ⟨Nat.le_of_ble_eq_true rfl, Nat.le_of_ble_eq_true rfl⟩ ⟨Nat.zero_le _, Nat.zero_le _⟩ (Nat.le_of_ble_eq_true rfl) rfl dX10_plan_4 (fun v1 C2 h => ?_)
  refine ab_aloadn 0 dX10_plan_7 rfl ?_
  refine fC_gd (x := 7) ⟨by decide, by decide⟩ rfl rfl (Nat.le_of_ble_eq_true rfl) wd_164 rfl h rfl dX10_plan_8 (fun y3 hy4 h => ?_)
  refine ab_aloadn 0 dX10_plan_11 rfl ?_
  refine f_gr (x := 2) (k2 := 1) (i2 := 0) (j2 := 0) ⟨by decide, by decide⟩ rfl rfl (Nat.le_of_ble_eq_true rfl) wd_33 rfl rfl dX10_plan_12 ?_
  refine ab_aloadn 0 dX10_plan_15 rfl ?_
  refine f_gr (x := 4) (k2 := 2) (i2 := 0) (j2 := 0) ⟨by decide, by decide⟩ rfl rfl (Nat.le_of_ble_eq_true rfl) wd_124 rfl rfl dX10_plan_16 ?_
  refine fC_gd (x := 1) ⟨by decide, by decide⟩ rfl rfl (Nat.le_of_ble_eq_true rfl) wd_125 rfl h rfl dX10_plan_19 (fun y5 hy6 h => ?_)
  refine fC_Vv (mtc := mt_X3_read) (As := [.ref (gA G 1 0 0), .ref (gA G 3 y5 0)]) h (fun Q h => ct_X3_read N y3 hy4 y5 hy6 C2 h) ⟨hy4, by decide⟩ rfl rfl rfl mw_X3_read wd_179 rfl rfl ⟨Nat.le_of_ble_eq_true rfl, Nat.le_of_ble_eq_true rfl⟩ ⟨Nat.zero_le _, Nat.zero_le _⟩ (Nat.le_of_ble_eq_true rfl) rfl dX10_plan_22 (fun v7 C8 h => ?_)
  refine ab_aloadn 0 dX10_plan_25 rfl ?_
  refine ab_aloadn 0 dX10_plan_26 rfl ?_
  refine f_gr (x := 2) (k2 := 1) (i2 := 0) (j2 := 0) ⟨by decide, by decide⟩ rfl rfl (Nat.le_of_ble_eq_true rfl) wd_33 rfl rfl dX10_plan_27 ?_
  refine fC_gi (x := 5) ⟨by decide, by decide⟩ rfl rfl (Nat.le_of_ble_eq_true rfl) wd_122 (by decide) rfl dX10_plan_30 ?_
  refine fC_pi (x := 3) (ty := .int) ⟨by decide, by decide⟩ rfl rfl (Nat.le_of_ble_eq_true rfl) wd_123 (by decide) rfl h rfl (by decide +kernel) rfl rfl dX10_plan_33 (fun C9 h => ?_)
  refine ab_aloadn 0 dX10_plan_36 rfl ?_
  refine fC_gi (x := 3) ⟨by decide, by decide⟩ rfl rfl (Nat.le_of_ble_eq_true rfl) wd_123 (by decide) rfl dX10_plan_37 ?_
  refine ab_if_eq (tgt := 53) dX10_plan_40 (by decide) (fun hc10 => ?_) (fun hc10 => ?_)
  · have h := sat_t hc10 h
    refine ab_aloadn 0 dX10_plan_53 rfl ?_
    refine f_gr (x := 4) (k2 := 2) (i2 := 0) (j2 := 0) ⟨by decide, by decide⟩ rfl rfl (Nat.le_of_ble_eq_true rfl) wd_124 rfl rfl dX10_plan_54 ?_
    refine fC_gd (x := 3) ⟨by decide, by decide⟩ rfl rfl (Nat.le_of_ble_eq_true rfl) wd_153 rfl h rfl dX10_plan_57 (fun y11 hy12 h => ?_)
    refine ab_astoren (lv' := [(0, .ref (gA G 0 0 0)), (1, .ref (gA G 5 y11 0))]) dX10_plan_60 rfl (Nat.le_of_ble_eq_true rfl) rfl ?_
    refine ab_aloadn 0 dX10_plan_61 rfl ?_
    refine f_gr (x := 4) (k2 := 2) (i2 := 0) (j2 := 0) ⟨by decide, by decide⟩ rfl rfl (Nat.le_of_ble_eq_true rfl) wd_124 rfl rfl dX10_plan_62 ?_
    refine ab_aloadn 0 dX10_plan_65 rfl ?_
    refine fC_gd (x := 7) ⟨by decide, by decide⟩ rfl rfl (Nat.le_of_ble_eq_true rfl) wd_164 rfl h rfl dX10_plan_66 (fun y13 hy14 h => ?_)
    refine fC_pr (x := 3) (y := y13) (ty := .object "GaleBank$Plan") ⟨by decide, by decide⟩ rfl rfl (Nat.le_of_ble_eq_true rfl) wd_153 rfl h rfl (by decide +kernel) rfl rfl dX10_plan_69 (fun C15 h => ?_)
    refine ab_aloadn 0 dX10_plan_72 rfl ?_
    refine ab_aloadn 1 dX10_plan_73 rfl ?_
    refine fC_pr (x := 7) (y := y11) (ty := .object "GaleBank$Plan") ⟨by decide, by decide⟩ rfl rfl (Nat.le_of_ble_eq_true rfl) wd_164 rfl h rfl (by decide +kernel) rfl rfl dX10_plan_74 (fun C16 h => ?_)
    refine ab_aloadn 0 dX10_plan_77 rfl ?_
    refine f_gr (x := 4) (k2 := 2) (i2 := 0) (j2 := 0) ⟨by decide, by decide⟩ rfl rfl (Nat.le_of_ble_eq_true rfl) wd_124 rfl rfl dX10_plan_78 ?_
    refine fC_gd (x := 3) ⟨by decide, by decide⟩ rfl rfl (Nat.le_of_ble_eq_true rfl) wd_153 rfl h rfl dX10_plan_81 (fun y17 hy18 h => ?_)
    refine fC_gi (x := 0) ⟨hy18, by decide⟩ rfl rfl (Nat.le_of_ble_eq_true rfl) wd_154 (by decide) rfl dX10_plan_84 ?_
    exact fC_iret h rfl rfl dX10_plan_87
  · have h := sat_f hc10 h
    refine ab_iconst (v := (-1)) dX10_plan_43 (by decide) ?_
    refine ab_aloadn 0 dX10_plan_44 rfl ?_
    refine f_gr (x := 2) (k2 := 1) (i2 := 0) (j2 := 0) ⟨by decide, by decide⟩ rfl rfl (Nat.le_of_ble_eq_true rfl) wd_33 rfl rfl dX10_plan_45 ?_
    refine fC_gi (x := 6) ⟨by decide, by decide⟩ rfl rfl (Nat.le_of_ble_eq_true rfl) wd_163 (by decide) rfl dX10_plan_48 ?_
    refine ab_isub dX10_plan_51 ?_
    exact fC_iret h rfl rfl dX10_plan_52
theorem ct_X10_plan {l : Launch} {G : GX} {X : XM} {Q : Int32 → Mem → Prop} (N : Nat) (C : CM) (h : SAT (f_X10_plan N C) (fun v c => Q v (c, X))) : CT l G 9 mt_X10_plan [.ref (gA G 0 0 0)] (C, X) Q := ct_of pn_X10 (Nat.le_of_ble_eq_true rfl) (t_X10_plan_0 N C h)
def f_X5_readAll_8 (N : Nat) (r0 : Nat) (F : Int32 → CM → Option (Int32 × CM)) (a2 : Int32) : Nat → Int32 → CM → Option (Int32 × CM)
  | 0, _, _ => none
  | n + 1, a3, C => (if 20 ≤ a3 then (rt 0 C) else cal (f_X7_isSound C) (fun v2 C3 => (if v2 = 0 then (rt 0 C3) else cal (f_X7_nextWord C3) (fun v5 C6 => (if v5 = 16 then cal (f_X7_take C6) (fun v8 C9 => cal (F a2 C9) (fun v10 C11 => cal (f_X5_add r0 16 0 0 C11) (fun v12 C13 => (f_X5_readAll_8 N r0 F a2 n (a3 + 1) C13)))) else (rt 0 C6))))))
def f_X5_readAll (N : Nat) (r0 : Nat) (F : Int32 → CM → Option (Int32 × CM)) (a2 : Int32) (C : CM) : Option (Int32 × CM) := cal (F a2 C) (fun v1 C2 => (f_X5_readAll_8 N r0 F a2 N 0 C2))
set_option maxRecDepth 8000 in
theorem t_X5_readAll_8 {l : Launch} {G : GX} {dF : Nat} (hdF : 8 ≤ dF) {X : XM} {Q : Int32 → Mem → Prop} (N : Nat) (r0 : Nat) (h0 : r0 < 4) (F : Int32 → CM → Option (Int32 × CM)) (hF : ∀ (a2 : Int32) (C : CM) (Q : Int32 → Mem → Prop), SAT (F a2 C) (fun v c => Q v (c, X)) → CT l G dF mt_X5_readOne [.ref (gA G 6 r0 0), .ref (gA G 1 0 0), .int a2] (C, X) Q) (a2 : Int32) : ∀ (n : Nat) (a3 : Int32) (C : CM), SAT (f_X5_readAll_8 N r0 F a2 n a3 C) (fun v c => Q v (c, X)) → AB l G (rmD (dF + 1)) 0 0 mt_X5_readAll (ZQ G mt_X5_readAll Q) 8 [(0, .ref (gA G 6 r0 0)), (1, .ref (gA G 1 0 0)), (2, .int a2), (3, .int a3)] [] (C, X) := by
  intro n
  induction n with
  | zero => intro a3 C h; exact h.elim
  | succ n ih =>
    intro a3 C h
    rw [f_X5_readAll_8] at h
    refine ab_iloadn 3 dX5_readAll_8 rfl ?_
    refine ab_bipush (v := 20) dX5_readAll_9 (by decide) ?_
    refine ab_icmp_ge (tgt := 54) dX5_readAll_11 (by decide) (fun hc1 => ?_) (fun hc1 => ?_)
    · have h := sat_t hc1 h
      exact fC_vret h rfl dX5_readAll_54
    · have h := sat_f hc1 h
      refine ab_aloadn 1 dX5_readAll_14 rfl ?_
      refine fC_Vi (mtc := mt_X7_isSound) (As := []) h (fun Q h => ct_X7_isSound C h) ⟨by decide, by decide⟩ rfl rfl rfl mw_X7_isSound wd_11 rfl rfl (by constructor <;> first | (show _ ≤ _; simp only [rmD, mt_X7_isSound]; omega) | exact Nat.le_of_ble_eq_true rfl) ⟨Nat.zero_le _, Nat.zero_le _⟩ (Nat.le_of_ble_eq_true rfl) rfl dX5_readAll_15 (fun v2 C3 h => ?_)
      refine ab_if_eq (tgt := 54) dX5_readAll_18 (by decide) (fun hc4 => ?_) (fun hc4 => ?_)
      · have h := sat_t hc4 h
        exact fC_vret h rfl dX5_readAll_54
      · have h := sat_f hc4 h
        refine ab_aloadn 1 dX5_readAll_21 rfl ?_
        refine fC_Vi (mtc := mt_X7_nextWord) (As := []) h (fun Q h => ct_X7_nextWord C3 h) ⟨by decide, by decide⟩ rfl rfl rfl mw_X7_nextWord wd_5 rfl rfl (by constructor <;> first | (show _ ≤ _; simp only [rmD, mt_X7_nextWord]; omega) | exact Nat.le_of_ble_eq_true rfl) ⟨Nat.zero_le _, Nat.zero_le _⟩ (Nat.le_of_ble_eq_true rfl) rfl dX5_readAll_22 (fun v5 C6 h => ?_)
        refine ab_bipush (v := 16) dX5_readAll_25 (by decide) ?_
        refine ab_icmp_ne (tgt := 54) dX5_readAll_27 (by decide) (fun hc7 => ?_) (fun hc7 => ?_)
        · have h := sat_f hc7 h
          exact fC_vret h rfl dX5_readAll_54
        · have h := sat_t hc7 h
          refine ab_aloadn 1 dX5_readAll_30 rfl ?_
          refine fC_Vv (mtc := mt_X7_take) (As := []) h (fun Q h => ct_X7_take C6 h) ⟨by decide, by decide⟩ rfl rfl rfl mw_X7_take wd_12 rfl rfl (by constructor <;> first | (show _ ≤ _; simp only [rmD, mt_X7_take]; omega) | exact Nat.le_of_ble_eq_true rfl) ⟨Nat.zero_le _, Nat.zero_le _⟩ (Nat.le_of_ble_eq_true rfl) rfl dX5_readAll_31 (fun v8 C9 h => ?_)
          refine ab_aloadn 0 dX5_readAll_34 rfl ?_
          refine ab_aloadn 1 dX5_readAll_35 rfl ?_
          refine ab_iloadn 2 dX5_readAll_36 rfl ?_
          refine fC_Vv (mtc := mt_X5_readOne) (As := [.ref (gA G 1 0 0), .int a2]) h (fun Q h => hF a2 C9 Q h) ⟨h0, by decide⟩ rfl rfl rfl mw_X5_readOne wd_23 rfl rfl (by constructor <;> first | (show _ ≤ _; simp only [rmD, mt_X5_readOne]; omega) | exact Nat.le_of_ble_eq_true rfl) ⟨Nat.zero_le _, Nat.zero_le _⟩ (Nat.le_of_ble_eq_true rfl) rfl dX5_readAll_37 (fun v10 C11 h => ?_)
          refine ab_aloadn 0 dX5_readAll_40 rfl ?_
          refine ab_bipush (v := 16) dX5_readAll_41 (by decide) ?_
          refine ab_iconst (v := 0) dX5_readAll_43 (by decide) ?_
          refine ab_iconst (v := 0) dX5_readAll_44 (by decide) ?_
          refine fC_Vv (mtc := mt_X5_add) (As := [.int 16, .int 0, .int 0]) h (fun Q h => ct_X5_add r0 h0 16 0 0 C11 h) ⟨h0, by decide⟩ rfl rfl rfl mw_X5_add wd_22 rfl rfl (by constructor <;> first | (show _ ≤ _; simp only [rmD, mt_X5_add]; omega) | exact Nat.le_of_ble_eq_true rfl) ⟨Nat.zero_le _, Nat.zero_le _⟩ (Nat.le_of_ble_eq_true rfl) rfl dX5_readAll_45 (fun v12 C13 h => ?_)
          refine ab_iinc (q := 3) (v := (a3 + 1)) (lv' := [(0, .ref (gA G 6 r0 0)), (1, .ref (gA G 1 0 0)), (2, .int a2), (3, .int (a3 + 1))]) dX5_readAll_48 rfl rfl rfl (Nat.le_of_ble_eq_true rfl) rfl ?_
          refine ab_goto (tgt := 8) dX5_readAll_51 (by decide) ?_
          exact ih (a3 + 1) C13 h
set_option maxRecDepth 8000 in
theorem t_X5_readAll_0 {l : Launch} {G : GX} {dF : Nat} (hdF : 8 ≤ dF) {X : XM} {Q : Int32 → Mem → Prop} (N : Nat) (r0 : Nat) (h0 : r0 < 4) (F : Int32 → CM → Option (Int32 × CM)) (hF : ∀ (a2 : Int32) (C : CM) (Q : Int32 → Mem → Prop), SAT (F a2 C) (fun v c => Q v (c, X)) → CT l G dF mt_X5_readOne [.ref (gA G 6 r0 0), .ref (gA G 1 0 0), .int a2] (C, X) Q) (a2 : Int32) (C : CM) (h : SAT (f_X5_readAll N r0 F a2 C) (fun v c => Q v (c, X))) : AB l G (rmD (dF + 1)) 0 0 mt_X5_readAll (ZQ G mt_X5_readAll Q) 0 [(0, .ref (gA G 6 r0 0)), (1, .ref (gA G 1 0 0)), (2, .int a2)] [] (C, X) := by
  unfold f_X5_readAll at h
  refine ab_aloadn 0 dX5_readAll_0 rfl ?_
  refine ab_aloadn 1 dX5_readAll_1 rfl ?_
  refine ab_iloadn 2 dX5_readAll_2 rfl ?_
  refine fC_Vv (mtc := mt_X5_readOne) (As := [.ref (gA G 1 0 0), .int a2]) h (fun Q h => hF a2 C Q h) ⟨h0, by decide⟩ rfl rfl rfl mw_X5_readOne wd_23 rfl rfl (by constructor <;> first | (show _ ≤ _; simp only [rmD, mt_X5_readOne]; omega) | exact Nat.le_of_ble_eq_true rfl) ⟨Nat.zero_le _, Nat.zero_le _⟩ (Nat.le_of_ble_eq_true rfl) rfl dX5_readAll_3 (fun v1 C2 h => ?_)
  refine ab_iconst (v := 0) dX5_readAll_6 (by decide) ?_
  refine ab_istoren (lv' := [(0, .ref (gA G 6 r0 0)), (1, .ref (gA G 1 0 0)), (2, .int a2), (3, .int 0)]) dX5_readAll_7 rfl (Nat.le_of_ble_eq_true rfl) rfl ?_
  exact t_X5_readAll_8 hdF N r0 h0 F hF a2 N 0 C2 h
theorem ct_X5_readAll {l : Launch} {G : GX} {dF : Nat} (hdF : 8 ≤ dF) {X : XM} {Q : Int32 → Mem → Prop} (N : Nat) (r0 : Nat) (h0 : r0 < 4) (F : Int32 → CM → Option (Int32 × CM)) (hF : ∀ (a2 : Int32) (C : CM) (Q : Int32 → Mem → Prop), SAT (F a2 C) (fun v c => Q v (c, X)) → CT l G dF mt_X5_readOne [.ref (gA G 6 r0 0), .ref (gA G 1 0 0), .int a2] (C, X) Q) (a2 : Int32) (C : CM) (h : SAT (f_X5_readAll N r0 F a2 C) (fun v c => Q v (c, X))) : CT l G (dF + 1) mt_X5_readAll [.ref (gA G 6 r0 0), .ref (gA G 1 0 0), .int a2] (C, X) Q := ct_of pn_X5 (Nat.le_of_ble_eq_true rfl) (t_X5_readAll_0 hdF N r0 h0 F hF a2 C h)
def f_X5_readCond_8 (N : Nat) (r0 : Nat) (F : Int32 → CM → Option (Int32 × CM)) (a2 : Int32) : Nat → Int32 → CM → Option (Int32 × CM)
  | 0, _, _ => none
  | n + 1, a3, C => (if 20 ≤ a3 then (rt 0 C) else cal (f_X7_isSound C) (fun v2 C3 => (if v2 = 0 then (rt 0 C3) else cal (f_X7_nextWord C3) (fun v5 C6 => (if v5 = 15 then cal (f_X7_take C6) (fun v8 C9 => cal (f_X5_readAll N r0 F a2 C9) (fun v10 C11 => cal (f_X5_add r0 15 0 0 C11) (fun v12 C13 => (f_X5_readCond_8 N r0 F a2 n (a3 + 1) C13)))) else (rt 0 C6))))))
def f_X5_readCond (N : Nat) (r0 : Nat) (F : Int32 → CM → Option (Int32 × CM)) (a2 : Int32) (C : CM) : Option (Int32 × CM) := cal (f_X5_readAll N r0 F a2 C) (fun v1 C2 => (f_X5_readCond_8 N r0 F a2 N 0 C2))
set_option maxRecDepth 8000 in
theorem t_X5_readCond_8 {l : Launch} {G : GX} {dF : Nat} (hdF : 8 ≤ dF) {X : XM} {Q : Int32 → Mem → Prop} (N : Nat) (r0 : Nat) (h0 : r0 < 4) (F : Int32 → CM → Option (Int32 × CM)) (hF : ∀ (a2 : Int32) (C : CM) (Q : Int32 → Mem → Prop), SAT (F a2 C) (fun v c => Q v (c, X)) → CT l G dF mt_X5_readOne [.ref (gA G 6 r0 0), .ref (gA G 1 0 0), .int a2] (C, X) Q) (a2 : Int32) : ∀ (n : Nat) (a3 : Int32) (C : CM), SAT (f_X5_readCond_8 N r0 F a2 n a3 C) (fun v c => Q v (c, X)) → AB l G (rmD (dF + 2)) 0 0 mt_X5_readCond (ZQ G mt_X5_readCond Q) 8 [(0, .ref (gA G 6 r0 0)), (1, .ref (gA G 1 0 0)), (2, .int a2), (3, .int a3)] [] (C, X) := by
  intro n
  induction n with
  | zero => intro a3 C h; exact h.elim
  | succ n ih =>
    intro a3 C h
    rw [f_X5_readCond_8] at h
    refine ab_iloadn 3 dX5_readCond_8 rfl ?_
    refine ab_bipush (v := 20) dX5_readCond_9 (by decide) ?_
    refine ab_icmp_ge (tgt := 54) dX5_readCond_11 (by decide) (fun hc1 => ?_) (fun hc1 => ?_)
    · have h := sat_t hc1 h
      exact fC_vret h rfl dX5_readCond_54
    · have h := sat_f hc1 h
      refine ab_aloadn 1 dX5_readCond_14 rfl ?_
      refine fC_Vi (mtc := mt_X7_isSound) (As := []) h (fun Q h => ct_X7_isSound C h) ⟨by decide, by decide⟩ rfl rfl rfl mw_X7_isSound wd_11 rfl rfl (by constructor <;> first | (show _ ≤ _; simp only [rmD, mt_X7_isSound]; omega) | exact Nat.le_of_ble_eq_true rfl) ⟨Nat.zero_le _, Nat.zero_le _⟩ (Nat.le_of_ble_eq_true rfl) rfl dX5_readCond_15 (fun v2 C3 h => ?_)
      refine ab_if_eq (tgt := 54) dX5_readCond_18 (by decide) (fun hc4 => ?_) (fun hc4 => ?_)
      · have h := sat_t hc4 h
        exact fC_vret h rfl dX5_readCond_54
      · have h := sat_f hc4 h
        refine ab_aloadn 1 dX5_readCond_21 rfl ?_
        refine fC_Vi (mtc := mt_X7_nextWord) (As := []) h (fun Q h => ct_X7_nextWord C3 h) ⟨by decide, by decide⟩ rfl rfl rfl mw_X7_nextWord wd_5 rfl rfl (by constructor <;> first | (show _ ≤ _; simp only [rmD, mt_X7_nextWord]; omega) | exact Nat.le_of_ble_eq_true rfl) ⟨Nat.zero_le _, Nat.zero_le _⟩ (Nat.le_of_ble_eq_true rfl) rfl dX5_readCond_22 (fun v5 C6 h => ?_)
        refine ab_bipush (v := 15) dX5_readCond_25 (by decide) ?_
        refine ab_icmp_ne (tgt := 54) dX5_readCond_27 (by decide) (fun hc7 => ?_) (fun hc7 => ?_)
        · have h := sat_f hc7 h
          exact fC_vret h rfl dX5_readCond_54
        · have h := sat_t hc7 h
          refine ab_aloadn 1 dX5_readCond_30 rfl ?_
          refine fC_Vv (mtc := mt_X7_take) (As := []) h (fun Q h => ct_X7_take C6 h) ⟨by decide, by decide⟩ rfl rfl rfl mw_X7_take wd_12 rfl rfl (by constructor <;> first | (show _ ≤ _; simp only [rmD, mt_X7_take]; omega) | exact Nat.le_of_ble_eq_true rfl) ⟨Nat.zero_le _, Nat.zero_le _⟩ (Nat.le_of_ble_eq_true rfl) rfl dX5_readCond_31 (fun v8 C9 h => ?_)
          refine ab_aloadn 0 dX5_readCond_34 rfl ?_
          refine ab_aloadn 1 dX5_readCond_35 rfl ?_
          refine ab_iloadn 2 dX5_readCond_36 rfl ?_
          refine fC_Vv (mtc := mt_X5_readAll) (As := [.ref (gA G 1 0 0), .int a2]) h (fun Q h => ct_X5_readAll hdF N r0 h0 F hF a2 C9 h) ⟨h0, by decide⟩ rfl rfl rfl mw_X5_readAll wd_24 rfl rfl (by constructor <;> first | (show _ ≤ _; simp only [rmD, mt_X5_readAll]; omega) | exact Nat.le_of_ble_eq_true rfl) ⟨Nat.zero_le _, Nat.zero_le _⟩ (Nat.le_of_ble_eq_true rfl) rfl dX5_readCond_37 (fun v10 C11 h => ?_)
          refine ab_aloadn 0 dX5_readCond_40 rfl ?_
          refine ab_bipush (v := 15) dX5_readCond_41 (by decide) ?_
          refine ab_iconst (v := 0) dX5_readCond_43 (by decide) ?_
          refine ab_iconst (v := 0) dX5_readCond_44 (by decide) ?_
          refine fC_Vv (mtc := mt_X5_add) (As := [.int 15, .int 0, .int 0]) h (fun Q h => ct_X5_add r0 h0 15 0 0 C11 h) ⟨h0, by decide⟩ rfl rfl rfl mw_X5_add wd_22 rfl rfl (by constructor <;> first | (show _ ≤ _; simp only [rmD, mt_X5_add]; omega) | exact Nat.le_of_ble_eq_true rfl) ⟨Nat.zero_le _, Nat.zero_le _⟩ (Nat.le_of_ble_eq_true rfl) rfl dX5_readCond_45 (fun v12 C13 h => ?_)
          refine ab_iinc (q := 3) (v := (a3 + 1)) (lv' := [(0, .ref (gA G 6 r0 0)), (1, .ref (gA G 1 0 0)), (2, .int a2), (3, .int (a3 + 1))]) dX5_readCond_48 rfl rfl rfl (Nat.le_of_ble_eq_true rfl) rfl ?_
          refine ab_goto (tgt := 8) dX5_readCond_51 (by decide) ?_
          exact ih (a3 + 1) C13 h
set_option maxRecDepth 8000 in
theorem t_X5_readCond_0 {l : Launch} {G : GX} {dF : Nat} (hdF : 8 ≤ dF) {X : XM} {Q : Int32 → Mem → Prop} (N : Nat) (r0 : Nat) (h0 : r0 < 4) (F : Int32 → CM → Option (Int32 × CM)) (hF : ∀ (a2 : Int32) (C : CM) (Q : Int32 → Mem → Prop), SAT (F a2 C) (fun v c => Q v (c, X)) → CT l G dF mt_X5_readOne [.ref (gA G 6 r0 0), .ref (gA G 1 0 0), .int a2] (C, X) Q) (a2 : Int32) (C : CM) (h : SAT (f_X5_readCond N r0 F a2 C) (fun v c => Q v (c, X))) : AB l G (rmD (dF + 2)) 0 0 mt_X5_readCond (ZQ G mt_X5_readCond Q) 0 [(0, .ref (gA G 6 r0 0)), (1, .ref (gA G 1 0 0)), (2, .int a2)] [] (C, X) := by
  unfold f_X5_readCond at h
  refine ab_aloadn 0 dX5_readCond_0 rfl ?_
  refine ab_aloadn 1 dX5_readCond_1 rfl ?_
  refine ab_iloadn 2 dX5_readCond_2 rfl ?_
  refine fC_Vv (mtc := mt_X5_readAll) (As := [.ref (gA G 1 0 0), .int a2]) h (fun Q h => ct_X5_readAll hdF N r0 h0 F hF a2 C h) ⟨h0, by decide⟩ rfl rfl rfl mw_X5_readAll wd_24 rfl rfl (by constructor <;> first | (show _ ≤ _; simp only [rmD, mt_X5_readAll]; omega) | exact Nat.le_of_ble_eq_true rfl) ⟨Nat.zero_le _, Nat.zero_le _⟩ (Nat.le_of_ble_eq_true rfl) rfl dX5_readCond_3 (fun v1 C2 h => ?_)
  refine ab_iconst (v := 0) dX5_readCond_6 (by decide) ?_
  refine ab_istoren (lv' := [(0, .ref (gA G 6 r0 0)), (1, .ref (gA G 1 0 0)), (2, .int a2), (3, .int 0)]) dX5_readCond_7 rfl (Nat.le_of_ble_eq_true rfl) rfl ?_
  exact t_X5_readCond_8 hdF N r0 h0 F hF a2 N 0 C2 h
theorem ct_X5_readCond {l : Launch} {G : GX} {dF : Nat} (hdF : 8 ≤ dF) {X : XM} {Q : Int32 → Mem → Prop} (N : Nat) (r0 : Nat) (h0 : r0 < 4) (F : Int32 → CM → Option (Int32 × CM)) (hF : ∀ (a2 : Int32) (C : CM) (Q : Int32 → Mem → Prop), SAT (F a2 C) (fun v c => Q v (c, X)) → CT l G dF mt_X5_readOne [.ref (gA G 6 r0 0), .ref (gA G 1 0 0), .int a2] (C, X) Q) (a2 : Int32) (C : CM) (h : SAT (f_X5_readCond N r0 F a2 C) (fun v c => Q v (c, X))) : CT l G (dF + 2) mt_X5_readCond [.ref (gA G 6 r0 0), .ref (gA G 1 0 0), .int a2] (C, X) Q := ct_of pn_X5 (Nat.le_of_ble_eq_true rfl) (t_X5_readCond_0 hdF N r0 h0 F hF a2 C h)
def f_X5_readOne_60 (N : Nat) (r0 : Nat) (F : Int32 → CM → Option (Int32 × CM)) (a2 : Int32) (a3 : Int32) (a4 : Int32) (C : CM) : Option (Int32 × CM) := cal (f_X7_isSound C) (fun v1 C2 => (if v1 = 0 then (rt 0 C2) else (if a2 ≤ 8 then bnd (stC C2 6 r0 0 0 ((C2.1 6 r0 0 0) + 1)) (fun C5 => cal (f_X7_take C5) (fun v6 C7 => (if a3 = 0 then (if a4 = 17 then cal (F (a2 + 1) C7) (fun v19 C20 => cal (f_X5_add r0 17 0 0 C20) (fun v21 C22 => (rt 0 C22))) else (if a4 = 18 then cal (f_X5_add r0 18 0 0 C7) (fun v17 C18 => (rt 0 C18)) else cal (f_X5_takeSign N C7) (fun v11 C12 => cal (f_X7_takeNumber 0 999 C12) (fun v13 C14 => cal (f_X5_add r0 a4 v11 v13 C14) (fun v15 C16 => (rt 0 C16)))))) else cal (f_X5_readCond N r0 F (a2 + 1) C7) (fun v23 C24 => cal (f_X7_takeMark 41 C24) (fun v25 C26 => (rt 0 C26)))))) else (rt 0 C2))))
def f_X5_readOne_55 (N : Nat) (r0 : Nat) (F : Int32 → CM → Option (Int32 × CM)) (a2 : Int32) (a3 : Int32) (a4 : Int32) (C : CM) : Option (Int32 × CM) := cal (f_X7_blameNext 4 C) (fun v1 C2 => (f_X5_readOne_60 N r0 F a2 a3 a4 C2))
def f_X5_readOne_40 (N : Nat) (r0 : Nat) (F : Int32 → CM → Option (Int32 × CM)) (a2 : Int32) (a3 : Int32) (a4 : Int32) (C : CM) : Option (Int32 × CM) := (if 20 ≤ (C.1 6 r0 0 0) then (f_X5_readOne_55 N r0 F a2 a3 a4 C) else (if a2 ≤ 8 then (f_X5_readOne_60 N r0 F a2 a3 a4 C) else (f_X5_readOne_55 N r0 F a2 a3 a4 C)))
def f_X5_readOne_32 (N : Nat) (r0 : Nat) (F : Int32 → CM → Option (Int32 × CM)) (a2 : Int32) (a3 : Int32) (a4 : Int32) (C : CM) : Option (Int32 × CM) := cal (f_X7_blameNext 1 C) (fun v1 C2 => (f_X5_readOne_60 N r0 F a2 a3 a4 C2))
def f_X5_readOne (N : Nat) (r0 : Nat) (F : Int32 → CM → Option (Int32 × CM)) (a2 : Int32) (C : CM) : Option (Int32 × CM) := cal (f_X7_sees 5 40 C) (fun v1 C2 => cal (f_X7_nextWord C2) (fun v3 C4 => (if v1 = 0 then (if v3 < 17 then (f_X5_readOne_32 N r0 F a2 v1 v3 C4) else (if v3 ≤ 23 then (f_X5_readOne_40 N r0 F a2 v1 v3 C4) else (f_X5_readOne_32 N r0 F a2 v1 v3 C4))) else (f_X5_readOne_40 N r0 F a2 v1 v3 C4))))
set_option maxRecDepth 8000 in
theorem t_X5_readOne_60 {l : Launch} {G : GX} {dF : Nat} (hdF : 8 ≤ dF) {X : XM} {Q : Int32 → Mem → Prop} (N : Nat) (r0 : Nat) (h0 : r0 < 4) (F : Int32 → CM → Option (Int32 × CM)) (hF : ∀ (a2 : Int32) (C : CM) (Q : Int32 → Mem → Prop), SAT (F a2 C) (fun v c => Q v (c, X)) → CT l G dF mt_X5_readOne [.ref (gA G 6 r0 0), .ref (gA G 1 0 0), .int a2] (C, X) Q) (a2 : Int32) (a3 : Int32) (a4 : Int32) (C : CM) (h : SAT (f_X5_readOne_60 N r0 F a2 a3 a4 C) (fun v c => Q v (c, X))) : AB l G (rmD (dF + 3)) 0 0 mt_X5_readOne (ZQ G mt_X5_readOne Q) 60 [(0, .ref (gA G 6 r0 0)), (1, .ref (gA G 1 0 0)), (2, .int a2), (3, .int a3), (4, .int a4)] [] (C, X) := by
  unfold f_X5_readOne_60 at h
  refine ab_aloadn 1 dX5_readOne_60 rfl ?_
  refine fC_Vi (mtc := mt_X7_isSound) (As := []) h (fun Q h => ct_X7_isSound C h) ⟨by decide, by decide⟩ rfl rfl rfl mw_X7_isSound wd_11 rfl rfl (by constructor <;> first | (show _ ≤ _; simp only [rmD, mt_X7_isSound]; omega) | exact Nat.le_of_ble_eq_true rfl) ⟨Nat.zero_le _, Nat.zero_le _⟩ (Nat.le_of_ble_eq_true rfl) rfl dX5_readOne_61 (fun v1 C2 h => ?_)
  refine ab_if_eq (tgt := 73) dX5_readOne_64 (by decide) (fun hc3 => ?_) (fun hc3 => ?_)
  · have h := sat_t hc3 h
    exact fC_vret h rfl dX5_readOne_73
  · have h := sat_f hc3 h
    refine ab_iloadn 2 dX5_readOne_67 rfl ?_
    refine ab_bipush (v := 8) dX5_readOne_68 (by decide) ?_
    refine ab_icmp_le (tgt := 74) dX5_readOne_70 (by decide) (fun hc4 => ?_) (fun hc4 => ?_)
    · have h := sat_t hc4 h
      refine ab_aloadn 0 dX5_readOne_74 rfl ?_
      refine ab_dup dX5_readOne_75 rfl ?_
      refine fC_gi (x := 0) ⟨h0, by decide⟩ rfl rfl (Nat.le_of_ble_eq_true rfl) wd_10 (by decide) rfl dX5_readOne_76 ?_
      refine ab_iconst (v := 1) dX5_readOne_79 (by decide) ?_
      refine ab_iadd dX5_readOne_80 ?_
      refine fC_pi (x := 0) (ty := .int) ⟨h0, by decide⟩ rfl rfl (Nat.le_of_ble_eq_true rfl) wd_10 (by decide) rfl h rfl (by decide +kernel) rfl rfl dX5_readOne_81 (fun C5 h => ?_)
      refine ab_aloadn 1 dX5_readOne_84 rfl ?_
      refine fC_Vv (mtc := mt_X7_take) (As := []) h (fun Q h => ct_X7_take C5 h) ⟨by decide, by decide⟩ rfl rfl rfl mw_X7_take wd_12 rfl rfl (by constructor <;> first | (show _ ≤ _; simp only [rmD, mt_X7_take]; omega) | exact Nat.le_of_ble_eq_true rfl) ⟨Nat.zero_le _, Nat.zero_le _⟩ (Nat.le_of_ble_eq_true rfl) rfl dX5_readOne_85 (fun v6 C7 h => ?_)
      refine ab_iloadn 3 dX5_readOne_88 rfl ?_
      refine ab_if_eq (tgt := 109) dX5_readOne_89 (by decide) (fun hc8 => ?_) (fun hc8 => ?_)
      · have h := sat_t hc8 h
        refine ab_iload 4 dX5_readOne_109 rfl ?_
        refine ab_bipush (v := 17) dX5_readOne_111 (by decide) ?_
        refine ab_icmp_ne (tgt := 135) dX5_readOne_113 (by decide) (fun hc9 => ?_) (fun hc9 => ?_)
        · have h := sat_f hc9 h
          refine ab_iload 4 dX5_readOne_135 rfl ?_
          refine ab_bipush (v := 18) dX5_readOne_137 (by decide) ?_
          refine ab_icmp_ne (tgt := 153) dX5_readOne_139 (by decide) (fun hc10 => ?_) (fun hc10 => ?_)
          · have h := sat_f hc10 h
            refine ab_aloadn 1 dX5_readOne_153 rfl ?_
            refine fC_Si (mtc := mt_X5_takeSign) (As := [.ref (gA G 1 0 0)]) h (fun Q h => ct_X5_takeSign N C7 h) mw_X5_takeSign wd_13 wd_14 rfl rfl (by constructor <;> first | (show _ ≤ _; simp only [rmD, mt_X5_takeSign]; omega) | exact Nat.le_of_ble_eq_true rfl) ⟨Nat.zero_le _, Nat.zero_le _⟩ (Nat.le_of_ble_eq_true rfl) rfl dX5_readOne_154 (fun v11 C12 h => ?_)
            refine ab_istore (lv' := [(0, .ref (gA G 6 r0 0)), (1, .ref (gA G 1 0 0)), (2, .int a2), (3, .int a3), (4, .int a4), (5, .int v11)]) dX5_readOne_157 rfl (Nat.le_of_ble_eq_true rfl) rfl ?_
            refine ab_aloadn 0 dX5_readOne_159 rfl ?_
            refine ab_iload 4 dX5_readOne_160 rfl ?_
            refine ab_iload 5 dX5_readOne_162 rfl ?_
            refine ab_aloadn 1 dX5_readOne_164 rfl ?_
            refine ab_iconst (v := 0) dX5_readOne_165 (by decide) ?_
            refine ab_sipush (v := 999) dX5_readOne_166 (by decide) ?_
            refine fC_Vi (mtc := mt_X7_takeNumber) (As := [.int 0, .int 999]) h (fun Q h => ct_X7_takeNumber 0 999 C12 h) ⟨by decide, by decide⟩ rfl rfl rfl mw_X7_takeNumber wd_17 rfl rfl (by constructor <;> first | (show _ ≤ _; simp only [rmD, mt_X7_takeNumber]; omega) | exact Nat.le_of_ble_eq_true rfl) ⟨Nat.zero_le _, Nat.zero_le _⟩ (Nat.le_of_ble_eq_true rfl) rfl dX5_readOne_169 (fun v13 C14 h => ?_)
            refine fC_Vv (mtc := mt_X5_add) (As := [.int a4, .int v11, .int v13]) h (fun Q h => ct_X5_add r0 h0 a4 v11 v13 C14 h) ⟨h0, by decide⟩ rfl rfl rfl mw_X5_add wd_22 rfl rfl (by constructor <;> first | (show _ ≤ _; simp only [rmD, mt_X5_add]; omega) | exact Nat.le_of_ble_eq_true rfl) ⟨Nat.zero_le _, Nat.zero_le _⟩ (Nat.le_of_ble_eq_true rfl) rfl dX5_readOne_172 (fun v15 C16 h => ?_)
            exact fC_vret h rfl dX5_readOne_175
          · have h := sat_t hc10 h
            refine ab_aloadn 0 dX5_readOne_142 rfl ?_
            refine ab_bipush (v := 18) dX5_readOne_143 (by decide) ?_
            refine ab_iconst (v := 0) dX5_readOne_145 (by decide) ?_
            refine ab_iconst (v := 0) dX5_readOne_146 (by decide) ?_
            refine fC_Vv (mtc := mt_X5_add) (As := [.int 18, .int 0, .int 0]) h (fun Q h => ct_X5_add r0 h0 18 0 0 C7 h) ⟨h0, by decide⟩ rfl rfl rfl mw_X5_add wd_22 rfl rfl (by constructor <;> first | (show _ ≤ _; simp only [rmD, mt_X5_add]; omega) | exact Nat.le_of_ble_eq_true rfl) ⟨Nat.zero_le _, Nat.zero_le _⟩ (Nat.le_of_ble_eq_true rfl) rfl dX5_readOne_147 (fun v17 C18 h => ?_)
            refine ab_goto (tgt := 175) dX5_readOne_150 (by decide) ?_
            exact fC_vret h rfl dX5_readOne_175
        · have h := sat_t hc9 h
          refine ab_aloadn 0 dX5_readOne_116 rfl ?_
          refine ab_aloadn 1 dX5_readOne_117 rfl ?_
          refine ab_iloadn 2 dX5_readOne_118 rfl ?_
          refine ab_iconst (v := 1) dX5_readOne_119 (by decide) ?_
          refine ab_iadd dX5_readOne_120 ?_
          refine fC_Vv (mtc := mt_X5_readOne) (As := [.ref (gA G 1 0 0), .int (a2 + 1)]) h (fun Q h => hF (a2 + 1) C7 Q h) ⟨h0, by decide⟩ rfl rfl rfl mw_X5_readOne wd_23 rfl rfl (by constructor <;> first | (show _ ≤ _; simp only [rmD, mt_X5_readOne]; omega) | exact Nat.le_of_ble_eq_true rfl) ⟨Nat.zero_le _, Nat.zero_le _⟩ (Nat.le_of_ble_eq_true rfl) rfl dX5_readOne_121 (fun v19 C20 h => ?_)
          refine ab_aloadn 0 dX5_readOne_124 rfl ?_
          refine ab_bipush (v := 17) dX5_readOne_125 (by decide) ?_
          refine ab_iconst (v := 0) dX5_readOne_127 (by decide) ?_
          refine ab_iconst (v := 0) dX5_readOne_128 (by decide) ?_
          refine fC_Vv (mtc := mt_X5_add) (As := [.int 17, .int 0, .int 0]) h (fun Q h => ct_X5_add r0 h0 17 0 0 C20 h) ⟨h0, by decide⟩ rfl rfl rfl mw_X5_add wd_22 rfl rfl (by constructor <;> first | (show _ ≤ _; simp only [rmD, mt_X5_add]; omega) | exact Nat.le_of_ble_eq_true rfl) ⟨Nat.zero_le _, Nat.zero_le _⟩ (Nat.le_of_ble_eq_true rfl) rfl dX5_readOne_129 (fun v21 C22 h => ?_)
          refine ab_goto (tgt := 175) dX5_readOne_132 (by decide) ?_
          exact fC_vret h rfl dX5_readOne_175
      · have h := sat_f hc8 h
        refine ab_aloadn 0 dX5_readOne_92 rfl ?_
        refine ab_aloadn 1 dX5_readOne_93 rfl ?_
        refine ab_iloadn 2 dX5_readOne_94 rfl ?_
        refine ab_iconst (v := 1) dX5_readOne_95 (by decide) ?_
        refine ab_iadd dX5_readOne_96 ?_
        refine fC_Vv (mtc := mt_X5_readCond) (As := [.ref (gA G 1 0 0), .int (a2 + 1)]) h (fun Q h => ct_X5_readCond hdF N r0 h0 F hF (a2 + 1) C7 h) ⟨h0, by decide⟩ rfl rfl rfl mw_X5_readCond wd_25 rfl rfl (by constructor <;> first | (show _ ≤ _; simp only [rmD, mt_X5_readCond]; omega) | exact Nat.le_of_ble_eq_true rfl) ⟨Nat.zero_le _, Nat.zero_le _⟩ (Nat.le_of_ble_eq_true rfl) rfl dX5_readOne_97 (fun v23 C24 h => ?_)
        refine ab_aloadn 1 dX5_readOne_100 rfl ?_
        refine ab_bipush (v := 41) dX5_readOne_101 (by decide) ?_
        refine fC_Vv (mtc := mt_X7_takeMark) (As := [.int 41]) h (fun Q h => ct_X7_takeMark 41 C24 h) ⟨by decide, by decide⟩ rfl rfl rfl mw_X7_takeMark wd_29 rfl rfl (by constructor <;> first | (show _ ≤ _; simp only [rmD, mt_X7_takeMark]; omega) | exact Nat.le_of_ble_eq_true rfl) ⟨Nat.zero_le _, Nat.zero_le _⟩ (Nat.le_of_ble_eq_true rfl) rfl dX5_readOne_103 (fun v25 C26 h => ?_)
        refine ab_goto (tgt := 175) dX5_readOne_106 (by decide) ?_
        exact fC_vret h rfl dX5_readOne_175
    · have h := sat_f hc4 h
      exact fC_vret h rfl dX5_readOne_73
set_option maxRecDepth 8000 in
theorem t_X5_readOne_55 {l : Launch} {G : GX} {dF : Nat} (hdF : 8 ≤ dF) {X : XM} {Q : Int32 → Mem → Prop} (N : Nat) (r0 : Nat) (h0 : r0 < 4) (F : Int32 → CM → Option (Int32 × CM)) (hF : ∀ (a2 : Int32) (C : CM) (Q : Int32 → Mem → Prop), SAT (F a2 C) (fun v c => Q v (c, X)) → CT l G dF mt_X5_readOne [.ref (gA G 6 r0 0), .ref (gA G 1 0 0), .int a2] (C, X) Q) (a2 : Int32) (a3 : Int32) (a4 : Int32) (C : CM) (h : SAT (f_X5_readOne_55 N r0 F a2 a3 a4 C) (fun v c => Q v (c, X))) : AB l G (rmD (dF + 3)) 0 0 mt_X5_readOne (ZQ G mt_X5_readOne Q) 55 [(0, .ref (gA G 6 r0 0)), (1, .ref (gA G 1 0 0)), (2, .int a2), (3, .int a3), (4, .int a4)] [] (C, X) := by
  unfold f_X5_readOne_55 at h
  refine ab_aloadn 1 dX5_readOne_55 rfl ?_
  refine ab_iconst (v := 4) dX5_readOne_56 (by decide) ?_
  refine fC_Vv (mtc := mt_X7_blameNext) (As := [.int 4]) h (fun Q h => ct_X7_blameNext 4 C h) ⟨by decide, by decide⟩ rfl rfl rfl mw_X7_blameNext wd_9 rfl rfl (by constructor <;> first | (show _ ≤ _; simp only [rmD, mt_X7_blameNext]; omega) | exact Nat.le_of_ble_eq_true rfl) ⟨Nat.zero_le _, Nat.zero_le _⟩ (Nat.le_of_ble_eq_true rfl) rfl dX5_readOne_57 (fun v1 C2 h => ?_)
  exact t_X5_readOne_60 hdF N r0 h0 F hF a2 a3 a4 C2 h
set_option maxRecDepth 8000 in
theorem t_X5_readOne_40 {l : Launch} {G : GX} {dF : Nat} (hdF : 8 ≤ dF) {X : XM} {Q : Int32 → Mem → Prop} (N : Nat) (r0 : Nat) (h0 : r0 < 4) (F : Int32 → CM → Option (Int32 × CM)) (hF : ∀ (a2 : Int32) (C : CM) (Q : Int32 → Mem → Prop), SAT (F a2 C) (fun v c => Q v (c, X)) → CT l G dF mt_X5_readOne [.ref (gA G 6 r0 0), .ref (gA G 1 0 0), .int a2] (C, X) Q) (a2 : Int32) (a3 : Int32) (a4 : Int32) (C : CM) (h : SAT (f_X5_readOne_40 N r0 F a2 a3 a4 C) (fun v c => Q v (c, X))) : AB l G (rmD (dF + 3)) 0 0 mt_X5_readOne (ZQ G mt_X5_readOne Q) 40 [(0, .ref (gA G 6 r0 0)), (1, .ref (gA G 1 0 0)), (2, .int a2), (3, .int a3), (4, .int a4)] [] (C, X) := by
  unfold f_X5_readOne_40 at h
  refine ab_aloadn 0 dX5_readOne_40 rfl ?_
  refine fC_gi (x := 0) ⟨h0, by decide⟩ rfl rfl (Nat.le_of_ble_eq_true rfl) wd_10 (by decide) rfl dX5_readOne_41 ?_
  refine ab_bipush (v := 20) dX5_readOne_44 (by decide) ?_
  refine ab_icmp_ge (tgt := 55) dX5_readOne_46 (by decide) (fun hc1 => ?_) (fun hc1 => ?_)
  · have h := sat_t hc1 h
    exact t_X5_readOne_55 hdF N r0 h0 F hF a2 a3 a4 C h
  · have h := sat_f hc1 h
    refine ab_iloadn 2 dX5_readOne_49 rfl ?_
    refine ab_bipush (v := 8) dX5_readOne_50 (by decide) ?_
    refine ab_icmp_le (tgt := 60) dX5_readOne_52 (by decide) (fun hc2 => ?_) (fun hc2 => ?_)
    · have h := sat_t hc2 h
      exact t_X5_readOne_60 hdF N r0 h0 F hF a2 a3 a4 C h
    · have h := sat_f hc2 h
      exact t_X5_readOne_55 hdF N r0 h0 F hF a2 a3 a4 C h
set_option maxRecDepth 8000 in
theorem t_X5_readOne_32 {l : Launch} {G : GX} {dF : Nat} (hdF : 8 ≤ dF) {X : XM} {Q : Int32 → Mem → Prop} (N : Nat) (r0 : Nat) (h0 : r0 < 4) (F : Int32 → CM → Option (Int32 × CM)) (hF : ∀ (a2 : Int32) (C : CM) (Q : Int32 → Mem → Prop), SAT (F a2 C) (fun v c => Q v (c, X)) → CT l G dF mt_X5_readOne [.ref (gA G 6 r0 0), .ref (gA G 1 0 0), .int a2] (C, X) Q) (a2 : Int32) (a3 : Int32) (a4 : Int32) (C : CM) (h : SAT (f_X5_readOne_32 N r0 F a2 a3 a4 C) (fun v c => Q v (c, X))) : AB l G (rmD (dF + 3)) 0 0 mt_X5_readOne (ZQ G mt_X5_readOne Q) 32 [(0, .ref (gA G 6 r0 0)), (1, .ref (gA G 1 0 0)), (2, .int a2), (3, .int a3), (4, .int a4)] [] (C, X) := by
  unfold f_X5_readOne_32 at h
  refine ab_aloadn 1 dX5_readOne_32 rfl ?_
  refine ab_iconst (v := 1) dX5_readOne_33 (by decide) ?_
  refine fC_Vv (mtc := mt_X7_blameNext) (As := [.int 1]) h (fun Q h => ct_X7_blameNext 1 C h) ⟨by decide, by decide⟩ rfl rfl rfl mw_X7_blameNext wd_9 rfl rfl (by constructor <;> first | (show _ ≤ _; simp only [rmD, mt_X7_blameNext]; omega) | exact Nat.le_of_ble_eq_true rfl) ⟨Nat.zero_le _, Nat.zero_le _⟩ (Nat.le_of_ble_eq_true rfl) rfl dX5_readOne_34 (fun v1 C2 h => ?_)
  refine ab_goto (tgt := 60) dX5_readOne_37 (by decide) ?_
  exact t_X5_readOne_60 hdF N r0 h0 F hF a2 a3 a4 C2 h
set_option maxRecDepth 8000 in
theorem t_X5_readOne_0 {l : Launch} {G : GX} {dF : Nat} (hdF : 8 ≤ dF) {X : XM} {Q : Int32 → Mem → Prop} (N : Nat) (r0 : Nat) (h0 : r0 < 4) (F : Int32 → CM → Option (Int32 × CM)) (hF : ∀ (a2 : Int32) (C : CM) (Q : Int32 → Mem → Prop), SAT (F a2 C) (fun v c => Q v (c, X)) → CT l G dF mt_X5_readOne [.ref (gA G 6 r0 0), .ref (gA G 1 0 0), .int a2] (C, X) Q) (a2 : Int32) (C : CM) (h : SAT (f_X5_readOne N r0 F a2 C) (fun v c => Q v (c, X))) : AB l G (rmD (dF + 3)) 0 0 mt_X5_readOne (ZQ G mt_X5_readOne Q) 0 [(0, .ref (gA G 6 r0 0)), (1, .ref (gA G 1 0 0)), (2, .int a2)] [] (C, X) := by
  unfold f_X5_readOne at h
  refine ab_aloadn 1 dX5_readOne_0 rfl ?_
  refine ab_iconst (v := 5) dX5_readOne_1 (by decide) ?_
  refine ab_bipush (v := 40) dX5_readOne_2 (by decide) ?_
  refine fC_Vi (mtc := mt_X7_sees) (As := [.int 5, .int 40]) h (fun Q h => ct_X7_sees 5 40 C h) ⟨by decide, by decide⟩ rfl rfl rfl mw_X7_sees wd_4 rfl rfl (by constructor <;> first | (show _ ≤ _; simp only [rmD, mt_X7_sees]; omega) | exact Nat.le_of_ble_eq_true rfl) ⟨Nat.zero_le _, Nat.zero_le _⟩ (Nat.le_of_ble_eq_true rfl) rfl dX5_readOne_4 (fun v1 C2 h => ?_)
  refine ab_istoren (lv' := [(0, .ref (gA G 6 r0 0)), (1, .ref (gA G 1 0 0)), (2, .int a2), (3, .int v1)]) dX5_readOne_7 rfl (Nat.le_of_ble_eq_true rfl) rfl ?_
  refine ab_aloadn 1 dX5_readOne_8 rfl ?_
  refine fC_Vi (mtc := mt_X7_nextWord) (As := []) h (fun Q h => ct_X7_nextWord C2 h) ⟨by decide, by decide⟩ rfl rfl rfl mw_X7_nextWord wd_5 rfl rfl (by constructor <;> first | (show _ ≤ _; simp only [rmD, mt_X7_nextWord]; omega) | exact Nat.le_of_ble_eq_true rfl) ⟨Nat.zero_le _, Nat.zero_le _⟩ (Nat.le_of_ble_eq_true rfl) rfl dX5_readOne_9 (fun v3 C4 h => ?_)
  refine ab_istore (lv' := [(0, .ref (gA G 6 r0 0)), (1, .ref (gA G 1 0 0)), (2, .int a2), (3, .int v1), (4, .int v3)]) dX5_readOne_12 rfl (Nat.le_of_ble_eq_true rfl) rfl ?_
  refine ab_iloadn 3 dX5_readOne_14 rfl ?_
  refine ab_if_ne (tgt := 40) dX5_readOne_15 (by decide) (fun hc5 => ?_) (fun hc5 => ?_)
  · have h := sat_f hc5 h
    exact t_X5_readOne_40 hdF N r0 h0 F hF a2 v1 v3 C4 h
  · have h := sat_t hc5 h
    refine ab_iload 4 dX5_readOne_18 rfl ?_
    refine ab_bipush (v := 17) dX5_readOne_20 (by decide) ?_
    refine ab_icmp_lt (tgt := 32) dX5_readOne_22 (by decide) (fun hc6 => ?_) (fun hc6 => ?_)
    · have h := sat_t hc6 h
      exact t_X5_readOne_32 hdF N r0 h0 F hF a2 v1 v3 C4 h
    · have h := sat_f hc6 h
      refine ab_iload 4 dX5_readOne_25 rfl ?_
      refine ab_bipush (v := 23) dX5_readOne_27 (by decide) ?_
      refine ab_icmp_le (tgt := 40) dX5_readOne_29 (by decide) (fun hc7 => ?_) (fun hc7 => ?_)
      · have h := sat_t hc7 h
        exact t_X5_readOne_40 hdF N r0 h0 F hF a2 v1 v3 C4 h
      · have h := sat_f hc7 h
        exact t_X5_readOne_32 hdF N r0 h0 F hF a2 v1 v3 C4 h
theorem ct_X5_readOne {l : Launch} {G : GX} {dF : Nat} (hdF : 8 ≤ dF) {X : XM} {Q : Int32 → Mem → Prop} (N : Nat) (r0 : Nat) (h0 : r0 < 4) (F : Int32 → CM → Option (Int32 × CM)) (hF : ∀ (a2 : Int32) (C : CM) (Q : Int32 → Mem → Prop), SAT (F a2 C) (fun v c => Q v (c, X)) → CT l G dF mt_X5_readOne [.ref (gA G 6 r0 0), .ref (gA G 1 0 0), .int a2] (C, X) Q) (a2 : Int32) (C : CM) (h : SAT (f_X5_readOne N r0 F a2 C) (fun v c => Q v (c, X))) : CT l G (dF + 3) mt_X5_readOne [.ref (gA G 6 r0 0), .ref (gA G 1 0 0), .int a2] (C, X) Q := ct_of pn_X5 (Nat.le_of_ble_eq_true rfl) (t_X5_readOne_0 hdF N r0 h0 F hF a2 C h)
def f_X5_One (N r0 : Nat) : Nat → Int32 → CM → Option (Int32 × CM)
  | 0, _, _ => none
  | n + 1, a2, C => f_X5_readOne N r0 (f_X5_One N r0 n) a2 C
theorem ct_X5_One {l : Launch} {G : GX} {X : XM} (N r0 : Nat) (h0 : r0 < 4) : ∀ (n : Nat) (a2 : Int32) (C : CM) (Q : Int32 → Mem → Prop), SAT (f_X5_One N r0 n a2 C) (fun v c => Q v (c, X)) → CT l G (3 * n + 8) mt_X5_readOne [.ref (gA G 6 r0 0), .ref (gA G 1 0 0), .int a2] (C, X) Q := by
  intro n
  induction n with
  | zero => intro a2 C Q h; exact h.elim
  | succ n ih =>
    intro a2 C Q h
    rw [f_X5_One] at h
    have h9 := ct_X5_readOne (dF := 3 * n + 8) (by omega) N r0 h0 (f_X5_One N r0 n) ih a2 C h
    rw [show 3 * (n + 1) + 8 = 3 * n + 8 + 3 by omega]
    exact h9
def f_X5_read (N : Nat) (r0 : Nat) (C : CM) : Option (Int32 × CM) := bnd (stC C 6 r0 0 0 0) (fun C1 => bnd (stC C1 6 r0 0 1 0) (fun C2 => cal (f_X5_readCond N r0 (f_X5_One N r0 10) 1 C2) (fun v3 C4 => cal (f_X7_goesOn C4) (fun v5 C6 => (if v5 = 0 then (rt 0 C6) else cal (f_X7_blameNext 1 C6) (fun v8 C9 => (rt 0 C9)))))))
set_option maxRecDepth 8000 in
theorem t_X5_read_0 {l : Launch} {G : GX} {X : XM} {Q : Int32 → Mem → Prop} (N : Nat) (r0 : Nat) (h0 : r0 < 4) (C : CM) (h : SAT (f_X5_read N r0 C) (fun v c => Q v (c, X))) : AB l G (rmD 41) 0 0 mt_X5_read (ZQ G mt_X5_read Q) 0 [(0, .ref (gA G 6 r0 0)), (1, .ref (gA G 1 0 0))] [] (C, X) := by
  unfold f_X5_read at h
  refine ab_aloadn 0 dX5_read_0 rfl ?_
  refine ab_iconst (v := 0) dX5_read_1 (by decide) ?_
  refine fC_pi (x := 0) (ty := .int) ⟨h0, by decide⟩ rfl rfl (Nat.le_of_ble_eq_true rfl) wd_10 (by decide) rfl h rfl (by decide +kernel) rfl rfl dX5_read_2 (fun C1 h => ?_)
  refine ab_aloadn 0 dX5_read_5 rfl ?_
  refine ab_iconst (v := 0) dX5_read_6 (by decide) ?_
  refine fC_pi (x := 1) (ty := .int) ⟨h0, by decide⟩ rfl rfl (Nat.le_of_ble_eq_true rfl) wd_18 (by decide) rfl h rfl (by decide +kernel) rfl rfl dX5_read_7 (fun C2 h => ?_)
  refine ab_aloadn 0 dX5_read_10 rfl ?_
  refine ab_aloadn 1 dX5_read_11 rfl ?_
  refine ab_iconst (v := 1) dX5_read_12 (by decide) ?_
  refine fC_Vv (mtc := mt_X5_readCond) (As := [.ref (gA G 1 0 0), .int 1]) h (fun Q h => ct_X5_readCond (dF := 38) (by decide) N r0 h0 (f_X5_One N r0 10) (ct_X5_One N r0 h0 10) 1 C2 h) ⟨h0, by decide⟩ rfl rfl rfl mw_X5_readCond wd_25 rfl rfl ⟨Nat.le_of_ble_eq_true rfl, Nat.le_of_ble_eq_true rfl⟩ ⟨Nat.zero_le _, Nat.zero_le _⟩ (Nat.le_of_ble_eq_true rfl) rfl dX5_read_13 (fun v3 C4 h => ?_)
  refine ab_aloadn 1 dX5_read_16 rfl ?_
  refine fC_Vi (mtc := mt_X7_goesOn) (As := []) h (fun Q h => ct_X7_goesOn C4 h) ⟨by decide, by decide⟩ rfl rfl rfl mw_X7_goesOn wd_181 rfl rfl ⟨Nat.le_of_ble_eq_true rfl, Nat.le_of_ble_eq_true rfl⟩ ⟨Nat.zero_le _, Nat.zero_le _⟩ (Nat.le_of_ble_eq_true rfl) rfl dX5_read_17 (fun v5 C6 h => ?_)
  refine ab_if_eq (tgt := 28) dX5_read_20 (by decide) (fun hc7 => ?_) (fun hc7 => ?_)
  · have h := sat_t hc7 h
    exact fC_vret h rfl dX5_read_28
  · have h := sat_f hc7 h
    refine ab_aloadn 1 dX5_read_23 rfl ?_
    refine ab_iconst (v := 1) dX5_read_24 (by decide) ?_
    refine fC_Vv (mtc := mt_X7_blameNext) (As := [.int 1]) h (fun Q h => ct_X7_blameNext 1 C6 h) ⟨by decide, by decide⟩ rfl rfl rfl mw_X7_blameNext wd_9 rfl rfl ⟨Nat.le_of_ble_eq_true rfl, Nat.le_of_ble_eq_true rfl⟩ ⟨Nat.zero_le _, Nat.zero_le _⟩ (Nat.le_of_ble_eq_true rfl) rfl dX5_read_25 (fun v8 C9 h => ?_)
    exact fC_vret h rfl dX5_read_28
theorem ct_X5_read {l : Launch} {G : GX} {X : XM} {Q : Int32 → Mem → Prop} (N : Nat) (r0 : Nat) (h0 : r0 < 4) (C : CM) (h : SAT (f_X5_read N r0 C) (fun v c => Q v (c, X))) : CT l G 41 mt_X5_read [.ref (gA G 6 r0 0), .ref (gA G 1 0 0)] (C, X) Q := ct_of pn_X5 (Nat.le_of_ble_eq_true rfl) (t_X5_read_0 N r0 h0 C h)
def f_X10_sentence (N : Nat) (C : CM) : Option (Int32 × CM) := cal (f_X10_splitTape N 200 C) (fun v1 C2 => ldR (C2.2 0 0 8) 4 (fun y3 => cal (f_X5_read N y3 C2) (fun v5 C6 => bnd (stC C6 0 0 0 3 (C6.1 1 0 0 5)) (fun C7 => (if (C7.1 0 0 0 3) = 0 then ldR (C7.2 2 0 4) 4 (fun y9 => ldR (C7.2 0 0 8) 4 (fun y11 => bnd (rfC C7 2 0 4 y11) (fun C13 => bnd (rfC C13 0 0 8 y9) (fun C14 => ldR (C14.2 2 0 4) 4 (fun y15 => (rt (C14.1 6 y15 0 0) C14)))))) else (rt ((-1) - (C7.1 1 0 0 6)) C7))))))
set_option maxRecDepth 8000 in
theorem t_X10_sentence_0 {l : Launch} {G : GX} {X : XM} {Q : Int32 → Mem → Prop} (N : Nat) (C : CM) (h : SAT (f_X10_sentence N C) (fun v c => Q v (c, X))) : AB l G (rmD 42) 0 0 mt_X10_sentence (ZQ G mt_X10_sentence Q) 0 [(0, .ref (gA G 0 0 0))] [] (C, X) := by
  unfold f_X10_sentence at h
  refine ab_aloadn 0 dX10_sentence_0 rfl ?_
  refine ab_sipush (v := 200) dX10_sentence_1 (by decide) ?_
  refine fC_Vv (mtc := mt_X10_splitTape) (As := [.int 200]) h (fun Q h => ct_X10_splitTape N 200 C h) ⟨by decide, by decide⟩ rfl rfl rfl mw_X10_splitTape wd_50 rfl rfl ⟨Nat.le_of_ble_eq_true rfl, Nat.le_of_ble_eq_true rfl⟩ ⟨Nat.zero_le _, Nat.zero_le _⟩ (Nat.le_of_ble_eq_true rfl) rfl dX10_sentence_4 (fun v1 C2 h => ?_)
  refine ab_aloadn 0 dX10_sentence_7 rfl ?_
  refine fC_gd (x := 8) ⟨by decide, by decide⟩ rfl rfl (Nat.le_of_ble_eq_true rfl) wd_180 rfl h rfl dX10_sentence_8 (fun y3 hy4 h => ?_)
  refine ab_aloadn 0 dX10_sentence_11 rfl ?_
  refine f_gr (x := 2) (k2 := 1) (i2 := 0) (j2 := 0) ⟨by decide, by decide⟩ rfl rfl (Nat.le_of_ble_eq_true rfl) wd_33 rfl rfl dX10_sentence_12 ?_
  refine fC_Vv (mtc := mt_X5_read) (As := [.ref (gA G 1 0 0)]) h (fun Q h => ct_X5_read N y3 hy4 C2 h) ⟨hy4, by decide⟩ rfl rfl rfl mw_X5_read wd_182 rfl rfl ⟨Nat.le_of_ble_eq_true rfl, Nat.le_of_ble_eq_true rfl⟩ ⟨Nat.zero_le _, Nat.zero_le _⟩ (Nat.le_of_ble_eq_true rfl) rfl dX10_sentence_15 (fun v5 C6 h => ?_)
  refine ab_aloadn 0 dX10_sentence_18 rfl ?_
  refine ab_aloadn 0 dX10_sentence_19 rfl ?_
  refine f_gr (x := 2) (k2 := 1) (i2 := 0) (j2 := 0) ⟨by decide, by decide⟩ rfl rfl (Nat.le_of_ble_eq_true rfl) wd_33 rfl rfl dX10_sentence_20 ?_
  refine fC_gi (x := 5) ⟨by decide, by decide⟩ rfl rfl (Nat.le_of_ble_eq_true rfl) wd_122 (by decide) rfl dX10_sentence_23 ?_
  refine fC_pi (x := 3) (ty := .int) ⟨by decide, by decide⟩ rfl rfl (Nat.le_of_ble_eq_true rfl) wd_123 (by decide) rfl h rfl (by decide +kernel) rfl rfl dX10_sentence_26 (fun C7 h => ?_)
  refine ab_aloadn 0 dX10_sentence_29 rfl ?_
  refine fC_gi (x := 3) ⟨by decide, by decide⟩ rfl rfl (Nat.le_of_ble_eq_true rfl) wd_123 (by decide) rfl dX10_sentence_30 ?_
  refine ab_if_eq (tgt := 46) dX10_sentence_33 (by decide) (fun hc8 => ?_) (fun hc8 => ?_)
  · have h := sat_t hc8 h
    refine ab_aloadn 0 dX10_sentence_46 rfl ?_
    refine f_gr (x := 4) (k2 := 2) (i2 := 0) (j2 := 0) ⟨by decide, by decide⟩ rfl rfl (Nat.le_of_ble_eq_true rfl) wd_124 rfl rfl dX10_sentence_47 ?_
    refine fC_gd (x := 4) ⟨by decide, by decide⟩ rfl rfl (Nat.le_of_ble_eq_true rfl) wd_155 rfl h rfl dX10_sentence_50 (fun y9 hy10 h => ?_)
    refine ab_astoren (lv' := [(0, .ref (gA G 0 0 0)), (1, .ref (gA G 6 y9 0))]) dX10_sentence_53 rfl (Nat.le_of_ble_eq_true rfl) rfl ?_
    refine ab_aloadn 0 dX10_sentence_54 rfl ?_
    refine f_gr (x := 4) (k2 := 2) (i2 := 0) (j2 := 0) ⟨by decide, by decide⟩ rfl rfl (Nat.le_of_ble_eq_true rfl) wd_124 rfl rfl dX10_sentence_55 ?_
    refine ab_aloadn 0 dX10_sentence_58 rfl ?_
    refine fC_gd (x := 8) ⟨by decide, by decide⟩ rfl rfl (Nat.le_of_ble_eq_true rfl) wd_180 rfl h rfl dX10_sentence_59 (fun y11 hy12 h => ?_)
    refine fC_pr (x := 4) (y := y11) (ty := .object "GaleBank$Sentence") ⟨by decide, by decide⟩ rfl rfl (Nat.le_of_ble_eq_true rfl) wd_155 rfl h rfl (by decide +kernel) rfl rfl dX10_sentence_62 (fun C13 h => ?_)
    refine ab_aloadn 0 dX10_sentence_65 rfl ?_
    refine ab_aloadn 1 dX10_sentence_66 rfl ?_
    refine fC_pr (x := 8) (y := y9) (ty := .object "GaleBank$Sentence") ⟨by decide, by decide⟩ rfl rfl (Nat.le_of_ble_eq_true rfl) wd_180 rfl h rfl (by decide +kernel) rfl rfl dX10_sentence_67 (fun C14 h => ?_)
    refine ab_aloadn 0 dX10_sentence_70 rfl ?_
    refine f_gr (x := 4) (k2 := 2) (i2 := 0) (j2 := 0) ⟨by decide, by decide⟩ rfl rfl (Nat.le_of_ble_eq_true rfl) wd_124 rfl rfl dX10_sentence_71 ?_
    refine fC_gd (x := 4) ⟨by decide, by decide⟩ rfl rfl (Nat.le_of_ble_eq_true rfl) wd_155 rfl h rfl dX10_sentence_74 (fun y15 hy16 h => ?_)
    refine fC_gi (x := 0) ⟨hy16, by decide⟩ rfl rfl (Nat.le_of_ble_eq_true rfl) wd_156 (by decide) rfl dX10_sentence_77 ?_
    exact fC_iret h rfl rfl dX10_sentence_80
  · have h := sat_f hc8 h
    refine ab_iconst (v := (-1)) dX10_sentence_36 (by decide) ?_
    refine ab_aloadn 0 dX10_sentence_37 rfl ?_
    refine f_gr (x := 2) (k2 := 1) (i2 := 0) (j2 := 0) ⟨by decide, by decide⟩ rfl rfl (Nat.le_of_ble_eq_true rfl) wd_33 rfl rfl dX10_sentence_38 ?_
    refine fC_gi (x := 6) ⟨by decide, by decide⟩ rfl rfl (Nat.le_of_ble_eq_true rfl) wd_163 (by decide) rfl dX10_sentence_41 ?_
    refine ab_isub dX10_sentence_44 ?_
    exact fC_iret h rfl rfl dX10_sentence_45
theorem ct_X10_sentence {l : Launch} {G : GX} {X : XM} {Q : Int32 → Mem → Prop} (N : Nat) (C : CM) (h : SAT (f_X10_sentence N C) (fun v c => Q v (c, X))) : CT l G 42 mt_X10_sentence [.ref (gA G 0 0 0)] (C, X) Q := ct_of pn_X10 (Nat.le_of_ble_eq_true rfl) (t_X10_sentence_0 N C h)
def f_X10_fault (C : CM) : Option (Int32 × CM) := (rt (C.1 0 0 0 3) C)
set_option maxRecDepth 8000 in
theorem t_X10_fault_0 {l : Launch} {G : GX} {X : XM} {Q : Int32 → Mem → Prop} (C : CM) (h : SAT (f_X10_fault C) (fun v c => Q v (c, X))) : AB l G (rmD 1) 0 0 mt_X10_fault (ZQ G mt_X10_fault Q) 0 [(0, .ref (gA G 0 0 0))] [] (C, X) := by
  unfold f_X10_fault at h
  refine ab_aloadn 0 dX10_fault_0 rfl ?_
  refine fC_gi (x := 3) ⟨by decide, by decide⟩ rfl rfl (Nat.le_of_ble_eq_true rfl) wd_123 (by decide) rfl dX10_fault_1 ?_
  exact fC_iret h rfl rfl dX10_fault_4
theorem ct_X10_fault {l : Launch} {G : GX} {X : XM} {Q : Int32 → Mem → Prop} (C : CM) (h : SAT (f_X10_fault C) (fun v c => Q v (c, X))) : CT l G 1 mt_X10_fault [.ref (gA G 0 0 0)] (C, X) Q := ct_of pn_X10 (Nat.le_of_ble_eq_true rfl) (t_X10_fault_0 C h)
def f_X10_gust (a1 : Int32) (a2 : Int32) (C : CM) : Option (Int32 × CM) := (if a1 < 0 then (rt (-1) C) else (if 48 ≤ a1 then (rt (-1) C) else ldR (C.2 2 0 1) 4 (fun y3 => ldA (C.1 3 y3 5) 48 a1 (fun v5 => (if v5 = 0 then (rt (-1) C) else (if a2 = 0 then ldR (C.2 2 0 1) 4 (fun y8 => ldA (C.1 3 y8 4) 48 a1 (fun v10 => (rt v10 C))) else if a2 = 1 then ldR (C.2 2 0 1) 4 (fun y12 => ldA (C.1 3 y12 5) 48 a1 (fun v14 => (rt v14 C))) else (rt (-1) C)))))))
set_option maxRecDepth 8000 in
theorem t_X10_gust_0 {l : Launch} {G : GX} {X : XM} {Q : Int32 → Mem → Prop} (a1 : Int32) (a2 : Int32) (C : CM) (h : SAT (f_X10_gust a1 a2 C) (fun v c => Q v (c, X))) : AB l G (rmD 1) 0 0 mt_X10_gust (ZQ G mt_X10_gust Q) 0 [(0, .ref (gA G 0 0 0)), (1, .int a1), (2, .int a2)] [] (C, X) := by
  unfold f_X10_gust at h
  refine ab_iloadn 1 dX10_gust_0 rfl ?_
  refine ab_if_lt (tgt := 25) dX10_gust_1 (by decide) (fun hc1 => ?_) (fun hc1 => ?_)
  · have h := sat_t hc1 h
    refine ab_iconst (v := (-1)) dX10_gust_25 (by decide) ?_
    exact fC_iret h rfl rfl dX10_gust_26
  · have h := sat_f hc1 h
    refine ab_iloadn 1 dX10_gust_4 rfl ?_
    refine ab_bipush (v := 48) dX10_gust_5 (by decide) ?_
    refine ab_icmp_ge (tgt := 25) dX10_gust_7 (by decide) (fun hc2 => ?_) (fun hc2 => ?_)
    · have h := sat_t hc2 h
      refine ab_iconst (v := (-1)) dX10_gust_25 (by decide) ?_
      exact fC_iret h rfl rfl dX10_gust_26
    · have h := sat_f hc2 h
      refine ab_aloadn 0 dX10_gust_10 rfl ?_
      refine f_gr (x := 4) (k2 := 2) (i2 := 0) (j2 := 0) ⟨by decide, by decide⟩ rfl rfl (Nat.le_of_ble_eq_true rfl) wd_124 rfl rfl dX10_gust_11 ?_
      refine fC_gd (x := 1) ⟨by decide, by decide⟩ rfl rfl (Nat.le_of_ble_eq_true rfl) wd_125 rfl h rfl dX10_gust_14 (fun y3 hy4 h => ?_)
      refine f_gr (x := 15) (k2 := 3) (i2 := y3) (j2 := 5) ⟨hy4, by decide⟩ rfl rfl (Nat.le_of_ble_eq_true rfl) wd_183 rfl rfl dX10_gust_17 ?_
      refine ab_iloadn 1 dX10_gust_20 rfl ?_
      refine fC_iald ⟨hy4, by decide⟩ rfl (by decide) (fun _ => rfl) h dX10_gust_21 (fun v5 h => ?_)
      refine ab_if_ne (tgt := 27) dX10_gust_22 (by decide) (fun hc6 => ?_) (fun hc6 => ?_)
      · have h := sat_f hc6 h
        refine ab_iloadn 2 dX10_gust_27 rfl ?_
        by_cases hc7 : a2 = 0
        · have h := sat_t hc7 h
          refine ab_lsw (tgt := 56) (off := 28) (by decide) (by rw [hc7]; decide) (by decide) dX10_gust_28 ?_
          refine ab_aloadn 0 dX10_gust_56 rfl ?_
          refine f_gr (x := 4) (k2 := 2) (i2 := 0) (j2 := 0) ⟨by decide, by decide⟩ rfl rfl (Nat.le_of_ble_eq_true rfl) wd_124 rfl rfl dX10_gust_57 ?_
          refine fC_gd (x := 1) ⟨by decide, by decide⟩ rfl rfl (Nat.le_of_ble_eq_true rfl) wd_125 rfl h rfl dX10_gust_60 (fun y8 hy9 h => ?_)
          refine f_gr (x := 14) (k2 := 3) (i2 := y8) (j2 := 4) ⟨hy9, by decide⟩ rfl rfl (Nat.le_of_ble_eq_true rfl) wd_184 rfl rfl dX10_gust_63 ?_
          refine ab_iloadn 1 dX10_gust_66 rfl ?_
          refine fC_iald ⟨hy9, by decide⟩ rfl (by decide) (fun _ => rfl) h dX10_gust_67 (fun v10 h => ?_)
          exact fC_iret h rfl rfl dX10_gust_68
        have h := sat_f hc7 h
        by_cases hc11 : a2 = 1
        · have h := sat_t hc11 h
          refine ab_lsw (tgt := 69) (off := 41) (by decide) (by rw [hc11]; decide) (by decide) dX10_gust_28 ?_
          refine ab_aloadn 0 dX10_gust_69 rfl ?_
          refine f_gr (x := 4) (k2 := 2) (i2 := 0) (j2 := 0) ⟨by decide, by decide⟩ rfl rfl (Nat.le_of_ble_eq_true rfl) wd_124 rfl rfl dX10_gust_70 ?_
          refine fC_gd (x := 1) ⟨by decide, by decide⟩ rfl rfl (Nat.le_of_ble_eq_true rfl) wd_125 rfl h rfl dX10_gust_73 (fun y12 hy13 h => ?_)
          refine f_gr (x := 15) (k2 := 3) (i2 := y12) (j2 := 5) ⟨hy13, by decide⟩ rfl rfl (Nat.le_of_ble_eq_true rfl) wd_183 rfl rfl dX10_gust_76 ?_
          refine ab_iloadn 1 dX10_gust_79 rfl ?_
          refine fC_iald ⟨hy13, by decide⟩ rfl (by decide) (fun _ => rfl) h dX10_gust_80 (fun v14 h => ?_)
          exact fC_iret h rfl rfl dX10_gust_81
        have h := sat_f hc11 h
        refine ab_lsw (tgt := 82) (off := 54) (by decide) (by refine (lv_osw hc7 (by decide)).trans ?_; refine (lv_osw hc11 (by decide)).trans ?_; rfl) (by decide) dX10_gust_28 ?_
        refine ab_iconst (v := (-1)) dX10_gust_82 (by decide) ?_
        exact fC_iret h rfl rfl dX10_gust_83
      · have h := sat_t hc6 h
        refine ab_iconst (v := (-1)) dX10_gust_25 (by decide) ?_
        exact fC_iret h rfl rfl dX10_gust_26
theorem ct_X10_gust {l : Launch} {G : GX} {X : XM} {Q : Int32 → Mem → Prop} (a1 : Int32) (a2 : Int32) (C : CM) (h : SAT (f_X10_gust a1 a2 C) (fun v c => Q v (c, X))) : CT l G 1 mt_X10_gust [.ref (gA G 0 0 0), .int a1, .int a2] (C, X) Q := ct_of pn_X10 (Nat.le_of_ble_eq_true rfl) (t_X10_gust_0 a1 a2 C h)
def f_X10_sum_g_4 (N : Nat) (r0 : Nat) : Nat → Int32 → Int32 → CM → Option (Int32 × CM)
  | 0, _, _, _ => none
  | n + 1, a1, a2, C => (if 8 ≤ a2 then (rt a1 C) else ldA (C.1 4 r0 1) 8 a2 (fun v2 => (f_X10_sum_g_4 N r0 n (a1 + v2) (a2 + 1) C)))
def f_X10_sum_g (N : Nat) (r0 : Nat) (C : CM) : Option (Int32 × CM) := (f_X10_sum_g_4 N r0 N 0 0 C)
set_option maxRecDepth 8000 in
theorem t_X10_sum_g_4 {l : Launch} {G : GX} {X : XM} {Q : Int32 → Mem → Prop} (N : Nat) (r0 : Nat) (h0 : r0 < 12) : ∀ (n : Nat) (a1 : Int32) (a2 : Int32) (C : CM), SAT (f_X10_sum_g_4 N r0 n a1 a2 C) (fun v c => Q v (c, X)) → AB l G (rmD 1) 0 0 mt_X10_sum (ZQ G mt_X10_sum Q) 4 [(0, .ref (gA G 4 r0 1)), (1, .int a1), (2, .int a2)] [] (C, X) := by
  intro n
  induction n with
  | zero => intro a1 a2 C h; exact h.elim
  | succ n ih =>
    intro a1 a2 C h
    rw [f_X10_sum_g_4] at h
    refine ab_iloadn 2 dX10_sum_4 rfl ?_
    refine ab_aloadn 0 dX10_sum_5 rfl ?_
    refine ab_alen (v := 8) ⟨h0, by decide⟩ rfl (by decide) (by decide) dX10_sum_6 ?_
    refine ab_icmp_ge (tgt := 22) dX10_sum_7 (by decide) (fun hc1 => ?_) (fun hc1 => ?_)
    · have h := sat_t hc1 h
      refine ab_iloadn 1 dX10_sum_22 rfl ?_
      exact fC_iret h rfl rfl dX10_sum_23
    · have h := sat_f hc1 h
      refine ab_iloadn 1 dX10_sum_10 rfl ?_
      refine ab_aloadn 0 dX10_sum_11 rfl ?_
      refine ab_iloadn 2 dX10_sum_12 rfl ?_
      refine fC_iald ⟨h0, by decide⟩ rfl (by decide) (fun _ => rfl) h dX10_sum_13 (fun v2 h => ?_)
      refine ab_iadd dX10_sum_14 ?_
      refine ab_istoren (lv' := [(0, .ref (gA G 4 r0 1)), (1, .int (a1 + v2)), (2, .int a2)]) dX10_sum_15 rfl (Nat.le_of_ble_eq_true rfl) rfl ?_
      refine ab_iinc (q := 2) (v := (a2 + 1)) (lv' := [(0, .ref (gA G 4 r0 1)), (1, .int (a1 + v2)), (2, .int (a2 + 1))]) dX10_sum_16 rfl rfl rfl (Nat.le_of_ble_eq_true rfl) rfl ?_
      refine ab_goto (tgt := 4) dX10_sum_19 (by decide) ?_
      exact ih (a1 + v2) (a2 + 1) C h
set_option maxRecDepth 8000 in
theorem t_X10_sum_g_0 {l : Launch} {G : GX} {X : XM} {Q : Int32 → Mem → Prop} (N : Nat) (r0 : Nat) (h0 : r0 < 12) (C : CM) (h : SAT (f_X10_sum_g N r0 C) (fun v c => Q v (c, X))) : AB l G (rmD 1) 0 0 mt_X10_sum (ZQ G mt_X10_sum Q) 0 [(0, .ref (gA G 4 r0 1))] [] (C, X) := by
  unfold f_X10_sum_g at h
  refine ab_iconst (v := 0) dX10_sum_0 (by decide) ?_
  refine ab_istoren (lv' := [(0, .ref (gA G 4 r0 1)), (1, .int 0)]) dX10_sum_1 rfl (Nat.le_of_ble_eq_true rfl) rfl ?_
  refine ab_iconst (v := 0) dX10_sum_2 (by decide) ?_
  refine ab_istoren (lv' := [(0, .ref (gA G 4 r0 1)), (1, .int 0), (2, .int 0)]) dX10_sum_3 rfl (Nat.le_of_ble_eq_true rfl) rfl ?_
  exact t_X10_sum_g_4 N r0 h0 N 0 0 C h
theorem ct_X10_sum_g {l : Launch} {G : GX} {X : XM} {Q : Int32 → Mem → Prop} (N : Nat) (r0 : Nat) (h0 : r0 < 12) (C : CM) (h : SAT (f_X10_sum_g N r0 C) (fun v c => Q v (c, X))) : CT l G 1 mt_X10_sum [.ref (gA G 4 r0 1)] (C, X) Q := ct_of pn_X10 (Nat.le_of_ble_eq_true rfl) (t_X10_sum_g_0 N r0 h0 C h)
def f_X10_sum_p_4 (N : Nat) (r0 : Nat) : Nat → Int32 → Int32 → CM → Option (Int32 × CM)
  | 0, _, _, _ => none
  | n + 1, a1, a2, C => (if 8 ≤ a2 then (rt a1 C) else ldA (C.1 4 r0 2) 8 a2 (fun v2 => (f_X10_sum_p_4 N r0 n (a1 + v2) (a2 + 1) C)))
def f_X10_sum_p (N : Nat) (r0 : Nat) (C : CM) : Option (Int32 × CM) := (f_X10_sum_p_4 N r0 N 0 0 C)
set_option maxRecDepth 8000 in
theorem t_X10_sum_p_4 {l : Launch} {G : GX} {X : XM} {Q : Int32 → Mem → Prop} (N : Nat) (r0 : Nat) (h0 : r0 < 12) : ∀ (n : Nat) (a1 : Int32) (a2 : Int32) (C : CM), SAT (f_X10_sum_p_4 N r0 n a1 a2 C) (fun v c => Q v (c, X)) → AB l G (rmD 1) 0 0 mt_X10_sum (ZQ G mt_X10_sum Q) 4 [(0, .ref (gA G 4 r0 2)), (1, .int a1), (2, .int a2)] [] (C, X) := by
  intro n
  induction n with
  | zero => intro a1 a2 C h; exact h.elim
  | succ n ih =>
    intro a1 a2 C h
    rw [f_X10_sum_p_4] at h
    refine ab_iloadn 2 dX10_sum_4 rfl ?_
    refine ab_aloadn 0 dX10_sum_5 rfl ?_
    refine ab_alen (v := 8) ⟨h0, by decide⟩ rfl (by decide) (by decide) dX10_sum_6 ?_
    refine ab_icmp_ge (tgt := 22) dX10_sum_7 (by decide) (fun hc1 => ?_) (fun hc1 => ?_)
    · have h := sat_t hc1 h
      refine ab_iloadn 1 dX10_sum_22 rfl ?_
      exact fC_iret h rfl rfl dX10_sum_23
    · have h := sat_f hc1 h
      refine ab_iloadn 1 dX10_sum_10 rfl ?_
      refine ab_aloadn 0 dX10_sum_11 rfl ?_
      refine ab_iloadn 2 dX10_sum_12 rfl ?_
      refine fC_iald ⟨h0, by decide⟩ rfl (by decide) (fun _ => rfl) h dX10_sum_13 (fun v2 h => ?_)
      refine ab_iadd dX10_sum_14 ?_
      refine ab_istoren (lv' := [(0, .ref (gA G 4 r0 2)), (1, .int (a1 + v2)), (2, .int a2)]) dX10_sum_15 rfl (Nat.le_of_ble_eq_true rfl) rfl ?_
      refine ab_iinc (q := 2) (v := (a2 + 1)) (lv' := [(0, .ref (gA G 4 r0 2)), (1, .int (a1 + v2)), (2, .int (a2 + 1))]) dX10_sum_16 rfl rfl rfl (Nat.le_of_ble_eq_true rfl) rfl ?_
      refine ab_goto (tgt := 4) dX10_sum_19 (by decide) ?_
      exact ih (a1 + v2) (a2 + 1) C h
set_option maxRecDepth 8000 in
theorem t_X10_sum_p_0 {l : Launch} {G : GX} {X : XM} {Q : Int32 → Mem → Prop} (N : Nat) (r0 : Nat) (h0 : r0 < 12) (C : CM) (h : SAT (f_X10_sum_p N r0 C) (fun v c => Q v (c, X))) : AB l G (rmD 1) 0 0 mt_X10_sum (ZQ G mt_X10_sum Q) 0 [(0, .ref (gA G 4 r0 2))] [] (C, X) := by
  unfold f_X10_sum_p at h
  refine ab_iconst (v := 0) dX10_sum_0 (by decide) ?_
  refine ab_istoren (lv' := [(0, .ref (gA G 4 r0 2)), (1, .int 0)]) dX10_sum_1 rfl (Nat.le_of_ble_eq_true rfl) rfl ?_
  refine ab_iconst (v := 0) dX10_sum_2 (by decide) ?_
  refine ab_istoren (lv' := [(0, .ref (gA G 4 r0 2)), (1, .int 0), (2, .int 0)]) dX10_sum_3 rfl (Nat.le_of_ble_eq_true rfl) rfl ?_
  exact t_X10_sum_p_4 N r0 h0 N 0 0 C h
theorem ct_X10_sum_p {l : Launch} {G : GX} {X : XM} {Q : Int32 → Mem → Prop} (N : Nat) (r0 : Nat) (h0 : r0 < 12) (C : CM) (h : SAT (f_X10_sum_p N r0 C) (fun v c => Q v (c, X))) : CT l G 1 mt_X10_sum [.ref (gA G 4 r0 2)] (C, X) Q := ct_of pn_X10 (Nat.le_of_ble_eq_true rfl) (t_X10_sum_p_0 N r0 h0 C h)
def f_J6_bitCount_0f7a4 (a0 : Int32) (C : CM) : Option (Int32 × CM) := (rt ((((((((a0 - (((Int32.toUInt32 a0 >>> (Int32.toUInt32 1 &&& Int32.toUInt32 31)).toInt32) &&& 1431655765)) &&& 858993459) + (((Int32.toUInt32 (a0 - (((Int32.toUInt32 a0 >>> (Int32.toUInt32 1 &&& Int32.toUInt32 31)).toInt32) &&& 1431655765)) >>> (Int32.toUInt32 2 &&& Int32.toUInt32 31)).toInt32) &&& 858993459)) + ((Int32.toUInt32 (((a0 - (((Int32.toUInt32 a0 >>> (Int32.toUInt32 1 &&& Int32.toUInt32 31)).toInt32) &&& 1431655765)) &&& 858993459) + (((Int32.toUInt32 (a0 - (((Int32.toUInt32 a0 >>> (Int32.toUInt32 1 &&& Int32.toUInt32 31)).toInt32) &&& 1431655765)) >>> (Int32.toUInt32 2 &&& Int32.toUInt32 31)).toInt32) &&& 858993459)) >>> (Int32.toUInt32 4 &&& Int32.toUInt32 31)).toInt32)) &&& 252645135) + ((Int32.toUInt32 (((((a0 - (((Int32.toUInt32 a0 >>> (Int32.toUInt32 1 &&& Int32.toUInt32 31)).toInt32) &&& 1431655765)) &&& 858993459) + (((Int32.toUInt32 (a0 - (((Int32.toUInt32 a0 >>> (Int32.toUInt32 1 &&& Int32.toUInt32 31)).toInt32) &&& 1431655765)) >>> (Int32.toUInt32 2 &&& Int32.toUInt32 31)).toInt32) &&& 858993459)) + ((Int32.toUInt32 (((a0 - (((Int32.toUInt32 a0 >>> (Int32.toUInt32 1 &&& Int32.toUInt32 31)).toInt32) &&& 1431655765)) &&& 858993459) + (((Int32.toUInt32 (a0 - (((Int32.toUInt32 a0 >>> (Int32.toUInt32 1 &&& Int32.toUInt32 31)).toInt32) &&& 1431655765)) >>> (Int32.toUInt32 2 &&& Int32.toUInt32 31)).toInt32) &&& 858993459)) >>> (Int32.toUInt32 4 &&& Int32.toUInt32 31)).toInt32)) &&& 252645135) >>> (Int32.toUInt32 8 &&& Int32.toUInt32 31)).toInt32)) + ((Int32.toUInt32 ((((((a0 - (((Int32.toUInt32 a0 >>> (Int32.toUInt32 1 &&& Int32.toUInt32 31)).toInt32) &&& 1431655765)) &&& 858993459) + (((Int32.toUInt32 (a0 - (((Int32.toUInt32 a0 >>> (Int32.toUInt32 1 &&& Int32.toUInt32 31)).toInt32) &&& 1431655765)) >>> (Int32.toUInt32 2 &&& Int32.toUInt32 31)).toInt32) &&& 858993459)) + ((Int32.toUInt32 (((a0 - (((Int32.toUInt32 a0 >>> (Int32.toUInt32 1 &&& Int32.toUInt32 31)).toInt32) &&& 1431655765)) &&& 858993459) + (((Int32.toUInt32 (a0 - (((Int32.toUInt32 a0 >>> (Int32.toUInt32 1 &&& Int32.toUInt32 31)).toInt32) &&& 1431655765)) >>> (Int32.toUInt32 2 &&& Int32.toUInt32 31)).toInt32) &&& 858993459)) >>> (Int32.toUInt32 4 &&& Int32.toUInt32 31)).toInt32)) &&& 252645135) + ((Int32.toUInt32 (((((a0 - (((Int32.toUInt32 a0 >>> (Int32.toUInt32 1 &&& Int32.toUInt32 31)).toInt32) &&& 1431655765)) &&& 858993459) + (((Int32.toUInt32 (a0 - (((Int32.toUInt32 a0 >>> (Int32.toUInt32 1 &&& Int32.toUInt32 31)).toInt32) &&& 1431655765)) >>> (Int32.toUInt32 2 &&& Int32.toUInt32 31)).toInt32) &&& 858993459)) + ((Int32.toUInt32 (((a0 - (((Int32.toUInt32 a0 >>> (Int32.toUInt32 1 &&& Int32.toUInt32 31)).toInt32) &&& 1431655765)) &&& 858993459) + (((Int32.toUInt32 (a0 - (((Int32.toUInt32 a0 >>> (Int32.toUInt32 1 &&& Int32.toUInt32 31)).toInt32) &&& 1431655765)) >>> (Int32.toUInt32 2 &&& Int32.toUInt32 31)).toInt32) &&& 858993459)) >>> (Int32.toUInt32 4 &&& Int32.toUInt32 31)).toInt32)) &&& 252645135) >>> (Int32.toUInt32 8 &&& Int32.toUInt32 31)).toInt32)) >>> (Int32.toUInt32 16 &&& Int32.toUInt32 31)).toInt32)) &&& 63) C)
set_option maxRecDepth 8000 in
theorem t_J6_bitCount_0f7a4_0 {l : Launch} {G : GX} {X : XM} {Q : Int32 → Mem → Prop} (a0 : Int32) (C : CM) (h : SAT (f_J6_bitCount_0f7a4 a0 C) (fun v c => Q v (c, X))) : AB l G (rmD 1) 0 0 mt_J6_bitCount_0f7a4 (ZQ G mt_J6_bitCount_0f7a4 Q) 0 [(0, .int a0)] [] (C, X) := by
  unfold f_J6_bitCount_0f7a4 at h
  refine ab_iloadn 0 dJ6_bitCount_0f7a4_0 rfl ?_
  refine ab_iloadn 0 dJ6_bitCount_0f7a4_1 rfl ?_
  refine ab_iconst (v := 1) dJ6_bitCount_0f7a4_2 (by decide) ?_
  refine ab_iushr dJ6_bitCount_0f7a4_3 ?_
  refine ab_ldcw wd_193 dJ6_bitCount_0f7a4_4 ?_
  refine ab_iand dJ6_bitCount_0f7a4_7 ?_
  refine ab_isub dJ6_bitCount_0f7a4_8 ?_
  refine ab_istoren (lv' := [(0, .int (a0 - (((Int32.toUInt32 a0 >>> (Int32.toUInt32 1 &&& Int32.toUInt32 31)).toInt32) &&& 1431655765)))]) dJ6_bitCount_0f7a4_9 rfl (Nat.le_of_ble_eq_true rfl) rfl ?_
  refine ab_iloadn 0 dJ6_bitCount_0f7a4_10 rfl ?_
  refine ab_ldcw wd_194 dJ6_bitCount_0f7a4_11 ?_
  refine ab_iand dJ6_bitCount_0f7a4_14 ?_
  refine ab_iloadn 0 dJ6_bitCount_0f7a4_15 rfl ?_
  refine ab_iconst (v := 2) dJ6_bitCount_0f7a4_16 (by decide) ?_
  refine ab_iushr dJ6_bitCount_0f7a4_17 ?_
  refine ab_ldcw wd_194 dJ6_bitCount_0f7a4_18 ?_
  refine ab_iand dJ6_bitCount_0f7a4_21 ?_
  refine ab_iadd dJ6_bitCount_0f7a4_22 ?_
  refine ab_istoren (lv' := [(0, .int (((a0 - (((Int32.toUInt32 a0 >>> (Int32.toUInt32 1 &&& Int32.toUInt32 31)).toInt32) &&& 1431655765)) &&& 858993459) + (((Int32.toUInt32 (a0 - (((Int32.toUInt32 a0 >>> (Int32.toUInt32 1 &&& Int32.toUInt32 31)).toInt32) &&& 1431655765)) >>> (Int32.toUInt32 2 &&& Int32.toUInt32 31)).toInt32) &&& 858993459)))]) dJ6_bitCount_0f7a4_23 rfl (Nat.le_of_ble_eq_true rfl) rfl ?_
  refine ab_iloadn 0 dJ6_bitCount_0f7a4_24 rfl ?_
  refine ab_iloadn 0 dJ6_bitCount_0f7a4_25 rfl ?_
  refine ab_iconst (v := 4) dJ6_bitCount_0f7a4_26 (by decide) ?_
  refine ab_iushr dJ6_bitCount_0f7a4_27 ?_
  refine ab_iadd dJ6_bitCount_0f7a4_28 ?_
  refine ab_ldcw wd_195 dJ6_bitCount_0f7a4_29 ?_
  refine ab_iand dJ6_bitCount_0f7a4_32 ?_
  refine ab_istoren (lv' := [(0, .int (((((a0 - (((Int32.toUInt32 a0 >>> (Int32.toUInt32 1 &&& Int32.toUInt32 31)).toInt32) &&& 1431655765)) &&& 858993459) + (((Int32.toUInt32 (a0 - (((Int32.toUInt32 a0 >>> (Int32.toUInt32 1 &&& Int32.toUInt32 31)).toInt32) &&& 1431655765)) >>> (Int32.toUInt32 2 &&& Int32.toUInt32 31)).toInt32) &&& 858993459)) + ((Int32.toUInt32 (((a0 - (((Int32.toUInt32 a0 >>> (Int32.toUInt32 1 &&& Int32.toUInt32 31)).toInt32) &&& 1431655765)) &&& 858993459) + (((Int32.toUInt32 (a0 - (((Int32.toUInt32 a0 >>> (Int32.toUInt32 1 &&& Int32.toUInt32 31)).toInt32) &&& 1431655765)) >>> (Int32.toUInt32 2 &&& Int32.toUInt32 31)).toInt32) &&& 858993459)) >>> (Int32.toUInt32 4 &&& Int32.toUInt32 31)).toInt32)) &&& 252645135))]) dJ6_bitCount_0f7a4_33 rfl (Nat.le_of_ble_eq_true rfl) rfl ?_
  refine ab_iloadn 0 dJ6_bitCount_0f7a4_34 rfl ?_
  refine ab_iloadn 0 dJ6_bitCount_0f7a4_35 rfl ?_
  refine ab_bipush (v := 8) dJ6_bitCount_0f7a4_36 (by decide) ?_
  refine ab_iushr dJ6_bitCount_0f7a4_38 ?_
  refine ab_iadd dJ6_bitCount_0f7a4_39 ?_
  refine ab_istoren (lv' := [(0, .int ((((((a0 - (((Int32.toUInt32 a0 >>> (Int32.toUInt32 1 &&& Int32.toUInt32 31)).toInt32) &&& 1431655765)) &&& 858993459) + (((Int32.toUInt32 (a0 - (((Int32.toUInt32 a0 >>> (Int32.toUInt32 1 &&& Int32.toUInt32 31)).toInt32) &&& 1431655765)) >>> (Int32.toUInt32 2 &&& Int32.toUInt32 31)).toInt32) &&& 858993459)) + ((Int32.toUInt32 (((a0 - (((Int32.toUInt32 a0 >>> (Int32.toUInt32 1 &&& Int32.toUInt32 31)).toInt32) &&& 1431655765)) &&& 858993459) + (((Int32.toUInt32 (a0 - (((Int32.toUInt32 a0 >>> (Int32.toUInt32 1 &&& Int32.toUInt32 31)).toInt32) &&& 1431655765)) >>> (Int32.toUInt32 2 &&& Int32.toUInt32 31)).toInt32) &&& 858993459)) >>> (Int32.toUInt32 4 &&& Int32.toUInt32 31)).toInt32)) &&& 252645135) + ((Int32.toUInt32 (((((a0 - (((Int32.toUInt32 a0 >>> (Int32.toUInt32 1 &&& Int32.toUInt32 31)).toInt32) &&& 1431655765)) &&& 858993459) + (((Int32.toUInt32 (a0 - (((Int32.toUInt32 a0 >>> (Int32.toUInt32 1 &&& Int32.toUInt32 31)).toInt32) &&& 1431655765)) >>> (Int32.toUInt32 2 &&& Int32.toUInt32 31)).toInt32) &&& 858993459)) + ((Int32.toUInt32 (((a0 - (((Int32.toUInt32 a0 >>> (Int32.toUInt32 1 &&& Int32.toUInt32 31)).toInt32) &&& 1431655765)) &&& 858993459) + (((Int32.toUInt32 (a0 - (((Int32.toUInt32 a0 >>> (Int32.toUInt32 1 &&& Int32.toUInt32 31)).toInt32) &&& 1431655765)) >>> (Int32.toUInt32 2 &&& Int32.toUInt32 31)).toInt32) &&& 858993459)) >>> (Int32.toUInt32 4 &&& Int32.toUInt32 31)).toInt32)) &&& 252645135) >>> (Int32.toUInt32 8 &&& Int32.toUInt32 31)).toInt32)))]) dJ6_bitCount_0f7a4_40 rfl (Nat.le_of_ble_eq_true rfl) rfl ?_
  refine ab_iloadn 0 dJ6_bitCount_0f7a4_41 rfl ?_
  refine ab_iloadn 0 dJ6_bitCount_0f7a4_42 rfl ?_
  refine ab_bipush (v := 16) dJ6_bitCount_0f7a4_43 (by decide) ?_
  refine ab_iushr dJ6_bitCount_0f7a4_45 ?_
  refine ab_iadd dJ6_bitCount_0f7a4_46 ?_
  refine ab_istoren (lv' := [(0, .int (((((((a0 - (((Int32.toUInt32 a0 >>> (Int32.toUInt32 1 &&& Int32.toUInt32 31)).toInt32) &&& 1431655765)) &&& 858993459) + (((Int32.toUInt32 (a0 - (((Int32.toUInt32 a0 >>> (Int32.toUInt32 1 &&& Int32.toUInt32 31)).toInt32) &&& 1431655765)) >>> (Int32.toUInt32 2 &&& Int32.toUInt32 31)).toInt32) &&& 858993459)) + ((Int32.toUInt32 (((a0 - (((Int32.toUInt32 a0 >>> (Int32.toUInt32 1 &&& Int32.toUInt32 31)).toInt32) &&& 1431655765)) &&& 858993459) + (((Int32.toUInt32 (a0 - (((Int32.toUInt32 a0 >>> (Int32.toUInt32 1 &&& Int32.toUInt32 31)).toInt32) &&& 1431655765)) >>> (Int32.toUInt32 2 &&& Int32.toUInt32 31)).toInt32) &&& 858993459)) >>> (Int32.toUInt32 4 &&& Int32.toUInt32 31)).toInt32)) &&& 252645135) + ((Int32.toUInt32 (((((a0 - (((Int32.toUInt32 a0 >>> (Int32.toUInt32 1 &&& Int32.toUInt32 31)).toInt32) &&& 1431655765)) &&& 858993459) + (((Int32.toUInt32 (a0 - (((Int32.toUInt32 a0 >>> (Int32.toUInt32 1 &&& Int32.toUInt32 31)).toInt32) &&& 1431655765)) >>> (Int32.toUInt32 2 &&& Int32.toUInt32 31)).toInt32) &&& 858993459)) + ((Int32.toUInt32 (((a0 - (((Int32.toUInt32 a0 >>> (Int32.toUInt32 1 &&& Int32.toUInt32 31)).toInt32) &&& 1431655765)) &&& 858993459) + (((Int32.toUInt32 (a0 - (((Int32.toUInt32 a0 >>> (Int32.toUInt32 1 &&& Int32.toUInt32 31)).toInt32) &&& 1431655765)) >>> (Int32.toUInt32 2 &&& Int32.toUInt32 31)).toInt32) &&& 858993459)) >>> (Int32.toUInt32 4 &&& Int32.toUInt32 31)).toInt32)) &&& 252645135) >>> (Int32.toUInt32 8 &&& Int32.toUInt32 31)).toInt32)) + ((Int32.toUInt32 ((((((a0 - (((Int32.toUInt32 a0 >>> (Int32.toUInt32 1 &&& Int32.toUInt32 31)).toInt32) &&& 1431655765)) &&& 858993459) + (((Int32.toUInt32 (a0 - (((Int32.toUInt32 a0 >>> (Int32.toUInt32 1 &&& Int32.toUInt32 31)).toInt32) &&& 1431655765)) >>> (Int32.toUInt32 2 &&& Int32.toUInt32 31)).toInt32) &&& 858993459)) + ((Int32.toUInt32 (((a0 - (((Int32.toUInt32 a0 >>> (Int32.toUInt32 1 &&& Int32.toUInt32 31)).toInt32) &&& 1431655765)) &&& 858993459) + (((Int32.toUInt32 (a0 - (((Int32.toUInt32 a0 >>> (Int32.toUInt32 1 &&& Int32.toUInt32 31)).toInt32) &&& 1431655765)) >>> (Int32.toUInt32 2 &&& Int32.toUInt32 31)).toInt32) &&& 858993459)) >>> (Int32.toUInt32 4 &&& Int32.toUInt32 31)).toInt32)) &&& 252645135) + ((Int32.toUInt32 (((((a0 - (((Int32.toUInt32 a0 >>> (Int32.toUInt32 1 &&& Int32.toUInt32 31)).toInt32) &&& 1431655765)) &&& 858993459) + (((Int32.toUInt32 (a0 - (((Int32.toUInt32 a0 >>> (Int32.toUInt32 1 &&& Int32.toUInt32 31)).toInt32) &&& 1431655765)) >>> (Int32.toUInt32 2 &&& Int32.toUInt32 31)).toInt32) &&& 858993459)) + ((Int32.toUInt32 (((a0 - (((Int32.toUInt32 a0 >>> (Int32.toUInt32 1 &&& Int32.toUInt32 31)).toInt32) &&& 1431655765)) &&& 858993459) + (((Int32.toUInt32 (a0 - (((Int32.toUInt32 a0 >>> (Int32.toUInt32 1 &&& Int32.toUInt32 31)).toInt32) &&& 1431655765)) >>> (Int32.toUInt32 2 &&& Int32.toUInt32 31)).toInt32) &&& 858993459)) >>> (Int32.toUInt32 4 &&& Int32.toUInt32 31)).toInt32)) &&& 252645135) >>> (Int32.toUInt32 8 &&& Int32.toUInt32 31)).toInt32)) >>> (Int32.toUInt32 16 &&& Int32.toUInt32 31)).toInt32)))]) dJ6_bitCount_0f7a4_47 rfl (Nat.le_of_ble_eq_true rfl) rfl ?_
  refine ab_iloadn 0 dJ6_bitCount_0f7a4_48 rfl ?_
  refine ab_bipush (v := 63) dJ6_bitCount_0f7a4_49 (by decide) ?_
  refine ab_iand dJ6_bitCount_0f7a4_51 ?_
  exact fC_iret h rfl rfl dJ6_bitCount_0f7a4_52
theorem ct_J6_bitCount_0f7a4 {l : Launch} {G : GX} {X : XM} {Q : Int32 → Mem → Prop} (a0 : Int32) (C : CM) (h : SAT (f_J6_bitCount_0f7a4 a0 C) (fun v c => Q v (c, X))) : CT l G 1 mt_J6_bitCount_0f7a4 [.int a0] (C, X) Q := ct_of pn_J6 (Nat.le_of_ble_eq_true rfl) (t_J6_bitCount_0f7a4_0 a0 C h)
def f_X10_now (N : Nat) (a1 : Int32) (C : CM) : Option (Int32 × CM) := (if a1 = 0 then (rt (C.1 4 0 0 0) C) else if a1 = 1 then (rt (C.1 4 0 0 1) C) else if a1 = 2 then cal (f_X10_sum_g N 0 C) (fun v4 C5 => (rt v4 C5)) else if a1 = 3 then cal (f_X10_sum_p N 0 C) (fun v7 C8 => (rt v7 C8)) else if a1 = 4 then (rt (C.1 4 0 0 2) C) else if a1 = 5 then cal (f_J6_bitCount_0f7a4 (C.1 4 0 0 3) C) (fun v11 C12 => (rt v11 C12)) else if a1 = 6 then (rt (C.1 4 0 0 4) C) else if a1 = 7 then (rt (C.1 4 0 0 5) C) else (rt (-1) C))
set_option maxRecDepth 8000 in
theorem t_X10_now_0 {l : Launch} {G : GX} {X : XM} {Q : Int32 → Mem → Prop} (N : Nat) (a1 : Int32) (C : CM) (h : SAT (f_X10_now N a1 C) (fun v c => Q v (c, X))) : AB l G (rmD 2) 0 0 mt_X10_now (ZQ G mt_X10_now Q) 0 [(0, .ref (gA G 0 0 0)), (1, .int a1)] [] (C, X) := by
  unfold f_X10_now at h
  refine ab_aloadn 0 dX10_now_0 rfl ?_
  refine f_gr (x := 4) (k2 := 2) (i2 := 0) (j2 := 0) ⟨by decide, by decide⟩ rfl rfl (Nat.le_of_ble_eq_true rfl) wd_124 rfl rfl dX10_now_1 ?_
  refine f_gr (x := 2) (k2 := 4) (i2 := 0) (j2 := 0) ⟨by decide, by decide⟩ rfl rfl (Nat.le_of_ble_eq_true rfl) wd_126 rfl rfl dX10_now_4 ?_
  refine ab_astoren (lv' := [(0, .ref (gA G 0 0 0)), (1, .int a1), (2, .ref (gA G 4 0 0))]) dX10_now_7 rfl (Nat.le_of_ble_eq_true rfl) rfl ?_
  refine ab_iloadn 1 dX10_now_8 rfl ?_
  by_cases hc1 : a1 = 0
  · have h := sat_t hc1 h
    refine ab_tin (tgt := 56) (off := 47) hc1 (by decide) (by decide) (by decide) (by decide) dX10_now_9 ?_
    refine ab_aloadn 2 dX10_now_56 rfl ?_
    refine fC_gi (x := 0) ⟨by decide, by decide⟩ rfl rfl (Nat.le_of_ble_eq_true rfl) wd_185 (by decide) rfl dX10_now_57 ?_
    exact fC_iret h rfl rfl dX10_now_60
  have h := sat_f hc1 h
  by_cases hc2 : a1 = 1
  · have h := sat_t hc2 h
    refine ab_tin (tgt := 61) (off := 52) hc2 (by decide) (by decide) (by decide) (by decide) dX10_now_9 ?_
    refine ab_aloadn 2 dX10_now_61 rfl ?_
    refine fC_gi (x := 1) ⟨by decide, by decide⟩ rfl rfl (Nat.le_of_ble_eq_true rfl) wd_186 (by decide) rfl dX10_now_62 ?_
    exact fC_iret h rfl rfl dX10_now_65
  have h := sat_f hc2 h
  by_cases hc3 : a1 = 2
  · have h := sat_t hc3 h
    refine ab_tin (tgt := 66) (off := 57) hc3 (by decide) (by decide) (by decide) (by decide) dX10_now_9 ?_
    refine ab_aloadn 2 dX10_now_66 rfl ?_
    refine f_gr (x := 6) (k2 := 4) (i2 := 0) (j2 := 1) ⟨by decide, by decide⟩ rfl rfl (Nat.le_of_ble_eq_true rfl) wd_187 rfl rfl dX10_now_67 ?_
    refine fC_Si (mtc := mt_X10_sum) (As := [.ref (gA G 4 0 1)]) h (fun Q h => ct_X10_sum_g N 0 (by decide) C h) mw_X10_sum wd_188 wd_189 rfl rfl ⟨Nat.le_of_ble_eq_true rfl, Nat.le_of_ble_eq_true rfl⟩ ⟨Nat.zero_le _, Nat.zero_le _⟩ (Nat.le_of_ble_eq_true rfl) rfl dX10_now_70 (fun v4 C5 h => ?_)
    exact fC_iret h rfl rfl dX10_now_73
  have h := sat_f hc3 h
  by_cases hc6 : a1 = 3
  · have h := sat_t hc6 h
    refine ab_tin (tgt := 74) (off := 65) hc6 (by decide) (by decide) (by decide) (by decide) dX10_now_9 ?_
    refine ab_aloadn 2 dX10_now_74 rfl ?_
    refine f_gr (x := 7) (k2 := 4) (i2 := 0) (j2 := 2) ⟨by decide, by decide⟩ rfl rfl (Nat.le_of_ble_eq_true rfl) wd_190 rfl rfl dX10_now_75 ?_
    refine fC_Si (mtc := mt_X10_sum) (As := [.ref (gA G 4 0 2)]) h (fun Q h => ct_X10_sum_p N 0 (by decide) C h) mw_X10_sum wd_188 wd_189 rfl rfl ⟨Nat.le_of_ble_eq_true rfl, Nat.le_of_ble_eq_true rfl⟩ ⟨Nat.zero_le _, Nat.zero_le _⟩ (Nat.le_of_ble_eq_true rfl) rfl dX10_now_78 (fun v7 C8 h => ?_)
    exact fC_iret h rfl rfl dX10_now_81
  have h := sat_f hc6 h
  by_cases hc9 : a1 = 4
  · have h := sat_t hc9 h
    refine ab_tin (tgt := 82) (off := 73) hc9 (by decide) (by decide) (by decide) (by decide) dX10_now_9 ?_
    refine ab_aloadn 2 dX10_now_82 rfl ?_
    refine fC_gi (x := 2) ⟨by decide, by decide⟩ rfl rfl (Nat.le_of_ble_eq_true rfl) wd_191 (by decide) rfl dX10_now_83 ?_
    exact fC_iret h rfl rfl dX10_now_86
  have h := sat_f hc9 h
  by_cases hc10 : a1 = 5
  · have h := sat_t hc10 h
    refine ab_tin (tgt := 87) (off := 78) hc10 (by decide) (by decide) (by decide) (by decide) dX10_now_9 ?_
    refine ab_aloadn 2 dX10_now_87 rfl ?_
    refine fC_gi (x := 3) ⟨by decide, by decide⟩ rfl rfl (Nat.le_of_ble_eq_true rfl) wd_192 (by decide) rfl dX10_now_88 ?_
    refine fC_Si (mtc := mt_J6_bitCount_0f7a4) (As := [.int (C.1 4 0 0 3)]) h (fun Q h => ct_J6_bitCount_0f7a4 (C.1 4 0 0 3) C h) mw_J6_bitCount_0f7a4 wd_196 wd_197 rfl rfl ⟨Nat.le_of_ble_eq_true rfl, Nat.le_of_ble_eq_true rfl⟩ ⟨Nat.zero_le _, Nat.zero_le _⟩ (Nat.le_of_ble_eq_true rfl) rfl dX10_now_91 (fun v11 C12 h => ?_)
    exact fC_iret h rfl rfl dX10_now_94
  have h := sat_f hc10 h
  by_cases hc13 : a1 = 6
  · have h := sat_t hc13 h
    refine ab_tin (tgt := 95) (off := 86) hc13 (by decide) (by decide) (by decide) (by decide) dX10_now_9 ?_
    refine ab_aloadn 2 dX10_now_95 rfl ?_
    refine fC_gi (x := 4) ⟨by decide, by decide⟩ rfl rfl (Nat.le_of_ble_eq_true rfl) wd_198 (by decide) rfl dX10_now_96 ?_
    exact fC_iret h rfl rfl dX10_now_99
  have h := sat_f hc13 h
  by_cases hc14 : a1 = 7
  · have h := sat_t hc14 h
    refine ab_tin (tgt := 100) (off := 91) hc14 (by decide) (by decide) (by decide) (by decide) dX10_now_9 ?_
    refine ab_aloadn 2 dX10_now_100 rfl ?_
    refine fC_gi (x := 5) ⟨by decide, by decide⟩ rfl rfl (Nat.le_of_ble_eq_true rfl) wd_199 (by decide) rfl dX10_now_101 ?_
    exact fC_iret h rfl rfl dX10_now_104
  have h := sat_f hc14 h
  refine ab_tout (tgt := 105) (by have := ne_toI hc1 (show Int32.toInt 0 = 0 by decide); have := ne_toI hc2 (show Int32.toInt 1 = 1 by decide); have := ne_toI hc3 (show Int32.toInt 2 = 2 by decide); have := ne_toI hc6 (show Int32.toInt 3 = 3 by decide); have := ne_toI hc9 (show Int32.toInt 4 = 4 by decide); have := ne_toI hc10 (show Int32.toInt 5 = 5 by decide); have := ne_toI hc13 (show Int32.toInt 6 = 6 by decide); have := ne_toI hc14 (show Int32.toInt 7 = 7 by decide); omega) (by decide) dX10_now_9 ?_
  refine ab_iconst (v := (-1)) dX10_now_105 (by decide) ?_
  exact fC_iret h rfl rfl dX10_now_106
theorem ct_X10_now {l : Launch} {G : GX} {X : XM} {Q : Int32 → Mem → Prop} (N : Nat) (a1 : Int32) (C : CM) (h : SAT (f_X10_now N a1 C) (fun v c => Q v (c, X))) : CT l G 2 mt_X10_now [.ref (gA G 0 0 0), .int a1] (C, X) Q := ct_of pn_X10 (Nat.le_of_ble_eq_true rfl) (t_X10_now_0 N a1 C h)
def f_X10_count (a1 : Int32) (C : CM) : Option (Int32 × CM) := ldR (C.2 2 0 1) 4 (fun y1 => (if a1 = 0 then (rt (C.1 3 y1 0 1) C) else if a1 = 1 then (rt (C.1 3 y1 0 2) C) else if a1 = 2 then (rt (C.1 3 y1 6 0) C) else if a1 = 3 then (rt (C.1 3 y1 0 3) C) else if a1 = 4 then (rt (C.1 3 y1 0 6) C) else if a1 = 5 then (rt (C.1 3 y1 0 8) C) else if a1 = 6 then (rt (C.1 3 y1 0 9) C) else if a1 = 7 then ldR (C.2 2 0 3) 4 (fun y11 => (rt (C.1 5 y11 0 0) C)) else if a1 = 8 then (rt (C.1 0 0 0 1) C) else (rt (-1) C)))
set_option maxRecDepth 8000 in
theorem t_X10_count_0 {l : Launch} {G : GX} {X : XM} {Q : Int32 → Mem → Prop} (a1 : Int32) (C : CM) (h : SAT (f_X10_count a1 C) (fun v c => Q v (c, X))) : AB l G (rmD 1) 0 0 mt_X10_count (ZQ G mt_X10_count Q) 0 [(0, .ref (gA G 0 0 0)), (1, .int a1)] [] (C, X) := by
  unfold f_X10_count at h
  refine ab_aloadn 0 dX10_count_0 rfl ?_
  refine f_gr (x := 4) (k2 := 2) (i2 := 0) (j2 := 0) ⟨by decide, by decide⟩ rfl rfl (Nat.le_of_ble_eq_true rfl) wd_124 rfl rfl dX10_count_1 ?_
  refine fC_gd (x := 1) ⟨by decide, by decide⟩ rfl rfl (Nat.le_of_ble_eq_true rfl) wd_125 rfl h rfl dX10_count_4 (fun y1 hy2 h => ?_)
  refine ab_astoren (lv' := [(0, .ref (gA G 0 0 0)), (1, .int a1), (2, .ref (gA G 3 y1 0))]) dX10_count_7 rfl (Nat.le_of_ble_eq_true rfl) rfl ?_
  refine ab_iloadn 1 dX10_count_8 rfl ?_
  by_cases hc3 : a1 = 0
  · have h := sat_t hc3 h
    refine ab_tin (tgt := 60) (off := 51) hc3 (by decide) (by decide) (by decide) (by decide) dX10_count_9 ?_
    refine ab_aloadn 2 dX10_count_60 rfl ?_
    refine fC_gi (x := 1) ⟨hy2, by decide⟩ rfl rfl (Nat.le_of_ble_eq_true rfl) wd_200 (by decide) rfl dX10_count_61 ?_
    exact fC_iret h rfl rfl dX10_count_64
  have h := sat_f hc3 h
  by_cases hc4 : a1 = 1
  · have h := sat_t hc4 h
    refine ab_tin (tgt := 65) (off := 56) hc4 (by decide) (by decide) (by decide) (by decide) dX10_count_9 ?_
    refine ab_aloadn 2 dX10_count_65 rfl ?_
    refine fC_gi (x := 2) ⟨hy2, by decide⟩ rfl rfl (Nat.le_of_ble_eq_true rfl) wd_201 (by decide) rfl dX10_count_66 ?_
    exact fC_iret h rfl rfl dX10_count_69
  have h := sat_f hc4 h
  by_cases hc5 : a1 = 2
  · have h := sat_t hc5 h
    refine ab_tin (tgt := 70) (off := 61) hc5 (by decide) (by decide) (by decide) (by decide) dX10_count_9 ?_
    refine ab_aloadn 2 dX10_count_70 rfl ?_
    refine f_gr (x := 10) (k2 := 3) (i2 := y1) (j2 := 6) ⟨hy2, by decide⟩ rfl rfl (Nat.le_of_ble_eq_true rfl) wd_202 rfl rfl dX10_count_71 ?_
    refine fC_gi (x := 0) ⟨hy2, by decide⟩ rfl rfl (Nat.le_of_ble_eq_true rfl) wd_203 (by decide) rfl dX10_count_74 ?_
    exact fC_iret h rfl rfl dX10_count_77
  have h := sat_f hc5 h
  by_cases hc6 : a1 = 3
  · have h := sat_t hc6 h
    refine ab_tin (tgt := 78) (off := 69) hc6 (by decide) (by decide) (by decide) (by decide) dX10_count_9 ?_
    refine ab_aloadn 2 dX10_count_78 rfl ?_
    refine fC_gi (x := 3) ⟨hy2, by decide⟩ rfl rfl (Nat.le_of_ble_eq_true rfl) wd_204 (by decide) rfl dX10_count_79 ?_
    exact fC_iret h rfl rfl dX10_count_82
  have h := sat_f hc6 h
  by_cases hc7 : a1 = 4
  · have h := sat_t hc7 h
    refine ab_tin (tgt := 83) (off := 74) hc7 (by decide) (by decide) (by decide) (by decide) dX10_count_9 ?_
    refine ab_aloadn 2 dX10_count_83 rfl ?_
    refine fC_gi (x := 6) ⟨hy2, by decide⟩ rfl rfl (Nat.le_of_ble_eq_true rfl) wd_205 (by decide) rfl dX10_count_84 ?_
    exact fC_iret h rfl rfl dX10_count_87
  have h := sat_f hc7 h
  by_cases hc8 : a1 = 5
  · have h := sat_t hc8 h
    refine ab_tin (tgt := 88) (off := 79) hc8 (by decide) (by decide) (by decide) (by decide) dX10_count_9 ?_
    refine ab_aloadn 2 dX10_count_88 rfl ?_
    refine fC_gi (x := 8) ⟨hy2, by decide⟩ rfl rfl (Nat.le_of_ble_eq_true rfl) wd_206 (by decide) rfl dX10_count_89 ?_
    exact fC_iret h rfl rfl dX10_count_92
  have h := sat_f hc8 h
  by_cases hc9 : a1 = 6
  · have h := sat_t hc9 h
    refine ab_tin (tgt := 93) (off := 84) hc9 (by decide) (by decide) (by decide) (by decide) dX10_count_9 ?_
    refine ab_aloadn 2 dX10_count_93 rfl ?_
    refine fC_gi (x := 9) ⟨hy2, by decide⟩ rfl rfl (Nat.le_of_ble_eq_true rfl) wd_207 (by decide) rfl dX10_count_94 ?_
    exact fC_iret h rfl rfl dX10_count_97
  have h := sat_f hc9 h
  by_cases hc10 : a1 = 7
  · have h := sat_t hc10 h
    refine ab_tin (tgt := 98) (off := 89) hc10 (by decide) (by decide) (by decide) (by decide) dX10_count_9 ?_
    refine ab_aloadn 0 dX10_count_98 rfl ?_
    refine f_gr (x := 4) (k2 := 2) (i2 := 0) (j2 := 0) ⟨by decide, by decide⟩ rfl rfl (Nat.le_of_ble_eq_true rfl) wd_124 rfl rfl dX10_count_99 ?_
    refine fC_gd (x := 3) ⟨by decide, by decide⟩ rfl rfl (Nat.le_of_ble_eq_true rfl) wd_153 rfl h rfl dX10_count_102 (fun y11 hy12 h => ?_)
    refine fC_gi (x := 0) ⟨hy12, by decide⟩ rfl rfl (Nat.le_of_ble_eq_true rfl) wd_154 (by decide) rfl dX10_count_105 ?_
    exact fC_iret h rfl rfl dX10_count_108
  have h := sat_f hc10 h
  by_cases hc13 : a1 = 8
  · have h := sat_t hc13 h
    refine ab_tin (tgt := 109) (off := 100) hc13 (by decide) (by decide) (by decide) (by decide) dX10_count_9 ?_
    refine ab_aloadn 0 dX10_count_109 rfl ?_
    refine fC_gi (x := 1) ⟨by decide, by decide⟩ rfl rfl (Nat.le_of_ble_eq_true rfl) wd_30 (by decide) rfl dX10_count_110 ?_
    exact fC_iret h rfl rfl dX10_count_113
  have h := sat_f hc13 h
  refine ab_tout (tgt := 114) (by have := ne_toI hc3 (show Int32.toInt 0 = 0 by decide); have := ne_toI hc4 (show Int32.toInt 1 = 1 by decide); have := ne_toI hc5 (show Int32.toInt 2 = 2 by decide); have := ne_toI hc6 (show Int32.toInt 3 = 3 by decide); have := ne_toI hc7 (show Int32.toInt 4 = 4 by decide); have := ne_toI hc8 (show Int32.toInt 5 = 5 by decide); have := ne_toI hc9 (show Int32.toInt 6 = 6 by decide); have := ne_toI hc10 (show Int32.toInt 7 = 7 by decide); have := ne_toI hc13 (show Int32.toInt 8 = 8 by decide); omega) (by decide) dX10_count_9 ?_
  refine ab_iconst (v := (-1)) dX10_count_114 (by decide) ?_
  exact fC_iret h rfl rfl dX10_count_115
theorem ct_X10_count {l : Launch} {G : GX} {X : XM} {Q : Int32 → Mem → Prop} (a1 : Int32) (C : CM) (h : SAT (f_X10_count a1 C) (fun v c => Q v (c, X))) : CT l G 1 mt_X10_count [.ref (gA G 0 0 0), .int a1] (C, X) Q := ct_of pn_X10 (Nat.le_of_ble_eq_true rfl) (t_X10_count_0 a1 C h)
def f_X0_isCell (r0 : Nat) (a1 : Int32) (C : CM) : Option (Int32 × CM) := (if a1 < 0 then (rt 0 C) else (if 100 ≤ a1 then (rt 0 C) else (if (C.1 3 r0 0 1) ≤ (a1 - a1 / 10 * 10) then (rt 0 C) else (if (C.1 3 r0 0 2) ≤ (a1 / 10) then (rt 0 C) else (rt 1 C)))))
set_option maxRecDepth 8000 in
theorem t_X0_isCell_0 {l : Launch} {G : GX} {X : XM} {Q : Int32 → Mem → Prop} (r0 : Nat) (h0 : r0 < 4) (a1 : Int32) (C : CM) (h : SAT (f_X0_isCell r0 a1 C) (fun v c => Q v (c, X))) : AB l G (rmD 1) 0 0 mt_X0_isCell (ZQ G mt_X0_isCell Q) 0 [(0, .ref (gA G 3 r0 0)), (1, .int a1)] [] (C, X) := by
  unfold f_X0_isCell at h
  refine ab_iloadn 1 dX0_isCell_0 rfl ?_
  refine ab_if_lt (tgt := 36) dX0_isCell_1 (by decide) (fun hc1 => ?_) (fun hc1 => ?_)
  · have h := sat_t hc1 h
    refine ab_iconst (v := 0) dX0_isCell_36 (by decide) ?_
    exact fC_iret h rfl rfl dX0_isCell_37
  · have h := sat_f hc1 h
    refine ab_iloadn 1 dX0_isCell_4 rfl ?_
    refine ab_bipush (v := 100) dX0_isCell_5 (by decide) ?_
    refine ab_icmp_ge (tgt := 36) dX0_isCell_7 (by decide) (fun hc2 => ?_) (fun hc2 => ?_)
    · have h := sat_t hc2 h
      refine ab_iconst (v := 0) dX0_isCell_36 (by decide) ?_
      exact fC_iret h rfl rfl dX0_isCell_37
    · have h := sat_f hc2 h
      refine ab_iloadn 1 dX0_isCell_10 rfl ?_
      refine ab_bipush (v := 10) dX0_isCell_11 (by decide) ?_
      refine ab_irem dX0_isCell_13 (by decide) ?_
      refine ab_aloadn 0 dX0_isCell_14 rfl ?_
      refine fC_gi (x := 1) ⟨h0, by decide⟩ rfl rfl (Nat.le_of_ble_eq_true rfl) wd_53 (by decide) rfl dX0_isCell_15 ?_
      refine ab_icmp_ge (tgt := 36) dX0_isCell_18 (by decide) (fun hc3 => ?_) (fun hc3 => ?_)
      · have h := sat_t hc3 h
        refine ab_iconst (v := 0) dX0_isCell_36 (by decide) ?_
        exact fC_iret h rfl rfl dX0_isCell_37
      · have h := sat_f hc3 h
        refine ab_iloadn 1 dX0_isCell_21 rfl ?_
        refine ab_bipush (v := 10) dX0_isCell_22 (by decide) ?_
        refine ab_idiv dX0_isCell_24 (by decide) ?_
        refine ab_aloadn 0 dX0_isCell_25 rfl ?_
        refine fC_gi (x := 2) ⟨h0, by decide⟩ rfl rfl (Nat.le_of_ble_eq_true rfl) wd_54 (by decide) rfl dX0_isCell_26 ?_
        refine ab_icmp_ge (tgt := 36) dX0_isCell_29 (by decide) (fun hc4 => ?_) (fun hc4 => ?_)
        · have h := sat_t hc4 h
          refine ab_iconst (v := 0) dX0_isCell_36 (by decide) ?_
          exact fC_iret h rfl rfl dX0_isCell_37
        · have h := sat_f hc4 h
          refine ab_iconst (v := 1) dX0_isCell_32 (by decide) ?_
          refine ab_goto (tgt := 37) dX0_isCell_33 (by decide) ?_
          exact fC_iret h rfl rfl dX0_isCell_37
theorem ct_X0_isCell {l : Launch} {G : GX} {X : XM} {Q : Int32 → Mem → Prop} (r0 : Nat) (h0 : r0 < 4) (a1 : Int32) (C : CM) (h : SAT (f_X0_isCell r0 a1 C) (fun v c => Q v (c, X))) : CT l G 1 mt_X0_isCell [.ref (gA G 3 r0 0), .int a1] (C, X) Q := ct_of pn_X0 (Nat.le_of_ble_eq_true rfl) (t_X0_isCell_0 r0 h0 a1 C h)
def f_X10_isGust (a0 : Int32) (a1 : Int32) (C : CM) : Option (Int32 × CM) := (if a0 < 0 then (rt 0 C) else (if 8 ≤ a0 then (rt 0 C) else (if a1 < 1 then (rt 0 C) else (if 9 < a1 then (rt 0 C) else (rt 1 C)))))
set_option maxRecDepth 8000 in
theorem t_X10_isGust_0 {l : Launch} {G : GX} {X : XM} {Q : Int32 → Mem → Prop} (a0 : Int32) (a1 : Int32) (C : CM) (h : SAT (f_X10_isGust a0 a1 C) (fun v c => Q v (c, X))) : AB l G (rmD 1) 0 0 mt_X10_isGust (ZQ G mt_X10_isGust Q) 0 [(0, .int a0), (1, .int a1)] [] (C, X) := by
  unfold f_X10_isGust at h
  refine ab_iloadn 0 dX10_isGust_0 rfl ?_
  refine ab_if_lt (tgt := 25) dX10_isGust_1 (by decide) (fun hc1 => ?_) (fun hc1 => ?_)
  · have h := sat_t hc1 h
    refine ab_iconst (v := 0) dX10_isGust_25 (by decide) ?_
    exact fC_iret h rfl rfl dX10_isGust_26
  · have h := sat_f hc1 h
    refine ab_iloadn 0 dX10_isGust_4 rfl ?_
    refine ab_bipush (v := 8) dX10_isGust_5 (by decide) ?_
    refine ab_icmp_ge (tgt := 25) dX10_isGust_7 (by decide) (fun hc2 => ?_) (fun hc2 => ?_)
    · have h := sat_t hc2 h
      refine ab_iconst (v := 0) dX10_isGust_25 (by decide) ?_
      exact fC_iret h rfl rfl dX10_isGust_26
    · have h := sat_f hc2 h
      refine ab_iloadn 1 dX10_isGust_10 rfl ?_
      refine ab_iconst (v := 1) dX10_isGust_11 (by decide) ?_
      refine ab_icmp_lt (tgt := 25) dX10_isGust_12 (by decide) (fun hc3 => ?_) (fun hc3 => ?_)
      · have h := sat_t hc3 h
        refine ab_iconst (v := 0) dX10_isGust_25 (by decide) ?_
        exact fC_iret h rfl rfl dX10_isGust_26
      · have h := sat_f hc3 h
        refine ab_iloadn 1 dX10_isGust_15 rfl ?_
        refine ab_bipush (v := 9) dX10_isGust_16 (by decide) ?_
        refine ab_icmp_gt (tgt := 25) dX10_isGust_18 (by decide) (fun hc4 => ?_) (fun hc4 => ?_)
        · have h := sat_t hc4 h
          refine ab_iconst (v := 0) dX10_isGust_25 (by decide) ?_
          exact fC_iret h rfl rfl dX10_isGust_26
        · have h := sat_f hc4 h
          refine ab_iconst (v := 1) dX10_isGust_21 (by decide) ?_
          refine ab_goto (tgt := 26) dX10_isGust_22 (by decide) ?_
          exact fC_iret h rfl rfl dX10_isGust_26
theorem ct_X10_isGust {l : Launch} {G : GX} {X : XM} {Q : Int32 → Mem → Prop} (a0 : Int32) (a1 : Int32) (C : CM) (h : SAT (f_X10_isGust a0 a1 C) (fun v c => Q v (c, X))) : CT l G 1 mt_X10_isGust [.int a0, .int a1] (C, X) Q := ct_of pn_X10 (Nat.le_of_ble_eq_true rfl) (t_X10_isGust_0 a0 a1 C h)
def f_X0_dirAt_20 (a2 : Int32) (as0 : Int32) (C : CM) : Option (Int32 × CM) := (rt ((a2 + as0) &&& 7) C)
def f_X0_dirAt_19 (a2 : Int32) (C : CM) : Option (Int32 × CM) := (f_X0_dirAt_20 a2 0 C)
def f_X0_dirAt (r0 : Nat) (a1 : Int32) (a2 : Int32) (C : CM) : Option (Int32 × CM) := (if a1 < 0 then (f_X0_dirAt_19 a2 C) else (if 100 ≤ a1 then (f_X0_dirAt_19 a2 C) else ldA (C.1 3 r0 2) 100 a1 (fun v3 => (f_X0_dirAt_20 a2 v3 C))))
set_option maxRecDepth 8000 in
theorem t_X0_dirAt_20 {l : Launch} {G : GX} {X : XM} {Q : Int32 → Mem → Prop} (a2 : Int32) (as0 : Int32) (C : CM) (h : SAT (f_X0_dirAt_20 a2 as0 C) (fun v c => Q v (c, X))) : AB l G (rmD 1) 0 0 mt_X0_dirAt (ZQ G mt_X0_dirAt Q) 20 [(2, .int a2)] [.int as0] (C, X) := by
  unfold f_X0_dirAt_20 at h
  refine ab_istoren (lv' := [(2, .int a2), (3, .int as0)]) dX0_dirAt_20 rfl (Nat.le_of_ble_eq_true rfl) rfl ?_
  refine ab_iloadn 0 dX0_dirAt_21 rfl ?_
  refine ab_iloadn 1 dX0_dirAt_22 rfl ?_
  refine ab_iadd dX0_dirAt_23 ?_
  refine ab_bipush (v := 7) dX0_dirAt_24 (by decide) ?_
  refine ab_iand dX0_dirAt_26 ?_
  exact fC_iret h rfl rfl dX0_dirAt_27
set_option maxRecDepth 8000 in
theorem t_X0_dirAt_19 {l : Launch} {G : GX} {X : XM} {Q : Int32 → Mem → Prop} (a2 : Int32) (C : CM) (h : SAT (f_X0_dirAt_19 a2 C) (fun v c => Q v (c, X))) : AB l G (rmD 1) 0 0 mt_X0_dirAt (ZQ G mt_X0_dirAt Q) 19 [(2, .int a2)] [] (C, X) := by
  unfold f_X0_dirAt_19 at h
  refine ab_iconst (v := 0) dX0_dirAt_19 (by decide) ?_
  exact t_X0_dirAt_20 a2 0 C h
set_option maxRecDepth 8000 in
theorem t_X0_dirAt_0 {l : Launch} {G : GX} {X : XM} {Q : Int32 → Mem → Prop} (r0 : Nat) (h0 : r0 < 4) (a1 : Int32) (a2 : Int32) (C : CM) (h : SAT (f_X0_dirAt r0 a1 a2 C) (fun v c => Q v (c, X))) : AB l G (rmD 1) 0 0 mt_X0_dirAt (ZQ G mt_X0_dirAt Q) 0 [(0, .ref (gA G 3 r0 0)), (1, .int a1), (2, .int a2)] [] (C, X) := by
  unfold f_X0_dirAt at h
  refine ab_iloadn 1 dX0_dirAt_0 rfl ?_
  refine ab_if_lt (tgt := 19) dX0_dirAt_1 (by decide) (fun hc1 => ?_) (fun hc1 => ?_)
  · have h := sat_t hc1 h
    refine ab_sub [2] rfl ?_
    exact t_X0_dirAt_19 a2 C h
  · have h := sat_f hc1 h
    refine ab_iloadn 1 dX0_dirAt_4 rfl ?_
    refine ab_bipush (v := 100) dX0_dirAt_5 (by decide) ?_
    refine ab_icmp_ge (tgt := 19) dX0_dirAt_7 (by decide) (fun hc2 => ?_) (fun hc2 => ?_)
    · have h := sat_t hc2 h
      refine ab_sub [2] rfl ?_
      exact t_X0_dirAt_19 a2 C h
    · have h := sat_f hc2 h
      refine ab_aloadn 0 dX0_dirAt_10 rfl ?_
      refine f_gr (x := 12) (k2 := 3) (i2 := r0) (j2 := 2) ⟨h0, by decide⟩ rfl rfl (Nat.le_of_ble_eq_true rfl) wd_72 rfl rfl dX0_dirAt_11 ?_
      refine ab_iloadn 1 dX0_dirAt_14 rfl ?_
      refine fC_iald ⟨h0, by decide⟩ rfl (by decide) (fun _ => rfl) h dX0_dirAt_15 (fun v3 h => ?_)
      refine ab_goto (tgt := 20) dX0_dirAt_16 (by decide) ?_
      refine ab_sub [2] rfl ?_
      exact t_X0_dirAt_20 a2 v3 C h
theorem ct_X0_dirAt {l : Launch} {G : GX} {X : XM} {Q : Int32 → Mem → Prop} (r0 : Nat) (h0 : r0 < 4) (a1 : Int32) (a2 : Int32) (C : CM) (h : SAT (f_X0_dirAt r0 a1 a2 C) (fun v c => Q v (c, X))) : CT l G 1 mt_X0_dirAt [.ref (gA G 3 r0 0), .int a1, .int a2] (C, X) Q := ct_of pn_X0 (Nat.le_of_ble_eq_true rfl) (t_X0_dirAt_0 r0 h0 a1 a2 C h)
def f_X0_forceAt_s_135 (N : Nat) (a5 : Int32) (C : CM) : Option (Int32 × CM) := (rt (imax a5 0) C)
def f_X0_forceAt_s_39 (N : Nat) (r0 : Nat) (r1 : Nat) (a6 : Int32) (a7 : Int32) : Nat → Int32 → Int32 → Int32 → Int32 → CM → Option (Int32 × CM)
  | 0, _, _, _, _, _ => none
  | n + 1, a5, a8, a9, a10, C => (if 3 ≤ a10 then (f_X0_forceAt_s_135 N a5 C) else (if (a8 + a6) < 0 then (f_X0_forceAt_s_135 N a5 C) else (if (C.1 3 r0 0 1) ≤ (a8 + a6) then (f_X0_forceAt_s_135 N a5 C) else (if (a9 + a7) < 0 then (f_X0_forceAt_s_135 N a5 C) else (if (a9 + a7) < (C.1 3 r0 0 2) then ldA (C.1 4 r1 8) 100 (((a9 + a7) * 10) + (a8 + a6)) (fun v6 => (if ((v6 >>> (4 &&& 31)) <<< (4 &&& 31)) = 32 then (f_X0_forceAt_s_39 N r0 r1 a6 a7 n (a5 - 2) (a8 + a6) (a9 + a7) (a10 + 1) C) else (if ((v6 >>> (4 &&& 31)) <<< (4 &&& 31)) = 48 then (f_X0_forceAt_s_39 N r0 r1 a6 a7 n (a5 - 3) (a8 + a6) (a9 + a7) (a10 + 1) C) else (f_X0_forceAt_s_39 N r0 r1 a6 a7 n a5 (a8 + a6) (a9 + a7) (a10 + 1) C)))) else (f_X0_forceAt_s_135 N a5 C))))))
def f_X0_forceAt_s (N : Nat) (r0 : Nat) (r1 : Nat) (a2 : Int32) (a3 : Int32) (a4 : Int32) (C : CM) : Option (Int32 × CM) := ldA tbX 8 (a3 &&& 7) (fun v1 => ldA tbY 8 (a3 &&& 7) (fun v2 => (f_X0_forceAt_s_39 N r0 r1 v1 v2 N a4 (a2 - a2 / 10 * 10) (a2 / 10) 0 C)))
set_option maxRecDepth 8000 in
theorem t_X0_forceAt_s_135 {l : Launch} {G : GX} {X : XM} {Q : Int32 → Mem → Prop} (N : Nat) (a5 : Int32) (C : CM) (h : SAT (f_X0_forceAt_s_135 N a5 C) (fun v c => Q v (c, X))) : AB l G (rmD 1) 0 0 mt_X0_forceAt (ZQ G mt_X0_forceAt Q) 135 [(5, .int a5)] [] (C, X) := by
  unfold f_X0_forceAt_s_135 at h
  refine ab_iload 0 dX0_forceAt_135 rfl ?_
  refine ab_iconst (v := 0) dX0_forceAt_137 (by decide) ?_
  refine ab_mmax wd_213 wd_214 wd_36 wm_max ⟨Nat.le_of_ble_eq_true rfl, Nat.le_of_ble_eq_true rfl⟩ ⟨Nat.zero_le _, Nat.zero_le _⟩ dX0_forceAt_138 ?_
  exact fC_iret h rfl rfl dX0_forceAt_141
set_option maxRecDepth 8000 in
theorem t_X0_forceAt_s_39 {l : Launch} {G : GX} {X : XM} {Q : Int32 → Mem → Prop} (N : Nat) (r0 : Nat) (h0 : r0 < 4) (r1 : Nat) (h1 : r1 < 12) (a6 : Int32) (a7 : Int32) : ∀ (n : Nat) (a5 : Int32) (a8 : Int32) (a9 : Int32) (a10 : Int32) (C : CM), SAT (f_X0_forceAt_s_39 N r0 r1 a6 a7 n a5 a8 a9 a10 C) (fun v c => Q v (c, X)) → AB l G (rmD 1) 0 0 mt_X0_forceAt (ZQ G mt_X0_forceAt Q) 39 [(0, .ref (gA G 3 r0 0)), (1, .ref (gA G 4 r1 8)), (5, .int a5), (6, .int a6), (7, .int a7), (8, .int a8), (9, .int a9), (10, .int a10)] [] (C, X) := by
  intro n
  induction n with
  | zero => intro a5 a8 a9 a10 C h; exact h.elim
  | succ n ih =>
    intro a5 a8 a9 a10 C h
    rw [f_X0_forceAt_s_39] at h
    refine ab_iload 7 dX0_forceAt_39 rfl ?_
    refine ab_iconst (v := 3) dX0_forceAt_41 (by decide) ?_
    refine ab_icmp_ge (tgt := 135) dX0_forceAt_42 (by decide) (fun hc1 => ?_) (fun hc1 => ?_)
    · have h := sat_t hc1 h
      refine ab_sub [2] rfl ?_
      exact t_X0_forceAt_s_135 N a5 C h
    · have h := sat_f hc1 h
      refine ab_iload 5 dX0_forceAt_45 rfl ?_
      refine ab_iload 3 dX0_forceAt_47 rfl ?_
      refine ab_iadd dX0_forceAt_49 ?_
      refine ab_istore (lv' := [(0, .ref (gA G 3 r0 0)), (1, .ref (gA G 4 r1 8)), (5, .int a5), (6, .int a6), (7, .int a7), (8, .int (a8 + a6)), (9, .int a9), (10, .int a10)]) dX0_forceAt_50 rfl (Nat.le_of_ble_eq_true rfl) rfl ?_
      refine ab_iload 6 dX0_forceAt_52 rfl ?_
      refine ab_iload 4 dX0_forceAt_54 rfl ?_
      refine ab_iadd dX0_forceAt_56 ?_
      refine ab_istore (lv' := [(0, .ref (gA G 3 r0 0)), (1, .ref (gA G 4 r1 8)), (5, .int a5), (6, .int a6), (7, .int a7), (8, .int (a8 + a6)), (9, .int (a9 + a7)), (10, .int a10)]) dX0_forceAt_57 rfl (Nat.le_of_ble_eq_true rfl) rfl ?_
      refine ab_iload 5 dX0_forceAt_59 rfl ?_
      refine ab_if_lt (tgt := 135) dX0_forceAt_61 (by decide) (fun hc2 => ?_) (fun hc2 => ?_)
      · have h := sat_t hc2 h
        refine ab_sub [2] rfl ?_
        exact t_X0_forceAt_s_135 N a5 C h
      · have h := sat_f hc2 h
        refine ab_iload 5 dX0_forceAt_64 rfl ?_
        refine ab_aloadn 0 dX0_forceAt_66 rfl ?_
        refine fC_gi (x := 1) ⟨h0, by decide⟩ rfl rfl (Nat.le_of_ble_eq_true rfl) wd_53 (by decide) rfl dX0_forceAt_67 ?_
        refine ab_icmp_ge (tgt := 135) dX0_forceAt_70 (by decide) (fun hc3 => ?_) (fun hc3 => ?_)
        · have h := sat_t hc3 h
          refine ab_sub [2] rfl ?_
          exact t_X0_forceAt_s_135 N a5 C h
        · have h := sat_f hc3 h
          refine ab_iload 6 dX0_forceAt_73 rfl ?_
          refine ab_if_lt (tgt := 135) dX0_forceAt_75 (by decide) (fun hc4 => ?_) (fun hc4 => ?_)
          · have h := sat_t hc4 h
            refine ab_sub [2] rfl ?_
            exact t_X0_forceAt_s_135 N a5 C h
          · have h := sat_f hc4 h
            refine ab_iload 6 dX0_forceAt_78 rfl ?_
            refine ab_aloadn 0 dX0_forceAt_80 rfl ?_
            refine fC_gi (x := 2) ⟨h0, by decide⟩ rfl rfl (Nat.le_of_ble_eq_true rfl) wd_54 (by decide) rfl dX0_forceAt_81 ?_
            refine ab_icmp_lt (tgt := 90) dX0_forceAt_84 (by decide) (fun hc5 => ?_) (fun hc5 => ?_)
            · have h := sat_t hc5 h
              refine ab_aloadn 1 dX0_forceAt_90 rfl ?_
              refine ab_iload 6 dX0_forceAt_91 rfl ?_
              refine ab_bipush (v := 10) dX0_forceAt_93 (by decide) ?_
              refine ab_imul dX0_forceAt_95 ?_
              refine ab_iload 5 dX0_forceAt_96 rfl ?_
              refine ab_iadd dX0_forceAt_98 ?_
              refine fC_iald ⟨h1, by decide⟩ rfl (by decide) (fun _ => rfl) h dX0_forceAt_99 (fun v6 h => ?_)
              refine ab_iconst (v := 4) dX0_forceAt_100 (by decide) ?_
              refine ab_ishr dX0_forceAt_101 ?_
              refine ab_iconst (v := 4) dX0_forceAt_102 (by decide) ?_
              refine ab_ishl dX0_forceAt_103 ?_
              refine ab_istore (lv' := [(0, .ref (gA G 3 r0 0)), (1, .ref (gA G 4 r1 8)), (5, .int a5), (6, .int a6), (7, .int a7), (8, .int (a8 + a6)), (9, .int (a9 + a7)), (10, .int a10), (11, .int ((v6 >>> (4 &&& 31)) <<< (4 &&& 31)))]) dX0_forceAt_104 rfl (Nat.le_of_ble_eq_true rfl) rfl ?_
              refine ab_iload 8 dX0_forceAt_106 rfl ?_
              refine ab_bipush (v := 32) dX0_forceAt_108 (by decide) ?_
              refine ab_icmp_ne (tgt := 119) dX0_forceAt_110 (by decide) (fun hc7 => ?_) (fun hc7 => ?_)
              · have h := sat_f hc7 h
                refine ab_iload 8 dX0_forceAt_119 rfl ?_
                refine ab_bipush (v := 48) dX0_forceAt_121 (by decide) ?_
                refine ab_icmp_ne (tgt := 129) dX0_forceAt_123 (by decide) (fun hc8 => ?_) (fun hc8 => ?_)
                · have h := sat_f hc8 h
                  refine ab_iinc (q := 7) (v := (a10 + 1)) (lv' := [(0, .ref (gA G 3 r0 0)), (1, .ref (gA G 4 r1 8)), (5, .int a5), (6, .int a6), (7, .int a7), (8, .int (a8 + a6)), (9, .int (a9 + a7)), (10, .int (a10 + 1)), (11, .int ((v6 >>> (4 &&& 31)) <<< (4 &&& 31)))]) dX0_forceAt_129 rfl rfl rfl (Nat.le_of_ble_eq_true rfl) rfl ?_
                  refine ab_goto (tgt := 39) dX0_forceAt_132 (by decide) ?_
                  refine ab_sub [0, 1, 2, 3, 4, 5, 6, 7] rfl ?_
                  exact ih a5 (a8 + a6) (a9 + a7) (a10 + 1) C h
                · have h := sat_t hc8 h
                  refine ab_iinc (q := 2) (v := (a5 - 3)) (lv' := [(0, .ref (gA G 3 r0 0)), (1, .ref (gA G 4 r1 8)), (5, .int (a5 - 3)), (6, .int a6), (7, .int a7), (8, .int (a8 + a6)), (9, .int (a9 + a7)), (10, .int a10), (11, .int ((v6 >>> (4 &&& 31)) <<< (4 &&& 31)))]) dX0_forceAt_126 rfl (ii_m3 _) rfl (Nat.le_of_ble_eq_true rfl) rfl ?_
                  refine ab_iinc (q := 7) (v := (a10 + 1)) (lv' := [(0, .ref (gA G 3 r0 0)), (1, .ref (gA G 4 r1 8)), (5, .int (a5 - 3)), (6, .int a6), (7, .int a7), (8, .int (a8 + a6)), (9, .int (a9 + a7)), (10, .int (a10 + 1)), (11, .int ((v6 >>> (4 &&& 31)) <<< (4 &&& 31)))]) dX0_forceAt_129 rfl rfl rfl (Nat.le_of_ble_eq_true rfl) rfl ?_
                  refine ab_goto (tgt := 39) dX0_forceAt_132 (by decide) ?_
                  refine ab_sub [0, 1, 2, 3, 4, 5, 6, 7] rfl ?_
                  exact ih (a5 - 3) (a8 + a6) (a9 + a7) (a10 + 1) C h
              · have h := sat_t hc7 h
                refine ab_iinc (q := 2) (v := (a5 - 2)) (lv' := [(0, .ref (gA G 3 r0 0)), (1, .ref (gA G 4 r1 8)), (5, .int (a5 - 2)), (6, .int a6), (7, .int a7), (8, .int (a8 + a6)), (9, .int (a9 + a7)), (10, .int a10), (11, .int ((v6 >>> (4 &&& 31)) <<< (4 &&& 31)))]) dX0_forceAt_113 rfl (ii_m2 _) rfl (Nat.le_of_ble_eq_true rfl) rfl ?_
                refine ab_goto (tgt := 129) dX0_forceAt_116 (by decide) ?_
                refine ab_iinc (q := 7) (v := (a10 + 1)) (lv' := [(0, .ref (gA G 3 r0 0)), (1, .ref (gA G 4 r1 8)), (5, .int (a5 - 2)), (6, .int a6), (7, .int a7), (8, .int (a8 + a6)), (9, .int (a9 + a7)), (10, .int (a10 + 1)), (11, .int ((v6 >>> (4 &&& 31)) <<< (4 &&& 31)))]) dX0_forceAt_129 rfl rfl rfl (Nat.le_of_ble_eq_true rfl) rfl ?_
                refine ab_goto (tgt := 39) dX0_forceAt_132 (by decide) ?_
                refine ab_sub [0, 1, 2, 3, 4, 5, 6, 7] rfl ?_
                exact ih (a5 - 2) (a8 + a6) (a9 + a7) (a10 + 1) C h
            · have h := sat_f hc5 h
              refine ab_goto (tgt := 135) dX0_forceAt_87 (by decide) ?_
              refine ab_sub [2] rfl ?_
              exact t_X0_forceAt_s_135 N a5 C h
set_option maxRecDepth 8000 in
theorem t_X0_forceAt_s_0 {l : Launch} {G : GX} {X : XM} {Q : Int32 → Mem → Prop} (N : Nat) (r0 : Nat) (h0 : r0 < 4) (r1 : Nat) (h1 : r1 < 12) (a2 : Int32) (a3 : Int32) (a4 : Int32) (C : CM) (h : SAT (f_X0_forceAt_s N r0 r1 a2 a3 a4 C) (fun v c => Q v (c, X))) : AB l G (rmD 1) 0 0 mt_X0_forceAt (ZQ G mt_X0_forceAt Q) 0 [(0, .ref (gA G 3 r0 0)), (1, .ref (gA G 4 r1 8)), (2, .int a2), (3, .int a3), (4, .int a4)] [] (C, X) := by
  unfold f_X0_forceAt_s at h
  refine ab_iload 4 dX0_forceAt_0 rfl ?_
  refine ab_istore (lv' := [(0, .ref (gA G 3 r0 0)), (1, .ref (gA G 4 r1 8)), (2, .int a2), (3, .int a3), (4, .int a4), (5, .int a4)]) dX0_forceAt_2 rfl (Nat.le_of_ble_eq_true rfl) rfl ?_
  refine ab_stx (n := 82) rfl (by decide) dX0_forceAt_4 ?_
  refine ab_iloadn 3 dX0_forceAt_7 rfl ?_
  refine ab_bipush (v := 7) dX0_forceAt_8 (by decide) ?_
  refine ab_iand dX0_forceAt_10 ?_
  refine f_sti (b := 0) (by decide) rfl h dX0_forceAt_11 (fun v1 h => ?_)
  refine ab_istore (lv' := [(0, .ref (gA G 3 r0 0)), (1, .ref (gA G 4 r1 8)), (2, .int a2), (3, .int a3), (4, .int a4), (5, .int a4), (6, .int v1)]) dX0_forceAt_12 rfl (Nat.le_of_ble_eq_true rfl) rfl ?_
  refine ab_stx (n := 85) rfl (by decide) dX0_forceAt_14 ?_
  refine ab_iloadn 3 dX0_forceAt_17 rfl ?_
  refine ab_bipush (v := 7) dX0_forceAt_18 (by decide) ?_
  refine ab_iand dX0_forceAt_20 ?_
  refine f_sti (b := 1) (by decide) rfl h dX0_forceAt_21 (fun v2 h => ?_)
  refine ab_istore (lv' := [(0, .ref (gA G 3 r0 0)), (1, .ref (gA G 4 r1 8)), (2, .int a2), (3, .int a3), (4, .int a4), (5, .int a4), (6, .int v1), (7, .int v2)]) dX0_forceAt_22 rfl (Nat.le_of_ble_eq_true rfl) rfl ?_
  refine ab_iloadn 2 dX0_forceAt_24 rfl ?_
  refine ab_bipush (v := 10) dX0_forceAt_25 (by decide) ?_
  refine ab_irem dX0_forceAt_27 (by decide) ?_
  refine ab_istore (lv' := [(0, .ref (gA G 3 r0 0)), (1, .ref (gA G 4 r1 8)), (2, .int a2), (3, .int a3), (4, .int a4), (5, .int a4), (6, .int v1), (7, .int v2), (8, .int (a2 - a2 / 10 * 10))]) dX0_forceAt_28 rfl (Nat.le_of_ble_eq_true rfl) rfl ?_
  refine ab_iloadn 2 dX0_forceAt_30 rfl ?_
  refine ab_bipush (v := 10) dX0_forceAt_31 (by decide) ?_
  refine ab_idiv dX0_forceAt_33 (by decide) ?_
  refine ab_istore (lv' := [(0, .ref (gA G 3 r0 0)), (1, .ref (gA G 4 r1 8)), (2, .int a2), (3, .int a3), (4, .int a4), (5, .int a4), (6, .int v1), (7, .int v2), (8, .int (a2 - a2 / 10 * 10)), (9, .int (a2 / 10))]) dX0_forceAt_34 rfl (Nat.le_of_ble_eq_true rfl) rfl ?_
  refine ab_iconst (v := 0) dX0_forceAt_36 (by decide) ?_
  refine ab_istore (lv' := [(0, .ref (gA G 3 r0 0)), (1, .ref (gA G 4 r1 8)), (2, .int a2), (3, .int a3), (4, .int a4), (5, .int a4), (6, .int v1), (7, .int v2), (8, .int (a2 - a2 / 10 * 10)), (9, .int (a2 / 10)), (10, .int 0)]) dX0_forceAt_37 rfl (Nat.le_of_ble_eq_true rfl) rfl ?_
  refine ab_sub [0, 1, 5, 6, 7, 8, 9, 10] rfl ?_
  exact t_X0_forceAt_s_39 N r0 h0 r1 h1 v1 v2 N a4 (a2 - a2 / 10 * 10) (a2 / 10) 0 C h
theorem ct_X0_forceAt_s {l : Launch} {G : GX} {X : XM} {Q : Int32 → Mem → Prop} (N : Nat) (r0 : Nat) (h0 : r0 < 4) (r1 : Nat) (h1 : r1 < 12) (a2 : Int32) (a3 : Int32) (a4 : Int32) (C : CM) (h : SAT (f_X0_forceAt_s N r0 r1 a2 a3 a4 C) (fun v c => Q v (c, X))) : CT l G 1 mt_X0_forceAt [.ref (gA G 3 r0 0), .ref (gA G 4 r1 8), .int a2, .int a3, .int a4] (C, X) Q := ct_of pn_X0 (Nat.le_of_ble_eq_true rfl) (t_X0_forceAt_s_0 N r0 h0 r1 h1 a2 a3 a4 C h)
def f_X10_comes (N : Nat) (a1 : Int32) (a2 : Int32) (a3 : Int32) (a4 : Int32) (C : CM) : Option (Int32 × CM) := ldR (C.2 2 0 1) 4 (fun y1 => cal (f_X0_isCell y1 a1 C) (fun v3 C4 => (if v3 = 0 then (rt (-1) C4) else cal (f_X10_isGust a2 a3 C4) (fun v6 C7 => (if v6 = 0 then (rt (-1) C7) else (if a4 = 0 then ldR (C7.2 2 0 1) 4 (fun y10 => cal (f_X0_dirAt y10 a1 a2 C7) (fun v12 C13 => (rt v12 C13))) else if a4 = 1 then ldR (C7.2 2 0 1) 4 (fun y15 => cal (f_X0_forceAt_s N y15 0 a1 a2 a3 C7) (fun v17 C18 => (rt v17 C18))) else (rt (-1) C7)))))))
set_option maxRecDepth 8000 in
theorem t_X10_comes_0 {l : Launch} {G : GX} {X : XM} {Q : Int32 → Mem → Prop} (N : Nat) (a1 : Int32) (a2 : Int32) (a3 : Int32) (a4 : Int32) (C : CM) (h : SAT (f_X10_comes N a1 a2 a3 a4 C) (fun v c => Q v (c, X))) : AB l G (rmD 2) 0 0 mt_X10_comes (ZQ G mt_X10_comes Q) 0 [(0, .ref (gA G 0 0 0)), (1, .int a1), (2, .int a2), (3, .int a3), (4, .int a4)] [] (C, X) := by
  unfold f_X10_comes at h
  refine ab_aloadn 0 dX10_comes_0 rfl ?_
  refine f_gr (x := 4) (k2 := 2) (i2 := 0) (j2 := 0) ⟨by decide, by decide⟩ rfl rfl (Nat.le_of_ble_eq_true rfl) wd_124 rfl rfl dX10_comes_1 ?_
  refine fC_gd (x := 1) ⟨by decide, by decide⟩ rfl rfl (Nat.le_of_ble_eq_true rfl) wd_125 rfl h rfl dX10_comes_4 (fun y1 hy2 h => ?_)
  refine ab_iloadn 1 dX10_comes_7 rfl ?_
  refine fC_Vi (mtc := mt_X0_isCell) (As := [.int a1]) h (fun Q h => ct_X0_isCell y1 hy2 a1 C h) ⟨hy2, by decide⟩ rfl rfl rfl mw_X0_isCell wd_208 rfl rfl ⟨Nat.le_of_ble_eq_true rfl, Nat.le_of_ble_eq_true rfl⟩ ⟨Nat.zero_le _, Nat.zero_le _⟩ (Nat.le_of_ble_eq_true rfl) rfl dX10_comes_8 (fun v3 C4 h => ?_)
  refine ab_if_eq (tgt := 22) dX10_comes_11 (by decide) (fun hc5 => ?_) (fun hc5 => ?_)
  · have h := sat_t hc5 h
    refine ab_iconst (v := (-1)) dX10_comes_22 (by decide) ?_
    exact fC_iret h rfl rfl dX10_comes_23
  · have h := sat_f hc5 h
    refine ab_iloadn 2 dX10_comes_14 rfl ?_
    refine ab_iloadn 3 dX10_comes_15 rfl ?_
    refine fC_Si (mtc := mt_X10_isGust) (As := [.int a2, .int a3]) h (fun Q h => ct_X10_isGust a2 a3 C4 h) mw_X10_isGust wd_209 wd_210 rfl rfl ⟨Nat.le_of_ble_eq_true rfl, Nat.le_of_ble_eq_true rfl⟩ ⟨Nat.zero_le _, Nat.zero_le _⟩ (Nat.le_of_ble_eq_true rfl) rfl dX10_comes_16 (fun v6 C7 h => ?_)
    refine ab_if_ne (tgt := 24) dX10_comes_19 (by decide) (fun hc8 => ?_) (fun hc8 => ?_)
    · have h := sat_f hc8 h
      refine ab_iload 4 dX10_comes_24 rfl ?_
      by_cases hc9 : a4 = 0
      · have h := sat_t hc9 h
        refine ab_lsw (tgt := 52) (off := 26) (by decide) (by rw [hc9]; decide) (by decide) dX10_comes_26 ?_
        refine ab_aloadn 0 dX10_comes_52 rfl ?_
        refine f_gr (x := 4) (k2 := 2) (i2 := 0) (j2 := 0) ⟨by decide, by decide⟩ rfl rfl (Nat.le_of_ble_eq_true rfl) wd_124 rfl rfl dX10_comes_53 ?_
        refine fC_gd (x := 1) ⟨by decide, by decide⟩ rfl rfl (Nat.le_of_ble_eq_true rfl) wd_125 rfl h rfl dX10_comes_56 (fun y10 hy11 h => ?_)
        refine ab_iloadn 1 dX10_comes_59 rfl ?_
        refine ab_iloadn 2 dX10_comes_60 rfl ?_
        refine fC_Vi (mtc := mt_X0_dirAt) (As := [.int a1, .int a2]) h (fun Q h => ct_X0_dirAt y10 hy11 a1 a2 C7 h) ⟨hy11, by decide⟩ rfl rfl rfl mw_X0_dirAt wd_211 rfl rfl ⟨Nat.le_of_ble_eq_true rfl, Nat.le_of_ble_eq_true rfl⟩ ⟨Nat.zero_le _, Nat.zero_le _⟩ (Nat.le_of_ble_eq_true rfl) rfl dX10_comes_61 (fun v12 C13 h => ?_)
        exact fC_iret h rfl rfl dX10_comes_64
      have h := sat_f hc9 h
      by_cases hc14 : a4 = 1
      · have h := sat_t hc14 h
        refine ab_lsw (tgt := 65) (off := 39) (by decide) (by rw [hc14]; decide) (by decide) dX10_comes_26 ?_
        refine ab_aloadn 0 dX10_comes_65 rfl ?_
        refine f_gr (x := 4) (k2 := 2) (i2 := 0) (j2 := 0) ⟨by decide, by decide⟩ rfl rfl (Nat.le_of_ble_eq_true rfl) wd_124 rfl rfl dX10_comes_66 ?_
        refine fC_gd (x := 1) ⟨by decide, by decide⟩ rfl rfl (Nat.le_of_ble_eq_true rfl) wd_125 rfl h rfl dX10_comes_69 (fun y15 hy16 h => ?_)
        refine ab_aloadn 0 dX10_comes_72 rfl ?_
        refine f_gr (x := 4) (k2 := 2) (i2 := 0) (j2 := 0) ⟨by decide, by decide⟩ rfl rfl (Nat.le_of_ble_eq_true rfl) wd_124 rfl rfl dX10_comes_73 ?_
        refine f_gr (x := 2) (k2 := 4) (i2 := 0) (j2 := 0) ⟨by decide, by decide⟩ rfl rfl (Nat.le_of_ble_eq_true rfl) wd_126 rfl rfl dX10_comes_76 ?_
        refine f_gr (x := 13) (k2 := 4) (i2 := 0) (j2 := 8) ⟨by decide, by decide⟩ rfl rfl (Nat.le_of_ble_eq_true rfl) wd_212 rfl rfl dX10_comes_79 ?_
        refine ab_iloadn 1 dX10_comes_82 rfl ?_
        refine ab_iloadn 2 dX10_comes_83 rfl ?_
        refine ab_iloadn 3 dX10_comes_84 rfl ?_
        refine fC_Vi (mtc := mt_X0_forceAt) (As := [.ref (gA G 4 0 8), .int a1, .int a2, .int a3]) h (fun Q h => ct_X0_forceAt_s N y15 hy16 0 (by decide) a1 a2 a3 C7 h) ⟨hy16, by decide⟩ rfl rfl rfl mw_X0_forceAt wd_215 rfl rfl ⟨Nat.le_of_ble_eq_true rfl, Nat.le_of_ble_eq_true rfl⟩ ⟨Nat.zero_le _, Nat.zero_le _⟩ (Nat.le_of_ble_eq_true rfl) rfl dX10_comes_85 (fun v17 C18 h => ?_)
        exact fC_iret h rfl rfl dX10_comes_88
      have h := sat_f hc14 h
      refine ab_lsw (tgt := 89) (off := 63) (by decide) (by refine (lv_osw hc9 (by decide)).trans ?_; refine (lv_osw hc14 (by decide)).trans ?_; rfl) (by decide) dX10_comes_26 ?_
      refine ab_iconst (v := (-1)) dX10_comes_89 (by decide) ?_
      exact fC_iret h rfl rfl dX10_comes_90
    · have h := sat_t hc8 h
      refine ab_iconst (v := (-1)) dX10_comes_22 (by decide) ?_
      exact fC_iret h rfl rfl dX10_comes_23
theorem ct_X10_comes {l : Launch} {G : GX} {X : XM} {Q : Int32 → Mem → Prop} (N : Nat) (a1 : Int32) (a2 : Int32) (a3 : Int32) (a4 : Int32) (C : CM) (h : SAT (f_X10_comes N a1 a2 a3 a4 C) (fun v c => Q v (c, X))) : CT l G 2 mt_X10_comes [.ref (gA G 0 0 0), .int a1, .int a2, .int a3, .int a4] (C, X) Q := ct_of pn_X10 (Nat.le_of_ble_eq_true rfl) (t_X10_comes_0 N a1 a2 a3 a4 C h)
def f_X6_copy (r0 : Nat) (r1 : Nat) (C : CM) : Option (Int32 × CM) := bnd (stC C 4 r0 0 0 (C.1 4 r1 0 0)) (fun C1 => bnd (stC C1 4 r0 0 1 (C1.1 4 r1 0 1)) (fun C2 => bnd (stC C2 4 r0 0 2 (C2.1 4 r1 0 2)) (fun C3 => bnd (stC C3 4 r0 0 3 (C3.1 4 r1 0 3)) (fun C4 => bnd (stC C4 4 r0 0 4 (C4.1 4 r1 0 4)) (fun C5 => bnd (stC C5 4 r0 0 5 (C5.1 4 r1 0 5)) (fun C6 => bnd (rwC C6 4 r0 1 (C6.1 4 r1 1)) (fun C7 => bnd (rwC C7 4 r0 2 (C7.1 4 r1 2)) (fun C8 => bnd (rwC C8 4 r0 3 (C8.1 4 r1 3)) (fun C9 => bnd (rwC C9 4 r0 4 (C9.1 4 r1 4)) (fun C10 => bnd (rwC C10 4 r0 5 (C10.1 4 r1 5)) (fun C11 => bnd (rwC C11 4 r0 6 (C11.1 4 r1 6)) (fun C12 => bnd (rwC C12 4 r0 7 (C12.1 4 r1 7)) (fun C13 => bnd (rwC C13 4 r0 8 (C13.1 4 r1 8)) (fun C14 => (rt 0 C14)))))))))))))))
set_option maxRecDepth 8000 in
theorem t_X6_copy_0 {l : Launch} {G : GX} {X : XM} {Q : Int32 → Mem → Prop} (r0 : Nat) (h0 : r0 < 12) (r1 : Nat) (h1 : r1 < 12) (C : CM) (h : SAT (f_X6_copy r0 r1 C) (fun v c => Q v (c, X))) : AB l G (rmD 1) 0 0 mt_X6_copy (ZQ G mt_X6_copy Q) 0 [(0, .ref (gA G 4 r0 0)), (1, .ref (gA G 4 r1 0))] [] (C, X) := by
  unfold f_X6_copy at h
  refine ab_aloadn 0 dX6_copy_0 rfl ?_
  refine ab_aloadn 1 dX6_copy_1 rfl ?_
  refine fC_gi (x := 0) ⟨h1, by decide⟩ rfl rfl (Nat.le_of_ble_eq_true rfl) wd_127 (by decide) rfl dX6_copy_2 ?_
  refine fC_pi (x := 0) (ty := .int) ⟨h0, by decide⟩ rfl rfl (Nat.le_of_ble_eq_true rfl) wd_127 (by decide) rfl h rfl (by decide +kernel) rfl rfl dX6_copy_5 (fun C1 h => ?_)
  refine ab_aloadn 0 dX6_copy_8 rfl ?_
  refine ab_aloadn 1 dX6_copy_9 rfl ?_
  refine fC_gi (x := 1) ⟨h1, by decide⟩ rfl rfl (Nat.le_of_ble_eq_true rfl) wd_128 (by decide) rfl dX6_copy_10 ?_
  refine fC_pi (x := 1) (ty := .int) ⟨h0, by decide⟩ rfl rfl (Nat.le_of_ble_eq_true rfl) wd_128 (by decide) rfl h rfl (by decide +kernel) rfl rfl dX6_copy_13 (fun C2 h => ?_)
  refine ab_aloadn 0 dX6_copy_16 rfl ?_
  refine ab_aloadn 1 dX6_copy_17 rfl ?_
  refine fC_gi (x := 2) ⟨h1, by decide⟩ rfl rfl (Nat.le_of_ble_eq_true rfl) wd_130 (by decide) rfl dX6_copy_18 ?_
  refine fC_pi (x := 2) (ty := .int) ⟨h0, by decide⟩ rfl rfl (Nat.le_of_ble_eq_true rfl) wd_130 (by decide) rfl h rfl (by decide +kernel) rfl rfl dX6_copy_21 (fun C3 h => ?_)
  refine ab_aloadn 0 dX6_copy_24 rfl ?_
  refine ab_aloadn 1 dX6_copy_25 rfl ?_
  refine fC_gi (x := 3) ⟨h1, by decide⟩ rfl rfl (Nat.le_of_ble_eq_true rfl) wd_132 (by decide) rfl dX6_copy_26 ?_
  refine fC_pi (x := 3) (ty := .int) ⟨h0, by decide⟩ rfl rfl (Nat.le_of_ble_eq_true rfl) wd_132 (by decide) rfl h rfl (by decide +kernel) rfl rfl dX6_copy_29 (fun C4 h => ?_)
  refine ab_aloadn 0 dX6_copy_32 rfl ?_
  refine ab_aloadn 1 dX6_copy_33 rfl ?_
  refine fC_gi (x := 4) ⟨h1, by decide⟩ rfl rfl (Nat.le_of_ble_eq_true rfl) wd_133 (by decide) rfl dX6_copy_34 ?_
  refine fC_pi (x := 4) (ty := .int) ⟨h0, by decide⟩ rfl rfl (Nat.le_of_ble_eq_true rfl) wd_133 (by decide) rfl h rfl (by decide +kernel) rfl rfl dX6_copy_37 (fun C5 h => ?_)
  refine ab_aloadn 0 dX6_copy_40 rfl ?_
  refine ab_aloadn 1 dX6_copy_41 rfl ?_
  refine fC_gi (x := 5) ⟨h1, by decide⟩ rfl rfl (Nat.le_of_ble_eq_true rfl) wd_134 (by decide) rfl dX6_copy_42 ?_
  refine fC_pi (x := 5) (ty := .int) ⟨h0, by decide⟩ rfl rfl (Nat.le_of_ble_eq_true rfl) wd_134 (by decide) rfl h rfl (by decide +kernel) rfl rfl dX6_copy_45 (fun C6 h => ?_)
  refine ab_aloadn 1 dX6_copy_48 rfl ?_
  refine f_gr (x := 6) (k2 := 4) (i2 := r1) (j2 := 1) ⟨h1, by decide⟩ rfl rfl (Nat.le_of_ble_eq_true rfl) wd_141 rfl rfl dX6_copy_49 ?_
  refine ab_iconst (v := 0) dX6_copy_52 (by decide) ?_
  refine ab_aloadn 0 dX6_copy_53 rfl ?_
  refine f_gr (x := 6) (k2 := 4) (i2 := r0) (j2 := 1) ⟨h0, by decide⟩ rfl rfl (Nat.le_of_ble_eq_true rfl) wd_141 rfl rfl dX6_copy_54 ?_
  refine ab_iconst (v := 0) dX6_copy_57 (by decide) ?_
  refine ab_bipush (v := 8) dX6_copy_58 (by decide) ?_
  refine fC_copy (n := 8) h ⟨h1, by decide⟩ ⟨h0, by decide⟩ rfl rfl (by decide) (by decide) (fun _ => rfl) (fun _ => rfl) (by decide) (by decide) wd_137 wd_138 wd_139 wd_140 ⟨Nat.le_of_ble_eq_true rfl, Nat.le_of_ble_eq_true rfl⟩ dX6_copy_60 (fun C7 h => ?_)
  refine ab_aloadn 1 dX6_copy_63 rfl ?_
  refine f_gr (x := 7) (k2 := 4) (i2 := r1) (j2 := 2) ⟨h1, by decide⟩ rfl rfl (Nat.le_of_ble_eq_true rfl) wd_144 rfl rfl dX6_copy_64 ?_
  refine ab_iconst (v := 0) dX6_copy_67 (by decide) ?_
  refine ab_aloadn 0 dX6_copy_68 rfl ?_
  refine f_gr (x := 7) (k2 := 4) (i2 := r0) (j2 := 2) ⟨h0, by decide⟩ rfl rfl (Nat.le_of_ble_eq_true rfl) wd_144 rfl rfl dX6_copy_69 ?_
  refine ab_iconst (v := 0) dX6_copy_72 (by decide) ?_
  refine ab_bipush (v := 8) dX6_copy_73 (by decide) ?_
  refine fC_copy (n := 8) h ⟨h1, by decide⟩ ⟨h0, by decide⟩ rfl rfl (by decide) (by decide) (fun _ => rfl) (fun _ => rfl) (by decide) (by decide) wd_137 wd_138 wd_139 wd_140 ⟨Nat.le_of_ble_eq_true rfl, Nat.le_of_ble_eq_true rfl⟩ dX6_copy_75 (fun C8 h => ?_)
  refine ab_aloadn 1 dX6_copy_78 rfl ?_
  refine f_gr (x := 8) (k2 := 4) (i2 := r1) (j2 := 3) ⟨h1, by decide⟩ rfl rfl (Nat.le_of_ble_eq_true rfl) wd_145 rfl rfl dX6_copy_79 ?_
  refine ab_iconst (v := 0) dX6_copy_82 (by decide) ?_
  refine ab_aloadn 0 dX6_copy_83 rfl ?_
  refine f_gr (x := 8) (k2 := 4) (i2 := r0) (j2 := 3) ⟨h0, by decide⟩ rfl rfl (Nat.le_of_ble_eq_true rfl) wd_145 rfl rfl dX6_copy_84 ?_
  refine ab_iconst (v := 0) dX6_copy_87 (by decide) ?_
  refine ab_bipush (v := 8) dX6_copy_88 (by decide) ?_
  refine fC_copy (n := 8) h ⟨h1, by decide⟩ ⟨h0, by decide⟩ rfl rfl (by decide) (by decide) (fun _ => rfl) (fun _ => rfl) (by decide) (by decide) wd_137 wd_138 wd_139 wd_140 ⟨Nat.le_of_ble_eq_true rfl, Nat.le_of_ble_eq_true rfl⟩ dX6_copy_90 (fun C9 h => ?_)
  refine ab_aloadn 1 dX6_copy_93 rfl ?_
  refine f_gr (x := 9) (k2 := 4) (i2 := r1) (j2 := 4) ⟨h1, by decide⟩ rfl rfl (Nat.le_of_ble_eq_true rfl) wd_147 rfl rfl dX6_copy_94 ?_
  refine ab_iconst (v := 0) dX6_copy_97 (by decide) ?_
  refine ab_aloadn 0 dX6_copy_98 rfl ?_
  refine f_gr (x := 9) (k2 := 4) (i2 := r0) (j2 := 4) ⟨h0, by decide⟩ rfl rfl (Nat.le_of_ble_eq_true rfl) wd_147 rfl rfl dX6_copy_99 ?_
  refine ab_iconst (v := 0) dX6_copy_102 (by decide) ?_
  refine ab_bipush (v := 8) dX6_copy_103 (by decide) ?_
  refine fC_copy (n := 8) h ⟨h1, by decide⟩ ⟨h0, by decide⟩ rfl rfl (by decide) (by decide) (fun _ => rfl) (fun _ => rfl) (by decide) (by decide) wd_137 wd_138 wd_139 wd_140 ⟨Nat.le_of_ble_eq_true rfl, Nat.le_of_ble_eq_true rfl⟩ dX6_copy_105 (fun C10 h => ?_)
  refine ab_aloadn 1 dX6_copy_108 rfl ?_
  refine f_gr (x := 10) (k2 := 4) (i2 := r1) (j2 := 5) ⟨h1, by decide⟩ rfl rfl (Nat.le_of_ble_eq_true rfl) wd_149 rfl rfl dX6_copy_109 ?_
  refine ab_iconst (v := 0) dX6_copy_112 (by decide) ?_
  refine ab_aloadn 0 dX6_copy_113 rfl ?_
  refine f_gr (x := 10) (k2 := 4) (i2 := r0) (j2 := 5) ⟨h0, by decide⟩ rfl rfl (Nat.le_of_ble_eq_true rfl) wd_149 rfl rfl dX6_copy_114 ?_
  refine ab_iconst (v := 0) dX6_copy_117 (by decide) ?_
  refine ab_bipush (v := 8) dX6_copy_118 (by decide) ?_
  refine fC_copy (n := 8) h ⟨h1, by decide⟩ ⟨h0, by decide⟩ rfl rfl (by decide) (by decide) (fun _ => rfl) (fun _ => rfl) (by decide) (by decide) wd_137 wd_138 wd_139 wd_140 ⟨Nat.le_of_ble_eq_true rfl, Nat.le_of_ble_eq_true rfl⟩ dX6_copy_120 (fun C11 h => ?_)
  refine ab_aloadn 1 dX6_copy_123 rfl ?_
  refine f_gr (x := 11) (k2 := 4) (i2 := r1) (j2 := 6) ⟨h1, by decide⟩ rfl rfl (Nat.le_of_ble_eq_true rfl) wd_150 rfl rfl dX6_copy_124 ?_
  refine ab_iconst (v := 0) dX6_copy_127 (by decide) ?_
  refine ab_aloadn 0 dX6_copy_128 rfl ?_
  refine f_gr (x := 11) (k2 := 4) (i2 := r0) (j2 := 6) ⟨h0, by decide⟩ rfl rfl (Nat.le_of_ble_eq_true rfl) wd_150 rfl rfl dX6_copy_129 ?_
  refine ab_iconst (v := 0) dX6_copy_132 (by decide) ?_
  refine ab_bipush (v := 8) dX6_copy_133 (by decide) ?_
  refine fC_copy (n := 8) h ⟨h1, by decide⟩ ⟨h0, by decide⟩ rfl rfl (by decide) (by decide) (fun _ => rfl) (fun _ => rfl) (by decide) (by decide) wd_137 wd_138 wd_139 wd_140 ⟨Nat.le_of_ble_eq_true rfl, Nat.le_of_ble_eq_true rfl⟩ dX6_copy_135 (fun C12 h => ?_)
  refine ab_aloadn 1 dX6_copy_138 rfl ?_
  refine f_gr (x := 12) (k2 := 4) (i2 := r1) (j2 := 7) ⟨h1, by decide⟩ rfl rfl (Nat.le_of_ble_eq_true rfl) wd_151 rfl rfl dX6_copy_139 ?_
  refine ab_iconst (v := 0) dX6_copy_142 (by decide) ?_
  refine ab_aloadn 0 dX6_copy_143 rfl ?_
  refine f_gr (x := 12) (k2 := 4) (i2 := r0) (j2 := 7) ⟨h0, by decide⟩ rfl rfl (Nat.le_of_ble_eq_true rfl) wd_151 rfl rfl dX6_copy_144 ?_
  refine ab_iconst (v := 0) dX6_copy_147 (by decide) ?_
  refine ab_bipush (v := 8) dX6_copy_148 (by decide) ?_
  refine fC_copy (n := 8) h ⟨h1, by decide⟩ ⟨h0, by decide⟩ rfl rfl (by decide) (by decide) (fun _ => rfl) (fun _ => rfl) (by decide) (by decide) wd_137 wd_138 wd_139 wd_140 ⟨Nat.le_of_ble_eq_true rfl, Nat.le_of_ble_eq_true rfl⟩ dX6_copy_150 (fun C13 h => ?_)
  refine ab_aloadn 1 dX6_copy_153 rfl ?_
  refine f_gr (x := 13) (k2 := 4) (i2 := r1) (j2 := 8) ⟨h1, by decide⟩ rfl rfl (Nat.le_of_ble_eq_true rfl) wd_136 rfl rfl dX6_copy_154 ?_
  refine ab_iconst (v := 0) dX6_copy_157 (by decide) ?_
  refine ab_aloadn 0 dX6_copy_158 rfl ?_
  refine f_gr (x := 13) (k2 := 4) (i2 := r0) (j2 := 8) ⟨h0, by decide⟩ rfl rfl (Nat.le_of_ble_eq_true rfl) wd_136 rfl rfl dX6_copy_159 ?_
  refine ab_iconst (v := 0) dX6_copy_162 (by decide) ?_
  refine ab_bipush (v := 100) dX6_copy_163 (by decide) ?_
  refine fC_copy (n := 100) h ⟨h1, by decide⟩ ⟨h0, by decide⟩ rfl rfl (by decide) (by decide) (fun _ => rfl) (fun _ => rfl) (by decide) (by decide) wd_137 wd_138 wd_139 wd_140 ⟨Nat.le_of_ble_eq_true rfl, Nat.le_of_ble_eq_true rfl⟩ dX6_copy_165 (fun C14 h => ?_)
  exact fC_vret h rfl dX6_copy_168
theorem ct_X6_copy {l : Launch} {G : GX} {X : XM} {Q : Int32 → Mem → Prop} (r0 : Nat) (h0 : r0 < 12) (r1 : Nat) (h1 : r1 < 12) (C : CM) (h : SAT (f_X6_copy r0 r1 C) (fun v c => Q v (c, X))) : CT l G 1 mt_X6_copy [.ref (gA G 4 r0 0), .ref (gA G 4 r1 0)] (C, X) Q := ct_of pn_X6 (Nat.le_of_ble_eq_true rfl) (t_X6_copy_0 r0 h0 r1 h1 C h)
def f_X9_turned (a0 : Int32) (a1 : Int32) (a2 : Int32) (C : CM) : Option (Int32 × CM) := (if 0 < a2 then (if 4 < ((a1 - a0) &&& 7) then (rt ((a0 - (imin (8 - ((a1 - a0) &&& 7)) a2)) &&& 7) C) else (rt ((a0 + (imin ((a1 - a0) &&& 7) a2)) &&& 7) C)) else (rt a0 C))
set_option maxRecDepth 8000 in
theorem t_X9_turned_0 {l : Launch} {G : GX} {X : XM} {Q : Int32 → Mem → Prop} (a0 : Int32) (a1 : Int32) (a2 : Int32) (C : CM) (h : SAT (f_X9_turned a0 a1 a2 C) (fun v c => Q v (c, X))) : AB l G (rmD 1) 0 0 mt_X9_turned (ZQ G mt_X9_turned Q) 0 [(0, .int a0), (1, .int a1), (2, .int a2)] [] (C, X) := by
  unfold f_X9_turned at h
  refine ab_iloadn 1 dX9_turned_0 rfl ?_
  refine ab_iloadn 0 dX9_turned_1 rfl ?_
  refine ab_isub dX9_turned_2 ?_
  refine ab_bipush (v := 7) dX9_turned_3 (by decide) ?_
  refine ab_iand dX9_turned_5 ?_
  refine ab_istoren (lv' := [(0, .int a0), (1, .int a1), (2, .int a2), (3, .int ((a1 - a0) &&& 7))]) dX9_turned_6 rfl (Nat.le_of_ble_eq_true rfl) rfl ?_
  refine ab_iloadn 2 dX9_turned_7 rfl ?_
  refine ab_if_gt (tgt := 13) dX9_turned_8 (by decide) (fun hc1 => ?_) (fun hc1 => ?_)
  · have h := sat_t hc1 h
    refine ab_iloadn 3 dX9_turned_13 rfl ?_
    refine ab_iconst (v := 4) dX9_turned_14 (by decide) ?_
    refine ab_icmp_gt (tgt := 29) dX9_turned_15 (by decide) (fun hc2 => ?_) (fun hc2 => ?_)
    · have h := sat_t hc2 h
      refine ab_iloadn 0 dX9_turned_29 rfl ?_
      refine ab_bipush (v := 8) dX9_turned_30 (by decide) ?_
      refine ab_iloadn 3 dX9_turned_32 rfl ?_
      refine ab_isub dX9_turned_33 ?_
      refine ab_iloadn 2 dX9_turned_34 rfl ?_
      refine ab_mmin wd_228 wd_35 wd_36 wm_min ⟨Nat.le_of_ble_eq_true rfl, Nat.le_of_ble_eq_true rfl⟩ ⟨Nat.zero_le _, Nat.zero_le _⟩ dX9_turned_35 ?_
      refine ab_isub dX9_turned_38 ?_
      refine ab_bipush (v := 7) dX9_turned_39 (by decide) ?_
      refine ab_iand dX9_turned_41 ?_
      exact fC_iret h rfl rfl dX9_turned_42
    · have h := sat_f hc2 h
      refine ab_iloadn 0 dX9_turned_18 rfl ?_
      refine ab_iloadn 3 dX9_turned_19 rfl ?_
      refine ab_iloadn 2 dX9_turned_20 rfl ?_
      refine ab_mmin wd_228 wd_35 wd_36 wm_min ⟨Nat.le_of_ble_eq_true rfl, Nat.le_of_ble_eq_true rfl⟩ ⟨Nat.zero_le _, Nat.zero_le _⟩ dX9_turned_21 ?_
      refine ab_iadd dX9_turned_24 ?_
      refine ab_bipush (v := 7) dX9_turned_25 (by decide) ?_
      refine ab_iand dX9_turned_27 ?_
      exact fC_iret h rfl rfl dX9_turned_28
  · have h := sat_f hc1 h
    refine ab_iloadn 0 dX9_turned_11 rfl ?_
    exact fC_iret h rfl rfl dX9_turned_12
theorem ct_X9_turned {l : Launch} {G : GX} {X : XM} {Q : Int32 → Mem → Prop} (a0 : Int32) (a1 : Int32) (a2 : Int32) (C : CM) (h : SAT (f_X9_turned a0 a1 a2 C) (fun v c => Q v (c, X))) : CT l G 1 mt_X9_turned [.int a0, .int a1, .int a2] (C, X) Q := ct_of pn_X9 (Nat.le_of_ble_eq_true rfl) (t_X9_turned_0 a0 a1 a2 C h)
def f_X9_turnVanes_93 (N : Nat) (k6 : Int32 → Int32 → CM → Option (Int32 × CM)) (r1 : Nat) (r2 : Nat) (a3 : Int32) (a4 : Int32) (a5 : Int32) (a6 : Int32) (a8 : Int32) (a9 : Int32) (C : CM) : Option (Int32 × CM) := (if a9 ≤ 0 then (k6 a5 (a6 + 1) C) else ldA (C.1 4 r2 4) 8 a6 (fun v2 => (if v2 = a8 then (k6 (a5 ||| ((1 : Int32) <<< (a6 &&& 31))) (a6 + 1) C) else (k6 a5 (a6 + 1) C))))
def f_X9_turnVanes_6 (N : Nat) (r1 : Nat) (r2 : Nat) (a3 : Int32) (a4 : Int32) : Nat → Int32 → Int32 → CM → Option (Int32 × CM)
  | 0, _, _, _ => none
  | n + 1, a5, a6, C => (if (C.1 3 r1 6 0) ≤ a6 then (rt a5 C) else ldA (C.1 3 r1 8) 8 a6 (fun v2 => cal (f_X0_dirAt r1 v2 a3 C) (fun v3 C4 => cal (f_X0_forceAt_s N r1 r2 v2 a3 a4 C4) (fun v5 C6 => ldA (C6.1 4 r2 5) 8 a6 (fun v7 => (if v7 = 0 then ldA (C6.1 4 r2 4) 8 a6 (fun v9 => ldA (C6.1 4 r2 3) 8 a6 (fun v10 => cal (f_X9_turned v9 v3 (v5 - v10) C6) (fun v11 C12 => stA C12 4 r2 4 8 a6 v11 (fun C13 => (f_X9_turnVanes_93 N (fun z5 z6 c => f_X9_turnVanes_6 N r1 r2 a3 a4 n z5 z6 c) r1 r2 a3 a4 a5 a6 v3 v5 C13))))) else (f_X9_turnVanes_93 N (fun z5 z6 c => f_X9_turnVanes_6 N r1 r2 a3 a4 n z5 z6 c) r1 r2 a3 a4 a5 a6 v3 v5 C6)))))))
def f_X9_turnVanes (N : Nat) (r1 : Nat) (r2 : Nat) (a3 : Int32) (a4 : Int32) (C : CM) : Option (Int32 × CM) := (f_X9_turnVanes_6 N r1 r2 a3 a4 N 0 0 C)
set_option maxRecDepth 8000 in
theorem t_X9_turnVanes_93 {l : Launch} {G : GX} {X : XM} {Q : Int32 → Mem → Prop} (N : Nat) (k6 : Int32 → Int32 → CM → Option (Int32 × CM)) (r1 : Nat) (h1 : r1 < 4) (r2 : Nat) (h2 : r2 < 12) (a3 : Int32) (a4 : Int32) (a5 : Int32) (a6 : Int32) (a8 : Int32) (a9 : Int32) (hk6 : ∀ (ac5 : Int32) (ac6 : Int32) (C : CM), SAT (k6 ac5 ac6 C) (fun v c => Q v (c, X)) → AB l G (rmD 2) 0 0 mt_X9_turnVanes (ZQ G mt_X9_turnVanes Q) 6 [(1, .ref (gA G 3 r1 0)), (2, .ref (gA G 4 r2 0)), (3, .int a3), (4, .int a4), (5, .int ac5), (6, .int ac6)] [] (C, X)) (C : CM) (h : SAT (f_X9_turnVanes_93 N k6 r1 r2 a3 a4 a5 a6 a8 a9 C) (fun v c => Q v (c, X))) : AB l G (rmD 2) 0 0 mt_X9_turnVanes (ZQ G mt_X9_turnVanes Q) 93 [(1, .ref (gA G 3 r1 0)), (2, .ref (gA G 4 r2 0)), (3, .int a3), (4, .int a4), (5, .int a5), (6, .int a6), (8, .int a8), (9, .int a9)] [] (C, X) := by
  unfold f_X9_turnVanes_93 at h
  refine ab_iload 7 dX9_turnVanes_93 rfl ?_
  refine ab_if_le (tgt := 119) dX9_turnVanes_95 (by decide) (fun hc1 => ?_) (fun hc1 => ?_)
  · have h := sat_t hc1 h
    refine ab_iinc (q := 5) (v := (a6 + 1)) (lv' := [(1, .ref (gA G 3 r1 0)), (2, .ref (gA G 4 r2 0)), (3, .int a3), (4, .int a4), (5, .int a5), (6, .int (a6 + 1)), (8, .int a8), (9, .int a9)]) dX9_turnVanes_119 rfl rfl rfl (Nat.le_of_ble_eq_true rfl) rfl ?_
    refine ab_goto (tgt := 6) dX9_turnVanes_122 (by decide) ?_
    refine ab_sub [0, 1, 2, 3, 4, 5] rfl ?_
    exact hk6 a5 (a6 + 1) C h
  · have h := sat_f hc1 h
    refine ab_aloadn 1 dX9_turnVanes_98 rfl ?_
    refine f_gr (x := 9) (k2 := 4) (i2 := r2) (j2 := 4) ⟨h2, by decide⟩ rfl rfl (Nat.le_of_ble_eq_true rfl) wd_226 rfl rfl dX9_turnVanes_99 ?_
    refine ab_iload 5 dX9_turnVanes_102 rfl ?_
    refine fC_iald ⟨h2, by decide⟩ rfl (by decide) (fun _ => rfl) h dX9_turnVanes_104 (fun v2 h => ?_)
    refine ab_iload 6 dX9_turnVanes_105 rfl ?_
    refine ab_icmp_ne (tgt := 119) dX9_turnVanes_107 (by decide) (fun hc3 => ?_) (fun hc3 => ?_)
    · have h := sat_f hc3 h
      refine ab_iinc (q := 5) (v := (a6 + 1)) (lv' := [(1, .ref (gA G 3 r1 0)), (2, .ref (gA G 4 r2 0)), (3, .int a3), (4, .int a4), (5, .int a5), (6, .int (a6 + 1)), (8, .int a8), (9, .int a9)]) dX9_turnVanes_119 rfl rfl rfl (Nat.le_of_ble_eq_true rfl) rfl ?_
      refine ab_goto (tgt := 6) dX9_turnVanes_122 (by decide) ?_
      refine ab_sub [0, 1, 2, 3, 4, 5] rfl ?_
      exact hk6 a5 (a6 + 1) C h
    · have h := sat_t hc3 h
      refine ab_iload 4 dX9_turnVanes_110 rfl ?_
      refine ab_iconst (v := 1) dX9_turnVanes_112 (by decide) ?_
      refine ab_iload 5 dX9_turnVanes_113 rfl ?_
      refine ab_ishl dX9_turnVanes_115 ?_
      refine ab_ior dX9_turnVanes_116 ?_
      refine ab_istore (lv' := [(1, .ref (gA G 3 r1 0)), (2, .ref (gA G 4 r2 0)), (3, .int a3), (4, .int a4), (5, .int (a5 ||| ((1 : Int32) <<< (a6 &&& 31)))), (6, .int a6), (8, .int a8), (9, .int a9)]) dX9_turnVanes_117 rfl (Nat.le_of_ble_eq_true rfl) rfl ?_
      refine ab_iinc (q := 5) (v := (a6 + 1)) (lv' := [(1, .ref (gA G 3 r1 0)), (2, .ref (gA G 4 r2 0)), (3, .int a3), (4, .int a4), (5, .int (a5 ||| ((1 : Int32) <<< (a6 &&& 31)))), (6, .int (a6 + 1)), (8, .int a8), (9, .int a9)]) dX9_turnVanes_119 rfl rfl rfl (Nat.le_of_ble_eq_true rfl) rfl ?_
      refine ab_goto (tgt := 6) dX9_turnVanes_122 (by decide) ?_
      refine ab_sub [0, 1, 2, 3, 4, 5] rfl ?_
      exact hk6 (a5 ||| ((1 : Int32) <<< (a6 &&& 31))) (a6 + 1) C h
set_option maxRecDepth 8000 in
theorem t_X9_turnVanes_6 {l : Launch} {G : GX} {X : XM} {Q : Int32 → Mem → Prop} (N : Nat) (r1 : Nat) (h1 : r1 < 4) (r2 : Nat) (h2 : r2 < 12) (a3 : Int32) (a4 : Int32) : ∀ (n : Nat) (a5 : Int32) (a6 : Int32) (C : CM), SAT (f_X9_turnVanes_6 N r1 r2 a3 a4 n a5 a6 C) (fun v c => Q v (c, X)) → AB l G (rmD 2) 0 0 mt_X9_turnVanes (ZQ G mt_X9_turnVanes Q) 6 [(1, .ref (gA G 3 r1 0)), (2, .ref (gA G 4 r2 0)), (3, .int a3), (4, .int a4), (5, .int a5), (6, .int a6)] [] (C, X) := by
  intro n
  induction n with
  | zero => intro a5 a6 C h; exact h.elim
  | succ n ih =>
    intro a5 a6 C h
    rw [f_X9_turnVanes_6] at h
    refine ab_iload 5 dX9_turnVanes_6 rfl ?_
    refine ab_aloadn 0 dX9_turnVanes_8 rfl ?_
    refine f_gr (x := 10) (k2 := 3) (i2 := r1) (j2 := 6) ⟨h1, by decide⟩ rfl rfl (Nat.le_of_ble_eq_true rfl) wd_219 rfl rfl dX9_turnVanes_9 ?_
    refine fC_gi (x := 0) ⟨h1, by decide⟩ rfl rfl (Nat.le_of_ble_eq_true rfl) wd_220 (by decide) rfl dX9_turnVanes_12 ?_
    refine ab_icmp_ge (tgt := 125) dX9_turnVanes_15 (by decide) (fun hc1 => ?_) (fun hc1 => ?_)
    · have h := sat_t hc1 h
      refine ab_iload 4 dX9_turnVanes_125 rfl ?_
      exact fC_iret h rfl rfl dX9_turnVanes_127
    · have h := sat_f hc1 h
      refine ab_aloadn 0 dX9_turnVanes_18 rfl ?_
      refine f_gr (x := 10) (k2 := 3) (i2 := r1) (j2 := 6) ⟨h1, by decide⟩ rfl rfl (Nat.le_of_ble_eq_true rfl) wd_219 rfl rfl dX9_turnVanes_19 ?_
      refine f_gr (x := 3) (k2 := 3) (i2 := r1) (j2 := 8) ⟨h1, by decide⟩ rfl rfl (Nat.le_of_ble_eq_true rfl) wd_221 rfl rfl dX9_turnVanes_22 ?_
      refine ab_iload 5 dX9_turnVanes_25 rfl ?_
      refine fC_iald ⟨h1, by decide⟩ rfl (by decide) (fun _ => rfl) h dX9_turnVanes_27 (fun v2 h => ?_)
      refine ab_istore (lv' := [(1, .ref (gA G 3 r1 0)), (2, .ref (gA G 4 r2 0)), (3, .int a3), (4, .int a4), (5, .int a5), (6, .int a6), (7, .int v2)]) dX9_turnVanes_28 rfl (Nat.le_of_ble_eq_true rfl) rfl ?_
      refine ab_aloadn 0 dX9_turnVanes_30 rfl ?_
      refine ab_iload 6 dX9_turnVanes_31 rfl ?_
      refine ab_iloadn 2 dX9_turnVanes_33 rfl ?_
      refine fC_Vi (mtc := mt_X0_dirAt) (As := [.int v2, .int a3]) h (fun Q h => ct_X0_dirAt r1 h1 v2 a3 C h) ⟨h1, by decide⟩ rfl rfl rfl mw_X0_dirAt wd_222 rfl rfl ⟨Nat.le_of_ble_eq_true rfl, Nat.le_of_ble_eq_true rfl⟩ ⟨Nat.zero_le _, Nat.zero_le _⟩ (Nat.le_of_ble_eq_true rfl) rfl dX9_turnVanes_34 (fun v3 C4 h => ?_)
      refine ab_istore (lv' := [(1, .ref (gA G 3 r1 0)), (2, .ref (gA G 4 r2 0)), (3, .int a3), (4, .int a4), (5, .int a5), (6, .int a6), (7, .int v2), (8, .int v3)]) dX9_turnVanes_37 rfl (Nat.le_of_ble_eq_true rfl) rfl ?_
      refine ab_aloadn 0 dX9_turnVanes_39 rfl ?_
      refine ab_aloadn 1 dX9_turnVanes_40 rfl ?_
      refine f_gr (x := 13) (k2 := 4) (i2 := r2) (j2 := 8) ⟨h2, by decide⟩ rfl rfl (Nat.le_of_ble_eq_true rfl) wd_223 rfl rfl dX9_turnVanes_41 ?_
      refine ab_iload 6 dX9_turnVanes_44 rfl ?_
      refine ab_iloadn 2 dX9_turnVanes_46 rfl ?_
      refine ab_iload 3 dX9_turnVanes_47 rfl ?_
      refine fC_Vi (mtc := mt_X0_forceAt) (As := [.ref (gA G 4 r2 8), .int v2, .int a3, .int a4]) h (fun Q h => ct_X0_forceAt_s N r1 h1 r2 h2 v2 a3 a4 C4 h) ⟨h1, by decide⟩ rfl rfl rfl mw_X0_forceAt wd_224 rfl rfl ⟨Nat.le_of_ble_eq_true rfl, Nat.le_of_ble_eq_true rfl⟩ ⟨Nat.zero_le _, Nat.zero_le _⟩ (Nat.le_of_ble_eq_true rfl) rfl dX9_turnVanes_49 (fun v5 C6 h => ?_)
      refine ab_istore (lv' := [(1, .ref (gA G 3 r1 0)), (2, .ref (gA G 4 r2 0)), (3, .int a3), (4, .int a4), (5, .int a5), (6, .int a6), (7, .int v2), (8, .int v3), (9, .int v5)]) dX9_turnVanes_52 rfl (Nat.le_of_ble_eq_true rfl) rfl ?_
      refine ab_aloadn 1 dX9_turnVanes_54 rfl ?_
      refine f_gr (x := 10) (k2 := 4) (i2 := r2) (j2 := 5) ⟨h2, by decide⟩ rfl rfl (Nat.le_of_ble_eq_true rfl) wd_225 rfl rfl dX9_turnVanes_55 ?_
      refine ab_iload 5 dX9_turnVanes_58 rfl ?_
      refine fC_iald ⟨h2, by decide⟩ rfl (by decide) (fun _ => rfl) h dX9_turnVanes_60 (fun v7 h => ?_)
      refine ab_if_ne (tgt := 93) dX9_turnVanes_61 (by decide) (fun hc8 => ?_) (fun hc8 => ?_)
      · have h := sat_f hc8 h
        refine ab_sub [0, 1, 2, 3, 4, 5, 7, 8] rfl ?_
        exact t_X9_turnVanes_93 N (fun z5 z6 c => f_X9_turnVanes_6 N r1 r2 a3 a4 n z5 z6 c) r1 h1 r2 h2 a3 a4 a5 a6 v3 v5 ih C6 h
      · have h := sat_t hc8 h
        refine ab_aloadn 1 dX9_turnVanes_64 rfl ?_
        refine f_gr (x := 9) (k2 := 4) (i2 := r2) (j2 := 4) ⟨h2, by decide⟩ rfl rfl (Nat.le_of_ble_eq_true rfl) wd_226 rfl rfl dX9_turnVanes_65 ?_
        refine ab_iload 5 dX9_turnVanes_68 rfl ?_
        refine ab_aloadn 1 dX9_turnVanes_70 rfl ?_
        refine f_gr (x := 9) (k2 := 4) (i2 := r2) (j2 := 4) ⟨h2, by decide⟩ rfl rfl (Nat.le_of_ble_eq_true rfl) wd_226 rfl rfl dX9_turnVanes_71 ?_
        refine ab_iload 5 dX9_turnVanes_74 rfl ?_
        refine fC_iald ⟨h2, by decide⟩ rfl (by decide) (fun _ => rfl) h dX9_turnVanes_76 (fun v9 h => ?_)
        refine ab_iload 7 dX9_turnVanes_77 rfl ?_
        refine ab_iload 8 dX9_turnVanes_79 rfl ?_
        refine ab_aloadn 1 dX9_turnVanes_81 rfl ?_
        refine f_gr (x := 8) (k2 := 4) (i2 := r2) (j2 := 3) ⟨h2, by decide⟩ rfl rfl (Nat.le_of_ble_eq_true rfl) wd_227 rfl rfl dX9_turnVanes_82 ?_
        refine ab_iload 5 dX9_turnVanes_85 rfl ?_
        refine fC_iald ⟨h2, by decide⟩ rfl (by decide) (fun _ => rfl) h dX9_turnVanes_87 (fun v10 h => ?_)
        refine ab_isub dX9_turnVanes_88 ?_
        refine fC_Si (mtc := mt_X9_turned) (As := [.int v9, .int v3, .int (v5 - v10)]) h (fun Q h => ct_X9_turned v9 v3 (v5 - v10) C6 h) mw_X9_turned wd_229 wd_230 rfl rfl ⟨Nat.le_of_ble_eq_true rfl, Nat.le_of_ble_eq_true rfl⟩ ⟨Nat.zero_le _, Nat.zero_le _⟩ (Nat.le_of_ble_eq_true rfl) rfl dX9_turnVanes_89 (fun v11 C12 h => ?_)
        refine fC_iast ⟨h2, by decide⟩ rfl (by decide) (fun _ => rfl) h dX9_turnVanes_92 (fun C13 h => ?_)
        refine ab_sub [0, 1, 2, 3, 4, 5, 7, 8] rfl ?_
        exact t_X9_turnVanes_93 N (fun z5 z6 c => f_X9_turnVanes_6 N r1 r2 a3 a4 n z5 z6 c) r1 h1 r2 h2 a3 a4 a5 a6 v3 v5 ih C13 h
set_option maxRecDepth 8000 in
theorem t_X9_turnVanes_0 {l : Launch} {G : GX} {X : XM} {Q : Int32 → Mem → Prop} (N : Nat) (r1 : Nat) (h1 : r1 < 4) (r2 : Nat) (h2 : r2 < 12) (a3 : Int32) (a4 : Int32) (C : CM) (h : SAT (f_X9_turnVanes N r1 r2 a3 a4 C) (fun v c => Q v (c, X))) : AB l G (rmD 2) 0 0 mt_X9_turnVanes (ZQ G mt_X9_turnVanes Q) 0 [(0, .ref (gA G 8 0 0)), (1, .ref (gA G 3 r1 0)), (2, .ref (gA G 4 r2 0)), (3, .int a3), (4, .int a4)] [] (C, X) := by
  unfold f_X9_turnVanes at h
  refine ab_iconst (v := 0) dX9_turnVanes_0 (by decide) ?_
  refine ab_istore (lv' := [(0, .ref (gA G 8 0 0)), (1, .ref (gA G 3 r1 0)), (2, .ref (gA G 4 r2 0)), (3, .int a3), (4, .int a4), (5, .int 0)]) dX9_turnVanes_1 rfl (Nat.le_of_ble_eq_true rfl) rfl ?_
  refine ab_iconst (v := 0) dX9_turnVanes_3 (by decide) ?_
  refine ab_istore (lv' := [(0, .ref (gA G 8 0 0)), (1, .ref (gA G 3 r1 0)), (2, .ref (gA G 4 r2 0)), (3, .int a3), (4, .int a4), (5, .int 0), (6, .int 0)]) dX9_turnVanes_4 rfl (Nat.le_of_ble_eq_true rfl) rfl ?_
  refine ab_sub [1, 2, 3, 4, 5, 6] rfl ?_
  exact t_X9_turnVanes_6 N r1 h1 r2 h2 a3 a4 N 0 0 C h
theorem ct_X9_turnVanes {l : Launch} {G : GX} {X : XM} {Q : Int32 → Mem → Prop} (N : Nat) (r1 : Nat) (h1 : r1 < 4) (r2 : Nat) (h2 : r2 < 12) (a3 : Int32) (a4 : Int32) (C : CM) (h : SAT (f_X9_turnVanes N r1 r2 a3 a4 C) (fun v c => Q v (c, X))) : CT l G 2 mt_X9_turnVanes [.ref (gA G 8 0 0), .ref (gA G 3 r1 0), .ref (gA G 4 r2 0), .int a3, .int a4] (C, X) Q := ct_of pn_X9 (Nat.le_of_ble_eq_true rfl) (t_X9_turnVanes_0 N r1 h1 r2 h2 a3 a4 C h)
def f_X10_faces (N : Nat) (a1 : Int32) (a2 : Int32) (C : CM) : Option (Int32 × CM) := cal (f_X10_isGust a1 a2 C) (fun v1 C2 => (if v1 = 0 then (rt (-1) C2) else cal (f_X6_copy 3 0 C2) (fun v4 C5 => ldR (C5.2 2 0 1) 4 (fun y6 => cal (f_X9_turnVanes N y6 3 a1 a2 C5) (fun v8 C9 => (rt v8 C9))))))
set_option maxRecDepth 8000 in
theorem t_X10_faces_0 {l : Launch} {G : GX} {X : XM} {Q : Int32 → Mem → Prop} (N : Nat) (a1 : Int32) (a2 : Int32) (C : CM) (h : SAT (f_X10_faces N a1 a2 C) (fun v c => Q v (c, X))) : AB l G (rmD 3) 0 0 mt_X10_faces (ZQ G mt_X10_faces Q) 0 [(0, .ref (gA G 0 0 0)), (1, .int a1), (2, .int a2)] [] (C, X) := by
  unfold f_X10_faces at h
  refine ab_iloadn 1 dX10_faces_0 rfl ?_
  refine ab_iloadn 2 dX10_faces_1 rfl ?_
  refine fC_Si (mtc := mt_X10_isGust) (As := [.int a1, .int a2]) h (fun Q h => ct_X10_isGust a1 a2 C h) mw_X10_isGust wd_209 wd_210 rfl rfl ⟨Nat.le_of_ble_eq_true rfl, Nat.le_of_ble_eq_true rfl⟩ ⟨Nat.zero_le _, Nat.zero_le _⟩ (Nat.le_of_ble_eq_true rfl) rfl dX10_faces_2 (fun v1 C2 h => ?_)
  refine ab_if_ne (tgt := 10) dX10_faces_5 (by decide) (fun hc3 => ?_) (fun hc3 => ?_)
  · have h := sat_f hc3 h
    refine ab_aloadn 0 dX10_faces_10 rfl ?_
    refine f_gr (x := 12) (k2 := 4) (i2 := 3) (j2 := 0) ⟨by decide, by decide⟩ rfl rfl (Nat.le_of_ble_eq_true rfl) wd_216 rfl rfl dX10_faces_11 ?_
    refine ab_aloadn 0 dX10_faces_14 rfl ?_
    refine f_gr (x := 4) (k2 := 2) (i2 := 0) (j2 := 0) ⟨by decide, by decide⟩ rfl rfl (Nat.le_of_ble_eq_true rfl) wd_124 rfl rfl dX10_faces_15 ?_
    refine f_gr (x := 2) (k2 := 4) (i2 := 0) (j2 := 0) ⟨by decide, by decide⟩ rfl rfl (Nat.le_of_ble_eq_true rfl) wd_126 rfl rfl dX10_faces_18 ?_
    refine fC_Vv (mtc := mt_X6_copy) (As := [.ref (gA G 4 0 0)]) h (fun Q h => ct_X6_copy 3 (by decide) 0 (by decide) C2 h) ⟨by decide, by decide⟩ rfl rfl rfl mw_X6_copy wd_217 rfl rfl ⟨Nat.le_of_ble_eq_true rfl, Nat.le_of_ble_eq_true rfl⟩ ⟨Nat.zero_le _, Nat.zero_le _⟩ (Nat.le_of_ble_eq_true rfl) rfl dX10_faces_21 (fun v4 C5 h => ?_)
    refine ab_aloadn 0 dX10_faces_24 rfl ?_
    refine f_gr (x := 10) (k2 := 8) (i2 := 0) (j2 := 0) ⟨by decide, by decide⟩ rfl rfl (Nat.le_of_ble_eq_true rfl) wd_218 rfl rfl dX10_faces_25 ?_
    refine ab_aloadn 0 dX10_faces_28 rfl ?_
    refine f_gr (x := 4) (k2 := 2) (i2 := 0) (j2 := 0) ⟨by decide, by decide⟩ rfl rfl (Nat.le_of_ble_eq_true rfl) wd_124 rfl rfl dX10_faces_29 ?_
    refine fC_gd (x := 1) ⟨by decide, by decide⟩ rfl rfl (Nat.le_of_ble_eq_true rfl) wd_125 rfl h rfl dX10_faces_32 (fun y6 hy7 h => ?_)
    refine ab_aloadn 0 dX10_faces_35 rfl ?_
    refine f_gr (x := 12) (k2 := 4) (i2 := 3) (j2 := 0) ⟨by decide, by decide⟩ rfl rfl (Nat.le_of_ble_eq_true rfl) wd_216 rfl rfl dX10_faces_36 ?_
    refine ab_iloadn 1 dX10_faces_39 rfl ?_
    refine ab_iloadn 2 dX10_faces_40 rfl ?_
    refine fC_Vi (mtc := mt_X9_turnVanes) (As := [.ref (gA G 3 y6 0), .ref (gA G 4 3 0), .int a1, .int a2]) h (fun Q h => ct_X9_turnVanes N y6 hy7 3 (by decide) a1 a2 C5 h) ⟨by decide, by decide⟩ rfl rfl rfl mw_X9_turnVanes wd_231 rfl rfl ⟨Nat.le_of_ble_eq_true rfl, Nat.le_of_ble_eq_true rfl⟩ ⟨Nat.zero_le _, Nat.zero_le _⟩ (Nat.le_of_ble_eq_true rfl) rfl dX10_faces_41 (fun v8 C9 h => ?_)
    exact fC_iret h rfl rfl dX10_faces_44
  · have h := sat_t hc3 h
    refine ab_iconst (v := (-1)) dX10_faces_8 (by decide) ?_
    exact fC_iret h rfl rfl dX10_faces_9
theorem ct_X10_faces {l : Launch} {G : GX} {X : XM} {Q : Int32 → Mem → Prop} (N : Nat) (a1 : Int32) (a2 : Int32) (C : CM) (h : SAT (f_X10_faces N a1 a2 C) (fun v c => Q v (c, X))) : CT l G 3 mt_X10_faces [.ref (gA G 0 0 0), .int a1, .int a2] (C, X) Q := ct_of pn_X10 (Nat.le_of_ble_eq_true rfl) (t_X10_faces_0 N a1 a2 C h)
def f_X9_giveToGreatestRest_4 (N : Nat) (a1 : Int32) : Nat → Int32 → Int32 → CM → Option (Int32 × CM)
  | 0, _, _, _ => none
  | n + 1, a2, a3, C => (if a1 ≤ a3 then ldA (C.1 8 0 1) 8 a2 (fun v2 => stA C 8 0 1 8 a2 (v2 + 1) (fun C3 => stA C3 8 0 2 8 a2 (-1) (fun C4 => (rt 0 C4)))) else ldA (C.1 8 0 2) 8 a3 (fun v5 => ldA (C.1 8 0 2) 8 a2 (fun v6 => (if v5 ≤ v6 then (f_X9_giveToGreatestRest_4 N a1 n a2 (a3 + 1) C) else (f_X9_giveToGreatestRest_4 N a1 n a3 (a3 + 1) C)))))
def f_X9_giveToGreatestRest (N : Nat) (a1 : Int32) (C : CM) : Option (Int32 × CM) := (f_X9_giveToGreatestRest_4 N a1 N 0 1 C)
set_option maxRecDepth 8000 in
theorem t_X9_giveToGreatestRest_4 {l : Launch} {G : GX} {X : XM} {Q : Int32 → Mem → Prop} (N : Nat) (a1 : Int32) : ∀ (n : Nat) (a2 : Int32) (a3 : Int32) (C : CM), SAT (f_X9_giveToGreatestRest_4 N a1 n a2 a3 C) (fun v c => Q v (c, X)) → AB l G (rmD 1) 0 0 mt_X9_giveToGreatestRest (ZQ G mt_X9_giveToGreatestRest Q) 4 [(0, .ref (gA G 8 0 0)), (1, .int a1), (2, .int a2), (3, .int a3)] [] (C, X) := by
  intro n
  induction n with
  | zero => intro a2 a3 C h; exact h.elim
  | succ n ih =>
    intro a2 a3 C h
    rw [f_X9_giveToGreatestRest_4] at h
    refine ab_iloadn 3 dX9_giveToGreatestRest_4 rfl ?_
    refine ab_iloadn 1 dX9_giveToGreatestRest_5 rfl ?_
    refine ab_icmp_ge (tgt := 32) dX9_giveToGreatestRest_6 (by decide) (fun hc1 => ?_) (fun hc1 => ?_)
    · have h := sat_t hc1 h
      refine ab_aloadn 0 dX9_giveToGreatestRest_32 rfl ?_
      refine f_gr (x := 0) (k2 := 8) (i2 := 0) (j2 := 1) ⟨by decide, by decide⟩ rfl rfl (Nat.le_of_ble_eq_true rfl) wd_236 rfl rfl dX9_giveToGreatestRest_33 ?_
      refine ab_iloadn 2 dX9_giveToGreatestRest_36 rfl ?_
      refine ab_dup2 dX9_giveToGreatestRest_37 rfl rfl ?_
      refine fC_iald ⟨by decide, by decide⟩ rfl (by decide) (fun _ => rfl) h dX9_giveToGreatestRest_38 (fun v2 h => ?_)
      refine ab_iconst (v := 1) dX9_giveToGreatestRest_39 (by decide) ?_
      refine ab_iadd dX9_giveToGreatestRest_40 ?_
      refine fC_iast ⟨by decide, by decide⟩ rfl (by decide) (fun _ => rfl) h dX9_giveToGreatestRest_41 (fun C3 h => ?_)
      refine ab_aloadn 0 dX9_giveToGreatestRest_42 rfl ?_
      refine f_gr (x := 1) (k2 := 8) (i2 := 0) (j2 := 2) ⟨by decide, by decide⟩ rfl rfl (Nat.le_of_ble_eq_true rfl) wd_237 rfl rfl dX9_giveToGreatestRest_43 ?_
      refine ab_iloadn 2 dX9_giveToGreatestRest_46 rfl ?_
      refine ab_iconst (v := (-1)) dX9_giveToGreatestRest_47 (by decide) ?_
      refine fC_iast ⟨by decide, by decide⟩ rfl (by decide) (fun _ => rfl) h dX9_giveToGreatestRest_48 (fun C4 h => ?_)
      exact fC_vret h rfl dX9_giveToGreatestRest_49
    · have h := sat_f hc1 h
      refine ab_aloadn 0 dX9_giveToGreatestRest_9 rfl ?_
      refine f_gr (x := 1) (k2 := 8) (i2 := 0) (j2 := 2) ⟨by decide, by decide⟩ rfl rfl (Nat.le_of_ble_eq_true rfl) wd_237 rfl rfl dX9_giveToGreatestRest_10 ?_
      refine ab_iloadn 3 dX9_giveToGreatestRest_13 rfl ?_
      refine fC_iald ⟨by decide, by decide⟩ rfl (by decide) (fun _ => rfl) h dX9_giveToGreatestRest_14 (fun v5 h => ?_)
      refine ab_aloadn 0 dX9_giveToGreatestRest_15 rfl ?_
      refine f_gr (x := 1) (k2 := 8) (i2 := 0) (j2 := 2) ⟨by decide, by decide⟩ rfl rfl (Nat.le_of_ble_eq_true rfl) wd_237 rfl rfl dX9_giveToGreatestRest_16 ?_
      refine ab_iloadn 2 dX9_giveToGreatestRest_19 rfl ?_
      refine fC_iald ⟨by decide, by decide⟩ rfl (by decide) (fun _ => rfl) h dX9_giveToGreatestRest_20 (fun v6 h => ?_)
      refine ab_icmp_le (tgt := 26) dX9_giveToGreatestRest_21 (by decide) (fun hc7 => ?_) (fun hc7 => ?_)
      · have h := sat_t hc7 h
        refine ab_iinc (q := 3) (v := (a3 + 1)) (lv' := [(0, .ref (gA G 8 0 0)), (1, .int a1), (2, .int a2), (3, .int (a3 + 1))]) dX9_giveToGreatestRest_26 rfl rfl rfl (Nat.le_of_ble_eq_true rfl) rfl ?_
        refine ab_goto (tgt := 4) dX9_giveToGreatestRest_29 (by decide) ?_
        exact ih a2 (a3 + 1) C h
      · have h := sat_f hc7 h
        refine ab_iloadn 3 dX9_giveToGreatestRest_24 rfl ?_
        refine ab_istoren (lv' := [(0, .ref (gA G 8 0 0)), (1, .int a1), (2, .int a3), (3, .int a3)]) dX9_giveToGreatestRest_25 rfl (Nat.le_of_ble_eq_true rfl) rfl ?_
        refine ab_iinc (q := 3) (v := (a3 + 1)) (lv' := [(0, .ref (gA G 8 0 0)), (1, .int a1), (2, .int a3), (3, .int (a3 + 1))]) dX9_giveToGreatestRest_26 rfl rfl rfl (Nat.le_of_ble_eq_true rfl) rfl ?_
        refine ab_goto (tgt := 4) dX9_giveToGreatestRest_29 (by decide) ?_
        exact ih a3 (a3 + 1) C h
set_option maxRecDepth 8000 in
theorem t_X9_giveToGreatestRest_0 {l : Launch} {G : GX} {X : XM} {Q : Int32 → Mem → Prop} (N : Nat) (a1 : Int32) (C : CM) (h : SAT (f_X9_giveToGreatestRest N a1 C) (fun v c => Q v (c, X))) : AB l G (rmD 1) 0 0 mt_X9_giveToGreatestRest (ZQ G mt_X9_giveToGreatestRest Q) 0 [(0, .ref (gA G 8 0 0)), (1, .int a1)] [] (C, X) := by
  unfold f_X9_giveToGreatestRest at h
  refine ab_iconst (v := 0) dX9_giveToGreatestRest_0 (by decide) ?_
  refine ab_istoren (lv' := [(0, .ref (gA G 8 0 0)), (1, .int a1), (2, .int 0)]) dX9_giveToGreatestRest_1 rfl (Nat.le_of_ble_eq_true rfl) rfl ?_
  refine ab_iconst (v := 1) dX9_giveToGreatestRest_2 (by decide) ?_
  refine ab_istoren (lv' := [(0, .ref (gA G 8 0 0)), (1, .int a1), (2, .int 0), (3, .int 1)]) dX9_giveToGreatestRest_3 rfl (Nat.le_of_ble_eq_true rfl) rfl ?_
  exact t_X9_giveToGreatestRest_4 N a1 N 0 1 C h
theorem ct_X9_giveToGreatestRest {l : Launch} {G : GX} {X : XM} {Q : Int32 → Mem → Prop} (N : Nat) (a1 : Int32) (C : CM) (h : SAT (f_X9_giveToGreatestRest N a1 C) (fun v c => Q v (c, X))) : CT l G 1 mt_X9_giveToGreatestRest [.ref (gA G 8 0 0), .int a1] (C, X) Q := ct_of pn_X9 (Nat.le_of_ble_eq_true rfl) (t_X9_giveToGreatestRest_0 N a1 C h)
def f_X9_share_145 (N : Nat) (r1 : Nat) (a5 : Int32) : Nat → Int32 → CM → Option (Int32 × CM)
  | 0, _, _ => none
  | n + 1, a6, C => (if a5 ≤ a6 then (rt 0 C) else cal (f_X9_giveToGreatestRest N (C.1 3 r1 6 0) C) (fun v2 C3 => (f_X9_share_145 N r1 a5 n (a6 + 1) C3)))
def f_X9_share_46 (N : Nat) (r1 : Nat) (a2 : Int32) (a3 : Int32) (a4 : Int32) : Nat → Int32 → Int32 → CM → Option (Int32 × CM)
  | 0, _, _, _ => none
  | n + 1, a5, a6, C => (if (C.1 3 r1 6 0) ≤ a6 then (f_X9_share_145 N r1 a5 N 0 C) else stA C 8 0 1 8 a6 0 (fun C2 => stA C2 8 0 2 8 a6 (-1) (fun C3 => (if ((a2 >>> (a6 &&& 31)) &&& 1) = 1 then (if a4 ≤ 0 then (f_X9_share_46 N r1 a2 a3 a4 n a5 (a6 + 1) C3) else ldA (C3.1 3 r1 10) 8 a6 (fun v6 => chk (decide (a4 ≠ 0)) (stA C3 8 0 1 8 a6 ((a3 * v6) / a4) (fun C7 => ldA (C7.1 3 r1 10) 8 a6 (fun v8 => chk (decide (a4 ≠ 0)) (stA C7 8 0 2 8 a6 ((a3 * v8) - (a3 * v8) / a4 * a4) (fun C9 => ldA (C9.1 8 0 1) 8 a6 (fun v10 => (f_X9_share_46 N r1 a2 a3 a4 n (a5 - v10) (a6 + 1) C9))))))))) else (f_X9_share_46 N r1 a2 a3 a4 n a5 (a6 + 1) C3)))))
def f_X9_share_6 (N : Nat) (r1 : Nat) (a2 : Int32) (a3 : Int32) : Nat → Int32 → Int32 → CM → Option (Int32 × CM)
  | 0, _, _, _ => none
  | n + 1, a4, a5, C => (if (C.1 3 r1 6 0) ≤ a5 then (f_X9_share_46 N r1 a2 a3 a4 N a3 0 C) else ldA (C.1 3 r1 10) 8 a5 (fun v2 => (f_X9_share_6 N r1 a2 a3 n (a4 + (((a2 >>> (a5 &&& 31)) &&& 1) * v2)) (a5 + 1) C)))
def f_X9_share (N : Nat) (r1 : Nat) (a2 : Int32) (a3 : Int32) (C : CM) : Option (Int32 × CM) := (f_X9_share_6 N r1 a2 a3 N 0 0 C)
set_option maxRecDepth 8000 in
theorem t_X9_share_145 {l : Launch} {G : GX} {X : XM} {Q : Int32 → Mem → Prop} (N : Nat) (r1 : Nat) (h1 : r1 < 4) (a5 : Int32) : ∀ (n : Nat) (a6 : Int32) (C : CM), SAT (f_X9_share_145 N r1 a5 n a6 C) (fun v c => Q v (c, X)) → AB l G (rmD 2) 0 0 mt_X9_share (ZQ G mt_X9_share Q) 145 [(0, .ref (gA G 8 0 0)), (1, .ref (gA G 3 r1 6)), (5, .int a5), (6, .int a6)] [] (C, X) := by
  intro n
  induction n with
  | zero => intro a6 C h; exact h.elim
  | succ n ih =>
    intro a6 C h
    rw [f_X9_share_145] at h
    refine ab_iload 3 dX9_share_145 rfl ?_
    refine ab_iload 2 dX9_share_147 rfl ?_
    refine ab_icmp_ge (tgt := 166) dX9_share_149 (by decide) (fun hc1 => ?_) (fun hc1 => ?_)
    · have h := sat_t hc1 h
      exact fC_vret h rfl dX9_share_166
    · have h := sat_f hc1 h
      refine ab_aloadn 0 dX9_share_152 rfl ?_
      refine ab_aloadn 1 dX9_share_153 rfl ?_
      refine fC_gi (x := 0) ⟨h1, by decide⟩ rfl rfl (Nat.le_of_ble_eq_true rfl) wd_220 (by decide) rfl dX9_share_154 ?_
      refine fC_Vv (mtc := mt_X9_giveToGreatestRest) (As := [.int (C.1 3 r1 6 0)]) h (fun Q h => ct_X9_giveToGreatestRest N (C.1 3 r1 6 0) C h) ⟨by decide, by decide⟩ rfl rfl rfl mw_X9_giveToGreatestRest wd_238 rfl rfl ⟨Nat.le_of_ble_eq_true rfl, Nat.le_of_ble_eq_true rfl⟩ ⟨Nat.zero_le _, Nat.zero_le _⟩ (Nat.le_of_ble_eq_true rfl) rfl dX9_share_157 (fun v2 C3 h => ?_)
      refine ab_iinc (q := 3) (v := (a6 + 1)) (lv' := [(0, .ref (gA G 8 0 0)), (1, .ref (gA G 3 r1 6)), (5, .int a5), (6, .int (a6 + 1))]) dX9_share_160 rfl rfl rfl (Nat.le_of_ble_eq_true rfl) rfl ?_
      refine ab_goto (tgt := 145) dX9_share_163 (by decide) ?_
      exact ih (a6 + 1) C3 h
set_option maxRecDepth 8000 in
theorem t_X9_share_46 {l : Launch} {G : GX} {X : XM} {Q : Int32 → Mem → Prop} (N : Nat) (r1 : Nat) (h1 : r1 < 4) (a2 : Int32) (a3 : Int32) (a4 : Int32) : ∀ (n : Nat) (a5 : Int32) (a6 : Int32) (C : CM), SAT (f_X9_share_46 N r1 a2 a3 a4 n a5 a6 C) (fun v c => Q v (c, X)) → AB l G (rmD 2) 0 0 mt_X9_share (ZQ G mt_X9_share Q) 46 [(0, .ref (gA G 8 0 0)), (1, .ref (gA G 3 r1 6)), (2, .int a2), (3, .int a3), (4, .int a4), (5, .int a5), (6, .int a6)] [] (C, X) := by
  intro n
  induction n with
  | zero => intro a5 a6 C h; exact h.elim
  | succ n ih =>
    intro a5 a6 C h
    rw [f_X9_share_46] at h
    refine ab_iload 6 dX9_share_46 rfl ?_
    refine ab_aloadn 1 dX9_share_48 rfl ?_
    refine fC_gi (x := 0) ⟨h1, by decide⟩ rfl rfl (Nat.le_of_ble_eq_true rfl) wd_220 (by decide) rfl dX9_share_49 ?_
    refine ab_icmp_ge (tgt := 142) dX9_share_52 (by decide) (fun hc1 => ?_) (fun hc1 => ?_)
    · have h := sat_t hc1 h
      refine ab_iconst (v := 0) dX9_share_142 (by decide) ?_
      refine ab_istore (lv' := [(0, .ref (gA G 8 0 0)), (1, .ref (gA G 3 r1 6)), (2, .int a2), (3, .int a3), (4, .int a4), (5, .int a5), (6, .int 0)]) dX9_share_143 rfl (Nat.le_of_ble_eq_true rfl) rfl ?_
      refine ab_sub [0, 1, 5, 6] rfl ?_
      exact t_X9_share_145 N r1 h1 a5 N 0 C h
    · have h := sat_f hc1 h
      refine ab_aloadn 0 dX9_share_55 rfl ?_
      refine f_gr (x := 0) (k2 := 8) (i2 := 0) (j2 := 1) ⟨by decide, by decide⟩ rfl rfl (Nat.le_of_ble_eq_true rfl) wd_236 rfl rfl dX9_share_56 ?_
      refine ab_iload 6 dX9_share_59 rfl ?_
      refine ab_iconst (v := 0) dX9_share_61 (by decide) ?_
      refine fC_iast ⟨by decide, by decide⟩ rfl (by decide) (fun _ => rfl) h dX9_share_62 (fun C2 h => ?_)
      refine ab_aloadn 0 dX9_share_63 rfl ?_
      refine f_gr (x := 1) (k2 := 8) (i2 := 0) (j2 := 2) ⟨by decide, by decide⟩ rfl rfl (Nat.le_of_ble_eq_true rfl) wd_237 rfl rfl dX9_share_64 ?_
      refine ab_iload 6 dX9_share_67 rfl ?_
      refine ab_iconst (v := (-1)) dX9_share_69 (by decide) ?_
      refine fC_iast ⟨by decide, by decide⟩ rfl (by decide) (fun _ => rfl) h dX9_share_70 (fun C3 h => ?_)
      refine ab_iloadn 2 dX9_share_71 rfl ?_
      refine ab_iload 6 dX9_share_72 rfl ?_
      refine ab_ishr dX9_share_74 ?_
      refine ab_iconst (v := 1) dX9_share_75 (by decide) ?_
      refine ab_iand dX9_share_76 ?_
      refine ab_iconst (v := 1) dX9_share_77 (by decide) ?_
      refine ab_icmp_ne (tgt := 136) dX9_share_78 (by decide) (fun hc4 => ?_) (fun hc4 => ?_)
      · have h := sat_f hc4 h
        refine ab_iinc (q := 6) (v := (a6 + 1)) (lv' := [(0, .ref (gA G 8 0 0)), (1, .ref (gA G 3 r1 6)), (2, .int a2), (3, .int a3), (4, .int a4), (5, .int a5), (6, .int (a6 + 1))]) dX9_share_136 rfl rfl rfl (Nat.le_of_ble_eq_true rfl) rfl ?_
        refine ab_goto (tgt := 46) dX9_share_139 (by decide) ?_
        exact ih a5 (a6 + 1) C3 h
      · have h := sat_t hc4 h
        refine ab_iload 4 dX9_share_81 rfl ?_
        refine ab_if_le (tgt := 136) dX9_share_83 (by decide) (fun hc5 => ?_) (fun hc5 => ?_)
        · have h := sat_t hc5 h
          refine ab_iinc (q := 6) (v := (a6 + 1)) (lv' := [(0, .ref (gA G 8 0 0)), (1, .ref (gA G 3 r1 6)), (2, .int a2), (3, .int a3), (4, .int a4), (5, .int a5), (6, .int (a6 + 1))]) dX9_share_136 rfl rfl rfl (Nat.le_of_ble_eq_true rfl) rfl ?_
          refine ab_goto (tgt := 46) dX9_share_139 (by decide) ?_
          exact ih a5 (a6 + 1) C3 h
        · have h := sat_f hc5 h
          refine ab_aloadn 0 dX9_share_86 rfl ?_
          refine f_gr (x := 0) (k2 := 8) (i2 := 0) (j2 := 1) ⟨by decide, by decide⟩ rfl rfl (Nat.le_of_ble_eq_true rfl) wd_236 rfl rfl dX9_share_87 ?_
          refine ab_iload 6 dX9_share_90 rfl ?_
          refine ab_iloadn 3 dX9_share_92 rfl ?_
          refine ab_aloadn 1 dX9_share_93 rfl ?_
          refine f_gr (x := 5) (k2 := 3) (i2 := r1) (j2 := 10) ⟨h1, by decide⟩ rfl rfl (Nat.le_of_ble_eq_true rfl) wd_235 rfl rfl dX9_share_94 ?_
          refine ab_iload 6 dX9_share_97 rfl ?_
          refine fC_iald ⟨h1, by decide⟩ rfl (by decide) (fun _ => rfl) h dX9_share_99 (fun v6 h => ?_)
          refine ab_imul dX9_share_100 ?_
          refine ab_iload 4 dX9_share_101 rfl ?_
          refine f_idiv h dX9_share_103 (fun h => ?_)
          refine fC_iast ⟨by decide, by decide⟩ rfl (by decide) (fun _ => rfl) h dX9_share_104 (fun C7 h => ?_)
          refine ab_aloadn 0 dX9_share_105 rfl ?_
          refine f_gr (x := 1) (k2 := 8) (i2 := 0) (j2 := 2) ⟨by decide, by decide⟩ rfl rfl (Nat.le_of_ble_eq_true rfl) wd_237 rfl rfl dX9_share_106 ?_
          refine ab_iload 6 dX9_share_109 rfl ?_
          refine ab_iloadn 3 dX9_share_111 rfl ?_
          refine ab_aloadn 1 dX9_share_112 rfl ?_
          refine f_gr (x := 5) (k2 := 3) (i2 := r1) (j2 := 10) ⟨h1, by decide⟩ rfl rfl (Nat.le_of_ble_eq_true rfl) wd_235 rfl rfl dX9_share_113 ?_
          refine ab_iload 6 dX9_share_116 rfl ?_
          refine fC_iald ⟨h1, by decide⟩ rfl (by decide) (fun _ => rfl) h dX9_share_118 (fun v8 h => ?_)
          refine ab_imul dX9_share_119 ?_
          refine ab_iload 4 dX9_share_120 rfl ?_
          refine f_irem h dX9_share_122 (fun h => ?_)
          refine fC_iast ⟨by decide, by decide⟩ rfl (by decide) (fun _ => rfl) h dX9_share_123 (fun C9 h => ?_)
          refine ab_iload 5 dX9_share_124 rfl ?_
          refine ab_aloadn 0 dX9_share_126 rfl ?_
          refine f_gr (x := 0) (k2 := 8) (i2 := 0) (j2 := 1) ⟨by decide, by decide⟩ rfl rfl (Nat.le_of_ble_eq_true rfl) wd_236 rfl rfl dX9_share_127 ?_
          refine ab_iload 6 dX9_share_130 rfl ?_
          refine fC_iald ⟨by decide, by decide⟩ rfl (by decide) (fun _ => rfl) h dX9_share_132 (fun v10 h => ?_)
          refine ab_isub dX9_share_133 ?_
          refine ab_istore (lv' := [(0, .ref (gA G 8 0 0)), (1, .ref (gA G 3 r1 6)), (2, .int a2), (3, .int a3), (4, .int a4), (5, .int (a5 - v10)), (6, .int a6)]) dX9_share_134 rfl (Nat.le_of_ble_eq_true rfl) rfl ?_
          refine ab_iinc (q := 6) (v := (a6 + 1)) (lv' := [(0, .ref (gA G 8 0 0)), (1, .ref (gA G 3 r1 6)), (2, .int a2), (3, .int a3), (4, .int a4), (5, .int (a5 - v10)), (6, .int (a6 + 1))]) dX9_share_136 rfl rfl rfl (Nat.le_of_ble_eq_true rfl) rfl ?_
          refine ab_goto (tgt := 46) dX9_share_139 (by decide) ?_
          exact ih (a5 - v10) (a6 + 1) C9 h
set_option maxRecDepth 8000 in
theorem t_X9_share_6 {l : Launch} {G : GX} {X : XM} {Q : Int32 → Mem → Prop} (N : Nat) (r1 : Nat) (h1 : r1 < 4) (a2 : Int32) (a3 : Int32) : ∀ (n : Nat) (a4 : Int32) (a5 : Int32) (C : CM), SAT (f_X9_share_6 N r1 a2 a3 n a4 a5 C) (fun v c => Q v (c, X)) → AB l G (rmD 2) 0 0 mt_X9_share (ZQ G mt_X9_share Q) 6 [(0, .ref (gA G 8 0 0)), (1, .ref (gA G 3 r1 6)), (2, .int a2), (3, .int a3), (4, .int a4), (5, .int a5)] [] (C, X) := by
  intro n
  induction n with
  | zero => intro a4 a5 C h; exact h.elim
  | succ n ih =>
    intro a4 a5 C h
    rw [f_X9_share_6] at h
    refine ab_iload 5 dX9_share_6 rfl ?_
    refine ab_aloadn 1 dX9_share_8 rfl ?_
    refine fC_gi (x := 0) ⟨h1, by decide⟩ rfl rfl (Nat.le_of_ble_eq_true rfl) wd_220 (by decide) rfl dX9_share_9 ?_
    refine ab_icmp_ge (tgt := 40) dX9_share_12 (by decide) (fun hc1 => ?_) (fun hc1 => ?_)
    · have h := sat_t hc1 h
      refine ab_iloadn 3 dX9_share_40 rfl ?_
      refine ab_istore (lv' := [(0, .ref (gA G 8 0 0)), (1, .ref (gA G 3 r1 6)), (2, .int a2), (3, .int a3), (4, .int a4), (5, .int a3)]) dX9_share_41 rfl (Nat.le_of_ble_eq_true rfl) rfl ?_
      refine ab_iconst (v := 0) dX9_share_43 (by decide) ?_
      refine ab_istore (lv' := [(0, .ref (gA G 8 0 0)), (1, .ref (gA G 3 r1 6)), (2, .int a2), (3, .int a3), (4, .int a4), (5, .int a3), (6, .int 0)]) dX9_share_44 rfl (Nat.le_of_ble_eq_true rfl) rfl ?_
      exact t_X9_share_46 N r1 h1 a2 a3 a4 N a3 0 C h
    · have h := sat_f hc1 h
      refine ab_iload 4 dX9_share_15 rfl ?_
      refine ab_iloadn 2 dX9_share_17 rfl ?_
      refine ab_iload 5 dX9_share_18 rfl ?_
      refine ab_ishr dX9_share_20 ?_
      refine ab_iconst (v := 1) dX9_share_21 (by decide) ?_
      refine ab_iand dX9_share_22 ?_
      refine ab_aloadn 1 dX9_share_23 rfl ?_
      refine f_gr (x := 5) (k2 := 3) (i2 := r1) (j2 := 10) ⟨h1, by decide⟩ rfl rfl (Nat.le_of_ble_eq_true rfl) wd_235 rfl rfl dX9_share_24 ?_
      refine ab_iload 5 dX9_share_27 rfl ?_
      refine fC_iald ⟨h1, by decide⟩ rfl (by decide) (fun _ => rfl) h dX9_share_29 (fun v2 h => ?_)
      refine ab_imul dX9_share_30 ?_
      refine ab_iadd dX9_share_31 ?_
      refine ab_istore (lv' := [(0, .ref (gA G 8 0 0)), (1, .ref (gA G 3 r1 6)), (2, .int a2), (3, .int a3), (4, .int (a4 + (((a2 >>> (a5 &&& 31)) &&& 1) * v2))), (5, .int a5)]) dX9_share_32 rfl (Nat.le_of_ble_eq_true rfl) rfl ?_
      refine ab_iinc (q := 5) (v := (a5 + 1)) (lv' := [(0, .ref (gA G 8 0 0)), (1, .ref (gA G 3 r1 6)), (2, .int a2), (3, .int a3), (4, .int (a4 + (((a2 >>> (a5 &&& 31)) &&& 1) * v2))), (5, .int (a5 + 1))]) dX9_share_34 rfl rfl rfl (Nat.le_of_ble_eq_true rfl) rfl ?_
      refine ab_goto (tgt := 6) dX9_share_37 (by decide) ?_
      exact ih (a4 + (((a2 >>> (a5 &&& 31)) &&& 1) * v2)) (a5 + 1) C h
set_option maxRecDepth 8000 in
theorem t_X9_share_0 {l : Launch} {G : GX} {X : XM} {Q : Int32 → Mem → Prop} (N : Nat) (r1 : Nat) (h1 : r1 < 4) (a2 : Int32) (a3 : Int32) (C : CM) (h : SAT (f_X9_share N r1 a2 a3 C) (fun v c => Q v (c, X))) : AB l G (rmD 2) 0 0 mt_X9_share (ZQ G mt_X9_share Q) 0 [(0, .ref (gA G 8 0 0)), (1, .ref (gA G 3 r1 6)), (2, .int a2), (3, .int a3)] [] (C, X) := by
  unfold f_X9_share at h
  refine ab_iconst (v := 0) dX9_share_0 (by decide) ?_
  refine ab_istore (lv' := [(0, .ref (gA G 8 0 0)), (1, .ref (gA G 3 r1 6)), (2, .int a2), (3, .int a3), (4, .int 0)]) dX9_share_1 rfl (Nat.le_of_ble_eq_true rfl) rfl ?_
  refine ab_iconst (v := 0) dX9_share_3 (by decide) ?_
  refine ab_istore (lv' := [(0, .ref (gA G 8 0 0)), (1, .ref (gA G 3 r1 6)), (2, .int a2), (3, .int a3), (4, .int 0), (5, .int 0)]) dX9_share_4 rfl (Nat.le_of_ble_eq_true rfl) rfl ?_
  exact t_X9_share_6 N r1 h1 a2 a3 N 0 0 C h
theorem ct_X9_share {l : Launch} {G : GX} {X : XM} {Q : Int32 → Mem → Prop} (N : Nat) (r1 : Nat) (h1 : r1 < 4) (a2 : Int32) (a3 : Int32) (C : CM) (h : SAT (f_X9_share N r1 a2 a3 C) (fun v c => Q v (c, X))) : CT l G 2 mt_X9_share [.ref (gA G 8 0 0), .ref (gA G 3 r1 6), .int a2, .int a3] (C, X) Q := ct_of pn_X9 (Nat.le_of_ble_eq_true rfl) (t_X9_share_0 N r1 h1 a2 a3 C h)
def f_X9_payPacts_30 (N : Nat) (r1 : Nat) : Nat → Int32 → CM → Option (Int32 × CM)
  | 0, _, _ => none
  | n + 1, a2, C => (if (C.1 3 r1 6 0) ≤ a2 then (rt 0 C) else ldA (C.1 3 r1 13) 8 a2 (fun v2 => (if v2 < 0 then (f_X9_payPacts_30 N r1 n (a2 + 1) C) else (if (C.1 3 r1 6 0) ≤ v2 then (f_X9_payPacts_30 N r1 n (a2 + 1) C) else ldA (C.1 8 0 3) 8 a2 (fun v5 => ldA (C.1 8 0 1) 8 a2 (fun v6 => stA C 8 0 3 8 a2 (v5 - (v6 / 3)) (fun C7 => ldA (C7.1 8 0 3) 8 v2 (fun v8 => ldA (C7.1 8 0 1) 8 a2 (fun v9 => stA C7 8 0 3 8 v2 (v8 + (v9 / 3)) (fun C10 => (f_X9_payPacts_30 N r1 n (a2 + 1) C10)))))))))))
def f_X9_payPacts_2 (N : Nat) (r1 : Nat) : Nat → Int32 → CM → Option (Int32 × CM)
  | 0, _, _ => none
  | n + 1, a2, C => (if (C.1 3 r1 6 0) ≤ a2 then (f_X9_payPacts_30 N r1 N 0 C) else ldA (C.1 8 0 1) 8 a2 (fun v2 => stA C 8 0 3 8 a2 v2 (fun C3 => (f_X9_payPacts_2 N r1 n (a2 + 1) C3))))
def f_X9_payPacts (N : Nat) (r1 : Nat) (C : CM) : Option (Int32 × CM) := (f_X9_payPacts_2 N r1 N 0 C)
set_option maxRecDepth 8000 in
theorem t_X9_payPacts_30 {l : Launch} {G : GX} {X : XM} {Q : Int32 → Mem → Prop} (N : Nat) (r1 : Nat) (h1 : r1 < 4) : ∀ (n : Nat) (a2 : Int32) (C : CM), SAT (f_X9_payPacts_30 N r1 n a2 C) (fun v c => Q v (c, X)) → AB l G (rmD 1) 0 0 mt_X9_payPacts (ZQ G mt_X9_payPacts Q) 30 [(0, .ref (gA G 8 0 0)), (1, .ref (gA G 3 r1 6)), (2, .int a2)] [] (C, X) := by
  intro n
  induction n with
  | zero => intro a2 C h; exact h.elim
  | succ n ih =>
    intro a2 C h
    rw [f_X9_payPacts_30] at h
    refine ab_iloadn 2 dX9_payPacts_30 rfl ?_
    refine ab_aloadn 1 dX9_payPacts_31 rfl ?_
    refine fC_gi (x := 0) ⟨h1, by decide⟩ rfl rfl (Nat.le_of_ble_eq_true rfl) wd_220 (by decide) rfl dX9_payPacts_32 ?_
    refine ab_icmp_ge (tgt := 97) dX9_payPacts_35 (by decide) (fun hc1 => ?_) (fun hc1 => ?_)
    · have h := sat_t hc1 h
      exact fC_vret h rfl dX9_payPacts_97
    · have h := sat_f hc1 h
      refine ab_aloadn 1 dX9_payPacts_38 rfl ?_
      refine f_gr (x := 8) (k2 := 3) (i2 := r1) (j2 := 13) ⟨h1, by decide⟩ rfl rfl (Nat.le_of_ble_eq_true rfl) wd_241 rfl rfl dX9_payPacts_39 ?_
      refine ab_iloadn 2 dX9_payPacts_42 rfl ?_
      refine fC_iald ⟨h1, by decide⟩ rfl (by decide) (fun _ => rfl) h dX9_payPacts_43 (fun v2 h => ?_)
      refine ab_istoren (lv' := [(0, .ref (gA G 8 0 0)), (1, .ref (gA G 3 r1 6)), (2, .int a2), (3, .int v2)]) dX9_payPacts_44 rfl (Nat.le_of_ble_eq_true rfl) rfl ?_
      refine ab_iloadn 3 dX9_payPacts_45 rfl ?_
      refine ab_if_lt (tgt := 91) dX9_payPacts_46 (by decide) (fun hc3 => ?_) (fun hc3 => ?_)
      · have h := sat_t hc3 h
        refine ab_iinc (q := 2) (v := (a2 + 1)) (lv' := [(0, .ref (gA G 8 0 0)), (1, .ref (gA G 3 r1 6)), (2, .int (a2 + 1)), (3, .int v2)]) dX9_payPacts_91 rfl rfl rfl (Nat.le_of_ble_eq_true rfl) rfl ?_
        refine ab_goto (tgt := 30) dX9_payPacts_94 (by decide) ?_
        refine ab_sub [0, 1, 2] rfl ?_
        exact ih (a2 + 1) C h
      · have h := sat_f hc3 h
        refine ab_iloadn 3 dX9_payPacts_49 rfl ?_
        refine ab_aloadn 1 dX9_payPacts_50 rfl ?_
        refine fC_gi (x := 0) ⟨h1, by decide⟩ rfl rfl (Nat.le_of_ble_eq_true rfl) wd_220 (by decide) rfl dX9_payPacts_51 ?_
        refine ab_icmp_ge (tgt := 91) dX9_payPacts_54 (by decide) (fun hc4 => ?_) (fun hc4 => ?_)
        · have h := sat_t hc4 h
          refine ab_iinc (q := 2) (v := (a2 + 1)) (lv' := [(0, .ref (gA G 8 0 0)), (1, .ref (gA G 3 r1 6)), (2, .int (a2 + 1)), (3, .int v2)]) dX9_payPacts_91 rfl rfl rfl (Nat.le_of_ble_eq_true rfl) rfl ?_
          refine ab_goto (tgt := 30) dX9_payPacts_94 (by decide) ?_
          refine ab_sub [0, 1, 2] rfl ?_
          exact ih (a2 + 1) C h
        · have h := sat_f hc4 h
          refine ab_aloadn 0 dX9_payPacts_57 rfl ?_
          refine f_gr (x := 2) (k2 := 8) (i2 := 0) (j2 := 3) ⟨by decide, by decide⟩ rfl rfl (Nat.le_of_ble_eq_true rfl) wd_240 rfl rfl dX9_payPacts_58 ?_
          refine ab_iloadn 2 dX9_payPacts_61 rfl ?_
          refine ab_dup2 dX9_payPacts_62 rfl rfl ?_
          refine fC_iald ⟨by decide, by decide⟩ rfl (by decide) (fun _ => rfl) h dX9_payPacts_63 (fun v5 h => ?_)
          refine ab_aloadn 0 dX9_payPacts_64 rfl ?_
          refine f_gr (x := 0) (k2 := 8) (i2 := 0) (j2 := 1) ⟨by decide, by decide⟩ rfl rfl (Nat.le_of_ble_eq_true rfl) wd_236 rfl rfl dX9_payPacts_65 ?_
          refine ab_iloadn 2 dX9_payPacts_68 rfl ?_
          refine fC_iald ⟨by decide, by decide⟩ rfl (by decide) (fun _ => rfl) h dX9_payPacts_69 (fun v6 h => ?_)
          refine ab_iconst (v := 3) dX9_payPacts_70 (by decide) ?_
          refine ab_idiv dX9_payPacts_71 (by decide) ?_
          refine ab_isub dX9_payPacts_72 ?_
          refine fC_iast ⟨by decide, by decide⟩ rfl (by decide) (fun _ => rfl) h dX9_payPacts_73 (fun C7 h => ?_)
          refine ab_aloadn 0 dX9_payPacts_74 rfl ?_
          refine f_gr (x := 2) (k2 := 8) (i2 := 0) (j2 := 3) ⟨by decide, by decide⟩ rfl rfl (Nat.le_of_ble_eq_true rfl) wd_240 rfl rfl dX9_payPacts_75 ?_
          refine ab_iloadn 3 dX9_payPacts_78 rfl ?_
          refine ab_dup2 dX9_payPacts_79 rfl rfl ?_
          refine fC_iald ⟨by decide, by decide⟩ rfl (by decide) (fun _ => rfl) h dX9_payPacts_80 (fun v8 h => ?_)
          refine ab_aloadn 0 dX9_payPacts_81 rfl ?_
          refine f_gr (x := 0) (k2 := 8) (i2 := 0) (j2 := 1) ⟨by decide, by decide⟩ rfl rfl (Nat.le_of_ble_eq_true rfl) wd_236 rfl rfl dX9_payPacts_82 ?_
          refine ab_iloadn 2 dX9_payPacts_85 rfl ?_
          refine fC_iald ⟨by decide, by decide⟩ rfl (by decide) (fun _ => rfl) h dX9_payPacts_86 (fun v9 h => ?_)
          refine ab_iconst (v := 3) dX9_payPacts_87 (by decide) ?_
          refine ab_idiv dX9_payPacts_88 (by decide) ?_
          refine ab_iadd dX9_payPacts_89 ?_
          refine fC_iast ⟨by decide, by decide⟩ rfl (by decide) (fun _ => rfl) h dX9_payPacts_90 (fun C10 h => ?_)
          refine ab_iinc (q := 2) (v := (a2 + 1)) (lv' := [(0, .ref (gA G 8 0 0)), (1, .ref (gA G 3 r1 6)), (2, .int (a2 + 1)), (3, .int v2)]) dX9_payPacts_91 rfl rfl rfl (Nat.le_of_ble_eq_true rfl) rfl ?_
          refine ab_goto (tgt := 30) dX9_payPacts_94 (by decide) ?_
          refine ab_sub [0, 1, 2] rfl ?_
          exact ih (a2 + 1) C10 h
set_option maxRecDepth 8000 in
theorem t_X9_payPacts_2 {l : Launch} {G : GX} {X : XM} {Q : Int32 → Mem → Prop} (N : Nat) (r1 : Nat) (h1 : r1 < 4) : ∀ (n : Nat) (a2 : Int32) (C : CM), SAT (f_X9_payPacts_2 N r1 n a2 C) (fun v c => Q v (c, X)) → AB l G (rmD 1) 0 0 mt_X9_payPacts (ZQ G mt_X9_payPacts Q) 2 [(0, .ref (gA G 8 0 0)), (1, .ref (gA G 3 r1 6)), (2, .int a2)] [] (C, X) := by
  intro n
  induction n with
  | zero => intro a2 C h; exact h.elim
  | succ n ih =>
    intro a2 C h
    rw [f_X9_payPacts_2] at h
    refine ab_iloadn 2 dX9_payPacts_2 rfl ?_
    refine ab_aloadn 1 dX9_payPacts_3 rfl ?_
    refine fC_gi (x := 0) ⟨h1, by decide⟩ rfl rfl (Nat.le_of_ble_eq_true rfl) wd_220 (by decide) rfl dX9_payPacts_4 ?_
    refine ab_icmp_ge (tgt := 28) dX9_payPacts_7 (by decide) (fun hc1 => ?_) (fun hc1 => ?_)
    · have h := sat_t hc1 h
      refine ab_iconst (v := 0) dX9_payPacts_28 (by decide) ?_
      refine ab_istoren (lv' := [(0, .ref (gA G 8 0 0)), (1, .ref (gA G 3 r1 6)), (2, .int 0)]) dX9_payPacts_29 rfl (Nat.le_of_ble_eq_true rfl) rfl ?_
      exact t_X9_payPacts_30 N r1 h1 N 0 C h
    · have h := sat_f hc1 h
      refine ab_aloadn 0 dX9_payPacts_10 rfl ?_
      refine f_gr (x := 2) (k2 := 8) (i2 := 0) (j2 := 3) ⟨by decide, by decide⟩ rfl rfl (Nat.le_of_ble_eq_true rfl) wd_240 rfl rfl dX9_payPacts_11 ?_
      refine ab_iloadn 2 dX9_payPacts_14 rfl ?_
      refine ab_aloadn 0 dX9_payPacts_15 rfl ?_
      refine f_gr (x := 0) (k2 := 8) (i2 := 0) (j2 := 1) ⟨by decide, by decide⟩ rfl rfl (Nat.le_of_ble_eq_true rfl) wd_236 rfl rfl dX9_payPacts_16 ?_
      refine ab_iloadn 2 dX9_payPacts_19 rfl ?_
      refine fC_iald ⟨by decide, by decide⟩ rfl (by decide) (fun _ => rfl) h dX9_payPacts_20 (fun v2 h => ?_)
      refine fC_iast ⟨by decide, by decide⟩ rfl (by decide) (fun _ => rfl) h dX9_payPacts_21 (fun C3 h => ?_)
      refine ab_iinc (q := 2) (v := (a2 + 1)) (lv' := [(0, .ref (gA G 8 0 0)), (1, .ref (gA G 3 r1 6)), (2, .int (a2 + 1))]) dX9_payPacts_22 rfl rfl rfl (Nat.le_of_ble_eq_true rfl) rfl ?_
      refine ab_goto (tgt := 2) dX9_payPacts_25 (by decide) ?_
      exact ih (a2 + 1) C3 h
set_option maxRecDepth 8000 in
theorem t_X9_payPacts_0 {l : Launch} {G : GX} {X : XM} {Q : Int32 → Mem → Prop} (N : Nat) (r1 : Nat) (h1 : r1 < 4) (C : CM) (h : SAT (f_X9_payPacts N r1 C) (fun v c => Q v (c, X))) : AB l G (rmD 1) 0 0 mt_X9_payPacts (ZQ G mt_X9_payPacts Q) 0 [(0, .ref (gA G 8 0 0)), (1, .ref (gA G 3 r1 6))] [] (C, X) := by
  unfold f_X9_payPacts at h
  refine ab_iconst (v := 0) dX9_payPacts_0 (by decide) ?_
  refine ab_istoren (lv' := [(0, .ref (gA G 8 0 0)), (1, .ref (gA G 3 r1 6)), (2, .int 0)]) dX9_payPacts_1 rfl (Nat.le_of_ble_eq_true rfl) rfl ?_
  exact t_X9_payPacts_2 N r1 h1 N 0 C h
theorem ct_X9_payPacts {l : Launch} {G : GX} {X : XM} {Q : Int32 → Mem → Prop} (N : Nat) (r1 : Nat) (h1 : r1 < 4) (C : CM) (h : SAT (f_X9_payPacts N r1 C) (fun v c => Q v (c, X))) : CT l G 1 mt_X9_payPacts [.ref (gA G 8 0 0), .ref (gA G 3 r1 6)] (C, X) Q := ct_of pn_X9 (Nat.le_of_ble_eq_true rfl) (t_X9_payPacts_0 N r1 h1 C h)
def f_X9_gale_137 (N : Nat) (r1 : Nat) (r2 : Nat) : Nat → Int32 → CM → Option (Int32 × CM)
  | 0, _, _ => none
  | n + 1, a7, C => (if (C.1 3 r1 6 0) ≤ a7 then (rt 0 C) else ldA (C.1 4 r2 1) 8 a7 (fun v2 => ldA (C.1 8 0 3) 8 a7 (fun v3 => stA C 4 r2 1 8 a7 (v2 + v3) (fun C4 => ldA (C4.1 4 r2 7) 8 a7 (fun v5 => ldA (C4.1 8 0 3) 8 a7 (fun v6 => stA C4 4 r2 7 8 a7 (v5 + v6) (fun C7 => (f_X9_gale_137 N r1 r2 n (a7 + 1) C7))))))))
def f_X9_gale_22 (N : Nat) (r1 : Nat) (r2 : Nat) (a4 : Int32) (a5 : Int32) : Nat → Int32 → Int32 → CM → Option (Int32 × CM)
  | 0, _, _, _ => none
  | n + 1, a6, a7, C => (if (C.1 3 r1 6 0) ≤ a7 then (if a5 = 0 then bnd (stC C 4 r2 0 1 ((C.1 4 r2 0 1) + a6)) (fun C7 => (rt 0 C7)) else cal (f_X9_share N r1 a5 a6 C) (fun v3 C4 => cal (f_X9_payPacts N r1 C4) (fun v5 C6 => (f_X9_gale_137 N r1 r2 N 0 C6)))) else (if ((a5 >>> (a7 &&& 31)) &&& 1) = 0 then ldA (C.1 4 r2 1) 8 a7 (fun v9 => ldA (C.1 4 r2 1) 8 a7 (fun v10 => stA C 4 r2 1 8 a7 (v10 - (imin a4 v9)) (fun C11 => ldA (C11.1 4 r2 6) 8 a7 (fun v12 => stA C11 4 r2 6 8 a7 (v12 + (imin a4 v9)) (fun C13 => (f_X9_gale_22 N r1 r2 a4 a5 n (a6 + (imin a4 v9)) (a7 + 1) C13)))))) else (f_X9_gale_22 N r1 r2 a4 a5 n a6 (a7 + 1) C)))
def f_X9_gale (N : Nat) (r1 : Nat) (r2 : Nat) (a3 : Int32) (a4 : Int32) (C : CM) : Option (Int32 × CM) := cal (f_X9_turnVanes N r1 r2 a3 a4 C) (fun v1 C2 => bnd (stC C2 4 r2 0 4 a3) (fun C3 => (f_X9_gale_22 N r1 r2 a4 v1 N 0 0 C3)))
set_option maxRecDepth 8000 in
theorem t_X9_gale_137 {l : Launch} {G : GX} {X : XM} {Q : Int32 → Mem → Prop} (N : Nat) (r1 : Nat) (h1 : r1 < 4) (r2 : Nat) (h2 : r2 < 12) : ∀ (n : Nat) (a7 : Int32) (C : CM), SAT (f_X9_gale_137 N r1 r2 n a7 C) (fun v c => Q v (c, X)) → AB l G (rmD 3) 0 0 mt_X9_gale (ZQ G mt_X9_gale Q) 137 [(0, .ref (gA G 8 0 0)), (1, .ref (gA G 3 r1 0)), (2, .ref (gA G 4 r2 0)), (7, .int a7)] [] (C, X) := by
  intro n
  induction n with
  | zero => intro a7 C h; exact h.elim
  | succ n ih =>
    intro a7 C h
    rw [f_X9_gale_137] at h
    refine ab_iload 3 dX9_gale_137 rfl ?_
    refine ab_aloadn 1 dX9_gale_139 rfl ?_
    refine f_gr (x := 10) (k2 := 3) (i2 := r1) (j2 := 6) ⟨h1, by decide⟩ rfl rfl (Nat.le_of_ble_eq_true rfl) wd_219 rfl rfl dX9_gale_140 ?_
    refine fC_gi (x := 0) ⟨h1, by decide⟩ rfl rfl (Nat.le_of_ble_eq_true rfl) wd_220 (by decide) rfl dX9_gale_143 ?_
    refine ab_icmp_ge (tgt := 189) dX9_gale_146 (by decide) (fun hc1 => ?_) (fun hc1 => ?_)
    · have h := sat_t hc1 h
      exact fC_vret h rfl dX9_gale_189
    · have h := sat_f hc1 h
      refine ab_aloadn 2 dX9_gale_149 rfl ?_
      refine f_gr (x := 6) (k2 := 4) (i2 := r2) (j2 := 1) ⟨h2, by decide⟩ rfl rfl (Nat.le_of_ble_eq_true rfl) wd_244 rfl rfl dX9_gale_150 ?_
      refine ab_iload 3 dX9_gale_153 rfl ?_
      refine ab_dup2 dX9_gale_155 rfl rfl ?_
      refine fC_iald ⟨h2, by decide⟩ rfl (by decide) (fun _ => rfl) h dX9_gale_156 (fun v2 h => ?_)
      refine ab_aloadn 0 dX9_gale_157 rfl ?_
      refine f_gr (x := 2) (k2 := 8) (i2 := 0) (j2 := 3) ⟨by decide, by decide⟩ rfl rfl (Nat.le_of_ble_eq_true rfl) wd_240 rfl rfl dX9_gale_158 ?_
      refine ab_iload 3 dX9_gale_161 rfl ?_
      refine fC_iald ⟨by decide, by decide⟩ rfl (by decide) (fun _ => rfl) h dX9_gale_163 (fun v3 h => ?_)
      refine ab_iadd dX9_gale_164 ?_
      refine fC_iast ⟨h2, by decide⟩ rfl (by decide) (fun _ => rfl) h dX9_gale_165 (fun C4 h => ?_)
      refine ab_aloadn 2 dX9_gale_166 rfl ?_
      refine f_gr (x := 12) (k2 := 4) (i2 := r2) (j2 := 7) ⟨h2, by decide⟩ rfl rfl (Nat.le_of_ble_eq_true rfl) wd_246 rfl rfl dX9_gale_167 ?_
      refine ab_iload 3 dX9_gale_170 rfl ?_
      refine ab_dup2 dX9_gale_172 rfl rfl ?_
      refine fC_iald ⟨h2, by decide⟩ rfl (by decide) (fun _ => rfl) h dX9_gale_173 (fun v5 h => ?_)
      refine ab_aloadn 0 dX9_gale_174 rfl ?_
      refine f_gr (x := 2) (k2 := 8) (i2 := 0) (j2 := 3) ⟨by decide, by decide⟩ rfl rfl (Nat.le_of_ble_eq_true rfl) wd_240 rfl rfl dX9_gale_175 ?_
      refine ab_iload 3 dX9_gale_178 rfl ?_
      refine fC_iald ⟨by decide, by decide⟩ rfl (by decide) (fun _ => rfl) h dX9_gale_180 (fun v6 h => ?_)
      refine ab_iadd dX9_gale_181 ?_
      refine fC_iast ⟨h2, by decide⟩ rfl (by decide) (fun _ => rfl) h dX9_gale_182 (fun C7 h => ?_)
      refine ab_iinc (q := 3) (v := (a7 + 1)) (lv' := [(0, .ref (gA G 8 0 0)), (1, .ref (gA G 3 r1 0)), (2, .ref (gA G 4 r2 0)), (7, .int (a7 + 1))]) dX9_gale_183 rfl rfl rfl (Nat.le_of_ble_eq_true rfl) rfl ?_
      refine ab_goto (tgt := 137) dX9_gale_186 (by decide) ?_
      exact ih (a7 + 1) C7 h
set_option maxRecDepth 8000 in
theorem t_X9_gale_22 {l : Launch} {G : GX} {X : XM} {Q : Int32 → Mem → Prop} (N : Nat) (r1 : Nat) (h1 : r1 < 4) (r2 : Nat) (h2 : r2 < 12) (a4 : Int32) (a5 : Int32) : ∀ (n : Nat) (a6 : Int32) (a7 : Int32) (C : CM), SAT (f_X9_gale_22 N r1 r2 a4 a5 n a6 a7 C) (fun v c => Q v (c, X)) → AB l G (rmD 3) 0 0 mt_X9_gale (ZQ G mt_X9_gale Q) 22 [(0, .ref (gA G 8 0 0)), (1, .ref (gA G 3 r1 0)), (2, .ref (gA G 4 r2 0)), (4, .int a4), (5, .int a5), (6, .int a6), (7, .int a7)] [] (C, X) := by
  intro n
  induction n with
  | zero => intro a6 a7 C h; exact h.elim
  | succ n ih =>
    intro a6 a7 C h
    rw [f_X9_gale_22] at h
    refine ab_iload 6 dX9_gale_22 rfl ?_
    refine ab_aloadn 1 dX9_gale_24 rfl ?_
    refine f_gr (x := 10) (k2 := 3) (i2 := r1) (j2 := 6) ⟨h1, by decide⟩ rfl rfl (Nat.le_of_ble_eq_true rfl) wd_219 rfl rfl dX9_gale_25 ?_
    refine fC_gi (x := 0) ⟨h1, by decide⟩ rfl rfl (Nat.le_of_ble_eq_true rfl) wd_220 (by decide) rfl dX9_gale_28 ?_
    refine ab_icmp_ge (tgt := 95) dX9_gale_31 (by decide) (fun hc1 => ?_) (fun hc1 => ?_)
    · have h := sat_t hc1 h
      refine ab_iload 4 dX9_gale_95 rfl ?_
      refine ab_if_ne (tgt := 114) dX9_gale_97 (by decide) (fun hc2 => ?_) (fun hc2 => ?_)
      · have h := sat_f hc2 h
        refine ab_aloadn 0 dX9_gale_114 rfl ?_
        refine ab_aloadn 1 dX9_gale_115 rfl ?_
        refine f_gr (x := 10) (k2 := 3) (i2 := r1) (j2 := 6) ⟨h1, by decide⟩ rfl rfl (Nat.le_of_ble_eq_true rfl) wd_219 rfl rfl dX9_gale_116 ?_
        refine ab_iload 4 dX9_gale_119 rfl ?_
        refine ab_iload 5 dX9_gale_121 rfl ?_
        refine fC_Vv (mtc := mt_X9_share) (As := [.ref (gA G 3 r1 6), .int a5, .int a6]) h (fun Q h => ct_X9_share N r1 h1 a5 a6 C h) ⟨by decide, by decide⟩ rfl rfl rfl mw_X9_share wd_239 rfl rfl ⟨Nat.le_of_ble_eq_true rfl, Nat.le_of_ble_eq_true rfl⟩ ⟨Nat.zero_le _, Nat.zero_le _⟩ (Nat.le_of_ble_eq_true rfl) rfl dX9_gale_123 (fun v3 C4 h => ?_)
        refine ab_aloadn 0 dX9_gale_126 rfl ?_
        refine ab_aloadn 1 dX9_gale_127 rfl ?_
        refine f_gr (x := 10) (k2 := 3) (i2 := r1) (j2 := 6) ⟨h1, by decide⟩ rfl rfl (Nat.le_of_ble_eq_true rfl) wd_219 rfl rfl dX9_gale_128 ?_
        refine fC_Vv (mtc := mt_X9_payPacts) (As := [.ref (gA G 3 r1 6)]) h (fun Q h => ct_X9_payPacts N r1 h1 C4 h) ⟨by decide, by decide⟩ rfl rfl rfl mw_X9_payPacts wd_242 rfl rfl ⟨Nat.le_of_ble_eq_true rfl, Nat.le_of_ble_eq_true rfl⟩ ⟨Nat.zero_le _, Nat.zero_le _⟩ (Nat.le_of_ble_eq_true rfl) rfl dX9_gale_131 (fun v5 C6 h => ?_)
        refine ab_iconst (v := 0) dX9_gale_134 (by decide) ?_
        refine ab_istore (lv' := [(0, .ref (gA G 8 0 0)), (1, .ref (gA G 3 r1 0)), (2, .ref (gA G 4 r2 0)), (4, .int a4), (5, .int a5), (6, .int a6), (7, .int 0)]) dX9_gale_135 rfl (Nat.le_of_ble_eq_true rfl) rfl ?_
        refine ab_sub [0, 1, 2, 6] rfl ?_
        exact t_X9_gale_137 N r1 h1 r2 h2 N 0 C6 h
      · have h := sat_t hc2 h
        refine ab_aloadn 2 dX9_gale_100 rfl ?_
        refine ab_dup dX9_gale_101 rfl ?_
        refine fC_gi (x := 1) ⟨h2, by decide⟩ rfl rfl (Nat.le_of_ble_eq_true rfl) wd_243 (by decide) rfl dX9_gale_102 ?_
        refine ab_iload 5 dX9_gale_105 rfl ?_
        refine ab_iadd dX9_gale_107 ?_
        refine fC_pi (x := 1) (ty := .int) ⟨h2, by decide⟩ rfl rfl (Nat.le_of_ble_eq_true rfl) wd_243 (by decide) rfl h rfl (by decide +kernel) rfl rfl dX9_gale_108 (fun C7 h => ?_)
        refine ab_goto (tgt := 189) dX9_gale_111 (by decide) ?_
        exact fC_vret h rfl dX9_gale_189
    · have h := sat_f hc1 h
      refine ab_iload 4 dX9_gale_34 rfl ?_
      refine ab_iload 6 dX9_gale_36 rfl ?_
      refine ab_ishr dX9_gale_38 ?_
      refine ab_iconst (v := 1) dX9_gale_39 (by decide) ?_
      refine ab_iand dX9_gale_40 ?_
      refine ab_if_ne (tgt := 89) dX9_gale_41 (by decide) (fun hc8 => ?_) (fun hc8 => ?_)
      · have h := sat_f hc8 h
        refine ab_iinc (q := 6) (v := (a7 + 1)) (lv' := [(0, .ref (gA G 8 0 0)), (1, .ref (gA G 3 r1 0)), (2, .ref (gA G 4 r2 0)), (4, .int a4), (5, .int a5), (6, .int a6), (7, .int (a7 + 1))]) dX9_gale_89 rfl rfl rfl (Nat.le_of_ble_eq_true rfl) rfl ?_
        refine ab_goto (tgt := 22) dX9_gale_92 (by decide) ?_
        exact ih a6 (a7 + 1) C h
      · have h := sat_t hc8 h
        refine ab_iload 3 dX9_gale_44 rfl ?_
        refine ab_aloadn 2 dX9_gale_46 rfl ?_
        refine f_gr (x := 6) (k2 := 4) (i2 := r2) (j2 := 1) ⟨h2, by decide⟩ rfl rfl (Nat.le_of_ble_eq_true rfl) wd_244 rfl rfl dX9_gale_47 ?_
        refine ab_iload 6 dX9_gale_50 rfl ?_
        refine fC_iald ⟨h2, by decide⟩ rfl (by decide) (fun _ => rfl) h dX9_gale_52 (fun v9 h => ?_)
        refine ab_mmin wd_228 wd_35 wd_36 wm_min ⟨Nat.le_of_ble_eq_true rfl, Nat.le_of_ble_eq_true rfl⟩ ⟨Nat.zero_le _, Nat.zero_le _⟩ dX9_gale_53 ?_
        refine ab_istore (lv' := [(0, .ref (gA G 8 0 0)), (1, .ref (gA G 3 r1 0)), (2, .ref (gA G 4 r2 0)), (4, .int a4), (5, .int a5), (6, .int a6), (7, .int a7), (8, .int (imin a4 v9))]) dX9_gale_56 rfl (Nat.le_of_ble_eq_true rfl) rfl ?_
        refine ab_aloadn 2 dX9_gale_58 rfl ?_
        refine f_gr (x := 6) (k2 := 4) (i2 := r2) (j2 := 1) ⟨h2, by decide⟩ rfl rfl (Nat.le_of_ble_eq_true rfl) wd_244 rfl rfl dX9_gale_59 ?_
        refine ab_iload 6 dX9_gale_62 rfl ?_
        refine ab_dup2 dX9_gale_64 rfl rfl ?_
        refine fC_iald ⟨h2, by decide⟩ rfl (by decide) (fun _ => rfl) h dX9_gale_65 (fun v10 h => ?_)
        refine ab_iload 7 dX9_gale_66 rfl ?_
        refine ab_isub dX9_gale_68 ?_
        refine fC_iast ⟨h2, by decide⟩ rfl (by decide) (fun _ => rfl) h dX9_gale_69 (fun C11 h => ?_)
        refine ab_aloadn 2 dX9_gale_70 rfl ?_
        refine f_gr (x := 11) (k2 := 4) (i2 := r2) (j2 := 6) ⟨h2, by decide⟩ rfl rfl (Nat.le_of_ble_eq_true rfl) wd_245 rfl rfl dX9_gale_71 ?_
        refine ab_iload 6 dX9_gale_74 rfl ?_
        refine ab_dup2 dX9_gale_76 rfl rfl ?_
        refine fC_iald ⟨h2, by decide⟩ rfl (by decide) (fun _ => rfl) h dX9_gale_77 (fun v12 h => ?_)
        refine ab_iload 7 dX9_gale_78 rfl ?_
        refine ab_iadd dX9_gale_80 ?_
        refine fC_iast ⟨h2, by decide⟩ rfl (by decide) (fun _ => rfl) h dX9_gale_81 (fun C13 h => ?_)
        refine ab_iload 5 dX9_gale_82 rfl ?_
        refine ab_iload 7 dX9_gale_84 rfl ?_
        refine ab_iadd dX9_gale_86 ?_
        refine ab_istore (lv' := [(0, .ref (gA G 8 0 0)), (1, .ref (gA G 3 r1 0)), (2, .ref (gA G 4 r2 0)), (4, .int a4), (5, .int a5), (6, .int (a6 + (imin a4 v9))), (7, .int a7), (8, .int (imin a4 v9))]) dX9_gale_87 rfl (Nat.le_of_ble_eq_true rfl) rfl ?_
        refine ab_iinc (q := 6) (v := (a7 + 1)) (lv' := [(0, .ref (gA G 8 0 0)), (1, .ref (gA G 3 r1 0)), (2, .ref (gA G 4 r2 0)), (4, .int a4), (5, .int a5), (6, .int (a6 + (imin a4 v9))), (7, .int (a7 + 1)), (8, .int (imin a4 v9))]) dX9_gale_89 rfl rfl rfl (Nat.le_of_ble_eq_true rfl) rfl ?_
        refine ab_goto (tgt := 22) dX9_gale_92 (by decide) ?_
        refine ab_sub [0, 1, 2, 3, 4, 5, 6] rfl ?_
        exact ih (a6 + (imin a4 v9)) (a7 + 1) C13 h
set_option maxRecDepth 8000 in
theorem t_X9_gale_0 {l : Launch} {G : GX} {X : XM} {Q : Int32 → Mem → Prop} (N : Nat) (r1 : Nat) (h1 : r1 < 4) (r2 : Nat) (h2 : r2 < 12) (a3 : Int32) (a4 : Int32) (C : CM) (h : SAT (f_X9_gale N r1 r2 a3 a4 C) (fun v c => Q v (c, X))) : AB l G (rmD 3) 0 0 mt_X9_gale (ZQ G mt_X9_gale Q) 0 [(0, .ref (gA G 8 0 0)), (1, .ref (gA G 3 r1 0)), (2, .ref (gA G 4 r2 0)), (3, .int a3), (4, .int a4)] [] (C, X) := by
  unfold f_X9_gale at h
  refine ab_aloadn 0 dX9_gale_0 rfl ?_
  refine ab_aloadn 1 dX9_gale_1 rfl ?_
  refine ab_aloadn 2 dX9_gale_2 rfl ?_
  refine ab_iloadn 3 dX9_gale_3 rfl ?_
  refine ab_iload 4 dX9_gale_4 rfl ?_
  refine fC_Vi (mtc := mt_X9_turnVanes) (As := [.ref (gA G 3 r1 0), .ref (gA G 4 r2 0), .int a3, .int a4]) h (fun Q h => ct_X9_turnVanes N r1 h1 r2 h2 a3 a4 C h) ⟨by decide, by decide⟩ rfl rfl rfl mw_X9_turnVanes wd_233 rfl rfl ⟨Nat.le_of_ble_eq_true rfl, Nat.le_of_ble_eq_true rfl⟩ ⟨Nat.zero_le _, Nat.zero_le _⟩ (Nat.le_of_ble_eq_true rfl) rfl dX9_gale_6 (fun v1 C2 h => ?_)
  refine ab_istore (lv' := [(0, .ref (gA G 8 0 0)), (1, .ref (gA G 3 r1 0)), (2, .ref (gA G 4 r2 0)), (3, .int a3), (4, .int a4), (5, .int v1)]) dX9_gale_9 rfl (Nat.le_of_ble_eq_true rfl) rfl ?_
  refine ab_aloadn 2 dX9_gale_11 rfl ?_
  refine ab_iloadn 3 dX9_gale_12 rfl ?_
  refine fC_pi (x := 4) (ty := .int) ⟨h2, by decide⟩ rfl rfl (Nat.le_of_ble_eq_true rfl) wd_234 (by decide) rfl h rfl (by decide +kernel) rfl rfl dX9_gale_13 (fun C3 h => ?_)
  refine ab_iconst (v := 0) dX9_gale_16 (by decide) ?_
  refine ab_istore (lv' := [(0, .ref (gA G 8 0 0)), (1, .ref (gA G 3 r1 0)), (2, .ref (gA G 4 r2 0)), (3, .int a3), (4, .int a4), (5, .int v1), (6, .int 0)]) dX9_gale_17 rfl (Nat.le_of_ble_eq_true rfl) rfl ?_
  refine ab_iconst (v := 0) dX9_gale_19 (by decide) ?_
  refine ab_istore (lv' := [(0, .ref (gA G 8 0 0)), (1, .ref (gA G 3 r1 0)), (2, .ref (gA G 4 r2 0)), (3, .int a3), (4, .int a4), (5, .int v1), (6, .int 0), (7, .int 0)]) dX9_gale_20 rfl (Nat.le_of_ble_eq_true rfl) rfl ?_
  refine ab_sub [0, 1, 2, 4, 5, 6, 7] rfl ?_
  exact t_X9_gale_22 N r1 h1 r2 h2 a4 v1 N 0 0 C3 h
theorem ct_X9_gale {l : Launch} {G : GX} {X : XM} {Q : Int32 → Mem → Prop} (N : Nat) (r1 : Nat) (h1 : r1 < 4) (r2 : Nat) (h2 : r2 < 12) (a3 : Int32) (a4 : Int32) (C : CM) (h : SAT (f_X9_gale N r1 r2 a3 a4 C) (fun v c => Q v (c, X))) : CT l G 3 mt_X9_gale [.ref (gA G 8 0 0), .ref (gA G 3 r1 0), .ref (gA G 4 r2 0), .int a3, .int a4] (C, X) Q := ct_of pn_X9 (Nat.le_of_ble_eq_true rfl) (t_X9_gale_0 N r1 h1 r2 h2 a3 a4 C h)
def f_X10_gainNow (N : Nat) (a1 : Int32) (a2 : Int32) (a3 : Int32) (C : CM) : Option (Int32 × CM) := cal (f_X6_copy 3 0 C) (fun v1 C2 => ldR (C2.2 2 0 1) 4 (fun y3 => cal (f_X9_gale N y3 3 a2 a3 C2) (fun v5 C6 => ldA (C6.1 4 3 1) 8 a1 (fun v7 => ldA (C6.1 4 0 1) 8 a1 (fun v8 => (rt (v7 - v8) C6))))))
set_option maxRecDepth 8000 in
theorem t_X10_gainNow_0 {l : Launch} {G : GX} {X : XM} {Q : Int32 → Mem → Prop} (N : Nat) (a1 : Int32) (a2 : Int32) (a3 : Int32) (C : CM) (h : SAT (f_X10_gainNow N a1 a2 a3 C) (fun v c => Q v (c, X))) : AB l G (rmD 4) 0 0 mt_X10_gainNow (ZQ G mt_X10_gainNow Q) 0 [(0, .ref (gA G 0 0 0)), (1, .int a1), (2, .int a2), (3, .int a3)] [] (C, X) := by
  unfold f_X10_gainNow at h
  refine ab_aloadn 0 dX10_gainNow_0 rfl ?_
  refine f_gr (x := 12) (k2 := 4) (i2 := 3) (j2 := 0) ⟨by decide, by decide⟩ rfl rfl (Nat.le_of_ble_eq_true rfl) wd_216 rfl rfl dX10_gainNow_1 ?_
  refine ab_aloadn 0 dX10_gainNow_4 rfl ?_
  refine f_gr (x := 4) (k2 := 2) (i2 := 0) (j2 := 0) ⟨by decide, by decide⟩ rfl rfl (Nat.le_of_ble_eq_true rfl) wd_124 rfl rfl dX10_gainNow_5 ?_
  refine f_gr (x := 2) (k2 := 4) (i2 := 0) (j2 := 0) ⟨by decide, by decide⟩ rfl rfl (Nat.le_of_ble_eq_true rfl) wd_126 rfl rfl dX10_gainNow_8 ?_
  refine fC_Vv (mtc := mt_X6_copy) (As := [.ref (gA G 4 0 0)]) h (fun Q h => ct_X6_copy 3 (by decide) 0 (by decide) C h) ⟨by decide, by decide⟩ rfl rfl rfl mw_X6_copy wd_217 rfl rfl ⟨Nat.le_of_ble_eq_true rfl, Nat.le_of_ble_eq_true rfl⟩ ⟨Nat.zero_le _, Nat.zero_le _⟩ (Nat.le_of_ble_eq_true rfl) rfl dX10_gainNow_11 (fun v1 C2 h => ?_)
  refine ab_aloadn 0 dX10_gainNow_14 rfl ?_
  refine f_gr (x := 10) (k2 := 8) (i2 := 0) (j2 := 0) ⟨by decide, by decide⟩ rfl rfl (Nat.le_of_ble_eq_true rfl) wd_218 rfl rfl dX10_gainNow_15 ?_
  refine ab_aloadn 0 dX10_gainNow_18 rfl ?_
  refine f_gr (x := 4) (k2 := 2) (i2 := 0) (j2 := 0) ⟨by decide, by decide⟩ rfl rfl (Nat.le_of_ble_eq_true rfl) wd_124 rfl rfl dX10_gainNow_19 ?_
  refine fC_gd (x := 1) ⟨by decide, by decide⟩ rfl rfl (Nat.le_of_ble_eq_true rfl) wd_125 rfl h rfl dX10_gainNow_22 (fun y3 hy4 h => ?_)
  refine ab_aloadn 0 dX10_gainNow_25 rfl ?_
  refine f_gr (x := 12) (k2 := 4) (i2 := 3) (j2 := 0) ⟨by decide, by decide⟩ rfl rfl (Nat.le_of_ble_eq_true rfl) wd_216 rfl rfl dX10_gainNow_26 ?_
  refine ab_iloadn 2 dX10_gainNow_29 rfl ?_
  refine ab_iloadn 3 dX10_gainNow_30 rfl ?_
  refine fC_Vv (mtc := mt_X9_gale) (As := [.ref (gA G 3 y3 0), .ref (gA G 4 3 0), .int a2, .int a3]) h (fun Q h => ct_X9_gale N y3 hy4 3 (by decide) a2 a3 C2 h) ⟨by decide, by decide⟩ rfl rfl rfl mw_X9_gale wd_247 rfl rfl ⟨Nat.le_of_ble_eq_true rfl, Nat.le_of_ble_eq_true rfl⟩ ⟨Nat.zero_le _, Nat.zero_le _⟩ (Nat.le_of_ble_eq_true rfl) rfl dX10_gainNow_31 (fun v5 C6 h => ?_)
  refine ab_aloadn 0 dX10_gainNow_34 rfl ?_
  refine f_gr (x := 12) (k2 := 4) (i2 := 3) (j2 := 0) ⟨by decide, by decide⟩ rfl rfl (Nat.le_of_ble_eq_true rfl) wd_216 rfl rfl dX10_gainNow_35 ?_
  refine f_gr (x := 6) (k2 := 4) (i2 := 3) (j2 := 1) ⟨by decide, by decide⟩ rfl rfl (Nat.le_of_ble_eq_true rfl) wd_187 rfl rfl dX10_gainNow_38 ?_
  refine ab_iloadn 1 dX10_gainNow_41 rfl ?_
  refine fC_iald ⟨by decide, by decide⟩ rfl (by decide) (fun _ => rfl) h dX10_gainNow_42 (fun v7 h => ?_)
  refine ab_aloadn 0 dX10_gainNow_43 rfl ?_
  refine f_gr (x := 4) (k2 := 2) (i2 := 0) (j2 := 0) ⟨by decide, by decide⟩ rfl rfl (Nat.le_of_ble_eq_true rfl) wd_124 rfl rfl dX10_gainNow_44 ?_
  refine f_gr (x := 2) (k2 := 4) (i2 := 0) (j2 := 0) ⟨by decide, by decide⟩ rfl rfl (Nat.le_of_ble_eq_true rfl) wd_126 rfl rfl dX10_gainNow_47 ?_
  refine f_gr (x := 6) (k2 := 4) (i2 := 0) (j2 := 1) ⟨by decide, by decide⟩ rfl rfl (Nat.le_of_ble_eq_true rfl) wd_187 rfl rfl dX10_gainNow_50 ?_
  refine ab_iloadn 1 dX10_gainNow_53 rfl ?_
  refine fC_iald ⟨by decide, by decide⟩ rfl (by decide) (fun _ => rfl) h dX10_gainNow_54 (fun v8 h => ?_)
  refine ab_isub dX10_gainNow_55 ?_
  exact fC_iret h rfl rfl dX10_gainNow_56
theorem ct_X10_gainNow {l : Launch} {G : GX} {X : XM} {Q : Int32 → Mem → Prop} (N : Nat) (a1 : Int32) (a2 : Int32) (a3 : Int32) (C : CM) (h : SAT (f_X10_gainNow N a1 a2 a3 C) (fun v c => Q v (c, X))) : CT l G 4 mt_X10_gainNow [.ref (gA G 0 0 0), .int a1, .int a2, .int a3] (C, X) Q := ct_of pn_X10 (Nat.le_of_ble_eq_true rfl) (t_X10_gainNow_0 N a1 a2 a3 C h)
def f_X10_gains (N : Nat) (a1 : Int32) (a2 : Int32) (a3 : Int32) (C : CM) : Option (Int32 × CM) := ldR (C.2 2 0 1) 4 (fun y1 => cal (f_X0_isOwner y1 a1 C) (fun v3 C4 => (if v3 = 0 then (rt (-1001) C4) else cal (f_X10_isGust a2 a3 C4) (fun v6 C7 => (if v6 = 0 then (rt (-1001) C7) else cal (f_X10_gainNow N a1 a2 a3 C7) (fun v9 C10 => (rt v9 C10)))))))
set_option maxRecDepth 8000 in
theorem t_X10_gains_0 {l : Launch} {G : GX} {X : XM} {Q : Int32 → Mem → Prop} (N : Nat) (a1 : Int32) (a2 : Int32) (a3 : Int32) (C : CM) (h : SAT (f_X10_gains N a1 a2 a3 C) (fun v c => Q v (c, X))) : AB l G (rmD 5) 0 0 mt_X10_gains (ZQ G mt_X10_gains Q) 0 [(0, .ref (gA G 0 0 0)), (1, .int a1), (2, .int a2), (3, .int a3)] [] (C, X) := by
  unfold f_X10_gains at h
  refine ab_aloadn 0 dX10_gains_0 rfl ?_
  refine f_gr (x := 4) (k2 := 2) (i2 := 0) (j2 := 0) ⟨by decide, by decide⟩ rfl rfl (Nat.le_of_ble_eq_true rfl) wd_124 rfl rfl dX10_gains_1 ?_
  refine fC_gd (x := 1) ⟨by decide, by decide⟩ rfl rfl (Nat.le_of_ble_eq_true rfl) wd_125 rfl h rfl dX10_gains_4 (fun y1 hy2 h => ?_)
  refine ab_iloadn 1 dX10_gains_7 rfl ?_
  refine fC_Vi (mtc := mt_X0_isOwner) (As := [.int a1]) h (fun Q h => ct_X0_isOwner y1 hy2 a1 C h) ⟨hy2, by decide⟩ rfl rfl rfl mw_X0_isOwner wd_232 rfl rfl ⟨Nat.le_of_ble_eq_true rfl, Nat.le_of_ble_eq_true rfl⟩ ⟨Nat.zero_le _, Nat.zero_le _⟩ (Nat.le_of_ble_eq_true rfl) rfl dX10_gains_8 (fun v3 C4 h => ?_)
  refine ab_if_eq (tgt := 22) dX10_gains_11 (by decide) (fun hc5 => ?_) (fun hc5 => ?_)
  · have h := sat_t hc5 h
    refine ab_sipush (v := (-1001)) dX10_gains_22 (by decide) ?_
    exact fC_iret h rfl rfl dX10_gains_25
  · have h := sat_f hc5 h
    refine ab_iloadn 2 dX10_gains_14 rfl ?_
    refine ab_iloadn 3 dX10_gains_15 rfl ?_
    refine fC_Si (mtc := mt_X10_isGust) (As := [.int a2, .int a3]) h (fun Q h => ct_X10_isGust a2 a3 C4 h) mw_X10_isGust wd_209 wd_210 rfl rfl ⟨Nat.le_of_ble_eq_true rfl, Nat.le_of_ble_eq_true rfl⟩ ⟨Nat.zero_le _, Nat.zero_le _⟩ (Nat.le_of_ble_eq_true rfl) rfl dX10_gains_16 (fun v6 C7 h => ?_)
    refine ab_if_ne (tgt := 26) dX10_gains_19 (by decide) (fun hc8 => ?_) (fun hc8 => ?_)
    · have h := sat_f hc8 h
      refine ab_aloadn 0 dX10_gains_26 rfl ?_
      refine ab_iloadn 1 dX10_gains_27 rfl ?_
      refine ab_iloadn 2 dX10_gains_28 rfl ?_
      refine ab_iloadn 3 dX10_gains_29 rfl ?_
      refine fC_Vi (mtc := mt_X10_gainNow) (As := [.int a1, .int a2, .int a3]) h (fun Q h => ct_X10_gainNow N a1 a2 a3 C7 h) ⟨by decide, by decide⟩ rfl rfl rfl mw_X10_gainNow wd_248 rfl rfl ⟨Nat.le_of_ble_eq_true rfl, Nat.le_of_ble_eq_true rfl⟩ ⟨Nat.zero_le _, Nat.zero_le _⟩ (Nat.le_of_ble_eq_true rfl) rfl dX10_gains_30 (fun v9 C10 h => ?_)
      exact fC_iret h rfl rfl dX10_gains_33
    · have h := sat_t hc8 h
      refine ab_sipush (v := (-1001)) dX10_gains_22 (by decide) ?_
      exact fC_iret h rfl rfl dX10_gains_25
theorem ct_X10_gains {l : Launch} {G : GX} {X : XM} {Q : Int32 → Mem → Prop} (N : Nat) (a1 : Int32) (a2 : Int32) (a3 : Int32) (C : CM) (h : SAT (f_X10_gains N a1 a2 a3 C) (fun v c => Q v (c, X))) : CT l G 5 mt_X10_gains [.ref (gA G 0 0 0), .int a1, .int a2, .int a3] (C, X) Q := ct_of pn_X10 (Nat.le_of_ble_eq_true rfl) (t_X10_gains_0 N a1 a2 a3 C h)
def f_X10_best_38 (N : Nat) (a1 : Int32) (a2 : Int32) : Nat → Int32 → Int32 → Int32 → CM → Option (Int32 × CM)
  | 0, _, _, _, _ => none
  | n + 1, a3, a4, a5, C => (if 8 ≤ a5 then (rt a3 C) else cal (f_X10_gainNow N a1 a5 a2 C) (fun v2 C3 => (if v2 ≤ a4 then (f_X10_best_38 N a1 a2 n a3 a4 (a5 + 1) C3) else (f_X10_best_38 N a1 a2 n a5 v2 (a5 + 1) C3))))
def f_X10_best (N : Nat) (a1 : Int32) (a2 : Int32) (C : CM) : Option (Int32 × CM) := ldR (C.2 2 0 1) 4 (fun y1 => cal (f_X0_isOwner y1 a1 C) (fun v3 C4 => (if v3 = 0 then (rt (-1) C4) else cal (f_X10_isGust 0 a2 C4) (fun v6 C7 => (if v6 = 0 then (rt (-1) C7) else cal (f_X10_gainNow N a1 0 a2 C7) (fun v9 C10 => (f_X10_best_38 N a1 a2 N 0 v9 1 C10)))))))
set_option maxRecDepth 8000 in
theorem t_X10_best_38 {l : Launch} {G : GX} {X : XM} {Q : Int32 → Mem → Prop} (N : Nat) (a1 : Int32) (a2 : Int32) : ∀ (n : Nat) (a3 : Int32) (a4 : Int32) (a5 : Int32) (C : CM), SAT (f_X10_best_38 N a1 a2 n a3 a4 a5 C) (fun v c => Q v (c, X)) → AB l G (rmD 5) 0 0 mt_X10_best (ZQ G mt_X10_best Q) 38 [(0, .ref (gA G 0 0 0)), (1, .int a1), (2, .int a2), (3, .int a3), (4, .int a4), (5, .int a5)] [] (C, X) := by
  intro n
  induction n with
  | zero => intro a3 a4 a5 C h; exact h.elim
  | succ n ih =>
    intro a3 a4 a5 C h
    rw [f_X10_best_38] at h
    refine ab_iload 5 dX10_best_38 rfl ?_
    refine ab_bipush (v := 8) dX10_best_40 (by decide) ?_
    refine ab_icmp_ge (tgt := 75) dX10_best_42 (by decide) (fun hc1 => ?_) (fun hc1 => ?_)
    · have h := sat_t hc1 h
      refine ab_iloadn 3 dX10_best_75 rfl ?_
      exact fC_iret h rfl rfl dX10_best_76
    · have h := sat_f hc1 h
      refine ab_aloadn 0 dX10_best_45 rfl ?_
      refine ab_iloadn 1 dX10_best_46 rfl ?_
      refine ab_iload 5 dX10_best_47 rfl ?_
      refine ab_iloadn 2 dX10_best_49 rfl ?_
      refine fC_Vi (mtc := mt_X10_gainNow) (As := [.int a1, .int a5, .int a2]) h (fun Q h => ct_X10_gainNow N a1 a5 a2 C h) ⟨by decide, by decide⟩ rfl rfl rfl mw_X10_gainNow wd_248 rfl rfl ⟨Nat.le_of_ble_eq_true rfl, Nat.le_of_ble_eq_true rfl⟩ ⟨Nat.zero_le _, Nat.zero_le _⟩ (Nat.le_of_ble_eq_true rfl) rfl dX10_best_50 (fun v2 C3 h => ?_)
      refine ab_istore (lv' := [(0, .ref (gA G 0 0 0)), (1, .int a1), (2, .int a2), (3, .int a3), (4, .int a4), (5, .int a5), (6, .int v2)]) dX10_best_53 rfl (Nat.le_of_ble_eq_true rfl) rfl ?_
      refine ab_iload 6 dX10_best_55 rfl ?_
      refine ab_iload 4 dX10_best_57 rfl ?_
      refine ab_icmp_le (tgt := 69) dX10_best_59 (by decide) (fun hc4 => ?_) (fun hc4 => ?_)
      · have h := sat_t hc4 h
        refine ab_iinc (q := 5) (v := (a5 + 1)) (lv' := [(0, .ref (gA G 0 0 0)), (1, .int a1), (2, .int a2), (3, .int a3), (4, .int a4), (5, .int (a5 + 1)), (6, .int v2)]) dX10_best_69 rfl rfl rfl (Nat.le_of_ble_eq_true rfl) rfl ?_
        refine ab_goto (tgt := 38) dX10_best_72 (by decide) ?_
        refine ab_sub [0, 1, 2, 3, 4, 5] rfl ?_
        exact ih a3 a4 (a5 + 1) C3 h
      · have h := sat_f hc4 h
        refine ab_iload 5 dX10_best_62 rfl ?_
        refine ab_istoren (lv' := [(0, .ref (gA G 0 0 0)), (1, .int a1), (2, .int a2), (3, .int a5), (4, .int a4), (5, .int a5), (6, .int v2)]) dX10_best_64 rfl (Nat.le_of_ble_eq_true rfl) rfl ?_
        refine ab_iload 6 dX10_best_65 rfl ?_
        refine ab_istore (lv' := [(0, .ref (gA G 0 0 0)), (1, .int a1), (2, .int a2), (3, .int a5), (4, .int v2), (5, .int a5), (6, .int v2)]) dX10_best_67 rfl (Nat.le_of_ble_eq_true rfl) rfl ?_
        refine ab_iinc (q := 5) (v := (a5 + 1)) (lv' := [(0, .ref (gA G 0 0 0)), (1, .int a1), (2, .int a2), (3, .int a5), (4, .int v2), (5, .int (a5 + 1)), (6, .int v2)]) dX10_best_69 rfl rfl rfl (Nat.le_of_ble_eq_true rfl) rfl ?_
        refine ab_goto (tgt := 38) dX10_best_72 (by decide) ?_
        refine ab_sub [0, 1, 2, 3, 4, 5] rfl ?_
        exact ih a5 v2 (a5 + 1) C3 h
set_option maxRecDepth 8000 in
theorem t_X10_best_0 {l : Launch} {G : GX} {X : XM} {Q : Int32 → Mem → Prop} (N : Nat) (a1 : Int32) (a2 : Int32) (C : CM) (h : SAT (f_X10_best N a1 a2 C) (fun v c => Q v (c, X))) : AB l G (rmD 5) 0 0 mt_X10_best (ZQ G mt_X10_best Q) 0 [(0, .ref (gA G 0 0 0)), (1, .int a1), (2, .int a2)] [] (C, X) := by
  unfold f_X10_best at h
  refine ab_aloadn 0 dX10_best_0 rfl ?_
  refine f_gr (x := 4) (k2 := 2) (i2 := 0) (j2 := 0) ⟨by decide, by decide⟩ rfl rfl (Nat.le_of_ble_eq_true rfl) wd_124 rfl rfl dX10_best_1 ?_
  refine fC_gd (x := 1) ⟨by decide, by decide⟩ rfl rfl (Nat.le_of_ble_eq_true rfl) wd_125 rfl h rfl dX10_best_4 (fun y1 hy2 h => ?_)
  refine ab_iloadn 1 dX10_best_7 rfl ?_
  refine fC_Vi (mtc := mt_X0_isOwner) (As := [.int a1]) h (fun Q h => ct_X0_isOwner y1 hy2 a1 C h) ⟨hy2, by decide⟩ rfl rfl rfl mw_X0_isOwner wd_232 rfl rfl ⟨Nat.le_of_ble_eq_true rfl, Nat.le_of_ble_eq_true rfl⟩ ⟨Nat.zero_le _, Nat.zero_le _⟩ (Nat.le_of_ble_eq_true rfl) rfl dX10_best_8 (fun v3 C4 h => ?_)
  refine ab_if_eq (tgt := 22) dX10_best_11 (by decide) (fun hc5 => ?_) (fun hc5 => ?_)
  · have h := sat_t hc5 h
    refine ab_iconst (v := (-1)) dX10_best_22 (by decide) ?_
    exact fC_iret h rfl rfl dX10_best_23
  · have h := sat_f hc5 h
    refine ab_iconst (v := 0) dX10_best_14 (by decide) ?_
    refine ab_iloadn 2 dX10_best_15 rfl ?_
    refine fC_Si (mtc := mt_X10_isGust) (As := [.int 0, .int a2]) h (fun Q h => ct_X10_isGust 0 a2 C4 h) mw_X10_isGust wd_209 wd_210 rfl rfl ⟨Nat.le_of_ble_eq_true rfl, Nat.le_of_ble_eq_true rfl⟩ ⟨Nat.zero_le _, Nat.zero_le _⟩ (Nat.le_of_ble_eq_true rfl) rfl dX10_best_16 (fun v6 C7 h => ?_)
    refine ab_if_ne (tgt := 24) dX10_best_19 (by decide) (fun hc8 => ?_) (fun hc8 => ?_)
    · have h := sat_f hc8 h
      refine ab_iconst (v := 0) dX10_best_24 (by decide) ?_
      refine ab_istoren (lv' := [(0, .ref (gA G 0 0 0)), (1, .int a1), (2, .int a2), (3, .int 0)]) dX10_best_25 rfl (Nat.le_of_ble_eq_true rfl) rfl ?_
      refine ab_aloadn 0 dX10_best_26 rfl ?_
      refine ab_iloadn 1 dX10_best_27 rfl ?_
      refine ab_iconst (v := 0) dX10_best_28 (by decide) ?_
      refine ab_iloadn 2 dX10_best_29 rfl ?_
      refine fC_Vi (mtc := mt_X10_gainNow) (As := [.int a1, .int 0, .int a2]) h (fun Q h => ct_X10_gainNow N a1 0 a2 C7 h) ⟨by decide, by decide⟩ rfl rfl rfl mw_X10_gainNow wd_248 rfl rfl ⟨Nat.le_of_ble_eq_true rfl, Nat.le_of_ble_eq_true rfl⟩ ⟨Nat.zero_le _, Nat.zero_le _⟩ (Nat.le_of_ble_eq_true rfl) rfl dX10_best_30 (fun v9 C10 h => ?_)
      refine ab_istore (lv' := [(0, .ref (gA G 0 0 0)), (1, .int a1), (2, .int a2), (3, .int 0), (4, .int v9)]) dX10_best_33 rfl (Nat.le_of_ble_eq_true rfl) rfl ?_
      refine ab_iconst (v := 1) dX10_best_35 (by decide) ?_
      refine ab_istore (lv' := [(0, .ref (gA G 0 0 0)), (1, .int a1), (2, .int a2), (3, .int 0), (4, .int v9), (5, .int 1)]) dX10_best_36 rfl (Nat.le_of_ble_eq_true rfl) rfl ?_
      exact t_X10_best_38 N a1 a2 N 0 v9 1 C10 h
    · have h := sat_t hc8 h
      refine ab_iconst (v := (-1)) dX10_best_22 (by decide) ?_
      exact fC_iret h rfl rfl dX10_best_23
theorem ct_X10_best {l : Launch} {G : GX} {X : XM} {Q : Int32 → Mem → Prop} (N : Nat) (a1 : Int32) (a2 : Int32) (C : CM) (h : SAT (f_X10_best N a1 a2 C) (fun v c => Q v (c, X))) : CT l G 5 mt_X10_best [.ref (gA G 0 0 0), .int a1, .int a2] (C, X) Q := ct_of pn_X10 (Nat.le_of_ble_eq_true rfl) (t_X10_best_0 N a1 a2 C h)
def f_X2_push (r1 : Nat) (C : CM) : Option (Int32 × CM) := ldQ 8 (C.1 7 0 0 1) (fun y1 => cal (f_X6_copy (4 + y1) r1 C) (fun v3 C4 => bnd (stC C4 7 0 0 1 (((C4.1 7 0 0 1) + 1) - ((C4.1 7 0 0 1) + 1) / 8 * 8)) (fun C5 => bnd (stC C5 7 0 0 2 (imin ((C5.1 7 0 0 2) + 1) 8)) (fun C6 => (rt 0 C6)))))
set_option maxRecDepth 8000 in
theorem t_X2_push_0 {l : Launch} {G : GX} {X : XM} {Q : Int32 → Mem → Prop} (r1 : Nat) (h1 : r1 < 12) (C : CM) (h : SAT (f_X2_push r1 C) (fun v c => Q v (c, X))) : AB l G (rmD 2) 0 0 mt_X2_push (ZQ G mt_X2_push Q) 0 [(0, .ref (gA G 7 0 0)), (1, .ref (gA G 4 r1 0))] [] (C, X) := by
  unfold f_X2_push at h
  refine ab_aloadn 0 dX2_push_0 rfl ?_
  refine f_gr (x := 0) (k2 := 7) (i2 := 0) (j2 := 1) ⟨by decide, by decide⟩ rfl rfl (Nat.le_of_ble_eq_true rfl) wd_249 rfl rfl dX2_push_1 ?_
  refine ab_aloadn 0 dX2_push_4 rfl ?_
  refine fC_gi (x := 1) ⟨by decide, by decide⟩ rfl rfl (Nat.le_of_ble_eq_true rfl) wd_250 (by decide) rfl dX2_push_5 ?_
  refine f_aald (k2 := 4) (b := 4) ⟨by decide, by decide⟩ rfl (by decide) (fun _ => rfl) h dX2_push_8 (fun y1 hy2 h => ?_)
  refine ab_aloadn 1 dX2_push_9 rfl ?_
  refine fC_Vv (mtc := mt_X6_copy) (As := [.ref (gA G 4 r1 0)]) h (fun Q h => ct_X6_copy (4 + y1) (Nat.add_lt_add_left hy2 4) r1 h1 C h) ⟨(Nat.add_lt_add_left hy2 4), by decide⟩ rfl rfl rfl mw_X6_copy wd_251 rfl rfl ⟨Nat.le_of_ble_eq_true rfl, Nat.le_of_ble_eq_true rfl⟩ ⟨Nat.zero_le _, Nat.zero_le _⟩ (Nat.le_of_ble_eq_true rfl) rfl dX2_push_10 (fun v3 C4 h => ?_)
  refine ab_aloadn 0 dX2_push_13 rfl ?_
  refine ab_aloadn 0 dX2_push_14 rfl ?_
  refine fC_gi (x := 1) ⟨by decide, by decide⟩ rfl rfl (Nat.le_of_ble_eq_true rfl) wd_250 (by decide) rfl dX2_push_15 ?_
  refine ab_iconst (v := 1) dX2_push_18 (by decide) ?_
  refine ab_iadd dX2_push_19 ?_
  refine ab_bipush (v := 8) dX2_push_20 (by decide) ?_
  refine ab_irem dX2_push_22 (by decide) ?_
  refine fC_pi (x := 1) (ty := .int) ⟨by decide, by decide⟩ rfl rfl (Nat.le_of_ble_eq_true rfl) wd_250 (by decide) rfl h rfl (by decide +kernel) rfl rfl dX2_push_23 (fun C5 h => ?_)
  refine ab_aloadn 0 dX2_push_26 rfl ?_
  refine ab_aloadn 0 dX2_push_27 rfl ?_
  refine fC_gi (x := 2) ⟨by decide, by decide⟩ rfl rfl (Nat.le_of_ble_eq_true rfl) wd_158 (by decide) rfl dX2_push_28 ?_
  refine ab_iconst (v := 1) dX2_push_31 (by decide) ?_
  refine ab_iadd dX2_push_32 ?_
  refine ab_bipush (v := 8) dX2_push_33 (by decide) ?_
  refine ab_mmin wd_252 wd_35 wd_36 wm_min ⟨Nat.le_of_ble_eq_true rfl, Nat.le_of_ble_eq_true rfl⟩ ⟨Nat.zero_le _, Nat.zero_le _⟩ dX2_push_35 ?_
  refine fC_pi (x := 2) (ty := .int) ⟨by decide, by decide⟩ rfl rfl (Nat.le_of_ble_eq_true rfl) wd_158 (by decide) rfl h rfl (by decide +kernel) rfl rfl dX2_push_38 (fun C6 h => ?_)
  exact fC_vret h rfl dX2_push_41
theorem ct_X2_push {l : Launch} {G : GX} {X : XM} {Q : Int32 → Mem → Prop} (r1 : Nat) (h1 : r1 < 12) (C : CM) (h : SAT (f_X2_push r1 C) (fun v c => Q v (c, X))) : CT l G 2 mt_X2_push [.ref (gA G 7 0 0), .ref (gA G 4 r1 0)] (C, X) Q := ct_of pn_X2 (Nat.le_of_ble_eq_true rfl) (t_X2_push_0 r1 h1 C h)
def f_X10_keepPast (C : CM) : Option (Int32 × CM) := cal (f_X2_push 0 C) (fun v1 C2 => bnd (stC C2 9 0 0 0 0) (fun C3 => (rt 0 C3)))
set_option maxRecDepth 8000 in
theorem t_X10_keepPast_0 {l : Launch} {G : GX} {X : XM} {Q : Int32 → Mem → Prop} (C : CM) (h : SAT (f_X10_keepPast C) (fun v c => Q v (c, X))) : AB l G (rmD 3) 0 0 mt_X10_keepPast (ZQ G mt_X10_keepPast Q) 0 [(0, .ref (gA G 0 0 0))] [] (C, X) := by
  unfold f_X10_keepPast at h
  refine ab_aloadn 0 dX10_keepPast_0 rfl ?_
  refine f_gr (x := 9) (k2 := 7) (i2 := 0) (j2 := 0) ⟨by decide, by decide⟩ rfl rfl (Nat.le_of_ble_eq_true rfl) wd_157 rfl rfl dX10_keepPast_1 ?_
  refine ab_aloadn 0 dX10_keepPast_4 rfl ?_
  refine f_gr (x := 4) (k2 := 2) (i2 := 0) (j2 := 0) ⟨by decide, by decide⟩ rfl rfl (Nat.le_of_ble_eq_true rfl) wd_124 rfl rfl dX10_keepPast_5 ?_
  refine f_gr (x := 2) (k2 := 4) (i2 := 0) (j2 := 0) ⟨by decide, by decide⟩ rfl rfl (Nat.le_of_ble_eq_true rfl) wd_126 rfl rfl dX10_keepPast_8 ?_
  refine fC_Vv (mtc := mt_X2_push) (As := [.ref (gA G 4 0 0)]) h (fun Q h => ct_X2_push 0 (by decide) C h) ⟨by decide, by decide⟩ rfl rfl rfl mw_X2_push wd_253 rfl rfl ⟨Nat.le_of_ble_eq_true rfl, Nat.le_of_ble_eq_true rfl⟩ ⟨Nat.zero_le _, Nat.zero_le _⟩ (Nat.le_of_ble_eq_true rfl) rfl dX10_keepPast_11 (fun v1 C2 h => ?_)
  refine ab_aloadn 0 dX10_keepPast_14 rfl ?_
  refine f_gr (x := 11) (k2 := 9) (i2 := 0) (j2 := 0) ⟨by decide, by decide⟩ rfl rfl (Nat.le_of_ble_eq_true rfl) wd_160 rfl rfl dX10_keepPast_15 ?_
  refine ab_iconst (v := 0) dX10_keepPast_18 (by decide) ?_
  refine fC_pi (x := 0) (ty := .boolean) ⟨by decide, by decide⟩ rfl rfl (Nat.le_of_ble_eq_true rfl) wd_161 (by decide) rfl h rfl (by decide +kernel) rfl rfl dX10_keepPast_19 (fun C3 h => ?_)
  exact fC_vret h rfl dX10_keepPast_22
theorem ct_X10_keepPast {l : Launch} {G : GX} {X : XM} {Q : Int32 → Mem → Prop} (C : CM) (h : SAT (f_X10_keepPast C) (fun v c => Q v (c, X))) : CT l G 3 mt_X10_keepPast [.ref (gA G 0 0 0)] (C, X) Q := ct_of pn_X10 (Nat.le_of_ble_eq_true rfl) (t_X10_keepPast_0 C h)
def f_X9_calm_8 (N : Nat) (r1 : Nat) (r2 : Nat) : Nat → Int32 → Int32 → CM → Option (Int32 × CM)
  | 0, _, _, _ => none
  | n + 1, a3, a4, C => (if (C.1 3 r1 6 0) ≤ a4 then (rt 0 C) else (if a3 ≤ 0 then (rt 0 C) else ldA (C.1 3 r1 15) 8 a4 (fun v3 => ldA (C.1 4 r2 1) 8 v3 (fun v4 => ldA (C.1 4 r2 1) 8 v3 (fun v5 => stA C 4 r2 1 8 v3 (v5 - (imin a3 (imin (C.1 3 r1 0 8) v4))) (fun C6 => ldA (C6.1 4 r2 2) 8 v3 (fun v7 => stA C6 4 r2 2 8 v3 (v7 + (imin a3 (imin (C.1 3 r1 0 8) v4))) (fun C8 => bnd (stC C8 4 r2 0 5 ((C8.1 4 r2 0 5) + (imin a3 (imin (C.1 3 r1 0 8) v4)))) (fun C9 => (f_X9_calm_8 N r1 r2 n (a3 - (imin a3 (imin (C.1 3 r1 0 8) v4))) (a4 + 1) C9))))))))))
def f_X9_calm (N : Nat) (r1 : Nat) (r2 : Nat) (C : CM) : Option (Int32 × CM) := (f_X9_calm_8 N r1 r2 N (C.1 3 r1 0 9) 0 C)
set_option maxRecDepth 8000 in
theorem t_X9_calm_8 {l : Launch} {G : GX} {X : XM} {Q : Int32 → Mem → Prop} (N : Nat) (r1 : Nat) (h1 : r1 < 4) (r2 : Nat) (h2 : r2 < 12) : ∀ (n : Nat) (a3 : Int32) (a4 : Int32) (C : CM), SAT (f_X9_calm_8 N r1 r2 n a3 a4 C) (fun v c => Q v (c, X)) → AB l G (rmD 1) 0 0 mt_X9_calm (ZQ G mt_X9_calm Q) 8 [(1, .ref (gA G 3 r1 0)), (2, .ref (gA G 4 r2 0)), (3, .int a3), (4, .int a4)] [] (C, X) := by
  intro n
  induction n with
  | zero => intro a3 a4 C h; exact h.elim
  | succ n ih =>
    intro a3 a4 C h
    rw [f_X9_calm_8] at h
    refine ab_iload 3 dX9_calm_8 rfl ?_
    refine ab_aloadn 0 dX9_calm_10 rfl ?_
    refine f_gr (x := 10) (k2 := 3) (i2 := r1) (j2 := 6) ⟨h1, by decide⟩ rfl rfl (Nat.le_of_ble_eq_true rfl) wd_219 rfl rfl dX9_calm_11 ?_
    refine fC_gi (x := 0) ⟨h1, by decide⟩ rfl rfl (Nat.le_of_ble_eq_true rfl) wd_220 (by decide) rfl dX9_calm_14 ?_
    refine ab_icmp_ge (tgt := 102) dX9_calm_17 (by decide) (fun hc1 => ?_) (fun hc1 => ?_)
    · have h := sat_t hc1 h
      exact fC_vret h rfl dX9_calm_102
    · have h := sat_f hc1 h
      refine ab_iloadn 2 dX9_calm_20 rfl ?_
      refine ab_if_le (tgt := 102) dX9_calm_21 (by decide) (fun hc2 => ?_) (fun hc2 => ?_)
      · have h := sat_t hc2 h
        exact fC_vret h rfl dX9_calm_102
      · have h := sat_f hc2 h
        refine ab_aloadn 0 dX9_calm_24 rfl ?_
        refine f_gr (x := 10) (k2 := 3) (i2 := r1) (j2 := 6) ⟨h1, by decide⟩ rfl rfl (Nat.le_of_ble_eq_true rfl) wd_219 rfl rfl dX9_calm_25 ?_
        refine f_gr (x := 10) (k2 := 3) (i2 := r1) (j2 := 15) ⟨h1, by decide⟩ rfl rfl (Nat.le_of_ble_eq_true rfl) wd_258 rfl rfl dX9_calm_28 ?_
        refine ab_iload 3 dX9_calm_31 rfl ?_
        refine fC_iald ⟨h1, by decide⟩ rfl (by decide) (fun _ => rfl) h dX9_calm_33 (fun v3 h => ?_)
        refine ab_istore (lv' := [(1, .ref (gA G 3 r1 0)), (2, .ref (gA G 4 r2 0)), (3, .int a3), (4, .int a4), (5, .int v3)]) dX9_calm_34 rfl (Nat.le_of_ble_eq_true rfl) rfl ?_
        refine ab_iloadn 2 dX9_calm_36 rfl ?_
        refine ab_aloadn 0 dX9_calm_37 rfl ?_
        refine fC_gi (x := 8) ⟨h1, by decide⟩ rfl rfl (Nat.le_of_ble_eq_true rfl) wd_259 (by decide) rfl dX9_calm_38 ?_
        refine ab_aloadn 1 dX9_calm_41 rfl ?_
        refine f_gr (x := 6) (k2 := 4) (i2 := r2) (j2 := 1) ⟨h2, by decide⟩ rfl rfl (Nat.le_of_ble_eq_true rfl) wd_244 rfl rfl dX9_calm_42 ?_
        refine ab_iload 4 dX9_calm_45 rfl ?_
        refine fC_iald ⟨h2, by decide⟩ rfl (by decide) (fun _ => rfl) h dX9_calm_47 (fun v4 h => ?_)
        refine ab_mmin wd_228 wd_35 wd_36 wm_min ⟨Nat.le_of_ble_eq_true rfl, Nat.le_of_ble_eq_true rfl⟩ ⟨Nat.zero_le _, Nat.zero_le _⟩ dX9_calm_48 ?_
        refine ab_mmin wd_228 wd_35 wd_36 wm_min ⟨Nat.le_of_ble_eq_true rfl, Nat.le_of_ble_eq_true rfl⟩ ⟨Nat.zero_le _, Nat.zero_le _⟩ dX9_calm_51 ?_
        refine ab_istore (lv' := [(1, .ref (gA G 3 r1 0)), (2, .ref (gA G 4 r2 0)), (3, .int a3), (4, .int a4), (5, .int v3), (6, .int (imin a3 (imin (C.1 3 r1 0 8) v4)))]) dX9_calm_54 rfl (Nat.le_of_ble_eq_true rfl) rfl ?_
        refine ab_aloadn 1 dX9_calm_56 rfl ?_
        refine f_gr (x := 6) (k2 := 4) (i2 := r2) (j2 := 1) ⟨h2, by decide⟩ rfl rfl (Nat.le_of_ble_eq_true rfl) wd_244 rfl rfl dX9_calm_57 ?_
        refine ab_iload 4 dX9_calm_60 rfl ?_
        refine ab_dup2 dX9_calm_62 rfl rfl ?_
        refine fC_iald ⟨h2, by decide⟩ rfl (by decide) (fun _ => rfl) h dX9_calm_63 (fun v5 h => ?_)
        refine ab_iload 5 dX9_calm_64 rfl ?_
        refine ab_isub dX9_calm_66 ?_
        refine fC_iast ⟨h2, by decide⟩ rfl (by decide) (fun _ => rfl) h dX9_calm_67 (fun C6 h => ?_)
        refine ab_aloadn 1 dX9_calm_68 rfl ?_
        refine f_gr (x := 7) (k2 := 4) (i2 := r2) (j2 := 2) ⟨h2, by decide⟩ rfl rfl (Nat.le_of_ble_eq_true rfl) wd_260 rfl rfl dX9_calm_69 ?_
        refine ab_iload 4 dX9_calm_72 rfl ?_
        refine ab_dup2 dX9_calm_74 rfl rfl ?_
        refine fC_iald ⟨h2, by decide⟩ rfl (by decide) (fun _ => rfl) h dX9_calm_75 (fun v7 h => ?_)
        refine ab_iload 5 dX9_calm_76 rfl ?_
        refine ab_iadd dX9_calm_78 ?_
        refine fC_iast ⟨h2, by decide⟩ rfl (by decide) (fun _ => rfl) h dX9_calm_79 (fun C8 h => ?_)
        refine ab_aloadn 1 dX9_calm_80 rfl ?_
        refine ab_dup dX9_calm_81 rfl ?_
        refine fC_gi (x := 5) ⟨h2, by decide⟩ rfl rfl (Nat.le_of_ble_eq_true rfl) wd_261 (by decide) rfl dX9_calm_82 ?_
        refine ab_iload 5 dX9_calm_85 rfl ?_
        refine ab_iadd dX9_calm_87 ?_
        refine fC_pi (x := 5) (ty := .int) ⟨h2, by decide⟩ rfl rfl (Nat.le_of_ble_eq_true rfl) wd_261 (by decide) rfl h rfl (by decide +kernel) rfl rfl dX9_calm_88 (fun C9 h => ?_)
        refine ab_iloadn 2 dX9_calm_91 rfl ?_
        refine ab_iload 5 dX9_calm_92 rfl ?_
        refine ab_isub dX9_calm_94 ?_
        refine ab_istoren (lv' := [(1, .ref (gA G 3 r1 0)), (2, .ref (gA G 4 r2 0)), (3, .int (a3 - (imin a3 (imin (C.1 3 r1 0 8) v4)))), (4, .int a4), (5, .int v3), (6, .int (imin a3 (imin (C.1 3 r1 0 8) v4)))]) dX9_calm_95 rfl (Nat.le_of_ble_eq_true rfl) rfl ?_
        refine ab_iinc (q := 3) (v := (a4 + 1)) (lv' := [(1, .ref (gA G 3 r1 0)), (2, .ref (gA G 4 r2 0)), (3, .int (a3 - (imin a3 (imin (C.1 3 r1 0 8) v4)))), (4, .int (a4 + 1)), (5, .int v3), (6, .int (imin a3 (imin (C.1 3 r1 0 8) v4)))]) dX9_calm_96 rfl rfl rfl (Nat.le_of_ble_eq_true rfl) rfl ?_
        refine ab_goto (tgt := 8) dX9_calm_99 (by decide) ?_
        refine ab_sub [0, 1, 2, 3] rfl ?_
        exact ih (a3 - (imin a3 (imin (C.1 3 r1 0 8) v4))) (a4 + 1) C9 h
set_option maxRecDepth 8000 in
theorem t_X9_calm_0 {l : Launch} {G : GX} {X : XM} {Q : Int32 → Mem → Prop} (N : Nat) (r1 : Nat) (h1 : r1 < 4) (r2 : Nat) (h2 : r2 < 12) (C : CM) (h : SAT (f_X9_calm N r1 r2 C) (fun v c => Q v (c, X))) : AB l G (rmD 1) 0 0 mt_X9_calm (ZQ G mt_X9_calm Q) 0 [(0, .ref (gA G 8 0 0)), (1, .ref (gA G 3 r1 0)), (2, .ref (gA G 4 r2 0))] [] (C, X) := by
  unfold f_X9_calm at h
  refine ab_aloadn 1 dX9_calm_0 rfl ?_
  refine fC_gi (x := 9) ⟨h1, by decide⟩ rfl rfl (Nat.le_of_ble_eq_true rfl) wd_257 (by decide) rfl dX9_calm_1 ?_
  refine ab_istoren (lv' := [(0, .ref (gA G 8 0 0)), (1, .ref (gA G 3 r1 0)), (2, .ref (gA G 4 r2 0)), (3, .int (C.1 3 r1 0 9))]) dX9_calm_4 rfl (Nat.le_of_ble_eq_true rfl) rfl ?_
  refine ab_iconst (v := 0) dX9_calm_5 (by decide) ?_
  refine ab_istore (lv' := [(0, .ref (gA G 8 0 0)), (1, .ref (gA G 3 r1 0)), (2, .ref (gA G 4 r2 0)), (3, .int (C.1 3 r1 0 9)), (4, .int 0)]) dX9_calm_6 rfl (Nat.le_of_ble_eq_true rfl) rfl ?_
  refine ab_sub [1, 2, 3, 4] rfl ?_
  exact t_X9_calm_8 N r1 h1 r2 h2 N (C.1 3 r1 0 9) 0 C h
theorem ct_X9_calm {l : Launch} {G : GX} {X : XM} {Q : Int32 → Mem → Prop} (N : Nat) (r1 : Nat) (h1 : r1 < 4) (r2 : Nat) (h2 : r2 < 12) (C : CM) (h : SAT (f_X9_calm N r1 r2 C) (fun v c => Q v (c, X))) : CT l G 1 mt_X9_calm [.ref (gA G 8 0 0), .ref (gA G 3 r1 0), .ref (gA G 4 r2 0)] (C, X) Q := ct_of pn_X9 (Nat.le_of_ble_eq_true rfl) (t_X9_calm_0 N r1 h1 r2 h2 C h)
def f_X9_pass_76 (N : Nat) (a4 : Int32) (C : CM) : Option (Int32 × CM) := (rt a4 C)
def f_X9_pass_60 (N : Nat) (k3 : Int32 → CM → Option (Int32 × CM)) (r1 : Nat) (r2 : Nat) (a3 : Int32) (a4 : Int32) (C : CM) : Option (Int32 × CM) := bnd (stC C 4 r2 0 0 ((C.1 4 r2 0 0) + 1)) (fun C1 => (k3 (a4 + 1) C1))
def f_X9_pass_3 (N : Nat) (r1 : Nat) (r2 : Nat) (a3 : Int32) : Nat → Int32 → CM → Option (Int32 × CM)
  | 0, _, _ => none
  | n + 1, a4, C => (if a3 ≤ a4 then (f_X9_pass_76 N a4 C) else (if 48 ≤ (C.1 4 r2 0 0) then (f_X9_pass_76 N a4 C) else ldA (C.1 3 r1 5) 48 (C.1 4 r2 0 0) (fun v3 => (if v3 ≤ 0 then cal (f_X9_calm N r1 r2 C) (fun v5 C6 => (f_X9_pass_60 N (fun z4 c => f_X9_pass_3 N r1 r2 a3 n z4 c) r1 r2 a3 a4 C6)) else ldA (C.1 3 r1 4) 48 (C.1 4 r2 0 0) (fun v7 => cal (f_X9_gale N r1 r2 v7 v3 C) (fun v8 C9 => (f_X9_pass_60 N (fun z4 c => f_X9_pass_3 N r1 r2 a3 n z4 c) r1 r2 a3 a4 C9)))))))
def f_X9_pass (N : Nat) (r1 : Nat) (r2 : Nat) (a3 : Int32) (C : CM) : Option (Int32 × CM) := (f_X9_pass_3 N r1 r2 a3 N 0 C)
set_option maxRecDepth 8000 in
theorem t_X9_pass_76 {l : Launch} {G : GX} {X : XM} {Q : Int32 → Mem → Prop} (N : Nat) (a4 : Int32) (C : CM) (h : SAT (f_X9_pass_76 N a4 C) (fun v c => Q v (c, X))) : AB l G (rmD 4) 0 0 mt_X9_pass (ZQ G mt_X9_pass Q) 76 [(4, .int a4)] [] (C, X) := by
  unfold f_X9_pass_76 at h
  refine ab_iload 0 dX9_pass_76 rfl ?_
  exact fC_iret h rfl rfl dX9_pass_78
set_option maxRecDepth 8000 in
theorem t_X9_pass_60 {l : Launch} {G : GX} {X : XM} {Q : Int32 → Mem → Prop} (N : Nat) (k3 : Int32 → CM → Option (Int32 × CM)) (r1 : Nat) (h1 : r1 < 4) (r2 : Nat) (h2 : r2 < 12) (a3 : Int32) (a4 : Int32) (hk3 : ∀ (ac4 : Int32) (C : CM), SAT (k3 ac4 C) (fun v c => Q v (c, X)) → AB l G (rmD 4) 0 0 mt_X9_pass (ZQ G mt_X9_pass Q) 3 [(0, .ref (gA G 8 0 0)), (1, .ref (gA G 3 r1 0)), (2, .ref (gA G 4 r2 0)), (3, .int a3), (4, .int ac4)] [] (C, X)) (C : CM) (h : SAT (f_X9_pass_60 N k3 r1 r2 a3 a4 C) (fun v c => Q v (c, X))) : AB l G (rmD 4) 0 0 mt_X9_pass (ZQ G mt_X9_pass Q) 60 [(0, .ref (gA G 8 0 0)), (1, .ref (gA G 3 r1 0)), (2, .ref (gA G 4 r2 0)), (3, .int a3), (4, .int a4)] [] (C, X) := by
  unfold f_X9_pass_60 at h
  refine ab_aloadn 2 dX9_pass_60 rfl ?_
  refine ab_dup dX9_pass_61 rfl ?_
  refine fC_gi (x := 0) ⟨h2, by decide⟩ rfl rfl (Nat.le_of_ble_eq_true rfl) wd_255 (by decide) rfl dX9_pass_62 ?_
  refine ab_iconst (v := 1) dX9_pass_65 (by decide) ?_
  refine ab_iadd dX9_pass_66 ?_
  refine fC_pi (x := 0) (ty := .int) ⟨h2, by decide⟩ rfl rfl (Nat.le_of_ble_eq_true rfl) wd_255 (by decide) rfl h rfl (by decide +kernel) rfl rfl dX9_pass_67 (fun C1 h => ?_)
  refine ab_iinc (q := 4) (v := (a4 + 1)) (lv' := [(0, .ref (gA G 8 0 0)), (1, .ref (gA G 3 r1 0)), (2, .ref (gA G 4 r2 0)), (3, .int a3), (4, .int (a4 + 1))]) dX9_pass_70 rfl rfl rfl (Nat.le_of_ble_eq_true rfl) rfl ?_
  refine ab_goto (tgt := 3) dX9_pass_73 (by decide) ?_
  exact hk3 (a4 + 1) C1 h
set_option maxRecDepth 8000 in
theorem t_X9_pass_3 {l : Launch} {G : GX} {X : XM} {Q : Int32 → Mem → Prop} (N : Nat) (r1 : Nat) (h1 : r1 < 4) (r2 : Nat) (h2 : r2 < 12) (a3 : Int32) : ∀ (n : Nat) (a4 : Int32) (C : CM), SAT (f_X9_pass_3 N r1 r2 a3 n a4 C) (fun v c => Q v (c, X)) → AB l G (rmD 4) 0 0 mt_X9_pass (ZQ G mt_X9_pass Q) 3 [(0, .ref (gA G 8 0 0)), (1, .ref (gA G 3 r1 0)), (2, .ref (gA G 4 r2 0)), (3, .int a3), (4, .int a4)] [] (C, X) := by
  intro n
  induction n with
  | zero => intro a4 C h; exact h.elim
  | succ n ih =>
    intro a4 C h
    rw [f_X9_pass_3] at h
    refine ab_iload 4 dX9_pass_3 rfl ?_
    refine ab_iloadn 3 dX9_pass_5 rfl ?_
    refine ab_icmp_ge (tgt := 76) dX9_pass_6 (by decide) (fun hc1 => ?_) (fun hc1 => ?_)
    · have h := sat_t hc1 h
      refine ab_sub [4] rfl ?_
      exact t_X9_pass_76 N a4 C h
    · have h := sat_f hc1 h
      refine ab_aloadn 2 dX9_pass_9 rfl ?_
      refine fC_gi (x := 0) ⟨h2, by decide⟩ rfl rfl (Nat.le_of_ble_eq_true rfl) wd_255 (by decide) rfl dX9_pass_10 ?_
      refine ab_bipush (v := 48) dX9_pass_13 (by decide) ?_
      refine ab_icmp_ge (tgt := 76) dX9_pass_15 (by decide) (fun hc2 => ?_) (fun hc2 => ?_)
      · have h := sat_t hc2 h
        refine ab_sub [4] rfl ?_
        exact t_X9_pass_76 N a4 C h
      · have h := sat_f hc2 h
        refine ab_aloadn 1 dX9_pass_18 rfl ?_
        refine f_gr (x := 15) (k2 := 3) (i2 := r1) (j2 := 5) ⟨h1, by decide⟩ rfl rfl (Nat.le_of_ble_eq_true rfl) wd_256 rfl rfl dX9_pass_19 ?_
        refine ab_aloadn 2 dX9_pass_22 rfl ?_
        refine fC_gi (x := 0) ⟨h2, by decide⟩ rfl rfl (Nat.le_of_ble_eq_true rfl) wd_255 (by decide) rfl dX9_pass_23 ?_
        refine fC_iald ⟨h1, by decide⟩ rfl (by decide) (fun _ => rfl) h dX9_pass_26 (fun v3 h => ?_)
        refine ab_istore (lv' := [(0, .ref (gA G 8 0 0)), (1, .ref (gA G 3 r1 0)), (2, .ref (gA G 4 r2 0)), (3, .int a3), (4, .int a4), (5, .int v3)]) dX9_pass_27 rfl (Nat.le_of_ble_eq_true rfl) rfl ?_
        refine ab_iload 5 dX9_pass_29 rfl ?_
        refine ab_if_le (tgt := 54) dX9_pass_31 (by decide) (fun hc4 => ?_) (fun hc4 => ?_)
        · have h := sat_t hc4 h
          refine ab_aloadn 0 dX9_pass_54 rfl ?_
          refine ab_aloadn 1 dX9_pass_55 rfl ?_
          refine ab_aloadn 2 dX9_pass_56 rfl ?_
          refine fC_Vv (mtc := mt_X9_calm) (As := [.ref (gA G 3 r1 0), .ref (gA G 4 r2 0)]) h (fun Q h => ct_X9_calm N r1 h1 r2 h2 C h) ⟨by decide, by decide⟩ rfl rfl rfl mw_X9_calm wd_262 rfl rfl ⟨Nat.le_of_ble_eq_true rfl, Nat.le_of_ble_eq_true rfl⟩ ⟨Nat.zero_le _, Nat.zero_le _⟩ (Nat.le_of_ble_eq_true rfl) rfl dX9_pass_57 (fun v5 C6 h => ?_)
          refine ab_sub [0, 1, 2, 3, 4] rfl ?_
          exact t_X9_pass_60 N (fun z4 c => f_X9_pass_3 N r1 r2 a3 n z4 c) r1 h1 r2 h2 a3 a4 ih C6 h
        · have h := sat_f hc4 h
          refine ab_aloadn 0 dX9_pass_34 rfl ?_
          refine ab_aloadn 1 dX9_pass_35 rfl ?_
          refine ab_aloadn 2 dX9_pass_36 rfl ?_
          refine ab_aloadn 1 dX9_pass_37 rfl ?_
          refine f_gr (x := 14) (k2 := 3) (i2 := r1) (j2 := 4) ⟨h1, by decide⟩ rfl rfl (Nat.le_of_ble_eq_true rfl) wd_263 rfl rfl dX9_pass_38 ?_
          refine ab_aloadn 2 dX9_pass_41 rfl ?_
          refine fC_gi (x := 0) ⟨h2, by decide⟩ rfl rfl (Nat.le_of_ble_eq_true rfl) wd_255 (by decide) rfl dX9_pass_42 ?_
          refine fC_iald ⟨h1, by decide⟩ rfl (by decide) (fun _ => rfl) h dX9_pass_45 (fun v7 h => ?_)
          refine ab_iload 5 dX9_pass_46 rfl ?_
          refine fC_Vv (mtc := mt_X9_gale) (As := [.ref (gA G 3 r1 0), .ref (gA G 4 r2 0), .int v7, .int v3]) h (fun Q h => ct_X9_gale N r1 h1 r2 h2 v7 v3 C h) ⟨by decide, by decide⟩ rfl rfl rfl mw_X9_gale wd_264 rfl rfl ⟨Nat.le_of_ble_eq_true rfl, Nat.le_of_ble_eq_true rfl⟩ ⟨Nat.zero_le _, Nat.zero_le _⟩ (Nat.le_of_ble_eq_true rfl) rfl dX9_pass_48 (fun v8 C9 h => ?_)
          refine ab_goto (tgt := 60) dX9_pass_51 (by decide) ?_
          refine ab_sub [0, 1, 2, 3, 4] rfl ?_
          exact t_X9_pass_60 N (fun z4 c => f_X9_pass_3 N r1 r2 a3 n z4 c) r1 h1 r2 h2 a3 a4 ih C9 h
set_option maxRecDepth 8000 in
theorem t_X9_pass_0 {l : Launch} {G : GX} {X : XM} {Q : Int32 → Mem → Prop} (N : Nat) (r1 : Nat) (h1 : r1 < 4) (r2 : Nat) (h2 : r2 < 12) (a3 : Int32) (C : CM) (h : SAT (f_X9_pass N r1 r2 a3 C) (fun v c => Q v (c, X))) : AB l G (rmD 4) 0 0 mt_X9_pass (ZQ G mt_X9_pass Q) 0 [(0, .ref (gA G 8 0 0)), (1, .ref (gA G 3 r1 0)), (2, .ref (gA G 4 r2 0)), (3, .int a3)] [] (C, X) := by
  unfold f_X9_pass at h
  refine ab_iconst (v := 0) dX9_pass_0 (by decide) ?_
  refine ab_istore (lv' := [(0, .ref (gA G 8 0 0)), (1, .ref (gA G 3 r1 0)), (2, .ref (gA G 4 r2 0)), (3, .int a3), (4, .int 0)]) dX9_pass_1 rfl (Nat.le_of_ble_eq_true rfl) rfl ?_
  exact t_X9_pass_3 N r1 h1 r2 h2 a3 N 0 C h
theorem ct_X9_pass {l : Launch} {G : GX} {X : XM} {Q : Int32 → Mem → Prop} (N : Nat) (r1 : Nat) (h1 : r1 < 4) (r2 : Nat) (h2 : r2 < 12) (a3 : Int32) (C : CM) (h : SAT (f_X9_pass N r1 r2 a3 C) (fun v c => Q v (c, X))) : CT l G 4 mt_X9_pass [.ref (gA G 8 0 0), .ref (gA G 3 r1 0), .ref (gA G 4 r2 0), .int a3] (C, X) Q := ct_of pn_X9 (Nat.le_of_ble_eq_true rfl) (t_X9_pass_0 N r1 h1 r2 h2 a3 C h)
def f_X10_blow (N : Nat) (a1 : Int32) (C : CM) : Option (Int32 × CM) := (if a1 < 1 then (rt (-1) C) else (if a1 ≤ 48 then (if (C.1 4 0 0 0) < 48 then cal (f_X10_keepPast C) (fun v4 C5 => ldR (C5.2 2 0 1) 4 (fun y6 => cal (f_X9_pass N y6 0 a1 C5) (fun v8 C9 => (rt v8 C9)))) else (rt 0 C)) else (rt (-1) C)))
set_option maxRecDepth 8000 in
theorem t_X10_blow_0 {l : Launch} {G : GX} {X : XM} {Q : Int32 → Mem → Prop} (N : Nat) (a1 : Int32) (C : CM) (h : SAT (f_X10_blow N a1 C) (fun v c => Q v (c, X))) : AB l G (rmD 5) 0 0 mt_X10_blow (ZQ G mt_X10_blow Q) 0 [(0, .ref (gA G 0 0 0)), (1, .int a1)] [] (C, X) := by
  unfold f_X10_blow at h
  refine ab_iloadn 1 dX10_blow_0 rfl ?_
  refine ab_iconst (v := 1) dX10_blow_1 (by decide) ?_
  refine ab_icmp_lt (tgt := 11) dX10_blow_2 (by decide) (fun hc1 => ?_) (fun hc1 => ?_)
  · have h := sat_t hc1 h
    refine ab_iconst (v := (-1)) dX10_blow_11 (by decide) ?_
    exact fC_iret h rfl rfl dX10_blow_12
  · have h := sat_f hc1 h
    refine ab_iloadn 1 dX10_blow_5 rfl ?_
    refine ab_bipush (v := 48) dX10_blow_6 (by decide) ?_
    refine ab_icmp_le (tgt := 13) dX10_blow_8 (by decide) (fun hc2 => ?_) (fun hc2 => ?_)
    · have h := sat_t hc2 h
      refine ab_aloadn 0 dX10_blow_13 rfl ?_
      refine f_gr (x := 4) (k2 := 2) (i2 := 0) (j2 := 0) ⟨by decide, by decide⟩ rfl rfl (Nat.le_of_ble_eq_true rfl) wd_124 rfl rfl dX10_blow_14 ?_
      refine f_gr (x := 2) (k2 := 4) (i2 := 0) (j2 := 0) ⟨by decide, by decide⟩ rfl rfl (Nat.le_of_ble_eq_true rfl) wd_126 rfl rfl dX10_blow_17 ?_
      refine fC_gi (x := 0) ⟨by decide, by decide⟩ rfl rfl (Nat.le_of_ble_eq_true rfl) wd_185 (by decide) rfl dX10_blow_20 ?_
      refine ab_bipush (v := 48) dX10_blow_23 (by decide) ?_
      refine ab_icmp_lt (tgt := 30) dX10_blow_25 (by decide) (fun hc3 => ?_) (fun hc3 => ?_)
      · have h := sat_t hc3 h
        refine ab_aloadn 0 dX10_blow_30 rfl ?_
        refine fC_Vv (mtc := mt_X10_keepPast) (As := []) h (fun Q h => ct_X10_keepPast C h) ⟨by decide, by decide⟩ rfl rfl rfl mw_X10_keepPast wd_254 rfl rfl ⟨Nat.le_of_ble_eq_true rfl, Nat.le_of_ble_eq_true rfl⟩ ⟨Nat.zero_le _, Nat.zero_le _⟩ (Nat.le_of_ble_eq_true rfl) rfl dX10_blow_31 (fun v4 C5 h => ?_)
        refine ab_aloadn 0 dX10_blow_34 rfl ?_
        refine f_gr (x := 10) (k2 := 8) (i2 := 0) (j2 := 0) ⟨by decide, by decide⟩ rfl rfl (Nat.le_of_ble_eq_true rfl) wd_218 rfl rfl dX10_blow_35 ?_
        refine ab_aloadn 0 dX10_blow_38 rfl ?_
        refine f_gr (x := 4) (k2 := 2) (i2 := 0) (j2 := 0) ⟨by decide, by decide⟩ rfl rfl (Nat.le_of_ble_eq_true rfl) wd_124 rfl rfl dX10_blow_39 ?_
        refine fC_gd (x := 1) ⟨by decide, by decide⟩ rfl rfl (Nat.le_of_ble_eq_true rfl) wd_125 rfl h rfl dX10_blow_42 (fun y6 hy7 h => ?_)
        refine ab_aloadn 0 dX10_blow_45 rfl ?_
        refine f_gr (x := 4) (k2 := 2) (i2 := 0) (j2 := 0) ⟨by decide, by decide⟩ rfl rfl (Nat.le_of_ble_eq_true rfl) wd_124 rfl rfl dX10_blow_46 ?_
        refine f_gr (x := 2) (k2 := 4) (i2 := 0) (j2 := 0) ⟨by decide, by decide⟩ rfl rfl (Nat.le_of_ble_eq_true rfl) wd_126 rfl rfl dX10_blow_49 ?_
        refine ab_iloadn 1 dX10_blow_52 rfl ?_
        refine fC_Vi (mtc := mt_X9_pass) (As := [.ref (gA G 3 y6 0), .ref (gA G 4 0 0), .int a1]) h (fun Q h => ct_X9_pass N y6 hy7 0 (by decide) a1 C5 h) ⟨by decide, by decide⟩ rfl rfl rfl mw_X9_pass wd_265 rfl rfl ⟨Nat.le_of_ble_eq_true rfl, Nat.le_of_ble_eq_true rfl⟩ ⟨Nat.zero_le _, Nat.zero_le _⟩ (Nat.le_of_ble_eq_true rfl) rfl dX10_blow_53 (fun v8 C9 h => ?_)
        exact fC_iret h rfl rfl dX10_blow_56
      · have h := sat_f hc3 h
        refine ab_iconst (v := 0) dX10_blow_28 (by decide) ?_
        exact fC_iret h rfl rfl dX10_blow_29
    · have h := sat_f hc2 h
      refine ab_iconst (v := (-1)) dX10_blow_11 (by decide) ?_
      exact fC_iret h rfl rfl dX10_blow_12
theorem ct_X10_blow {l : Launch} {G : GX} {X : XM} {Q : Int32 → Mem → Prop} (N : Nat) (a1 : Int32) (C : CM) (h : SAT (f_X10_blow N a1 C) (fun v c => Q v (c, X))) : CT l G 5 mt_X10_blow [.ref (gA G 0 0 0), .int a1] (C, X) Q := ct_of pn_X10 (Nat.le_of_ble_eq_true rfl) (t_X10_blow_0 N a1 C h)
def f_X6_whyNoFence (r0 : Nat) (a1 : Int32) (C : CM) : Option (Int32 × CM) := (if a1 < 0 then (rt 1 C) else (if 100 ≤ a1 then (rt 1 C) else ldA (C.1 4 r0 8) 100 a1 (fun v3 => (if v3 = 0 then (if (C.1 4 r0 0 2) < 12 then (rt 0 C) else (rt 2 C)) else (rt 1 C)))))
set_option maxRecDepth 8000 in
theorem t_X6_whyNoFence_0 {l : Launch} {G : GX} {X : XM} {Q : Int32 → Mem → Prop} (r0 : Nat) (h0 : r0 < 12) (a1 : Int32) (C : CM) (h : SAT (f_X6_whyNoFence r0 a1 C) (fun v c => Q v (c, X))) : AB l G (rmD 1) 0 0 mt_X6_whyNoFence (ZQ G mt_X6_whyNoFence Q) 0 [(0, .ref (gA G 4 r0 0)), (1, .int a1)] [] (C, X) := by
  unfold f_X6_whyNoFence at h
  refine ab_iloadn 1 dX6_whyNoFence_0 rfl ?_
  refine ab_if_lt (tgt := 19) dX6_whyNoFence_1 (by decide) (fun hc1 => ?_) (fun hc1 => ?_)
  · have h := sat_t hc1 h
    refine ab_iconst (v := 1) dX6_whyNoFence_19 (by decide) ?_
    exact fC_iret h rfl rfl dX6_whyNoFence_20
  · have h := sat_f hc1 h
    refine ab_iloadn 1 dX6_whyNoFence_4 rfl ?_
    refine ab_bipush (v := 100) dX6_whyNoFence_5 (by decide) ?_
    refine ab_icmp_ge (tgt := 19) dX6_whyNoFence_7 (by decide) (fun hc2 => ?_) (fun hc2 => ?_)
    · have h := sat_t hc2 h
      refine ab_iconst (v := 1) dX6_whyNoFence_19 (by decide) ?_
      exact fC_iret h rfl rfl dX6_whyNoFence_20
    · have h := sat_f hc2 h
      refine ab_aloadn 0 dX6_whyNoFence_10 rfl ?_
      refine f_gr (x := 13) (k2 := 4) (i2 := r0) (j2 := 8) ⟨h0, by decide⟩ rfl rfl (Nat.le_of_ble_eq_true rfl) wd_136 rfl rfl dX6_whyNoFence_11 ?_
      refine ab_iloadn 1 dX6_whyNoFence_14 rfl ?_
      refine fC_iald ⟨h0, by decide⟩ rfl (by decide) (fun _ => rfl) h dX6_whyNoFence_15 (fun v3 h => ?_)
      refine ab_if_eq (tgt := 21) dX6_whyNoFence_16 (by decide) (fun hc4 => ?_) (fun hc4 => ?_)
      · have h := sat_t hc4 h
        refine ab_aloadn 0 dX6_whyNoFence_21 rfl ?_
        refine fC_gi (x := 2) ⟨h0, by decide⟩ rfl rfl (Nat.le_of_ble_eq_true rfl) wd_130 (by decide) rfl dX6_whyNoFence_22 ?_
        refine ab_bipush (v := 12) dX6_whyNoFence_25 (by decide) ?_
        refine ab_icmp_lt (tgt := 34) dX6_whyNoFence_27 (by decide) (fun hc5 => ?_) (fun hc5 => ?_)
        · have h := sat_t hc5 h
          refine ab_iconst (v := 0) dX6_whyNoFence_34 (by decide) ?_
          exact fC_iret h rfl rfl dX6_whyNoFence_35
        · have h := sat_f hc5 h
          refine ab_iconst (v := 2) dX6_whyNoFence_30 (by decide) ?_
          refine ab_goto (tgt := 35) dX6_whyNoFence_31 (by decide) ?_
          exact fC_iret h rfl rfl dX6_whyNoFence_35
      · have h := sat_f hc4 h
        refine ab_iconst (v := 1) dX6_whyNoFence_19 (by decide) ?_
        exact fC_iret h rfl rfl dX6_whyNoFence_20
theorem ct_X6_whyNoFence {l : Launch} {G : GX} {X : XM} {Q : Int32 → Mem → Prop} (r0 : Nat) (h0 : r0 < 12) (a1 : Int32) (C : CM) (h : SAT (f_X6_whyNoFence r0 a1 C) (fun v c => Q v (c, X))) : CT l G 1 mt_X6_whyNoFence [.ref (gA G 4 r0 0), .int a1] (C, X) Q := ct_of pn_X6 (Nat.le_of_ble_eq_true rfl) (t_X6_whyNoFence_0 r0 h0 a1 C h)
def f_X6_putFence (r0 : Nat) (a1 : Int32) (C : CM) : Option (Int32 × CM) := (if a1 < 0 then (rt 0 C) else (if 100 ≤ a1 then (rt 0 C) else stA C 4 r0 8 100 a1 48 (fun C3 => bnd (stC C3 4 r0 0 2 ((C3.1 4 r0 0 2) + 1)) (fun C4 => (rt 0 C4)))))
set_option maxRecDepth 8000 in
theorem t_X6_putFence_0 {l : Launch} {G : GX} {X : XM} {Q : Int32 → Mem → Prop} (r0 : Nat) (h0 : r0 < 12) (a1 : Int32) (C : CM) (h : SAT (f_X6_putFence r0 a1 C) (fun v c => Q v (c, X))) : AB l G (rmD 1) 0 0 mt_X6_putFence (ZQ G mt_X6_putFence Q) 0 [(0, .ref (gA G 4 r0 0)), (1, .int a1)] [] (C, X) := by
  unfold f_X6_putFence at h
  refine ab_iloadn 1 dX6_putFence_0 rfl ?_
  refine ab_if_lt (tgt := 28) dX6_putFence_1 (by decide) (fun hc1 => ?_) (fun hc1 => ?_)
  · have h := sat_t hc1 h
    exact fC_vret h rfl dX6_putFence_28
  · have h := sat_f hc1 h
    refine ab_iloadn 1 dX6_putFence_4 rfl ?_
    refine ab_bipush (v := 100) dX6_putFence_5 (by decide) ?_
    refine ab_icmp_ge (tgt := 28) dX6_putFence_7 (by decide) (fun hc2 => ?_) (fun hc2 => ?_)
    · have h := sat_t hc2 h
      exact fC_vret h rfl dX6_putFence_28
    · have h := sat_f hc2 h
      refine ab_aloadn 0 dX6_putFence_10 rfl ?_
      refine f_gr (x := 13) (k2 := 4) (i2 := r0) (j2 := 8) ⟨h0, by decide⟩ rfl rfl (Nat.le_of_ble_eq_true rfl) wd_136 rfl rfl dX6_putFence_11 ?_
      refine ab_iloadn 1 dX6_putFence_14 rfl ?_
      refine ab_bipush (v := 48) dX6_putFence_15 (by decide) ?_
      refine fC_iast ⟨h0, by decide⟩ rfl (by decide) (fun _ => rfl) h dX6_putFence_17 (fun C3 h => ?_)
      refine ab_aloadn 0 dX6_putFence_18 rfl ?_
      refine ab_dup dX6_putFence_19 rfl ?_
      refine fC_gi (x := 2) ⟨h0, by decide⟩ rfl rfl (Nat.le_of_ble_eq_true rfl) wd_130 (by decide) rfl dX6_putFence_20 ?_
      refine ab_iconst (v := 1) dX6_putFence_23 (by decide) ?_
      refine ab_iadd dX6_putFence_24 ?_
      refine fC_pi (x := 2) (ty := .int) ⟨h0, by decide⟩ rfl rfl (Nat.le_of_ble_eq_true rfl) wd_130 (by decide) rfl h rfl (by decide +kernel) rfl rfl dX6_putFence_25 (fun C4 h => ?_)
      exact fC_vret h rfl dX6_putFence_28
theorem ct_X6_putFence {l : Launch} {G : GX} {X : XM} {Q : Int32 → Mem → Prop} (r0 : Nat) (h0 : r0 < 12) (a1 : Int32) (C : CM) (h : SAT (f_X6_putFence r0 a1 C) (fun v c => Q v (c, X))) : CT l G 1 mt_X6_putFence [.ref (gA G 4 r0 0), .int a1] (C, X) Q := ct_of pn_X6 (Nat.le_of_ble_eq_true rfl) (t_X6_putFence_0 r0 h0 a1 C h)
def f_X10_set_47 (a2 : Int32) (C : CM) : Option (Int32 × CM) := (rt a2 C)
def f_X10_set (a1 : Int32) (C : CM) : Option (Int32 × CM) := ldR (C.2 2 0 1) 4 (fun y1 => cal (f_X0_isCell y1 a1 C) (fun v3 C4 => (if v3 = 0 then (rt (-1) C4) else cal (f_X6_whyNoFence 0 a1 C4) (fun v6 C7 => (if v6 = 0 then cal (f_X10_keepPast C7) (fun v9 C10 => cal (f_X6_putFence 0 a1 C10) (fun v11 C12 => (f_X10_set_47 v6 C12))) else (f_X10_set_47 v6 C7))))))
set_option maxRecDepth 8000 in
theorem t_X10_set_47 {l : Launch} {G : GX} {X : XM} {Q : Int32 → Mem → Prop} (a2 : Int32) (C : CM) (h : SAT (f_X10_set_47 a2 C) (fun v c => Q v (c, X))) : AB l G (rmD 4) 0 0 mt_X10_set (ZQ G mt_X10_set Q) 47 [(2, .int a2)] [] (C, X) := by
  unfold f_X10_set_47 at h
  refine ab_iloadn 0 dX10_set_47 rfl ?_
  exact fC_iret h rfl rfl dX10_set_48
set_option maxRecDepth 8000 in
theorem t_X10_set_0 {l : Launch} {G : GX} {X : XM} {Q : Int32 → Mem → Prop} (a1 : Int32) (C : CM) (h : SAT (f_X10_set a1 C) (fun v c => Q v (c, X))) : AB l G (rmD 4) 0 0 mt_X10_set (ZQ G mt_X10_set Q) 0 [(0, .ref (gA G 0 0 0)), (1, .int a1)] [] (C, X) := by
  unfold f_X10_set at h
  refine ab_aloadn 0 dX10_set_0 rfl ?_
  refine f_gr (x := 4) (k2 := 2) (i2 := 0) (j2 := 0) ⟨by decide, by decide⟩ rfl rfl (Nat.le_of_ble_eq_true rfl) wd_124 rfl rfl dX10_set_1 ?_
  refine fC_gd (x := 1) ⟨by decide, by decide⟩ rfl rfl (Nat.le_of_ble_eq_true rfl) wd_125 rfl h rfl dX10_set_4 (fun y1 hy2 h => ?_)
  refine ab_iloadn 1 dX10_set_7 rfl ?_
  refine fC_Vi (mtc := mt_X0_isCell) (As := [.int a1]) h (fun Q h => ct_X0_isCell y1 hy2 a1 C h) ⟨hy2, by decide⟩ rfl rfl rfl mw_X0_isCell wd_208 rfl rfl ⟨Nat.le_of_ble_eq_true rfl, Nat.le_of_ble_eq_true rfl⟩ ⟨Nat.zero_le _, Nat.zero_le _⟩ (Nat.le_of_ble_eq_true rfl) rfl dX10_set_8 (fun v3 C4 h => ?_)
  refine ab_if_ne (tgt := 16) dX10_set_11 (by decide) (fun hc5 => ?_) (fun hc5 => ?_)
  · have h := sat_f hc5 h
    refine ab_aloadn 0 dX10_set_16 rfl ?_
    refine f_gr (x := 4) (k2 := 2) (i2 := 0) (j2 := 0) ⟨by decide, by decide⟩ rfl rfl (Nat.le_of_ble_eq_true rfl) wd_124 rfl rfl dX10_set_17 ?_
    refine f_gr (x := 2) (k2 := 4) (i2 := 0) (j2 := 0) ⟨by decide, by decide⟩ rfl rfl (Nat.le_of_ble_eq_true rfl) wd_126 rfl rfl dX10_set_20 ?_
    refine ab_iloadn 1 dX10_set_23 rfl ?_
    refine fC_Vi (mtc := mt_X6_whyNoFence) (As := [.int a1]) h (fun Q h => ct_X6_whyNoFence 0 (by decide) a1 C4 h) ⟨by decide, by decide⟩ rfl rfl rfl mw_X6_whyNoFence wd_266 rfl rfl ⟨Nat.le_of_ble_eq_true rfl, Nat.le_of_ble_eq_true rfl⟩ ⟨Nat.zero_le _, Nat.zero_le _⟩ (Nat.le_of_ble_eq_true rfl) rfl dX10_set_24 (fun v6 C7 h => ?_)
    refine ab_istoren (lv' := [(0, .ref (gA G 0 0 0)), (1, .int a1), (2, .int v6)]) dX10_set_27 rfl (Nat.le_of_ble_eq_true rfl) rfl ?_
    refine ab_iloadn 2 dX10_set_28 rfl ?_
    refine ab_if_ne (tgt := 47) dX10_set_29 (by decide) (fun hc8 => ?_) (fun hc8 => ?_)
    · have h := sat_f hc8 h
      refine ab_sub [2] rfl ?_
      exact t_X10_set_47 v6 C7 h
    · have h := sat_t hc8 h
      refine ab_aloadn 0 dX10_set_32 rfl ?_
      refine fC_Vv (mtc := mt_X10_keepPast) (As := []) h (fun Q h => ct_X10_keepPast C7 h) ⟨by decide, by decide⟩ rfl rfl rfl mw_X10_keepPast wd_254 rfl rfl ⟨Nat.le_of_ble_eq_true rfl, Nat.le_of_ble_eq_true rfl⟩ ⟨Nat.zero_le _, Nat.zero_le _⟩ (Nat.le_of_ble_eq_true rfl) rfl dX10_set_33 (fun v9 C10 h => ?_)
      refine ab_aloadn 0 dX10_set_36 rfl ?_
      refine f_gr (x := 4) (k2 := 2) (i2 := 0) (j2 := 0) ⟨by decide, by decide⟩ rfl rfl (Nat.le_of_ble_eq_true rfl) wd_124 rfl rfl dX10_set_37 ?_
      refine f_gr (x := 2) (k2 := 4) (i2 := 0) (j2 := 0) ⟨by decide, by decide⟩ rfl rfl (Nat.le_of_ble_eq_true rfl) wd_126 rfl rfl dX10_set_40 ?_
      refine ab_iloadn 1 dX10_set_43 rfl ?_
      refine fC_Vv (mtc := mt_X6_putFence) (As := [.int a1]) h (fun Q h => ct_X6_putFence 0 (by decide) a1 C10 h) ⟨by decide, by decide⟩ rfl rfl rfl mw_X6_putFence wd_267 rfl rfl ⟨Nat.le_of_ble_eq_true rfl, Nat.le_of_ble_eq_true rfl⟩ ⟨Nat.zero_le _, Nat.zero_le _⟩ (Nat.le_of_ble_eq_true rfl) rfl dX10_set_44 (fun v11 C12 h => ?_)
      refine ab_sub [2] rfl ?_
      exact t_X10_set_47 v6 C12 h
  · have h := sat_t hc5 h
    refine ab_iconst (v := (-1)) dX10_set_14 (by decide) ?_
    exact fC_iret h rfl rfl dX10_set_15
theorem ct_X10_set {l : Launch} {G : GX} {X : XM} {Q : Int32 → Mem → Prop} (a1 : Int32) (C : CM) (h : SAT (f_X10_set a1 C) (fun v c => Q v (c, X))) : CT l G 4 mt_X10_set [.ref (gA G 0 0 0), .int a1] (C, X) Q := ct_of pn_X10 (Nat.le_of_ble_eq_true rfl) (t_X10_set_0 a1 C h)
def f_X6_whyNoFelling_21 (C : CM) : Option (Int32 × CM) := (rt 3 C)
def f_X6_whyNoFelling (r0 : Nat) (a1 : Int32) (C : CM) : Option (Int32 × CM) := (if a1 < 0 then (f_X6_whyNoFelling_21 C) else (if 12 ≤ a1 then (f_X6_whyNoFelling_21 C) else (if (((C.1 4 r0 0 3) >>> (a1 &&& 31)) &&& 1) = 0 then (f_X6_whyNoFelling_21 C) else (rt 0 C))))
set_option maxRecDepth 8000 in
theorem t_X6_whyNoFelling_21 {l : Launch} {G : GX} {X : XM} {Q : Int32 → Mem → Prop} (C : CM) (h : SAT (f_X6_whyNoFelling_21 C) (fun v c => Q v (c, X))) : AB l G (rmD 1) 0 0 mt_X6_whyNoFelling (ZQ G mt_X6_whyNoFelling Q) 21 [] [] (C, X) := by
  unfold f_X6_whyNoFelling_21 at h
  refine ab_iconst (v := 3) dX6_whyNoFelling_21 (by decide) ?_
  refine ab_goto (tgt := 26) dX6_whyNoFelling_22 (by decide) ?_
  exact fC_iret h rfl rfl dX6_whyNoFelling_26
set_option maxRecDepth 8000 in
theorem t_X6_whyNoFelling_0 {l : Launch} {G : GX} {X : XM} {Q : Int32 → Mem → Prop} (r0 : Nat) (h0 : r0 < 12) (a1 : Int32) (C : CM) (h : SAT (f_X6_whyNoFelling r0 a1 C) (fun v c => Q v (c, X))) : AB l G (rmD 1) 0 0 mt_X6_whyNoFelling (ZQ G mt_X6_whyNoFelling Q) 0 [(0, .ref (gA G 4 r0 0)), (1, .int a1)] [] (C, X) := by
  unfold f_X6_whyNoFelling at h
  refine ab_iloadn 1 dX6_whyNoFelling_0 rfl ?_
  refine ab_if_lt (tgt := 21) dX6_whyNoFelling_1 (by decide) (fun hc1 => ?_) (fun hc1 => ?_)
  · have h := sat_t hc1 h
    refine ab_sub [] rfl ?_
    exact t_X6_whyNoFelling_21 C h
  · have h := sat_f hc1 h
    refine ab_iloadn 1 dX6_whyNoFelling_4 rfl ?_
    refine ab_bipush (v := 12) dX6_whyNoFelling_5 (by decide) ?_
    refine ab_icmp_ge (tgt := 21) dX6_whyNoFelling_7 (by decide) (fun hc2 => ?_) (fun hc2 => ?_)
    · have h := sat_t hc2 h
      refine ab_sub [] rfl ?_
      exact t_X6_whyNoFelling_21 C h
    · have h := sat_f hc2 h
      refine ab_aloadn 0 dX6_whyNoFelling_10 rfl ?_
      refine fC_gi (x := 3) ⟨h0, by decide⟩ rfl rfl (Nat.le_of_ble_eq_true rfl) wd_132 (by decide) rfl dX6_whyNoFelling_11 ?_
      refine ab_iloadn 1 dX6_whyNoFelling_14 rfl ?_
      refine ab_ishr dX6_whyNoFelling_15 ?_
      refine ab_iconst (v := 1) dX6_whyNoFelling_16 (by decide) ?_
      refine ab_iand dX6_whyNoFelling_17 ?_
      refine ab_if_ne (tgt := 25) dX6_whyNoFelling_18 (by decide) (fun hc3 => ?_) (fun hc3 => ?_)
      · have h := sat_f hc3 h
        refine ab_iconst (v := 0) dX6_whyNoFelling_25 (by decide) ?_
        exact fC_iret h rfl rfl dX6_whyNoFelling_26
      · have h := sat_t hc3 h
        refine ab_sub [] rfl ?_
        exact t_X6_whyNoFelling_21 C h
theorem ct_X6_whyNoFelling {l : Launch} {G : GX} {X : XM} {Q : Int32 → Mem → Prop} (r0 : Nat) (h0 : r0 < 12) (a1 : Int32) (C : CM) (h : SAT (f_X6_whyNoFelling r0 a1 C) (fun v c => Q v (c, X))) : CT l G 1 mt_X6_whyNoFelling [.ref (gA G 4 r0 0), .int a1] (C, X) Q := ct_of pn_X6 (Nat.le_of_ble_eq_true rfl) (t_X6_whyNoFelling_0 r0 h0 a1 C h)
def f_X6_takeTree_20 (r0 : Nat) (a2 : Int32) (as0 : Int32) (C : CM) : Option (Int32 × CM) := (if as0 < 0 then (rt 0 C) else (if 100 ≤ as0 then (rt 0 C) else stA C 4 r0 8 100 as0 0 (fun C3 => bnd (stC C3 4 r0 0 3 ((C3.1 4 r0 0 3) &&& (((1 : Int32) <<< (a2 &&& 31)) ^^^ (-1)))) (fun C4 => (rt 0 C4)))))
def f_X6_takeTree_19 (r0 : Nat) (a2 : Int32) (C : CM) : Option (Int32 × CM) := (f_X6_takeTree_20 r0 a2 (-1) C)
def f_X6_takeTree (r0 : Nat) (r1 : Nat) (a2 : Int32) (C : CM) : Option (Int32 × CM) := (if a2 < 0 then (f_X6_takeTree_19 r0 a2 C) else (if 12 ≤ a2 then (f_X6_takeTree_19 r0 a2 C) else ldA (C.1 3 r1 3) 12 a2 (fun v3 => (f_X6_takeTree_20 r0 a2 v3 C))))
set_option maxRecDepth 8000 in
theorem t_X6_takeTree_20 {l : Launch} {G : GX} {X : XM} {Q : Int32 → Mem → Prop} (r0 : Nat) (h0 : r0 < 12) (a2 : Int32) (as0 : Int32) (C : CM) (h : SAT (f_X6_takeTree_20 r0 a2 as0 C) (fun v c => Q v (c, X))) : AB l G (rmD 1) 0 0 mt_X6_takeTree (ZQ G mt_X6_takeTree Q) 20 [(0, .ref (gA G 4 r0 0)), (2, .int a2)] [.int as0] (C, X) := by
  unfold f_X6_takeTree_20 at h
  refine ab_istoren (lv' := [(0, .ref (gA G 4 r0 0)), (2, .int a2), (3, .int as0)]) dX6_takeTree_20 rfl (Nat.le_of_ble_eq_true rfl) rfl ?_
  refine ab_iloadn 2 dX6_takeTree_21 rfl ?_
  refine ab_if_lt (tgt := 52) dX6_takeTree_22 (by decide) (fun hc1 => ?_) (fun hc1 => ?_)
  · have h := sat_t hc1 h
    exact fC_vret h rfl dX6_takeTree_52
  · have h := sat_f hc1 h
    refine ab_iloadn 2 dX6_takeTree_25 rfl ?_
    refine ab_bipush (v := 100) dX6_takeTree_26 (by decide) ?_
    refine ab_icmp_ge (tgt := 52) dX6_takeTree_28 (by decide) (fun hc2 => ?_) (fun hc2 => ?_)
    · have h := sat_t hc2 h
      exact fC_vret h rfl dX6_takeTree_52
    · have h := sat_f hc2 h
      refine ab_aloadn 0 dX6_takeTree_31 rfl ?_
      refine f_gr (x := 13) (k2 := 4) (i2 := r0) (j2 := 8) ⟨h0, by decide⟩ rfl rfl (Nat.le_of_ble_eq_true rfl) wd_136 rfl rfl dX6_takeTree_32 ?_
      refine ab_iloadn 2 dX6_takeTree_35 rfl ?_
      refine ab_iconst (v := 0) dX6_takeTree_36 (by decide) ?_
      refine fC_iast ⟨h0, by decide⟩ rfl (by decide) (fun _ => rfl) h dX6_takeTree_37 (fun C3 h => ?_)
      refine ab_aloadn 0 dX6_takeTree_38 rfl ?_
      refine ab_dup dX6_takeTree_39 rfl ?_
      refine fC_gi (x := 3) ⟨h0, by decide⟩ rfl rfl (Nat.le_of_ble_eq_true rfl) wd_132 (by decide) rfl dX6_takeTree_40 ?_
      refine ab_iconst (v := 1) dX6_takeTree_43 (by decide) ?_
      refine ab_iloadn 1 dX6_takeTree_44 rfl ?_
      refine ab_ishl dX6_takeTree_45 ?_
      refine ab_iconst (v := (-1)) dX6_takeTree_46 (by decide) ?_
      refine ab_ixor dX6_takeTree_47 ?_
      refine ab_iand dX6_takeTree_48 ?_
      refine fC_pi (x := 3) (ty := .int) ⟨h0, by decide⟩ rfl rfl (Nat.le_of_ble_eq_true rfl) wd_132 (by decide) rfl h rfl (by decide +kernel) rfl rfl dX6_takeTree_49 (fun C4 h => ?_)
      exact fC_vret h rfl dX6_takeTree_52
set_option maxRecDepth 8000 in
theorem t_X6_takeTree_19 {l : Launch} {G : GX} {X : XM} {Q : Int32 → Mem → Prop} (r0 : Nat) (h0 : r0 < 12) (a2 : Int32) (C : CM) (h : SAT (f_X6_takeTree_19 r0 a2 C) (fun v c => Q v (c, X))) : AB l G (rmD 1) 0 0 mt_X6_takeTree (ZQ G mt_X6_takeTree Q) 19 [(0, .ref (gA G 4 r0 0)), (2, .int a2)] [] (C, X) := by
  unfold f_X6_takeTree_19 at h
  refine ab_iconst (v := (-1)) dX6_takeTree_19 (by decide) ?_
  exact t_X6_takeTree_20 r0 h0 a2 (-1) C h
set_option maxRecDepth 8000 in
theorem t_X6_takeTree_0 {l : Launch} {G : GX} {X : XM} {Q : Int32 → Mem → Prop} (r0 : Nat) (h0 : r0 < 12) (r1 : Nat) (h1 : r1 < 4) (a2 : Int32) (C : CM) (h : SAT (f_X6_takeTree r0 r1 a2 C) (fun v c => Q v (c, X))) : AB l G (rmD 1) 0 0 mt_X6_takeTree (ZQ G mt_X6_takeTree Q) 0 [(0, .ref (gA G 4 r0 0)), (1, .ref (gA G 3 r1 0)), (2, .int a2)] [] (C, X) := by
  unfold f_X6_takeTree at h
  refine ab_iloadn 2 dX6_takeTree_0 rfl ?_
  refine ab_if_lt (tgt := 19) dX6_takeTree_1 (by decide) (fun hc1 => ?_) (fun hc1 => ?_)
  · have h := sat_t hc1 h
    refine ab_sub [0, 2] rfl ?_
    exact t_X6_takeTree_19 r0 h0 a2 C h
  · have h := sat_f hc1 h
    refine ab_iloadn 2 dX6_takeTree_4 rfl ?_
    refine ab_bipush (v := 12) dX6_takeTree_5 (by decide) ?_
    refine ab_icmp_ge (tgt := 19) dX6_takeTree_7 (by decide) (fun hc2 => ?_) (fun hc2 => ?_)
    · have h := sat_t hc2 h
      refine ab_sub [0, 2] rfl ?_
      exact t_X6_takeTree_19 r0 h0 a2 C h
    · have h := sat_f hc2 h
      refine ab_aloadn 1 dX6_takeTree_10 rfl ?_
      refine f_gr (x := 13) (k2 := 3) (i2 := r1) (j2 := 3) ⟨h1, by decide⟩ rfl rfl (Nat.le_of_ble_eq_true rfl) wd_269 rfl rfl dX6_takeTree_11 ?_
      refine ab_iloadn 2 dX6_takeTree_14 rfl ?_
      refine fC_iald ⟨h1, by decide⟩ rfl (by decide) (fun _ => rfl) h dX6_takeTree_15 (fun v3 h => ?_)
      refine ab_goto (tgt := 20) dX6_takeTree_16 (by decide) ?_
      refine ab_sub [0, 2] rfl ?_
      exact t_X6_takeTree_20 r0 h0 a2 v3 C h
theorem ct_X6_takeTree {l : Launch} {G : GX} {X : XM} {Q : Int32 → Mem → Prop} (r0 : Nat) (h0 : r0 < 12) (r1 : Nat) (h1 : r1 < 4) (a2 : Int32) (C : CM) (h : SAT (f_X6_takeTree r0 r1 a2 C) (fun v c => Q v (c, X))) : CT l G 1 mt_X6_takeTree [.ref (gA G 4 r0 0), .ref (gA G 3 r1 0), .int a2] (C, X) Q := ct_of pn_X6 (Nat.le_of_ble_eq_true rfl) (t_X6_takeTree_0 r0 h0 r1 h1 a2 C h)
def f_X10_fell_38 (a2 : Int32) (C : CM) : Option (Int32 × CM) := (rt a2 C)
def f_X10_fell (a1 : Int32) (C : CM) : Option (Int32 × CM) := cal (f_X6_whyNoFelling 0 a1 C) (fun v1 C2 => (if v1 = 0 then cal (f_X10_keepPast C2) (fun v4 C5 => ldR (C5.2 2 0 1) 4 (fun y6 => cal (f_X6_takeTree 0 y6 a1 C5) (fun v8 C9 => (f_X10_fell_38 v1 C9)))) else (f_X10_fell_38 v1 C2)))
set_option maxRecDepth 8000 in
theorem t_X10_fell_38 {l : Launch} {G : GX} {X : XM} {Q : Int32 → Mem → Prop} (a2 : Int32) (C : CM) (h : SAT (f_X10_fell_38 a2 C) (fun v c => Q v (c, X))) : AB l G (rmD 4) 0 0 mt_X10_fell (ZQ G mt_X10_fell Q) 38 [(2, .int a2)] [] (C, X) := by
  unfold f_X10_fell_38 at h
  refine ab_iloadn 0 dX10_fell_38 rfl ?_
  exact fC_iret h rfl rfl dX10_fell_39
set_option maxRecDepth 8000 in
theorem t_X10_fell_0 {l : Launch} {G : GX} {X : XM} {Q : Int32 → Mem → Prop} (a1 : Int32) (C : CM) (h : SAT (f_X10_fell a1 C) (fun v c => Q v (c, X))) : AB l G (rmD 4) 0 0 mt_X10_fell (ZQ G mt_X10_fell Q) 0 [(0, .ref (gA G 0 0 0)), (1, .int a1)] [] (C, X) := by
  unfold f_X10_fell at h
  refine ab_aloadn 0 dX10_fell_0 rfl ?_
  refine f_gr (x := 4) (k2 := 2) (i2 := 0) (j2 := 0) ⟨by decide, by decide⟩ rfl rfl (Nat.le_of_ble_eq_true rfl) wd_124 rfl rfl dX10_fell_1 ?_
  refine f_gr (x := 2) (k2 := 4) (i2 := 0) (j2 := 0) ⟨by decide, by decide⟩ rfl rfl (Nat.le_of_ble_eq_true rfl) wd_126 rfl rfl dX10_fell_4 ?_
  refine ab_iloadn 1 dX10_fell_7 rfl ?_
  refine fC_Vi (mtc := mt_X6_whyNoFelling) (As := [.int a1]) h (fun Q h => ct_X6_whyNoFelling 0 (by decide) a1 C h) ⟨by decide, by decide⟩ rfl rfl rfl mw_X6_whyNoFelling wd_268 rfl rfl ⟨Nat.le_of_ble_eq_true rfl, Nat.le_of_ble_eq_true rfl⟩ ⟨Nat.zero_le _, Nat.zero_le _⟩ (Nat.le_of_ble_eq_true rfl) rfl dX10_fell_8 (fun v1 C2 h => ?_)
  refine ab_istoren (lv' := [(0, .ref (gA G 0 0 0)), (1, .int a1), (2, .int v1)]) dX10_fell_11 rfl (Nat.le_of_ble_eq_true rfl) rfl ?_
  refine ab_iloadn 2 dX10_fell_12 rfl ?_
  refine ab_if_ne (tgt := 38) dX10_fell_13 (by decide) (fun hc3 => ?_) (fun hc3 => ?_)
  · have h := sat_f hc3 h
    refine ab_sub [2] rfl ?_
    exact t_X10_fell_38 v1 C2 h
  · have h := sat_t hc3 h
    refine ab_aloadn 0 dX10_fell_16 rfl ?_
    refine fC_Vv (mtc := mt_X10_keepPast) (As := []) h (fun Q h => ct_X10_keepPast C2 h) ⟨by decide, by decide⟩ rfl rfl rfl mw_X10_keepPast wd_254 rfl rfl ⟨Nat.le_of_ble_eq_true rfl, Nat.le_of_ble_eq_true rfl⟩ ⟨Nat.zero_le _, Nat.zero_le _⟩ (Nat.le_of_ble_eq_true rfl) rfl dX10_fell_17 (fun v4 C5 h => ?_)
    refine ab_aloadn 0 dX10_fell_20 rfl ?_
    refine f_gr (x := 4) (k2 := 2) (i2 := 0) (j2 := 0) ⟨by decide, by decide⟩ rfl rfl (Nat.le_of_ble_eq_true rfl) wd_124 rfl rfl dX10_fell_21 ?_
    refine f_gr (x := 2) (k2 := 4) (i2 := 0) (j2 := 0) ⟨by decide, by decide⟩ rfl rfl (Nat.le_of_ble_eq_true rfl) wd_126 rfl rfl dX10_fell_24 ?_
    refine ab_aloadn 0 dX10_fell_27 rfl ?_
    refine f_gr (x := 4) (k2 := 2) (i2 := 0) (j2 := 0) ⟨by decide, by decide⟩ rfl rfl (Nat.le_of_ble_eq_true rfl) wd_124 rfl rfl dX10_fell_28 ?_
    refine fC_gd (x := 1) ⟨by decide, by decide⟩ rfl rfl (Nat.le_of_ble_eq_true rfl) wd_125 rfl h rfl dX10_fell_31 (fun y6 hy7 h => ?_)
    refine ab_iloadn 1 dX10_fell_34 rfl ?_
    refine fC_Vv (mtc := mt_X6_takeTree) (As := [.ref (gA G 3 y6 0), .int a1]) h (fun Q h => ct_X6_takeTree 0 (by decide) y6 hy7 a1 C5 h) ⟨by decide, by decide⟩ rfl rfl rfl mw_X6_takeTree wd_270 rfl rfl ⟨Nat.le_of_ble_eq_true rfl, Nat.le_of_ble_eq_true rfl⟩ ⟨Nat.zero_le _, Nat.zero_le _⟩ (Nat.le_of_ble_eq_true rfl) rfl dX10_fell_35 (fun v8 C9 h => ?_)
    refine ab_sub [2] rfl ?_
    exact t_X10_fell_38 v1 C9 h
theorem ct_X10_fell {l : Launch} {G : GX} {X : XM} {Q : Int32 → Mem → Prop} (a1 : Int32) (C : CM) (h : SAT (f_X10_fell a1 C) (fun v c => Q v (c, X))) : CT l G 4 mt_X10_fell [.ref (gA G 0 0 0), .int a1] (C, X) Q := ct_of pn_X10 (Nat.le_of_ble_eq_true rfl) (t_X10_fell_0 a1 C h)
def f_X6_oilVane (r0 : Nat) (a1 : Int32) (C : CM) : Option (Int32 × CM) := (if a1 < 0 then (rt 0 C) else (if 8 ≤ a1 then (rt 0 C) else stA C 4 r0 5 8 a1 0 (fun C3 => stA C3 4 r0 3 8 a1 0 (fun C4 => (rt 0 C4)))))
set_option maxRecDepth 8000 in
theorem t_X6_oilVane_0 {l : Launch} {G : GX} {X : XM} {Q : Int32 → Mem → Prop} (r0 : Nat) (h0 : r0 < 12) (a1 : Int32) (C : CM) (h : SAT (f_X6_oilVane r0 a1 C) (fun v c => Q v (c, X))) : AB l G (rmD 1) 0 0 mt_X6_oilVane (ZQ G mt_X6_oilVane Q) 0 [(0, .ref (gA G 4 r0 0)), (1, .int a1)] [] (C, X) := by
  unfold f_X6_oilVane at h
  refine ab_iloadn 1 dX6_oilVane_0 rfl ?_
  refine ab_if_lt (tgt := 24) dX6_oilVane_1 (by decide) (fun hc1 => ?_) (fun hc1 => ?_)
  · have h := sat_t hc1 h
    exact fC_vret h rfl dX6_oilVane_24
  · have h := sat_f hc1 h
    refine ab_iloadn 1 dX6_oilVane_4 rfl ?_
    refine ab_bipush (v := 8) dX6_oilVane_5 (by decide) ?_
    refine ab_icmp_ge (tgt := 24) dX6_oilVane_7 (by decide) (fun hc2 => ?_) (fun hc2 => ?_)
    · have h := sat_t hc2 h
      exact fC_vret h rfl dX6_oilVane_24
    · have h := sat_f hc2 h
      refine ab_aloadn 0 dX6_oilVane_10 rfl ?_
      refine f_gr (x := 10) (k2 := 4) (i2 := r0) (j2 := 5) ⟨h0, by decide⟩ rfl rfl (Nat.le_of_ble_eq_true rfl) wd_149 rfl rfl dX6_oilVane_11 ?_
      refine ab_iloadn 1 dX6_oilVane_14 rfl ?_
      refine ab_iconst (v := 0) dX6_oilVane_15 (by decide) ?_
      refine fC_iast ⟨h0, by decide⟩ rfl (by decide) (fun _ => rfl) h dX6_oilVane_16 (fun C3 h => ?_)
      refine ab_aloadn 0 dX6_oilVane_17 rfl ?_
      refine f_gr (x := 8) (k2 := 4) (i2 := r0) (j2 := 3) ⟨h0, by decide⟩ rfl rfl (Nat.le_of_ble_eq_true rfl) wd_145 rfl rfl dX6_oilVane_18 ?_
      refine ab_iloadn 1 dX6_oilVane_21 rfl ?_
      refine ab_iconst (v := 0) dX6_oilVane_22 (by decide) ?_
      refine fC_iast ⟨h0, by decide⟩ rfl (by decide) (fun _ => rfl) h dX6_oilVane_23 (fun C4 h => ?_)
      exact fC_vret h rfl dX6_oilVane_24
theorem ct_X6_oilVane {l : Launch} {G : GX} {X : XM} {Q : Int32 → Mem → Prop} (r0 : Nat) (h0 : r0 < 12) (a1 : Int32) (C : CM) (h : SAT (f_X6_oilVane r0 a1 C) (fun v c => Q v (c, X))) : CT l G 1 mt_X6_oilVane [.ref (gA G 4 r0 0), .int a1] (C, X) Q := ct_of pn_X6 (Nat.le_of_ble_eq_true rfl) (t_X6_oilVane_0 r0 h0 a1 C h)
def f_X10_oil (a1 : Int32) (C : CM) : Option (Int32 × CM) := ldR (C.2 2 0 1) 4 (fun y1 => cal (f_X0_isOwner y1 a1 C) (fun v3 C4 => (if v3 = 0 then (rt 0 C4) else cal (f_X10_keepPast C4) (fun v6 C7 => cal (f_X6_oilVane 0 a1 C7) (fun v8 C9 => (rt 1 C9))))))
set_option maxRecDepth 8000 in
theorem t_X10_oil_0 {l : Launch} {G : GX} {X : XM} {Q : Int32 → Mem → Prop} (a1 : Int32) (C : CM) (h : SAT (f_X10_oil a1 C) (fun v c => Q v (c, X))) : AB l G (rmD 4) 0 0 mt_X10_oil (ZQ G mt_X10_oil Q) 0 [(0, .ref (gA G 0 0 0)), (1, .int a1)] [] (C, X) := by
  unfold f_X10_oil at h
  refine ab_aloadn 0 dX10_oil_0 rfl ?_
  refine f_gr (x := 4) (k2 := 2) (i2 := 0) (j2 := 0) ⟨by decide, by decide⟩ rfl rfl (Nat.le_of_ble_eq_true rfl) wd_124 rfl rfl dX10_oil_1 ?_
  refine fC_gd (x := 1) ⟨by decide, by decide⟩ rfl rfl (Nat.le_of_ble_eq_true rfl) wd_125 rfl h rfl dX10_oil_4 (fun y1 hy2 h => ?_)
  refine ab_iloadn 1 dX10_oil_7 rfl ?_
  refine fC_Vi (mtc := mt_X0_isOwner) (As := [.int a1]) h (fun Q h => ct_X0_isOwner y1 hy2 a1 C h) ⟨hy2, by decide⟩ rfl rfl rfl mw_X0_isOwner wd_232 rfl rfl ⟨Nat.le_of_ble_eq_true rfl, Nat.le_of_ble_eq_true rfl⟩ ⟨Nat.zero_le _, Nat.zero_le _⟩ (Nat.le_of_ble_eq_true rfl) rfl dX10_oil_8 (fun v3 C4 h => ?_)
  refine ab_if_ne (tgt := 16) dX10_oil_11 (by decide) (fun hc5 => ?_) (fun hc5 => ?_)
  · have h := sat_f hc5 h
    refine ab_aloadn 0 dX10_oil_16 rfl ?_
    refine fC_Vv (mtc := mt_X10_keepPast) (As := []) h (fun Q h => ct_X10_keepPast C4 h) ⟨by decide, by decide⟩ rfl rfl rfl mw_X10_keepPast wd_254 rfl rfl ⟨Nat.le_of_ble_eq_true rfl, Nat.le_of_ble_eq_true rfl⟩ ⟨Nat.zero_le _, Nat.zero_le _⟩ (Nat.le_of_ble_eq_true rfl) rfl dX10_oil_17 (fun v6 C7 h => ?_)
    refine ab_aloadn 0 dX10_oil_20 rfl ?_
    refine f_gr (x := 4) (k2 := 2) (i2 := 0) (j2 := 0) ⟨by decide, by decide⟩ rfl rfl (Nat.le_of_ble_eq_true rfl) wd_124 rfl rfl dX10_oil_21 ?_
    refine f_gr (x := 2) (k2 := 4) (i2 := 0) (j2 := 0) ⟨by decide, by decide⟩ rfl rfl (Nat.le_of_ble_eq_true rfl) wd_126 rfl rfl dX10_oil_24 ?_
    refine ab_iloadn 1 dX10_oil_27 rfl ?_
    refine fC_Vv (mtc := mt_X6_oilVane) (As := [.int a1]) h (fun Q h => ct_X6_oilVane 0 (by decide) a1 C7 h) ⟨by decide, by decide⟩ rfl rfl rfl mw_X6_oilVane wd_271 rfl rfl ⟨Nat.le_of_ble_eq_true rfl, Nat.le_of_ble_eq_true rfl⟩ ⟨Nat.zero_le _, Nat.zero_le _⟩ (Nat.le_of_ble_eq_true rfl) rfl dX10_oil_28 (fun v8 C9 h => ?_)
    refine ab_iconst (v := 1) dX10_oil_31 (by decide) ?_
    exact fC_iret h rfl rfl dX10_oil_32
  · have h := sat_t hc5 h
    refine ab_iconst (v := 0) dX10_oil_14 (by decide) ?_
    exact fC_iret h rfl rfl dX10_oil_15
theorem ct_X10_oil {l : Launch} {G : GX} {X : XM} {Q : Int32 → Mem → Prop} (a1 : Int32) (C : CM) (h : SAT (f_X10_oil a1 C) (fun v c => Q v (c, X))) : CT l G 4 mt_X10_oil [.ref (gA G 0 0 0), .int a1] (C, X) Q := ct_of pn_X10 (Nat.le_of_ble_eq_true rfl) (t_X10_oil_0 a1 C h)
def f_X6_stickVane (r0 : Nat) (a1 : Int32) (a2 : Int32) (C : CM) : Option (Int32 × CM) := (if a1 < 0 then (rt 0 C) else (if 8 ≤ a1 then (rt 0 C) else stA C 4 r0 4 8 a1 a2 (fun C3 => stA C3 4 r0 5 8 a1 1 (fun C4 => (rt 0 C4)))))
set_option maxRecDepth 8000 in
theorem t_X6_stickVane_0 {l : Launch} {G : GX} {X : XM} {Q : Int32 → Mem → Prop} (r0 : Nat) (h0 : r0 < 12) (a1 : Int32) (a2 : Int32) (C : CM) (h : SAT (f_X6_stickVane r0 a1 a2 C) (fun v c => Q v (c, X))) : AB l G (rmD 1) 0 0 mt_X6_stickVane (ZQ G mt_X6_stickVane Q) 0 [(0, .ref (gA G 4 r0 0)), (1, .int a1), (2, .int a2)] [] (C, X) := by
  unfold f_X6_stickVane at h
  refine ab_iloadn 1 dX6_stickVane_0 rfl ?_
  refine ab_if_lt (tgt := 24) dX6_stickVane_1 (by decide) (fun hc1 => ?_) (fun hc1 => ?_)
  · have h := sat_t hc1 h
    exact fC_vret h rfl dX6_stickVane_24
  · have h := sat_f hc1 h
    refine ab_iloadn 1 dX6_stickVane_4 rfl ?_
    refine ab_bipush (v := 8) dX6_stickVane_5 (by decide) ?_
    refine ab_icmp_ge (tgt := 24) dX6_stickVane_7 (by decide) (fun hc2 => ?_) (fun hc2 => ?_)
    · have h := sat_t hc2 h
      exact fC_vret h rfl dX6_stickVane_24
    · have h := sat_f hc2 h
      refine ab_aloadn 0 dX6_stickVane_10 rfl ?_
      refine f_gr (x := 9) (k2 := 4) (i2 := r0) (j2 := 4) ⟨h0, by decide⟩ rfl rfl (Nat.le_of_ble_eq_true rfl) wd_147 rfl rfl dX6_stickVane_11 ?_
      refine ab_iloadn 1 dX6_stickVane_14 rfl ?_
      refine ab_iloadn 2 dX6_stickVane_15 rfl ?_
      refine fC_iast ⟨h0, by decide⟩ rfl (by decide) (fun _ => rfl) h dX6_stickVane_16 (fun C3 h => ?_)
      refine ab_aloadn 0 dX6_stickVane_17 rfl ?_
      refine f_gr (x := 10) (k2 := 4) (i2 := r0) (j2 := 5) ⟨h0, by decide⟩ rfl rfl (Nat.le_of_ble_eq_true rfl) wd_149 rfl rfl dX6_stickVane_18 ?_
      refine ab_iloadn 1 dX6_stickVane_21 rfl ?_
      refine ab_iconst (v := 1) dX6_stickVane_22 (by decide) ?_
      refine fC_iast ⟨h0, by decide⟩ rfl (by decide) (fun _ => rfl) h dX6_stickVane_23 (fun C4 h => ?_)
      exact fC_vret h rfl dX6_stickVane_24
theorem ct_X6_stickVane {l : Launch} {G : GX} {X : XM} {Q : Int32 → Mem → Prop} (r0 : Nat) (h0 : r0 < 12) (a1 : Int32) (a2 : Int32) (C : CM) (h : SAT (f_X6_stickVane r0 a1 a2 C) (fun v c => Q v (c, X))) : CT l G 1 mt_X6_stickVane [.ref (gA G 4 r0 0), .int a1, .int a2] (C, X) Q := ct_of pn_X6 (Nat.le_of_ble_eq_true rfl) (t_X6_stickVane_0 r0 h0 a1 a2 C h)
def f_X10_point (a1 : Int32) (a2 : Int32) (C : CM) : Option (Int32 × CM) := ldR (C.2 2 0 1) 4 (fun y1 => cal (f_X0_isOwner y1 a1 C) (fun v3 C4 => (if v3 = 0 then (rt 0 C4) else (if a2 < 0 then (rt 0 C4) else (if a2 < 8 then cal (f_X10_keepPast C4) (fun v8 C9 => cal (f_X6_stickVane 0 a1 a2 C9) (fun v10 C11 => (rt 1 C11))) else (rt 0 C4))))))
set_option maxRecDepth 8000 in
theorem t_X10_point_0 {l : Launch} {G : GX} {X : XM} {Q : Int32 → Mem → Prop} (a1 : Int32) (a2 : Int32) (C : CM) (h : SAT (f_X10_point a1 a2 C) (fun v c => Q v (c, X))) : AB l G (rmD 4) 0 0 mt_X10_point (ZQ G mt_X10_point Q) 0 [(0, .ref (gA G 0 0 0)), (1, .int a1), (2, .int a2)] [] (C, X) := by
  unfold f_X10_point at h
  refine ab_aloadn 0 dX10_point_0 rfl ?_
  refine f_gr (x := 4) (k2 := 2) (i2 := 0) (j2 := 0) ⟨by decide, by decide⟩ rfl rfl (Nat.le_of_ble_eq_true rfl) wd_124 rfl rfl dX10_point_1 ?_
  refine fC_gd (x := 1) ⟨by decide, by decide⟩ rfl rfl (Nat.le_of_ble_eq_true rfl) wd_125 rfl h rfl dX10_point_4 (fun y1 hy2 h => ?_)
  refine ab_iloadn 1 dX10_point_7 rfl ?_
  refine fC_Vi (mtc := mt_X0_isOwner) (As := [.int a1]) h (fun Q h => ct_X0_isOwner y1 hy2 a1 C h) ⟨hy2, by decide⟩ rfl rfl rfl mw_X0_isOwner wd_232 rfl rfl ⟨Nat.le_of_ble_eq_true rfl, Nat.le_of_ble_eq_true rfl⟩ ⟨Nat.zero_le _, Nat.zero_le _⟩ (Nat.le_of_ble_eq_true rfl) rfl dX10_point_8 (fun v3 C4 h => ?_)
  refine ab_if_eq (tgt := 24) dX10_point_11 (by decide) (fun hc5 => ?_) (fun hc5 => ?_)
  · have h := sat_t hc5 h
    refine ab_iconst (v := 0) dX10_point_24 (by decide) ?_
    exact fC_iret h rfl rfl dX10_point_25
  · have h := sat_f hc5 h
    refine ab_iloadn 2 dX10_point_14 rfl ?_
    refine ab_if_lt (tgt := 24) dX10_point_15 (by decide) (fun hc6 => ?_) (fun hc6 => ?_)
    · have h := sat_t hc6 h
      refine ab_iconst (v := 0) dX10_point_24 (by decide) ?_
      exact fC_iret h rfl rfl dX10_point_25
    · have h := sat_f hc6 h
      refine ab_iloadn 2 dX10_point_18 rfl ?_
      refine ab_bipush (v := 8) dX10_point_19 (by decide) ?_
      refine ab_icmp_lt (tgt := 26) dX10_point_21 (by decide) (fun hc7 => ?_) (fun hc7 => ?_)
      · have h := sat_t hc7 h
        refine ab_aloadn 0 dX10_point_26 rfl ?_
        refine fC_Vv (mtc := mt_X10_keepPast) (As := []) h (fun Q h => ct_X10_keepPast C4 h) ⟨by decide, by decide⟩ rfl rfl rfl mw_X10_keepPast wd_254 rfl rfl ⟨Nat.le_of_ble_eq_true rfl, Nat.le_of_ble_eq_true rfl⟩ ⟨Nat.zero_le _, Nat.zero_le _⟩ (Nat.le_of_ble_eq_true rfl) rfl dX10_point_27 (fun v8 C9 h => ?_)
        refine ab_aloadn 0 dX10_point_30 rfl ?_
        refine f_gr (x := 4) (k2 := 2) (i2 := 0) (j2 := 0) ⟨by decide, by decide⟩ rfl rfl (Nat.le_of_ble_eq_true rfl) wd_124 rfl rfl dX10_point_31 ?_
        refine f_gr (x := 2) (k2 := 4) (i2 := 0) (j2 := 0) ⟨by decide, by decide⟩ rfl rfl (Nat.le_of_ble_eq_true rfl) wd_126 rfl rfl dX10_point_34 ?_
        refine ab_iloadn 1 dX10_point_37 rfl ?_
        refine ab_iloadn 2 dX10_point_38 rfl ?_
        refine fC_Vv (mtc := mt_X6_stickVane) (As := [.int a1, .int a2]) h (fun Q h => ct_X6_stickVane 0 (by decide) a1 a2 C9 h) ⟨by decide, by decide⟩ rfl rfl rfl mw_X6_stickVane wd_272 rfl rfl ⟨Nat.le_of_ble_eq_true rfl, Nat.le_of_ble_eq_true rfl⟩ ⟨Nat.zero_le _, Nat.zero_le _⟩ (Nat.le_of_ble_eq_true rfl) rfl dX10_point_39 (fun v10 C11 h => ?_)
        refine ab_iconst (v := 1) dX10_point_42 (by decide) ?_
        exact fC_iret h rfl rfl dX10_point_43
      · have h := sat_f hc7 h
        refine ab_iconst (v := 0) dX10_point_24 (by decide) ?_
        exact fC_iret h rfl rfl dX10_point_25
theorem ct_X10_point {l : Launch} {G : GX} {X : XM} {Q : Int32 → Mem → Prop} (a1 : Int32) (a2 : Int32) (C : CM) (h : SAT (f_X10_point a1 a2 C) (fun v c => Q v (c, X))) : CT l G 4 mt_X10_point [.ref (gA G 0 0 0), .int a1, .int a2] (C, X) Q := ct_of pn_X10 (Nat.le_of_ble_eq_true rfl) (t_X10_point_0 a1 a2 C h)
def f_X2_pop (r1 : Nat) (C : CM) : Option (Int32 × CM) := (if (C.1 7 0 0 2) ≤ 0 then (rt 0 C) else bnd (stC C 7 0 0 1 ((((C.1 7 0 0 1) + 8) - 1) - (((C.1 7 0 0 1) + 8) - 1) / 8 * 8)) (fun C2 => bnd (stC C2 7 0 0 2 ((C2.1 7 0 0 2) - 1)) (fun C3 => ldQ 8 (C3.1 7 0 0 1) (fun y4 => cal (f_X6_copy r1 (4 + y4) C3) (fun v6 C7 => (rt 0 C7))))))
set_option maxRecDepth 8000 in
theorem t_X2_pop_0 {l : Launch} {G : GX} {X : XM} {Q : Int32 → Mem → Prop} (r1 : Nat) (h1 : r1 < 12) (C : CM) (h : SAT (f_X2_pop r1 C) (fun v c => Q v (c, X))) : AB l G (rmD 2) 0 0 mt_X2_pop (ZQ G mt_X2_pop Q) 0 [(0, .ref (gA G 7 0 0)), (1, .ref (gA G 4 r1 0))] [] (C, X) := by
  unfold f_X2_pop at h
  refine ab_aloadn 0 dX2_pop_0 rfl ?_
  refine fC_gi (x := 2) ⟨by decide, by decide⟩ rfl rfl (Nat.le_of_ble_eq_true rfl) wd_158 (by decide) rfl dX2_pop_1 ?_
  refine ab_if_le (tgt := 46) dX2_pop_4 (by decide) (fun hc1 => ?_) (fun hc1 => ?_)
  · have h := sat_t hc1 h
    exact fC_vret h rfl dX2_pop_46
  · have h := sat_f hc1 h
    refine ab_aloadn 0 dX2_pop_7 rfl ?_
    refine ab_aloadn 0 dX2_pop_8 rfl ?_
    refine fC_gi (x := 1) ⟨by decide, by decide⟩ rfl rfl (Nat.le_of_ble_eq_true rfl) wd_250 (by decide) rfl dX2_pop_9 ?_
    refine ab_bipush (v := 8) dX2_pop_12 (by decide) ?_
    refine ab_iadd dX2_pop_14 ?_
    refine ab_iconst (v := 1) dX2_pop_15 (by decide) ?_
    refine ab_isub dX2_pop_16 ?_
    refine ab_bipush (v := 8) dX2_pop_17 (by decide) ?_
    refine ab_irem dX2_pop_19 (by decide) ?_
    refine fC_pi (x := 1) (ty := .int) ⟨by decide, by decide⟩ rfl rfl (Nat.le_of_ble_eq_true rfl) wd_250 (by decide) rfl h rfl (by decide +kernel) rfl rfl dX2_pop_20 (fun C2 h => ?_)
    refine ab_aloadn 0 dX2_pop_23 rfl ?_
    refine ab_dup dX2_pop_24 rfl ?_
    refine fC_gi (x := 2) ⟨by decide, by decide⟩ rfl rfl (Nat.le_of_ble_eq_true rfl) wd_158 (by decide) rfl dX2_pop_25 ?_
    refine ab_iconst (v := 1) dX2_pop_28 (by decide) ?_
    refine ab_isub dX2_pop_29 ?_
    refine fC_pi (x := 2) (ty := .int) ⟨by decide, by decide⟩ rfl rfl (Nat.le_of_ble_eq_true rfl) wd_158 (by decide) rfl h rfl (by decide +kernel) rfl rfl dX2_pop_30 (fun C3 h => ?_)
    refine ab_aloadn 1 dX2_pop_33 rfl ?_
    refine ab_aloadn 0 dX2_pop_34 rfl ?_
    refine f_gr (x := 0) (k2 := 7) (i2 := 0) (j2 := 1) ⟨by decide, by decide⟩ rfl rfl (Nat.le_of_ble_eq_true rfl) wd_249 rfl rfl dX2_pop_35 ?_
    refine ab_aloadn 0 dX2_pop_38 rfl ?_
    refine fC_gi (x := 1) ⟨by decide, by decide⟩ rfl rfl (Nat.le_of_ble_eq_true rfl) wd_250 (by decide) rfl dX2_pop_39 ?_
    refine f_aald (k2 := 4) (b := 4) ⟨by decide, by decide⟩ rfl (by decide) (fun _ => rfl) h dX2_pop_42 (fun y4 hy5 h => ?_)
    refine fC_Vv (mtc := mt_X6_copy) (As := [.ref (gA G 4 (4 + y4) 0)]) h (fun Q h => ct_X6_copy r1 h1 (4 + y4) (Nat.add_lt_add_left hy5 4) C3 h) ⟨h1, by decide⟩ rfl rfl rfl mw_X6_copy wd_251 rfl rfl ⟨Nat.le_of_ble_eq_true rfl, Nat.le_of_ble_eq_true rfl⟩ ⟨Nat.zero_le _, Nat.zero_le _⟩ (Nat.le_of_ble_eq_true rfl) rfl dX2_pop_43 (fun v6 C7 h => ?_)
    exact fC_vret h rfl dX2_pop_46
theorem ct_X2_pop {l : Launch} {G : GX} {X : XM} {Q : Int32 → Mem → Prop} (r1 : Nat) (h1 : r1 < 12) (C : CM) (h : SAT (f_X2_pop r1 C) (fun v c => Q v (c, X))) : CT l G 2 mt_X2_pop [.ref (gA G 7 0 0), .ref (gA G 4 r1 0)] (C, X) Q := ct_of pn_X2 (Nat.le_of_ble_eq_true rfl) (t_X2_pop_0 r1 h1 C h)
def f_X10_undo (C : CM) : Option (Int32 × CM) := (if (C.1 7 0 0 2) = 0 then (rt (-1) C) else cal (f_X2_pop 0 C) (fun v2 C3 => bnd (stC C3 9 0 0 0 0) (fun C4 => (rt (C4.1 7 0 0 2) C4))))
set_option maxRecDepth 8000 in
theorem t_X10_undo_0 {l : Launch} {G : GX} {X : XM} {Q : Int32 → Mem → Prop} (C : CM) (h : SAT (f_X10_undo C) (fun v c => Q v (c, X))) : AB l G (rmD 3) 0 0 mt_X10_undo (ZQ G mt_X10_undo Q) 0 [(0, .ref (gA G 0 0 0))] [] (C, X) := by
  unfold f_X10_undo at h
  refine ab_aloadn 0 dX10_undo_0 rfl ?_
  refine f_gr (x := 9) (k2 := 7) (i2 := 0) (j2 := 0) ⟨by decide, by decide⟩ rfl rfl (Nat.le_of_ble_eq_true rfl) wd_157 rfl rfl dX10_undo_1 ?_
  refine fC_gi (x := 2) ⟨by decide, by decide⟩ rfl rfl (Nat.le_of_ble_eq_true rfl) wd_273 (by decide) rfl dX10_undo_4 ?_
  refine ab_if_ne (tgt := 12) dX10_undo_7 (by decide) (fun hc1 => ?_) (fun hc1 => ?_)
  · have h := sat_f hc1 h
    refine ab_aloadn 0 dX10_undo_12 rfl ?_
    refine f_gr (x := 9) (k2 := 7) (i2 := 0) (j2 := 0) ⟨by decide, by decide⟩ rfl rfl (Nat.le_of_ble_eq_true rfl) wd_157 rfl rfl dX10_undo_13 ?_
    refine ab_aloadn 0 dX10_undo_16 rfl ?_
    refine f_gr (x := 4) (k2 := 2) (i2 := 0) (j2 := 0) ⟨by decide, by decide⟩ rfl rfl (Nat.le_of_ble_eq_true rfl) wd_124 rfl rfl dX10_undo_17 ?_
    refine f_gr (x := 2) (k2 := 4) (i2 := 0) (j2 := 0) ⟨by decide, by decide⟩ rfl rfl (Nat.le_of_ble_eq_true rfl) wd_126 rfl rfl dX10_undo_20 ?_
    refine fC_Vv (mtc := mt_X2_pop) (As := [.ref (gA G 4 0 0)]) h (fun Q h => ct_X2_pop 0 (by decide) C h) ⟨by decide, by decide⟩ rfl rfl rfl mw_X2_pop wd_274 rfl rfl ⟨Nat.le_of_ble_eq_true rfl, Nat.le_of_ble_eq_true rfl⟩ ⟨Nat.zero_le _, Nat.zero_le _⟩ (Nat.le_of_ble_eq_true rfl) rfl dX10_undo_23 (fun v2 C3 h => ?_)
    refine ab_aloadn 0 dX10_undo_26 rfl ?_
    refine f_gr (x := 11) (k2 := 9) (i2 := 0) (j2 := 0) ⟨by decide, by decide⟩ rfl rfl (Nat.le_of_ble_eq_true rfl) wd_160 rfl rfl dX10_undo_27 ?_
    refine ab_iconst (v := 0) dX10_undo_30 (by decide) ?_
    refine fC_pi (x := 0) (ty := .boolean) ⟨by decide, by decide⟩ rfl rfl (Nat.le_of_ble_eq_true rfl) wd_161 (by decide) rfl h rfl (by decide +kernel) rfl rfl dX10_undo_31 (fun C4 h => ?_)
    refine ab_aloadn 0 dX10_undo_34 rfl ?_
    refine f_gr (x := 9) (k2 := 7) (i2 := 0) (j2 := 0) ⟨by decide, by decide⟩ rfl rfl (Nat.le_of_ble_eq_true rfl) wd_157 rfl rfl dX10_undo_35 ?_
    refine fC_gi (x := 2) ⟨by decide, by decide⟩ rfl rfl (Nat.le_of_ble_eq_true rfl) wd_273 (by decide) rfl dX10_undo_38 ?_
    exact fC_iret h rfl rfl dX10_undo_41
  · have h := sat_t hc1 h
    refine ab_iconst (v := (-1)) dX10_undo_10 (by decide) ?_
    exact fC_iret h rfl rfl dX10_undo_11
theorem ct_X10_undo {l : Launch} {G : GX} {X : XM} {Q : Int32 → Mem → Prop} (C : CM) (h : SAT (f_X10_undo C) (fun v c => Q v (c, X))) : CT l G 3 mt_X10_undo [.ref (gA G 0 0 0)] (C, X) Q := ct_of pn_X10 (Nat.le_of_ble_eq_true rfl) (t_X10_undo_0 C h)
def f_X6_wealth (r0 : Nat) (a1 : Int32) (C : CM) : Option (Int32 × CM) := ldA (C.1 4 r0 1) 8 a1 (fun v1 => ldA (C.1 4 r0 2) 8 a1 (fun v2 => (rt (v1 + v2) C)))
set_option maxRecDepth 8000 in
theorem t_X6_wealth_0 {l : Launch} {G : GX} {X : XM} {Q : Int32 → Mem → Prop} (r0 : Nat) (h0 : r0 < 12) (a1 : Int32) (C : CM) (h : SAT (f_X6_wealth r0 a1 C) (fun v c => Q v (c, X))) : AB l G (rmD 1) 0 0 mt_X6_wealth (ZQ G mt_X6_wealth Q) 0 [(0, .ref (gA G 4 r0 0)), (1, .int a1)] [] (C, X) := by
  unfold f_X6_wealth at h
  refine ab_aloadn 0 dX6_wealth_0 rfl ?_
  refine f_gr (x := 6) (k2 := 4) (i2 := r0) (j2 := 1) ⟨h0, by decide⟩ rfl rfl (Nat.le_of_ble_eq_true rfl) wd_141 rfl rfl dX6_wealth_1 ?_
  refine ab_iloadn 1 dX6_wealth_4 rfl ?_
  refine fC_iald ⟨h0, by decide⟩ rfl (by decide) (fun _ => rfl) h dX6_wealth_5 (fun v1 h => ?_)
  refine ab_aloadn 0 dX6_wealth_6 rfl ?_
  refine f_gr (x := 7) (k2 := 4) (i2 := r0) (j2 := 2) ⟨h0, by decide⟩ rfl rfl (Nat.le_of_ble_eq_true rfl) wd_144 rfl rfl dX6_wealth_7 ?_
  refine ab_iloadn 1 dX6_wealth_10 rfl ?_
  refine fC_iald ⟨h0, by decide⟩ rfl (by decide) (fun _ => rfl) h dX6_wealth_11 (fun v2 h => ?_)
  refine ab_iadd dX6_wealth_12 ?_
  exact fC_iret h rfl rfl dX6_wealth_13
theorem ct_X6_wealth {l : Launch} {G : GX} {X : XM} {Q : Int32 → Mem → Prop} (r0 : Nat) (h0 : r0 < 12) (a1 : Int32) (C : CM) (h : SAT (f_X6_wealth r0 a1 C) (fun v c => Q v (c, X))) : CT l G 1 mt_X6_wealth [.ref (gA G 4 r0 0), .int a1] (C, X) Q := ct_of pn_X6 (Nat.le_of_ble_eq_true rfl) (t_X6_wealth_0 r0 h0 a1 C h)
def f_X10_richest_80 (N : Nat) (k39 : Int32 → Int32 → CM → Option (Int32 × CM)) (a2 : Int32) (C : CM) : Option (Int32 × CM) := (k39 a2 (a2 + 1) C)
def f_X10_richest_39 (N : Nat) : Nat → Int32 → Int32 → CM → Option (Int32 × CM)
  | 0, _, _, _ => none
  | n + 1, a1, a2, C => ldR (C.2 2 0 1) 4 (fun y1 => (if (C.1 3 y1 6 0) ≤ a2 then (rt a1 C) else (if a1 = (-1) then (f_X10_richest_80 N (fun z1 z2 c => f_X10_richest_39 N n z1 z2 c) a2 C) else cal (f_X6_wealth 3 a2 C) (fun v5 C6 => cal (f_X6_wealth 3 a1 C6) (fun v7 C8 => (if v5 ≤ v7 then (f_X10_richest_39 N n a1 (a2 + 1) C8) else (f_X10_richest_80 N (fun z1 z2 c => f_X10_richest_39 N n z1 z2 c) a2 C8)))))))
def f_X10_richest (N : Nat) (C : CM) : Option (Int32 × CM) := cal (f_X6_copy 3 0 C) (fun v1 C2 => ldR (C2.2 2 0 1) 4 (fun y3 => cal (f_X9_pass N y3 3 48 C2) (fun v5 C6 => (f_X10_richest_39 N N (-1) 0 C6))))
set_option maxRecDepth 8000 in
theorem t_X10_richest_80 {l : Launch} {G : GX} {X : XM} {Q : Int32 → Mem → Prop} (N : Nat) (k39 : Int32 → Int32 → CM → Option (Int32 × CM)) (a2 : Int32) (hk39 : ∀ (ac1 : Int32) (ac2 : Int32) (C : CM), SAT (k39 ac1 ac2 C) (fun v c => Q v (c, X)) → AB l G (rmD 5) 0 0 mt_X10_richest (ZQ G mt_X10_richest Q) 39 [(0, .ref (gA G 0 0 0)), (1, .int ac1), (2, .int ac2)] [] (C, X)) (C : CM) (h : SAT (f_X10_richest_80 N k39 a2 C) (fun v c => Q v (c, X))) : AB l G (rmD 5) 0 0 mt_X10_richest (ZQ G mt_X10_richest Q) 80 [(0, .ref (gA G 0 0 0)), (2, .int a2)] [] (C, X) := by
  unfold f_X10_richest_80 at h
  refine ab_iloadn 1 dX10_richest_80 rfl ?_
  refine ab_istoren (lv' := [(0, .ref (gA G 0 0 0)), (2, .int a2), (1, .int a2)]) dX10_richest_81 rfl (Nat.le_of_ble_eq_true rfl) rfl ?_
  refine ab_iinc (q := 1) (v := (a2 + 1)) (lv' := [(0, .ref (gA G 0 0 0)), (2, .int (a2 + 1)), (1, .int a2)]) dX10_richest_82 rfl rfl rfl (Nat.le_of_ble_eq_true rfl) rfl ?_
  refine ab_goto (tgt := 39) dX10_richest_85 (by decide) ?_
  refine ab_sub [0, 2, 1] rfl ?_
  exact hk39 a2 (a2 + 1) C h
set_option maxRecDepth 8000 in
theorem t_X10_richest_39 {l : Launch} {G : GX} {X : XM} {Q : Int32 → Mem → Prop} (N : Nat) : ∀ (n : Nat) (a1 : Int32) (a2 : Int32) (C : CM), SAT (f_X10_richest_39 N n a1 a2 C) (fun v c => Q v (c, X)) → AB l G (rmD 5) 0 0 mt_X10_richest (ZQ G mt_X10_richest Q) 39 [(0, .ref (gA G 0 0 0)), (1, .int a1), (2, .int a2)] [] (C, X) := by
  intro n
  induction n with
  | zero => intro a1 a2 C h; exact h.elim
  | succ n ih =>
    intro a1 a2 C h
    rw [f_X10_richest_39] at h
    refine ab_iloadn 2 dX10_richest_39 rfl ?_
    refine ab_aloadn 0 dX10_richest_40 rfl ?_
    refine f_gr (x := 4) (k2 := 2) (i2 := 0) (j2 := 0) ⟨by decide, by decide⟩ rfl rfl (Nat.le_of_ble_eq_true rfl) wd_124 rfl rfl dX10_richest_41 ?_
    refine fC_gd (x := 1) ⟨by decide, by decide⟩ rfl rfl (Nat.le_of_ble_eq_true rfl) wd_125 rfl h rfl dX10_richest_44 (fun y1 hy2 h => ?_)
    refine f_gr (x := 10) (k2 := 3) (i2 := y1) (j2 := 6) ⟨hy2, by decide⟩ rfl rfl (Nat.le_of_ble_eq_true rfl) wd_202 rfl rfl dX10_richest_47 ?_
    refine fC_gi (x := 0) ⟨hy2, by decide⟩ rfl rfl (Nat.le_of_ble_eq_true rfl) wd_203 (by decide) rfl dX10_richest_50 ?_
    refine ab_icmp_ge (tgt := 88) dX10_richest_53 (by decide) (fun hc3 => ?_) (fun hc3 => ?_)
    · have h := sat_t hc3 h
      refine ab_iloadn 1 dX10_richest_88 rfl ?_
      exact fC_iret h rfl rfl dX10_richest_89
    · have h := sat_f hc3 h
      refine ab_iloadn 1 dX10_richest_56 rfl ?_
      refine ab_iconst (v := (-1)) dX10_richest_57 (by decide) ?_
      refine ab_icmp_eq (tgt := 80) dX10_richest_58 (by decide) (fun hc4 => ?_) (fun hc4 => ?_)
      · have h := sat_t hc4 h
        refine ab_sub [0, 2] rfl ?_
        exact t_X10_richest_80 N (fun z1 z2 c => f_X10_richest_39 N n z1 z2 c) a2 ih C h
      · have h := sat_f hc4 h
        refine ab_aloadn 0 dX10_richest_61 rfl ?_
        refine f_gr (x := 12) (k2 := 4) (i2 := 3) (j2 := 0) ⟨by decide, by decide⟩ rfl rfl (Nat.le_of_ble_eq_true rfl) wd_216 rfl rfl dX10_richest_62 ?_
        refine ab_iloadn 2 dX10_richest_65 rfl ?_
        refine fC_Vi (mtc := mt_X6_wealth) (As := [.int a2]) h (fun Q h => ct_X6_wealth 3 (by decide) a2 C h) ⟨by decide, by decide⟩ rfl rfl rfl mw_X6_wealth wd_275 rfl rfl ⟨Nat.le_of_ble_eq_true rfl, Nat.le_of_ble_eq_true rfl⟩ ⟨Nat.zero_le _, Nat.zero_le _⟩ (Nat.le_of_ble_eq_true rfl) rfl dX10_richest_66 (fun v5 C6 h => ?_)
        refine ab_aloadn 0 dX10_richest_69 rfl ?_
        refine f_gr (x := 12) (k2 := 4) (i2 := 3) (j2 := 0) ⟨by decide, by decide⟩ rfl rfl (Nat.le_of_ble_eq_true rfl) wd_216 rfl rfl dX10_richest_70 ?_
        refine ab_iloadn 1 dX10_richest_73 rfl ?_
        refine fC_Vi (mtc := mt_X6_wealth) (As := [.int a1]) h (fun Q h => ct_X6_wealth 3 (by decide) a1 C6 h) ⟨by decide, by decide⟩ rfl rfl rfl mw_X6_wealth wd_275 rfl rfl ⟨Nat.le_of_ble_eq_true rfl, Nat.le_of_ble_eq_true rfl⟩ ⟨Nat.zero_le _, Nat.zero_le _⟩ (Nat.le_of_ble_eq_true rfl) rfl dX10_richest_74 (fun v7 C8 h => ?_)
        refine ab_icmp_le (tgt := 82) dX10_richest_77 (by decide) (fun hc9 => ?_) (fun hc9 => ?_)
        · have h := sat_t hc9 h
          refine ab_iinc (q := 2) (v := (a2 + 1)) (lv' := [(0, .ref (gA G 0 0 0)), (1, .int a1), (2, .int (a2 + 1))]) dX10_richest_82 rfl rfl rfl (Nat.le_of_ble_eq_true rfl) rfl ?_
          refine ab_goto (tgt := 39) dX10_richest_85 (by decide) ?_
          exact ih a1 (a2 + 1) C8 h
        · have h := sat_f hc9 h
          refine ab_sub [0, 2] rfl ?_
          exact t_X10_richest_80 N (fun z1 z2 c => f_X10_richest_39 N n z1 z2 c) a2 ih C8 h
set_option maxRecDepth 8000 in
theorem t_X10_richest_0 {l : Launch} {G : GX} {X : XM} {Q : Int32 → Mem → Prop} (N : Nat) (C : CM) (h : SAT (f_X10_richest N C) (fun v c => Q v (c, X))) : AB l G (rmD 5) 0 0 mt_X10_richest (ZQ G mt_X10_richest Q) 0 [(0, .ref (gA G 0 0 0))] [] (C, X) := by
  unfold f_X10_richest at h
  refine ab_aloadn 0 dX10_richest_0 rfl ?_
  refine f_gr (x := 12) (k2 := 4) (i2 := 3) (j2 := 0) ⟨by decide, by decide⟩ rfl rfl (Nat.le_of_ble_eq_true rfl) wd_216 rfl rfl dX10_richest_1 ?_
  refine ab_aloadn 0 dX10_richest_4 rfl ?_
  refine f_gr (x := 4) (k2 := 2) (i2 := 0) (j2 := 0) ⟨by decide, by decide⟩ rfl rfl (Nat.le_of_ble_eq_true rfl) wd_124 rfl rfl dX10_richest_5 ?_
  refine f_gr (x := 2) (k2 := 4) (i2 := 0) (j2 := 0) ⟨by decide, by decide⟩ rfl rfl (Nat.le_of_ble_eq_true rfl) wd_126 rfl rfl dX10_richest_8 ?_
  refine fC_Vv (mtc := mt_X6_copy) (As := [.ref (gA G 4 0 0)]) h (fun Q h => ct_X6_copy 3 (by decide) 0 (by decide) C h) ⟨by decide, by decide⟩ rfl rfl rfl mw_X6_copy wd_217 rfl rfl ⟨Nat.le_of_ble_eq_true rfl, Nat.le_of_ble_eq_true rfl⟩ ⟨Nat.zero_le _, Nat.zero_le _⟩ (Nat.le_of_ble_eq_true rfl) rfl dX10_richest_11 (fun v1 C2 h => ?_)
  refine ab_aloadn 0 dX10_richest_14 rfl ?_
  refine f_gr (x := 10) (k2 := 8) (i2 := 0) (j2 := 0) ⟨by decide, by decide⟩ rfl rfl (Nat.le_of_ble_eq_true rfl) wd_218 rfl rfl dX10_richest_15 ?_
  refine ab_aloadn 0 dX10_richest_18 rfl ?_
  refine f_gr (x := 4) (k2 := 2) (i2 := 0) (j2 := 0) ⟨by decide, by decide⟩ rfl rfl (Nat.le_of_ble_eq_true rfl) wd_124 rfl rfl dX10_richest_19 ?_
  refine fC_gd (x := 1) ⟨by decide, by decide⟩ rfl rfl (Nat.le_of_ble_eq_true rfl) wd_125 rfl h rfl dX10_richest_22 (fun y3 hy4 h => ?_)
  refine ab_aloadn 0 dX10_richest_25 rfl ?_
  refine f_gr (x := 12) (k2 := 4) (i2 := 3) (j2 := 0) ⟨by decide, by decide⟩ rfl rfl (Nat.le_of_ble_eq_true rfl) wd_216 rfl rfl dX10_richest_26 ?_
  refine ab_bipush (v := 48) dX10_richest_29 (by decide) ?_
  refine fC_Vi (mtc := mt_X9_pass) (As := [.ref (gA G 3 y3 0), .ref (gA G 4 3 0), .int 48]) h (fun Q h => ct_X9_pass N y3 hy4 3 (by decide) 48 C2 h) ⟨by decide, by decide⟩ rfl rfl rfl mw_X9_pass wd_265 rfl rfl ⟨Nat.le_of_ble_eq_true rfl, Nat.le_of_ble_eq_true rfl⟩ ⟨Nat.zero_le _, Nat.zero_le _⟩ (Nat.le_of_ble_eq_true rfl) rfl dX10_richest_31 (fun v5 C6 h => ?_)
  refine ab_pop dX10_richest_34 rfl ?_
  refine ab_iconst (v := (-1)) dX10_richest_35 (by decide) ?_
  refine ab_istoren (lv' := [(0, .ref (gA G 0 0 0)), (1, .int (-1))]) dX10_richest_36 rfl (Nat.le_of_ble_eq_true rfl) rfl ?_
  refine ab_iconst (v := 0) dX10_richest_37 (by decide) ?_
  refine ab_istoren (lv' := [(0, .ref (gA G 0 0 0)), (1, .int (-1)), (2, .int 0)]) dX10_richest_38 rfl (Nat.le_of_ble_eq_true rfl) rfl ?_
  exact t_X10_richest_39 N N (-1) 0 C6 h
theorem ct_X10_richest {l : Launch} {G : GX} {X : XM} {Q : Int32 → Mem → Prop} (N : Nat) (C : CM) (h : SAT (f_X10_richest N C) (fun v c => Q v (c, X))) : CT l G 5 mt_X10_richest [.ref (gA G 0 0 0)] (C, X) Q := ct_of pn_X10 (Nat.le_of_ble_eq_true rfl) (t_X10_richest_0 N C h)
def f_X10_wealthAtEnd (N : Nat) (a1 : Int32) (C : CM) : Option (Int32 × CM) := cal (f_X6_copy 3 0 C) (fun v1 C2 => ldR (C2.2 2 0 1) 4 (fun y3 => cal (f_X9_pass N y3 3 48 C2) (fun v5 C6 => cal (f_X6_wealth 3 a1 C6) (fun v7 C8 => (rt v7 C8)))))
set_option maxRecDepth 8000 in
theorem t_X10_wealthAtEnd_0 {l : Launch} {G : GX} {X : XM} {Q : Int32 → Mem → Prop} (N : Nat) (a1 : Int32) (C : CM) (h : SAT (f_X10_wealthAtEnd N a1 C) (fun v c => Q v (c, X))) : AB l G (rmD 5) 0 0 mt_X10_wealthAtEnd (ZQ G mt_X10_wealthAtEnd Q) 0 [(0, .ref (gA G 0 0 0)), (1, .int a1)] [] (C, X) := by
  unfold f_X10_wealthAtEnd at h
  refine ab_aloadn 0 dX10_wealthAtEnd_0 rfl ?_
  refine f_gr (x := 12) (k2 := 4) (i2 := 3) (j2 := 0) ⟨by decide, by decide⟩ rfl rfl (Nat.le_of_ble_eq_true rfl) wd_216 rfl rfl dX10_wealthAtEnd_1 ?_
  refine ab_aloadn 0 dX10_wealthAtEnd_4 rfl ?_
  refine f_gr (x := 4) (k2 := 2) (i2 := 0) (j2 := 0) ⟨by decide, by decide⟩ rfl rfl (Nat.le_of_ble_eq_true rfl) wd_124 rfl rfl dX10_wealthAtEnd_5 ?_
  refine f_gr (x := 2) (k2 := 4) (i2 := 0) (j2 := 0) ⟨by decide, by decide⟩ rfl rfl (Nat.le_of_ble_eq_true rfl) wd_126 rfl rfl dX10_wealthAtEnd_8 ?_
  refine fC_Vv (mtc := mt_X6_copy) (As := [.ref (gA G 4 0 0)]) h (fun Q h => ct_X6_copy 3 (by decide) 0 (by decide) C h) ⟨by decide, by decide⟩ rfl rfl rfl mw_X6_copy wd_217 rfl rfl ⟨Nat.le_of_ble_eq_true rfl, Nat.le_of_ble_eq_true rfl⟩ ⟨Nat.zero_le _, Nat.zero_le _⟩ (Nat.le_of_ble_eq_true rfl) rfl dX10_wealthAtEnd_11 (fun v1 C2 h => ?_)
  refine ab_aloadn 0 dX10_wealthAtEnd_14 rfl ?_
  refine f_gr (x := 10) (k2 := 8) (i2 := 0) (j2 := 0) ⟨by decide, by decide⟩ rfl rfl (Nat.le_of_ble_eq_true rfl) wd_218 rfl rfl dX10_wealthAtEnd_15 ?_
  refine ab_aloadn 0 dX10_wealthAtEnd_18 rfl ?_
  refine f_gr (x := 4) (k2 := 2) (i2 := 0) (j2 := 0) ⟨by decide, by decide⟩ rfl rfl (Nat.le_of_ble_eq_true rfl) wd_124 rfl rfl dX10_wealthAtEnd_19 ?_
  refine fC_gd (x := 1) ⟨by decide, by decide⟩ rfl rfl (Nat.le_of_ble_eq_true rfl) wd_125 rfl h rfl dX10_wealthAtEnd_22 (fun y3 hy4 h => ?_)
  refine ab_aloadn 0 dX10_wealthAtEnd_25 rfl ?_
  refine f_gr (x := 12) (k2 := 4) (i2 := 3) (j2 := 0) ⟨by decide, by decide⟩ rfl rfl (Nat.le_of_ble_eq_true rfl) wd_216 rfl rfl dX10_wealthAtEnd_26 ?_
  refine ab_bipush (v := 48) dX10_wealthAtEnd_29 (by decide) ?_
  refine fC_Vi (mtc := mt_X9_pass) (As := [.ref (gA G 3 y3 0), .ref (gA G 4 3 0), .int 48]) h (fun Q h => ct_X9_pass N y3 hy4 3 (by decide) 48 C2 h) ⟨by decide, by decide⟩ rfl rfl rfl mw_X9_pass wd_265 rfl rfl ⟨Nat.le_of_ble_eq_true rfl, Nat.le_of_ble_eq_true rfl⟩ ⟨Nat.zero_le _, Nat.zero_le _⟩ (Nat.le_of_ble_eq_true rfl) rfl dX10_wealthAtEnd_31 (fun v5 C6 h => ?_)
  refine ab_pop dX10_wealthAtEnd_34 rfl ?_
  refine ab_aloadn 0 dX10_wealthAtEnd_35 rfl ?_
  refine f_gr (x := 12) (k2 := 4) (i2 := 3) (j2 := 0) ⟨by decide, by decide⟩ rfl rfl (Nat.le_of_ble_eq_true rfl) wd_216 rfl rfl dX10_wealthAtEnd_36 ?_
  refine ab_iloadn 1 dX10_wealthAtEnd_39 rfl ?_
  refine fC_Vi (mtc := mt_X6_wealth) (As := [.int a1]) h (fun Q h => ct_X6_wealth 3 (by decide) a1 C6 h) ⟨by decide, by decide⟩ rfl rfl rfl mw_X6_wealth wd_275 rfl rfl ⟨Nat.le_of_ble_eq_true rfl, Nat.le_of_ble_eq_true rfl⟩ ⟨Nat.zero_le _, Nat.zero_le _⟩ (Nat.le_of_ble_eq_true rfl) rfl dX10_wealthAtEnd_40 (fun v7 C8 h => ?_)
  exact fC_iret h rfl rfl dX10_wealthAtEnd_43
theorem ct_X10_wealthAtEnd {l : Launch} {G : GX} {X : XM} {Q : Int32 → Mem → Prop} (N : Nat) (a1 : Int32) (C : CM) (h : SAT (f_X10_wealthAtEnd N a1 C) (fun v c => Q v (c, X))) : CT l G 5 mt_X10_wealthAtEnd [.ref (gA G 0 0 0), .int a1] (C, X) Q := ct_of pn_X10 (Nat.le_of_ble_eq_true rfl) (t_X10_wealthAtEnd_0 N a1 C h)
def f_X10_fence_171 (N : Nat) (a4 : Int32) (C : CM) : Option (Int32 × CM) := (rt a4 C)
def f_X10_fence_45 (N : Nat) (a1 : Int32) (a2 : Int32) : Nat → Int32 → Int32 → Int32 → CM → Option (Int32 × CM)
  | 0, _, _, _, _ => none
  | n + 1, a3, a4, a5, C => (if 100 ≤ a5 then (if a4 = (-1) then (f_X10_fence_171 N a4 C) else bnd (stC C 0 0 0 13 (a3 - a2)) (fun C3 => (f_X10_fence_171 N a4 C3))) else ldR (C.2 2 0 1) 4 (fun y4 => cal (f_X0_isCell y4 a5 C) (fun v6 C7 => (if v6 = 0 then (f_X10_fence_45 N a1 a2 n a3 a4 (a5 + 1) C7) else ldA (C7.1 4 0 8) 100 a5 (fun v9 => (if v9 = 0 then cal (f_X6_copy 3 0 C7) (fun v11 C12 => cal (f_X6_putFence 3 a5 C12) (fun v13 C14 => ldR (C14.2 2 0 1) 4 (fun y15 => cal (f_X9_pass N y15 3 48 C14) (fun v17 C18 => cal (f_X6_wealth 3 a1 C18) (fun v19 C20 => (if v19 ≤ a3 then (f_X10_fence_45 N a1 a2 n a3 a4 (a5 + 1) C20) else cal (f_X6_wealth 3 a1 C20) (fun v22 C23 => (f_X10_fence_45 N a1 a2 n v22 a5 (a5 + 1) C23)))))))) else (f_X10_fence_45 N a1 a2 n a3 a4 (a5 + 1) C7)))))))
def f_X10_fence (N : Nat) (a1 : Int32) (C : CM) : Option (Int32 × CM) := ldR (C.2 2 0 1) 4 (fun y1 => cal (f_X0_isOwner y1 a1 C) (fun v3 C4 => (if v3 = 0 then (rt (-1) C4) else (if (C4.1 4 0 0 2) < 12 then cal (f_X10_wealthAtEnd N a1 C4) (fun v7 C8 => (f_X10_fence_45 N a1 v7 N v7 (-1) 0 C8)) else (rt (-1) C4)))))
set_option maxRecDepth 8000 in
theorem t_X10_fence_171 {l : Launch} {G : GX} {X : XM} {Q : Int32 → Mem → Prop} (N : Nat) (a4 : Int32) (C : CM) (h : SAT (f_X10_fence_171 N a4 C) (fun v c => Q v (c, X))) : AB l G (rmD 6) 0 0 mt_X10_fence (ZQ G mt_X10_fence Q) 171 [(4, .int a4)] [] (C, X) := by
  unfold f_X10_fence_171 at h
  refine ab_iload 0 dX10_fence_171 rfl ?_
  exact fC_iret h rfl rfl dX10_fence_173
set_option maxRecDepth 8000 in
theorem t_X10_fence_45 {l : Launch} {G : GX} {X : XM} {Q : Int32 → Mem → Prop} (N : Nat) (a1 : Int32) (a2 : Int32) : ∀ (n : Nat) (a3 : Int32) (a4 : Int32) (a5 : Int32) (C : CM), SAT (f_X10_fence_45 N a1 a2 n a3 a4 a5 C) (fun v c => Q v (c, X)) → AB l G (rmD 6) 0 0 mt_X10_fence (ZQ G mt_X10_fence Q) 45 [(0, .ref (gA G 0 0 0)), (1, .int a1), (2, .int a2), (3, .int a3), (4, .int a4), (5, .int a5)] [] (C, X) := by
  intro n
  induction n with
  | zero => intro a3 a4 a5 C h; exact h.elim
  | succ n ih =>
    intro a3 a4 a5 C h
    rw [f_X10_fence_45] at h
    refine ab_iload 5 dX10_fence_45 rfl ?_
    refine ab_bipush (v := 100) dX10_fence_47 (by decide) ?_
    refine ab_icmp_ge (tgt := 158) dX10_fence_49 (by decide) (fun hc1 => ?_) (fun hc1 => ?_)
    · have h := sat_t hc1 h
      refine ab_iload 4 dX10_fence_158 rfl ?_
      refine ab_iconst (v := (-1)) dX10_fence_160 (by decide) ?_
      refine ab_icmp_eq (tgt := 171) dX10_fence_161 (by decide) (fun hc2 => ?_) (fun hc2 => ?_)
      · have h := sat_t hc2 h
        refine ab_sub [4] rfl ?_
        exact t_X10_fence_171 N a4 C h
      · have h := sat_f hc2 h
        refine ab_aloadn 0 dX10_fence_164 rfl ?_
        refine ab_iloadn 3 dX10_fence_165 rfl ?_
        refine ab_iloadn 2 dX10_fence_166 rfl ?_
        refine ab_isub dX10_fence_167 ?_
        refine fC_pi (x := 13) (ty := .int) ⟨by decide, by decide⟩ rfl rfl (Nat.le_of_ble_eq_true rfl) wd_277 (by decide) rfl h rfl (by decide +kernel) rfl rfl dX10_fence_168 (fun C3 h => ?_)
        refine ab_sub [4] rfl ?_
        exact t_X10_fence_171 N a4 C3 h
    · have h := sat_f hc1 h
      refine ab_aloadn 0 dX10_fence_52 rfl ?_
      refine f_gr (x := 4) (k2 := 2) (i2 := 0) (j2 := 0) ⟨by decide, by decide⟩ rfl rfl (Nat.le_of_ble_eq_true rfl) wd_124 rfl rfl dX10_fence_53 ?_
      refine fC_gd (x := 1) ⟨by decide, by decide⟩ rfl rfl (Nat.le_of_ble_eq_true rfl) wd_125 rfl h rfl dX10_fence_56 (fun y4 hy5 h => ?_)
      refine ab_iload 5 dX10_fence_59 rfl ?_
      refine fC_Vi (mtc := mt_X0_isCell) (As := [.int a5]) h (fun Q h => ct_X0_isCell y4 hy5 a5 C h) ⟨hy5, by decide⟩ rfl rfl rfl mw_X0_isCell wd_208 rfl rfl ⟨Nat.le_of_ble_eq_true rfl, Nat.le_of_ble_eq_true rfl⟩ ⟨Nat.zero_le _, Nat.zero_le _⟩ (Nat.le_of_ble_eq_true rfl) rfl dX10_fence_61 (fun v6 C7 h => ?_)
      refine ab_if_eq (tgt := 152) dX10_fence_64 (by decide) (fun hc8 => ?_) (fun hc8 => ?_)
      · have h := sat_t hc8 h
        refine ab_iinc (q := 5) (v := (a5 + 1)) (lv' := [(0, .ref (gA G 0 0 0)), (1, .int a1), (2, .int a2), (3, .int a3), (4, .int a4), (5, .int (a5 + 1))]) dX10_fence_152 rfl rfl rfl (Nat.le_of_ble_eq_true rfl) rfl ?_
        refine ab_goto (tgt := 45) dX10_fence_155 (by decide) ?_
        exact ih a3 a4 (a5 + 1) C7 h
      · have h := sat_f hc8 h
        refine ab_aloadn 0 dX10_fence_67 rfl ?_
        refine f_gr (x := 4) (k2 := 2) (i2 := 0) (j2 := 0) ⟨by decide, by decide⟩ rfl rfl (Nat.le_of_ble_eq_true rfl) wd_124 rfl rfl dX10_fence_68 ?_
        refine f_gr (x := 2) (k2 := 4) (i2 := 0) (j2 := 0) ⟨by decide, by decide⟩ rfl rfl (Nat.le_of_ble_eq_true rfl) wd_126 rfl rfl dX10_fence_71 ?_
        refine f_gr (x := 13) (k2 := 4) (i2 := 0) (j2 := 8) ⟨by decide, by decide⟩ rfl rfl (Nat.le_of_ble_eq_true rfl) wd_212 rfl rfl dX10_fence_74 ?_
        refine ab_iload 5 dX10_fence_77 rfl ?_
        refine fC_iald ⟨by decide, by decide⟩ rfl (by decide) (fun _ => rfl) h dX10_fence_79 (fun v9 h => ?_)
        refine ab_if_ne (tgt := 152) dX10_fence_80 (by decide) (fun hc10 => ?_) (fun hc10 => ?_)
        · have h := sat_f hc10 h
          refine ab_iinc (q := 5) (v := (a5 + 1)) (lv' := [(0, .ref (gA G 0 0 0)), (1, .int a1), (2, .int a2), (3, .int a3), (4, .int a4), (5, .int (a5 + 1))]) dX10_fence_152 rfl rfl rfl (Nat.le_of_ble_eq_true rfl) rfl ?_
          refine ab_goto (tgt := 45) dX10_fence_155 (by decide) ?_
          exact ih a3 a4 (a5 + 1) C7 h
        · have h := sat_t hc10 h
          refine ab_aloadn 0 dX10_fence_83 rfl ?_
          refine f_gr (x := 12) (k2 := 4) (i2 := 3) (j2 := 0) ⟨by decide, by decide⟩ rfl rfl (Nat.le_of_ble_eq_true rfl) wd_216 rfl rfl dX10_fence_84 ?_
          refine ab_aloadn 0 dX10_fence_87 rfl ?_
          refine f_gr (x := 4) (k2 := 2) (i2 := 0) (j2 := 0) ⟨by decide, by decide⟩ rfl rfl (Nat.le_of_ble_eq_true rfl) wd_124 rfl rfl dX10_fence_88 ?_
          refine f_gr (x := 2) (k2 := 4) (i2 := 0) (j2 := 0) ⟨by decide, by decide⟩ rfl rfl (Nat.le_of_ble_eq_true rfl) wd_126 rfl rfl dX10_fence_91 ?_
          refine fC_Vv (mtc := mt_X6_copy) (As := [.ref (gA G 4 0 0)]) h (fun Q h => ct_X6_copy 3 (by decide) 0 (by decide) C7 h) ⟨by decide, by decide⟩ rfl rfl rfl mw_X6_copy wd_217 rfl rfl ⟨Nat.le_of_ble_eq_true rfl, Nat.le_of_ble_eq_true rfl⟩ ⟨Nat.zero_le _, Nat.zero_le _⟩ (Nat.le_of_ble_eq_true rfl) rfl dX10_fence_94 (fun v11 C12 h => ?_)
          refine ab_aloadn 0 dX10_fence_97 rfl ?_
          refine f_gr (x := 12) (k2 := 4) (i2 := 3) (j2 := 0) ⟨by decide, by decide⟩ rfl rfl (Nat.le_of_ble_eq_true rfl) wd_216 rfl rfl dX10_fence_98 ?_
          refine ab_iload 5 dX10_fence_101 rfl ?_
          refine fC_Vv (mtc := mt_X6_putFence) (As := [.int a5]) h (fun Q h => ct_X6_putFence 3 (by decide) a5 C12 h) ⟨by decide, by decide⟩ rfl rfl rfl mw_X6_putFence wd_267 rfl rfl ⟨Nat.le_of_ble_eq_true rfl, Nat.le_of_ble_eq_true rfl⟩ ⟨Nat.zero_le _, Nat.zero_le _⟩ (Nat.le_of_ble_eq_true rfl) rfl dX10_fence_103 (fun v13 C14 h => ?_)
          refine ab_aloadn 0 dX10_fence_106 rfl ?_
          refine f_gr (x := 10) (k2 := 8) (i2 := 0) (j2 := 0) ⟨by decide, by decide⟩ rfl rfl (Nat.le_of_ble_eq_true rfl) wd_218 rfl rfl dX10_fence_107 ?_
          refine ab_aloadn 0 dX10_fence_110 rfl ?_
          refine f_gr (x := 4) (k2 := 2) (i2 := 0) (j2 := 0) ⟨by decide, by decide⟩ rfl rfl (Nat.le_of_ble_eq_true rfl) wd_124 rfl rfl dX10_fence_111 ?_
          refine fC_gd (x := 1) ⟨by decide, by decide⟩ rfl rfl (Nat.le_of_ble_eq_true rfl) wd_125 rfl h rfl dX10_fence_114 (fun y15 hy16 h => ?_)
          refine ab_aloadn 0 dX10_fence_117 rfl ?_
          refine f_gr (x := 12) (k2 := 4) (i2 := 3) (j2 := 0) ⟨by decide, by decide⟩ rfl rfl (Nat.le_of_ble_eq_true rfl) wd_216 rfl rfl dX10_fence_118 ?_
          refine ab_bipush (v := 48) dX10_fence_121 (by decide) ?_
          refine fC_Vi (mtc := mt_X9_pass) (As := [.ref (gA G 3 y15 0), .ref (gA G 4 3 0), .int 48]) h (fun Q h => ct_X9_pass N y15 hy16 3 (by decide) 48 C14 h) ⟨by decide, by decide⟩ rfl rfl rfl mw_X9_pass wd_265 rfl rfl ⟨Nat.le_of_ble_eq_true rfl, Nat.le_of_ble_eq_true rfl⟩ ⟨Nat.zero_le _, Nat.zero_le _⟩ (Nat.le_of_ble_eq_true rfl) rfl dX10_fence_123 (fun v17 C18 h => ?_)
          refine ab_pop dX10_fence_126 rfl ?_
          refine ab_aloadn 0 dX10_fence_127 rfl ?_
          refine f_gr (x := 12) (k2 := 4) (i2 := 3) (j2 := 0) ⟨by decide, by decide⟩ rfl rfl (Nat.le_of_ble_eq_true rfl) wd_216 rfl rfl dX10_fence_128 ?_
          refine ab_iloadn 1 dX10_fence_131 rfl ?_
          refine fC_Vi (mtc := mt_X6_wealth) (As := [.int a1]) h (fun Q h => ct_X6_wealth 3 (by decide) a1 C18 h) ⟨by decide, by decide⟩ rfl rfl rfl mw_X6_wealth wd_275 rfl rfl ⟨Nat.le_of_ble_eq_true rfl, Nat.le_of_ble_eq_true rfl⟩ ⟨Nat.zero_le _, Nat.zero_le _⟩ (Nat.le_of_ble_eq_true rfl) rfl dX10_fence_132 (fun v19 C20 h => ?_)
          refine ab_iloadn 3 dX10_fence_135 rfl ?_
          refine ab_icmp_le (tgt := 152) dX10_fence_136 (by decide) (fun hc21 => ?_) (fun hc21 => ?_)
          · have h := sat_t hc21 h
            refine ab_iinc (q := 5) (v := (a5 + 1)) (lv' := [(0, .ref (gA G 0 0 0)), (1, .int a1), (2, .int a2), (3, .int a3), (4, .int a4), (5, .int (a5 + 1))]) dX10_fence_152 rfl rfl rfl (Nat.le_of_ble_eq_true rfl) rfl ?_
            refine ab_goto (tgt := 45) dX10_fence_155 (by decide) ?_
            exact ih a3 a4 (a5 + 1) C20 h
          · have h := sat_f hc21 h
            refine ab_aloadn 0 dX10_fence_139 rfl ?_
            refine f_gr (x := 12) (k2 := 4) (i2 := 3) (j2 := 0) ⟨by decide, by decide⟩ rfl rfl (Nat.le_of_ble_eq_true rfl) wd_216 rfl rfl dX10_fence_140 ?_
            refine ab_iloadn 1 dX10_fence_143 rfl ?_
            refine fC_Vi (mtc := mt_X6_wealth) (As := [.int a1]) h (fun Q h => ct_X6_wealth 3 (by decide) a1 C20 h) ⟨by decide, by decide⟩ rfl rfl rfl mw_X6_wealth wd_275 rfl rfl ⟨Nat.le_of_ble_eq_true rfl, Nat.le_of_ble_eq_true rfl⟩ ⟨Nat.zero_le _, Nat.zero_le _⟩ (Nat.le_of_ble_eq_true rfl) rfl dX10_fence_144 (fun v22 C23 h => ?_)
            refine ab_istoren (lv' := [(0, .ref (gA G 0 0 0)), (1, .int a1), (2, .int a2), (3, .int v22), (4, .int a4), (5, .int a5)]) dX10_fence_147 rfl (Nat.le_of_ble_eq_true rfl) rfl ?_
            refine ab_iload 5 dX10_fence_148 rfl ?_
            refine ab_istore (lv' := [(0, .ref (gA G 0 0 0)), (1, .int a1), (2, .int a2), (3, .int v22), (4, .int a5), (5, .int a5)]) dX10_fence_150 rfl (Nat.le_of_ble_eq_true rfl) rfl ?_
            refine ab_iinc (q := 5) (v := (a5 + 1)) (lv' := [(0, .ref (gA G 0 0 0)), (1, .int a1), (2, .int a2), (3, .int v22), (4, .int a5), (5, .int (a5 + 1))]) dX10_fence_152 rfl rfl rfl (Nat.le_of_ble_eq_true rfl) rfl ?_
            refine ab_goto (tgt := 45) dX10_fence_155 (by decide) ?_
            exact ih v22 a5 (a5 + 1) C23 h
set_option maxRecDepth 8000 in
theorem t_X10_fence_0 {l : Launch} {G : GX} {X : XM} {Q : Int32 → Mem → Prop} (N : Nat) (a1 : Int32) (C : CM) (h : SAT (f_X10_fence N a1 C) (fun v c => Q v (c, X))) : AB l G (rmD 6) 0 0 mt_X10_fence (ZQ G mt_X10_fence Q) 0 [(0, .ref (gA G 0 0 0)), (1, .int a1)] [] (C, X) := by
  unfold f_X10_fence at h
  refine ab_aloadn 0 dX10_fence_0 rfl ?_
  refine f_gr (x := 4) (k2 := 2) (i2 := 0) (j2 := 0) ⟨by decide, by decide⟩ rfl rfl (Nat.le_of_ble_eq_true rfl) wd_124 rfl rfl dX10_fence_1 ?_
  refine fC_gd (x := 1) ⟨by decide, by decide⟩ rfl rfl (Nat.le_of_ble_eq_true rfl) wd_125 rfl h rfl dX10_fence_4 (fun y1 hy2 h => ?_)
  refine ab_iloadn 1 dX10_fence_7 rfl ?_
  refine fC_Vi (mtc := mt_X0_isOwner) (As := [.int a1]) h (fun Q h => ct_X0_isOwner y1 hy2 a1 C h) ⟨hy2, by decide⟩ rfl rfl rfl mw_X0_isOwner wd_232 rfl rfl ⟨Nat.le_of_ble_eq_true rfl, Nat.le_of_ble_eq_true rfl⟩ ⟨Nat.zero_le _, Nat.zero_le _⟩ (Nat.le_of_ble_eq_true rfl) rfl dX10_fence_8 (fun v3 C4 h => ?_)
  refine ab_if_eq (tgt := 29) dX10_fence_11 (by decide) (fun hc5 => ?_) (fun hc5 => ?_)
  · have h := sat_t hc5 h
    refine ab_iconst (v := (-1)) dX10_fence_29 (by decide) ?_
    exact fC_iret h rfl rfl dX10_fence_30
  · have h := sat_f hc5 h
    refine ab_aloadn 0 dX10_fence_14 rfl ?_
    refine f_gr (x := 4) (k2 := 2) (i2 := 0) (j2 := 0) ⟨by decide, by decide⟩ rfl rfl (Nat.le_of_ble_eq_true rfl) wd_124 rfl rfl dX10_fence_15 ?_
    refine f_gr (x := 2) (k2 := 4) (i2 := 0) (j2 := 0) ⟨by decide, by decide⟩ rfl rfl (Nat.le_of_ble_eq_true rfl) wd_126 rfl rfl dX10_fence_18 ?_
    refine fC_gi (x := 2) ⟨by decide, by decide⟩ rfl rfl (Nat.le_of_ble_eq_true rfl) wd_191 (by decide) rfl dX10_fence_21 ?_
    refine ab_bipush (v := 12) dX10_fence_24 (by decide) ?_
    refine ab_icmp_lt (tgt := 31) dX10_fence_26 (by decide) (fun hc6 => ?_) (fun hc6 => ?_)
    · have h := sat_t hc6 h
      refine ab_aloadn 0 dX10_fence_31 rfl ?_
      refine ab_iloadn 1 dX10_fence_32 rfl ?_
      refine fC_Vi (mtc := mt_X10_wealthAtEnd) (As := [.int a1]) h (fun Q h => ct_X10_wealthAtEnd N a1 C4 h) ⟨by decide, by decide⟩ rfl rfl rfl mw_X10_wealthAtEnd wd_276 rfl rfl ⟨Nat.le_of_ble_eq_true rfl, Nat.le_of_ble_eq_true rfl⟩ ⟨Nat.zero_le _, Nat.zero_le _⟩ (Nat.le_of_ble_eq_true rfl) rfl dX10_fence_33 (fun v7 C8 h => ?_)
      refine ab_istoren (lv' := [(0, .ref (gA G 0 0 0)), (1, .int a1), (2, .int v7)]) dX10_fence_36 rfl (Nat.le_of_ble_eq_true rfl) rfl ?_
      refine ab_iloadn 2 dX10_fence_37 rfl ?_
      refine ab_istoren (lv' := [(0, .ref (gA G 0 0 0)), (1, .int a1), (2, .int v7), (3, .int v7)]) dX10_fence_38 rfl (Nat.le_of_ble_eq_true rfl) rfl ?_
      refine ab_iconst (v := (-1)) dX10_fence_39 (by decide) ?_
      refine ab_istore (lv' := [(0, .ref (gA G 0 0 0)), (1, .int a1), (2, .int v7), (3, .int v7), (4, .int (-1))]) dX10_fence_40 rfl (Nat.le_of_ble_eq_true rfl) rfl ?_
      refine ab_iconst (v := 0) dX10_fence_42 (by decide) ?_
      refine ab_istore (lv' := [(0, .ref (gA G 0 0 0)), (1, .int a1), (2, .int v7), (3, .int v7), (4, .int (-1)), (5, .int 0)]) dX10_fence_43 rfl (Nat.le_of_ble_eq_true rfl) rfl ?_
      exact t_X10_fence_45 N a1 v7 N v7 (-1) 0 C8 h
    · have h := sat_f hc6 h
      refine ab_iconst (v := (-1)) dX10_fence_29 (by decide) ?_
      exact fC_iret h rfl rfl dX10_fence_30
theorem ct_X10_fence {l : Launch} {G : GX} {X : XM} {Q : Int32 → Mem → Prop} (N : Nat) (a1 : Int32) (C : CM) (h : SAT (f_X10_fence N a1 C) (fun v c => Q v (c, X))) : CT l G 6 mt_X10_fence [.ref (gA G 0 0 0), .int a1] (C, X) Q := ct_of pn_X10 (Nat.le_of_ble_eq_true rfl) (t_X10_fence_0 N a1 C h)
def f_X10_more (C : CM) : Option (Int32 × CM) := (rt (C.1 0 0 0 13) C)
set_option maxRecDepth 8000 in
theorem t_X10_more_0 {l : Launch} {G : GX} {X : XM} {Q : Int32 → Mem → Prop} (C : CM) (h : SAT (f_X10_more C) (fun v c => Q v (c, X))) : AB l G (rmD 1) 0 0 mt_X10_more (ZQ G mt_X10_more Q) 0 [(0, .ref (gA G 0 0 0))] [] (C, X) := by
  unfold f_X10_more at h
  refine ab_aloadn 0 dX10_more_0 rfl ?_
  refine fC_gi (x := 13) ⟨by decide, by decide⟩ rfl rfl (Nat.le_of_ble_eq_true rfl) wd_277 (by decide) rfl dX10_more_1 ?_
  exact fC_iret h rfl rfl dX10_more_4
theorem ct_X10_more {l : Launch} {G : GX} {X : XM} {Q : Int32 → Mem → Prop} (C : CM) (h : SAT (f_X10_more C) (fun v c => Q v (c, X))) : CT l G 1 mt_X10_more [.ref (gA G 0 0 0)] (C, X) Q := ct_of pn_X10 (Nat.le_of_ble_eq_true rfl) (t_X10_more_0 C h)
def f_X10_suit (N : Nat) (a1 : Int32) (a2 : Int32) (C : CM) : Option (Int32 × CM) := ldR (C.2 2 0 1) 4 (fun y1 => cal (f_X0_isOwner y1 a1 C) (fun v3 C4 => (if v3 = 0 then (rt (-10001) C4) else cal (f_X6_whyNoFelling 0 a2 C4) (fun v6 C7 => (if v6 = 0 then cal (f_X10_wealthAtEnd N a1 C7) (fun v9 C10 => cal (f_X6_copy 3 0 C10) (fun v11 C12 => ldR (C12.2 2 0 1) 4 (fun y13 => cal (f_X6_takeTree 3 y13 a2 C12) (fun v15 C16 => ldR (C16.2 2 0 1) 4 (fun y17 => cal (f_X9_pass N y17 3 48 C16) (fun v19 C20 => cal (f_X6_wealth 3 a1 C20) (fun v21 C22 => (rt (v21 - v9) C22)))))))) else (rt (-10001) C7))))))
set_option maxRecDepth 8000 in
theorem t_X10_suit_0 {l : Launch} {G : GX} {X : XM} {Q : Int32 → Mem → Prop} (N : Nat) (a1 : Int32) (a2 : Int32) (C : CM) (h : SAT (f_X10_suit N a1 a2 C) (fun v c => Q v (c, X))) : AB l G (rmD 6) 0 0 mt_X10_suit (ZQ G mt_X10_suit Q) 0 [(0, .ref (gA G 0 0 0)), (1, .int a1), (2, .int a2)] [] (C, X) := by
  unfold f_X10_suit at h
  refine ab_aloadn 0 dX10_suit_0 rfl ?_
  refine f_gr (x := 4) (k2 := 2) (i2 := 0) (j2 := 0) ⟨by decide, by decide⟩ rfl rfl (Nat.le_of_ble_eq_true rfl) wd_124 rfl rfl dX10_suit_1 ?_
  refine fC_gd (x := 1) ⟨by decide, by decide⟩ rfl rfl (Nat.le_of_ble_eq_true rfl) wd_125 rfl h rfl dX10_suit_4 (fun y1 hy2 h => ?_)
  refine ab_iloadn 1 dX10_suit_7 rfl ?_
  refine fC_Vi (mtc := mt_X0_isOwner) (As := [.int a1]) h (fun Q h => ct_X0_isOwner y1 hy2 a1 C h) ⟨hy2, by decide⟩ rfl rfl rfl mw_X0_isOwner wd_232 rfl rfl ⟨Nat.le_of_ble_eq_true rfl, Nat.le_of_ble_eq_true rfl⟩ ⟨Nat.zero_le _, Nat.zero_le _⟩ (Nat.le_of_ble_eq_true rfl) rfl dX10_suit_8 (fun v3 C4 h => ?_)
  refine ab_if_eq (tgt := 28) dX10_suit_11 (by decide) (fun hc5 => ?_) (fun hc5 => ?_)
  · have h := sat_t hc5 h
    refine ab_sipush (v := (-10001)) dX10_suit_28 (by decide) ?_
    exact fC_iret h rfl rfl dX10_suit_31
  · have h := sat_f hc5 h
    refine ab_aloadn 0 dX10_suit_14 rfl ?_
    refine f_gr (x := 4) (k2 := 2) (i2 := 0) (j2 := 0) ⟨by decide, by decide⟩ rfl rfl (Nat.le_of_ble_eq_true rfl) wd_124 rfl rfl dX10_suit_15 ?_
    refine f_gr (x := 2) (k2 := 4) (i2 := 0) (j2 := 0) ⟨by decide, by decide⟩ rfl rfl (Nat.le_of_ble_eq_true rfl) wd_126 rfl rfl dX10_suit_18 ?_
    refine ab_iloadn 2 dX10_suit_21 rfl ?_
    refine fC_Vi (mtc := mt_X6_whyNoFelling) (As := [.int a2]) h (fun Q h => ct_X6_whyNoFelling 0 (by decide) a2 C4 h) ⟨by decide, by decide⟩ rfl rfl rfl mw_X6_whyNoFelling wd_268 rfl rfl ⟨Nat.le_of_ble_eq_true rfl, Nat.le_of_ble_eq_true rfl⟩ ⟨Nat.zero_le _, Nat.zero_le _⟩ (Nat.le_of_ble_eq_true rfl) rfl dX10_suit_22 (fun v6 C7 h => ?_)
    refine ab_if_eq (tgt := 32) dX10_suit_25 (by decide) (fun hc8 => ?_) (fun hc8 => ?_)
    · have h := sat_t hc8 h
      refine ab_aloadn 0 dX10_suit_32 rfl ?_
      refine ab_iloadn 1 dX10_suit_33 rfl ?_
      refine fC_Vi (mtc := mt_X10_wealthAtEnd) (As := [.int a1]) h (fun Q h => ct_X10_wealthAtEnd N a1 C7 h) ⟨by decide, by decide⟩ rfl rfl rfl mw_X10_wealthAtEnd wd_276 rfl rfl ⟨Nat.le_of_ble_eq_true rfl, Nat.le_of_ble_eq_true rfl⟩ ⟨Nat.zero_le _, Nat.zero_le _⟩ (Nat.le_of_ble_eq_true rfl) rfl dX10_suit_34 (fun v9 C10 h => ?_)
      refine ab_istoren (lv' := [(0, .ref (gA G 0 0 0)), (1, .int a1), (2, .int a2), (3, .int v9)]) dX10_suit_37 rfl (Nat.le_of_ble_eq_true rfl) rfl ?_
      refine ab_aloadn 0 dX10_suit_38 rfl ?_
      refine f_gr (x := 12) (k2 := 4) (i2 := 3) (j2 := 0) ⟨by decide, by decide⟩ rfl rfl (Nat.le_of_ble_eq_true rfl) wd_216 rfl rfl dX10_suit_39 ?_
      refine ab_aloadn 0 dX10_suit_42 rfl ?_
      refine f_gr (x := 4) (k2 := 2) (i2 := 0) (j2 := 0) ⟨by decide, by decide⟩ rfl rfl (Nat.le_of_ble_eq_true rfl) wd_124 rfl rfl dX10_suit_43 ?_
      refine f_gr (x := 2) (k2 := 4) (i2 := 0) (j2 := 0) ⟨by decide, by decide⟩ rfl rfl (Nat.le_of_ble_eq_true rfl) wd_126 rfl rfl dX10_suit_46 ?_
      refine fC_Vv (mtc := mt_X6_copy) (As := [.ref (gA G 4 0 0)]) h (fun Q h => ct_X6_copy 3 (by decide) 0 (by decide) C10 h) ⟨by decide, by decide⟩ rfl rfl rfl mw_X6_copy wd_217 rfl rfl ⟨Nat.le_of_ble_eq_true rfl, Nat.le_of_ble_eq_true rfl⟩ ⟨Nat.zero_le _, Nat.zero_le _⟩ (Nat.le_of_ble_eq_true rfl) rfl dX10_suit_49 (fun v11 C12 h => ?_)
      refine ab_aloadn 0 dX10_suit_52 rfl ?_
      refine f_gr (x := 12) (k2 := 4) (i2 := 3) (j2 := 0) ⟨by decide, by decide⟩ rfl rfl (Nat.le_of_ble_eq_true rfl) wd_216 rfl rfl dX10_suit_53 ?_
      refine ab_aloadn 0 dX10_suit_56 rfl ?_
      refine f_gr (x := 4) (k2 := 2) (i2 := 0) (j2 := 0) ⟨by decide, by decide⟩ rfl rfl (Nat.le_of_ble_eq_true rfl) wd_124 rfl rfl dX10_suit_57 ?_
      refine fC_gd (x := 1) ⟨by decide, by decide⟩ rfl rfl (Nat.le_of_ble_eq_true rfl) wd_125 rfl h rfl dX10_suit_60 (fun y13 hy14 h => ?_)
      refine ab_iloadn 2 dX10_suit_63 rfl ?_
      refine fC_Vv (mtc := mt_X6_takeTree) (As := [.ref (gA G 3 y13 0), .int a2]) h (fun Q h => ct_X6_takeTree 3 (by decide) y13 hy14 a2 C12 h) ⟨by decide, by decide⟩ rfl rfl rfl mw_X6_takeTree wd_270 rfl rfl ⟨Nat.le_of_ble_eq_true rfl, Nat.le_of_ble_eq_true rfl⟩ ⟨Nat.zero_le _, Nat.zero_le _⟩ (Nat.le_of_ble_eq_true rfl) rfl dX10_suit_64 (fun v15 C16 h => ?_)
      refine ab_aloadn 0 dX10_suit_67 rfl ?_
      refine f_gr (x := 10) (k2 := 8) (i2 := 0) (j2 := 0) ⟨by decide, by decide⟩ rfl rfl (Nat.le_of_ble_eq_true rfl) wd_218 rfl rfl dX10_suit_68 ?_
      refine ab_aloadn 0 dX10_suit_71 rfl ?_
      refine f_gr (x := 4) (k2 := 2) (i2 := 0) (j2 := 0) ⟨by decide, by decide⟩ rfl rfl (Nat.le_of_ble_eq_true rfl) wd_124 rfl rfl dX10_suit_72 ?_
      refine fC_gd (x := 1) ⟨by decide, by decide⟩ rfl rfl (Nat.le_of_ble_eq_true rfl) wd_125 rfl h rfl dX10_suit_75 (fun y17 hy18 h => ?_)
      refine ab_aloadn 0 dX10_suit_78 rfl ?_
      refine f_gr (x := 12) (k2 := 4) (i2 := 3) (j2 := 0) ⟨by decide, by decide⟩ rfl rfl (Nat.le_of_ble_eq_true rfl) wd_216 rfl rfl dX10_suit_79 ?_
      refine ab_bipush (v := 48) dX10_suit_82 (by decide) ?_
      refine fC_Vi (mtc := mt_X9_pass) (As := [.ref (gA G 3 y17 0), .ref (gA G 4 3 0), .int 48]) h (fun Q h => ct_X9_pass N y17 hy18 3 (by decide) 48 C16 h) ⟨by decide, by decide⟩ rfl rfl rfl mw_X9_pass wd_265 rfl rfl ⟨Nat.le_of_ble_eq_true rfl, Nat.le_of_ble_eq_true rfl⟩ ⟨Nat.zero_le _, Nat.zero_le _⟩ (Nat.le_of_ble_eq_true rfl) rfl dX10_suit_84 (fun v19 C20 h => ?_)
      refine ab_pop dX10_suit_87 rfl ?_
      refine ab_aloadn 0 dX10_suit_88 rfl ?_
      refine f_gr (x := 12) (k2 := 4) (i2 := 3) (j2 := 0) ⟨by decide, by decide⟩ rfl rfl (Nat.le_of_ble_eq_true rfl) wd_216 rfl rfl dX10_suit_89 ?_
      refine ab_iloadn 1 dX10_suit_92 rfl ?_
      refine fC_Vi (mtc := mt_X6_wealth) (As := [.int a1]) h (fun Q h => ct_X6_wealth 3 (by decide) a1 C20 h) ⟨by decide, by decide⟩ rfl rfl rfl mw_X6_wealth wd_275 rfl rfl ⟨Nat.le_of_ble_eq_true rfl, Nat.le_of_ble_eq_true rfl⟩ ⟨Nat.zero_le _, Nat.zero_le _⟩ (Nat.le_of_ble_eq_true rfl) rfl dX10_suit_93 (fun v21 C22 h => ?_)
      refine ab_iloadn 3 dX10_suit_96 rfl ?_
      refine ab_isub dX10_suit_97 ?_
      exact fC_iret h rfl rfl dX10_suit_98
    · have h := sat_f hc8 h
      refine ab_sipush (v := (-10001)) dX10_suit_28 (by decide) ?_
      exact fC_iret h rfl rfl dX10_suit_31
theorem ct_X10_suit {l : Launch} {G : GX} {X : XM} {Q : Int32 → Mem → Prop} (N : Nat) (a1 : Int32) (a2 : Int32) (C : CM) (h : SAT (f_X10_suit N a1 a2 C) (fun v c => Q v (c, X))) : CT l G 6 mt_X10_suit [.ref (gA G 0 0 0), .int a1, .int a2] (C, X) Q := ct_of pn_X10 (Nat.le_of_ble_eq_true rfl) (t_X10_suit_0 N a1 a2 C h)
def f_X10_freePlots_4 (N : Nat) : Nat → Int32 → Int32 → CM → Option (Int32 × CM)
  | 0, _, _, _ => none
  | n + 1, a1, a2, C => ldR (C.2 2 0 1) 4 (fun y1 => (if (C.1 3 y1 6 0) ≤ a2 then (rt a1 C) else ldR (C.2 2 0 1) 4 (fun y4 => ldA (C.1 3 y4 14) 8 a2 (fun v6 => (if v6 < 0 then (f_X10_freePlots_4 N n a1 (a2 + 1) C) else (if 100 ≤ v6 then (f_X10_freePlots_4 N n a1 (a2 + 1) C) else ldA (C.1 4 0 8) 100 v6 (fun v9 => (if v9 = 0 then (f_X10_freePlots_4 N n (a1 ||| ((1 : Int32) <<< (a2 &&& 31))) (a2 + 1) C) else (f_X10_freePlots_4 N n a1 (a2 + 1) C)))))))))
def f_X10_freePlots (N : Nat) (C : CM) : Option (Int32 × CM) := (f_X10_freePlots_4 N N 0 0 C)
set_option maxRecDepth 8000 in
theorem t_X10_freePlots_4 {l : Launch} {G : GX} {X : XM} {Q : Int32 → Mem → Prop} (N : Nat) : ∀ (n : Nat) (a1 : Int32) (a2 : Int32) (C : CM), SAT (f_X10_freePlots_4 N n a1 a2 C) (fun v c => Q v (c, X)) → AB l G (rmD 1) 0 0 mt_X10_freePlots (ZQ G mt_X10_freePlots Q) 4 [(0, .ref (gA G 0 0 0)), (1, .int a1), (2, .int a2)] [] (C, X) := by
  intro n
  induction n with
  | zero => intro a1 a2 C h; exact h.elim
  | succ n ih =>
    intro a1 a2 C h
    rw [f_X10_freePlots_4] at h
    refine ab_iloadn 2 dX10_freePlots_4 rfl ?_
    refine ab_aloadn 0 dX10_freePlots_5 rfl ?_
    refine f_gr (x := 4) (k2 := 2) (i2 := 0) (j2 := 0) ⟨by decide, by decide⟩ rfl rfl (Nat.le_of_ble_eq_true rfl) wd_124 rfl rfl dX10_freePlots_6 ?_
    refine fC_gd (x := 1) ⟨by decide, by decide⟩ rfl rfl (Nat.le_of_ble_eq_true rfl) wd_125 rfl h rfl dX10_freePlots_9 (fun y1 hy2 h => ?_)
    refine f_gr (x := 10) (k2 := 3) (i2 := y1) (j2 := 6) ⟨hy2, by decide⟩ rfl rfl (Nat.le_of_ble_eq_true rfl) wd_202 rfl rfl dX10_freePlots_12 ?_
    refine fC_gi (x := 0) ⟨hy2, by decide⟩ rfl rfl (Nat.le_of_ble_eq_true rfl) wd_203 (by decide) rfl dX10_freePlots_15 ?_
    refine ab_icmp_ge (tgt := 74) dX10_freePlots_18 (by decide) (fun hc3 => ?_) (fun hc3 => ?_)
    · have h := sat_t hc3 h
      refine ab_iloadn 1 dX10_freePlots_74 rfl ?_
      exact fC_iret h rfl rfl dX10_freePlots_75
    · have h := sat_f hc3 h
      refine ab_aloadn 0 dX10_freePlots_21 rfl ?_
      refine f_gr (x := 4) (k2 := 2) (i2 := 0) (j2 := 0) ⟨by decide, by decide⟩ rfl rfl (Nat.le_of_ble_eq_true rfl) wd_124 rfl rfl dX10_freePlots_22 ?_
      refine fC_gd (x := 1) ⟨by decide, by decide⟩ rfl rfl (Nat.le_of_ble_eq_true rfl) wd_125 rfl h rfl dX10_freePlots_25 (fun y4 hy5 h => ?_)
      refine f_gr (x := 10) (k2 := 3) (i2 := y4) (j2 := 6) ⟨hy5, by decide⟩ rfl rfl (Nat.le_of_ble_eq_true rfl) wd_202 rfl rfl dX10_freePlots_28 ?_
      refine f_gr (x := 9) (k2 := 3) (i2 := y4) (j2 := 14) ⟨hy5, by decide⟩ rfl rfl (Nat.le_of_ble_eq_true rfl) wd_278 rfl rfl dX10_freePlots_31 ?_
      refine ab_iloadn 2 dX10_freePlots_34 rfl ?_
      refine fC_iald ⟨hy5, by decide⟩ rfl (by decide) (fun _ => rfl) h dX10_freePlots_35 (fun v6 h => ?_)
      refine ab_istoren (lv' := [(0, .ref (gA G 0 0 0)), (1, .int a1), (2, .int a2), (3, .int v6)]) dX10_freePlots_36 rfl (Nat.le_of_ble_eq_true rfl) rfl ?_
      refine ab_iloadn 3 dX10_freePlots_37 rfl ?_
      refine ab_if_lt (tgt := 68) dX10_freePlots_38 (by decide) (fun hc7 => ?_) (fun hc7 => ?_)
      · have h := sat_t hc7 h
        refine ab_iinc (q := 2) (v := (a2 + 1)) (lv' := [(0, .ref (gA G 0 0 0)), (1, .int a1), (2, .int (a2 + 1)), (3, .int v6)]) dX10_freePlots_68 rfl rfl rfl (Nat.le_of_ble_eq_true rfl) rfl ?_
        refine ab_goto (tgt := 4) dX10_freePlots_71 (by decide) ?_
        refine ab_sub [0, 1, 2] rfl ?_
        exact ih a1 (a2 + 1) C h
      · have h := sat_f hc7 h
        refine ab_iloadn 3 dX10_freePlots_41 rfl ?_
        refine ab_bipush (v := 100) dX10_freePlots_42 (by decide) ?_
        refine ab_icmp_ge (tgt := 68) dX10_freePlots_44 (by decide) (fun hc8 => ?_) (fun hc8 => ?_)
        · have h := sat_t hc8 h
          refine ab_iinc (q := 2) (v := (a2 + 1)) (lv' := [(0, .ref (gA G 0 0 0)), (1, .int a1), (2, .int (a2 + 1)), (3, .int v6)]) dX10_freePlots_68 rfl rfl rfl (Nat.le_of_ble_eq_true rfl) rfl ?_
          refine ab_goto (tgt := 4) dX10_freePlots_71 (by decide) ?_
          refine ab_sub [0, 1, 2] rfl ?_
          exact ih a1 (a2 + 1) C h
        · have h := sat_f hc8 h
          refine ab_aloadn 0 dX10_freePlots_47 rfl ?_
          refine f_gr (x := 4) (k2 := 2) (i2 := 0) (j2 := 0) ⟨by decide, by decide⟩ rfl rfl (Nat.le_of_ble_eq_true rfl) wd_124 rfl rfl dX10_freePlots_48 ?_
          refine f_gr (x := 2) (k2 := 4) (i2 := 0) (j2 := 0) ⟨by decide, by decide⟩ rfl rfl (Nat.le_of_ble_eq_true rfl) wd_126 rfl rfl dX10_freePlots_51 ?_
          refine f_gr (x := 13) (k2 := 4) (i2 := 0) (j2 := 8) ⟨by decide, by decide⟩ rfl rfl (Nat.le_of_ble_eq_true rfl) wd_212 rfl rfl dX10_freePlots_54 ?_
          refine ab_iloadn 3 dX10_freePlots_57 rfl ?_
          refine fC_iald ⟨by decide, by decide⟩ rfl (by decide) (fun _ => rfl) h dX10_freePlots_58 (fun v9 h => ?_)
          refine ab_if_ne (tgt := 68) dX10_freePlots_59 (by decide) (fun hc10 => ?_) (fun hc10 => ?_)
          · have h := sat_f hc10 h
            refine ab_iinc (q := 2) (v := (a2 + 1)) (lv' := [(0, .ref (gA G 0 0 0)), (1, .int a1), (2, .int (a2 + 1)), (3, .int v6)]) dX10_freePlots_68 rfl rfl rfl (Nat.le_of_ble_eq_true rfl) rfl ?_
            refine ab_goto (tgt := 4) dX10_freePlots_71 (by decide) ?_
            refine ab_sub [0, 1, 2] rfl ?_
            exact ih a1 (a2 + 1) C h
          · have h := sat_t hc10 h
            refine ab_iloadn 1 dX10_freePlots_62 rfl ?_
            refine ab_iconst (v := 1) dX10_freePlots_63 (by decide) ?_
            refine ab_iloadn 2 dX10_freePlots_64 rfl ?_
            refine ab_ishl dX10_freePlots_65 ?_
            refine ab_ior dX10_freePlots_66 ?_
            refine ab_istoren (lv' := [(0, .ref (gA G 0 0 0)), (1, .int (a1 ||| ((1 : Int32) <<< (a2 &&& 31)))), (2, .int a2), (3, .int v6)]) dX10_freePlots_67 rfl (Nat.le_of_ble_eq_true rfl) rfl ?_
            refine ab_iinc (q := 2) (v := (a2 + 1)) (lv' := [(0, .ref (gA G 0 0 0)), (1, .int (a1 ||| ((1 : Int32) <<< (a2 &&& 31)))), (2, .int (a2 + 1)), (3, .int v6)]) dX10_freePlots_68 rfl rfl rfl (Nat.le_of_ble_eq_true rfl) rfl ?_
            refine ab_goto (tgt := 4) dX10_freePlots_71 (by decide) ?_
            refine ab_sub [0, 1, 2] rfl ?_
            exact ih (a1 ||| ((1 : Int32) <<< (a2 &&& 31))) (a2 + 1) C h
set_option maxRecDepth 8000 in
theorem t_X10_freePlots_0 {l : Launch} {G : GX} {X : XM} {Q : Int32 → Mem → Prop} (N : Nat) (C : CM) (h : SAT (f_X10_freePlots N C) (fun v c => Q v (c, X))) : AB l G (rmD 1) 0 0 mt_X10_freePlots (ZQ G mt_X10_freePlots Q) 0 [(0, .ref (gA G 0 0 0))] [] (C, X) := by
  unfold f_X10_freePlots at h
  refine ab_iconst (v := 0) dX10_freePlots_0 (by decide) ?_
  refine ab_istoren (lv' := [(0, .ref (gA G 0 0 0)), (1, .int 0)]) dX10_freePlots_1 rfl (Nat.le_of_ble_eq_true rfl) rfl ?_
  refine ab_iconst (v := 0) dX10_freePlots_2 (by decide) ?_
  refine ab_istoren (lv' := [(0, .ref (gA G 0 0 0)), (1, .int 0), (2, .int 0)]) dX10_freePlots_3 rfl (Nat.le_of_ble_eq_true rfl) rfl ?_
  exact t_X10_freePlots_4 N N 0 0 C h
theorem ct_X10_freePlots {l : Launch} {G : GX} {X : XM} {Q : Int32 → Mem → Prop} (N : Nat) (C : CM) (h : SAT (f_X10_freePlots N C) (fun v c => Q v (c, X))) : CT l G 1 mt_X10_freePlots [.ref (gA G 0 0 0)] (C, X) Q := ct_of pn_X10 (Nat.le_of_ble_eq_true rfl) (t_X10_freePlots_0 N C h)
def f_X10_tryPlots_16 (N : Nat) (a1 : Int32) : Nat → Int32 → CM → Option (Int32 × CM)
  | 0, _, _ => none
  | n + 1, a2, C => ldR (C.2 2 0 1) 4 (fun y1 => (if (C.1 3 y1 6 0) ≤ a2 then ldR (C.2 2 0 1) 4 (fun y4 => cal (f_X9_pass N y4 3 48 C) (fun v6 C7 => (rt 0 C7))) else ldR (C.2 2 0 1) 4 (fun y8 => ldA (C.1 3 y8 14) 8 a2 (fun v10 => (if ((a1 >>> (a2 &&& 31)) &&& 1) = 1 then cal (f_X6_putFence 3 v10 C) (fun v12 C13 => (f_X10_tryPlots_16 N a1 n (a2 + 1) C13)) else (f_X10_tryPlots_16 N a1 n (a2 + 1) C))))))
def f_X10_tryPlots (N : Nat) (a1 : Int32) (C : CM) : Option (Int32 × CM) := cal (f_X6_copy 3 0 C) (fun v1 C2 => (f_X10_tryPlots_16 N a1 N 0 C2))
set_option maxRecDepth 8000 in
theorem t_X10_tryPlots_16 {l : Launch} {G : GX} {X : XM} {Q : Int32 → Mem → Prop} (N : Nat) (a1 : Int32) : ∀ (n : Nat) (a2 : Int32) (C : CM), SAT (f_X10_tryPlots_16 N a1 n a2 C) (fun v c => Q v (c, X)) → AB l G (rmD 5) 0 0 mt_X10_tryPlots (ZQ G mt_X10_tryPlots Q) 16 [(0, .ref (gA G 0 0 0)), (1, .int a1), (2, .int a2)] [] (C, X) := by
  intro n
  induction n with
  | zero => intro a2 C h; exact h.elim
  | succ n ih =>
    intro a2 C h
    rw [f_X10_tryPlots_16] at h
    refine ab_iloadn 2 dX10_tryPlots_16 rfl ?_
    refine ab_aloadn 0 dX10_tryPlots_17 rfl ?_
    refine f_gr (x := 4) (k2 := 2) (i2 := 0) (j2 := 0) ⟨by decide, by decide⟩ rfl rfl (Nat.le_of_ble_eq_true rfl) wd_124 rfl rfl dX10_tryPlots_18 ?_
    refine fC_gd (x := 1) ⟨by decide, by decide⟩ rfl rfl (Nat.le_of_ble_eq_true rfl) wd_125 rfl h rfl dX10_tryPlots_21 (fun y1 hy2 h => ?_)
    refine f_gr (x := 10) (k2 := 3) (i2 := y1) (j2 := 6) ⟨hy2, by decide⟩ rfl rfl (Nat.le_of_ble_eq_true rfl) wd_202 rfl rfl dX10_tryPlots_24 ?_
    refine fC_gi (x := 0) ⟨hy2, by decide⟩ rfl rfl (Nat.le_of_ble_eq_true rfl) wd_203 (by decide) rfl dX10_tryPlots_27 ?_
    refine ab_icmp_ge (tgt := 72) dX10_tryPlots_30 (by decide) (fun hc3 => ?_) (fun hc3 => ?_)
    · have h := sat_t hc3 h
      refine ab_aloadn 0 dX10_tryPlots_72 rfl ?_
      refine f_gr (x := 10) (k2 := 8) (i2 := 0) (j2 := 0) ⟨by decide, by decide⟩ rfl rfl (Nat.le_of_ble_eq_true rfl) wd_218 rfl rfl dX10_tryPlots_73 ?_
      refine ab_aloadn 0 dX10_tryPlots_76 rfl ?_
      refine f_gr (x := 4) (k2 := 2) (i2 := 0) (j2 := 0) ⟨by decide, by decide⟩ rfl rfl (Nat.le_of_ble_eq_true rfl) wd_124 rfl rfl dX10_tryPlots_77 ?_
      refine fC_gd (x := 1) ⟨by decide, by decide⟩ rfl rfl (Nat.le_of_ble_eq_true rfl) wd_125 rfl h rfl dX10_tryPlots_80 (fun y4 hy5 h => ?_)
      refine ab_aloadn 0 dX10_tryPlots_83 rfl ?_
      refine f_gr (x := 12) (k2 := 4) (i2 := 3) (j2 := 0) ⟨by decide, by decide⟩ rfl rfl (Nat.le_of_ble_eq_true rfl) wd_216 rfl rfl dX10_tryPlots_84 ?_
      refine ab_bipush (v := 48) dX10_tryPlots_87 (by decide) ?_
      refine fC_Vi (mtc := mt_X9_pass) (As := [.ref (gA G 3 y4 0), .ref (gA G 4 3 0), .int 48]) h (fun Q h => ct_X9_pass N y4 hy5 3 (by decide) 48 C h) ⟨by decide, by decide⟩ rfl rfl rfl mw_X9_pass wd_265 rfl rfl ⟨Nat.le_of_ble_eq_true rfl, Nat.le_of_ble_eq_true rfl⟩ ⟨Nat.zero_le _, Nat.zero_le _⟩ (Nat.le_of_ble_eq_true rfl) rfl dX10_tryPlots_89 (fun v6 C7 h => ?_)
      refine ab_pop dX10_tryPlots_92 rfl ?_
      exact fC_vret h rfl dX10_tryPlots_93
    · have h := sat_f hc3 h
      refine ab_aloadn 0 dX10_tryPlots_33 rfl ?_
      refine f_gr (x := 4) (k2 := 2) (i2 := 0) (j2 := 0) ⟨by decide, by decide⟩ rfl rfl (Nat.le_of_ble_eq_true rfl) wd_124 rfl rfl dX10_tryPlots_34 ?_
      refine fC_gd (x := 1) ⟨by decide, by decide⟩ rfl rfl (Nat.le_of_ble_eq_true rfl) wd_125 rfl h rfl dX10_tryPlots_37 (fun y8 hy9 h => ?_)
      refine f_gr (x := 10) (k2 := 3) (i2 := y8) (j2 := 6) ⟨hy9, by decide⟩ rfl rfl (Nat.le_of_ble_eq_true rfl) wd_202 rfl rfl dX10_tryPlots_40 ?_
      refine f_gr (x := 9) (k2 := 3) (i2 := y8) (j2 := 14) ⟨hy9, by decide⟩ rfl rfl (Nat.le_of_ble_eq_true rfl) wd_278 rfl rfl dX10_tryPlots_43 ?_
      refine ab_iloadn 2 dX10_tryPlots_46 rfl ?_
      refine fC_iald ⟨hy9, by decide⟩ rfl (by decide) (fun _ => rfl) h dX10_tryPlots_47 (fun v10 h => ?_)
      refine ab_istoren (lv' := [(0, .ref (gA G 0 0 0)), (1, .int a1), (2, .int a2), (3, .int v10)]) dX10_tryPlots_48 rfl (Nat.le_of_ble_eq_true rfl) rfl ?_
      refine ab_iloadn 1 dX10_tryPlots_49 rfl ?_
      refine ab_iloadn 2 dX10_tryPlots_50 rfl ?_
      refine ab_ishr dX10_tryPlots_51 ?_
      refine ab_iconst (v := 1) dX10_tryPlots_52 (by decide) ?_
      refine ab_iand dX10_tryPlots_53 ?_
      refine ab_iconst (v := 1) dX10_tryPlots_54 (by decide) ?_
      refine ab_icmp_ne (tgt := 66) dX10_tryPlots_55 (by decide) (fun hc11 => ?_) (fun hc11 => ?_)
      · have h := sat_f hc11 h
        refine ab_iinc (q := 2) (v := (a2 + 1)) (lv' := [(0, .ref (gA G 0 0 0)), (1, .int a1), (2, .int (a2 + 1)), (3, .int v10)]) dX10_tryPlots_66 rfl rfl rfl (Nat.le_of_ble_eq_true rfl) rfl ?_
        refine ab_goto (tgt := 16) dX10_tryPlots_69 (by decide) ?_
        refine ab_sub [0, 1, 2] rfl ?_
        exact ih (a2 + 1) C h
      · have h := sat_t hc11 h
        refine ab_aloadn 0 dX10_tryPlots_58 rfl ?_
        refine f_gr (x := 12) (k2 := 4) (i2 := 3) (j2 := 0) ⟨by decide, by decide⟩ rfl rfl (Nat.le_of_ble_eq_true rfl) wd_216 rfl rfl dX10_tryPlots_59 ?_
        refine ab_iloadn 3 dX10_tryPlots_62 rfl ?_
        refine fC_Vv (mtc := mt_X6_putFence) (As := [.int v10]) h (fun Q h => ct_X6_putFence 3 (by decide) v10 C h) ⟨by decide, by decide⟩ rfl rfl rfl mw_X6_putFence wd_267 rfl rfl ⟨Nat.le_of_ble_eq_true rfl, Nat.le_of_ble_eq_true rfl⟩ ⟨Nat.zero_le _, Nat.zero_le _⟩ (Nat.le_of_ble_eq_true rfl) rfl dX10_tryPlots_63 (fun v12 C13 h => ?_)
        refine ab_iinc (q := 2) (v := (a2 + 1)) (lv' := [(0, .ref (gA G 0 0 0)), (1, .int a1), (2, .int (a2 + 1)), (3, .int v10)]) dX10_tryPlots_66 rfl rfl rfl (Nat.le_of_ble_eq_true rfl) rfl ?_
        refine ab_goto (tgt := 16) dX10_tryPlots_69 (by decide) ?_
        refine ab_sub [0, 1, 2] rfl ?_
        exact ih (a2 + 1) C13 h
set_option maxRecDepth 8000 in
theorem t_X10_tryPlots_0 {l : Launch} {G : GX} {X : XM} {Q : Int32 → Mem → Prop} (N : Nat) (a1 : Int32) (C : CM) (h : SAT (f_X10_tryPlots N a1 C) (fun v c => Q v (c, X))) : AB l G (rmD 5) 0 0 mt_X10_tryPlots (ZQ G mt_X10_tryPlots Q) 0 [(0, .ref (gA G 0 0 0)), (1, .int a1)] [] (C, X) := by
  unfold f_X10_tryPlots at h
  refine ab_aloadn 0 dX10_tryPlots_0 rfl ?_
  refine f_gr (x := 12) (k2 := 4) (i2 := 3) (j2 := 0) ⟨by decide, by decide⟩ rfl rfl (Nat.le_of_ble_eq_true rfl) wd_216 rfl rfl dX10_tryPlots_1 ?_
  refine ab_aloadn 0 dX10_tryPlots_4 rfl ?_
  refine f_gr (x := 4) (k2 := 2) (i2 := 0) (j2 := 0) ⟨by decide, by decide⟩ rfl rfl (Nat.le_of_ble_eq_true rfl) wd_124 rfl rfl dX10_tryPlots_5 ?_
  refine f_gr (x := 2) (k2 := 4) (i2 := 0) (j2 := 0) ⟨by decide, by decide⟩ rfl rfl (Nat.le_of_ble_eq_true rfl) wd_126 rfl rfl dX10_tryPlots_8 ?_
  refine fC_Vv (mtc := mt_X6_copy) (As := [.ref (gA G 4 0 0)]) h (fun Q h => ct_X6_copy 3 (by decide) 0 (by decide) C h) ⟨by decide, by decide⟩ rfl rfl rfl mw_X6_copy wd_217 rfl rfl ⟨Nat.le_of_ble_eq_true rfl, Nat.le_of_ble_eq_true rfl⟩ ⟨Nat.zero_le _, Nat.zero_le _⟩ (Nat.le_of_ble_eq_true rfl) rfl dX10_tryPlots_11 (fun v1 C2 h => ?_)
  refine ab_iconst (v := 0) dX10_tryPlots_14 (by decide) ?_
  refine ab_istoren (lv' := [(0, .ref (gA G 0 0 0)), (1, .int a1), (2, .int 0)]) dX10_tryPlots_15 rfl (Nat.le_of_ble_eq_true rfl) rfl ?_
  exact t_X10_tryPlots_16 N a1 N 0 C2 h
theorem ct_X10_tryPlots {l : Launch} {G : GX} {X : XM} {Q : Int32 → Mem → Prop} (N : Nat) (a1 : Int32) (C : CM) (h : SAT (f_X10_tryPlots N a1 C) (fun v c => Q v (c, X))) : CT l G 5 mt_X10_tryPlots [.ref (gA G 0 0 0), .int a1] (C, X) Q := ct_of pn_X10 (Nat.le_of_ble_eq_true rfl) (t_X10_tryPlots_0 N a1 C h)
def f_X10_has (N : Nat) (a1 : Int32) (a2 : Int32) (C : CM) : Option (Int32 × CM) := ldR (C.2 2 0 1) 4 (fun y1 => cal (f_X0_isOwner y1 a1 C) (fun v3 C4 => (if v3 = 0 then (rt (-1) C4) else cal (f_X10_freePlots N C4) (fun v6 C7 => (if (a2 &&& (v6 ^^^ (-1))) = 0 then cal (f_X10_tryPlots N a2 C7) (fun v9 C10 => cal (f_X6_wealth 3 a1 C10) (fun v11 C12 => (rt v11 C12))) else (rt (-1) C7))))))
set_option maxRecDepth 8000 in
theorem t_X10_has_0 {l : Launch} {G : GX} {X : XM} {Q : Int32 → Mem → Prop} (N : Nat) (a1 : Int32) (a2 : Int32) (C : CM) (h : SAT (f_X10_has N a1 a2 C) (fun v c => Q v (c, X))) : AB l G (rmD 6) 0 0 mt_X10_has (ZQ G mt_X10_has Q) 0 [(0, .ref (gA G 0 0 0)), (1, .int a1), (2, .int a2)] [] (C, X) := by
  unfold f_X10_has at h
  refine ab_aloadn 0 dX10_has_0 rfl ?_
  refine f_gr (x := 4) (k2 := 2) (i2 := 0) (j2 := 0) ⟨by decide, by decide⟩ rfl rfl (Nat.le_of_ble_eq_true rfl) wd_124 rfl rfl dX10_has_1 ?_
  refine fC_gd (x := 1) ⟨by decide, by decide⟩ rfl rfl (Nat.le_of_ble_eq_true rfl) wd_125 rfl h rfl dX10_has_4 (fun y1 hy2 h => ?_)
  refine ab_iloadn 1 dX10_has_7 rfl ?_
  refine fC_Vi (mtc := mt_X0_isOwner) (As := [.int a1]) h (fun Q h => ct_X0_isOwner y1 hy2 a1 C h) ⟨hy2, by decide⟩ rfl rfl rfl mw_X0_isOwner wd_232 rfl rfl ⟨Nat.le_of_ble_eq_true rfl, Nat.le_of_ble_eq_true rfl⟩ ⟨Nat.zero_le _, Nat.zero_le _⟩ (Nat.le_of_ble_eq_true rfl) rfl dX10_has_8 (fun v3 C4 h => ?_)
  refine ab_if_eq (tgt := 25) dX10_has_11 (by decide) (fun hc5 => ?_) (fun hc5 => ?_)
  · have h := sat_t hc5 h
    refine ab_iconst (v := (-1)) dX10_has_25 (by decide) ?_
    exact fC_iret h rfl rfl dX10_has_26
  · have h := sat_f hc5 h
    refine ab_iloadn 2 dX10_has_14 rfl ?_
    refine ab_aloadn 0 dX10_has_15 rfl ?_
    refine fC_Vi (mtc := mt_X10_freePlots) (As := []) h (fun Q h => ct_X10_freePlots N C4 h) ⟨by decide, by decide⟩ rfl rfl rfl mw_X10_freePlots wd_279 rfl rfl ⟨Nat.le_of_ble_eq_true rfl, Nat.le_of_ble_eq_true rfl⟩ ⟨Nat.zero_le _, Nat.zero_le _⟩ (Nat.le_of_ble_eq_true rfl) rfl dX10_has_16 (fun v6 C7 h => ?_)
    refine ab_iconst (v := (-1)) dX10_has_19 (by decide) ?_
    refine ab_ixor dX10_has_20 ?_
    refine ab_iand dX10_has_21 ?_
    refine ab_if_eq (tgt := 27) dX10_has_22 (by decide) (fun hc8 => ?_) (fun hc8 => ?_)
    · have h := sat_t hc8 h
      refine ab_aloadn 0 dX10_has_27 rfl ?_
      refine ab_iloadn 2 dX10_has_28 rfl ?_
      refine fC_Vv (mtc := mt_X10_tryPlots) (As := [.int a2]) h (fun Q h => ct_X10_tryPlots N a2 C7 h) ⟨by decide, by decide⟩ rfl rfl rfl mw_X10_tryPlots wd_280 rfl rfl ⟨Nat.le_of_ble_eq_true rfl, Nat.le_of_ble_eq_true rfl⟩ ⟨Nat.zero_le _, Nat.zero_le _⟩ (Nat.le_of_ble_eq_true rfl) rfl dX10_has_29 (fun v9 C10 h => ?_)
      refine ab_aloadn 0 dX10_has_32 rfl ?_
      refine f_gr (x := 12) (k2 := 4) (i2 := 3) (j2 := 0) ⟨by decide, by decide⟩ rfl rfl (Nat.le_of_ble_eq_true rfl) wd_216 rfl rfl dX10_has_33 ?_
      refine ab_iloadn 1 dX10_has_36 rfl ?_
      refine fC_Vi (mtc := mt_X6_wealth) (As := [.int a1]) h (fun Q h => ct_X6_wealth 3 (by decide) a1 C10 h) ⟨by decide, by decide⟩ rfl rfl rfl mw_X6_wealth wd_275 rfl rfl ⟨Nat.le_of_ble_eq_true rfl, Nat.le_of_ble_eq_true rfl⟩ ⟨Nat.zero_le _, Nat.zero_le _⟩ (Nat.le_of_ble_eq_true rfl) rfl dX10_has_37 (fun v11 C12 h => ?_)
      exact fC_iret h rfl rfl dX10_has_40
    · have h := sat_f hc8 h
      refine ab_iconst (v := (-1)) dX10_has_25 (by decide) ?_
      exact fC_iret h rfl rfl dX10_has_26
theorem ct_X10_has {l : Launch} {G : GX} {X : XM} {Q : Int32 → Mem → Prop} (N : Nat) (a1 : Int32) (a2 : Int32) (C : CM) (h : SAT (f_X10_has N a1 a2 C) (fun v c => Q v (c, X))) : CT l G 6 mt_X10_has [.ref (gA G 0 0 0), .int a1, .int a2] (C, X) Q := ct_of pn_X10 (Nat.le_of_ble_eq_true rfl) (t_X10_has_0 N a1 a2 C h)
def f_X4_isRest_2 (N : Nat) (a1 : Int32) (a2 : Int32) : Nat → Int32 → CM → Option (Int32 × CM)
  | 0, _, _ => none
  | n + 1, a3, C => (if 8 ≤ a3 then (rt 1 C) else (if ((a2 >>> (a3 &&& 31)) &&& 1) = 1 then ldA (C.1 9 0 2) 2048 (((a1 ^^^ ((1 : Int32) <<< (a3 &&& 31))) * 8) + a3) (fun v3 => ldA (C.1 9 0 2) 2048 ((a1 * 8) + a3) (fun v4 => (if v3 ≤ v4 then (f_X4_isRest_2 N a1 a2 n (a3 + 1) C) else (rt 0 C)))) else (f_X4_isRest_2 N a1 a2 n (a3 + 1) C)))
def f_X4_isRest (N : Nat) (a1 : Int32) (a2 : Int32) (C : CM) : Option (Int32 × CM) := (f_X4_isRest_2 N a1 a2 N 0 C)
set_option maxRecDepth 8000 in
theorem t_X4_isRest_2 {l : Launch} {G : GX} {X : XM} {Q : Int32 → Mem → Prop} (N : Nat) (a1 : Int32) (a2 : Int32) : ∀ (n : Nat) (a3 : Int32) (C : CM), SAT (f_X4_isRest_2 N a1 a2 n a3 C) (fun v c => Q v (c, X)) → AB l G (rmD 1) 0 0 mt_X4_isRest (ZQ G mt_X4_isRest Q) 2 [(0, .ref (gA G 9 0 0)), (1, .int a1), (2, .int a2), (3, .int a3)] [] (C, X) := by
  intro n
  induction n with
  | zero => intro a3 C h; exact h.elim
  | succ n ih =>
    intro a3 C h
    rw [f_X4_isRest_2] at h
    refine ab_iloadn 3 dX4_isRest_2 rfl ?_
    refine ab_bipush (v := 8) dX4_isRest_3 (by decide) ?_
    refine ab_icmp_ge (tgt := 58) dX4_isRest_5 (by decide) (fun hc1 => ?_) (fun hc1 => ?_)
    · have h := sat_t hc1 h
      refine ab_iconst (v := 1) dX4_isRest_58 (by decide) ?_
      exact fC_iret h rfl rfl dX4_isRest_59
    · have h := sat_f hc1 h
      refine ab_iloadn 1 dX4_isRest_8 rfl ?_
      refine ab_iconst (v := 1) dX4_isRest_9 (by decide) ?_
      refine ab_iloadn 3 dX4_isRest_10 rfl ?_
      refine ab_ishl dX4_isRest_11 ?_
      refine ab_ixor dX4_isRest_12 ?_
      refine ab_istore (lv' := [(0, .ref (gA G 9 0 0)), (1, .int a1), (2, .int a2), (3, .int a3), (4, .int (a1 ^^^ ((1 : Int32) <<< (a3 &&& 31))))]) dX4_isRest_13 rfl (Nat.le_of_ble_eq_true rfl) rfl ?_
      refine ab_iloadn 2 dX4_isRest_15 rfl ?_
      refine ab_iloadn 3 dX4_isRest_16 rfl ?_
      refine ab_ishr dX4_isRest_17 ?_
      refine ab_iconst (v := 1) dX4_isRest_18 (by decide) ?_
      refine ab_iand dX4_isRest_19 ?_
      refine ab_iconst (v := 1) dX4_isRest_20 (by decide) ?_
      refine ab_icmp_ne (tgt := 52) dX4_isRest_21 (by decide) (fun hc2 => ?_) (fun hc2 => ?_)
      · have h := sat_f hc2 h
        refine ab_iinc (q := 3) (v := (a3 + 1)) (lv' := [(0, .ref (gA G 9 0 0)), (1, .int a1), (2, .int a2), (3, .int (a3 + 1)), (4, .int (a1 ^^^ ((1 : Int32) <<< (a3 &&& 31))))]) dX4_isRest_52 rfl rfl rfl (Nat.le_of_ble_eq_true rfl) rfl ?_
        refine ab_goto (tgt := 2) dX4_isRest_55 (by decide) ?_
        refine ab_sub [0, 1, 2, 3] rfl ?_
        exact ih (a3 + 1) C h
      · have h := sat_t hc2 h
        refine ab_aloadn 0 dX4_isRest_24 rfl ?_
        refine f_gr (x := 3) (k2 := 9) (i2 := 0) (j2 := 2) ⟨by decide, by decide⟩ rfl rfl (Nat.le_of_ble_eq_true rfl) wd_283 rfl rfl dX4_isRest_25 ?_
        refine ab_iload 4 dX4_isRest_28 rfl ?_
        refine ab_bipush (v := 8) dX4_isRest_30 (by decide) ?_
        refine ab_imul dX4_isRest_32 ?_
        refine ab_iloadn 3 dX4_isRest_33 rfl ?_
        refine ab_iadd dX4_isRest_34 ?_
        refine fC_iald ⟨by decide, by decide⟩ rfl (by decide) (fun _ => rfl) h dX4_isRest_35 (fun v3 h => ?_)
        refine ab_aloadn 0 dX4_isRest_36 rfl ?_
        refine f_gr (x := 3) (k2 := 9) (i2 := 0) (j2 := 2) ⟨by decide, by decide⟩ rfl rfl (Nat.le_of_ble_eq_true rfl) wd_283 rfl rfl dX4_isRest_37 ?_
        refine ab_iloadn 1 dX4_isRest_40 rfl ?_
        refine ab_bipush (v := 8) dX4_isRest_41 (by decide) ?_
        refine ab_imul dX4_isRest_43 ?_
        refine ab_iloadn 3 dX4_isRest_44 rfl ?_
        refine ab_iadd dX4_isRest_45 ?_
        refine fC_iald ⟨by decide, by decide⟩ rfl (by decide) (fun _ => rfl) h dX4_isRest_46 (fun v4 h => ?_)
        refine ab_icmp_le (tgt := 52) dX4_isRest_47 (by decide) (fun hc5 => ?_) (fun hc5 => ?_)
        · have h := sat_t hc5 h
          refine ab_iinc (q := 3) (v := (a3 + 1)) (lv' := [(0, .ref (gA G 9 0 0)), (1, .int a1), (2, .int a2), (3, .int (a3 + 1)), (4, .int (a1 ^^^ ((1 : Int32) <<< (a3 &&& 31))))]) dX4_isRest_52 rfl rfl rfl (Nat.le_of_ble_eq_true rfl) rfl ?_
          refine ab_goto (tgt := 2) dX4_isRest_55 (by decide) ?_
          refine ab_sub [0, 1, 2, 3] rfl ?_
          exact ih (a3 + 1) C h
        · have h := sat_f hc5 h
          refine ab_iconst (v := 0) dX4_isRest_50 (by decide) ?_
          exact fC_iret h rfl rfl dX4_isRest_51
set_option maxRecDepth 8000 in
theorem t_X4_isRest_0 {l : Launch} {G : GX} {X : XM} {Q : Int32 → Mem → Prop} (N : Nat) (a1 : Int32) (a2 : Int32) (C : CM) (h : SAT (f_X4_isRest N a1 a2 C) (fun v c => Q v (c, X))) : AB l G (rmD 1) 0 0 mt_X4_isRest (ZQ G mt_X4_isRest Q) 0 [(0, .ref (gA G 9 0 0)), (1, .int a1), (2, .int a2)] [] (C, X) := by
  unfold f_X4_isRest at h
  refine ab_iconst (v := 0) dX4_isRest_0 (by decide) ?_
  refine ab_istoren (lv' := [(0, .ref (gA G 9 0 0)), (1, .int a1), (2, .int a2), (3, .int 0)]) dX4_isRest_1 rfl (Nat.le_of_ble_eq_true rfl) rfl ?_
  exact t_X4_isRest_2 N a1 a2 N 0 C h
theorem ct_X4_isRest {l : Launch} {G : GX} {X : XM} {Q : Int32 → Mem → Prop} (N : Nat) (a1 : Int32) (a2 : Int32) (C : CM) (h : SAT (f_X4_isRest N a1 a2 C) (fun v c => Q v (c, X))) : CT l G 1 mt_X4_isRest [.ref (gA G 9 0 0), .int a1, .int a2] (C, X) Q := ct_of pn_X4 (Nat.le_of_ble_eq_true rfl) (t_X4_isRest_0 N a1 a2 C h)
def f_X4_findRests_7 (N : Nat) (a1 : Int32) : Nat → Int32 → CM → Option (Int32 × CM)
  | 0, _, _ => none
  | n + 1, a2, C => (if 256 ≤ a2 then bnd (stC C 9 0 0 0 1) (fun C2 => (rt 0 C2)) else (if (a2 &&& (a1 ^^^ (-1))) = 0 then cal (f_X4_isRest N a2 a1 C) (fun v4 C5 => (if v4 = 0 then (f_X4_findRests_7 N a1 n (a2 + 1) C5) else stA C5 9 0 1 256 (C5.1 9 0 0 1) a2 (fun C7 => bnd (stC C7 9 0 0 1 ((C7.1 9 0 0 1) + 1)) (fun C8 => (f_X4_findRests_7 N a1 n (a2 + 1) C8))))) else (f_X4_findRests_7 N a1 n (a2 + 1) C)))
def f_X4_findRests (N : Nat) (a1 : Int32) (C : CM) : Option (Int32 × CM) := bnd (stC C 9 0 0 1 0) (fun C1 => (f_X4_findRests_7 N a1 N 0 C1))
set_option maxRecDepth 8000 in
theorem t_X4_findRests_7 {l : Launch} {G : GX} {X : XM} {Q : Int32 → Mem → Prop} (N : Nat) (a1 : Int32) : ∀ (n : Nat) (a2 : Int32) (C : CM), SAT (f_X4_findRests_7 N a1 n a2 C) (fun v c => Q v (c, X)) → AB l G (rmD 2) 0 0 mt_X4_findRests (ZQ G mt_X4_findRests Q) 7 [(0, .ref (gA G 9 0 0)), (1, .int a1), (2, .int a2)] [] (C, X) := by
  intro n
  induction n with
  | zero => intro a2 C h; exact h.elim
  | succ n ih =>
    intro a2 C h
    rw [f_X4_findRests_7] at h
    refine ab_iloadn 2 dX4_findRests_7 rfl ?_
    refine ab_sipush (v := 256) dX4_findRests_8 (by decide) ?_
    refine ab_icmp_ge (tgt := 57) dX4_findRests_11 (by decide) (fun hc1 => ?_) (fun hc1 => ?_)
    · have h := sat_t hc1 h
      refine ab_aloadn 0 dX4_findRests_57 rfl ?_
      refine ab_iconst (v := 1) dX4_findRests_58 (by decide) ?_
      refine fC_pi (x := 0) (ty := .boolean) ⟨by decide, by decide⟩ rfl rfl (Nat.le_of_ble_eq_true rfl) wd_282 (by decide) rfl h rfl (by decide +kernel) rfl rfl dX4_findRests_59 (fun C2 h => ?_)
      exact fC_vret h rfl dX4_findRests_62
    · have h := sat_f hc1 h
      refine ab_iloadn 2 dX4_findRests_14 rfl ?_
      refine ab_iloadn 1 dX4_findRests_15 rfl ?_
      refine ab_iconst (v := (-1)) dX4_findRests_16 (by decide) ?_
      refine ab_ixor dX4_findRests_17 ?_
      refine ab_iand dX4_findRests_18 ?_
      refine ab_if_ne (tgt := 51) dX4_findRests_19 (by decide) (fun hc3 => ?_) (fun hc3 => ?_)
      · have h := sat_f hc3 h
        refine ab_iinc (q := 2) (v := (a2 + 1)) (lv' := [(0, .ref (gA G 9 0 0)), (1, .int a1), (2, .int (a2 + 1))]) dX4_findRests_51 rfl rfl rfl (Nat.le_of_ble_eq_true rfl) rfl ?_
        refine ab_goto (tgt := 7) dX4_findRests_54 (by decide) ?_
        exact ih (a2 + 1) C h
      · have h := sat_t hc3 h
        refine ab_aloadn 0 dX4_findRests_22 rfl ?_
        refine ab_iloadn 2 dX4_findRests_23 rfl ?_
        refine ab_iloadn 1 dX4_findRests_24 rfl ?_
        refine fC_Vi (mtc := mt_X4_isRest) (As := [.int a2, .int a1]) h (fun Q h => ct_X4_isRest N a2 a1 C h) ⟨by decide, by decide⟩ rfl rfl rfl mw_X4_isRest wd_284 rfl rfl ⟨Nat.le_of_ble_eq_true rfl, Nat.le_of_ble_eq_true rfl⟩ ⟨Nat.zero_le _, Nat.zero_le _⟩ (Nat.le_of_ble_eq_true rfl) rfl dX4_findRests_25 (fun v4 C5 h => ?_)
        refine ab_if_eq (tgt := 51) dX4_findRests_28 (by decide) (fun hc6 => ?_) (fun hc6 => ?_)
        · have h := sat_t hc6 h
          refine ab_iinc (q := 2) (v := (a2 + 1)) (lv' := [(0, .ref (gA G 9 0 0)), (1, .int a1), (2, .int (a2 + 1))]) dX4_findRests_51 rfl rfl rfl (Nat.le_of_ble_eq_true rfl) rfl ?_
          refine ab_goto (tgt := 7) dX4_findRests_54 (by decide) ?_
          exact ih (a2 + 1) C5 h
        · have h := sat_f hc6 h
          refine ab_aloadn 0 dX4_findRests_31 rfl ?_
          refine f_gr (x := 2) (k2 := 9) (i2 := 0) (j2 := 1) ⟨by decide, by decide⟩ rfl rfl (Nat.le_of_ble_eq_true rfl) wd_285 rfl rfl dX4_findRests_32 ?_
          refine ab_aloadn 0 dX4_findRests_35 rfl ?_
          refine fC_gi (x := 1) ⟨by decide, by decide⟩ rfl rfl (Nat.le_of_ble_eq_true rfl) wd_281 (by decide) rfl dX4_findRests_36 ?_
          refine ab_iloadn 2 dX4_findRests_39 rfl ?_
          refine fC_iast ⟨by decide, by decide⟩ rfl (by decide) (fun _ => rfl) h dX4_findRests_40 (fun C7 h => ?_)
          refine ab_aloadn 0 dX4_findRests_41 rfl ?_
          refine ab_dup dX4_findRests_42 rfl ?_
          refine fC_gi (x := 1) ⟨by decide, by decide⟩ rfl rfl (Nat.le_of_ble_eq_true rfl) wd_281 (by decide) rfl dX4_findRests_43 ?_
          refine ab_iconst (v := 1) dX4_findRests_46 (by decide) ?_
          refine ab_iadd dX4_findRests_47 ?_
          refine fC_pi (x := 1) (ty := .int) ⟨by decide, by decide⟩ rfl rfl (Nat.le_of_ble_eq_true rfl) wd_281 (by decide) rfl h rfl (by decide +kernel) rfl rfl dX4_findRests_48 (fun C8 h => ?_)
          refine ab_iinc (q := 2) (v := (a2 + 1)) (lv' := [(0, .ref (gA G 9 0 0)), (1, .int a1), (2, .int (a2 + 1))]) dX4_findRests_51 rfl rfl rfl (Nat.le_of_ble_eq_true rfl) rfl ?_
          refine ab_goto (tgt := 7) dX4_findRests_54 (by decide) ?_
          exact ih (a2 + 1) C8 h
set_option maxRecDepth 8000 in
theorem t_X4_findRests_0 {l : Launch} {G : GX} {X : XM} {Q : Int32 → Mem → Prop} (N : Nat) (a1 : Int32) (C : CM) (h : SAT (f_X4_findRests N a1 C) (fun v c => Q v (c, X))) : AB l G (rmD 2) 0 0 mt_X4_findRests (ZQ G mt_X4_findRests Q) 0 [(0, .ref (gA G 9 0 0)), (1, .int a1)] [] (C, X) := by
  unfold f_X4_findRests at h
  refine ab_aloadn 0 dX4_findRests_0 rfl ?_
  refine ab_iconst (v := 0) dX4_findRests_1 (by decide) ?_
  refine fC_pi (x := 1) (ty := .int) ⟨by decide, by decide⟩ rfl rfl (Nat.le_of_ble_eq_true rfl) wd_281 (by decide) rfl h rfl (by decide +kernel) rfl rfl dX4_findRests_2 (fun C1 h => ?_)
  refine ab_iconst (v := 0) dX4_findRests_5 (by decide) ?_
  refine ab_istoren (lv' := [(0, .ref (gA G 9 0 0)), (1, .int a1), (2, .int 0)]) dX4_findRests_6 rfl (Nat.le_of_ble_eq_true rfl) rfl ?_
  exact t_X4_findRests_7 N a1 N 0 C1 h
theorem ct_X4_findRests {l : Launch} {G : GX} {X : XM} {Q : Int32 → Mem → Prop} (N : Nat) (a1 : Int32) (C : CM) (h : SAT (f_X4_findRests N a1 C) (fun v c => Q v (c, X))) : CT l G 2 mt_X4_findRests [.ref (gA G 9 0 0), .int a1] (C, X) Q := ct_of pn_X4 (Nat.le_of_ble_eq_true rfl) (t_X4_findRests_0 N a1 C h)
def f_X4_note_2 (N : Nat) (a1 : Int32) (r2 : Nat) : Nat → Int32 → CM → Option (Int32 × CM)
  | 0, _, _ => none
  | n + 1, a3, C => (if 8 ≤ a3 then (rt 0 C) else cal (f_X6_wealth r2 a3 C) (fun v2 C3 => stA C3 9 0 2 2048 ((a1 * 8) + a3) v2 (fun C4 => (f_X4_note_2 N a1 r2 n (a3 + 1) C4))))
def f_X4_note (N : Nat) (a1 : Int32) (r2 : Nat) (C : CM) : Option (Int32 × CM) := (f_X4_note_2 N a1 r2 N 0 C)
set_option maxRecDepth 8000 in
theorem t_X4_note_2 {l : Launch} {G : GX} {X : XM} {Q : Int32 → Mem → Prop} (N : Nat) (a1 : Int32) (r2 : Nat) (h2 : r2 < 12) : ∀ (n : Nat) (a3 : Int32) (C : CM), SAT (f_X4_note_2 N a1 r2 n a3 C) (fun v c => Q v (c, X)) → AB l G (rmD 2) 0 0 mt_X4_note (ZQ G mt_X4_note Q) 2 [(0, .ref (gA G 9 0 0)), (1, .int a1), (2, .ref (gA G 4 r2 0)), (3, .int a3)] [] (C, X) := by
  intro n
  induction n with
  | zero => intro a3 C h; exact h.elim
  | succ n ih =>
    intro a3 C h
    rw [f_X4_note_2] at h
    refine ab_iloadn 3 dX4_note_2 rfl ?_
    refine ab_bipush (v := 8) dX4_note_3 (by decide) ?_
    refine ab_icmp_ge (tgt := 30) dX4_note_5 (by decide) (fun hc1 => ?_) (fun hc1 => ?_)
    · have h := sat_t hc1 h
      exact fC_vret h rfl dX4_note_30
    · have h := sat_f hc1 h
      refine ab_aloadn 0 dX4_note_8 rfl ?_
      refine f_gr (x := 3) (k2 := 9) (i2 := 0) (j2 := 2) ⟨by decide, by decide⟩ rfl rfl (Nat.le_of_ble_eq_true rfl) wd_283 rfl rfl dX4_note_9 ?_
      refine ab_iloadn 1 dX4_note_12 rfl ?_
      refine ab_bipush (v := 8) dX4_note_13 (by decide) ?_
      refine ab_imul dX4_note_15 ?_
      refine ab_iloadn 3 dX4_note_16 rfl ?_
      refine ab_iadd dX4_note_17 ?_
      refine ab_aloadn 2 dX4_note_18 rfl ?_
      refine ab_iloadn 3 dX4_note_19 rfl ?_
      refine fC_Vi (mtc := mt_X6_wealth) (As := [.int a3]) h (fun Q h => ct_X6_wealth r2 h2 a3 C h) ⟨h2, by decide⟩ rfl rfl rfl mw_X6_wealth wd_287 rfl rfl ⟨Nat.le_of_ble_eq_true rfl, Nat.le_of_ble_eq_true rfl⟩ ⟨Nat.zero_le _, Nat.zero_le _⟩ (Nat.le_of_ble_eq_true rfl) rfl dX4_note_20 (fun v2 C3 h => ?_)
      refine fC_iast ⟨by decide, by decide⟩ rfl (by decide) (fun _ => rfl) h dX4_note_23 (fun C4 h => ?_)
      refine ab_iinc (q := 3) (v := (a3 + 1)) (lv' := [(0, .ref (gA G 9 0 0)), (1, .int a1), (2, .ref (gA G 4 r2 0)), (3, .int (a3 + 1))]) dX4_note_24 rfl rfl rfl (Nat.le_of_ble_eq_true rfl) rfl ?_
      refine ab_goto (tgt := 2) dX4_note_27 (by decide) ?_
      exact ih (a3 + 1) C4 h
set_option maxRecDepth 8000 in
theorem t_X4_note_0 {l : Launch} {G : GX} {X : XM} {Q : Int32 → Mem → Prop} (N : Nat) (a1 : Int32) (r2 : Nat) (h2 : r2 < 12) (C : CM) (h : SAT (f_X4_note N a1 r2 C) (fun v c => Q v (c, X))) : AB l G (rmD 2) 0 0 mt_X4_note (ZQ G mt_X4_note Q) 0 [(0, .ref (gA G 9 0 0)), (1, .int a1), (2, .ref (gA G 4 r2 0))] [] (C, X) := by
  unfold f_X4_note at h
  refine ab_iconst (v := 0) dX4_note_0 (by decide) ?_
  refine ab_istoren (lv' := [(0, .ref (gA G 9 0 0)), (1, .int a1), (2, .ref (gA G 4 r2 0)), (3, .int 0)]) dX4_note_1 rfl (Nat.le_of_ble_eq_true rfl) rfl ?_
  exact t_X4_note_2 N a1 r2 h2 N 0 C h
theorem ct_X4_note {l : Launch} {G : GX} {X : XM} {Q : Int32 → Mem → Prop} (N : Nat) (a1 : Int32) (r2 : Nat) (h2 : r2 < 12) (C : CM) (h : SAT (f_X4_note N a1 r2 C) (fun v c => Q v (c, X))) : CT l G 2 mt_X4_note [.ref (gA G 9 0 0), .int a1, .ref (gA G 4 r2 0)] (C, X) Q := ct_of pn_X4 (Nat.le_of_ble_eq_true rfl) (t_X4_note_0 N a1 r2 h2 C h)
def f_X10_tryAllPlots_7 (N : Nat) (a1 : Int32) : Nat → Int32 → CM → Option (Int32 × CM)
  | 0, _, _ => none
  | n + 1, a2, C => (if 256 ≤ a2 then cal (f_X4_findRests N a1 C) (fun v2 C3 => (rt 0 C3)) else (if (a2 &&& (a1 ^^^ (-1))) = 0 then cal (f_X10_tryPlots N a2 C) (fun v5 C6 => cal (f_X4_note N a2 3 C6) (fun v7 C8 => (f_X10_tryAllPlots_7 N a1 n (a2 + 1) C8))) else (f_X10_tryAllPlots_7 N a1 n (a2 + 1) C)))
def f_X10_tryAllPlots (N : Nat) (C : CM) : Option (Int32 × CM) := cal (f_X10_freePlots N C) (fun v1 C2 => (f_X10_tryAllPlots_7 N v1 N 0 C2))
set_option maxRecDepth 8000 in
theorem t_X10_tryAllPlots_7 {l : Launch} {G : GX} {X : XM} {Q : Int32 → Mem → Prop} (N : Nat) (a1 : Int32) : ∀ (n : Nat) (a2 : Int32) (C : CM), SAT (f_X10_tryAllPlots_7 N a1 n a2 C) (fun v c => Q v (c, X)) → AB l G (rmD 6) 0 0 mt_X10_tryAllPlots (ZQ G mt_X10_tryAllPlots Q) 7 [(0, .ref (gA G 0 0 0)), (1, .int a1), (2, .int a2)] [] (C, X) := by
  intro n
  induction n with
  | zero => intro a2 C h; exact h.elim
  | succ n ih =>
    intro a2 C h
    rw [f_X10_tryAllPlots_7] at h
    refine ab_iloadn 2 dX10_tryAllPlots_7 rfl ?_
    refine ab_sipush (v := 256) dX10_tryAllPlots_8 (by decide) ?_
    refine ab_icmp_ge (tgt := 45) dX10_tryAllPlots_11 (by decide) (fun hc1 => ?_) (fun hc1 => ?_)
    · have h := sat_t hc1 h
      refine ab_aloadn 0 dX10_tryAllPlots_45 rfl ?_
      refine f_gr (x := 11) (k2 := 9) (i2 := 0) (j2 := 0) ⟨by decide, by decide⟩ rfl rfl (Nat.le_of_ble_eq_true rfl) wd_160 rfl rfl dX10_tryAllPlots_46 ?_
      refine ab_iloadn 1 dX10_tryAllPlots_49 rfl ?_
      refine fC_Vv (mtc := mt_X4_findRests) (As := [.int a1]) h (fun Q h => ct_X4_findRests N a1 C h) ⟨by decide, by decide⟩ rfl rfl rfl mw_X4_findRests wd_286 rfl rfl ⟨Nat.le_of_ble_eq_true rfl, Nat.le_of_ble_eq_true rfl⟩ ⟨Nat.zero_le _, Nat.zero_le _⟩ (Nat.le_of_ble_eq_true rfl) rfl dX10_tryAllPlots_50 (fun v2 C3 h => ?_)
      exact fC_vret h rfl dX10_tryAllPlots_53
    · have h := sat_f hc1 h
      refine ab_iloadn 2 dX10_tryAllPlots_14 rfl ?_
      refine ab_iloadn 1 dX10_tryAllPlots_15 rfl ?_
      refine ab_iconst (v := (-1)) dX10_tryAllPlots_16 (by decide) ?_
      refine ab_ixor dX10_tryAllPlots_17 ?_
      refine ab_iand dX10_tryAllPlots_18 ?_
      refine ab_if_ne (tgt := 39) dX10_tryAllPlots_19 (by decide) (fun hc4 => ?_) (fun hc4 => ?_)
      · have h := sat_f hc4 h
        refine ab_iinc (q := 2) (v := (a2 + 1)) (lv' := [(0, .ref (gA G 0 0 0)), (1, .int a1), (2, .int (a2 + 1))]) dX10_tryAllPlots_39 rfl rfl rfl (Nat.le_of_ble_eq_true rfl) rfl ?_
        refine ab_goto (tgt := 7) dX10_tryAllPlots_42 (by decide) ?_
        exact ih (a2 + 1) C h
      · have h := sat_t hc4 h
        refine ab_aloadn 0 dX10_tryAllPlots_22 rfl ?_
        refine ab_iloadn 2 dX10_tryAllPlots_23 rfl ?_
        refine fC_Vv (mtc := mt_X10_tryPlots) (As := [.int a2]) h (fun Q h => ct_X10_tryPlots N a2 C h) ⟨by decide, by decide⟩ rfl rfl rfl mw_X10_tryPlots wd_280 rfl rfl ⟨Nat.le_of_ble_eq_true rfl, Nat.le_of_ble_eq_true rfl⟩ ⟨Nat.zero_le _, Nat.zero_le _⟩ (Nat.le_of_ble_eq_true rfl) rfl dX10_tryAllPlots_24 (fun v5 C6 h => ?_)
        refine ab_aloadn 0 dX10_tryAllPlots_27 rfl ?_
        refine f_gr (x := 11) (k2 := 9) (i2 := 0) (j2 := 0) ⟨by decide, by decide⟩ rfl rfl (Nat.le_of_ble_eq_true rfl) wd_160 rfl rfl dX10_tryAllPlots_28 ?_
        refine ab_iloadn 2 dX10_tryAllPlots_31 rfl ?_
        refine ab_aloadn 0 dX10_tryAllPlots_32 rfl ?_
        refine f_gr (x := 12) (k2 := 4) (i2 := 3) (j2 := 0) ⟨by decide, by decide⟩ rfl rfl (Nat.le_of_ble_eq_true rfl) wd_216 rfl rfl dX10_tryAllPlots_33 ?_
        refine fC_Vv (mtc := mt_X4_note) (As := [.int a2, .ref (gA G 4 3 0)]) h (fun Q h => ct_X4_note N a2 3 (by decide) C6 h) ⟨by decide, by decide⟩ rfl rfl rfl mw_X4_note wd_288 rfl rfl ⟨Nat.le_of_ble_eq_true rfl, Nat.le_of_ble_eq_true rfl⟩ ⟨Nat.zero_le _, Nat.zero_le _⟩ (Nat.le_of_ble_eq_true rfl) rfl dX10_tryAllPlots_36 (fun v7 C8 h => ?_)
        refine ab_iinc (q := 2) (v := (a2 + 1)) (lv' := [(0, .ref (gA G 0 0 0)), (1, .int a1), (2, .int (a2 + 1))]) dX10_tryAllPlots_39 rfl rfl rfl (Nat.le_of_ble_eq_true rfl) rfl ?_
        refine ab_goto (tgt := 7) dX10_tryAllPlots_42 (by decide) ?_
        exact ih (a2 + 1) C8 h
set_option maxRecDepth 8000 in
theorem t_X10_tryAllPlots_0 {l : Launch} {G : GX} {X : XM} {Q : Int32 → Mem → Prop} (N : Nat) (C : CM) (h : SAT (f_X10_tryAllPlots N C) (fun v c => Q v (c, X))) : AB l G (rmD 6) 0 0 mt_X10_tryAllPlots (ZQ G mt_X10_tryAllPlots Q) 0 [(0, .ref (gA G 0 0 0))] [] (C, X) := by
  unfold f_X10_tryAllPlots at h
  refine ab_aloadn 0 dX10_tryAllPlots_0 rfl ?_
  refine fC_Vi (mtc := mt_X10_freePlots) (As := []) h (fun Q h => ct_X10_freePlots N C h) ⟨by decide, by decide⟩ rfl rfl rfl mw_X10_freePlots wd_279 rfl rfl ⟨Nat.le_of_ble_eq_true rfl, Nat.le_of_ble_eq_true rfl⟩ ⟨Nat.zero_le _, Nat.zero_le _⟩ (Nat.le_of_ble_eq_true rfl) rfl dX10_tryAllPlots_1 (fun v1 C2 h => ?_)
  refine ab_istoren (lv' := [(0, .ref (gA G 0 0 0)), (1, .int v1)]) dX10_tryAllPlots_4 rfl (Nat.le_of_ble_eq_true rfl) rfl ?_
  refine ab_iconst (v := 0) dX10_tryAllPlots_5 (by decide) ?_
  refine ab_istoren (lv' := [(0, .ref (gA G 0 0 0)), (1, .int v1), (2, .int 0)]) dX10_tryAllPlots_6 rfl (Nat.le_of_ble_eq_true rfl) rfl ?_
  exact t_X10_tryAllPlots_7 N v1 N 0 C2 h
theorem ct_X10_tryAllPlots {l : Launch} {G : GX} {X : XM} {Q : Int32 → Mem → Prop} (N : Nat) (C : CM) (h : SAT (f_X10_tryAllPlots N C) (fun v c => Q v (c, X))) : CT l G 6 mt_X10_tryAllPlots [.ref (gA G 0 0 0)] (C, X) Q := ct_of pn_X10 (Nat.le_of_ble_eq_true rfl) (t_X10_tryAllPlots_0 N C h)
def f_X10_rests_14 (N : Nat) (a1 : Int32) (C : CM) : Option (Int32 × CM) := (if a1 = (-1) then (rt (C.1 9 0 0 1) C) else (if a1 < 0 then (rt (-1) C) else (if (C.1 9 0 0 1) ≤ a1 then (rt (-1) C) else ldA (C.1 9 0 1) 256 a1 (fun v4 => (rt v4 C)))))
def f_X10_rests (N : Nat) (a1 : Int32) (C : CM) : Option (Int32 × CM) := (if (C.1 9 0 0 0) = 0 then cal (f_X10_tryAllPlots N C) (fun v2 C3 => (f_X10_rests_14 N a1 C3)) else (f_X10_rests_14 N a1 C))
set_option maxRecDepth 8000 in
theorem t_X10_rests_14 {l : Launch} {G : GX} {X : XM} {Q : Int32 → Mem → Prop} (N : Nat) (a1 : Int32) (C : CM) (h : SAT (f_X10_rests_14 N a1 C) (fun v c => Q v (c, X))) : AB l G (rmD 7) 0 0 mt_X10_rests (ZQ G mt_X10_rests Q) 14 [(0, .ref (gA G 0 0 0)), (1, .int a1)] [] (C, X) := by
  unfold f_X10_rests_14 at h
  refine ab_iloadn 1 dX10_rests_14 rfl ?_
  refine ab_iconst (v := (-1)) dX10_rests_15 (by decide) ?_
  refine ab_icmp_ne (tgt := 27) dX10_rests_16 (by decide) (fun hc1 => ?_) (fun hc1 => ?_)
  · have h := sat_f hc1 h
    refine ab_iloadn 1 dX10_rests_27 rfl ?_
    refine ab_if_lt (tgt := 54) dX10_rests_28 (by decide) (fun hc2 => ?_) (fun hc2 => ?_)
    · have h := sat_t hc2 h
      refine ab_iconst (v := (-1)) dX10_rests_54 (by decide) ?_
      exact fC_iret h rfl rfl dX10_rests_55
    · have h := sat_f hc2 h
      refine ab_iloadn 1 dX10_rests_31 rfl ?_
      refine ab_aloadn 0 dX10_rests_32 rfl ?_
      refine f_gr (x := 11) (k2 := 9) (i2 := 0) (j2 := 0) ⟨by decide, by decide⟩ rfl rfl (Nat.le_of_ble_eq_true rfl) wd_160 rfl rfl dX10_rests_33 ?_
      refine fC_gi (x := 1) ⟨by decide, by decide⟩ rfl rfl (Nat.le_of_ble_eq_true rfl) wd_290 (by decide) rfl dX10_rests_36 ?_
      refine ab_icmp_ge (tgt := 54) dX10_rests_39 (by decide) (fun hc3 => ?_) (fun hc3 => ?_)
      · have h := sat_t hc3 h
        refine ab_iconst (v := (-1)) dX10_rests_54 (by decide) ?_
        exact fC_iret h rfl rfl dX10_rests_55
      · have h := sat_f hc3 h
        refine ab_aloadn 0 dX10_rests_42 rfl ?_
        refine f_gr (x := 11) (k2 := 9) (i2 := 0) (j2 := 0) ⟨by decide, by decide⟩ rfl rfl (Nat.le_of_ble_eq_true rfl) wd_160 rfl rfl dX10_rests_43 ?_
        refine f_gr (x := 2) (k2 := 9) (i2 := 0) (j2 := 1) ⟨by decide, by decide⟩ rfl rfl (Nat.le_of_ble_eq_true rfl) wd_291 rfl rfl dX10_rests_46 ?_
        refine ab_iloadn 1 dX10_rests_49 rfl ?_
        refine fC_iald ⟨by decide, by decide⟩ rfl (by decide) (fun _ => rfl) h dX10_rests_50 (fun v4 h => ?_)
        refine ab_goto (tgt := 55) dX10_rests_51 (by decide) ?_
        exact fC_iret h rfl rfl dX10_rests_55
  · have h := sat_t hc1 h
    refine ab_aloadn 0 dX10_rests_19 rfl ?_
    refine f_gr (x := 11) (k2 := 9) (i2 := 0) (j2 := 0) ⟨by decide, by decide⟩ rfl rfl (Nat.le_of_ble_eq_true rfl) wd_160 rfl rfl dX10_rests_20 ?_
    refine fC_gi (x := 1) ⟨by decide, by decide⟩ rfl rfl (Nat.le_of_ble_eq_true rfl) wd_290 (by decide) rfl dX10_rests_23 ?_
    exact fC_iret h rfl rfl dX10_rests_26
set_option maxRecDepth 8000 in
theorem t_X10_rests_0 {l : Launch} {G : GX} {X : XM} {Q : Int32 → Mem → Prop} (N : Nat) (a1 : Int32) (C : CM) (h : SAT (f_X10_rests N a1 C) (fun v c => Q v (c, X))) : AB l G (rmD 7) 0 0 mt_X10_rests (ZQ G mt_X10_rests Q) 0 [(0, .ref (gA G 0 0 0)), (1, .int a1)] [] (C, X) := by
  unfold f_X10_rests at h
  refine ab_aloadn 0 dX10_rests_0 rfl ?_
  refine f_gr (x := 11) (k2 := 9) (i2 := 0) (j2 := 0) ⟨by decide, by decide⟩ rfl rfl (Nat.le_of_ble_eq_true rfl) wd_160 rfl rfl dX10_rests_1 ?_
  refine fC_gi (x := 0) ⟨by decide, by decide⟩ rfl rfl (Nat.le_of_ble_eq_true rfl) wd_161 (by decide) rfl dX10_rests_4 ?_
  refine ab_if_ne (tgt := 14) dX10_rests_7 (by decide) (fun hc1 => ?_) (fun hc1 => ?_)
  · have h := sat_f hc1 h
    exact t_X10_rests_14 N a1 C h
  · have h := sat_t hc1 h
    refine ab_aloadn 0 dX10_rests_10 rfl ?_
    refine fC_Vv (mtc := mt_X10_tryAllPlots) (As := []) h (fun Q h => ct_X10_tryAllPlots N C h) ⟨by decide, by decide⟩ rfl rfl rfl mw_X10_tryAllPlots wd_289 rfl rfl ⟨Nat.le_of_ble_eq_true rfl, Nat.le_of_ble_eq_true rfl⟩ ⟨Nat.zero_le _, Nat.zero_le _⟩ (Nat.le_of_ble_eq_true rfl) rfl dX10_rests_11 (fun v2 C3 h => ?_)
    exact t_X10_rests_14 N a1 C3 h
theorem ct_X10_rests {l : Launch} {G : GX} {X : XM} {Q : Int32 → Mem → Prop} (N : Nat) (a1 : Int32) (C : CM) (h : SAT (f_X10_rests N a1 C) (fun v c => Q v (c, X))) : CT l G 7 mt_X10_rests [.ref (gA G 0 0 0), .int a1] (C, X) Q := ct_of pn_X10 (Nat.le_of_ble_eq_true rfl) (t_X10_rests_0 N a1 C h)
def f_X0_forceAt_b_135 (N : Nat) (a5 : Int32) (C : CM) : Option (Int32 × CM) := (rt (imax a5 0) C)
def f_X0_forceAt_b_39 (N : Nat) (r0 : Nat) (r1 : Nat) (a6 : Int32) (a7 : Int32) : Nat → Int32 → Int32 → Int32 → Int32 → CM → Option (Int32 × CM)
  | 0, _, _, _, _, _ => none
  | n + 1, a5, a8, a9, a10, C => (if 3 ≤ a10 then (f_X0_forceAt_b_135 N a5 C) else (if (a8 + a6) < 0 then (f_X0_forceAt_b_135 N a5 C) else (if (C.1 3 r0 0 1) ≤ (a8 + a6) then (f_X0_forceAt_b_135 N a5 C) else (if (a9 + a7) < 0 then (f_X0_forceAt_b_135 N a5 C) else (if (a9 + a7) < (C.1 3 r0 0 2) then ldA (C.1 3 r1 1) 100 (((a9 + a7) * 10) + (a8 + a6)) (fun v6 => (if ((v6 >>> (4 &&& 31)) <<< (4 &&& 31)) = 32 then (f_X0_forceAt_b_39 N r0 r1 a6 a7 n (a5 - 2) (a8 + a6) (a9 + a7) (a10 + 1) C) else (if ((v6 >>> (4 &&& 31)) <<< (4 &&& 31)) = 48 then (f_X0_forceAt_b_39 N r0 r1 a6 a7 n (a5 - 3) (a8 + a6) (a9 + a7) (a10 + 1) C) else (f_X0_forceAt_b_39 N r0 r1 a6 a7 n a5 (a8 + a6) (a9 + a7) (a10 + 1) C)))) else (f_X0_forceAt_b_135 N a5 C))))))
def f_X0_forceAt_b (N : Nat) (r0 : Nat) (r1 : Nat) (a2 : Int32) (a3 : Int32) (a4 : Int32) (C : CM) : Option (Int32 × CM) := ldA tbX 8 (a3 &&& 7) (fun v1 => ldA tbY 8 (a3 &&& 7) (fun v2 => (f_X0_forceAt_b_39 N r0 r1 v1 v2 N a4 (a2 - a2 / 10 * 10) (a2 / 10) 0 C)))
set_option maxRecDepth 8000 in
theorem t_X0_forceAt_b_135 {l : Launch} {G : GX} {X : XM} {Q : Int32 → Mem → Prop} (N : Nat) (a5 : Int32) (C : CM) (h : SAT (f_X0_forceAt_b_135 N a5 C) (fun v c => Q v (c, X))) : AB l G (rmD 1) 0 0 mt_X0_forceAt (ZQ G mt_X0_forceAt Q) 135 [(5, .int a5)] [] (C, X) := by
  unfold f_X0_forceAt_b_135 at h
  refine ab_iload 0 dX0_forceAt_135 rfl ?_
  refine ab_iconst (v := 0) dX0_forceAt_137 (by decide) ?_
  refine ab_mmax wd_213 wd_214 wd_36 wm_max ⟨Nat.le_of_ble_eq_true rfl, Nat.le_of_ble_eq_true rfl⟩ ⟨Nat.zero_le _, Nat.zero_le _⟩ dX0_forceAt_138 ?_
  exact fC_iret h rfl rfl dX0_forceAt_141
set_option maxRecDepth 8000 in
theorem t_X0_forceAt_b_39 {l : Launch} {G : GX} {X : XM} {Q : Int32 → Mem → Prop} (N : Nat) (r0 : Nat) (h0 : r0 < 4) (r1 : Nat) (h1 : r1 < 4) (a6 : Int32) (a7 : Int32) : ∀ (n : Nat) (a5 : Int32) (a8 : Int32) (a9 : Int32) (a10 : Int32) (C : CM), SAT (f_X0_forceAt_b_39 N r0 r1 a6 a7 n a5 a8 a9 a10 C) (fun v c => Q v (c, X)) → AB l G (rmD 1) 0 0 mt_X0_forceAt (ZQ G mt_X0_forceAt Q) 39 [(0, .ref (gA G 3 r0 0)), (1, .ref (gA G 3 r1 1)), (5, .int a5), (6, .int a6), (7, .int a7), (8, .int a8), (9, .int a9), (10, .int a10)] [] (C, X) := by
  intro n
  induction n with
  | zero => intro a5 a8 a9 a10 C h; exact h.elim
  | succ n ih =>
    intro a5 a8 a9 a10 C h
    rw [f_X0_forceAt_b_39] at h
    refine ab_iload 7 dX0_forceAt_39 rfl ?_
    refine ab_iconst (v := 3) dX0_forceAt_41 (by decide) ?_
    refine ab_icmp_ge (tgt := 135) dX0_forceAt_42 (by decide) (fun hc1 => ?_) (fun hc1 => ?_)
    · have h := sat_t hc1 h
      refine ab_sub [2] rfl ?_
      exact t_X0_forceAt_b_135 N a5 C h
    · have h := sat_f hc1 h
      refine ab_iload 5 dX0_forceAt_45 rfl ?_
      refine ab_iload 3 dX0_forceAt_47 rfl ?_
      refine ab_iadd dX0_forceAt_49 ?_
      refine ab_istore (lv' := [(0, .ref (gA G 3 r0 0)), (1, .ref (gA G 3 r1 1)), (5, .int a5), (6, .int a6), (7, .int a7), (8, .int (a8 + a6)), (9, .int a9), (10, .int a10)]) dX0_forceAt_50 rfl (Nat.le_of_ble_eq_true rfl) rfl ?_
      refine ab_iload 6 dX0_forceAt_52 rfl ?_
      refine ab_iload 4 dX0_forceAt_54 rfl ?_
      refine ab_iadd dX0_forceAt_56 ?_
      refine ab_istore (lv' := [(0, .ref (gA G 3 r0 0)), (1, .ref (gA G 3 r1 1)), (5, .int a5), (6, .int a6), (7, .int a7), (8, .int (a8 + a6)), (9, .int (a9 + a7)), (10, .int a10)]) dX0_forceAt_57 rfl (Nat.le_of_ble_eq_true rfl) rfl ?_
      refine ab_iload 5 dX0_forceAt_59 rfl ?_
      refine ab_if_lt (tgt := 135) dX0_forceAt_61 (by decide) (fun hc2 => ?_) (fun hc2 => ?_)
      · have h := sat_t hc2 h
        refine ab_sub [2] rfl ?_
        exact t_X0_forceAt_b_135 N a5 C h
      · have h := sat_f hc2 h
        refine ab_iload 5 dX0_forceAt_64 rfl ?_
        refine ab_aloadn 0 dX0_forceAt_66 rfl ?_
        refine fC_gi (x := 1) ⟨h0, by decide⟩ rfl rfl (Nat.le_of_ble_eq_true rfl) wd_53 (by decide) rfl dX0_forceAt_67 ?_
        refine ab_icmp_ge (tgt := 135) dX0_forceAt_70 (by decide) (fun hc3 => ?_) (fun hc3 => ?_)
        · have h := sat_t hc3 h
          refine ab_sub [2] rfl ?_
          exact t_X0_forceAt_b_135 N a5 C h
        · have h := sat_f hc3 h
          refine ab_iload 6 dX0_forceAt_73 rfl ?_
          refine ab_if_lt (tgt := 135) dX0_forceAt_75 (by decide) (fun hc4 => ?_) (fun hc4 => ?_)
          · have h := sat_t hc4 h
            refine ab_sub [2] rfl ?_
            exact t_X0_forceAt_b_135 N a5 C h
          · have h := sat_f hc4 h
            refine ab_iload 6 dX0_forceAt_78 rfl ?_
            refine ab_aloadn 0 dX0_forceAt_80 rfl ?_
            refine fC_gi (x := 2) ⟨h0, by decide⟩ rfl rfl (Nat.le_of_ble_eq_true rfl) wd_54 (by decide) rfl dX0_forceAt_81 ?_
            refine ab_icmp_lt (tgt := 90) dX0_forceAt_84 (by decide) (fun hc5 => ?_) (fun hc5 => ?_)
            · have h := sat_t hc5 h
              refine ab_aloadn 1 dX0_forceAt_90 rfl ?_
              refine ab_iload 6 dX0_forceAt_91 rfl ?_
              refine ab_bipush (v := 10) dX0_forceAt_93 (by decide) ?_
              refine ab_imul dX0_forceAt_95 ?_
              refine ab_iload 5 dX0_forceAt_96 rfl ?_
              refine ab_iadd dX0_forceAt_98 ?_
              refine fC_iald ⟨h1, by decide⟩ rfl (by decide) (fun _ => rfl) h dX0_forceAt_99 (fun v6 h => ?_)
              refine ab_iconst (v := 4) dX0_forceAt_100 (by decide) ?_
              refine ab_ishr dX0_forceAt_101 ?_
              refine ab_iconst (v := 4) dX0_forceAt_102 (by decide) ?_
              refine ab_ishl dX0_forceAt_103 ?_
              refine ab_istore (lv' := [(0, .ref (gA G 3 r0 0)), (1, .ref (gA G 3 r1 1)), (5, .int a5), (6, .int a6), (7, .int a7), (8, .int (a8 + a6)), (9, .int (a9 + a7)), (10, .int a10), (11, .int ((v6 >>> (4 &&& 31)) <<< (4 &&& 31)))]) dX0_forceAt_104 rfl (Nat.le_of_ble_eq_true rfl) rfl ?_
              refine ab_iload 8 dX0_forceAt_106 rfl ?_
              refine ab_bipush (v := 32) dX0_forceAt_108 (by decide) ?_
              refine ab_icmp_ne (tgt := 119) dX0_forceAt_110 (by decide) (fun hc7 => ?_) (fun hc7 => ?_)
              · have h := sat_f hc7 h
                refine ab_iload 8 dX0_forceAt_119 rfl ?_
                refine ab_bipush (v := 48) dX0_forceAt_121 (by decide) ?_
                refine ab_icmp_ne (tgt := 129) dX0_forceAt_123 (by decide) (fun hc8 => ?_) (fun hc8 => ?_)
                · have h := sat_f hc8 h
                  refine ab_iinc (q := 7) (v := (a10 + 1)) (lv' := [(0, .ref (gA G 3 r0 0)), (1, .ref (gA G 3 r1 1)), (5, .int a5), (6, .int a6), (7, .int a7), (8, .int (a8 + a6)), (9, .int (a9 + a7)), (10, .int (a10 + 1)), (11, .int ((v6 >>> (4 &&& 31)) <<< (4 &&& 31)))]) dX0_forceAt_129 rfl rfl rfl (Nat.le_of_ble_eq_true rfl) rfl ?_
                  refine ab_goto (tgt := 39) dX0_forceAt_132 (by decide) ?_
                  refine ab_sub [0, 1, 2, 3, 4, 5, 6, 7] rfl ?_
                  exact ih a5 (a8 + a6) (a9 + a7) (a10 + 1) C h
                · have h := sat_t hc8 h
                  refine ab_iinc (q := 2) (v := (a5 - 3)) (lv' := [(0, .ref (gA G 3 r0 0)), (1, .ref (gA G 3 r1 1)), (5, .int (a5 - 3)), (6, .int a6), (7, .int a7), (8, .int (a8 + a6)), (9, .int (a9 + a7)), (10, .int a10), (11, .int ((v6 >>> (4 &&& 31)) <<< (4 &&& 31)))]) dX0_forceAt_126 rfl (ii_m3 _) rfl (Nat.le_of_ble_eq_true rfl) rfl ?_
                  refine ab_iinc (q := 7) (v := (a10 + 1)) (lv' := [(0, .ref (gA G 3 r0 0)), (1, .ref (gA G 3 r1 1)), (5, .int (a5 - 3)), (6, .int a6), (7, .int a7), (8, .int (a8 + a6)), (9, .int (a9 + a7)), (10, .int (a10 + 1)), (11, .int ((v6 >>> (4 &&& 31)) <<< (4 &&& 31)))]) dX0_forceAt_129 rfl rfl rfl (Nat.le_of_ble_eq_true rfl) rfl ?_
                  refine ab_goto (tgt := 39) dX0_forceAt_132 (by decide) ?_
                  refine ab_sub [0, 1, 2, 3, 4, 5, 6, 7] rfl ?_
                  exact ih (a5 - 3) (a8 + a6) (a9 + a7) (a10 + 1) C h
              · have h := sat_t hc7 h
                refine ab_iinc (q := 2) (v := (a5 - 2)) (lv' := [(0, .ref (gA G 3 r0 0)), (1, .ref (gA G 3 r1 1)), (5, .int (a5 - 2)), (6, .int a6), (7, .int a7), (8, .int (a8 + a6)), (9, .int (a9 + a7)), (10, .int a10), (11, .int ((v6 >>> (4 &&& 31)) <<< (4 &&& 31)))]) dX0_forceAt_113 rfl (ii_m2 _) rfl (Nat.le_of_ble_eq_true rfl) rfl ?_
                refine ab_goto (tgt := 129) dX0_forceAt_116 (by decide) ?_
                refine ab_iinc (q := 7) (v := (a10 + 1)) (lv' := [(0, .ref (gA G 3 r0 0)), (1, .ref (gA G 3 r1 1)), (5, .int (a5 - 2)), (6, .int a6), (7, .int a7), (8, .int (a8 + a6)), (9, .int (a9 + a7)), (10, .int (a10 + 1)), (11, .int ((v6 >>> (4 &&& 31)) <<< (4 &&& 31)))]) dX0_forceAt_129 rfl rfl rfl (Nat.le_of_ble_eq_true rfl) rfl ?_
                refine ab_goto (tgt := 39) dX0_forceAt_132 (by decide) ?_
                refine ab_sub [0, 1, 2, 3, 4, 5, 6, 7] rfl ?_
                exact ih (a5 - 2) (a8 + a6) (a9 + a7) (a10 + 1) C h
            · have h := sat_f hc5 h
              refine ab_goto (tgt := 135) dX0_forceAt_87 (by decide) ?_
              refine ab_sub [2] rfl ?_
              exact t_X0_forceAt_b_135 N a5 C h
set_option maxRecDepth 8000 in
theorem t_X0_forceAt_b_0 {l : Launch} {G : GX} {X : XM} {Q : Int32 → Mem → Prop} (N : Nat) (r0 : Nat) (h0 : r0 < 4) (r1 : Nat) (h1 : r1 < 4) (a2 : Int32) (a3 : Int32) (a4 : Int32) (C : CM) (h : SAT (f_X0_forceAt_b N r0 r1 a2 a3 a4 C) (fun v c => Q v (c, X))) : AB l G (rmD 1) 0 0 mt_X0_forceAt (ZQ G mt_X0_forceAt Q) 0 [(0, .ref (gA G 3 r0 0)), (1, .ref (gA G 3 r1 1)), (2, .int a2), (3, .int a3), (4, .int a4)] [] (C, X) := by
  unfold f_X0_forceAt_b at h
  refine ab_iload 4 dX0_forceAt_0 rfl ?_
  refine ab_istore (lv' := [(0, .ref (gA G 3 r0 0)), (1, .ref (gA G 3 r1 1)), (2, .int a2), (3, .int a3), (4, .int a4), (5, .int a4)]) dX0_forceAt_2 rfl (Nat.le_of_ble_eq_true rfl) rfl ?_
  refine ab_stx (n := 82) rfl (by decide) dX0_forceAt_4 ?_
  refine ab_iloadn 3 dX0_forceAt_7 rfl ?_
  refine ab_bipush (v := 7) dX0_forceAt_8 (by decide) ?_
  refine ab_iand dX0_forceAt_10 ?_
  refine f_sti (b := 0) (by decide) rfl h dX0_forceAt_11 (fun v1 h => ?_)
  refine ab_istore (lv' := [(0, .ref (gA G 3 r0 0)), (1, .ref (gA G 3 r1 1)), (2, .int a2), (3, .int a3), (4, .int a4), (5, .int a4), (6, .int v1)]) dX0_forceAt_12 rfl (Nat.le_of_ble_eq_true rfl) rfl ?_
  refine ab_stx (n := 85) rfl (by decide) dX0_forceAt_14 ?_
  refine ab_iloadn 3 dX0_forceAt_17 rfl ?_
  refine ab_bipush (v := 7) dX0_forceAt_18 (by decide) ?_
  refine ab_iand dX0_forceAt_20 ?_
  refine f_sti (b := 1) (by decide) rfl h dX0_forceAt_21 (fun v2 h => ?_)
  refine ab_istore (lv' := [(0, .ref (gA G 3 r0 0)), (1, .ref (gA G 3 r1 1)), (2, .int a2), (3, .int a3), (4, .int a4), (5, .int a4), (6, .int v1), (7, .int v2)]) dX0_forceAt_22 rfl (Nat.le_of_ble_eq_true rfl) rfl ?_
  refine ab_iloadn 2 dX0_forceAt_24 rfl ?_
  refine ab_bipush (v := 10) dX0_forceAt_25 (by decide) ?_
  refine ab_irem dX0_forceAt_27 (by decide) ?_
  refine ab_istore (lv' := [(0, .ref (gA G 3 r0 0)), (1, .ref (gA G 3 r1 1)), (2, .int a2), (3, .int a3), (4, .int a4), (5, .int a4), (6, .int v1), (7, .int v2), (8, .int (a2 - a2 / 10 * 10))]) dX0_forceAt_28 rfl (Nat.le_of_ble_eq_true rfl) rfl ?_
  refine ab_iloadn 2 dX0_forceAt_30 rfl ?_
  refine ab_bipush (v := 10) dX0_forceAt_31 (by decide) ?_
  refine ab_idiv dX0_forceAt_33 (by decide) ?_
  refine ab_istore (lv' := [(0, .ref (gA G 3 r0 0)), (1, .ref (gA G 3 r1 1)), (2, .int a2), (3, .int a3), (4, .int a4), (5, .int a4), (6, .int v1), (7, .int v2), (8, .int (a2 - a2 / 10 * 10)), (9, .int (a2 / 10))]) dX0_forceAt_34 rfl (Nat.le_of_ble_eq_true rfl) rfl ?_
  refine ab_iconst (v := 0) dX0_forceAt_36 (by decide) ?_
  refine ab_istore (lv' := [(0, .ref (gA G 3 r0 0)), (1, .ref (gA G 3 r1 1)), (2, .int a2), (3, .int a3), (4, .int a4), (5, .int a4), (6, .int v1), (7, .int v2), (8, .int (a2 - a2 / 10 * 10)), (9, .int (a2 / 10)), (10, .int 0)]) dX0_forceAt_37 rfl (Nat.le_of_ble_eq_true rfl) rfl ?_
  refine ab_sub [0, 1, 5, 6, 7, 8, 9, 10] rfl ?_
  exact t_X0_forceAt_b_39 N r0 h0 r1 h1 v1 v2 N a4 (a2 - a2 / 10 * 10) (a2 / 10) 0 C h
theorem ct_X0_forceAt_b {l : Launch} {G : GX} {X : XM} {Q : Int32 → Mem → Prop} (N : Nat) (r0 : Nat) (h0 : r0 < 4) (r1 : Nat) (h1 : r1 < 4) (a2 : Int32) (a3 : Int32) (a4 : Int32) (C : CM) (h : SAT (f_X0_forceAt_b N r0 r1 a2 a3 a4 C) (fun v c => Q v (c, X))) : CT l G 1 mt_X0_forceAt [.ref (gA G 3 r0 0), .ref (gA G 3 r1 1), .int a2, .int a3, .int a4] (C, X) Q := ct_of pn_X0 (Nat.le_of_ble_eq_true rfl) (t_X0_forceAt_b_0 N r0 h0 r1 h1 a2 a3 a4 C h)
def f_X9_pointsBehind_124 (N : Nat) (a5 : Int32) (C : CM) : Option (Int32 × CM) := (rt a5 C)
def f_X9_pointsBehind_59 (N : Nat) (k36 : Int32 → Int32 → Int32 → CM → Option (Int32 × CM)) (r1 : Nat) (a3 : Int32) (a4 : Int32) (a5 : Int32) (a6 : Int32) (a7 : Int32) (a8 : Int32) (C : CM) : Option (Int32 × CM) := ldA (C.1 3 r1 5) 48 a8 (fun v1 => (if v1 ≤ 0 then (k36 a5 a6 (a8 + 1) C) else ldA (C.1 3 r1 4) 48 a8 (fun v3 => cal (f_X0_forceAt_b N r1 r1 a7 v3 v1 C) (fun v4 C5 => cal (f_X0_dirAt r1 a7 v3 C5) (fun v6 C7 => cal (f_X9_turned a5 v6 (v4 - a6) C7) (fun v8 C9 => (k36 v8 a6 (a8 + 1) C9)))))))
def f_X9_pointsBehind_36 (N : Nat) (r1 : Nat) (a3 : Int32) (a4 : Int32) (a7 : Int32) : Nat → Int32 → Int32 → Int32 → CM → Option (Int32 × CM)
  | 0, _, _, _, _ => none
  | n + 1, a5, a6, a8, C => (if a4 ≤ a8 then (f_X9_pointsBehind_124 N a5 C) else (if 48 ≤ a8 then (f_X9_pointsBehind_124 N a5 C) else (if a8 = a3 then (f_X9_pointsBehind_59 N (fun z5 z6 z8 c => f_X9_pointsBehind_36 N r1 a3 a4 a7 n z5 z6 z8 c) r1 a3 a4 a5 0 a7 a8 C) else (f_X9_pointsBehind_59 N (fun z5 z6 z8 c => f_X9_pointsBehind_36 N r1 a3 a4 a7 n z5 z6 z8 c) r1 a3 a4 a5 a6 a7 a8 C))))
def f_X9_pointsBehind (N : Nat) (r1 : Nat) (a2 : Int32) (a3 : Int32) (a4 : Int32) (C : CM) : Option (Int32 × CM) := ldA (C.1 3 r1 12) 8 a2 (fun v1 => ldA (C.1 3 r1 11) 8 a2 (fun v2 => ldA (C.1 3 r1 8) 8 a2 (fun v3 => (f_X9_pointsBehind_36 N r1 a3 a4 v3 N v1 v2 0 C))))
set_option maxRecDepth 8000 in
theorem t_X9_pointsBehind_124 {l : Launch} {G : GX} {X : XM} {Q : Int32 → Mem → Prop} (N : Nat) (a5 : Int32) (C : CM) (h : SAT (f_X9_pointsBehind_124 N a5 C) (fun v c => Q v (c, X))) : AB l G (rmD 2) 0 0 mt_X9_pointsBehind (ZQ G mt_X9_pointsBehind Q) 124 [(5, .int a5)] [] (C, X) := by
  unfold f_X9_pointsBehind_124 at h
  refine ab_iload 0 dX9_pointsBehind_124 rfl ?_
  exact fC_iret h rfl rfl dX9_pointsBehind_126
set_option maxRecDepth 8000 in
theorem t_X9_pointsBehind_59 {l : Launch} {G : GX} {X : XM} {Q : Int32 → Mem → Prop} (N : Nat) (k36 : Int32 → Int32 → Int32 → CM → Option (Int32 × CM)) (r1 : Nat) (h1 : r1 < 4) (a3 : Int32) (a4 : Int32) (a5 : Int32) (a6 : Int32) (a7 : Int32) (a8 : Int32) (hk36 : ∀ (ac5 : Int32) (ac6 : Int32) (ac8 : Int32) (C : CM), SAT (k36 ac5 ac6 ac8 C) (fun v c => Q v (c, X)) → AB l G (rmD 2) 0 0 mt_X9_pointsBehind (ZQ G mt_X9_pointsBehind Q) 36 [(1, .ref (gA G 3 r1 0)), (3, .int a3), (4, .int a4), (5, .int ac5), (6, .int ac6), (7, .int a7), (8, .int ac8)] [] (C, X)) (C : CM) (h : SAT (f_X9_pointsBehind_59 N k36 r1 a3 a4 a5 a6 a7 a8 C) (fun v c => Q v (c, X))) : AB l G (rmD 2) 0 0 mt_X9_pointsBehind (ZQ G mt_X9_pointsBehind Q) 59 [(1, .ref (gA G 3 r1 0)), (3, .int a3), (4, .int a4), (5, .int a5), (6, .int a6), (7, .int a7), (8, .int a8)] [] (C, X) := by
  unfold f_X9_pointsBehind_59 at h
  refine ab_aloadn 0 dX9_pointsBehind_59 rfl ?_
  refine f_gr (x := 15) (k2 := 3) (i2 := r1) (j2 := 5) ⟨h1, by decide⟩ rfl rfl (Nat.le_of_ble_eq_true rfl) wd_256 rfl rfl dX9_pointsBehind_60 ?_
  refine ab_iload 6 dX9_pointsBehind_63 rfl ?_
  refine fC_iald ⟨h1, by decide⟩ rfl (by decide) (fun _ => rfl) h dX9_pointsBehind_65 (fun v1 h => ?_)
  refine ab_istore (lv' := [(1, .ref (gA G 3 r1 0)), (3, .int a3), (4, .int a4), (5, .int a5), (6, .int a6), (7, .int a7), (8, .int a8), (9, .int v1)]) dX9_pointsBehind_66 rfl (Nat.le_of_ble_eq_true rfl) rfl ?_
  refine ab_iload 7 dX9_pointsBehind_68 rfl ?_
  refine ab_if_le (tgt := 118) dX9_pointsBehind_70 (by decide) (fun hc2 => ?_) (fun hc2 => ?_)
  · have h := sat_t hc2 h
    refine ab_iinc (q := 6) (v := (a8 + 1)) (lv' := [(1, .ref (gA G 3 r1 0)), (3, .int a3), (4, .int a4), (5, .int a5), (6, .int a6), (7, .int a7), (8, .int (a8 + 1)), (9, .int v1)]) dX9_pointsBehind_118 rfl rfl rfl (Nat.le_of_ble_eq_true rfl) rfl ?_
    refine ab_goto (tgt := 36) dX9_pointsBehind_121 (by decide) ?_
    refine ab_sub [0, 1, 2, 3, 4, 5, 6] rfl ?_
    exact hk36 a5 a6 (a8 + 1) C h
  · have h := sat_f hc2 h
    refine ab_aloadn 0 dX9_pointsBehind_73 rfl ?_
    refine f_gr (x := 14) (k2 := 3) (i2 := r1) (j2 := 4) ⟨h1, by decide⟩ rfl rfl (Nat.le_of_ble_eq_true rfl) wd_263 rfl rfl dX9_pointsBehind_74 ?_
    refine ab_iload 6 dX9_pointsBehind_77 rfl ?_
    refine fC_iald ⟨h1, by decide⟩ rfl (by decide) (fun _ => rfl) h dX9_pointsBehind_79 (fun v3 h => ?_)
    refine ab_istore (lv' := [(1, .ref (gA G 3 r1 0)), (3, .int a3), (4, .int a4), (5, .int a5), (6, .int a6), (7, .int a7), (8, .int a8), (9, .int v1), (10, .int v3)]) dX9_pointsBehind_80 rfl (Nat.le_of_ble_eq_true rfl) rfl ?_
    refine ab_aloadn 0 dX9_pointsBehind_82 rfl ?_
    refine ab_aloadn 0 dX9_pointsBehind_83 rfl ?_
    refine f_gr (x := 11) (k2 := 3) (i2 := r1) (j2 := 1) ⟨h1, by decide⟩ rfl rfl (Nat.le_of_ble_eq_true rfl) wd_295 rfl rfl dX9_pointsBehind_84 ?_
    refine ab_iload 5 dX9_pointsBehind_87 rfl ?_
    refine ab_iload 8 dX9_pointsBehind_89 rfl ?_
    refine ab_iload 7 dX9_pointsBehind_91 rfl ?_
    refine fC_Vi (mtc := mt_X0_forceAt) (As := [.ref (gA G 3 r1 1), .int a7, .int v3, .int v1]) h (fun Q h => ct_X0_forceAt_b N r1 h1 r1 h1 a7 v3 v1 C h) ⟨h1, by decide⟩ rfl rfl rfl mw_X0_forceAt wd_224 rfl rfl ⟨Nat.le_of_ble_eq_true rfl, Nat.le_of_ble_eq_true rfl⟩ ⟨Nat.zero_le _, Nat.zero_le _⟩ (Nat.le_of_ble_eq_true rfl) rfl dX9_pointsBehind_93 (fun v4 C5 h => ?_)
    refine ab_istore (lv' := [(1, .ref (gA G 3 r1 0)), (3, .int a3), (4, .int a4), (5, .int a5), (6, .int a6), (7, .int a7), (8, .int a8), (9, .int v1), (10, .int v3), (11, .int v4)]) dX9_pointsBehind_96 rfl (Nat.le_of_ble_eq_true rfl) rfl ?_
    refine ab_iload 3 dX9_pointsBehind_98 rfl ?_
    refine ab_aloadn 0 dX9_pointsBehind_100 rfl ?_
    refine ab_iload 5 dX9_pointsBehind_101 rfl ?_
    refine ab_iload 8 dX9_pointsBehind_103 rfl ?_
    refine fC_Vi (mtc := mt_X0_dirAt) (As := [.int a7, .int v3]) h (fun Q h => ct_X0_dirAt r1 h1 a7 v3 C5 h) ⟨h1, by decide⟩ rfl rfl rfl mw_X0_dirAt wd_222 rfl rfl ⟨Nat.le_of_ble_eq_true rfl, Nat.le_of_ble_eq_true rfl⟩ ⟨Nat.zero_le _, Nat.zero_le _⟩ (Nat.le_of_ble_eq_true rfl) rfl dX9_pointsBehind_105 (fun v6 C7 h => ?_)
    refine ab_iload 9 dX9_pointsBehind_108 rfl ?_
    refine ab_iload 4 dX9_pointsBehind_110 rfl ?_
    refine ab_isub dX9_pointsBehind_112 ?_
    refine fC_Si (mtc := mt_X9_turned) (As := [.int a5, .int v6, .int (v4 - a6)]) h (fun Q h => ct_X9_turned a5 v6 (v4 - a6) C7 h) mw_X9_turned wd_229 wd_230 rfl rfl ⟨Nat.le_of_ble_eq_true rfl, Nat.le_of_ble_eq_true rfl⟩ ⟨Nat.zero_le _, Nat.zero_le _⟩ (Nat.le_of_ble_eq_true rfl) rfl dX9_pointsBehind_113 (fun v8 C9 h => ?_)
    refine ab_istore (lv' := [(1, .ref (gA G 3 r1 0)), (3, .int a3), (4, .int a4), (5, .int v8), (6, .int a6), (7, .int a7), (8, .int a8), (9, .int v1), (10, .int v3), (11, .int v4)]) dX9_pointsBehind_116 rfl (Nat.le_of_ble_eq_true rfl) rfl ?_
    refine ab_iinc (q := 6) (v := (a8 + 1)) (lv' := [(1, .ref (gA G 3 r1 0)), (3, .int a3), (4, .int a4), (5, .int v8), (6, .int a6), (7, .int a7), (8, .int (a8 + 1)), (9, .int v1), (10, .int v3), (11, .int v4)]) dX9_pointsBehind_118 rfl rfl rfl (Nat.le_of_ble_eq_true rfl) rfl ?_
    refine ab_goto (tgt := 36) dX9_pointsBehind_121 (by decide) ?_
    refine ab_sub [0, 1, 2, 3, 4, 5, 6] rfl ?_
    exact hk36 v8 a6 (a8 + 1) C9 h
set_option maxRecDepth 8000 in
theorem t_X9_pointsBehind_36 {l : Launch} {G : GX} {X : XM} {Q : Int32 → Mem → Prop} (N : Nat) (r1 : Nat) (h1 : r1 < 4) (a3 : Int32) (a4 : Int32) (a7 : Int32) : ∀ (n : Nat) (a5 : Int32) (a6 : Int32) (a8 : Int32) (C : CM), SAT (f_X9_pointsBehind_36 N r1 a3 a4 a7 n a5 a6 a8 C) (fun v c => Q v (c, X)) → AB l G (rmD 2) 0 0 mt_X9_pointsBehind (ZQ G mt_X9_pointsBehind Q) 36 [(1, .ref (gA G 3 r1 0)), (3, .int a3), (4, .int a4), (5, .int a5), (6, .int a6), (7, .int a7), (8, .int a8)] [] (C, X) := by
  intro n
  induction n with
  | zero => intro a5 a6 a8 C h; exact h.elim
  | succ n ih =>
    intro a5 a6 a8 C h
    rw [f_X9_pointsBehind_36] at h
    refine ab_iload 6 dX9_pointsBehind_36 rfl ?_
    refine ab_iload 2 dX9_pointsBehind_38 rfl ?_
    refine ab_icmp_ge (tgt := 124) dX9_pointsBehind_40 (by decide) (fun hc1 => ?_) (fun hc1 => ?_)
    · have h := sat_t hc1 h
      refine ab_sub [3] rfl ?_
      exact t_X9_pointsBehind_124 N a5 C h
    · have h := sat_f hc1 h
      refine ab_iload 6 dX9_pointsBehind_43 rfl ?_
      refine ab_bipush (v := 48) dX9_pointsBehind_45 (by decide) ?_
      refine ab_icmp_ge (tgt := 124) dX9_pointsBehind_47 (by decide) (fun hc2 => ?_) (fun hc2 => ?_)
      · have h := sat_t hc2 h
        refine ab_sub [3] rfl ?_
        exact t_X9_pointsBehind_124 N a5 C h
      · have h := sat_f hc2 h
        refine ab_iload 6 dX9_pointsBehind_50 rfl ?_
        refine ab_iloadn 1 dX9_pointsBehind_52 rfl ?_
        refine ab_icmp_ne (tgt := 59) dX9_pointsBehind_53 (by decide) (fun hc3 => ?_) (fun hc3 => ?_)
        · have h := sat_f hc3 h
          exact t_X9_pointsBehind_59 N (fun z5 z6 z8 c => f_X9_pointsBehind_36 N r1 a3 a4 a7 n z5 z6 z8 c) r1 h1 a3 a4 a5 a6 a7 a8 ih C h
        · have h := sat_t hc3 h
          refine ab_iconst (v := 0) dX9_pointsBehind_56 (by decide) ?_
          refine ab_istore (lv' := [(1, .ref (gA G 3 r1 0)), (3, .int a3), (4, .int a4), (5, .int a5), (6, .int 0), (7, .int a7), (8, .int a8)]) dX9_pointsBehind_57 rfl (Nat.le_of_ble_eq_true rfl) rfl ?_
          exact t_X9_pointsBehind_59 N (fun z5 z6 z8 c => f_X9_pointsBehind_36 N r1 a3 a4 a7 n z5 z6 z8 c) r1 h1 a3 a4 a5 0 a7 a8 ih C h
set_option maxRecDepth 8000 in
theorem t_X9_pointsBehind_0 {l : Launch} {G : GX} {X : XM} {Q : Int32 → Mem → Prop} (N : Nat) (r1 : Nat) (h1 : r1 < 4) (a2 : Int32) (a3 : Int32) (a4 : Int32) (C : CM) (h : SAT (f_X9_pointsBehind N r1 a2 a3 a4 C) (fun v c => Q v (c, X))) : AB l G (rmD 2) 0 0 mt_X9_pointsBehind (ZQ G mt_X9_pointsBehind Q) 0 [(0, .ref (gA G 8 0 0)), (1, .ref (gA G 3 r1 0)), (2, .int a2), (3, .int a3), (4, .int a4)] [] (C, X) := by
  unfold f_X9_pointsBehind at h
  refine ab_aloadn 1 dX9_pointsBehind_0 rfl ?_
  refine f_gr (x := 10) (k2 := 3) (i2 := r1) (j2 := 6) ⟨h1, by decide⟩ rfl rfl (Nat.le_of_ble_eq_true rfl) wd_219 rfl rfl dX9_pointsBehind_1 ?_
  refine f_gr (x := 7) (k2 := 3) (i2 := r1) (j2 := 12) ⟨h1, by decide⟩ rfl rfl (Nat.le_of_ble_eq_true rfl) wd_293 rfl rfl dX9_pointsBehind_4 ?_
  refine ab_iloadn 2 dX9_pointsBehind_7 rfl ?_
  refine fC_iald ⟨h1, by decide⟩ rfl (by decide) (fun _ => rfl) h dX9_pointsBehind_8 (fun v1 h => ?_)
  refine ab_istore (lv' := [(0, .ref (gA G 8 0 0)), (1, .ref (gA G 3 r1 0)), (2, .int a2), (3, .int a3), (4, .int a4), (5, .int v1)]) dX9_pointsBehind_9 rfl (Nat.le_of_ble_eq_true rfl) rfl ?_
  refine ab_aloadn 1 dX9_pointsBehind_11 rfl ?_
  refine f_gr (x := 10) (k2 := 3) (i2 := r1) (j2 := 6) ⟨h1, by decide⟩ rfl rfl (Nat.le_of_ble_eq_true rfl) wd_219 rfl rfl dX9_pointsBehind_12 ?_
  refine f_gr (x := 6) (k2 := 3) (i2 := r1) (j2 := 11) ⟨h1, by decide⟩ rfl rfl (Nat.le_of_ble_eq_true rfl) wd_294 rfl rfl dX9_pointsBehind_15 ?_
  refine ab_iloadn 2 dX9_pointsBehind_18 rfl ?_
  refine fC_iald ⟨h1, by decide⟩ rfl (by decide) (fun _ => rfl) h dX9_pointsBehind_19 (fun v2 h => ?_)
  refine ab_istore (lv' := [(0, .ref (gA G 8 0 0)), (1, .ref (gA G 3 r1 0)), (2, .int a2), (3, .int a3), (4, .int a4), (5, .int v1), (6, .int v2)]) dX9_pointsBehind_20 rfl (Nat.le_of_ble_eq_true rfl) rfl ?_
  refine ab_aloadn 1 dX9_pointsBehind_22 rfl ?_
  refine f_gr (x := 10) (k2 := 3) (i2 := r1) (j2 := 6) ⟨h1, by decide⟩ rfl rfl (Nat.le_of_ble_eq_true rfl) wd_219 rfl rfl dX9_pointsBehind_23 ?_
  refine f_gr (x := 3) (k2 := 3) (i2 := r1) (j2 := 8) ⟨h1, by decide⟩ rfl rfl (Nat.le_of_ble_eq_true rfl) wd_221 rfl rfl dX9_pointsBehind_26 ?_
  refine ab_iloadn 2 dX9_pointsBehind_29 rfl ?_
  refine fC_iald ⟨h1, by decide⟩ rfl (by decide) (fun _ => rfl) h dX9_pointsBehind_30 (fun v3 h => ?_)
  refine ab_istore (lv' := [(0, .ref (gA G 8 0 0)), (1, .ref (gA G 3 r1 0)), (2, .int a2), (3, .int a3), (4, .int a4), (5, .int v1), (6, .int v2), (7, .int v3)]) dX9_pointsBehind_31 rfl (Nat.le_of_ble_eq_true rfl) rfl ?_
  refine ab_iconst (v := 0) dX9_pointsBehind_33 (by decide) ?_
  refine ab_istore (lv' := [(0, .ref (gA G 8 0 0)), (1, .ref (gA G 3 r1 0)), (2, .int a2), (3, .int a3), (4, .int a4), (5, .int v1), (6, .int v2), (7, .int v3), (8, .int 0)]) dX9_pointsBehind_34 rfl (Nat.le_of_ble_eq_true rfl) rfl ?_
  refine ab_sub [1, 3, 4, 5, 6, 7, 8] rfl ?_
  exact t_X9_pointsBehind_36 N r1 h1 a3 a4 v3 N v1 v2 0 C h
theorem ct_X9_pointsBehind {l : Launch} {G : GX} {X : XM} {Q : Int32 → Mem → Prop} (N : Nat) (r1 : Nat) (h1 : r1 < 4) (a2 : Int32) (a3 : Int32) (a4 : Int32) (C : CM) (h : SAT (f_X9_pointsBehind N r1 a2 a3 a4 C) (fun v c => Q v (c, X))) : CT l G 2 mt_X9_pointsBehind [.ref (gA G 8 0 0), .ref (gA G 3 r1 0), .int a2, .int a3, .int a4] (C, X) Q := ct_of pn_X9 (Nat.le_of_ble_eq_true rfl) (t_X9_pointsBehind_0 N r1 h1 a2 a3 a4 C h)
def f_X10_unlikeWithoutOil_4 (N : Nat) (a1 : Int32) : Nat → Int32 → Int32 → CM → Option (Int32 × CM)
  | 0, _, _, _ => none
  | n + 1, a2, a3, C => (if a1 ≤ a3 then (rt a2 C) else ldR (C.2 2 0 1) 4 (fun y2 => cal (f_X9_pointsBehind N y2 a3 (-1) (C.1 4 0 0 0) C) (fun v4 C5 => ldA (C5.1 0 0 1) 940 a3 (fun v6 => (if v4 = v6 then (f_X10_unlikeWithoutOil_4 N a1 n a2 (a3 + 1) C5) else (f_X10_unlikeWithoutOil_4 N a1 n (a2 ||| ((1 : Int32) <<< (a3 &&& 31))) (a3 + 1) C5))))))
def f_X10_unlikeWithoutOil (N : Nat) (a1 : Int32) (C : CM) : Option (Int32 × CM) := (f_X10_unlikeWithoutOil_4 N a1 N 0 0 C)
set_option maxRecDepth 8000 in
theorem t_X10_unlikeWithoutOil_4 {l : Launch} {G : GX} {X : XM} {Q : Int32 → Mem → Prop} (N : Nat) (a1 : Int32) : ∀ (n : Nat) (a2 : Int32) (a3 : Int32) (C : CM), SAT (f_X10_unlikeWithoutOil_4 N a1 n a2 a3 C) (fun v c => Q v (c, X)) → AB l G (rmD 3) 0 0 mt_X10_unlikeWithoutOil (ZQ G mt_X10_unlikeWithoutOil Q) 4 [(0, .ref (gA G 0 0 0)), (1, .int a1), (2, .int a2), (3, .int a3)] [] (C, X) := by
  intro n
  induction n with
  | zero => intro a2 a3 C h; exact h.elim
  | succ n ih =>
    intro a2 a3 C h
    rw [f_X10_unlikeWithoutOil_4] at h
    refine ab_iloadn 3 dX10_unlikeWithoutOil_4 rfl ?_
    refine ab_iloadn 1 dX10_unlikeWithoutOil_5 rfl ?_
    refine ab_icmp_ge (tgt := 56) dX10_unlikeWithoutOil_6 (by decide) (fun hc1 => ?_) (fun hc1 => ?_)
    · have h := sat_t hc1 h
      refine ab_iloadn 2 dX10_unlikeWithoutOil_56 rfl ?_
      exact fC_iret h rfl rfl dX10_unlikeWithoutOil_57
    · have h := sat_f hc1 h
      refine ab_aloadn 0 dX10_unlikeWithoutOil_9 rfl ?_
      refine f_gr (x := 10) (k2 := 8) (i2 := 0) (j2 := 0) ⟨by decide, by decide⟩ rfl rfl (Nat.le_of_ble_eq_true rfl) wd_218 rfl rfl dX10_unlikeWithoutOil_10 ?_
      refine ab_aloadn 0 dX10_unlikeWithoutOil_13 rfl ?_
      refine f_gr (x := 4) (k2 := 2) (i2 := 0) (j2 := 0) ⟨by decide, by decide⟩ rfl rfl (Nat.le_of_ble_eq_true rfl) wd_124 rfl rfl dX10_unlikeWithoutOil_14 ?_
      refine fC_gd (x := 1) ⟨by decide, by decide⟩ rfl rfl (Nat.le_of_ble_eq_true rfl) wd_125 rfl h rfl dX10_unlikeWithoutOil_17 (fun y2 hy3 h => ?_)
      refine ab_iloadn 3 dX10_unlikeWithoutOil_20 rfl ?_
      refine ab_iconst (v := (-1)) dX10_unlikeWithoutOil_21 (by decide) ?_
      refine ab_aloadn 0 dX10_unlikeWithoutOil_22 rfl ?_
      refine f_gr (x := 4) (k2 := 2) (i2 := 0) (j2 := 0) ⟨by decide, by decide⟩ rfl rfl (Nat.le_of_ble_eq_true rfl) wd_124 rfl rfl dX10_unlikeWithoutOil_23 ?_
      refine f_gr (x := 2) (k2 := 4) (i2 := 0) (j2 := 0) ⟨by decide, by decide⟩ rfl rfl (Nat.le_of_ble_eq_true rfl) wd_126 rfl rfl dX10_unlikeWithoutOil_26 ?_
      refine fC_gi (x := 0) ⟨by decide, by decide⟩ rfl rfl (Nat.le_of_ble_eq_true rfl) wd_185 (by decide) rfl dX10_unlikeWithoutOil_29 ?_
      refine fC_Vi (mtc := mt_X9_pointsBehind) (As := [.ref (gA G 3 y2 0), .int a3, .int (-1), .int (C.1 4 0 0 0)]) h (fun Q h => ct_X9_pointsBehind N y2 hy3 a3 (-1) (C.1 4 0 0 0) C h) ⟨by decide, by decide⟩ rfl rfl rfl mw_X9_pointsBehind wd_296 rfl rfl ⟨Nat.le_of_ble_eq_true rfl, Nat.le_of_ble_eq_true rfl⟩ ⟨Nat.zero_le _, Nat.zero_le _⟩ (Nat.le_of_ble_eq_true rfl) rfl dX10_unlikeWithoutOil_32 (fun v4 C5 h => ?_)
      refine ab_aloadn 0 dX10_unlikeWithoutOil_35 rfl ?_
      refine f_gr (x := 0) (k2 := 0) (i2 := 0) (j2 := 1) ⟨by decide, by decide⟩ rfl rfl (Nat.le_of_ble_eq_true rfl) wd_31 rfl rfl dX10_unlikeWithoutOil_36 ?_
      refine ab_iloadn 3 dX10_unlikeWithoutOil_39 rfl ?_
      refine fC_bald ⟨by decide, by decide⟩ rfl (by decide) (fun _ => rfl) h dX10_unlikeWithoutOil_40 (fun v6 h => ?_)
      refine ab_icmp_eq (tgt := 50) dX10_unlikeWithoutOil_41 (by decide) (fun hc7 => ?_) (fun hc7 => ?_)
      · have h := sat_t hc7 h
        refine ab_iinc (q := 3) (v := (a3 + 1)) (lv' := [(0, .ref (gA G 0 0 0)), (1, .int a1), (2, .int a2), (3, .int (a3 + 1))]) dX10_unlikeWithoutOil_50 rfl rfl rfl (Nat.le_of_ble_eq_true rfl) rfl ?_
        refine ab_goto (tgt := 4) dX10_unlikeWithoutOil_53 (by decide) ?_
        exact ih a2 (a3 + 1) C5 h
      · have h := sat_f hc7 h
        refine ab_iloadn 2 dX10_unlikeWithoutOil_44 rfl ?_
        refine ab_iconst (v := 1) dX10_unlikeWithoutOil_45 (by decide) ?_
        refine ab_iloadn 3 dX10_unlikeWithoutOil_46 rfl ?_
        refine ab_ishl dX10_unlikeWithoutOil_47 ?_
        refine ab_ior dX10_unlikeWithoutOil_48 ?_
        refine ab_istoren (lv' := [(0, .ref (gA G 0 0 0)), (1, .int a1), (2, .int (a2 ||| ((1 : Int32) <<< (a3 &&& 31)))), (3, .int a3)]) dX10_unlikeWithoutOil_49 rfl (Nat.le_of_ble_eq_true rfl) rfl ?_
        refine ab_iinc (q := 3) (v := (a3 + 1)) (lv' := [(0, .ref (gA G 0 0 0)), (1, .int a1), (2, .int (a2 ||| ((1 : Int32) <<< (a3 &&& 31)))), (3, .int (a3 + 1))]) dX10_unlikeWithoutOil_50 rfl rfl rfl (Nat.le_of_ble_eq_true rfl) rfl ?_
        refine ab_goto (tgt := 4) dX10_unlikeWithoutOil_53 (by decide) ?_
        exact ih (a2 ||| ((1 : Int32) <<< (a3 &&& 31))) (a3 + 1) C5 h
set_option maxRecDepth 8000 in
theorem t_X10_unlikeWithoutOil_0 {l : Launch} {G : GX} {X : XM} {Q : Int32 → Mem → Prop} (N : Nat) (a1 : Int32) (C : CM) (h : SAT (f_X10_unlikeWithoutOil N a1 C) (fun v c => Q v (c, X))) : AB l G (rmD 3) 0 0 mt_X10_unlikeWithoutOil (ZQ G mt_X10_unlikeWithoutOil Q) 0 [(0, .ref (gA G 0 0 0)), (1, .int a1)] [] (C, X) := by
  unfold f_X10_unlikeWithoutOil at h
  refine ab_iconst (v := 0) dX10_unlikeWithoutOil_0 (by decide) ?_
  refine ab_istoren (lv' := [(0, .ref (gA G 0 0 0)), (1, .int a1), (2, .int 0)]) dX10_unlikeWithoutOil_1 rfl (Nat.le_of_ble_eq_true rfl) rfl ?_
  refine ab_iconst (v := 0) dX10_unlikeWithoutOil_2 (by decide) ?_
  refine ab_istoren (lv' := [(0, .ref (gA G 0 0 0)), (1, .int a1), (2, .int 0), (3, .int 0)]) dX10_unlikeWithoutOil_3 rfl (Nat.le_of_ble_eq_true rfl) rfl ?_
  exact t_X10_unlikeWithoutOil_4 N a1 N 0 0 C h
theorem ct_X10_unlikeWithoutOil {l : Launch} {G : GX} {X : XM} {Q : Int32 → Mem → Prop} (N : Nat) (a1 : Int32) (C : CM) (h : SAT (f_X10_unlikeWithoutOil N a1 C) (fun v c => Q v (c, X))) : CT l G 3 mt_X10_unlikeWithoutOil [.ref (gA G 0 0 0), .int a1] (C, X) Q := ct_of pn_X10 (Nat.le_of_ble_eq_true rfl) (t_X10_unlikeWithoutOil_0 N a1 C h)
def f_X10_findPairs_49 (N : Nat) (k13 : Int32 → CM → Option (Int32 × CM)) (a1 : Int32) (a2 : Int32) (a3 : Int32) (as0 : Int32) (C : CM) : Option (Int32 × CM) := (if as0 = 0 then (k13 (a3 + 1) C) else (if 384 ≤ (C.1 0 0 0 15) then (k13 (a3 + 1) C) else stA C 0 0 3 384 (C.1 0 0 0 15) ((100 * a1) + a3) (fun C3 => bnd (stC C3 0 0 0 15 ((C3.1 0 0 0 15) + 1)) (fun C4 => (k13 (a3 + 1) C4)))))
def f_X10_findPairs_13 (N : Nat) (a1 : Int32) (a2 : Int32) : Nat → Int32 → CM → Option (Int32 × CM)
  | 0, _, _ => none
  | n + 1, a3, C => (if a2 ≤ a3 then (rt 0 C) else ldR (C.2 2 0 1) 4 (fun y2 => cal (f_X9_pointsBehind N y2 a1 a3 a2 C) (fun v4 C5 => ldA (C5.1 0 0 1) 940 a1 (fun v6 => (if v4 = v6 then (f_X10_findPairs_49 N (fun z3 c => f_X10_findPairs_13 N a1 a2 n z3 c) a1 a2 a3 1 C5) else (f_X10_findPairs_49 N (fun z3 c => f_X10_findPairs_13 N a1 a2 n z3 c) a1 a2 a3 0 C5))))))
def f_X10_findPairs (N : Nat) (a1 : Int32) (C : CM) : Option (Int32 × CM) := (f_X10_findPairs_13 N a1 (C.1 4 0 0 0) N 0 C)
set_option maxRecDepth 8000 in
theorem t_X10_findPairs_49 {l : Launch} {G : GX} {X : XM} {Q : Int32 → Mem → Prop} (N : Nat) (k13 : Int32 → CM → Option (Int32 × CM)) (a1 : Int32) (a2 : Int32) (a3 : Int32) (as0 : Int32) (hk13 : ∀ (ac3 : Int32) (C : CM), SAT (k13 ac3 C) (fun v c => Q v (c, X)) → AB l G (rmD 3) 0 0 mt_X10_findPairs (ZQ G mt_X10_findPairs Q) 13 [(0, .ref (gA G 0 0 0)), (1, .int a1), (2, .int a2), (3, .int ac3)] [] (C, X)) (C : CM) (h : SAT (f_X10_findPairs_49 N k13 a1 a2 a3 as0 C) (fun v c => Q v (c, X))) : AB l G (rmD 3) 0 0 mt_X10_findPairs (ZQ G mt_X10_findPairs Q) 49 [(0, .ref (gA G 0 0 0)), (1, .int a1), (2, .int a2), (3, .int a3)] [.int as0] (C, X) := by
  unfold f_X10_findPairs_49 at h
  refine ab_istore (lv' := [(0, .ref (gA G 0 0 0)), (1, .int a1), (2, .int a2), (3, .int a3), (4, .int as0)]) dX10_findPairs_49 rfl (Nat.le_of_ble_eq_true rfl) rfl ?_
  refine ab_iload 4 dX10_findPairs_51 rfl ?_
  refine ab_if_eq (tgt := 93) dX10_findPairs_53 (by decide) (fun hc1 => ?_) (fun hc1 => ?_)
  · have h := sat_t hc1 h
    refine ab_iinc (q := 3) (v := (a3 + 1)) (lv' := [(0, .ref (gA G 0 0 0)), (1, .int a1), (2, .int a2), (3, .int (a3 + 1)), (4, .int as0)]) dX10_findPairs_93 rfl rfl rfl (Nat.le_of_ble_eq_true rfl) rfl ?_
    refine ab_goto (tgt := 13) dX10_findPairs_96 (by decide) ?_
    refine ab_sub [0, 1, 2, 3] rfl ?_
    exact hk13 (a3 + 1) C h
  · have h := sat_f hc1 h
    refine ab_aloadn 0 dX10_findPairs_56 rfl ?_
    refine fC_gi (x := 15) ⟨by decide, by decide⟩ rfl rfl (Nat.le_of_ble_eq_true rfl) wd_292 (by decide) rfl dX10_findPairs_57 ?_
    refine ab_aloadn 0 dX10_findPairs_60 rfl ?_
    refine f_gr (x := 14) (k2 := 0) (i2 := 0) (j2 := 3) ⟨by decide, by decide⟩ rfl rfl (Nat.le_of_ble_eq_true rfl) wd_298 rfl rfl dX10_findPairs_61 ?_
    refine ab_alen (v := 384) ⟨by decide, by decide⟩ rfl (by decide) (by decide) dX10_findPairs_64 ?_
    refine ab_icmp_ge (tgt := 93) dX10_findPairs_65 (by decide) (fun hc2 => ?_) (fun hc2 => ?_)
    · have h := sat_t hc2 h
      refine ab_iinc (q := 3) (v := (a3 + 1)) (lv' := [(0, .ref (gA G 0 0 0)), (1, .int a1), (2, .int a2), (3, .int (a3 + 1)), (4, .int as0)]) dX10_findPairs_93 rfl rfl rfl (Nat.le_of_ble_eq_true rfl) rfl ?_
      refine ab_goto (tgt := 13) dX10_findPairs_96 (by decide) ?_
      refine ab_sub [0, 1, 2, 3] rfl ?_
      exact hk13 (a3 + 1) C h
    · have h := sat_f hc2 h
      refine ab_aloadn 0 dX10_findPairs_68 rfl ?_
      refine f_gr (x := 14) (k2 := 0) (i2 := 0) (j2 := 3) ⟨by decide, by decide⟩ rfl rfl (Nat.le_of_ble_eq_true rfl) wd_298 rfl rfl dX10_findPairs_69 ?_
      refine ab_aloadn 0 dX10_findPairs_72 rfl ?_
      refine fC_gi (x := 15) ⟨by decide, by decide⟩ rfl rfl (Nat.le_of_ble_eq_true rfl) wd_292 (by decide) rfl dX10_findPairs_73 ?_
      refine ab_bipush (v := 100) dX10_findPairs_76 (by decide) ?_
      refine ab_iloadn 1 dX10_findPairs_78 rfl ?_
      refine ab_imul dX10_findPairs_79 ?_
      refine ab_iloadn 3 dX10_findPairs_80 rfl ?_
      refine ab_iadd dX10_findPairs_81 ?_
      refine fC_iast ⟨by decide, by decide⟩ rfl (by decide) (fun _ => rfl) h dX10_findPairs_82 (fun C3 h => ?_)
      refine ab_aloadn 0 dX10_findPairs_83 rfl ?_
      refine ab_dup dX10_findPairs_84 rfl ?_
      refine fC_gi (x := 15) ⟨by decide, by decide⟩ rfl rfl (Nat.le_of_ble_eq_true rfl) wd_292 (by decide) rfl dX10_findPairs_85 ?_
      refine ab_iconst (v := 1) dX10_findPairs_88 (by decide) ?_
      refine ab_iadd dX10_findPairs_89 ?_
      refine fC_pi (x := 15) (ty := .int) ⟨by decide, by decide⟩ rfl rfl (Nat.le_of_ble_eq_true rfl) wd_292 (by decide) rfl h rfl (by decide +kernel) rfl rfl dX10_findPairs_90 (fun C4 h => ?_)
      refine ab_iinc (q := 3) (v := (a3 + 1)) (lv' := [(0, .ref (gA G 0 0 0)), (1, .int a1), (2, .int a2), (3, .int (a3 + 1)), (4, .int as0)]) dX10_findPairs_93 rfl rfl rfl (Nat.le_of_ble_eq_true rfl) rfl ?_
      refine ab_goto (tgt := 13) dX10_findPairs_96 (by decide) ?_
      refine ab_sub [0, 1, 2, 3] rfl ?_
      exact hk13 (a3 + 1) C4 h
set_option maxRecDepth 8000 in
theorem t_X10_findPairs_13 {l : Launch} {G : GX} {X : XM} {Q : Int32 → Mem → Prop} (N : Nat) (a1 : Int32) (a2 : Int32) : ∀ (n : Nat) (a3 : Int32) (C : CM), SAT (f_X10_findPairs_13 N a1 a2 n a3 C) (fun v c => Q v (c, X)) → AB l G (rmD 3) 0 0 mt_X10_findPairs (ZQ G mt_X10_findPairs Q) 13 [(0, .ref (gA G 0 0 0)), (1, .int a1), (2, .int a2), (3, .int a3)] [] (C, X) := by
  intro n
  induction n with
  | zero => intro a3 C h; exact h.elim
  | succ n ih =>
    intro a3 C h
    rw [f_X10_findPairs_13] at h
    refine ab_iloadn 3 dX10_findPairs_13 rfl ?_
    refine ab_iloadn 2 dX10_findPairs_14 rfl ?_
    refine ab_icmp_ge (tgt := 99) dX10_findPairs_15 (by decide) (fun hc1 => ?_) (fun hc1 => ?_)
    · have h := sat_t hc1 h
      exact fC_vret h rfl dX10_findPairs_99
    · have h := sat_f hc1 h
      refine ab_aloadn 0 dX10_findPairs_18 rfl ?_
      refine f_gr (x := 10) (k2 := 8) (i2 := 0) (j2 := 0) ⟨by decide, by decide⟩ rfl rfl (Nat.le_of_ble_eq_true rfl) wd_218 rfl rfl dX10_findPairs_19 ?_
      refine ab_aloadn 0 dX10_findPairs_22 rfl ?_
      refine f_gr (x := 4) (k2 := 2) (i2 := 0) (j2 := 0) ⟨by decide, by decide⟩ rfl rfl (Nat.le_of_ble_eq_true rfl) wd_124 rfl rfl dX10_findPairs_23 ?_
      refine fC_gd (x := 1) ⟨by decide, by decide⟩ rfl rfl (Nat.le_of_ble_eq_true rfl) wd_125 rfl h rfl dX10_findPairs_26 (fun y2 hy3 h => ?_)
      refine ab_iloadn 1 dX10_findPairs_29 rfl ?_
      refine ab_iloadn 3 dX10_findPairs_30 rfl ?_
      refine ab_iloadn 2 dX10_findPairs_31 rfl ?_
      refine fC_Vi (mtc := mt_X9_pointsBehind) (As := [.ref (gA G 3 y2 0), .int a1, .int a3, .int a2]) h (fun Q h => ct_X9_pointsBehind N y2 hy3 a1 a3 a2 C h) ⟨by decide, by decide⟩ rfl rfl rfl mw_X9_pointsBehind wd_296 rfl rfl ⟨Nat.le_of_ble_eq_true rfl, Nat.le_of_ble_eq_true rfl⟩ ⟨Nat.zero_le _, Nat.zero_le _⟩ (Nat.le_of_ble_eq_true rfl) rfl dX10_findPairs_32 (fun v4 C5 h => ?_)
      refine ab_aloadn 0 dX10_findPairs_35 rfl ?_
      refine f_gr (x := 0) (k2 := 0) (i2 := 0) (j2 := 1) ⟨by decide, by decide⟩ rfl rfl (Nat.le_of_ble_eq_true rfl) wd_31 rfl rfl dX10_findPairs_36 ?_
      refine ab_iloadn 1 dX10_findPairs_39 rfl ?_
      refine fC_bald ⟨by decide, by decide⟩ rfl (by decide) (fun _ => rfl) h dX10_findPairs_40 (fun v6 h => ?_)
      refine ab_icmp_ne (tgt := 48) dX10_findPairs_41 (by decide) (fun hc7 => ?_) (fun hc7 => ?_)
      · have h := sat_f hc7 h
        refine ab_iconst (v := 0) dX10_findPairs_48 (by decide) ?_
        exact t_X10_findPairs_49 N (fun z3 c => f_X10_findPairs_13 N a1 a2 n z3 c) a1 a2 a3 0 ih C5 h
      · have h := sat_t hc7 h
        refine ab_iconst (v := 1) dX10_findPairs_44 (by decide) ?_
        refine ab_goto (tgt := 49) dX10_findPairs_45 (by decide) ?_
        exact t_X10_findPairs_49 N (fun z3 c => f_X10_findPairs_13 N a1 a2 n z3 c) a1 a2 a3 1 ih C5 h
set_option maxRecDepth 8000 in
theorem t_X10_findPairs_0 {l : Launch} {G : GX} {X : XM} {Q : Int32 → Mem → Prop} (N : Nat) (a1 : Int32) (C : CM) (h : SAT (f_X10_findPairs N a1 C) (fun v c => Q v (c, X))) : AB l G (rmD 3) 0 0 mt_X10_findPairs (ZQ G mt_X10_findPairs Q) 0 [(0, .ref (gA G 0 0 0)), (1, .int a1)] [] (C, X) := by
  unfold f_X10_findPairs at h
  refine ab_aloadn 0 dX10_findPairs_0 rfl ?_
  refine f_gr (x := 4) (k2 := 2) (i2 := 0) (j2 := 0) ⟨by decide, by decide⟩ rfl rfl (Nat.le_of_ble_eq_true rfl) wd_124 rfl rfl dX10_findPairs_1 ?_
  refine f_gr (x := 2) (k2 := 4) (i2 := 0) (j2 := 0) ⟨by decide, by decide⟩ rfl rfl (Nat.le_of_ble_eq_true rfl) wd_126 rfl rfl dX10_findPairs_4 ?_
  refine fC_gi (x := 0) ⟨by decide, by decide⟩ rfl rfl (Nat.le_of_ble_eq_true rfl) wd_185 (by decide) rfl dX10_findPairs_7 ?_
  refine ab_istoren (lv' := [(0, .ref (gA G 0 0 0)), (1, .int a1), (2, .int (C.1 4 0 0 0))]) dX10_findPairs_10 rfl (Nat.le_of_ble_eq_true rfl) rfl ?_
  refine ab_iconst (v := 0) dX10_findPairs_11 (by decide) ?_
  refine ab_istoren (lv' := [(0, .ref (gA G 0 0 0)), (1, .int a1), (2, .int (C.1 4 0 0 0)), (3, .int 0)]) dX10_findPairs_12 rfl (Nat.le_of_ble_eq_true rfl) rfl ?_
  exact t_X10_findPairs_13 N a1 (C.1 4 0 0 0) N 0 C h
theorem ct_X10_findPairs {l : Launch} {G : GX} {X : XM} {Q : Int32 → Mem → Prop} (N : Nat) (a1 : Int32) (C : CM) (h : SAT (f_X10_findPairs N a1 C) (fun v c => Q v (c, X))) : CT l G 3 mt_X10_findPairs [.ref (gA G 0 0 0), .int a1] (C, X) Q := ct_of pn_X10 (Nat.le_of_ble_eq_true rfl) (t_X10_findPairs_0 N a1 C h)
def f_X10_oiled_84 (N : Nat) (a2 : Int32) (a3 : Int32) : Nat → Int32 → CM → Option (Int32 × CM)
  | 0, _, _ => none
  | n + 1, a4, C => (if a2 ≤ a4 then (rt (C.1 0 0 0 15) C) else (if (a3 &&& (((1 : Int32) <<< (a4 &&& 31)) ^^^ (-1))) = 0 then cal (f_X10_findPairs N a4 C) (fun v3 C4 => (f_X10_oiled_84 N a2 a3 n (a4 + 1) C4)) else (f_X10_oiled_84 N a2 a3 n (a4 + 1) C)))
def f_X10_oiled_37 (N : Nat) (a2 : Int32) : Nat → Int32 → CM → Option (Int32 × CM)
  | 0, _, _ => none
  | n + 1, a3, C => (if a2 ≤ a3 then bnd (stC C 0 0 0 15 0) (fun C2 => cal (f_X10_unlikeWithoutOil N a2 C2) (fun v3 C4 => (f_X10_oiled_84 N a2 v3 N 0 C4))) else ldA (C.1 0 0 1) 940 a3 (fun v5 => (if v5 < 0 then (rt (-1) C) else ldA (C.1 0 0 1) 940 a3 (fun v7 => (if v7 < 8 then (f_X10_oiled_37 N a2 n (a3 + 1) C) else (rt (-1) C))))))
def f_X10_oiled (N : Nat) (C : CM) : Option (Int32 × CM) := bnd (stC C 0 0 0 1 0) (fun C1 => ldR (C1.2 2 0 1) 4 (fun y2 => (if (C1.1 3 y2 6 0) = 0 then (rt (-1) C1) else (if (C.1 0 0 0 1) = (C1.1 3 y2 6 0) then (f_X10_oiled_37 N (C1.1 3 y2 6 0) N 0 C1) else (rt (-1) C1)))))
set_option maxRecDepth 8000 in
theorem t_X10_oiled_84 {l : Launch} {G : GX} {X : XM} {Q : Int32 → Mem → Prop} (N : Nat) (a2 : Int32) (a3 : Int32) : ∀ (n : Nat) (a4 : Int32) (C : CM), SAT (f_X10_oiled_84 N a2 a3 n a4 C) (fun v c => Q v (c, X)) → AB l G (rmD 4) 0 0 mt_X10_oiled (ZQ G mt_X10_oiled Q) 84 [(0, .ref (gA G 0 0 0)), (2, .int a2), (3, .int a3), (4, .int a4)] [] (C, X) := by
  intro n
  induction n with
  | zero => intro a4 C h; exact h.elim
  | succ n ih =>
    intro a4 C h
    rw [f_X10_oiled_84] at h
    refine ab_iload 3 dX10_oiled_84 rfl ?_
    refine ab_iloadn 1 dX10_oiled_86 rfl ?_
    refine ab_icmp_ge (tgt := 113) dX10_oiled_87 (by decide) (fun hc1 => ?_) (fun hc1 => ?_)
    · have h := sat_t hc1 h
      refine ab_aloadn 0 dX10_oiled_113 rfl ?_
      refine fC_gi (x := 15) ⟨by decide, by decide⟩ rfl rfl (Nat.le_of_ble_eq_true rfl) wd_292 (by decide) rfl dX10_oiled_114 ?_
      exact fC_iret h rfl rfl dX10_oiled_117
    · have h := sat_f hc1 h
      refine ab_iloadn 2 dX10_oiled_90 rfl ?_
      refine ab_iconst (v := 1) dX10_oiled_91 (by decide) ?_
      refine ab_iload 3 dX10_oiled_92 rfl ?_
      refine ab_ishl dX10_oiled_94 ?_
      refine ab_iconst (v := (-1)) dX10_oiled_95 (by decide) ?_
      refine ab_ixor dX10_oiled_96 ?_
      refine ab_iand dX10_oiled_97 ?_
      refine ab_if_ne (tgt := 107) dX10_oiled_98 (by decide) (fun hc2 => ?_) (fun hc2 => ?_)
      · have h := sat_f hc2 h
        refine ab_iinc (q := 3) (v := (a4 + 1)) (lv' := [(0, .ref (gA G 0 0 0)), (2, .int a2), (3, .int a3), (4, .int (a4 + 1))]) dX10_oiled_107 rfl rfl rfl (Nat.le_of_ble_eq_true rfl) rfl ?_
        refine ab_goto (tgt := 84) dX10_oiled_110 (by decide) ?_
        exact ih (a4 + 1) C h
      · have h := sat_t hc2 h
        refine ab_aloadn 0 dX10_oiled_101 rfl ?_
        refine ab_iload 3 dX10_oiled_102 rfl ?_
        refine fC_Vv (mtc := mt_X10_findPairs) (As := [.int a4]) h (fun Q h => ct_X10_findPairs N a4 C h) ⟨by decide, by decide⟩ rfl rfl rfl mw_X10_findPairs wd_299 rfl rfl ⟨Nat.le_of_ble_eq_true rfl, Nat.le_of_ble_eq_true rfl⟩ ⟨Nat.zero_le _, Nat.zero_le _⟩ (Nat.le_of_ble_eq_true rfl) rfl dX10_oiled_104 (fun v3 C4 h => ?_)
        refine ab_iinc (q := 3) (v := (a4 + 1)) (lv' := [(0, .ref (gA G 0 0 0)), (2, .int a2), (3, .int a3), (4, .int (a4 + 1))]) dX10_oiled_107 rfl rfl rfl (Nat.le_of_ble_eq_true rfl) rfl ?_
        refine ab_goto (tgt := 84) dX10_oiled_110 (by decide) ?_
        exact ih (a4 + 1) C4 h
set_option maxRecDepth 8000 in
theorem t_X10_oiled_37 {l : Launch} {G : GX} {X : XM} {Q : Int32 → Mem → Prop} (N : Nat) (a2 : Int32) : ∀ (n : Nat) (a3 : Int32) (C : CM), SAT (f_X10_oiled_37 N a2 n a3 C) (fun v c => Q v (c, X)) → AB l G (rmD 4) 0 0 mt_X10_oiled (ZQ G mt_X10_oiled Q) 37 [(0, .ref (gA G 0 0 0)), (2, .int a2), (3, .int a3)] [] (C, X) := by
  intro n
  induction n with
  | zero => intro a3 C h; exact h.elim
  | succ n ih =>
    intro a3 C h
    rw [f_X10_oiled_37] at h
    refine ab_iloadn 2 dX10_oiled_37 rfl ?_
    refine ab_iloadn 1 dX10_oiled_38 rfl ?_
    refine ab_icmp_ge (tgt := 70) dX10_oiled_39 (by decide) (fun hc1 => ?_) (fun hc1 => ?_)
    · have h := sat_t hc1 h
      refine ab_aloadn 0 dX10_oiled_70 rfl ?_
      refine ab_iconst (v := 0) dX10_oiled_71 (by decide) ?_
      refine fC_pi (x := 15) (ty := .int) ⟨by decide, by decide⟩ rfl rfl (Nat.le_of_ble_eq_true rfl) wd_292 (by decide) rfl h rfl (by decide +kernel) rfl rfl dX10_oiled_72 (fun C2 h => ?_)
      refine ab_aloadn 0 dX10_oiled_75 rfl ?_
      refine ab_iloadn 1 dX10_oiled_76 rfl ?_
      refine fC_Vi (mtc := mt_X10_unlikeWithoutOil) (As := [.int a2]) h (fun Q h => ct_X10_unlikeWithoutOil N a2 C2 h) ⟨by decide, by decide⟩ rfl rfl rfl mw_X10_unlikeWithoutOil wd_297 rfl rfl ⟨Nat.le_of_ble_eq_true rfl, Nat.le_of_ble_eq_true rfl⟩ ⟨Nat.zero_le _, Nat.zero_le _⟩ (Nat.le_of_ble_eq_true rfl) rfl dX10_oiled_77 (fun v3 C4 h => ?_)
      refine ab_istoren (lv' := [(0, .ref (gA G 0 0 0)), (2, .int a2), (3, .int v3)]) dX10_oiled_80 rfl (Nat.le_of_ble_eq_true rfl) rfl ?_
      refine ab_iconst (v := 0) dX10_oiled_81 (by decide) ?_
      refine ab_istore (lv' := [(0, .ref (gA G 0 0 0)), (2, .int a2), (3, .int v3), (4, .int 0)]) dX10_oiled_82 rfl (Nat.le_of_ble_eq_true rfl) rfl ?_
      exact t_X10_oiled_84 N a2 v3 N 0 C4 h
    · have h := sat_f hc1 h
      refine ab_aloadn 0 dX10_oiled_42 rfl ?_
      refine f_gr (x := 0) (k2 := 0) (i2 := 0) (j2 := 1) ⟨by decide, by decide⟩ rfl rfl (Nat.le_of_ble_eq_true rfl) wd_31 rfl rfl dX10_oiled_43 ?_
      refine ab_iloadn 2 dX10_oiled_46 rfl ?_
      refine fC_bald ⟨by decide, by decide⟩ rfl (by decide) (fun _ => rfl) h dX10_oiled_47 (fun v5 h => ?_)
      refine ab_if_lt (tgt := 62) dX10_oiled_48 (by decide) (fun hc6 => ?_) (fun hc6 => ?_)
      · have h := sat_t hc6 h
        refine ab_iconst (v := (-1)) dX10_oiled_62 (by decide) ?_
        exact fC_iret h rfl rfl dX10_oiled_63
      · have h := sat_f hc6 h
        refine ab_aloadn 0 dX10_oiled_51 rfl ?_
        refine f_gr (x := 0) (k2 := 0) (i2 := 0) (j2 := 1) ⟨by decide, by decide⟩ rfl rfl (Nat.le_of_ble_eq_true rfl) wd_31 rfl rfl dX10_oiled_52 ?_
        refine ab_iloadn 2 dX10_oiled_55 rfl ?_
        refine fC_bald ⟨by decide, by decide⟩ rfl (by decide) (fun _ => rfl) h dX10_oiled_56 (fun v7 h => ?_)
        refine ab_bipush (v := 8) dX10_oiled_57 (by decide) ?_
        refine ab_icmp_lt (tgt := 64) dX10_oiled_59 (by decide) (fun hc8 => ?_) (fun hc8 => ?_)
        · have h := sat_t hc8 h
          refine ab_iinc (q := 2) (v := (a3 + 1)) (lv' := [(0, .ref (gA G 0 0 0)), (2, .int a2), (3, .int (a3 + 1))]) dX10_oiled_64 rfl rfl rfl (Nat.le_of_ble_eq_true rfl) rfl ?_
          refine ab_goto (tgt := 37) dX10_oiled_67 (by decide) ?_
          exact ih (a3 + 1) C h
        · have h := sat_f hc8 h
          refine ab_iconst (v := (-1)) dX10_oiled_62 (by decide) ?_
          exact fC_iret h rfl rfl dX10_oiled_63
set_option maxRecDepth 8000 in
theorem t_X10_oiled_0 {l : Launch} {G : GX} {X : XM} {Q : Int32 → Mem → Prop} (N : Nat) (C : CM) (h : SAT (f_X10_oiled N C) (fun v c => Q v (c, X))) : AB l G (rmD 4) 0 0 mt_X10_oiled (ZQ G mt_X10_oiled Q) 0 [(0, .ref (gA G 0 0 0))] [] (C, X) := by
  unfold f_X10_oiled at h
  refine ab_aloadn 0 dX10_oiled_0 rfl ?_
  refine fC_gi (x := 1) ⟨by decide, by decide⟩ rfl rfl (Nat.le_of_ble_eq_true rfl) wd_30 (by decide) rfl dX10_oiled_1 ?_
  refine ab_istoren (lv' := [(0, .ref (gA G 0 0 0)), (1, .int (C.1 0 0 0 1))]) dX10_oiled_4 rfl (Nat.le_of_ble_eq_true rfl) rfl ?_
  refine ab_aloadn 0 dX10_oiled_5 rfl ?_
  refine ab_iconst (v := 0) dX10_oiled_6 (by decide) ?_
  refine fC_pi (x := 1) (ty := .int) ⟨by decide, by decide⟩ rfl rfl (Nat.le_of_ble_eq_true rfl) wd_30 (by decide) rfl h rfl (by decide +kernel) rfl rfl dX10_oiled_7 (fun C1 h => ?_)
  refine ab_aloadn 0 dX10_oiled_10 rfl ?_
  refine f_gr (x := 4) (k2 := 2) (i2 := 0) (j2 := 0) ⟨by decide, by decide⟩ rfl rfl (Nat.le_of_ble_eq_true rfl) wd_124 rfl rfl dX10_oiled_11 ?_
  refine fC_gd (x := 1) ⟨by decide, by decide⟩ rfl rfl (Nat.le_of_ble_eq_true rfl) wd_125 rfl h rfl dX10_oiled_14 (fun y2 hy3 h => ?_)
  refine f_gr (x := 10) (k2 := 3) (i2 := y2) (j2 := 6) ⟨hy3, by decide⟩ rfl rfl (Nat.le_of_ble_eq_true rfl) wd_202 rfl rfl dX10_oiled_17 ?_
  refine fC_gi (x := 0) ⟨hy3, by decide⟩ rfl rfl (Nat.le_of_ble_eq_true rfl) wd_203 (by decide) rfl dX10_oiled_20 ?_
  refine ab_istoren (lv' := [(0, .ref (gA G 0 0 0)), (1, .int (C.1 0 0 0 1)), (2, .int (C1.1 3 y2 6 0))]) dX10_oiled_23 rfl (Nat.le_of_ble_eq_true rfl) rfl ?_
  refine ab_iloadn 2 dX10_oiled_24 rfl ?_
  refine ab_if_eq (tgt := 33) dX10_oiled_25 (by decide) (fun hc4 => ?_) (fun hc4 => ?_)
  · have h := sat_t hc4 h
    refine ab_iconst (v := (-1)) dX10_oiled_33 (by decide) ?_
    exact fC_iret h rfl rfl dX10_oiled_34
  · have h := sat_f hc4 h
    refine ab_iloadn 1 dX10_oiled_28 rfl ?_
    refine ab_iloadn 2 dX10_oiled_29 rfl ?_
    refine ab_icmp_eq (tgt := 35) dX10_oiled_30 (by decide) (fun hc5 => ?_) (fun hc5 => ?_)
    · have h := sat_t hc5 h
      refine ab_iconst (v := 0) dX10_oiled_35 (by decide) ?_
      refine ab_istoren (lv' := [(0, .ref (gA G 0 0 0)), (1, .int (C.1 0 0 0 1)), (2, .int (C1.1 3 y2 6 0)), (3, .int 0)]) dX10_oiled_36 rfl (Nat.le_of_ble_eq_true rfl) rfl ?_
      refine ab_sub [0, 2, 3] rfl ?_
      exact t_X10_oiled_37 N (C1.1 3 y2 6 0) N 0 C1 h
    · have h := sat_f hc5 h
      refine ab_iconst (v := (-1)) dX10_oiled_33 (by decide) ?_
      exact fC_iret h rfl rfl dX10_oiled_34
theorem ct_X10_oiled {l : Launch} {G : GX} {X : XM} {Q : Int32 → Mem → Prop} (N : Nat) (C : CM) (h : SAT (f_X10_oiled N C) (fun v c => Q v (c, X))) : CT l G 4 mt_X10_oiled [.ref (gA G 0 0 0)] (C, X) Q := ct_of pn_X10 (Nat.le_of_ble_eq_true rfl) (t_X10_oiled_0 N C h)
def f_X10_oiledAt (a1 : Int32) (C : CM) : Option (Int32 × CM) := (if a1 < 0 then (rt (-1) C) else (if (C.1 0 0 0 15) ≤ a1 then (rt (-1) C) else ldA (C.1 0 0 3) 384 a1 (fun v3 => (rt v3 C))))
set_option maxRecDepth 8000 in
theorem t_X10_oiledAt_0 {l : Launch} {G : GX} {X : XM} {Q : Int32 → Mem → Prop} (a1 : Int32) (C : CM) (h : SAT (f_X10_oiledAt a1 C) (fun v c => Q v (c, X))) : AB l G (rmD 1) 0 0 mt_X10_oiledAt (ZQ G mt_X10_oiledAt Q) 0 [(0, .ref (gA G 0 0 0)), (1, .int a1)] [] (C, X) := by
  unfold f_X10_oiledAt at h
  refine ab_iloadn 1 dX10_oiledAt_0 rfl ?_
  refine ab_if_lt (tgt := 21) dX10_oiledAt_1 (by decide) (fun hc1 => ?_) (fun hc1 => ?_)
  · have h := sat_t hc1 h
    refine ab_iconst (v := (-1)) dX10_oiledAt_21 (by decide) ?_
    exact fC_iret h rfl rfl dX10_oiledAt_22
  · have h := sat_f hc1 h
    refine ab_iloadn 1 dX10_oiledAt_4 rfl ?_
    refine ab_aloadn 0 dX10_oiledAt_5 rfl ?_
    refine fC_gi (x := 15) ⟨by decide, by decide⟩ rfl rfl (Nat.le_of_ble_eq_true rfl) wd_292 (by decide) rfl dX10_oiledAt_6 ?_
    refine ab_icmp_ge (tgt := 21) dX10_oiledAt_9 (by decide) (fun hc2 => ?_) (fun hc2 => ?_)
    · have h := sat_t hc2 h
      refine ab_iconst (v := (-1)) dX10_oiledAt_21 (by decide) ?_
      exact fC_iret h rfl rfl dX10_oiledAt_22
    · have h := sat_f hc2 h
      refine ab_aloadn 0 dX10_oiledAt_12 rfl ?_
      refine f_gr (x := 14) (k2 := 0) (i2 := 0) (j2 := 3) ⟨by decide, by decide⟩ rfl rfl (Nat.le_of_ble_eq_true rfl) wd_298 rfl rfl dX10_oiledAt_13 ?_
      refine ab_iloadn 1 dX10_oiledAt_16 rfl ?_
      refine fC_iald ⟨by decide, by decide⟩ rfl (by decide) (fun _ => rfl) h dX10_oiledAt_17 (fun v3 h => ?_)
      refine ab_goto (tgt := 22) dX10_oiledAt_18 (by decide) ?_
      exact fC_iret h rfl rfl dX10_oiledAt_22
theorem ct_X10_oiledAt {l : Launch} {G : GX} {X : XM} {Q : Int32 → Mem → Prop} (a1 : Int32) (C : CM) (h : SAT (f_X10_oiledAt a1 C) (fun v c => Q v (c, X))) : CT l G 1 mt_X10_oiledAt [.ref (gA G 0 0 0), .int a1] (C, X) Q := ct_of pn_X10 (Nat.le_of_ble_eq_true rfl) (t_X10_oiledAt_0 a1 C h)
def f_X10_readForecast_44 (N : Nat) (a1 : Int32) : Nat → Int32 → Int32 → CM → Option (Int32 × CM)
  | 0, _, _, _ => none
  | n + 1, a2, a3, C => (if a1 ≤ (a3 + 1) then (rt 1 C) else ldA (C.1 0 0 1) 940 a3 (fun v2 => ldA (C.1 0 0 1) 940 (a3 + 1) (fun v3 => (if v2 ≤ a2 then (rt 0 C) else (if 48 ≤ v2 then (rt 0 C) else (if v3 < 0 then (rt 0 C) else (if v3 < 8 then stA C 0 0 4 48 v2 v3 (fun C8 => (f_X10_readForecast_44 N a1 n v2 (a3 + 2) C8)) else (rt 0 C))))))))
def f_X10_readForecast_21 (N : Nat) (a1 : Int32) : Nat → Int32 → CM → Option (Int32 × CM)
  | 0, _, _ => none
  | n + 1, a2, C => (if 48 ≤ a2 then (f_X10_readForecast_44 N a1 N (-1) 0 C) else stA C 0 0 4 48 a2 (-1) (fun C2 => (f_X10_readForecast_21 N a1 n (a2 + 1) C2)))
def f_X10_readForecast (N : Nat) (a1 : Int32) (C : CM) : Option (Int32 × CM) := (if a1 < 2 then (rt 0 C) else (if 48 < a1 then (rt 0 C) else (if (a1 - a1 / 2 * 2) = 0 then (f_X10_readForecast_21 N a1 N 0 C) else (rt 0 C))))
set_option maxRecDepth 8000 in
theorem t_X10_readForecast_44 {l : Launch} {G : GX} {X : XM} {Q : Int32 → Mem → Prop} (N : Nat) (a1 : Int32) : ∀ (n : Nat) (a2 : Int32) (a3 : Int32) (C : CM), SAT (f_X10_readForecast_44 N a1 n a2 a3 C) (fun v c => Q v (c, X)) → AB l G (rmD 1) 0 0 mt_X10_readForecast (ZQ G mt_X10_readForecast Q) 44 [(0, .ref (gA G 0 0 0)), (1, .int a1), (2, .int a2), (3, .int a3)] [] (C, X) := by
  intro n
  induction n with
  | zero => intro a2 a3 C h; exact h.elim
  | succ n ih =>
    intro a2 a3 C h
    rw [f_X10_readForecast_44] at h
    refine ab_iloadn 3 dX10_readForecast_44 rfl ?_
    refine ab_iconst (v := 1) dX10_readForecast_45 (by decide) ?_
    refine ab_iadd dX10_readForecast_46 ?_
    refine ab_iloadn 1 dX10_readForecast_47 rfl ?_
    refine ab_icmp_ge (tgt := 114) dX10_readForecast_48 (by decide) (fun hc1 => ?_) (fun hc1 => ?_)
    · have h := sat_t hc1 h
      refine ab_iconst (v := 1) dX10_readForecast_114 (by decide) ?_
      exact fC_iret h rfl rfl dX10_readForecast_115
    · have h := sat_f hc1 h
      refine ab_aloadn 0 dX10_readForecast_51 rfl ?_
      refine f_gr (x := 0) (k2 := 0) (i2 := 0) (j2 := 1) ⟨by decide, by decide⟩ rfl rfl (Nat.le_of_ble_eq_true rfl) wd_31 rfl rfl dX10_readForecast_52 ?_
      refine ab_iloadn 3 dX10_readForecast_55 rfl ?_
      refine fC_bald ⟨by decide, by decide⟩ rfl (by decide) (fun _ => rfl) h dX10_readForecast_56 (fun v2 h => ?_)
      refine ab_istore (lv' := [(0, .ref (gA G 0 0 0)), (1, .int a1), (2, .int a2), (3, .int a3), (4, .int v2)]) dX10_readForecast_57 rfl (Nat.le_of_ble_eq_true rfl) rfl ?_
      refine ab_aloadn 0 dX10_readForecast_59 rfl ?_
      refine f_gr (x := 0) (k2 := 0) (i2 := 0) (j2 := 1) ⟨by decide, by decide⟩ rfl rfl (Nat.le_of_ble_eq_true rfl) wd_31 rfl rfl dX10_readForecast_60 ?_
      refine ab_iloadn 3 dX10_readForecast_63 rfl ?_
      refine ab_iconst (v := 1) dX10_readForecast_64 (by decide) ?_
      refine ab_iadd dX10_readForecast_65 ?_
      refine fC_bald ⟨by decide, by decide⟩ rfl (by decide) (fun _ => rfl) h dX10_readForecast_66 (fun v3 h => ?_)
      refine ab_istore (lv' := [(0, .ref (gA G 0 0 0)), (1, .int a1), (2, .int a2), (3, .int a3), (4, .int v2), (5, .int v3)]) dX10_readForecast_67 rfl (Nat.le_of_ble_eq_true rfl) rfl ?_
      refine ab_iload 4 dX10_readForecast_69 rfl ?_
      refine ab_iloadn 2 dX10_readForecast_71 rfl ?_
      refine ab_icmp_le (tgt := 94) dX10_readForecast_72 (by decide) (fun hc4 => ?_) (fun hc4 => ?_)
      · have h := sat_t hc4 h
        refine ab_iconst (v := 0) dX10_readForecast_94 (by decide) ?_
        exact fC_iret h rfl rfl dX10_readForecast_95
      · have h := sat_f hc4 h
        refine ab_iload 4 dX10_readForecast_75 rfl ?_
        refine ab_bipush (v := 48) dX10_readForecast_77 (by decide) ?_
        refine ab_icmp_ge (tgt := 94) dX10_readForecast_79 (by decide) (fun hc5 => ?_) (fun hc5 => ?_)
        · have h := sat_t hc5 h
          refine ab_iconst (v := 0) dX10_readForecast_94 (by decide) ?_
          exact fC_iret h rfl rfl dX10_readForecast_95
        · have h := sat_f hc5 h
          refine ab_iload 5 dX10_readForecast_82 rfl ?_
          refine ab_if_lt (tgt := 94) dX10_readForecast_84 (by decide) (fun hc6 => ?_) (fun hc6 => ?_)
          · have h := sat_t hc6 h
            refine ab_iconst (v := 0) dX10_readForecast_94 (by decide) ?_
            exact fC_iret h rfl rfl dX10_readForecast_95
          · have h := sat_f hc6 h
            refine ab_iload 5 dX10_readForecast_87 rfl ?_
            refine ab_bipush (v := 8) dX10_readForecast_89 (by decide) ?_
            refine ab_icmp_lt (tgt := 96) dX10_readForecast_91 (by decide) (fun hc7 => ?_) (fun hc7 => ?_)
            · have h := sat_t hc7 h
              refine ab_aloadn 0 dX10_readForecast_96 rfl ?_
              refine f_gr (x := 16) (k2 := 0) (i2 := 0) (j2 := 4) ⟨by decide, by decide⟩ rfl rfl (Nat.le_of_ble_eq_true rfl) wd_300 rfl rfl dX10_readForecast_97 ?_
              refine ab_iload 4 dX10_readForecast_100 rfl ?_
              refine ab_iload 5 dX10_readForecast_102 rfl ?_
              refine fC_iast ⟨by decide, by decide⟩ rfl (by decide) (fun _ => rfl) h dX10_readForecast_104 (fun C8 h => ?_)
              refine ab_iload 4 dX10_readForecast_105 rfl ?_
              refine ab_istoren (lv' := [(0, .ref (gA G 0 0 0)), (1, .int a1), (2, .int v2), (3, .int a3), (4, .int v2), (5, .int v3)]) dX10_readForecast_107 rfl (Nat.le_of_ble_eq_true rfl) rfl ?_
              refine ab_iinc (q := 3) (v := (a3 + 2)) (lv' := [(0, .ref (gA G 0 0 0)), (1, .int a1), (2, .int v2), (3, .int (a3 + 2)), (4, .int v2), (5, .int v3)]) dX10_readForecast_108 rfl rfl rfl (Nat.le_of_ble_eq_true rfl) rfl ?_
              refine ab_goto (tgt := 44) dX10_readForecast_111 (by decide) ?_
              refine ab_sub [0, 1, 2, 3] rfl ?_
              exact ih v2 (a3 + 2) C8 h
            · have h := sat_f hc7 h
              refine ab_iconst (v := 0) dX10_readForecast_94 (by decide) ?_
              exact fC_iret h rfl rfl dX10_readForecast_95
set_option maxRecDepth 8000 in
theorem t_X10_readForecast_21 {l : Launch} {G : GX} {X : XM} {Q : Int32 → Mem → Prop} (N : Nat) (a1 : Int32) : ∀ (n : Nat) (a2 : Int32) (C : CM), SAT (f_X10_readForecast_21 N a1 n a2 C) (fun v c => Q v (c, X)) → AB l G (rmD 1) 0 0 mt_X10_readForecast (ZQ G mt_X10_readForecast Q) 21 [(0, .ref (gA G 0 0 0)), (1, .int a1), (2, .int a2)] [] (C, X) := by
  intro n
  induction n with
  | zero => intro a2 C h; exact h.elim
  | succ n ih =>
    intro a2 C h
    rw [f_X10_readForecast_21] at h
    refine ab_iloadn 2 dX10_readForecast_21 rfl ?_
    refine ab_bipush (v := 48) dX10_readForecast_22 (by decide) ?_
    refine ab_icmp_ge (tgt := 40) dX10_readForecast_24 (by decide) (fun hc1 => ?_) (fun hc1 => ?_)
    · have h := sat_t hc1 h
      refine ab_iconst (v := (-1)) dX10_readForecast_40 (by decide) ?_
      refine ab_istoren (lv' := [(0, .ref (gA G 0 0 0)), (1, .int a1), (2, .int (-1))]) dX10_readForecast_41 rfl (Nat.le_of_ble_eq_true rfl) rfl ?_
      refine ab_iconst (v := 0) dX10_readForecast_42 (by decide) ?_
      refine ab_istoren (lv' := [(0, .ref (gA G 0 0 0)), (1, .int a1), (2, .int (-1)), (3, .int 0)]) dX10_readForecast_43 rfl (Nat.le_of_ble_eq_true rfl) rfl ?_
      exact t_X10_readForecast_44 N a1 N (-1) 0 C h
    · have h := sat_f hc1 h
      refine ab_aloadn 0 dX10_readForecast_27 rfl ?_
      refine f_gr (x := 16) (k2 := 0) (i2 := 0) (j2 := 4) ⟨by decide, by decide⟩ rfl rfl (Nat.le_of_ble_eq_true rfl) wd_300 rfl rfl dX10_readForecast_28 ?_
      refine ab_iloadn 2 dX10_readForecast_31 rfl ?_
      refine ab_iconst (v := (-1)) dX10_readForecast_32 (by decide) ?_
      refine fC_iast ⟨by decide, by decide⟩ rfl (by decide) (fun _ => rfl) h dX10_readForecast_33 (fun C2 h => ?_)
      refine ab_iinc (q := 2) (v := (a2 + 1)) (lv' := [(0, .ref (gA G 0 0 0)), (1, .int a1), (2, .int (a2 + 1))]) dX10_readForecast_34 rfl rfl rfl (Nat.le_of_ble_eq_true rfl) rfl ?_
      refine ab_goto (tgt := 21) dX10_readForecast_37 (by decide) ?_
      exact ih (a2 + 1) C2 h
set_option maxRecDepth 8000 in
theorem t_X10_readForecast_0 {l : Launch} {G : GX} {X : XM} {Q : Int32 → Mem → Prop} (N : Nat) (a1 : Int32) (C : CM) (h : SAT (f_X10_readForecast N a1 C) (fun v c => Q v (c, X))) : AB l G (rmD 1) 0 0 mt_X10_readForecast (ZQ G mt_X10_readForecast Q) 0 [(0, .ref (gA G 0 0 0)), (1, .int a1)] [] (C, X) := by
  unfold f_X10_readForecast at h
  refine ab_iloadn 1 dX10_readForecast_0 rfl ?_
  refine ab_iconst (v := 2) dX10_readForecast_1 (by decide) ?_
  refine ab_icmp_lt (tgt := 17) dX10_readForecast_2 (by decide) (fun hc1 => ?_) (fun hc1 => ?_)
  · have h := sat_t hc1 h
    refine ab_iconst (v := 0) dX10_readForecast_17 (by decide) ?_
    exact fC_iret h rfl rfl dX10_readForecast_18
  · have h := sat_f hc1 h
    refine ab_iloadn 1 dX10_readForecast_5 rfl ?_
    refine ab_bipush (v := 48) dX10_readForecast_6 (by decide) ?_
    refine ab_icmp_gt (tgt := 17) dX10_readForecast_8 (by decide) (fun hc2 => ?_) (fun hc2 => ?_)
    · have h := sat_t hc2 h
      refine ab_iconst (v := 0) dX10_readForecast_17 (by decide) ?_
      exact fC_iret h rfl rfl dX10_readForecast_18
    · have h := sat_f hc2 h
      refine ab_iloadn 1 dX10_readForecast_11 rfl ?_
      refine ab_iconst (v := 2) dX10_readForecast_12 (by decide) ?_
      refine ab_irem dX10_readForecast_13 (by decide) ?_
      refine ab_if_eq (tgt := 19) dX10_readForecast_14 (by decide) (fun hc3 => ?_) (fun hc3 => ?_)
      · have h := sat_t hc3 h
        refine ab_iconst (v := 0) dX10_readForecast_19 (by decide) ?_
        refine ab_istoren (lv' := [(0, .ref (gA G 0 0 0)), (1, .int a1), (2, .int 0)]) dX10_readForecast_20 rfl (Nat.le_of_ble_eq_true rfl) rfl ?_
        exact t_X10_readForecast_21 N a1 N 0 C h
      · have h := sat_f hc3 h
        refine ab_iconst (v := 0) dX10_readForecast_17 (by decide) ?_
        exact fC_iret h rfl rfl dX10_readForecast_18
theorem ct_X10_readForecast {l : Launch} {G : GX} {X : XM} {Q : Int32 → Mem → Prop} (N : Nat) (a1 : Int32) (C : CM) (h : SAT (f_X10_readForecast N a1 C) (fun v c => Q v (c, X))) : CT l G 1 mt_X10_readForecast [.ref (gA G 0 0 0), .int a1] (C, X) Q := ct_of pn_X10 (Nat.le_of_ble_eq_true rfl) (t_X10_readForecast_0 N a1 C h)
def f_X10_worth_102 (N : Nat) (k68 : Int32 → CM → Option (Int32 × CM)) (a1 : Int32) (a3 : Int32) (a4 : Int32) (C : CM) : Option (Int32 × CM) := ldR (C.2 2 0 1) 4 (fun y1 => cal (f_X9_pass N y1 3 1 C) (fun v3 C4 => (k68 (a4 + 1) C4)))
def f_X10_worth_68 (N : Nat) (a1 : Int32) (a3 : Int32) : Nat → Int32 → CM → Option (Int32 × CM)
  | 0, _, _ => none
  | n + 1, a4, C => (if 48 ≤ a4 then cal (f_X6_wealth 3 a1 C) (fun v2 C3 => (rt (v2 - a3) C3)) else ldA (C.1 0 0 4) 48 a4 (fun v4 => (if v4 = (-1) then (f_X10_worth_102 N (fun z4 c => f_X10_worth_68 N a1 a3 n z4 c) a1 a3 a4 C) else ldA (C.1 0 0 4) 48 a4 (fun v6 => stA C 4 3 4 8 a1 v6 (fun C7 => (f_X10_worth_102 N (fun z4 c => f_X10_worth_68 N a1 a3 n z4 c) a1 a3 a4 C7))))))
def f_X10_worth (N : Nat) (a1 : Int32) (C : CM) : Option (Int32 × CM) := bnd (stC C 0 0 0 1 0) (fun C1 => ldR (C1.2 2 0 1) 4 (fun y2 => cal (f_X0_isOwner y2 a1 C1) (fun v4 C5 => (if v4 = 0 then (rt (-10001) C5) else cal (f_X10_readForecast N (C.1 0 0 0 1) C5) (fun v7 C8 => (if v7 = 0 then (rt (-10001) C8) else cal (f_X10_wealthAtEnd N a1 C8) (fun v10 C11 => cal (f_X6_copy 3 0 C11) (fun v12 C13 => (f_X10_worth_68 N a1 v10 N (C13.1 4 0 0 0) C13)))))))))
set_option maxRecDepth 8000 in
theorem t_X10_worth_102 {l : Launch} {G : GX} {X : XM} {Q : Int32 → Mem → Prop} (N : Nat) (k68 : Int32 → CM → Option (Int32 × CM)) (a1 : Int32) (a3 : Int32) (a4 : Int32) (hk68 : ∀ (ac4 : Int32) (C : CM), SAT (k68 ac4 C) (fun v c => Q v (c, X)) → AB l G (rmD 6) 0 0 mt_X10_worth (ZQ G mt_X10_worth Q) 68 [(0, .ref (gA G 0 0 0)), (1, .int a1), (3, .int a3), (4, .int ac4)] [] (C, X)) (C : CM) (h : SAT (f_X10_worth_102 N k68 a1 a3 a4 C) (fun v c => Q v (c, X))) : AB l G (rmD 6) 0 0 mt_X10_worth (ZQ G mt_X10_worth Q) 102 [(0, .ref (gA G 0 0 0)), (1, .int a1), (3, .int a3), (4, .int a4)] [] (C, X) := by
  unfold f_X10_worth_102 at h
  refine ab_aloadn 0 dX10_worth_102 rfl ?_
  refine f_gr (x := 10) (k2 := 8) (i2 := 0) (j2 := 0) ⟨by decide, by decide⟩ rfl rfl (Nat.le_of_ble_eq_true rfl) wd_218 rfl rfl dX10_worth_103 ?_
  refine ab_aloadn 0 dX10_worth_106 rfl ?_
  refine f_gr (x := 4) (k2 := 2) (i2 := 0) (j2 := 0) ⟨by decide, by decide⟩ rfl rfl (Nat.le_of_ble_eq_true rfl) wd_124 rfl rfl dX10_worth_107 ?_
  refine fC_gd (x := 1) ⟨by decide, by decide⟩ rfl rfl (Nat.le_of_ble_eq_true rfl) wd_125 rfl h rfl dX10_worth_110 (fun y1 hy2 h => ?_)
  refine ab_aloadn 0 dX10_worth_113 rfl ?_
  refine f_gr (x := 12) (k2 := 4) (i2 := 3) (j2 := 0) ⟨by decide, by decide⟩ rfl rfl (Nat.le_of_ble_eq_true rfl) wd_216 rfl rfl dX10_worth_114 ?_
  refine ab_iconst (v := 1) dX10_worth_117 (by decide) ?_
  refine fC_Vi (mtc := mt_X9_pass) (As := [.ref (gA G 3 y1 0), .ref (gA G 4 3 0), .int 1]) h (fun Q h => ct_X9_pass N y1 hy2 3 (by decide) 1 C h) ⟨by decide, by decide⟩ rfl rfl rfl mw_X9_pass wd_265 rfl rfl ⟨Nat.le_of_ble_eq_true rfl, Nat.le_of_ble_eq_true rfl⟩ ⟨Nat.zero_le _, Nat.zero_le _⟩ (Nat.le_of_ble_eq_true rfl) rfl dX10_worth_118 (fun v3 C4 h => ?_)
  refine ab_pop dX10_worth_121 rfl ?_
  refine ab_iinc (q := 3) (v := (a4 + 1)) (lv' := [(0, .ref (gA G 0 0 0)), (1, .int a1), (3, .int a3), (4, .int (a4 + 1))]) dX10_worth_122 rfl rfl rfl (Nat.le_of_ble_eq_true rfl) rfl ?_
  refine ab_goto (tgt := 68) dX10_worth_125 (by decide) ?_
  exact hk68 (a4 + 1) C4 h
set_option maxRecDepth 8000 in
theorem t_X10_worth_68 {l : Launch} {G : GX} {X : XM} {Q : Int32 → Mem → Prop} (N : Nat) (a1 : Int32) (a3 : Int32) : ∀ (n : Nat) (a4 : Int32) (C : CM), SAT (f_X10_worth_68 N a1 a3 n a4 C) (fun v c => Q v (c, X)) → AB l G (rmD 6) 0 0 mt_X10_worth (ZQ G mt_X10_worth Q) 68 [(0, .ref (gA G 0 0 0)), (1, .int a1), (3, .int a3), (4, .int a4)] [] (C, X) := by
  intro n
  induction n with
  | zero => intro a4 C h; exact h.elim
  | succ n ih =>
    intro a4 C h
    rw [f_X10_worth_68] at h
    refine ab_iload 3 dX10_worth_68 rfl ?_
    refine ab_bipush (v := 48) dX10_worth_70 (by decide) ?_
    refine ab_icmp_ge (tgt := 128) dX10_worth_72 (by decide) (fun hc1 => ?_) (fun hc1 => ?_)
    · have h := sat_t hc1 h
      refine ab_aloadn 0 dX10_worth_128 rfl ?_
      refine f_gr (x := 12) (k2 := 4) (i2 := 3) (j2 := 0) ⟨by decide, by decide⟩ rfl rfl (Nat.le_of_ble_eq_true rfl) wd_216 rfl rfl dX10_worth_129 ?_
      refine ab_iloadn 1 dX10_worth_132 rfl ?_
      refine fC_Vi (mtc := mt_X6_wealth) (As := [.int a1]) h (fun Q h => ct_X6_wealth 3 (by decide) a1 C h) ⟨by decide, by decide⟩ rfl rfl rfl mw_X6_wealth wd_275 rfl rfl ⟨Nat.le_of_ble_eq_true rfl, Nat.le_of_ble_eq_true rfl⟩ ⟨Nat.zero_le _, Nat.zero_le _⟩ (Nat.le_of_ble_eq_true rfl) rfl dX10_worth_133 (fun v2 C3 h => ?_)
      refine ab_iloadn 2 dX10_worth_136 rfl ?_
      refine ab_isub dX10_worth_137 ?_
      exact fC_iret h rfl rfl dX10_worth_138
    · have h := sat_f hc1 h
      refine ab_aloadn 0 dX10_worth_75 rfl ?_
      refine f_gr (x := 16) (k2 := 0) (i2 := 0) (j2 := 4) ⟨by decide, by decide⟩ rfl rfl (Nat.le_of_ble_eq_true rfl) wd_300 rfl rfl dX10_worth_76 ?_
      refine ab_iload 3 dX10_worth_79 rfl ?_
      refine fC_iald ⟨by decide, by decide⟩ rfl (by decide) (fun _ => rfl) h dX10_worth_81 (fun v4 h => ?_)
      refine ab_iconst (v := (-1)) dX10_worth_82 (by decide) ?_
      refine ab_icmp_eq (tgt := 102) dX10_worth_83 (by decide) (fun hc5 => ?_) (fun hc5 => ?_)
      · have h := sat_t hc5 h
        exact t_X10_worth_102 N (fun z4 c => f_X10_worth_68 N a1 a3 n z4 c) a1 a3 a4 ih C h
      · have h := sat_f hc5 h
        refine ab_aloadn 0 dX10_worth_86 rfl ?_
        refine f_gr (x := 12) (k2 := 4) (i2 := 3) (j2 := 0) ⟨by decide, by decide⟩ rfl rfl (Nat.le_of_ble_eq_true rfl) wd_216 rfl rfl dX10_worth_87 ?_
        refine f_gr (x := 9) (k2 := 4) (i2 := 3) (j2 := 4) ⟨by decide, by decide⟩ rfl rfl (Nat.le_of_ble_eq_true rfl) wd_302 rfl rfl dX10_worth_90 ?_
        refine ab_iloadn 1 dX10_worth_93 rfl ?_
        refine ab_aloadn 0 dX10_worth_94 rfl ?_
        refine f_gr (x := 16) (k2 := 0) (i2 := 0) (j2 := 4) ⟨by decide, by decide⟩ rfl rfl (Nat.le_of_ble_eq_true rfl) wd_300 rfl rfl dX10_worth_95 ?_
        refine ab_iload 3 dX10_worth_98 rfl ?_
        refine fC_iald ⟨by decide, by decide⟩ rfl (by decide) (fun _ => rfl) h dX10_worth_100 (fun v6 h => ?_)
        refine fC_iast ⟨by decide, by decide⟩ rfl (by decide) (fun _ => rfl) h dX10_worth_101 (fun C7 h => ?_)
        exact t_X10_worth_102 N (fun z4 c => f_X10_worth_68 N a1 a3 n z4 c) a1 a3 a4 ih C7 h
set_option maxRecDepth 8000 in
theorem t_X10_worth_0 {l : Launch} {G : GX} {X : XM} {Q : Int32 → Mem → Prop} (N : Nat) (a1 : Int32) (C : CM) (h : SAT (f_X10_worth N a1 C) (fun v c => Q v (c, X))) : AB l G (rmD 6) 0 0 mt_X10_worth (ZQ G mt_X10_worth Q) 0 [(0, .ref (gA G 0 0 0)), (1, .int a1)] [] (C, X) := by
  unfold f_X10_worth at h
  refine ab_aloadn 0 dX10_worth_0 rfl ?_
  refine fC_gi (x := 1) ⟨by decide, by decide⟩ rfl rfl (Nat.le_of_ble_eq_true rfl) wd_30 (by decide) rfl dX10_worth_1 ?_
  refine ab_istoren (lv' := [(0, .ref (gA G 0 0 0)), (1, .int a1), (2, .int (C.1 0 0 0 1))]) dX10_worth_4 rfl (Nat.le_of_ble_eq_true rfl) rfl ?_
  refine ab_aloadn 0 dX10_worth_5 rfl ?_
  refine ab_iconst (v := 0) dX10_worth_6 (by decide) ?_
  refine fC_pi (x := 1) (ty := .int) ⟨by decide, by decide⟩ rfl rfl (Nat.le_of_ble_eq_true rfl) wd_30 (by decide) rfl h rfl (by decide +kernel) rfl rfl dX10_worth_7 (fun C1 h => ?_)
  refine ab_aloadn 0 dX10_worth_10 rfl ?_
  refine f_gr (x := 4) (k2 := 2) (i2 := 0) (j2 := 0) ⟨by decide, by decide⟩ rfl rfl (Nat.le_of_ble_eq_true rfl) wd_124 rfl rfl dX10_worth_11 ?_
  refine fC_gd (x := 1) ⟨by decide, by decide⟩ rfl rfl (Nat.le_of_ble_eq_true rfl) wd_125 rfl h rfl dX10_worth_14 (fun y2 hy3 h => ?_)
  refine ab_iloadn 1 dX10_worth_17 rfl ?_
  refine fC_Vi (mtc := mt_X0_isOwner) (As := [.int a1]) h (fun Q h => ct_X0_isOwner y2 hy3 a1 C1 h) ⟨hy3, by decide⟩ rfl rfl rfl mw_X0_isOwner wd_232 rfl rfl ⟨Nat.le_of_ble_eq_true rfl, Nat.le_of_ble_eq_true rfl⟩ ⟨Nat.zero_le _, Nat.zero_le _⟩ (Nat.le_of_ble_eq_true rfl) rfl dX10_worth_18 (fun v4 C5 h => ?_)
  refine ab_if_eq (tgt := 32) dX10_worth_21 (by decide) (fun hc6 => ?_) (fun hc6 => ?_)
  · have h := sat_t hc6 h
    refine ab_sipush (v := (-10001)) dX10_worth_32 (by decide) ?_
    exact fC_iret h rfl rfl dX10_worth_35
  · have h := sat_f hc6 h
    refine ab_aloadn 0 dX10_worth_24 rfl ?_
    refine ab_iloadn 2 dX10_worth_25 rfl ?_
    refine fC_Vi (mtc := mt_X10_readForecast) (As := [.int (C.1 0 0 0 1)]) h (fun Q h => ct_X10_readForecast N (C.1 0 0 0 1) C5 h) ⟨by decide, by decide⟩ rfl rfl rfl mw_X10_readForecast wd_301 rfl rfl ⟨Nat.le_of_ble_eq_true rfl, Nat.le_of_ble_eq_true rfl⟩ ⟨Nat.zero_le _, Nat.zero_le _⟩ (Nat.le_of_ble_eq_true rfl) rfl dX10_worth_26 (fun v7 C8 h => ?_)
    refine ab_if_ne (tgt := 36) dX10_worth_29 (by decide) (fun hc9 => ?_) (fun hc9 => ?_)
    · have h := sat_f hc9 h
      refine ab_aloadn 0 dX10_worth_36 rfl ?_
      refine ab_iloadn 1 dX10_worth_37 rfl ?_
      refine fC_Vi (mtc := mt_X10_wealthAtEnd) (As := [.int a1]) h (fun Q h => ct_X10_wealthAtEnd N a1 C8 h) ⟨by decide, by decide⟩ rfl rfl rfl mw_X10_wealthAtEnd wd_276 rfl rfl ⟨Nat.le_of_ble_eq_true rfl, Nat.le_of_ble_eq_true rfl⟩ ⟨Nat.zero_le _, Nat.zero_le _⟩ (Nat.le_of_ble_eq_true rfl) rfl dX10_worth_38 (fun v10 C11 h => ?_)
      refine ab_istoren (lv' := [(0, .ref (gA G 0 0 0)), (1, .int a1), (2, .int (C.1 0 0 0 1)), (3, .int v10)]) dX10_worth_41 rfl (Nat.le_of_ble_eq_true rfl) rfl ?_
      refine ab_aloadn 0 dX10_worth_42 rfl ?_
      refine f_gr (x := 12) (k2 := 4) (i2 := 3) (j2 := 0) ⟨by decide, by decide⟩ rfl rfl (Nat.le_of_ble_eq_true rfl) wd_216 rfl rfl dX10_worth_43 ?_
      refine ab_aloadn 0 dX10_worth_46 rfl ?_
      refine f_gr (x := 4) (k2 := 2) (i2 := 0) (j2 := 0) ⟨by decide, by decide⟩ rfl rfl (Nat.le_of_ble_eq_true rfl) wd_124 rfl rfl dX10_worth_47 ?_
      refine f_gr (x := 2) (k2 := 4) (i2 := 0) (j2 := 0) ⟨by decide, by decide⟩ rfl rfl (Nat.le_of_ble_eq_true rfl) wd_126 rfl rfl dX10_worth_50 ?_
      refine fC_Vv (mtc := mt_X6_copy) (As := [.ref (gA G 4 0 0)]) h (fun Q h => ct_X6_copy 3 (by decide) 0 (by decide) C11 h) ⟨by decide, by decide⟩ rfl rfl rfl mw_X6_copy wd_217 rfl rfl ⟨Nat.le_of_ble_eq_true rfl, Nat.le_of_ble_eq_true rfl⟩ ⟨Nat.zero_le _, Nat.zero_le _⟩ (Nat.le_of_ble_eq_true rfl) rfl dX10_worth_53 (fun v12 C13 h => ?_)
      refine ab_aloadn 0 dX10_worth_56 rfl ?_
      refine f_gr (x := 4) (k2 := 2) (i2 := 0) (j2 := 0) ⟨by decide, by decide⟩ rfl rfl (Nat.le_of_ble_eq_true rfl) wd_124 rfl rfl dX10_worth_57 ?_
      refine f_gr (x := 2) (k2 := 4) (i2 := 0) (j2 := 0) ⟨by decide, by decide⟩ rfl rfl (Nat.le_of_ble_eq_true rfl) wd_126 rfl rfl dX10_worth_60 ?_
      refine fC_gi (x := 0) ⟨by decide, by decide⟩ rfl rfl (Nat.le_of_ble_eq_true rfl) wd_185 (by decide) rfl dX10_worth_63 ?_
      refine ab_istore (lv' := [(0, .ref (gA G 0 0 0)), (1, .int a1), (2, .int (C.1 0 0 0 1)), (3, .int v10), (4, .int (C13.1 4 0 0 0))]) dX10_worth_66 rfl (Nat.le_of_ble_eq_true rfl) rfl ?_
      refine ab_sub [0, 1, 3, 4] rfl ?_
      exact t_X10_worth_68 N a1 v10 N (C13.1 4 0 0 0) C13 h
    · have h := sat_t hc9 h
      refine ab_sipush (v := (-10001)) dX10_worth_32 (by decide) ?_
      exact fC_iret h rfl rfl dX10_worth_35
theorem ct_X10_worth {l : Launch} {G : GX} {X : XM} {Q : Int32 → Mem → Prop} (N : Nat) (a1 : Int32) (C : CM) (h : SAT (f_X10_worth N a1 C) (fun v c => Q v (c, X))) : CT l G 6 mt_X10_worth [.ref (gA G 0 0 0), .int a1] (C, X) Q := ct_of pn_X10 (Nat.le_of_ble_eq_true rfl) (t_X10_worth_0 N a1 C h)
def f_X9_draw (a1 : Int32) (C : CM) : Option (Int32 × CM) := bnd (stC C 8 0 0 3 (((C.1 8 0 0 3) * 1103515245) + 12345)) (fun C1 => (if a1 ≤ 0 then (rt 0 C1) else chk (decide (a1 ≠ 0)) ((rt (((Int32.toUInt32 (C1.1 8 0 0 3) >>> (Int32.toUInt32 8 &&& Int32.toUInt32 31)).toInt32) - ((Int32.toUInt32 (C1.1 8 0 0 3) >>> (Int32.toUInt32 8 &&& Int32.toUInt32 31)).toInt32) / a1 * a1) C1))))
set_option maxRecDepth 8000 in
theorem t_X9_draw_0 {l : Launch} {G : GX} {X : XM} {Q : Int32 → Mem → Prop} (a1 : Int32) (C : CM) (h : SAT (f_X9_draw a1 C) (fun v c => Q v (c, X))) : AB l G (rmD 1) 0 0 mt_X9_draw (ZQ G mt_X9_draw Q) 0 [(0, .ref (gA G 8 0 0)), (1, .int a1)] [] (C, X) := by
  unfold f_X9_draw at h
  refine ab_aloadn 0 dX9_draw_0 rfl ?_
  refine ab_aloadn 0 dX9_draw_1 rfl ?_
  refine fC_gi (x := 3) ⟨by decide, by decide⟩ rfl rfl (Nat.le_of_ble_eq_true rfl) wd_303 (by decide) rfl dX9_draw_2 ?_
  refine ab_ldc wd_304 dX9_draw_5 ?_
  refine ab_imul dX9_draw_7 ?_
  refine ab_sipush (v := 12345) dX9_draw_8 (by decide) ?_
  refine ab_iadd dX9_draw_11 ?_
  refine fC_pi (x := 3) (ty := .int) ⟨by decide, by decide⟩ rfl rfl (Nat.le_of_ble_eq_true rfl) wd_303 (by decide) rfl h rfl (by decide +kernel) rfl rfl dX9_draw_12 (fun C1 h => ?_)
  refine ab_iloadn 1 dX9_draw_15 rfl ?_
  refine ab_if_le (tgt := 31) dX9_draw_16 (by decide) (fun hc2 => ?_) (fun hc2 => ?_)
  · have h := sat_t hc2 h
    refine ab_iconst (v := 0) dX9_draw_31 (by decide) ?_
    exact fC_iret h rfl rfl dX9_draw_32
  · have h := sat_f hc2 h
    refine ab_aloadn 0 dX9_draw_19 rfl ?_
    refine fC_gi (x := 3) ⟨by decide, by decide⟩ rfl rfl (Nat.le_of_ble_eq_true rfl) wd_303 (by decide) rfl dX9_draw_20 ?_
    refine ab_bipush (v := 8) dX9_draw_23 (by decide) ?_
    refine ab_iushr dX9_draw_25 ?_
    refine ab_iloadn 1 dX9_draw_26 rfl ?_
    refine f_irem h dX9_draw_27 (fun h => ?_)
    refine ab_goto (tgt := 32) dX9_draw_28 (by decide) ?_
    exact fC_iret h rfl rfl dX9_draw_32
theorem ct_X9_draw {l : Launch} {G : GX} {X : XM} {Q : Int32 → Mem → Prop} (a1 : Int32) (C : CM) (h : SAT (f_X9_draw a1 C) (fun v c => Q v (c, X))) : CT l G 1 mt_X9_draw [.ref (gA G 8 0 0), .int a1] (C, X) Q := ct_of pn_X9 (Nat.le_of_ble_eq_true rfl) (t_X9_draw_0 a1 C h)
def f_X9_passDrawn_9 (N : Nat) (r1 : Nat) (r2 : Nat) (a3 : Int32) : Nat → Int32 → CM → Option (Int32 × CM)
  | 0, _, _ => none
  | n + 1, a5, C => (if a3 ≤ a5 then (rt 0 C) else cal (f_X9_draw 10 C) (fun v2 C3 => (if v2 ≤ 0 then cal (f_X9_calm N r1 r2 C3) (fun v5 C6 => (f_X9_passDrawn_9 N r1 r2 a3 n (a5 + 1) C6)) else cal (f_X9_draw 8 C3) (fun v7 C8 => cal (f_X9_gale N r1 r2 v7 v2 C8) (fun v9 C10 => (f_X9_passDrawn_9 N r1 r2 a3 n (a5 + 1) C10))))))
def f_X9_passDrawn (N : Nat) (r1 : Nat) (r2 : Nat) (a3 : Int32) (a4 : Int32) (C : CM) : Option (Int32 × CM) := bnd (stC C 8 0 0 3 a4) (fun C1 => (f_X9_passDrawn_9 N r1 r2 a3 N 0 C1))
set_option maxRecDepth 8000 in
theorem t_X9_passDrawn_9 {l : Launch} {G : GX} {X : XM} {Q : Int32 → Mem → Prop} (N : Nat) (r1 : Nat) (h1 : r1 < 4) (r2 : Nat) (h2 : r2 < 12) (a3 : Int32) : ∀ (n : Nat) (a5 : Int32) (C : CM), SAT (f_X9_passDrawn_9 N r1 r2 a3 n a5 C) (fun v c => Q v (c, X)) → AB l G (rmD 4) 0 0 mt_X9_passDrawn (ZQ G mt_X9_passDrawn Q) 9 [(0, .ref (gA G 8 0 0)), (1, .ref (gA G 3 r1 0)), (2, .ref (gA G 4 r2 0)), (3, .int a3), (5, .int a5)] [] (C, X) := by
  intro n
  induction n with
  | zero => intro a5 C h; exact h.elim
  | succ n ih =>
    intro a5 C h
    rw [f_X9_passDrawn_9] at h
    refine ab_iload 4 dX9_passDrawn_9 rfl ?_
    refine ab_iloadn 3 dX9_passDrawn_11 rfl ?_
    refine ab_icmp_ge (tgt := 57) dX9_passDrawn_12 (by decide) (fun hc1 => ?_) (fun hc1 => ?_)
    · have h := sat_t hc1 h
      exact fC_vret h rfl dX9_passDrawn_57
    · have h := sat_f hc1 h
      refine ab_aloadn 0 dX9_passDrawn_15 rfl ?_
      refine ab_bipush (v := 10) dX9_passDrawn_16 (by decide) ?_
      refine fC_Vi (mtc := mt_X9_draw) (As := [.int 10]) h (fun Q h => ct_X9_draw 10 C h) ⟨by decide, by decide⟩ rfl rfl rfl mw_X9_draw wd_305 rfl rfl ⟨Nat.le_of_ble_eq_true rfl, Nat.le_of_ble_eq_true rfl⟩ ⟨Nat.zero_le _, Nat.zero_le _⟩ (Nat.le_of_ble_eq_true rfl) rfl dX9_passDrawn_18 (fun v2 C3 h => ?_)
      refine ab_istore (lv' := [(0, .ref (gA G 8 0 0)), (1, .ref (gA G 3 r1 0)), (2, .ref (gA G 4 r2 0)), (3, .int a3), (5, .int a5), (6, .int v2)]) dX9_passDrawn_21 rfl (Nat.le_of_ble_eq_true rfl) rfl ?_
      refine ab_iload 5 dX9_passDrawn_23 rfl ?_
      refine ab_if_le (tgt := 45) dX9_passDrawn_25 (by decide) (fun hc4 => ?_) (fun hc4 => ?_)
      · have h := sat_t hc4 h
        refine ab_aloadn 0 dX9_passDrawn_45 rfl ?_
        refine ab_aloadn 1 dX9_passDrawn_46 rfl ?_
        refine ab_aloadn 2 dX9_passDrawn_47 rfl ?_
        refine fC_Vv (mtc := mt_X9_calm) (As := [.ref (gA G 3 r1 0), .ref (gA G 4 r2 0)]) h (fun Q h => ct_X9_calm N r1 h1 r2 h2 C3 h) ⟨by decide, by decide⟩ rfl rfl rfl mw_X9_calm wd_262 rfl rfl ⟨Nat.le_of_ble_eq_true rfl, Nat.le_of_ble_eq_true rfl⟩ ⟨Nat.zero_le _, Nat.zero_le _⟩ (Nat.le_of_ble_eq_true rfl) rfl dX9_passDrawn_48 (fun v5 C6 h => ?_)
        refine ab_iinc (q := 4) (v := (a5 + 1)) (lv' := [(0, .ref (gA G 8 0 0)), (1, .ref (gA G 3 r1 0)), (2, .ref (gA G 4 r2 0)), (3, .int a3), (5, .int (a5 + 1)), (6, .int v2)]) dX9_passDrawn_51 rfl rfl rfl (Nat.le_of_ble_eq_true rfl) rfl ?_
        refine ab_goto (tgt := 9) dX9_passDrawn_54 (by decide) ?_
        refine ab_sub [0, 1, 2, 3, 4] rfl ?_
        exact ih (a5 + 1) C6 h
      · have h := sat_f hc4 h
        refine ab_aloadn 0 dX9_passDrawn_28 rfl ?_
        refine ab_aloadn 1 dX9_passDrawn_29 rfl ?_
        refine ab_aloadn 2 dX9_passDrawn_30 rfl ?_
        refine ab_aloadn 0 dX9_passDrawn_31 rfl ?_
        refine ab_bipush (v := 8) dX9_passDrawn_32 (by decide) ?_
        refine fC_Vi (mtc := mt_X9_draw) (As := [.int 8]) h (fun Q h => ct_X9_draw 8 C3 h) ⟨by decide, by decide⟩ rfl rfl rfl mw_X9_draw wd_305 rfl rfl ⟨Nat.le_of_ble_eq_true rfl, Nat.le_of_ble_eq_true rfl⟩ ⟨Nat.zero_le _, Nat.zero_le _⟩ (Nat.le_of_ble_eq_true rfl) rfl dX9_passDrawn_34 (fun v7 C8 h => ?_)
        refine ab_iload 5 dX9_passDrawn_37 rfl ?_
        refine fC_Vv (mtc := mt_X9_gale) (As := [.ref (gA G 3 r1 0), .ref (gA G 4 r2 0), .int v7, .int v2]) h (fun Q h => ct_X9_gale N r1 h1 r2 h2 v7 v2 C8 h) ⟨by decide, by decide⟩ rfl rfl rfl mw_X9_gale wd_264 rfl rfl ⟨Nat.le_of_ble_eq_true rfl, Nat.le_of_ble_eq_true rfl⟩ ⟨Nat.zero_le _, Nat.zero_le _⟩ (Nat.le_of_ble_eq_true rfl) rfl dX9_passDrawn_39 (fun v9 C10 h => ?_)
        refine ab_goto (tgt := 51) dX9_passDrawn_42 (by decide) ?_
        refine ab_iinc (q := 4) (v := (a5 + 1)) (lv' := [(0, .ref (gA G 8 0 0)), (1, .ref (gA G 3 r1 0)), (2, .ref (gA G 4 r2 0)), (3, .int a3), (5, .int (a5 + 1)), (6, .int v2)]) dX9_passDrawn_51 rfl rfl rfl (Nat.le_of_ble_eq_true rfl) rfl ?_
        refine ab_goto (tgt := 9) dX9_passDrawn_54 (by decide) ?_
        refine ab_sub [0, 1, 2, 3, 4] rfl ?_
        exact ih (a5 + 1) C10 h
set_option maxRecDepth 8000 in
theorem t_X9_passDrawn_0 {l : Launch} {G : GX} {X : XM} {Q : Int32 → Mem → Prop} (N : Nat) (r1 : Nat) (h1 : r1 < 4) (r2 : Nat) (h2 : r2 < 12) (a3 : Int32) (a4 : Int32) (C : CM) (h : SAT (f_X9_passDrawn N r1 r2 a3 a4 C) (fun v c => Q v (c, X))) : AB l G (rmD 4) 0 0 mt_X9_passDrawn (ZQ G mt_X9_passDrawn Q) 0 [(0, .ref (gA G 8 0 0)), (1, .ref (gA G 3 r1 0)), (2, .ref (gA G 4 r2 0)), (3, .int a3), (4, .int a4)] [] (C, X) := by
  unfold f_X9_passDrawn at h
  refine ab_aloadn 0 dX9_passDrawn_0 rfl ?_
  refine ab_iload 4 dX9_passDrawn_1 rfl ?_
  refine fC_pi (x := 3) (ty := .int) ⟨by decide, by decide⟩ rfl rfl (Nat.le_of_ble_eq_true rfl) wd_303 (by decide) rfl h rfl (by decide +kernel) rfl rfl dX9_passDrawn_3 (fun C1 h => ?_)
  refine ab_iconst (v := 0) dX9_passDrawn_6 (by decide) ?_
  refine ab_istore (lv' := [(0, .ref (gA G 8 0 0)), (1, .ref (gA G 3 r1 0)), (2, .ref (gA G 4 r2 0)), (3, .int a3), (4, .int a4), (5, .int 0)]) dX9_passDrawn_7 rfl (Nat.le_of_ble_eq_true rfl) rfl ?_
  refine ab_sub [0, 1, 2, 3, 5] rfl ?_
  exact t_X9_passDrawn_9 N r1 h1 r2 h2 a3 N 0 C1 h
theorem ct_X9_passDrawn {l : Launch} {G : GX} {X : XM} {Q : Int32 → Mem → Prop} (N : Nat) (r1 : Nat) (h1 : r1 < 4) (r2 : Nat) (h2 : r2 < 12) (a3 : Int32) (a4 : Int32) (C : CM) (h : SAT (f_X9_passDrawn N r1 r2 a3 a4 C) (fun v c => Q v (c, X))) : CT l G 4 mt_X9_passDrawn [.ref (gA G 8 0 0), .ref (gA G 3 r1 0), .ref (gA G 4 r2 0), .int a3, .int a4] (C, X) Q := ct_of pn_X9 (Nat.le_of_ble_eq_true rfl) (t_X9_passDrawn_0 N r1 h1 r2 h2 a3 a4 C h)
def f_X10_wealthDrawn (N : Nat) (a1 : Int32) (a2 : Int32) (a3 : Int32) (C : CM) : Option (Int32 × CM) := cal (f_X6_copy 3 0 C) (fun v1 C2 => ldR (C2.2 2 0 1) 4 (fun y3 => cal (f_X9_passDrawn N y3 3 a2 a3 C2) (fun v5 C6 => cal (f_X6_wealth 3 a1 C6) (fun v7 C8 => (rt v7 C8)))))
set_option maxRecDepth 8000 in
theorem t_X10_wealthDrawn_0 {l : Launch} {G : GX} {X : XM} {Q : Int32 → Mem → Prop} (N : Nat) (a1 : Int32) (a2 : Int32) (a3 : Int32) (C : CM) (h : SAT (f_X10_wealthDrawn N a1 a2 a3 C) (fun v c => Q v (c, X))) : AB l G (rmD 5) 0 0 mt_X10_wealthDrawn (ZQ G mt_X10_wealthDrawn Q) 0 [(0, .ref (gA G 0 0 0)), (1, .int a1), (2, .int a2), (3, .int a3)] [] (C, X) := by
  unfold f_X10_wealthDrawn at h
  refine ab_aloadn 0 dX10_wealthDrawn_0 rfl ?_
  refine f_gr (x := 12) (k2 := 4) (i2 := 3) (j2 := 0) ⟨by decide, by decide⟩ rfl rfl (Nat.le_of_ble_eq_true rfl) wd_216 rfl rfl dX10_wealthDrawn_1 ?_
  refine ab_aloadn 0 dX10_wealthDrawn_4 rfl ?_
  refine f_gr (x := 4) (k2 := 2) (i2 := 0) (j2 := 0) ⟨by decide, by decide⟩ rfl rfl (Nat.le_of_ble_eq_true rfl) wd_124 rfl rfl dX10_wealthDrawn_5 ?_
  refine f_gr (x := 2) (k2 := 4) (i2 := 0) (j2 := 0) ⟨by decide, by decide⟩ rfl rfl (Nat.le_of_ble_eq_true rfl) wd_126 rfl rfl dX10_wealthDrawn_8 ?_
  refine fC_Vv (mtc := mt_X6_copy) (As := [.ref (gA G 4 0 0)]) h (fun Q h => ct_X6_copy 3 (by decide) 0 (by decide) C h) ⟨by decide, by decide⟩ rfl rfl rfl mw_X6_copy wd_217 rfl rfl ⟨Nat.le_of_ble_eq_true rfl, Nat.le_of_ble_eq_true rfl⟩ ⟨Nat.zero_le _, Nat.zero_le _⟩ (Nat.le_of_ble_eq_true rfl) rfl dX10_wealthDrawn_11 (fun v1 C2 h => ?_)
  refine ab_aloadn 0 dX10_wealthDrawn_14 rfl ?_
  refine f_gr (x := 10) (k2 := 8) (i2 := 0) (j2 := 0) ⟨by decide, by decide⟩ rfl rfl (Nat.le_of_ble_eq_true rfl) wd_218 rfl rfl dX10_wealthDrawn_15 ?_
  refine ab_aloadn 0 dX10_wealthDrawn_18 rfl ?_
  refine f_gr (x := 4) (k2 := 2) (i2 := 0) (j2 := 0) ⟨by decide, by decide⟩ rfl rfl (Nat.le_of_ble_eq_true rfl) wd_124 rfl rfl dX10_wealthDrawn_19 ?_
  refine fC_gd (x := 1) ⟨by decide, by decide⟩ rfl rfl (Nat.le_of_ble_eq_true rfl) wd_125 rfl h rfl dX10_wealthDrawn_22 (fun y3 hy4 h => ?_)
  refine ab_aloadn 0 dX10_wealthDrawn_25 rfl ?_
  refine f_gr (x := 12) (k2 := 4) (i2 := 3) (j2 := 0) ⟨by decide, by decide⟩ rfl rfl (Nat.le_of_ble_eq_true rfl) wd_216 rfl rfl dX10_wealthDrawn_26 ?_
  refine ab_iloadn 2 dX10_wealthDrawn_29 rfl ?_
  refine ab_iloadn 3 dX10_wealthDrawn_30 rfl ?_
  refine fC_Vv (mtc := mt_X9_passDrawn) (As := [.ref (gA G 3 y3 0), .ref (gA G 4 3 0), .int a2, .int a3]) h (fun Q h => ct_X9_passDrawn N y3 hy4 3 (by decide) a2 a3 C2 h) ⟨by decide, by decide⟩ rfl rfl rfl mw_X9_passDrawn wd_306 rfl rfl ⟨Nat.le_of_ble_eq_true rfl, Nat.le_of_ble_eq_true rfl⟩ ⟨Nat.zero_le _, Nat.zero_le _⟩ (Nat.le_of_ble_eq_true rfl) rfl dX10_wealthDrawn_31 (fun v5 C6 h => ?_)
  refine ab_aloadn 0 dX10_wealthDrawn_34 rfl ?_
  refine f_gr (x := 12) (k2 := 4) (i2 := 3) (j2 := 0) ⟨by decide, by decide⟩ rfl rfl (Nat.le_of_ble_eq_true rfl) wd_216 rfl rfl dX10_wealthDrawn_35 ?_
  refine ab_iloadn 1 dX10_wealthDrawn_38 rfl ?_
  refine fC_Vi (mtc := mt_X6_wealth) (As := [.int a1]) h (fun Q h => ct_X6_wealth 3 (by decide) a1 C6 h) ⟨by decide, by decide⟩ rfl rfl rfl mw_X6_wealth wd_275 rfl rfl ⟨Nat.le_of_ble_eq_true rfl, Nat.le_of_ble_eq_true rfl⟩ ⟨Nat.zero_le _, Nat.zero_le _⟩ (Nat.le_of_ble_eq_true rfl) rfl dX10_wealthDrawn_39 (fun v7 C8 h => ?_)
  exact fC_iret h rfl rfl dX10_wealthDrawn_42
theorem ct_X10_wealthDrawn {l : Launch} {G : GX} {X : XM} {Q : Int32 → Mem → Prop} (N : Nat) (a1 : Int32) (a2 : Int32) (a3 : Int32) (C : CM) (h : SAT (f_X10_wealthDrawn N a1 a2 a3 C) (fun v c => Q v (c, X))) : CT l G 5 mt_X10_wealthDrawn [.ref (gA G 0 0 0), .int a1, .int a2, .int a3] (C, X) Q := ct_of pn_X10 (Nat.le_of_ble_eq_true rfl) (t_X10_wealthDrawn_0 N a1 a2 a3 C h)
def f_X10_drawn (N : Nat) (a1 : Int32) (a2 : Int32) (a3 : Int32) (C : CM) : Option (Int32 × CM) := ldR (C.2 2 0 1) 4 (fun y1 => cal (f_X0_isOwner y1 a1 C) (fun v3 C4 => (if v3 = 0 then (rt (-1) C4) else (if a2 < 1 then (rt (-1) C4) else (if a2 ≤ 48 then cal (f_X10_wealthDrawn N a1 a2 a3 C4) (fun v8 C9 => (rt v8 C9)) else (rt (-1) C4))))))
set_option maxRecDepth 8000 in
theorem t_X10_drawn_0 {l : Launch} {G : GX} {X : XM} {Q : Int32 → Mem → Prop} (N : Nat) (a1 : Int32) (a2 : Int32) (a3 : Int32) (C : CM) (h : SAT (f_X10_drawn N a1 a2 a3 C) (fun v c => Q v (c, X))) : AB l G (rmD 6) 0 0 mt_X10_drawn (ZQ G mt_X10_drawn Q) 0 [(0, .ref (gA G 0 0 0)), (1, .int a1), (2, .int a2), (3, .int a3)] [] (C, X) := by
  unfold f_X10_drawn at h
  refine ab_aloadn 0 dX10_drawn_0 rfl ?_
  refine f_gr (x := 4) (k2 := 2) (i2 := 0) (j2 := 0) ⟨by decide, by decide⟩ rfl rfl (Nat.le_of_ble_eq_true rfl) wd_124 rfl rfl dX10_drawn_1 ?_
  refine fC_gd (x := 1) ⟨by decide, by decide⟩ rfl rfl (Nat.le_of_ble_eq_true rfl) wd_125 rfl h rfl dX10_drawn_4 (fun y1 hy2 h => ?_)
  refine ab_iloadn 1 dX10_drawn_7 rfl ?_
  refine fC_Vi (mtc := mt_X0_isOwner) (As := [.int a1]) h (fun Q h => ct_X0_isOwner y1 hy2 a1 C h) ⟨hy2, by decide⟩ rfl rfl rfl mw_X0_isOwner wd_232 rfl rfl ⟨Nat.le_of_ble_eq_true rfl, Nat.le_of_ble_eq_true rfl⟩ ⟨Nat.zero_le _, Nat.zero_le _⟩ (Nat.le_of_ble_eq_true rfl) rfl dX10_drawn_8 (fun v3 C4 h => ?_)
  refine ab_if_eq (tgt := 25) dX10_drawn_11 (by decide) (fun hc5 => ?_) (fun hc5 => ?_)
  · have h := sat_t hc5 h
    refine ab_iconst (v := (-1)) dX10_drawn_25 (by decide) ?_
    exact fC_iret h rfl rfl dX10_drawn_26
  · have h := sat_f hc5 h
    refine ab_iloadn 2 dX10_drawn_14 rfl ?_
    refine ab_iconst (v := 1) dX10_drawn_15 (by decide) ?_
    refine ab_icmp_lt (tgt := 25) dX10_drawn_16 (by decide) (fun hc6 => ?_) (fun hc6 => ?_)
    · have h := sat_t hc6 h
      refine ab_iconst (v := (-1)) dX10_drawn_25 (by decide) ?_
      exact fC_iret h rfl rfl dX10_drawn_26
    · have h := sat_f hc6 h
      refine ab_iloadn 2 dX10_drawn_19 rfl ?_
      refine ab_bipush (v := 48) dX10_drawn_20 (by decide) ?_
      refine ab_icmp_le (tgt := 27) dX10_drawn_22 (by decide) (fun hc7 => ?_) (fun hc7 => ?_)
      · have h := sat_t hc7 h
        refine ab_aloadn 0 dX10_drawn_27 rfl ?_
        refine ab_iloadn 1 dX10_drawn_28 rfl ?_
        refine ab_iloadn 2 dX10_drawn_29 rfl ?_
        refine ab_iloadn 3 dX10_drawn_30 rfl ?_
        refine fC_Vi (mtc := mt_X10_wealthDrawn) (As := [.int a1, .int a2, .int a3]) h (fun Q h => ct_X10_wealthDrawn N a1 a2 a3 C4 h) ⟨by decide, by decide⟩ rfl rfl rfl mw_X10_wealthDrawn wd_307 rfl rfl ⟨Nat.le_of_ble_eq_true rfl, Nat.le_of_ble_eq_true rfl⟩ ⟨Nat.zero_le _, Nat.zero_le _⟩ (Nat.le_of_ble_eq_true rfl) rfl dX10_drawn_31 (fun v8 C9 h => ?_)
        exact fC_iret h rfl rfl dX10_drawn_34
      · have h := sat_f hc7 h
        refine ab_iconst (v := (-1)) dX10_drawn_25 (by decide) ?_
        exact fC_iret h rfl rfl dX10_drawn_26
theorem ct_X10_drawn {l : Launch} {G : GX} {X : XM} {Q : Int32 → Mem → Prop} (N : Nat) (a1 : Int32) (a2 : Int32) (a3 : Int32) (C : CM) (h : SAT (f_X10_drawn N a1 a2 a3 C) (fun v c => Q v (c, X))) : CT l G 6 mt_X10_drawn [.ref (gA G 0 0 0), .int a1, .int a2, .int a3] (C, X) Q := ct_of pn_X10 (Nat.le_of_ble_eq_true rfl) (t_X10_drawn_0 N a1 a2 a3 C h)
def f_X10_odds_33 (N : Nat) (a1 : Int32) (a2 : Int32) (a3 : Int32) : Nat → Int32 → Int32 → CM → Option (Int32 × CM)
  | 0, _, _, _ => none
  | n + 1, a4, a5, C => (if a2 ≤ a5 then (rt a4 C) else cal (f_X10_wealthDrawn N a1 12 (a3 + a5) C) (fun v2 C3 => cal (f_X6_wealth 0 a1 C3) (fun v4 C5 => (if v4 ≤ v2 then (f_X10_odds_33 N a1 a2 a3 n a4 (a5 + 1) C5) else (f_X10_odds_33 N a1 a2 a3 n (a4 + 1) (a5 + 1) C5)))))
def f_X10_odds (N : Nat) (a1 : Int32) (a2 : Int32) (a3 : Int32) (C : CM) : Option (Int32 × CM) := ldR (C.2 2 0 1) 4 (fun y1 => cal (f_X0_isOwner y1 a1 C) (fun v3 C4 => (if v3 = 0 then (rt (-1) C4) else (if a2 < 1 then (rt (-1) C4) else (if a2 ≤ 100 then (f_X10_odds_33 N a1 a2 a3 N 0 0 C4) else (rt (-1) C4))))))
set_option maxRecDepth 8000 in
theorem t_X10_odds_33 {l : Launch} {G : GX} {X : XM} {Q : Int32 → Mem → Prop} (N : Nat) (a1 : Int32) (a2 : Int32) (a3 : Int32) : ∀ (n : Nat) (a4 : Int32) (a5 : Int32) (C : CM), SAT (f_X10_odds_33 N a1 a2 a3 n a4 a5 C) (fun v c => Q v (c, X)) → AB l G (rmD 6) 0 0 mt_X10_odds (ZQ G mt_X10_odds Q) 33 [(0, .ref (gA G 0 0 0)), (1, .int a1), (2, .int a2), (3, .int a3), (4, .int a4), (5, .int a5)] [] (C, X) := by
  intro n
  induction n with
  | zero => intro a4 a5 C h; exact h.elim
  | succ n ih =>
    intro a4 a5 C h
    rw [f_X10_odds_33] at h
    refine ab_iload 5 dX10_odds_33 rfl ?_
    refine ab_iloadn 2 dX10_odds_35 rfl ?_
    refine ab_icmp_ge (tgt := 73) dX10_odds_36 (by decide) (fun hc1 => ?_) (fun hc1 => ?_)
    · have h := sat_t hc1 h
      refine ab_iload 4 dX10_odds_73 rfl ?_
      exact fC_iret h rfl rfl dX10_odds_75
    · have h := sat_f hc1 h
      refine ab_aloadn 0 dX10_odds_39 rfl ?_
      refine ab_iloadn 1 dX10_odds_40 rfl ?_
      refine ab_bipush (v := 12) dX10_odds_41 (by decide) ?_
      refine ab_iloadn 3 dX10_odds_43 rfl ?_
      refine ab_iload 5 dX10_odds_44 rfl ?_
      refine ab_iadd dX10_odds_46 ?_
      refine fC_Vi (mtc := mt_X10_wealthDrawn) (As := [.int a1, .int 12, .int (a3 + a5)]) h (fun Q h => ct_X10_wealthDrawn N a1 12 (a3 + a5) C h) ⟨by decide, by decide⟩ rfl rfl rfl mw_X10_wealthDrawn wd_307 rfl rfl ⟨Nat.le_of_ble_eq_true rfl, Nat.le_of_ble_eq_true rfl⟩ ⟨Nat.zero_le _, Nat.zero_le _⟩ (Nat.le_of_ble_eq_true rfl) rfl dX10_odds_47 (fun v2 C3 h => ?_)
      refine ab_aloadn 0 dX10_odds_50 rfl ?_
      refine f_gr (x := 4) (k2 := 2) (i2 := 0) (j2 := 0) ⟨by decide, by decide⟩ rfl rfl (Nat.le_of_ble_eq_true rfl) wd_124 rfl rfl dX10_odds_51 ?_
      refine f_gr (x := 2) (k2 := 4) (i2 := 0) (j2 := 0) ⟨by decide, by decide⟩ rfl rfl (Nat.le_of_ble_eq_true rfl) wd_126 rfl rfl dX10_odds_54 ?_
      refine ab_iloadn 1 dX10_odds_57 rfl ?_
      refine fC_Vi (mtc := mt_X6_wealth) (As := [.int a1]) h (fun Q h => ct_X6_wealth 0 (by decide) a1 C3 h) ⟨by decide, by decide⟩ rfl rfl rfl mw_X6_wealth wd_275 rfl rfl ⟨Nat.le_of_ble_eq_true rfl, Nat.le_of_ble_eq_true rfl⟩ ⟨Nat.zero_le _, Nat.zero_le _⟩ (Nat.le_of_ble_eq_true rfl) rfl dX10_odds_58 (fun v4 C5 h => ?_)
      refine ab_icmp_ge (tgt := 67) dX10_odds_61 (by decide) (fun hc6 => ?_) (fun hc6 => ?_)
      · have h := sat_t hc6 h
        refine ab_iinc (q := 5) (v := (a5 + 1)) (lv' := [(0, .ref (gA G 0 0 0)), (1, .int a1), (2, .int a2), (3, .int a3), (4, .int a4), (5, .int (a5 + 1))]) dX10_odds_67 rfl rfl rfl (Nat.le_of_ble_eq_true rfl) rfl ?_
        refine ab_goto (tgt := 33) dX10_odds_70 (by decide) ?_
        exact ih a4 (a5 + 1) C5 h
      · have h := sat_f hc6 h
        refine ab_iinc (q := 4) (v := (a4 + 1)) (lv' := [(0, .ref (gA G 0 0 0)), (1, .int a1), (2, .int a2), (3, .int a3), (4, .int (a4 + 1)), (5, .int a5)]) dX10_odds_64 rfl rfl rfl (Nat.le_of_ble_eq_true rfl) rfl ?_
        refine ab_iinc (q := 5) (v := (a5 + 1)) (lv' := [(0, .ref (gA G 0 0 0)), (1, .int a1), (2, .int a2), (3, .int a3), (4, .int (a4 + 1)), (5, .int (a5 + 1))]) dX10_odds_67 rfl rfl rfl (Nat.le_of_ble_eq_true rfl) rfl ?_
        refine ab_goto (tgt := 33) dX10_odds_70 (by decide) ?_
        exact ih (a4 + 1) (a5 + 1) C5 h
set_option maxRecDepth 8000 in
theorem t_X10_odds_0 {l : Launch} {G : GX} {X : XM} {Q : Int32 → Mem → Prop} (N : Nat) (a1 : Int32) (a2 : Int32) (a3 : Int32) (C : CM) (h : SAT (f_X10_odds N a1 a2 a3 C) (fun v c => Q v (c, X))) : AB l G (rmD 6) 0 0 mt_X10_odds (ZQ G mt_X10_odds Q) 0 [(0, .ref (gA G 0 0 0)), (1, .int a1), (2, .int a2), (3, .int a3)] [] (C, X) := by
  unfold f_X10_odds at h
  refine ab_aloadn 0 dX10_odds_0 rfl ?_
  refine f_gr (x := 4) (k2 := 2) (i2 := 0) (j2 := 0) ⟨by decide, by decide⟩ rfl rfl (Nat.le_of_ble_eq_true rfl) wd_124 rfl rfl dX10_odds_1 ?_
  refine fC_gd (x := 1) ⟨by decide, by decide⟩ rfl rfl (Nat.le_of_ble_eq_true rfl) wd_125 rfl h rfl dX10_odds_4 (fun y1 hy2 h => ?_)
  refine ab_iloadn 1 dX10_odds_7 rfl ?_
  refine fC_Vi (mtc := mt_X0_isOwner) (As := [.int a1]) h (fun Q h => ct_X0_isOwner y1 hy2 a1 C h) ⟨hy2, by decide⟩ rfl rfl rfl mw_X0_isOwner wd_232 rfl rfl ⟨Nat.le_of_ble_eq_true rfl, Nat.le_of_ble_eq_true rfl⟩ ⟨Nat.zero_le _, Nat.zero_le _⟩ (Nat.le_of_ble_eq_true rfl) rfl dX10_odds_8 (fun v3 C4 h => ?_)
  refine ab_if_eq (tgt := 25) dX10_odds_11 (by decide) (fun hc5 => ?_) (fun hc5 => ?_)
  · have h := sat_t hc5 h
    refine ab_iconst (v := (-1)) dX10_odds_25 (by decide) ?_
    exact fC_iret h rfl rfl dX10_odds_26
  · have h := sat_f hc5 h
    refine ab_iloadn 2 dX10_odds_14 rfl ?_
    refine ab_iconst (v := 1) dX10_odds_15 (by decide) ?_
    refine ab_icmp_lt (tgt := 25) dX10_odds_16 (by decide) (fun hc6 => ?_) (fun hc6 => ?_)
    · have h := sat_t hc6 h
      refine ab_iconst (v := (-1)) dX10_odds_25 (by decide) ?_
      exact fC_iret h rfl rfl dX10_odds_26
    · have h := sat_f hc6 h
      refine ab_iloadn 2 dX10_odds_19 rfl ?_
      refine ab_bipush (v := 100) dX10_odds_20 (by decide) ?_
      refine ab_icmp_le (tgt := 27) dX10_odds_22 (by decide) (fun hc7 => ?_) (fun hc7 => ?_)
      · have h := sat_t hc7 h
        refine ab_iconst (v := 0) dX10_odds_27 (by decide) ?_
        refine ab_istore (lv' := [(0, .ref (gA G 0 0 0)), (1, .int a1), (2, .int a2), (3, .int a3), (4, .int 0)]) dX10_odds_28 rfl (Nat.le_of_ble_eq_true rfl) rfl ?_
        refine ab_iconst (v := 0) dX10_odds_30 (by decide) ?_
        refine ab_istore (lv' := [(0, .ref (gA G 0 0 0)), (1, .int a1), (2, .int a2), (3, .int a3), (4, .int 0), (5, .int 0)]) dX10_odds_31 rfl (Nat.le_of_ble_eq_true rfl) rfl ?_
        exact t_X10_odds_33 N a1 a2 a3 N 0 0 C4 h
      · have h := sat_f hc7 h
        refine ab_iconst (v := (-1)) dX10_odds_25 (by decide) ?_
        exact fC_iret h rfl rfl dX10_odds_26
theorem ct_X10_odds {l : Launch} {G : GX} {X : XM} {Q : Int32 → Mem → Prop} (N : Nat) (a1 : Int32) (a2 : Int32) (a3 : Int32) (C : CM) (h : SAT (f_X10_odds N a1 a2 a3 C) (fun v c => Q v (c, X))) : CT l G 6 mt_X10_odds [.ref (gA G 0 0 0), .int a1, .int a2, .int a3] (C, X) Q := ct_of pn_X10 (Nat.le_of_ble_eq_true rfl) (t_X10_odds_0 N a1 a2 a3 C h)
def f_X3_perform_136 (N : Nat) (a6 : Int32) (C : CM) : Option (Int32 × CM) := (rt a6 C)
def f_X3_perform_134 (N : Nat) (as0 : Int32) (C : CM) : Option (Int32 × CM) := (f_X3_perform_136 N as0 C)
def f_X3_perform (N : Nat) (r0 : Nat) (a1 : Int32) (r2 : Nat) (r3 : Nat) (C : CM) : Option (Int32 × CM) := ldA (C.1 5 r0 2) 30 a1 (fun v1 => ldA (C.1 5 r0 1) 30 a1 (fun v2 => (if v2 = 10 then cal (f_X6_whyNoFence r3 v1 C) (fun v4 C5 => (if v4 = 0 then cal (f_X6_putFence r3 v1 C5) (fun v7 C8 => (f_X3_perform_136 N v4 C8)) else (f_X3_perform_136 N v4 C5))) else if v2 = 11 then cal (f_X6_whyNoFelling r3 v1 C) (fun v10 C11 => (if v10 = 0 then cal (f_X6_takeTree r3 r2 v1 C11) (fun v13 C14 => (f_X3_perform_136 N v10 C14)) else (f_X3_perform_136 N v10 C11))) else if v2 = 12 then cal (f_X6_oilVane r3 v1 C) (fun v16 C17 => (f_X3_perform_136 N 0 C17)) else if v2 = 13 then ldA (C.1 5 r0 3) 30 a1 (fun v19 => cal (f_X6_stickVane r3 v1 v19 C) (fun v20 C21 => (f_X3_perform_136 N 0 C21))) else cal (f_X9_pass N r2 r3 v1 C) (fun v22 C23 => (if v22 = 0 then (f_X3_perform_134 N 4 C23) else (f_X3_perform_134 N 0 C23))))))
set_option maxRecDepth 8000 in
theorem t_X3_perform_136 {l : Launch} {G : GX} {X : XM} {Q : Int32 → Mem → Prop} (N : Nat) (a6 : Int32) (C : CM) (h : SAT (f_X3_perform_136 N a6 C) (fun v c => Q v (c, X))) : AB l G (rmD 5) 0 0 mt_X3_perform (ZQ G mt_X3_perform Q) 136 [(6, .int a6)] [] (C, X) := by
  unfold f_X3_perform_136 at h
  refine ab_iload 0 dX3_perform_136 rfl ?_
  exact fC_iret h rfl rfl dX3_perform_138
set_option maxRecDepth 8000 in
theorem t_X3_perform_134 {l : Launch} {G : GX} {X : XM} {Q : Int32 → Mem → Prop} (N : Nat) (as0 : Int32) (C : CM) (h : SAT (f_X3_perform_134 N as0 C) (fun v c => Q v (c, X))) : AB l G (rmD 5) 0 0 mt_X3_perform (ZQ G mt_X3_perform Q) 134 [] [.int as0] (C, X) := by
  unfold f_X3_perform_134 at h
  refine ab_istore (lv' := [(6, .int as0)]) dX3_perform_134 rfl (Nat.le_of_ble_eq_true rfl) rfl ?_
  exact t_X3_perform_136 N as0 C h
set_option maxRecDepth 8000 in
theorem t_X3_perform_0 {l : Launch} {G : GX} {X : XM} {Q : Int32 → Mem → Prop} (N : Nat) (r0 : Nat) (h0 : r0 < 4) (a1 : Int32) (r2 : Nat) (h2 : r2 < 4) (r3 : Nat) (h3 : r3 < 12) (C : CM) (h : SAT (f_X3_perform N r0 a1 r2 r3 C) (fun v c => Q v (c, X))) : AB l G (rmD 5) 0 0 mt_X3_perform (ZQ G mt_X3_perform Q) 0 [(0, .ref (gA G 5 r0 0)), (1, .int a1), (2, .ref (gA G 3 r2 0)), (3, .ref (gA G 4 r3 0)), (4, .ref (gA G 8 0 0))] [] (C, X) := by
  unfold f_X3_perform at h
  refine ab_aloadn 0 dX3_perform_0 rfl ?_
  refine f_gr (x := 2) (k2 := 5) (i2 := r0) (j2 := 2) ⟨h0, by decide⟩ rfl rfl (Nat.le_of_ble_eq_true rfl) wd_172 rfl rfl dX3_perform_1 ?_
  refine ab_iloadn 1 dX3_perform_4 rfl ?_
  refine fC_iald ⟨h0, by decide⟩ rfl (by decide) (fun _ => rfl) h dX3_perform_5 (fun v1 h => ?_)
  refine ab_istore (lv' := [(0, .ref (gA G 5 r0 0)), (1, .int a1), (2, .ref (gA G 3 r2 0)), (3, .ref (gA G 4 r3 0)), (4, .ref (gA G 8 0 0)), (5, .int v1)]) dX3_perform_6 rfl (Nat.le_of_ble_eq_true rfl) rfl ?_
  refine ab_iconst (v := 0) dX3_perform_8 (by decide) ?_
  refine ab_istore (lv' := [(0, .ref (gA G 5 r0 0)), (1, .int a1), (2, .ref (gA G 3 r2 0)), (3, .ref (gA G 4 r3 0)), (4, .ref (gA G 8 0 0)), (5, .int v1), (6, .int 0)]) dX3_perform_9 rfl (Nat.le_of_ble_eq_true rfl) rfl ?_
  refine ab_aloadn 0 dX3_perform_11 rfl ?_
  refine f_gr (x := 1) (k2 := 5) (i2 := r0) (j2 := 1) ⟨h0, by decide⟩ rfl rfl (Nat.le_of_ble_eq_true rfl) wd_170 rfl rfl dX3_perform_12 ?_
  refine ab_iloadn 1 dX3_perform_15 rfl ?_
  refine fC_iald ⟨h0, by decide⟩ rfl (by decide) (fun _ => rfl) h dX3_perform_16 (fun v2 h => ?_)
  by_cases hc3 : v2 = 10
  · have h := sat_t hc3 h
    refine ab_tin (tgt := 48) (off := 31) hc3 (by decide) (by decide) (by decide) (by decide) dX3_perform_17 ?_
    refine ab_aloadn 3 dX3_perform_48 rfl ?_
    refine ab_iload 5 dX3_perform_49 rfl ?_
    refine fC_Vi (mtc := mt_X6_whyNoFence) (As := [.int v1]) h (fun Q h => ct_X6_whyNoFence r3 h3 v1 C h) ⟨h3, by decide⟩ rfl rfl rfl mw_X6_whyNoFence wd_308 rfl rfl ⟨Nat.le_of_ble_eq_true rfl, Nat.le_of_ble_eq_true rfl⟩ ⟨Nat.zero_le _, Nat.zero_le _⟩ (Nat.le_of_ble_eq_true rfl) rfl dX3_perform_51 (fun v4 C5 h => ?_)
    refine ab_istore (lv' := [(0, .ref (gA G 5 r0 0)), (1, .int a1), (2, .ref (gA G 3 r2 0)), (3, .ref (gA G 4 r3 0)), (4, .ref (gA G 8 0 0)), (5, .int v1), (6, .int v4)]) dX3_perform_54 rfl (Nat.le_of_ble_eq_true rfl) rfl ?_
    refine ab_iload 6 dX3_perform_56 rfl ?_
    refine ab_if_ne (tgt := 136) dX3_perform_58 (by decide) (fun hc6 => ?_) (fun hc6 => ?_)
    · have h := sat_f hc6 h
      refine ab_sub [6] rfl ?_
      exact t_X3_perform_136 N v4 C5 h
    · have h := sat_t hc6 h
      refine ab_aloadn 3 dX3_perform_61 rfl ?_
      refine ab_iload 5 dX3_perform_62 rfl ?_
      refine fC_Vv (mtc := mt_X6_putFence) (As := [.int v1]) h (fun Q h => ct_X6_putFence r3 h3 v1 C5 h) ⟨h3, by decide⟩ rfl rfl rfl mw_X6_putFence wd_309 rfl rfl ⟨Nat.le_of_ble_eq_true rfl, Nat.le_of_ble_eq_true rfl⟩ ⟨Nat.zero_le _, Nat.zero_le _⟩ (Nat.le_of_ble_eq_true rfl) rfl dX3_perform_64 (fun v7 C8 h => ?_)
      refine ab_goto (tgt := 136) dX3_perform_67 (by decide) ?_
      refine ab_sub [6] rfl ?_
      exact t_X3_perform_136 N v4 C8 h
  have h := sat_f hc3 h
  by_cases hc9 : v2 = 11
  · have h := sat_t hc9 h
    refine ab_tin (tgt := 70) (off := 53) hc9 (by decide) (by decide) (by decide) (by decide) dX3_perform_17 ?_
    refine ab_aloadn 3 dX3_perform_70 rfl ?_
    refine ab_iload 5 dX3_perform_71 rfl ?_
    refine fC_Vi (mtc := mt_X6_whyNoFelling) (As := [.int v1]) h (fun Q h => ct_X6_whyNoFelling r3 h3 v1 C h) ⟨h3, by decide⟩ rfl rfl rfl mw_X6_whyNoFelling wd_310 rfl rfl ⟨Nat.le_of_ble_eq_true rfl, Nat.le_of_ble_eq_true rfl⟩ ⟨Nat.zero_le _, Nat.zero_le _⟩ (Nat.le_of_ble_eq_true rfl) rfl dX3_perform_73 (fun v10 C11 h => ?_)
    refine ab_istore (lv' := [(0, .ref (gA G 5 r0 0)), (1, .int a1), (2, .ref (gA G 3 r2 0)), (3, .ref (gA G 4 r3 0)), (4, .ref (gA G 8 0 0)), (5, .int v1), (6, .int v10)]) dX3_perform_76 rfl (Nat.le_of_ble_eq_true rfl) rfl ?_
    refine ab_iload 6 dX3_perform_78 rfl ?_
    refine ab_if_ne (tgt := 136) dX3_perform_80 (by decide) (fun hc12 => ?_) (fun hc12 => ?_)
    · have h := sat_f hc12 h
      refine ab_sub [6] rfl ?_
      exact t_X3_perform_136 N v10 C11 h
    · have h := sat_t hc12 h
      refine ab_aloadn 3 dX3_perform_83 rfl ?_
      refine ab_aloadn 2 dX3_perform_84 rfl ?_
      refine ab_iload 5 dX3_perform_85 rfl ?_
      refine fC_Vv (mtc := mt_X6_takeTree) (As := [.ref (gA G 3 r2 0), .int v1]) h (fun Q h => ct_X6_takeTree r3 h3 r2 h2 v1 C11 h) ⟨h3, by decide⟩ rfl rfl rfl mw_X6_takeTree wd_311 rfl rfl ⟨Nat.le_of_ble_eq_true rfl, Nat.le_of_ble_eq_true rfl⟩ ⟨Nat.zero_le _, Nat.zero_le _⟩ (Nat.le_of_ble_eq_true rfl) rfl dX3_perform_87 (fun v13 C14 h => ?_)
      refine ab_goto (tgt := 136) dX3_perform_90 (by decide) ?_
      refine ab_sub [6] rfl ?_
      exact t_X3_perform_136 N v10 C14 h
  have h := sat_f hc9 h
  by_cases hc15 : v2 = 12
  · have h := sat_t hc15 h
    refine ab_tin (tgt := 93) (off := 76) hc15 (by decide) (by decide) (by decide) (by decide) dX3_perform_17 ?_
    refine ab_aloadn 3 dX3_perform_93 rfl ?_
    refine ab_iload 5 dX3_perform_94 rfl ?_
    refine fC_Vv (mtc := mt_X6_oilVane) (As := [.int v1]) h (fun Q h => ct_X6_oilVane r3 h3 v1 C h) ⟨h3, by decide⟩ rfl rfl rfl mw_X6_oilVane wd_312 rfl rfl ⟨Nat.le_of_ble_eq_true rfl, Nat.le_of_ble_eq_true rfl⟩ ⟨Nat.zero_le _, Nat.zero_le _⟩ (Nat.le_of_ble_eq_true rfl) rfl dX3_perform_96 (fun v16 C17 h => ?_)
    refine ab_goto (tgt := 136) dX3_perform_99 (by decide) ?_
    refine ab_sub [6] rfl ?_
    exact t_X3_perform_136 N 0 C17 h
  have h := sat_f hc15 h
  by_cases hc18 : v2 = 13
  · have h := sat_t hc18 h
    refine ab_tin (tgt := 102) (off := 85) hc18 (by decide) (by decide) (by decide) (by decide) dX3_perform_17 ?_
    refine ab_aloadn 3 dX3_perform_102 rfl ?_
    refine ab_iload 5 dX3_perform_103 rfl ?_
    refine ab_aloadn 0 dX3_perform_105 rfl ?_
    refine f_gr (x := 3) (k2 := 5) (i2 := r0) (j2 := 3) ⟨h0, by decide⟩ rfl rfl (Nat.le_of_ble_eq_true rfl) wd_171 rfl rfl dX3_perform_106 ?_
    refine ab_iloadn 1 dX3_perform_109 rfl ?_
    refine fC_iald ⟨h0, by decide⟩ rfl (by decide) (fun _ => rfl) h dX3_perform_110 (fun v19 h => ?_)
    refine fC_Vv (mtc := mt_X6_stickVane) (As := [.int v1, .int v19]) h (fun Q h => ct_X6_stickVane r3 h3 v1 v19 C h) ⟨h3, by decide⟩ rfl rfl rfl mw_X6_stickVane wd_313 rfl rfl ⟨Nat.le_of_ble_eq_true rfl, Nat.le_of_ble_eq_true rfl⟩ ⟨Nat.zero_le _, Nat.zero_le _⟩ (Nat.le_of_ble_eq_true rfl) rfl dX3_perform_111 (fun v20 C21 h => ?_)
    refine ab_goto (tgt := 136) dX3_perform_114 (by decide) ?_
    refine ab_sub [6] rfl ?_
    exact t_X3_perform_136 N 0 C21 h
  have h := sat_f hc18 h
  refine ab_tout (tgt := 117) (by have := ne_toI hc3 (show Int32.toInt 10 = 10 by decide); have := ne_toI hc9 (show Int32.toInt 11 = 11 by decide); have := ne_toI hc15 (show Int32.toInt 12 = 12 by decide); have := ne_toI hc18 (show Int32.toInt 13 = 13 by decide); omega) (by decide) dX3_perform_17 ?_
  refine ab_aload 4 dX3_perform_117 rfl ?_
  refine ab_aloadn 2 dX3_perform_119 rfl ?_
  refine ab_aloadn 3 dX3_perform_120 rfl ?_
  refine ab_iload 5 dX3_perform_121 rfl ?_
  refine fC_Vi (mtc := mt_X9_pass) (As := [.ref (gA G 3 r2 0), .ref (gA G 4 r3 0), .int v1]) h (fun Q h => ct_X9_pass N r2 h2 r3 h3 v1 C h) ⟨by decide, by decide⟩ rfl rfl rfl mw_X9_pass wd_314 rfl rfl ⟨Nat.le_of_ble_eq_true rfl, Nat.le_of_ble_eq_true rfl⟩ ⟨Nat.zero_le _, Nat.zero_le _⟩ (Nat.le_of_ble_eq_true rfl) rfl dX3_perform_123 (fun v22 C23 h => ?_)
  refine ab_if_ne (tgt := 133) dX3_perform_126 (by decide) (fun hc24 => ?_) (fun hc24 => ?_)
  · have h := sat_f hc24 h
    refine ab_iconst (v := 0) dX3_perform_133 (by decide) ?_
    refine ab_sub [] rfl ?_
    exact t_X3_perform_134 N 0 C23 h
  · have h := sat_t hc24 h
    refine ab_iconst (v := 4) dX3_perform_129 (by decide) ?_
    refine ab_goto (tgt := 134) dX3_perform_130 (by decide) ?_
    refine ab_sub [] rfl ?_
    exact t_X3_perform_134 N 4 C23 h
theorem ct_X3_perform {l : Launch} {G : GX} {X : XM} {Q : Int32 → Mem → Prop} (N : Nat) (r0 : Nat) (h0 : r0 < 4) (a1 : Int32) (r2 : Nat) (h2 : r2 < 4) (r3 : Nat) (h3 : r3 < 12) (C : CM) (h : SAT (f_X3_perform N r0 a1 r2 r3 C) (fun v c => Q v (c, X))) : CT l G 5 mt_X3_perform [.ref (gA G 5 r0 0), .int a1, .ref (gA G 3 r2 0), .ref (gA G 4 r3 0), .ref (gA G 8 0 0)] (C, X) Q := ct_of pn_X3 (Nat.le_of_ble_eq_true rfl) (t_X3_perform_0 N r0 h0 a1 r2 h2 r3 h3 C h)
def f_X10_judge_165 (N : Nat) (a2 : Int32) (a3 : Int32) (C : CM) : Option (Int32 × CM) := (if a2 = 0 then (rt (-1) C) else (rt a3 C))
def f_X10_judge_85 (N : Nat) (a1 : Int32) (a2 : Int32) (a3 : Int32) (C : CM) : Option (Int32 × CM) := stA C 0 0 5 5 0 a2 (fun C1 => stA C1 0 0 5 5 1 a3 (fun C2 => stA C2 0 0 5 5 2 (C2.1 4 3 0 0) (fun C3 => stA C3 0 0 5 5 3 (C3.1 4 3 0 1) (fun C4 => stA C4 0 0 5 5 4 (C4.1 4 3 0 2) (fun C5 => (if a1 = 1 then (if a3 ≤ 0 then (f_X10_judge_165 N a2 a3 C5) else cal (f_X10_keepPast C5) (fun v8 C9 => cal (f_X6_copy 0 3 C9) (fun v10 C11 => (f_X10_judge_165 N a2 a3 C11)))) else (f_X10_judge_165 N a2 a3 C5)))))))
def f_X10_judge_30 (N : Nat) (a1 : Int32) : Nat → Int32 → Int32 → CM → Option (Int32 × CM)
  | 0, _, _, _ => none
  | n + 1, a2, a3, C => (if a2 = 0 then ldR (C.2 2 0 3) 4 (fun y2 => (if (C.1 5 y2 0 0) ≤ a3 then (f_X10_judge_85 N a1 a2 a3 C) else ldR (C.2 2 0 3) 4 (fun y5 => ldR (C.2 2 0 1) 4 (fun y7 => cal (f_X3_perform N y5 a3 y7 3 C) (fun v9 C10 => (if v9 = 0 then (f_X10_judge_30 N a1 n v9 (a3 + 1) C10) else (f_X10_judge_30 N a1 n v9 a3 C10))))))) else (f_X10_judge_85 N a1 a2 a3 C))
def f_X10_judge_12 (N : Nat) (a1 : Int32) (C : CM) : Option (Int32 × CM) := cal (f_X6_copy 3 0 C) (fun v1 C2 => (f_X10_judge_30 N a1 N 0 0 C2))
def f_X10_judge (N : Nat) (a1 : Int32) (C : CM) : Option (Int32 × CM) := (if a1 = 0 then (f_X10_judge_12 N a1 C) else (if a1 = 1 then (f_X10_judge_12 N a1 C) else (rt (-2) C)))
set_option maxRecDepth 8000 in
theorem t_X10_judge_165 {l : Launch} {G : GX} {X : XM} {Q : Int32 → Mem → Prop} (N : Nat) (a2 : Int32) (a3 : Int32) (C : CM) (h : SAT (f_X10_judge_165 N a2 a3 C) (fun v c => Q v (c, X))) : AB l G (rmD 6) 0 0 mt_X10_judge (ZQ G mt_X10_judge Q) 165 [(2, .int a2), (3, .int a3)] [] (C, X) := by
  unfold f_X10_judge_165 at h
  refine ab_iloadn 0 dX10_judge_165 rfl ?_
  refine ab_if_ne (tgt := 173) dX10_judge_166 (by decide) (fun hc1 => ?_) (fun hc1 => ?_)
  · have h := sat_f hc1 h
    refine ab_iloadn 1 dX10_judge_173 rfl ?_
    exact fC_iret h rfl rfl dX10_judge_174
  · have h := sat_t hc1 h
    refine ab_iconst (v := (-1)) dX10_judge_169 (by decide) ?_
    refine ab_goto (tgt := 174) dX10_judge_170 (by decide) ?_
    exact fC_iret h rfl rfl dX10_judge_174
set_option maxRecDepth 8000 in
theorem t_X10_judge_85 {l : Launch} {G : GX} {X : XM} {Q : Int32 → Mem → Prop} (N : Nat) (a1 : Int32) (a2 : Int32) (a3 : Int32) (C : CM) (h : SAT (f_X10_judge_85 N a1 a2 a3 C) (fun v c => Q v (c, X))) : AB l G (rmD 6) 0 0 mt_X10_judge (ZQ G mt_X10_judge Q) 85 [(0, .ref (gA G 0 0 0)), (1, .int a1), (2, .int a2), (3, .int a3)] [] (C, X) := by
  unfold f_X10_judge_85 at h
  refine ab_aloadn 0 dX10_judge_85 rfl ?_
  refine f_gr (x := 17) (k2 := 0) (i2 := 0) (j2 := 5) ⟨by decide, by decide⟩ rfl rfl (Nat.le_of_ble_eq_true rfl) wd_316 rfl rfl dX10_judge_86 ?_
  refine ab_iconst (v := 0) dX10_judge_89 (by decide) ?_
  refine ab_iloadn 2 dX10_judge_90 rfl ?_
  refine fC_iast ⟨by decide, by decide⟩ rfl (by decide) (fun _ => rfl) h dX10_judge_91 (fun C1 h => ?_)
  refine ab_aloadn 0 dX10_judge_92 rfl ?_
  refine f_gr (x := 17) (k2 := 0) (i2 := 0) (j2 := 5) ⟨by decide, by decide⟩ rfl rfl (Nat.le_of_ble_eq_true rfl) wd_316 rfl rfl dX10_judge_93 ?_
  refine ab_iconst (v := 1) dX10_judge_96 (by decide) ?_
  refine ab_iloadn 3 dX10_judge_97 rfl ?_
  refine fC_iast ⟨by decide, by decide⟩ rfl (by decide) (fun _ => rfl) h dX10_judge_98 (fun C2 h => ?_)
  refine ab_aloadn 0 dX10_judge_99 rfl ?_
  refine f_gr (x := 17) (k2 := 0) (i2 := 0) (j2 := 5) ⟨by decide, by decide⟩ rfl rfl (Nat.le_of_ble_eq_true rfl) wd_316 rfl rfl dX10_judge_100 ?_
  refine ab_iconst (v := 2) dX10_judge_103 (by decide) ?_
  refine ab_aloadn 0 dX10_judge_104 rfl ?_
  refine f_gr (x := 12) (k2 := 4) (i2 := 3) (j2 := 0) ⟨by decide, by decide⟩ rfl rfl (Nat.le_of_ble_eq_true rfl) wd_216 rfl rfl dX10_judge_105 ?_
  refine fC_gi (x := 0) ⟨by decide, by decide⟩ rfl rfl (Nat.le_of_ble_eq_true rfl) wd_185 (by decide) rfl dX10_judge_108 ?_
  refine fC_iast ⟨by decide, by decide⟩ rfl (by decide) (fun _ => rfl) h dX10_judge_111 (fun C3 h => ?_)
  refine ab_aloadn 0 dX10_judge_112 rfl ?_
  refine f_gr (x := 17) (k2 := 0) (i2 := 0) (j2 := 5) ⟨by decide, by decide⟩ rfl rfl (Nat.le_of_ble_eq_true rfl) wd_316 rfl rfl dX10_judge_113 ?_
  refine ab_iconst (v := 3) dX10_judge_116 (by decide) ?_
  refine ab_aloadn 0 dX10_judge_117 rfl ?_
  refine f_gr (x := 12) (k2 := 4) (i2 := 3) (j2 := 0) ⟨by decide, by decide⟩ rfl rfl (Nat.le_of_ble_eq_true rfl) wd_216 rfl rfl dX10_judge_118 ?_
  refine fC_gi (x := 1) ⟨by decide, by decide⟩ rfl rfl (Nat.le_of_ble_eq_true rfl) wd_186 (by decide) rfl dX10_judge_121 ?_
  refine fC_iast ⟨by decide, by decide⟩ rfl (by decide) (fun _ => rfl) h dX10_judge_124 (fun C4 h => ?_)
  refine ab_aloadn 0 dX10_judge_125 rfl ?_
  refine f_gr (x := 17) (k2 := 0) (i2 := 0) (j2 := 5) ⟨by decide, by decide⟩ rfl rfl (Nat.le_of_ble_eq_true rfl) wd_316 rfl rfl dX10_judge_126 ?_
  refine ab_iconst (v := 4) dX10_judge_129 (by decide) ?_
  refine ab_aloadn 0 dX10_judge_130 rfl ?_
  refine f_gr (x := 12) (k2 := 4) (i2 := 3) (j2 := 0) ⟨by decide, by decide⟩ rfl rfl (Nat.le_of_ble_eq_true rfl) wd_216 rfl rfl dX10_judge_131 ?_
  refine fC_gi (x := 2) ⟨by decide, by decide⟩ rfl rfl (Nat.le_of_ble_eq_true rfl) wd_191 (by decide) rfl dX10_judge_134 ?_
  refine fC_iast ⟨by decide, by decide⟩ rfl (by decide) (fun _ => rfl) h dX10_judge_137 (fun C5 h => ?_)
  refine ab_iloadn 1 dX10_judge_138 rfl ?_
  refine ab_iconst (v := 1) dX10_judge_139 (by decide) ?_
  refine ab_icmp_ne (tgt := 165) dX10_judge_140 (by decide) (fun hc6 => ?_) (fun hc6 => ?_)
  · have h := sat_f hc6 h
    refine ab_sub [2, 3] rfl ?_
    exact t_X10_judge_165 N a2 a3 C5 h
  · have h := sat_t hc6 h
    refine ab_iloadn 3 dX10_judge_143 rfl ?_
    refine ab_if_le (tgt := 165) dX10_judge_144 (by decide) (fun hc7 => ?_) (fun hc7 => ?_)
    · have h := sat_t hc7 h
      refine ab_sub [2, 3] rfl ?_
      exact t_X10_judge_165 N a2 a3 C5 h
    · have h := sat_f hc7 h
      refine ab_aloadn 0 dX10_judge_147 rfl ?_
      refine fC_Vv (mtc := mt_X10_keepPast) (As := []) h (fun Q h => ct_X10_keepPast C5 h) ⟨by decide, by decide⟩ rfl rfl rfl mw_X10_keepPast wd_254 rfl rfl ⟨Nat.le_of_ble_eq_true rfl, Nat.le_of_ble_eq_true rfl⟩ ⟨Nat.zero_le _, Nat.zero_le _⟩ (Nat.le_of_ble_eq_true rfl) rfl dX10_judge_148 (fun v8 C9 h => ?_)
      refine ab_aloadn 0 dX10_judge_151 rfl ?_
      refine f_gr (x := 4) (k2 := 2) (i2 := 0) (j2 := 0) ⟨by decide, by decide⟩ rfl rfl (Nat.le_of_ble_eq_true rfl) wd_124 rfl rfl dX10_judge_152 ?_
      refine f_gr (x := 2) (k2 := 4) (i2 := 0) (j2 := 0) ⟨by decide, by decide⟩ rfl rfl (Nat.le_of_ble_eq_true rfl) wd_126 rfl rfl dX10_judge_155 ?_
      refine ab_aloadn 0 dX10_judge_158 rfl ?_
      refine f_gr (x := 12) (k2 := 4) (i2 := 3) (j2 := 0) ⟨by decide, by decide⟩ rfl rfl (Nat.le_of_ble_eq_true rfl) wd_216 rfl rfl dX10_judge_159 ?_
      refine fC_Vv (mtc := mt_X6_copy) (As := [.ref (gA G 4 3 0)]) h (fun Q h => ct_X6_copy 0 (by decide) 3 (by decide) C9 h) ⟨by decide, by decide⟩ rfl rfl rfl mw_X6_copy wd_217 rfl rfl ⟨Nat.le_of_ble_eq_true rfl, Nat.le_of_ble_eq_true rfl⟩ ⟨Nat.zero_le _, Nat.zero_le _⟩ (Nat.le_of_ble_eq_true rfl) rfl dX10_judge_162 (fun v10 C11 h => ?_)
      refine ab_sub [2, 3] rfl ?_
      exact t_X10_judge_165 N a2 a3 C11 h
set_option maxRecDepth 8000 in
theorem t_X10_judge_30 {l : Launch} {G : GX} {X : XM} {Q : Int32 → Mem → Prop} (N : Nat) (a1 : Int32) : ∀ (n : Nat) (a2 : Int32) (a3 : Int32) (C : CM), SAT (f_X10_judge_30 N a1 n a2 a3 C) (fun v c => Q v (c, X)) → AB l G (rmD 6) 0 0 mt_X10_judge (ZQ G mt_X10_judge Q) 30 [(0, .ref (gA G 0 0 0)), (1, .int a1), (2, .int a2), (3, .int a3)] [] (C, X) := by
  intro n
  induction n with
  | zero => intro a2 a3 C h; exact h.elim
  | succ n ih =>
    intro a2 a3 C h
    rw [f_X10_judge_30] at h
    refine ab_iloadn 2 dX10_judge_30 rfl ?_
    refine ab_if_ne (tgt := 85) dX10_judge_31 (by decide) (fun hc1 => ?_) (fun hc1 => ?_)
    · have h := sat_f hc1 h
      exact t_X10_judge_85 N a1 a2 a3 C h
    · have h := sat_t hc1 h
      refine ab_iloadn 3 dX10_judge_34 rfl ?_
      refine ab_aloadn 0 dX10_judge_35 rfl ?_
      refine f_gr (x := 4) (k2 := 2) (i2 := 0) (j2 := 0) ⟨by decide, by decide⟩ rfl rfl (Nat.le_of_ble_eq_true rfl) wd_124 rfl rfl dX10_judge_36 ?_
      refine fC_gd (x := 3) ⟨by decide, by decide⟩ rfl rfl (Nat.le_of_ble_eq_true rfl) wd_153 rfl h rfl dX10_judge_39 (fun y2 hy3 h => ?_)
      refine fC_gi (x := 0) ⟨hy3, by decide⟩ rfl rfl (Nat.le_of_ble_eq_true rfl) wd_154 (by decide) rfl dX10_judge_42 ?_
      refine ab_icmp_ge (tgt := 85) dX10_judge_45 (by decide) (fun hc4 => ?_) (fun hc4 => ?_)
      · have h := sat_t hc4 h
        exact t_X10_judge_85 N a1 a2 a3 C h
      · have h := sat_f hc4 h
        refine ab_aloadn 0 dX10_judge_48 rfl ?_
        refine f_gr (x := 4) (k2 := 2) (i2 := 0) (j2 := 0) ⟨by decide, by decide⟩ rfl rfl (Nat.le_of_ble_eq_true rfl) wd_124 rfl rfl dX10_judge_49 ?_
        refine fC_gd (x := 3) ⟨by decide, by decide⟩ rfl rfl (Nat.le_of_ble_eq_true rfl) wd_153 rfl h rfl dX10_judge_52 (fun y5 hy6 h => ?_)
        refine ab_iloadn 3 dX10_judge_55 rfl ?_
        refine ab_aloadn 0 dX10_judge_56 rfl ?_
        refine f_gr (x := 4) (k2 := 2) (i2 := 0) (j2 := 0) ⟨by decide, by decide⟩ rfl rfl (Nat.le_of_ble_eq_true rfl) wd_124 rfl rfl dX10_judge_57 ?_
        refine fC_gd (x := 1) ⟨by decide, by decide⟩ rfl rfl (Nat.le_of_ble_eq_true rfl) wd_125 rfl h rfl dX10_judge_60 (fun y7 hy8 h => ?_)
        refine ab_aloadn 0 dX10_judge_63 rfl ?_
        refine f_gr (x := 12) (k2 := 4) (i2 := 3) (j2 := 0) ⟨by decide, by decide⟩ rfl rfl (Nat.le_of_ble_eq_true rfl) wd_216 rfl rfl dX10_judge_64 ?_
        refine ab_aloadn 0 dX10_judge_67 rfl ?_
        refine f_gr (x := 10) (k2 := 8) (i2 := 0) (j2 := 0) ⟨by decide, by decide⟩ rfl rfl (Nat.le_of_ble_eq_true rfl) wd_218 rfl rfl dX10_judge_68 ?_
        refine fC_Vi (mtc := mt_X3_perform) (As := [.int a3, .ref (gA G 3 y7 0), .ref (gA G 4 3 0), .ref (gA G 8 0 0)]) h (fun Q h => ct_X3_perform N y5 hy6 a3 y7 hy8 3 (by decide) C h) ⟨hy6, by decide⟩ rfl rfl rfl mw_X3_perform wd_315 rfl rfl ⟨Nat.le_of_ble_eq_true rfl, Nat.le_of_ble_eq_true rfl⟩ ⟨Nat.zero_le _, Nat.zero_le _⟩ (Nat.le_of_ble_eq_true rfl) rfl dX10_judge_71 (fun v9 C10 h => ?_)
        refine ab_istoren (lv' := [(0, .ref (gA G 0 0 0)), (1, .int a1), (2, .int v9), (3, .int a3)]) dX10_judge_74 rfl (Nat.le_of_ble_eq_true rfl) rfl ?_
        refine ab_iloadn 2 dX10_judge_75 rfl ?_
        refine ab_if_ne (tgt := 30) dX10_judge_76 (by decide) (fun hc11 => ?_) (fun hc11 => ?_)
        · have h := sat_f hc11 h
          exact ih v9 a3 C10 h
        · have h := sat_t hc11 h
          refine ab_iinc (q := 3) (v := (a3 + 1)) (lv' := [(0, .ref (gA G 0 0 0)), (1, .int a1), (2, .int v9), (3, .int (a3 + 1))]) dX10_judge_79 rfl rfl rfl (Nat.le_of_ble_eq_true rfl) rfl ?_
          refine ab_goto (tgt := 30) dX10_judge_82 (by decide) ?_
          exact ih v9 (a3 + 1) C10 h
set_option maxRecDepth 8000 in
theorem t_X10_judge_12 {l : Launch} {G : GX} {X : XM} {Q : Int32 → Mem → Prop} (N : Nat) (a1 : Int32) (C : CM) (h : SAT (f_X10_judge_12 N a1 C) (fun v c => Q v (c, X))) : AB l G (rmD 6) 0 0 mt_X10_judge (ZQ G mt_X10_judge Q) 12 [(0, .ref (gA G 0 0 0)), (1, .int a1)] [] (C, X) := by
  unfold f_X10_judge_12 at h
  refine ab_aloadn 0 dX10_judge_12 rfl ?_
  refine f_gr (x := 12) (k2 := 4) (i2 := 3) (j2 := 0) ⟨by decide, by decide⟩ rfl rfl (Nat.le_of_ble_eq_true rfl) wd_216 rfl rfl dX10_judge_13 ?_
  refine ab_aloadn 0 dX10_judge_16 rfl ?_
  refine f_gr (x := 4) (k2 := 2) (i2 := 0) (j2 := 0) ⟨by decide, by decide⟩ rfl rfl (Nat.le_of_ble_eq_true rfl) wd_124 rfl rfl dX10_judge_17 ?_
  refine f_gr (x := 2) (k2 := 4) (i2 := 0) (j2 := 0) ⟨by decide, by decide⟩ rfl rfl (Nat.le_of_ble_eq_true rfl) wd_126 rfl rfl dX10_judge_20 ?_
  refine fC_Vv (mtc := mt_X6_copy) (As := [.ref (gA G 4 0 0)]) h (fun Q h => ct_X6_copy 3 (by decide) 0 (by decide) C h) ⟨by decide, by decide⟩ rfl rfl rfl mw_X6_copy wd_217 rfl rfl ⟨Nat.le_of_ble_eq_true rfl, Nat.le_of_ble_eq_true rfl⟩ ⟨Nat.zero_le _, Nat.zero_le _⟩ (Nat.le_of_ble_eq_true rfl) rfl dX10_judge_23 (fun v1 C2 h => ?_)
  refine ab_iconst (v := 0) dX10_judge_26 (by decide) ?_
  refine ab_istoren (lv' := [(0, .ref (gA G 0 0 0)), (1, .int a1), (2, .int 0)]) dX10_judge_27 rfl (Nat.le_of_ble_eq_true rfl) rfl ?_
  refine ab_iconst (v := 0) dX10_judge_28 (by decide) ?_
  refine ab_istoren (lv' := [(0, .ref (gA G 0 0 0)), (1, .int a1), (2, .int 0), (3, .int 0)]) dX10_judge_29 rfl (Nat.le_of_ble_eq_true rfl) rfl ?_
  exact t_X10_judge_30 N a1 N 0 0 C2 h
set_option maxRecDepth 8000 in
theorem t_X10_judge_0 {l : Launch} {G : GX} {X : XM} {Q : Int32 → Mem → Prop} (N : Nat) (a1 : Int32) (C : CM) (h : SAT (f_X10_judge N a1 C) (fun v c => Q v (c, X))) : AB l G (rmD 6) 0 0 mt_X10_judge (ZQ G mt_X10_judge Q) 0 [(0, .ref (gA G 0 0 0)), (1, .int a1)] [] (C, X) := by
  unfold f_X10_judge at h
  refine ab_iloadn 1 dX10_judge_0 rfl ?_
  refine ab_if_eq (tgt := 12) dX10_judge_1 (by decide) (fun hc1 => ?_) (fun hc1 => ?_)
  · have h := sat_t hc1 h
    exact t_X10_judge_12 N a1 C h
  · have h := sat_f hc1 h
    refine ab_iloadn 1 dX10_judge_4 rfl ?_
    refine ab_iconst (v := 1) dX10_judge_5 (by decide) ?_
    refine ab_icmp_eq (tgt := 12) dX10_judge_6 (by decide) (fun hc2 => ?_) (fun hc2 => ?_)
    · have h := sat_t hc2 h
      exact t_X10_judge_12 N a1 C h
    · have h := sat_f hc2 h
      refine ab_bipush (v := (-2)) dX10_judge_9 (by decide) ?_
      exact fC_iret h rfl rfl dX10_judge_11
theorem ct_X10_judge {l : Launch} {G : GX} {X : XM} {Q : Int32 → Mem → Prop} (N : Nat) (a1 : Int32) (C : CM) (h : SAT (f_X10_judge N a1 C) (fun v c => Q v (c, X))) : CT l G 6 mt_X10_judge [.ref (gA G 0 0 0), .int a1] (C, X) Q := ct_of pn_X10 (Nat.le_of_ble_eq_true rfl) (t_X10_judge_0 N a1 C h)
def f_X10_judged (a1 : Int32) (C : CM) : Option (Int32 × CM) := (if a1 < 0 then (rt (-1) C) else (if 5 ≤ a1 then (rt (-1) C) else ldA (C.1 0 0 5) 5 a1 (fun v3 => (rt v3 C))))
set_option maxRecDepth 8000 in
theorem t_X10_judged_0 {l : Launch} {G : GX} {X : XM} {Q : Int32 → Mem → Prop} (a1 : Int32) (C : CM) (h : SAT (f_X10_judged a1 C) (fun v c => Q v (c, X))) : AB l G (rmD 1) 0 0 mt_X10_judged (ZQ G mt_X10_judged Q) 0 [(0, .ref (gA G 0 0 0)), (1, .int a1)] [] (C, X) := by
  unfold f_X10_judged at h
  refine ab_iloadn 1 dX10_judged_0 rfl ?_
  refine ab_if_lt (tgt := 22) dX10_judged_1 (by decide) (fun hc1 => ?_) (fun hc1 => ?_)
  · have h := sat_t hc1 h
    refine ab_iconst (v := (-1)) dX10_judged_22 (by decide) ?_
    exact fC_iret h rfl rfl dX10_judged_23
  · have h := sat_f hc1 h
    refine ab_iloadn 1 dX10_judged_4 rfl ?_
    refine ab_aloadn 0 dX10_judged_5 rfl ?_
    refine f_gr (x := 17) (k2 := 0) (i2 := 0) (j2 := 5) ⟨by decide, by decide⟩ rfl rfl (Nat.le_of_ble_eq_true rfl) wd_316 rfl rfl dX10_judged_6 ?_
    refine ab_alen (v := 5) ⟨by decide, by decide⟩ rfl (by decide) (by decide) dX10_judged_9 ?_
    refine ab_icmp_ge (tgt := 22) dX10_judged_10 (by decide) (fun hc2 => ?_) (fun hc2 => ?_)
    · have h := sat_t hc2 h
      refine ab_iconst (v := (-1)) dX10_judged_22 (by decide) ?_
      exact fC_iret h rfl rfl dX10_judged_23
    · have h := sat_f hc2 h
      refine ab_aloadn 0 dX10_judged_13 rfl ?_
      refine f_gr (x := 17) (k2 := 0) (i2 := 0) (j2 := 5) ⟨by decide, by decide⟩ rfl rfl (Nat.le_of_ble_eq_true rfl) wd_316 rfl rfl dX10_judged_14 ?_
      refine ab_iloadn 1 dX10_judged_17 rfl ?_
      refine fC_iald ⟨by decide, by decide⟩ rfl (by decide) (fun _ => rfl) h dX10_judged_18 (fun v3 h => ?_)
      refine ab_goto (tgt := 23) dX10_judged_19 (by decide) ?_
      exact fC_iret h rfl rfl dX10_judged_23
theorem ct_X10_judged {l : Launch} {G : GX} {X : XM} {Q : Int32 → Mem → Prop} (a1 : Int32) (C : CM) (h : SAT (f_X10_judged a1 C) (fun v c => Q v (c, X))) : CT l G 1 mt_X10_judged [.ref (gA G 0 0 0), .int a1] (C, X) Q := ct_of pn_X10 (Nat.le_of_ble_eq_true rfl) (t_X10_judged_0 a1 C h)
def f_X5_compare (r0 : Nat) (a1 : Int32) (a2 : Int32) (C : CM) : Option (Int32 × CM) := ldA (C.1 6 r0 2) 40 a2 (fun v1 => (if v1 = 60 then ldA (C.1 6 r0 3) 40 a2 (fun v3 => (if v3 ≤ a1 then (rt 0 C) else (rt 1 C))) else if v1 = 61 then ldA (C.1 6 r0 3) 40 a2 (fun v6 => (if a1 = v6 then (rt 1 C) else (rt 0 C))) else ldA (C.1 6 r0 3) 40 a2 (fun v8 => (if a1 ≤ v8 then (rt 0 C) else (rt 1 C)))))
set_option maxRecDepth 8000 in
theorem t_X5_compare_0 {l : Launch} {G : GX} {X : XM} {Q : Int32 → Mem → Prop} (r0 : Nat) (h0 : r0 < 4) (a1 : Int32) (a2 : Int32) (C : CM) (h : SAT (f_X5_compare r0 a1 a2 C) (fun v c => Q v (c, X))) : AB l G (rmD 1) 0 0 mt_X5_compare (ZQ G mt_X5_compare Q) 0 [(0, .ref (gA G 6 r0 0)), (1, .int a1), (2, .int a2)] [] (C, X) := by
  unfold f_X5_compare at h
  refine ab_aloadn 0 dX5_compare_0 rfl ?_
  refine f_gr (x := 3) (k2 := 6) (i2 := r0) (j2 := 2) ⟨h0, by decide⟩ rfl rfl (Nat.le_of_ble_eq_true rfl) wd_20 rfl rfl dX5_compare_1 ?_
  refine ab_iloadn 2 dX5_compare_4 rfl ?_
  refine fC_iald ⟨h0, by decide⟩ rfl (by decide) (fun _ => rfl) h dX5_compare_5 (fun v1 h => ?_)
  by_cases hc2 : v1 = 60
  · have h := sat_t hc2 h
    refine ab_lsw (tgt := 32) (off := 26) (by decide) (by rw [hc2]; decide) (by decide) dX5_compare_6 ?_
    refine ab_iloadn 1 dX5_compare_32 rfl ?_
    refine ab_aloadn 0 dX5_compare_33 rfl ?_
    refine f_gr (x := 4) (k2 := 6) (i2 := r0) (j2 := 3) ⟨h0, by decide⟩ rfl rfl (Nat.le_of_ble_eq_true rfl) wd_21 rfl rfl dX5_compare_34 ?_
    refine ab_iloadn 2 dX5_compare_37 rfl ?_
    refine fC_iald ⟨h0, by decide⟩ rfl (by decide) (fun _ => rfl) h dX5_compare_38 (fun v3 h => ?_)
    refine ab_icmp_ge (tgt := 46) dX5_compare_39 (by decide) (fun hc4 => ?_) (fun hc4 => ?_)
    · have h := sat_t hc4 h
      refine ab_iconst (v := 0) dX5_compare_46 (by decide) ?_
      exact fC_iret h rfl rfl dX5_compare_47
    · have h := sat_f hc4 h
      refine ab_iconst (v := 1) dX5_compare_42 (by decide) ?_
      refine ab_goto (tgt := 47) dX5_compare_43 (by decide) ?_
      exact fC_iret h rfl rfl dX5_compare_47
  have h := sat_f hc2 h
  by_cases hc5 : v1 = 61
  · have h := sat_t hc5 h
    refine ab_lsw (tgt := 48) (off := 42) (by decide) (by rw [hc5]; decide) (by decide) dX5_compare_6 ?_
    refine ab_iloadn 1 dX5_compare_48 rfl ?_
    refine ab_aloadn 0 dX5_compare_49 rfl ?_
    refine f_gr (x := 4) (k2 := 6) (i2 := r0) (j2 := 3) ⟨h0, by decide⟩ rfl rfl (Nat.le_of_ble_eq_true rfl) wd_21 rfl rfl dX5_compare_50 ?_
    refine ab_iloadn 2 dX5_compare_53 rfl ?_
    refine fC_iald ⟨h0, by decide⟩ rfl (by decide) (fun _ => rfl) h dX5_compare_54 (fun v6 h => ?_)
    refine ab_icmp_ne (tgt := 62) dX5_compare_55 (by decide) (fun hc7 => ?_) (fun hc7 => ?_)
    · have h := sat_f hc7 h
      refine ab_iconst (v := 0) dX5_compare_62 (by decide) ?_
      exact fC_iret h rfl rfl dX5_compare_63
    · have h := sat_t hc7 h
      refine ab_iconst (v := 1) dX5_compare_58 (by decide) ?_
      refine ab_goto (tgt := 63) dX5_compare_59 (by decide) ?_
      exact fC_iret h rfl rfl dX5_compare_63
  have h := sat_f hc5 h
  refine ab_lsw (tgt := 64) (off := 58) (by decide) (by refine (lv_osw hc2 (by decide)).trans ?_; refine (lv_osw hc5 (by decide)).trans ?_; rfl) (by decide) dX5_compare_6 ?_
  refine ab_iloadn 1 dX5_compare_64 rfl ?_
  refine ab_aloadn 0 dX5_compare_65 rfl ?_
  refine f_gr (x := 4) (k2 := 6) (i2 := r0) (j2 := 3) ⟨h0, by decide⟩ rfl rfl (Nat.le_of_ble_eq_true rfl) wd_21 rfl rfl dX5_compare_66 ?_
  refine ab_iloadn 2 dX5_compare_69 rfl ?_
  refine fC_iald ⟨h0, by decide⟩ rfl (by decide) (fun _ => rfl) h dX5_compare_70 (fun v8 h => ?_)
  refine ab_icmp_le (tgt := 78) dX5_compare_71 (by decide) (fun hc9 => ?_) (fun hc9 => ?_)
  · have h := sat_t hc9 h
    refine ab_iconst (v := 0) dX5_compare_78 (by decide) ?_
    exact fC_iret h rfl rfl dX5_compare_79
  · have h := sat_f hc9 h
    refine ab_iconst (v := 1) dX5_compare_74 (by decide) ?_
    refine ab_goto (tgt := 79) dX5_compare_75 (by decide) ?_
    exact fC_iret h rfl rfl dX5_compare_79
theorem ct_X5_compare {l : Launch} {G : GX} {X : XM} {Q : Int32 → Mem → Prop} (r0 : Nat) (h0 : r0 < 4) (a1 : Int32) (a2 : Int32) (C : CM) (h : SAT (f_X5_compare r0 a1 a2 C) (fun v c => Q v (c, X))) : CT l G 1 mt_X5_compare [.ref (gA G 6 r0 0), .int a1, .int a2] (C, X) Q := ct_of pn_X5 (Nat.le_of_ble_eq_true rfl) (t_X5_compare_0 r0 h0 a1 a2 C h)
def f_X5_isSo (r0 : Nat) (r1 : Nat) (a2 : Int32) (a3 : Int32) (C : CM) : Option (Int32 × CM) := ldA (C.1 6 r0 1) 40 a3 (fun v1 => (if v1 = 18 then ldA (C.1 4 r1 4) 8 a2 (fun v3 => (if v3 = (C.1 4 r1 0 4) then (rt 1 C) else (rt 0 C))) else if v1 = 19 then ldA (C.1 4 r1 1) 8 a2 (fun v6 => cal (f_X5_compare r0 v6 a3 C) (fun v7 C8 => (chk (isB v7) (rt v7 C8)))) else if v1 = 20 then ldA (C.1 4 r1 2) 8 a2 (fun v10 => cal (f_X5_compare r0 v10 a3 C) (fun v11 C12 => (chk (isB v11) (rt v11 C12)))) else if v1 = 21 then ldA (C.1 4 r1 3) 8 a2 (fun v14 => cal (f_X5_compare r0 v14 a3 C) (fun v15 C16 => (chk (isB v15) (rt v15 C16)))) else if v1 = 22 then ldA (C.1 4 r1 4) 8 a2 (fun v18 => cal (f_X5_compare r0 v18 a3 C) (fun v19 C20 => (chk (isB v19) (rt v19 C20)))) else cal (f_X5_compare r0 a2 a3 C) (fun v21 C22 => (chk (isB v21) (rt v21 C22)))))
set_option maxRecDepth 8000 in
theorem t_X5_isSo_0 {l : Launch} {G : GX} {X : XM} {Q : Int32 → Mem → Prop} (r0 : Nat) (h0 : r0 < 4) (r1 : Nat) (h1 : r1 < 12) (a2 : Int32) (a3 : Int32) (C : CM) (h : SAT (f_X5_isSo r0 r1 a2 a3 C) (fun v c => Q v (c, X))) : AB l G (rmD 2) 0 0 mt_X5_isSo (ZQ G mt_X5_isSo Q) 0 [(0, .ref (gA G 6 r0 0)), (1, .ref (gA G 4 r1 0)), (2, .int a2), (3, .int a3)] [] (C, X) := by
  unfold f_X5_isSo at h
  refine ab_aloadn 0 dX5_isSo_0 rfl ?_
  refine f_gr (x := 2) (k2 := 6) (i2 := r0) (j2 := 1) ⟨h0, by decide⟩ rfl rfl (Nat.le_of_ble_eq_true rfl) wd_19 rfl rfl dX5_isSo_1 ?_
  refine ab_iloadn 3 dX5_isSo_4 rfl ?_
  refine fC_iald ⟨h0, by decide⟩ rfl (by decide) (fun _ => rfl) h dX5_isSo_5 (fun v1 h => ?_)
  by_cases hc2 : v1 = 18
  · have h := sat_t hc2 h
    refine ab_tin (tgt := 40) (off := 34) hc2 (by decide) (by decide) (by decide) (by decide) dX5_isSo_6 ?_
    refine ab_aloadn 1 dX5_isSo_40 rfl ?_
    refine f_gr (x := 9) (k2 := 4) (i2 := r1) (j2 := 4) ⟨h1, by decide⟩ rfl rfl (Nat.le_of_ble_eq_true rfl) wd_318 rfl rfl dX5_isSo_41 ?_
    refine ab_iloadn 2 dX5_isSo_44 rfl ?_
    refine fC_iald ⟨h1, by decide⟩ rfl (by decide) (fun _ => rfl) h dX5_isSo_45 (fun v3 h => ?_)
    refine ab_aloadn 1 dX5_isSo_46 rfl ?_
    refine fC_gi (x := 4) ⟨h1, by decide⟩ rfl rfl (Nat.le_of_ble_eq_true rfl) wd_319 (by decide) rfl dX5_isSo_47 ?_
    refine ab_icmp_ne (tgt := 57) dX5_isSo_50 (by decide) (fun hc4 => ?_) (fun hc4 => ?_)
    · have h := sat_f hc4 h
      refine ab_iconst (v := 0) dX5_isSo_57 (by decide) ?_
      exact fC_iret h rfl rfl dX5_isSo_58
    · have h := sat_t hc4 h
      refine ab_iconst (v := 1) dX5_isSo_53 (by decide) ?_
      refine ab_goto (tgt := 58) dX5_isSo_54 (by decide) ?_
      exact fC_iret h rfl rfl dX5_isSo_58
  have h := sat_f hc2 h
  by_cases hc5 : v1 = 19
  · have h := sat_t hc5 h
    refine ab_tin (tgt := 59) (off := 53) hc5 (by decide) (by decide) (by decide) (by decide) dX5_isSo_6 ?_
    refine ab_aloadn 0 dX5_isSo_59 rfl ?_
    refine ab_aloadn 1 dX5_isSo_60 rfl ?_
    refine f_gr (x := 6) (k2 := 4) (i2 := r1) (j2 := 1) ⟨h1, by decide⟩ rfl rfl (Nat.le_of_ble_eq_true rfl) wd_320 rfl rfl dX5_isSo_61 ?_
    refine ab_iloadn 2 dX5_isSo_64 rfl ?_
    refine fC_iald ⟨h1, by decide⟩ rfl (by decide) (fun _ => rfl) h dX5_isSo_65 (fun v6 h => ?_)
    refine ab_iloadn 3 dX5_isSo_66 rfl ?_
    refine fC_Vi (mtc := mt_X5_compare) (As := [.int v6, .int a3]) h (fun Q h => ct_X5_compare r0 h0 v6 a3 C h) ⟨h0, by decide⟩ rfl rfl rfl mw_X5_compare wd_321 rfl rfl ⟨Nat.le_of_ble_eq_true rfl, Nat.le_of_ble_eq_true rfl⟩ ⟨Nat.zero_le _, Nat.zero_le _⟩ (Nat.le_of_ble_eq_true rfl) rfl dX5_isSo_67 (fun v7 C8 h => ?_)
    exact fC_iretb h rfl dX5_isSo_70
  have h := sat_f hc5 h
  by_cases hc9 : v1 = 20
  · have h := sat_t hc9 h
    refine ab_tin (tgt := 71) (off := 65) hc9 (by decide) (by decide) (by decide) (by decide) dX5_isSo_6 ?_
    refine ab_aloadn 0 dX5_isSo_71 rfl ?_
    refine ab_aloadn 1 dX5_isSo_72 rfl ?_
    refine f_gr (x := 7) (k2 := 4) (i2 := r1) (j2 := 2) ⟨h1, by decide⟩ rfl rfl (Nat.le_of_ble_eq_true rfl) wd_322 rfl rfl dX5_isSo_73 ?_
    refine ab_iloadn 2 dX5_isSo_76 rfl ?_
    refine fC_iald ⟨h1, by decide⟩ rfl (by decide) (fun _ => rfl) h dX5_isSo_77 (fun v10 h => ?_)
    refine ab_iloadn 3 dX5_isSo_78 rfl ?_
    refine fC_Vi (mtc := mt_X5_compare) (As := [.int v10, .int a3]) h (fun Q h => ct_X5_compare r0 h0 v10 a3 C h) ⟨h0, by decide⟩ rfl rfl rfl mw_X5_compare wd_321 rfl rfl ⟨Nat.le_of_ble_eq_true rfl, Nat.le_of_ble_eq_true rfl⟩ ⟨Nat.zero_le _, Nat.zero_le _⟩ (Nat.le_of_ble_eq_true rfl) rfl dX5_isSo_79 (fun v11 C12 h => ?_)
    exact fC_iretb h rfl dX5_isSo_82
  have h := sat_f hc9 h
  by_cases hc13 : v1 = 21
  · have h := sat_t hc13 h
    refine ab_tin (tgt := 83) (off := 77) hc13 (by decide) (by decide) (by decide) (by decide) dX5_isSo_6 ?_
    refine ab_aloadn 0 dX5_isSo_83 rfl ?_
    refine ab_aloadn 1 dX5_isSo_84 rfl ?_
    refine f_gr (x := 8) (k2 := 4) (i2 := r1) (j2 := 3) ⟨h1, by decide⟩ rfl rfl (Nat.le_of_ble_eq_true rfl) wd_323 rfl rfl dX5_isSo_85 ?_
    refine ab_iloadn 2 dX5_isSo_88 rfl ?_
    refine fC_iald ⟨h1, by decide⟩ rfl (by decide) (fun _ => rfl) h dX5_isSo_89 (fun v14 h => ?_)
    refine ab_iloadn 3 dX5_isSo_90 rfl ?_
    refine fC_Vi (mtc := mt_X5_compare) (As := [.int v14, .int a3]) h (fun Q h => ct_X5_compare r0 h0 v14 a3 C h) ⟨h0, by decide⟩ rfl rfl rfl mw_X5_compare wd_321 rfl rfl ⟨Nat.le_of_ble_eq_true rfl, Nat.le_of_ble_eq_true rfl⟩ ⟨Nat.zero_le _, Nat.zero_le _⟩ (Nat.le_of_ble_eq_true rfl) rfl dX5_isSo_91 (fun v15 C16 h => ?_)
    exact fC_iretb h rfl dX5_isSo_94
  have h := sat_f hc13 h
  by_cases hc17 : v1 = 22
  · have h := sat_t hc17 h
    refine ab_tin (tgt := 95) (off := 89) hc17 (by decide) (by decide) (by decide) (by decide) dX5_isSo_6 ?_
    refine ab_aloadn 0 dX5_isSo_95 rfl ?_
    refine ab_aloadn 1 dX5_isSo_96 rfl ?_
    refine f_gr (x := 9) (k2 := 4) (i2 := r1) (j2 := 4) ⟨h1, by decide⟩ rfl rfl (Nat.le_of_ble_eq_true rfl) wd_318 rfl rfl dX5_isSo_97 ?_
    refine ab_iloadn 2 dX5_isSo_100 rfl ?_
    refine fC_iald ⟨h1, by decide⟩ rfl (by decide) (fun _ => rfl) h dX5_isSo_101 (fun v18 h => ?_)
    refine ab_iloadn 3 dX5_isSo_102 rfl ?_
    refine fC_Vi (mtc := mt_X5_compare) (As := [.int v18, .int a3]) h (fun Q h => ct_X5_compare r0 h0 v18 a3 C h) ⟨h0, by decide⟩ rfl rfl rfl mw_X5_compare wd_321 rfl rfl ⟨Nat.le_of_ble_eq_true rfl, Nat.le_of_ble_eq_true rfl⟩ ⟨Nat.zero_le _, Nat.zero_le _⟩ (Nat.le_of_ble_eq_true rfl) rfl dX5_isSo_103 (fun v19 C20 h => ?_)
    exact fC_iretb h rfl dX5_isSo_106
  have h := sat_f hc17 h
  refine ab_tout (tgt := 107) (by have := ne_toI hc2 (show Int32.toInt 18 = 18 by decide); have := ne_toI hc5 (show Int32.toInt 19 = 19 by decide); have := ne_toI hc9 (show Int32.toInt 20 = 20 by decide); have := ne_toI hc13 (show Int32.toInt 21 = 21 by decide); have := ne_toI hc17 (show Int32.toInt 22 = 22 by decide); omega) (by decide) dX5_isSo_6 ?_
  refine ab_aloadn 0 dX5_isSo_107 rfl ?_
  refine ab_iloadn 2 dX5_isSo_108 rfl ?_
  refine ab_iloadn 3 dX5_isSo_109 rfl ?_
  refine fC_Vi (mtc := mt_X5_compare) (As := [.int a2, .int a3]) h (fun Q h => ct_X5_compare r0 h0 a2 a3 C h) ⟨h0, by decide⟩ rfl rfl rfl mw_X5_compare wd_321 rfl rfl ⟨Nat.le_of_ble_eq_true rfl, Nat.le_of_ble_eq_true rfl⟩ ⟨Nat.zero_le _, Nat.zero_le _⟩ (Nat.le_of_ble_eq_true rfl) rfl dX5_isSo_110 (fun v21 C22 h => ?_)
  exact fC_iretb h rfl dX5_isSo_113
theorem ct_X5_isSo {l : Launch} {G : GX} {X : XM} {Q : Int32 → Mem → Prop} (r0 : Nat) (h0 : r0 < 4) (r1 : Nat) (h1 : r1 < 12) (a2 : Int32) (a3 : Int32) (C : CM) (h : SAT (f_X5_isSo r0 r1 a2 a3 C) (fun v c => Q v (c, X))) : CT l G 2 mt_X5_isSo [.ref (gA G 6 r0 0), .ref (gA G 4 r1 0), .int a2, .int a3] (C, X) Q := ct_of pn_X5 (Nat.le_of_ble_eq_true rfl) (t_X5_isSo_0 r0 h0 r1 h1 a2 a3 C h)
def f_X5_ownersOfOne_6 (N : Nat) (r0 : Nat) (r1 : Nat) (a2 : Int32) (a3 : Int32) : Nat → Int32 → Int32 → CM → Option (Int32 × CM)
  | 0, _, _, _ => none
  | n + 1, a4, a5, C => (if a2 ≤ a5 then (rt a4 C) else cal (f_X5_isSo r0 r1 a5 a3 C) (fun v2 C3 => (if v2 = 0 then (f_X5_ownersOfOne_6 N r0 r1 a2 a3 n a4 (a5 + 1) C3) else (f_X5_ownersOfOne_6 N r0 r1 a2 a3 n (a4 ||| ((1 : Int32) <<< (a5 &&& 31))) (a5 + 1) C3))))
def f_X5_ownersOfOne (N : Nat) (r0 : Nat) (r1 : Nat) (a2 : Int32) (a3 : Int32) (C : CM) : Option (Int32 × CM) := (f_X5_ownersOfOne_6 N r0 r1 a2 a3 N 0 0 C)
set_option maxRecDepth 8000 in
theorem t_X5_ownersOfOne_6 {l : Launch} {G : GX} {X : XM} {Q : Int32 → Mem → Prop} (N : Nat) (r0 : Nat) (h0 : r0 < 4) (r1 : Nat) (h1 : r1 < 12) (a2 : Int32) (a3 : Int32) : ∀ (n : Nat) (a4 : Int32) (a5 : Int32) (C : CM), SAT (f_X5_ownersOfOne_6 N r0 r1 a2 a3 n a4 a5 C) (fun v c => Q v (c, X)) → AB l G (rmD 3) 0 0 mt_X5_ownersOfOne (ZQ G mt_X5_ownersOfOne Q) 6 [(0, .ref (gA G 6 r0 0)), (1, .ref (gA G 4 r1 0)), (2, .int a2), (3, .int a3), (4, .int a4), (5, .int a5)] [] (C, X) := by
  intro n
  induction n with
  | zero => intro a4 a5 C h; exact h.elim
  | succ n ih =>
    intro a4 a5 C h
    rw [f_X5_ownersOfOne_6] at h
    refine ab_iload 5 dX5_ownersOfOne_6 rfl ?_
    refine ab_iloadn 2 dX5_ownersOfOne_8 rfl ?_
    refine ab_icmp_ge (tgt := 38) dX5_ownersOfOne_9 (by decide) (fun hc1 => ?_) (fun hc1 => ?_)
    · have h := sat_t hc1 h
      refine ab_iload 4 dX5_ownersOfOne_38 rfl ?_
      exact fC_iret h rfl rfl dX5_ownersOfOne_40
    · have h := sat_f hc1 h
      refine ab_aloadn 0 dX5_ownersOfOne_12 rfl ?_
      refine ab_aloadn 1 dX5_ownersOfOne_13 rfl ?_
      refine ab_iload 5 dX5_ownersOfOne_14 rfl ?_
      refine ab_iloadn 3 dX5_ownersOfOne_16 rfl ?_
      refine fC_Vi (mtc := mt_X5_isSo) (As := [.ref (gA G 4 r1 0), .int a5, .int a3]) h (fun Q h => ct_X5_isSo r0 h0 r1 h1 a5 a3 C h) ⟨h0, by decide⟩ rfl rfl rfl mw_X5_isSo wd_324 rfl rfl ⟨Nat.le_of_ble_eq_true rfl, Nat.le_of_ble_eq_true rfl⟩ ⟨Nat.zero_le _, Nat.zero_le _⟩ (Nat.le_of_ble_eq_true rfl) rfl dX5_ownersOfOne_17 (fun v2 C3 h => ?_)
      refine ab_if_eq (tgt := 32) dX5_ownersOfOne_20 (by decide) (fun hc4 => ?_) (fun hc4 => ?_)
      · have h := sat_t hc4 h
        refine ab_iinc (q := 5) (v := (a5 + 1)) (lv' := [(0, .ref (gA G 6 r0 0)), (1, .ref (gA G 4 r1 0)), (2, .int a2), (3, .int a3), (4, .int a4), (5, .int (a5 + 1))]) dX5_ownersOfOne_32 rfl rfl rfl (Nat.le_of_ble_eq_true rfl) rfl ?_
        refine ab_goto (tgt := 6) dX5_ownersOfOne_35 (by decide) ?_
        exact ih a4 (a5 + 1) C3 h
      · have h := sat_f hc4 h
        refine ab_iload 4 dX5_ownersOfOne_23 rfl ?_
        refine ab_iconst (v := 1) dX5_ownersOfOne_25 (by decide) ?_
        refine ab_iload 5 dX5_ownersOfOne_26 rfl ?_
        refine ab_ishl dX5_ownersOfOne_28 ?_
        refine ab_ior dX5_ownersOfOne_29 ?_
        refine ab_istore (lv' := [(0, .ref (gA G 6 r0 0)), (1, .ref (gA G 4 r1 0)), (2, .int a2), (3, .int a3), (4, .int (a4 ||| ((1 : Int32) <<< (a5 &&& 31)))), (5, .int a5)]) dX5_ownersOfOne_30 rfl (Nat.le_of_ble_eq_true rfl) rfl ?_
        refine ab_iinc (q := 5) (v := (a5 + 1)) (lv' := [(0, .ref (gA G 6 r0 0)), (1, .ref (gA G 4 r1 0)), (2, .int a2), (3, .int a3), (4, .int (a4 ||| ((1 : Int32) <<< (a5 &&& 31)))), (5, .int (a5 + 1))]) dX5_ownersOfOne_32 rfl rfl rfl (Nat.le_of_ble_eq_true rfl) rfl ?_
        refine ab_goto (tgt := 6) dX5_ownersOfOne_35 (by decide) ?_
        exact ih (a4 ||| ((1 : Int32) <<< (a5 &&& 31))) (a5 + 1) C3 h
set_option maxRecDepth 8000 in
theorem t_X5_ownersOfOne_0 {l : Launch} {G : GX} {X : XM} {Q : Int32 → Mem → Prop} (N : Nat) (r0 : Nat) (h0 : r0 < 4) (r1 : Nat) (h1 : r1 < 12) (a2 : Int32) (a3 : Int32) (C : CM) (h : SAT (f_X5_ownersOfOne N r0 r1 a2 a3 C) (fun v c => Q v (c, X))) : AB l G (rmD 3) 0 0 mt_X5_ownersOfOne (ZQ G mt_X5_ownersOfOne Q) 0 [(0, .ref (gA G 6 r0 0)), (1, .ref (gA G 4 r1 0)), (2, .int a2), (3, .int a3)] [] (C, X) := by
  unfold f_X5_ownersOfOne at h
  refine ab_iconst (v := 0) dX5_ownersOfOne_0 (by decide) ?_
  refine ab_istore (lv' := [(0, .ref (gA G 6 r0 0)), (1, .ref (gA G 4 r1 0)), (2, .int a2), (3, .int a3), (4, .int 0)]) dX5_ownersOfOne_1 rfl (Nat.le_of_ble_eq_true rfl) rfl ?_
  refine ab_iconst (v := 0) dX5_ownersOfOne_3 (by decide) ?_
  refine ab_istore (lv' := [(0, .ref (gA G 6 r0 0)), (1, .ref (gA G 4 r1 0)), (2, .int a2), (3, .int a3), (4, .int 0), (5, .int 0)]) dX5_ownersOfOne_4 rfl (Nat.le_of_ble_eq_true rfl) rfl ?_
  exact t_X5_ownersOfOne_6 N r0 h0 r1 h1 a2 a3 N 0 0 C h
theorem ct_X5_ownersOfOne {l : Launch} {G : GX} {X : XM} {Q : Int32 → Mem → Prop} (N : Nat) (r0 : Nat) (h0 : r0 < 4) (r1 : Nat) (h1 : r1 < 12) (a2 : Int32) (a3 : Int32) (C : CM) (h : SAT (f_X5_ownersOfOne N r0 r1 a2 a3 C) (fun v c => Q v (c, X))) : CT l G 3 mt_X5_ownersOfOne [.ref (gA G 6 r0 0), .ref (gA G 4 r1 0), .int a2, .int a3] (C, X) Q := ct_of pn_X5 (Nat.le_of_ble_eq_true rfl) (t_X5_ownersOfOne_0 N r0 h0 r1 h1 a2 a3 C h)
def f_X5_ownersOf_131 (N : Nat) (k5 : Int32 → Int32 → CM → Option (Int32 × CM)) (r0 : Nat) (r1 : Nat) (a2 : Int32) (a3 : Int32) (a4 : Int32) (C : CM) : Option (Int32 × CM) := (if 20 ≤ a3 then (k5 a3 (a4 + 1) C) else cal (f_X5_ownersOfOne N r0 r1 a2 a4 C) (fun v2 C3 => stA C3 6 r0 4 20 a3 v2 (fun C4 => (k5 (a3 + 1) (a4 + 1) C4))))
def f_X5_ownersOf_91 (N : Nat) (k5 : Int32 → Int32 → CM → Option (Int32 × CM)) (r0 : Nat) (r1 : Nat) (a2 : Int32) (a3 : Int32) (a4 : Int32) (C : CM) : Option (Int32 × CM) := ldA (C.1 6 r0 1) 40 a4 (fun v1 => (if v1 = 15 then (if a3 ≤ 1 then (f_X5_ownersOf_131 N k5 r0 r1 a2 a3 a4 C) else ldA (C.1 6 r0 4) 20 ((a3 - 1) - 1) (fun v4 => ldA (C.1 6 r0 4) 20 (a3 - 1) (fun v5 => stA C 6 r0 4 20 ((a3 - 1) - 1) (v4 ||| v5) (fun C6 => (k5 (a3 - 1) (a4 + 1) C6))))) else (f_X5_ownersOf_131 N k5 r0 r1 a2 a3 a4 C)))
def f_X5_ownersOf_51 (N : Nat) (k5 : Int32 → Int32 → CM → Option (Int32 × CM)) (r0 : Nat) (r1 : Nat) (a2 : Int32) (a3 : Int32) (a4 : Int32) (C : CM) : Option (Int32 × CM) := ldA (C.1 6 r0 1) 40 a4 (fun v1 => (if v1 = 16 then (if a3 ≤ 1 then (f_X5_ownersOf_91 N k5 r0 r1 a2 a3 a4 C) else ldA (C.1 6 r0 4) 20 ((a3 - 1) - 1) (fun v4 => ldA (C.1 6 r0 4) 20 (a3 - 1) (fun v5 => stA C 6 r0 4 20 ((a3 - 1) - 1) (v4 &&& v5) (fun C6 => (k5 (a3 - 1) (a4 + 1) C6))))) else (f_X5_ownersOf_91 N k5 r0 r1 a2 a3 a4 C)))
def f_X5_ownersOf_5 (N : Nat) (r0 : Nat) (r1 : Nat) (a2 : Int32) : Nat → Int32 → Int32 → CM → Option (Int32 × CM)
  | 0, _, _, _ => none
  | n + 1, a3, a4, C => (if (C.1 6 r0 0 1) ≤ a4 then (if a3 ≤ 0 then (rt 0 C) else ldA (C.1 6 r0 4) 20 0 (fun v3 => (rt (v3 &&& (((1 : Int32) <<< (a2 &&& 31)) - 1)) C))) else ldA (C.1 6 r0 1) 40 a4 (fun v4 => (if v4 = 17 then (if a3 ≤ 0 then (f_X5_ownersOf_51 N (fun z3 z4 c => f_X5_ownersOf_5 N r0 r1 a2 n z3 z4 c) r0 r1 a2 a3 a4 C) else ldA (C.1 6 r0 4) 20 (a3 - 1) (fun v7 => stA C 6 r0 4 20 (a3 - 1) (v7 ^^^ (-1)) (fun C8 => (f_X5_ownersOf_5 N r0 r1 a2 n a3 (a4 + 1) C8)))) else (f_X5_ownersOf_51 N (fun z3 z4 c => f_X5_ownersOf_5 N r0 r1 a2 n z3 z4 c) r0 r1 a2 a3 a4 C))))
def f_X5_ownersOf (N : Nat) (r0 : Nat) (r1 : Nat) (a2 : Int32) (C : CM) : Option (Int32 × CM) := (f_X5_ownersOf_5 N r0 r1 a2 N 0 0 C)
set_option maxRecDepth 8000 in
theorem t_X5_ownersOf_131 {l : Launch} {G : GX} {X : XM} {Q : Int32 → Mem → Prop} (N : Nat) (k5 : Int32 → Int32 → CM → Option (Int32 × CM)) (r0 : Nat) (h0 : r0 < 4) (r1 : Nat) (h1 : r1 < 12) (a2 : Int32) (a3 : Int32) (a4 : Int32) (hk5 : ∀ (ac3 : Int32) (ac4 : Int32) (C : CM), SAT (k5 ac3 ac4 C) (fun v c => Q v (c, X)) → AB l G (rmD 4) 0 0 mt_X5_ownersOf (ZQ G mt_X5_ownersOf Q) 5 [(0, .ref (gA G 6 r0 0)), (1, .ref (gA G 4 r1 0)), (2, .int a2), (3, .int ac3), (4, .int ac4)] [] (C, X)) (C : CM) (h : SAT (f_X5_ownersOf_131 N k5 r0 r1 a2 a3 a4 C) (fun v c => Q v (c, X))) : AB l G (rmD 4) 0 0 mt_X5_ownersOf (ZQ G mt_X5_ownersOf Q) 131 [(0, .ref (gA G 6 r0 0)), (1, .ref (gA G 4 r1 0)), (2, .int a2), (3, .int a3), (4, .int a4)] [] (C, X) := by
  unfold f_X5_ownersOf_131 at h
  refine ab_iloadn 3 dX5_ownersOf_131 rfl ?_
  refine ab_aloadn 0 dX5_ownersOf_132 rfl ?_
  refine f_gr (x := 5) (k2 := 6) (i2 := r0) (j2 := 4) ⟨h0, by decide⟩ rfl rfl (Nat.le_of_ble_eq_true rfl) wd_317 rfl rfl dX5_ownersOf_133 ?_
  refine ab_alen (v := 20) ⟨h0, by decide⟩ rfl (by decide) (by decide) dX5_ownersOf_136 ?_
  refine ab_icmp_ge (tgt := 157) dX5_ownersOf_137 (by decide) (fun hc1 => ?_) (fun hc1 => ?_)
  · have h := sat_t hc1 h
    refine ab_iinc (q := 4) (v := (a4 + 1)) (lv' := [(0, .ref (gA G 6 r0 0)), (1, .ref (gA G 4 r1 0)), (2, .int a2), (3, .int a3), (4, .int (a4 + 1))]) dX5_ownersOf_157 rfl rfl rfl (Nat.le_of_ble_eq_true rfl) rfl ?_
    refine ab_goto (tgt := 5) dX5_ownersOf_160 (by decide) ?_
    exact hk5 a3 (a4 + 1) C h
  · have h := sat_f hc1 h
    refine ab_aloadn 0 dX5_ownersOf_140 rfl ?_
    refine f_gr (x := 5) (k2 := 6) (i2 := r0) (j2 := 4) ⟨h0, by decide⟩ rfl rfl (Nat.le_of_ble_eq_true rfl) wd_317 rfl rfl dX5_ownersOf_141 ?_
    refine ab_iloadn 3 dX5_ownersOf_144 rfl ?_
    refine ab_aloadn 0 dX5_ownersOf_145 rfl ?_
    refine ab_aloadn 1 dX5_ownersOf_146 rfl ?_
    refine ab_iloadn 2 dX5_ownersOf_147 rfl ?_
    refine ab_iload 4 dX5_ownersOf_148 rfl ?_
    refine fC_Vi (mtc := mt_X5_ownersOfOne) (As := [.ref (gA G 4 r1 0), .int a2, .int a4]) h (fun Q h => ct_X5_ownersOfOne N r0 h0 r1 h1 a2 a4 C h) ⟨h0, by decide⟩ rfl rfl rfl mw_X5_ownersOfOne wd_325 rfl rfl ⟨Nat.le_of_ble_eq_true rfl, Nat.le_of_ble_eq_true rfl⟩ ⟨Nat.zero_le _, Nat.zero_le _⟩ (Nat.le_of_ble_eq_true rfl) rfl dX5_ownersOf_150 (fun v2 C3 h => ?_)
    refine fC_iast ⟨h0, by decide⟩ rfl (by decide) (fun _ => rfl) h dX5_ownersOf_153 (fun C4 h => ?_)
    refine ab_iinc (q := 3) (v := (a3 + 1)) (lv' := [(0, .ref (gA G 6 r0 0)), (1, .ref (gA G 4 r1 0)), (2, .int a2), (3, .int (a3 + 1)), (4, .int a4)]) dX5_ownersOf_154 rfl rfl rfl (Nat.le_of_ble_eq_true rfl) rfl ?_
    refine ab_iinc (q := 4) (v := (a4 + 1)) (lv' := [(0, .ref (gA G 6 r0 0)), (1, .ref (gA G 4 r1 0)), (2, .int a2), (3, .int (a3 + 1)), (4, .int (a4 + 1))]) dX5_ownersOf_157 rfl rfl rfl (Nat.le_of_ble_eq_true rfl) rfl ?_
    refine ab_goto (tgt := 5) dX5_ownersOf_160 (by decide) ?_
    exact hk5 (a3 + 1) (a4 + 1) C4 h
set_option maxRecDepth 8000 in
theorem t_X5_ownersOf_91 {l : Launch} {G : GX} {X : XM} {Q : Int32 → Mem → Prop} (N : Nat) (k5 : Int32 → Int32 → CM → Option (Int32 × CM)) (r0 : Nat) (h0 : r0 < 4) (r1 : Nat) (h1 : r1 < 12) (a2 : Int32) (a3 : Int32) (a4 : Int32) (hk5 : ∀ (ac3 : Int32) (ac4 : Int32) (C : CM), SAT (k5 ac3 ac4 C) (fun v c => Q v (c, X)) → AB l G (rmD 4) 0 0 mt_X5_ownersOf (ZQ G mt_X5_ownersOf Q) 5 [(0, .ref (gA G 6 r0 0)), (1, .ref (gA G 4 r1 0)), (2, .int a2), (3, .int ac3), (4, .int ac4)] [] (C, X)) (C : CM) (h : SAT (f_X5_ownersOf_91 N k5 r0 r1 a2 a3 a4 C) (fun v c => Q v (c, X))) : AB l G (rmD 4) 0 0 mt_X5_ownersOf (ZQ G mt_X5_ownersOf Q) 91 [(0, .ref (gA G 6 r0 0)), (1, .ref (gA G 4 r1 0)), (2, .int a2), (3, .int a3), (4, .int a4)] [] (C, X) := by
  unfold f_X5_ownersOf_91 at h
  refine ab_aloadn 0 dX5_ownersOf_91 rfl ?_
  refine f_gr (x := 2) (k2 := 6) (i2 := r0) (j2 := 1) ⟨h0, by decide⟩ rfl rfl (Nat.le_of_ble_eq_true rfl) wd_19 rfl rfl dX5_ownersOf_92 ?_
  refine ab_iload 4 dX5_ownersOf_95 rfl ?_
  refine fC_iald ⟨h0, by decide⟩ rfl (by decide) (fun _ => rfl) h dX5_ownersOf_97 (fun v1 h => ?_)
  refine ab_bipush (v := 15) dX5_ownersOf_98 (by decide) ?_
  refine ab_icmp_ne (tgt := 131) dX5_ownersOf_100 (by decide) (fun hc2 => ?_) (fun hc2 => ?_)
  · have h := sat_f hc2 h
    exact t_X5_ownersOf_131 N k5 r0 h0 r1 h1 a2 a3 a4 hk5 C h
  · have h := sat_t hc2 h
    refine ab_iloadn 3 dX5_ownersOf_103 rfl ?_
    refine ab_iconst (v := 1) dX5_ownersOf_104 (by decide) ?_
    refine ab_icmp_le (tgt := 131) dX5_ownersOf_105 (by decide) (fun hc3 => ?_) (fun hc3 => ?_)
    · have h := sat_t hc3 h
      exact t_X5_ownersOf_131 N k5 r0 h0 r1 h1 a2 a3 a4 hk5 C h
    · have h := sat_f hc3 h
      refine ab_iinc (q := 3) (v := (a3 - 1)) (lv' := [(0, .ref (gA G 6 r0 0)), (1, .ref (gA G 4 r1 0)), (2, .int a2), (3, .int (a3 - 1)), (4, .int a4)]) dX5_ownersOf_108 rfl (ii_m1 _) rfl (Nat.le_of_ble_eq_true rfl) rfl ?_
      refine ab_aloadn 0 dX5_ownersOf_111 rfl ?_
      refine f_gr (x := 5) (k2 := 6) (i2 := r0) (j2 := 4) ⟨h0, by decide⟩ rfl rfl (Nat.le_of_ble_eq_true rfl) wd_317 rfl rfl dX5_ownersOf_112 ?_
      refine ab_iloadn 3 dX5_ownersOf_115 rfl ?_
      refine ab_iconst (v := 1) dX5_ownersOf_116 (by decide) ?_
      refine ab_isub dX5_ownersOf_117 ?_
      refine ab_dup2 dX5_ownersOf_118 rfl rfl ?_
      refine fC_iald ⟨h0, by decide⟩ rfl (by decide) (fun _ => rfl) h dX5_ownersOf_119 (fun v4 h => ?_)
      refine ab_aloadn 0 dX5_ownersOf_120 rfl ?_
      refine f_gr (x := 5) (k2 := 6) (i2 := r0) (j2 := 4) ⟨h0, by decide⟩ rfl rfl (Nat.le_of_ble_eq_true rfl) wd_317 rfl rfl dX5_ownersOf_121 ?_
      refine ab_iloadn 3 dX5_ownersOf_124 rfl ?_
      refine fC_iald ⟨h0, by decide⟩ rfl (by decide) (fun _ => rfl) h dX5_ownersOf_125 (fun v5 h => ?_)
      refine ab_ior dX5_ownersOf_126 ?_
      refine fC_iast ⟨h0, by decide⟩ rfl (by decide) (fun _ => rfl) h dX5_ownersOf_127 (fun C6 h => ?_)
      refine ab_goto (tgt := 157) dX5_ownersOf_128 (by decide) ?_
      refine ab_iinc (q := 4) (v := (a4 + 1)) (lv' := [(0, .ref (gA G 6 r0 0)), (1, .ref (gA G 4 r1 0)), (2, .int a2), (3, .int (a3 - 1)), (4, .int (a4 + 1))]) dX5_ownersOf_157 rfl rfl rfl (Nat.le_of_ble_eq_true rfl) rfl ?_
      refine ab_goto (tgt := 5) dX5_ownersOf_160 (by decide) ?_
      exact hk5 (a3 - 1) (a4 + 1) C6 h
set_option maxRecDepth 8000 in
theorem t_X5_ownersOf_51 {l : Launch} {G : GX} {X : XM} {Q : Int32 → Mem → Prop} (N : Nat) (k5 : Int32 → Int32 → CM → Option (Int32 × CM)) (r0 : Nat) (h0 : r0 < 4) (r1 : Nat) (h1 : r1 < 12) (a2 : Int32) (a3 : Int32) (a4 : Int32) (hk5 : ∀ (ac3 : Int32) (ac4 : Int32) (C : CM), SAT (k5 ac3 ac4 C) (fun v c => Q v (c, X)) → AB l G (rmD 4) 0 0 mt_X5_ownersOf (ZQ G mt_X5_ownersOf Q) 5 [(0, .ref (gA G 6 r0 0)), (1, .ref (gA G 4 r1 0)), (2, .int a2), (3, .int ac3), (4, .int ac4)] [] (C, X)) (C : CM) (h : SAT (f_X5_ownersOf_51 N k5 r0 r1 a2 a3 a4 C) (fun v c => Q v (c, X))) : AB l G (rmD 4) 0 0 mt_X5_ownersOf (ZQ G mt_X5_ownersOf Q) 51 [(0, .ref (gA G 6 r0 0)), (1, .ref (gA G 4 r1 0)), (2, .int a2), (3, .int a3), (4, .int a4)] [] (C, X) := by
  unfold f_X5_ownersOf_51 at h
  refine ab_aloadn 0 dX5_ownersOf_51 rfl ?_
  refine f_gr (x := 2) (k2 := 6) (i2 := r0) (j2 := 1) ⟨h0, by decide⟩ rfl rfl (Nat.le_of_ble_eq_true rfl) wd_19 rfl rfl dX5_ownersOf_52 ?_
  refine ab_iload 4 dX5_ownersOf_55 rfl ?_
  refine fC_iald ⟨h0, by decide⟩ rfl (by decide) (fun _ => rfl) h dX5_ownersOf_57 (fun v1 h => ?_)
  refine ab_bipush (v := 16) dX5_ownersOf_58 (by decide) ?_
  refine ab_icmp_ne (tgt := 91) dX5_ownersOf_60 (by decide) (fun hc2 => ?_) (fun hc2 => ?_)
  · have h := sat_f hc2 h
    exact t_X5_ownersOf_91 N k5 r0 h0 r1 h1 a2 a3 a4 hk5 C h
  · have h := sat_t hc2 h
    refine ab_iloadn 3 dX5_ownersOf_63 rfl ?_
    refine ab_iconst (v := 1) dX5_ownersOf_64 (by decide) ?_
    refine ab_icmp_le (tgt := 91) dX5_ownersOf_65 (by decide) (fun hc3 => ?_) (fun hc3 => ?_)
    · have h := sat_t hc3 h
      exact t_X5_ownersOf_91 N k5 r0 h0 r1 h1 a2 a3 a4 hk5 C h
    · have h := sat_f hc3 h
      refine ab_iinc (q := 3) (v := (a3 - 1)) (lv' := [(0, .ref (gA G 6 r0 0)), (1, .ref (gA G 4 r1 0)), (2, .int a2), (3, .int (a3 - 1)), (4, .int a4)]) dX5_ownersOf_68 rfl (ii_m1 _) rfl (Nat.le_of_ble_eq_true rfl) rfl ?_
      refine ab_aloadn 0 dX5_ownersOf_71 rfl ?_
      refine f_gr (x := 5) (k2 := 6) (i2 := r0) (j2 := 4) ⟨h0, by decide⟩ rfl rfl (Nat.le_of_ble_eq_true rfl) wd_317 rfl rfl dX5_ownersOf_72 ?_
      refine ab_iloadn 3 dX5_ownersOf_75 rfl ?_
      refine ab_iconst (v := 1) dX5_ownersOf_76 (by decide) ?_
      refine ab_isub dX5_ownersOf_77 ?_
      refine ab_dup2 dX5_ownersOf_78 rfl rfl ?_
      refine fC_iald ⟨h0, by decide⟩ rfl (by decide) (fun _ => rfl) h dX5_ownersOf_79 (fun v4 h => ?_)
      refine ab_aloadn 0 dX5_ownersOf_80 rfl ?_
      refine f_gr (x := 5) (k2 := 6) (i2 := r0) (j2 := 4) ⟨h0, by decide⟩ rfl rfl (Nat.le_of_ble_eq_true rfl) wd_317 rfl rfl dX5_ownersOf_81 ?_
      refine ab_iloadn 3 dX5_ownersOf_84 rfl ?_
      refine fC_iald ⟨h0, by decide⟩ rfl (by decide) (fun _ => rfl) h dX5_ownersOf_85 (fun v5 h => ?_)
      refine ab_iand dX5_ownersOf_86 ?_
      refine fC_iast ⟨h0, by decide⟩ rfl (by decide) (fun _ => rfl) h dX5_ownersOf_87 (fun C6 h => ?_)
      refine ab_goto (tgt := 157) dX5_ownersOf_88 (by decide) ?_
      refine ab_iinc (q := 4) (v := (a4 + 1)) (lv' := [(0, .ref (gA G 6 r0 0)), (1, .ref (gA G 4 r1 0)), (2, .int a2), (3, .int (a3 - 1)), (4, .int (a4 + 1))]) dX5_ownersOf_157 rfl rfl rfl (Nat.le_of_ble_eq_true rfl) rfl ?_
      refine ab_goto (tgt := 5) dX5_ownersOf_160 (by decide) ?_
      exact hk5 (a3 - 1) (a4 + 1) C6 h
set_option maxRecDepth 8000 in
theorem t_X5_ownersOf_5 {l : Launch} {G : GX} {X : XM} {Q : Int32 → Mem → Prop} (N : Nat) (r0 : Nat) (h0 : r0 < 4) (r1 : Nat) (h1 : r1 < 12) (a2 : Int32) : ∀ (n : Nat) (a3 : Int32) (a4 : Int32) (C : CM), SAT (f_X5_ownersOf_5 N r0 r1 a2 n a3 a4 C) (fun v c => Q v (c, X)) → AB l G (rmD 4) 0 0 mt_X5_ownersOf (ZQ G mt_X5_ownersOf Q) 5 [(0, .ref (gA G 6 r0 0)), (1, .ref (gA G 4 r1 0)), (2, .int a2), (3, .int a3), (4, .int a4)] [] (C, X) := by
  intro n
  induction n with
  | zero => intro a3 a4 C h; exact h.elim
  | succ n ih =>
    intro a3 a4 C h
    rw [f_X5_ownersOf_5] at h
    refine ab_iload 4 dX5_ownersOf_5 rfl ?_
    refine ab_aloadn 0 dX5_ownersOf_7 rfl ?_
    refine fC_gi (x := 1) ⟨h0, by decide⟩ rfl rfl (Nat.le_of_ble_eq_true rfl) wd_18 (by decide) rfl dX5_ownersOf_8 ?_
    refine ab_icmp_ge (tgt := 163) dX5_ownersOf_11 (by decide) (fun hc1 => ?_) (fun hc1 => ?_)
    · have h := sat_t hc1 h
      refine ab_iloadn 3 dX5_ownersOf_163 rfl ?_
      refine ab_if_le (tgt := 182) dX5_ownersOf_164 (by decide) (fun hc2 => ?_) (fun hc2 => ?_)
      · have h := sat_t hc2 h
        refine ab_iconst (v := 0) dX5_ownersOf_182 (by decide) ?_
        exact fC_iret h rfl rfl dX5_ownersOf_183
      · have h := sat_f hc2 h
        refine ab_aloadn 0 dX5_ownersOf_167 rfl ?_
        refine f_gr (x := 5) (k2 := 6) (i2 := r0) (j2 := 4) ⟨h0, by decide⟩ rfl rfl (Nat.le_of_ble_eq_true rfl) wd_317 rfl rfl dX5_ownersOf_168 ?_
        refine ab_iconst (v := 0) dX5_ownersOf_171 (by decide) ?_
        refine fC_iald ⟨h0, by decide⟩ rfl (by decide) (fun _ => rfl) h dX5_ownersOf_172 (fun v3 h => ?_)
        refine ab_iconst (v := 1) dX5_ownersOf_173 (by decide) ?_
        refine ab_iloadn 2 dX5_ownersOf_174 rfl ?_
        refine ab_ishl dX5_ownersOf_175 ?_
        refine ab_iconst (v := 1) dX5_ownersOf_176 (by decide) ?_
        refine ab_isub dX5_ownersOf_177 ?_
        refine ab_iand dX5_ownersOf_178 ?_
        refine ab_goto (tgt := 183) dX5_ownersOf_179 (by decide) ?_
        exact fC_iret h rfl rfl dX5_ownersOf_183
    · have h := sat_f hc1 h
      refine ab_aloadn 0 dX5_ownersOf_14 rfl ?_
      refine f_gr (x := 2) (k2 := 6) (i2 := r0) (j2 := 1) ⟨h0, by decide⟩ rfl rfl (Nat.le_of_ble_eq_true rfl) wd_19 rfl rfl dX5_ownersOf_15 ?_
      refine ab_iload 4 dX5_ownersOf_18 rfl ?_
      refine fC_iald ⟨h0, by decide⟩ rfl (by decide) (fun _ => rfl) h dX5_ownersOf_20 (fun v4 h => ?_)
      refine ab_bipush (v := 17) dX5_ownersOf_21 (by decide) ?_
      refine ab_icmp_ne (tgt := 51) dX5_ownersOf_23 (by decide) (fun hc5 => ?_) (fun hc5 => ?_)
      · have h := sat_f hc5 h
        exact t_X5_ownersOf_51 N (fun z3 z4 c => f_X5_ownersOf_5 N r0 r1 a2 n z3 z4 c) r0 h0 r1 h1 a2 a3 a4 ih C h
      · have h := sat_t hc5 h
        refine ab_iloadn 3 dX5_ownersOf_26 rfl ?_
        refine ab_if_le (tgt := 51) dX5_ownersOf_27 (by decide) (fun hc6 => ?_) (fun hc6 => ?_)
        · have h := sat_t hc6 h
          exact t_X5_ownersOf_51 N (fun z3 z4 c => f_X5_ownersOf_5 N r0 r1 a2 n z3 z4 c) r0 h0 r1 h1 a2 a3 a4 ih C h
        · have h := sat_f hc6 h
          refine ab_aloadn 0 dX5_ownersOf_30 rfl ?_
          refine f_gr (x := 5) (k2 := 6) (i2 := r0) (j2 := 4) ⟨h0, by decide⟩ rfl rfl (Nat.le_of_ble_eq_true rfl) wd_317 rfl rfl dX5_ownersOf_31 ?_
          refine ab_iloadn 3 dX5_ownersOf_34 rfl ?_
          refine ab_iconst (v := 1) dX5_ownersOf_35 (by decide) ?_
          refine ab_isub dX5_ownersOf_36 ?_
          refine ab_aloadn 0 dX5_ownersOf_37 rfl ?_
          refine f_gr (x := 5) (k2 := 6) (i2 := r0) (j2 := 4) ⟨h0, by decide⟩ rfl rfl (Nat.le_of_ble_eq_true rfl) wd_317 rfl rfl dX5_ownersOf_38 ?_
          refine ab_iloadn 3 dX5_ownersOf_41 rfl ?_
          refine ab_iconst (v := 1) dX5_ownersOf_42 (by decide) ?_
          refine ab_isub dX5_ownersOf_43 ?_
          refine fC_iald ⟨h0, by decide⟩ rfl (by decide) (fun _ => rfl) h dX5_ownersOf_44 (fun v7 h => ?_)
          refine ab_iconst (v := (-1)) dX5_ownersOf_45 (by decide) ?_
          refine ab_ixor dX5_ownersOf_46 ?_
          refine fC_iast ⟨h0, by decide⟩ rfl (by decide) (fun _ => rfl) h dX5_ownersOf_47 (fun C8 h => ?_)
          refine ab_goto (tgt := 157) dX5_ownersOf_48 (by decide) ?_
          refine ab_iinc (q := 4) (v := (a4 + 1)) (lv' := [(0, .ref (gA G 6 r0 0)), (1, .ref (gA G 4 r1 0)), (2, .int a2), (3, .int a3), (4, .int (a4 + 1))]) dX5_ownersOf_157 rfl rfl rfl (Nat.le_of_ble_eq_true rfl) rfl ?_
          refine ab_goto (tgt := 5) dX5_ownersOf_160 (by decide) ?_
          exact ih a3 (a4 + 1) C8 h
set_option maxRecDepth 8000 in
theorem t_X5_ownersOf_0 {l : Launch} {G : GX} {X : XM} {Q : Int32 → Mem → Prop} (N : Nat) (r0 : Nat) (h0 : r0 < 4) (r1 : Nat) (h1 : r1 < 12) (a2 : Int32) (C : CM) (h : SAT (f_X5_ownersOf N r0 r1 a2 C) (fun v c => Q v (c, X))) : AB l G (rmD 4) 0 0 mt_X5_ownersOf (ZQ G mt_X5_ownersOf Q) 0 [(0, .ref (gA G 6 r0 0)), (1, .ref (gA G 4 r1 0)), (2, .int a2)] [] (C, X) := by
  unfold f_X5_ownersOf at h
  refine ab_iconst (v := 0) dX5_ownersOf_0 (by decide) ?_
  refine ab_istoren (lv' := [(0, .ref (gA G 6 r0 0)), (1, .ref (gA G 4 r1 0)), (2, .int a2), (3, .int 0)]) dX5_ownersOf_1 rfl (Nat.le_of_ble_eq_true rfl) rfl ?_
  refine ab_iconst (v := 0) dX5_ownersOf_2 (by decide) ?_
  refine ab_istore (lv' := [(0, .ref (gA G 6 r0 0)), (1, .ref (gA G 4 r1 0)), (2, .int a2), (3, .int 0), (4, .int 0)]) dX5_ownersOf_3 rfl (Nat.le_of_ble_eq_true rfl) rfl ?_
  exact t_X5_ownersOf_5 N r0 h0 r1 h1 a2 N 0 0 C h
theorem ct_X5_ownersOf {l : Launch} {G : GX} {X : XM} {Q : Int32 → Mem → Prop} (N : Nat) (r0 : Nat) (h0 : r0 < 4) (r1 : Nat) (h1 : r1 < 12) (a2 : Int32) (C : CM) (h : SAT (f_X5_ownersOf N r0 r1 a2 C) (fun v c => Q v (c, X))) : CT l G 4 mt_X5_ownersOf [.ref (gA G 6 r0 0), .ref (gA G 4 r1 0), .int a2] (C, X) Q := ct_of pn_X5 (Nat.le_of_ble_eq_true rfl) (t_X5_ownersOf_0 N r0 h0 r1 h1 a2 C h)
def f_X10_said_61 (N : Nat) (a1 : Int32) (a2 : Int32) : Nat → Int32 → Int32 → CM → Option (Int32 × CM)
  | 0, _, _, _ => none
  | n + 1, a3, a4, C => (if 8 ≤ a4 then (rt (-1) C) else (if ((a2 >>> (a4 &&& 31)) &&& 1) = 1 then (if a3 = a1 then (rt a4 C) else (f_X10_said_61 N a1 a2 n (a3 + 1) (a4 + 1) C)) else (f_X10_said_61 N a1 a2 n a3 (a4 + 1) C)))
def f_X10_said (N : Nat) (a1 : Int32) (C : CM) : Option (Int32 × CM) := ldR (C.2 2 0 4) 4 (fun y1 => (if (C.1 6 y1 0 0) = 0 then (rt (-1) C) else ldR (C.2 2 0 4) 4 (fun y4 => ldR (C.2 2 0 1) 4 (fun y6 => cal (f_X5_ownersOf N y4 0 (C.1 3 y6 6 0) C) (fun v8 C9 => (if a1 = (-1) then cal (f_J6_bitCount_0f7a4 v8 C9) (fun v11 C12 => (rt v11 C12)) else (f_X10_said_61 N a1 v8 N 0 0 C9)))))))
set_option maxRecDepth 8000 in
theorem t_X10_said_61 {l : Launch} {G : GX} {X : XM} {Q : Int32 → Mem → Prop} (N : Nat) (a1 : Int32) (a2 : Int32) : ∀ (n : Nat) (a3 : Int32) (a4 : Int32) (C : CM), SAT (f_X10_said_61 N a1 a2 n a3 a4 C) (fun v c => Q v (c, X)) → AB l G (rmD 5) 0 0 mt_X10_said (ZQ G mt_X10_said Q) 61 [(1, .int a1), (2, .int a2), (3, .int a3), (4, .int a4)] [] (C, X) := by
  intro n
  induction n with
  | zero => intro a3 a4 C h; exact h.elim
  | succ n ih =>
    intro a3 a4 C h
    rw [f_X10_said_61] at h
    refine ab_iload 3 dX10_said_61 rfl ?_
    refine ab_bipush (v := 8) dX10_said_63 (by decide) ?_
    refine ab_icmp_ge (tgt := 95) dX10_said_65 (by decide) (fun hc1 => ?_) (fun hc1 => ?_)
    · have h := sat_t hc1 h
      refine ab_iconst (v := (-1)) dX10_said_95 (by decide) ?_
      exact fC_iret h rfl rfl dX10_said_96
    · have h := sat_f hc1 h
      refine ab_iloadn 1 dX10_said_68 rfl ?_
      refine ab_iload 3 dX10_said_69 rfl ?_
      refine ab_ishr dX10_said_71 ?_
      refine ab_iconst (v := 1) dX10_said_72 (by decide) ?_
      refine ab_iand dX10_said_73 ?_
      refine ab_iconst (v := 1) dX10_said_74 (by decide) ?_
      refine ab_icmp_ne (tgt := 89) dX10_said_75 (by decide) (fun hc2 => ?_) (fun hc2 => ?_)
      · have h := sat_f hc2 h
        refine ab_iinc (q := 3) (v := (a4 + 1)) (lv' := [(1, .int a1), (2, .int a2), (3, .int a3), (4, .int (a4 + 1))]) dX10_said_89 rfl rfl rfl (Nat.le_of_ble_eq_true rfl) rfl ?_
        refine ab_goto (tgt := 61) dX10_said_92 (by decide) ?_
        exact ih a3 (a4 + 1) C h
      · have h := sat_t hc2 h
        refine ab_iloadn 2 dX10_said_78 rfl ?_
        refine ab_iloadn 0 dX10_said_79 rfl ?_
        refine ab_icmp_ne (tgt := 86) dX10_said_80 (by decide) (fun hc3 => ?_) (fun hc3 => ?_)
        · have h := sat_f hc3 h
          refine ab_iinc (q := 2) (v := (a3 + 1)) (lv' := [(1, .int a1), (2, .int a2), (3, .int (a3 + 1)), (4, .int a4)]) dX10_said_86 rfl rfl rfl (Nat.le_of_ble_eq_true rfl) rfl ?_
          refine ab_iinc (q := 3) (v := (a4 + 1)) (lv' := [(1, .int a1), (2, .int a2), (3, .int (a3 + 1)), (4, .int (a4 + 1))]) dX10_said_89 rfl rfl rfl (Nat.le_of_ble_eq_true rfl) rfl ?_
          refine ab_goto (tgt := 61) dX10_said_92 (by decide) ?_
          exact ih (a3 + 1) (a4 + 1) C h
        · have h := sat_t hc3 h
          refine ab_iload 3 dX10_said_83 rfl ?_
          exact fC_iret h rfl rfl dX10_said_85
set_option maxRecDepth 8000 in
theorem t_X10_said_0 {l : Launch} {G : GX} {X : XM} {Q : Int32 → Mem → Prop} (N : Nat) (a1 : Int32) (C : CM) (h : SAT (f_X10_said N a1 C) (fun v c => Q v (c, X))) : AB l G (rmD 5) 0 0 mt_X10_said (ZQ G mt_X10_said Q) 0 [(0, .ref (gA G 0 0 0)), (1, .int a1)] [] (C, X) := by
  unfold f_X10_said at h
  refine ab_aloadn 0 dX10_said_0 rfl ?_
  refine f_gr (x := 4) (k2 := 2) (i2 := 0) (j2 := 0) ⟨by decide, by decide⟩ rfl rfl (Nat.le_of_ble_eq_true rfl) wd_124 rfl rfl dX10_said_1 ?_
  refine fC_gd (x := 4) ⟨by decide, by decide⟩ rfl rfl (Nat.le_of_ble_eq_true rfl) wd_155 rfl h rfl dX10_said_4 (fun y1 hy2 h => ?_)
  refine fC_gi (x := 0) ⟨hy2, by decide⟩ rfl rfl (Nat.le_of_ble_eq_true rfl) wd_156 (by decide) rfl dX10_said_7 ?_
  refine ab_if_ne (tgt := 15) dX10_said_10 (by decide) (fun hc3 => ?_) (fun hc3 => ?_)
  · have h := sat_f hc3 h
    refine ab_aloadn 0 dX10_said_15 rfl ?_
    refine f_gr (x := 4) (k2 := 2) (i2 := 0) (j2 := 0) ⟨by decide, by decide⟩ rfl rfl (Nat.le_of_ble_eq_true rfl) wd_124 rfl rfl dX10_said_16 ?_
    refine fC_gd (x := 4) ⟨by decide, by decide⟩ rfl rfl (Nat.le_of_ble_eq_true rfl) wd_155 rfl h rfl dX10_said_19 (fun y4 hy5 h => ?_)
    refine ab_aloadn 0 dX10_said_22 rfl ?_
    refine f_gr (x := 4) (k2 := 2) (i2 := 0) (j2 := 0) ⟨by decide, by decide⟩ rfl rfl (Nat.le_of_ble_eq_true rfl) wd_124 rfl rfl dX10_said_23 ?_
    refine f_gr (x := 2) (k2 := 4) (i2 := 0) (j2 := 0) ⟨by decide, by decide⟩ rfl rfl (Nat.le_of_ble_eq_true rfl) wd_126 rfl rfl dX10_said_26 ?_
    refine ab_aloadn 0 dX10_said_29 rfl ?_
    refine f_gr (x := 4) (k2 := 2) (i2 := 0) (j2 := 0) ⟨by decide, by decide⟩ rfl rfl (Nat.le_of_ble_eq_true rfl) wd_124 rfl rfl dX10_said_30 ?_
    refine fC_gd (x := 1) ⟨by decide, by decide⟩ rfl rfl (Nat.le_of_ble_eq_true rfl) wd_125 rfl h rfl dX10_said_33 (fun y6 hy7 h => ?_)
    refine f_gr (x := 10) (k2 := 3) (i2 := y6) (j2 := 6) ⟨hy7, by decide⟩ rfl rfl (Nat.le_of_ble_eq_true rfl) wd_202 rfl rfl dX10_said_36 ?_
    refine fC_gi (x := 0) ⟨hy7, by decide⟩ rfl rfl (Nat.le_of_ble_eq_true rfl) wd_203 (by decide) rfl dX10_said_39 ?_
    refine fC_Vi (mtc := mt_X5_ownersOf) (As := [.ref (gA G 4 0 0), .int (C.1 3 y6 6 0)]) h (fun Q h => ct_X5_ownersOf N y4 hy5 0 (by decide) (C.1 3 y6 6 0) C h) ⟨hy5, by decide⟩ rfl rfl rfl mw_X5_ownersOf wd_326 rfl rfl ⟨Nat.le_of_ble_eq_true rfl, Nat.le_of_ble_eq_true rfl⟩ ⟨Nat.zero_le _, Nat.zero_le _⟩ (Nat.le_of_ble_eq_true rfl) rfl dX10_said_42 (fun v8 C9 h => ?_)
    refine ab_istoren (lv' := [(0, .ref (gA G 0 0 0)), (1, .int a1), (2, .int v8)]) dX10_said_45 rfl (Nat.le_of_ble_eq_true rfl) rfl ?_
    refine ab_iloadn 1 dX10_said_46 rfl ?_
    refine ab_iconst (v := (-1)) dX10_said_47 (by decide) ?_
    refine ab_icmp_ne (tgt := 56) dX10_said_48 (by decide) (fun hc10 => ?_) (fun hc10 => ?_)
    · have h := sat_f hc10 h
      refine ab_iconst (v := 0) dX10_said_56 (by decide) ?_
      refine ab_istoren (lv' := [(0, .ref (gA G 0 0 0)), (1, .int a1), (2, .int v8), (3, .int 0)]) dX10_said_57 rfl (Nat.le_of_ble_eq_true rfl) rfl ?_
      refine ab_iconst (v := 0) dX10_said_58 (by decide) ?_
      refine ab_istore (lv' := [(0, .ref (gA G 0 0 0)), (1, .int a1), (2, .int v8), (3, .int 0), (4, .int 0)]) dX10_said_59 rfl (Nat.le_of_ble_eq_true rfl) rfl ?_
      refine ab_sub [1, 2, 3, 4] rfl ?_
      exact t_X10_said_61 N a1 v8 N 0 0 C9 h
    · have h := sat_t hc10 h
      refine ab_iloadn 2 dX10_said_51 rfl ?_
      refine fC_Si (mtc := mt_J6_bitCount_0f7a4) (As := [.int v8]) h (fun Q h => ct_J6_bitCount_0f7a4 v8 C9 h) mw_J6_bitCount_0f7a4 wd_196 wd_197 rfl rfl ⟨Nat.le_of_ble_eq_true rfl, Nat.le_of_ble_eq_true rfl⟩ ⟨Nat.zero_le _, Nat.zero_le _⟩ (Nat.le_of_ble_eq_true rfl) rfl dX10_said_52 (fun v11 C12 h => ?_)
      exact fC_iret h rfl rfl dX10_said_55
  · have h := sat_t hc3 h
    refine ab_iconst (v := (-1)) dX10_said_13 (by decide) ?_
    exact fC_iret h rfl rfl dX10_said_14
theorem ct_X10_said {l : Launch} {G : GX} {X : XM} {Q : Int32 → Mem → Prop} (N : Nat) (a1 : Int32) (C : CM) (h : SAT (f_X10_said N a1 C) (fun v c => Q v (c, X))) : CT l G 5 mt_X10_said [.ref (gA G 0 0 0), .int a1] (C, X) Q := ct_of pn_X10 (Nat.le_of_ble_eq_true rfl) (t_X10_said_0 N a1 C h)
def f_X1_copy (r0 : Nat) (r1 : Nat) (C : CM) : Option (Int32 × CM) := bnd (stC C 3 r0 6 0 (C.1 3 r1 6 0)) (fun C1 => bnd (stC C1 3 r0 6 1 (C1.1 3 r1 6 1)) (fun C2 => bnd (rwC C2 3 r0 7 (C2.1 3 r1 7)) (fun C3 => bnd (rwC C3 3 r0 8 (C3.1 3 r1 8)) (fun C4 => bnd (rwC C4 3 r0 9 (C4.1 3 r1 9)) (fun C5 => bnd (rwC C5 3 r0 10 (C5.1 3 r1 10)) (fun C6 => bnd (rwC C6 3 r0 11 (C6.1 3 r1 11)) (fun C7 => bnd (rwC C7 3 r0 12 (C7.1 3 r1 12)) (fun C8 => bnd (rwC C8 3 r0 13 (C8.1 3 r1 13)) (fun C9 => bnd (rwC C9 3 r0 14 (C9.1 3 r1 14)) (fun C10 => bnd (rwC C10 3 r0 15 (C10.1 3 r1 15)) (fun C11 => (rt 0 C11))))))))))))
set_option maxRecDepth 8000 in
theorem t_X1_copy_0 {l : Launch} {G : GX} {X : XM} {Q : Int32 → Mem → Prop} (r0 : Nat) (h0 : r0 < 4) (r1 : Nat) (h1 : r1 < 4) (C : CM) (h : SAT (f_X1_copy r0 r1 C) (fun v c => Q v (c, X))) : AB l G (rmD 1) 0 0 mt_X1_copy (ZQ G mt_X1_copy Q) 0 [(0, .ref (gA G 3 r0 6)), (1, .ref (gA G 3 r1 6))] [] (C, X) := by
  unfold f_X1_copy at h
  refine ab_aloadn 0 dX1_copy_0 rfl ?_
  refine ab_aloadn 1 dX1_copy_1 rfl ?_
  refine fC_gi (x := 0) ⟨h1, by decide⟩ rfl rfl (Nat.le_of_ble_eq_true rfl) wd_63 (by decide) rfl dX1_copy_2 ?_
  refine fC_pi (x := 0) (ty := .int) ⟨h0, by decide⟩ rfl rfl (Nat.le_of_ble_eq_true rfl) wd_63 (by decide) rfl h rfl (by decide +kernel) rfl rfl dX1_copy_5 (fun C1 h => ?_)
  refine ab_aloadn 0 dX1_copy_8 rfl ?_
  refine ab_aloadn 1 dX1_copy_9 rfl ?_
  refine fC_gi (x := 1) ⟨h1, by decide⟩ rfl rfl (Nat.le_of_ble_eq_true rfl) wd_64 (by decide) rfl dX1_copy_10 ?_
  refine fC_pi (x := 1) (ty := .int) ⟨h0, by decide⟩ rfl rfl (Nat.le_of_ble_eq_true rfl) wd_64 (by decide) rfl h rfl (by decide +kernel) rfl rfl dX1_copy_13 (fun C2 h => ?_)
  refine ab_aloadn 1 dX1_copy_16 rfl ?_
  refine f_gr (x := 2) (k2 := 3) (i2 := r1) (j2 := 7) ⟨h1, by decide⟩ rfl rfl (Nat.le_of_ble_eq_true rfl) wd_84 rfl rfl dX1_copy_17 ?_
  refine ab_iconst (v := 0) dX1_copy_20 (by decide) ?_
  refine ab_aloadn 0 dX1_copy_21 rfl ?_
  refine f_gr (x := 2) (k2 := 3) (i2 := r0) (j2 := 7) ⟨h0, by decide⟩ rfl rfl (Nat.le_of_ble_eq_true rfl) wd_84 rfl rfl dX1_copy_22 ?_
  refine ab_iconst (v := 0) dX1_copy_25 (by decide) ?_
  refine ab_bipush (v := 8) dX1_copy_26 (by decide) ?_
  refine fC_copy (n := 8) h ⟨h1, by decide⟩ ⟨h0, by decide⟩ rfl rfl (by decide) (by decide) (fun _ => rfl) (fun _ => rfl) (by decide) (by decide) wd_329 wd_138 wd_139 wd_140 ⟨Nat.le_of_ble_eq_true rfl, Nat.le_of_ble_eq_true rfl⟩ dX1_copy_28 (fun C3 h => ?_)
  refine ab_aloadn 1 dX1_copy_31 rfl ?_
  refine f_gr (x := 3) (k2 := 3) (i2 := r1) (j2 := 8) ⟨h1, by decide⟩ rfl rfl (Nat.le_of_ble_eq_true rfl) wd_330 rfl rfl dX1_copy_32 ?_
  refine ab_iconst (v := 0) dX1_copy_35 (by decide) ?_
  refine ab_aloadn 0 dX1_copy_36 rfl ?_
  refine f_gr (x := 3) (k2 := 3) (i2 := r0) (j2 := 8) ⟨h0, by decide⟩ rfl rfl (Nat.le_of_ble_eq_true rfl) wd_330 rfl rfl dX1_copy_37 ?_
  refine ab_iconst (v := 0) dX1_copy_40 (by decide) ?_
  refine ab_bipush (v := 8) dX1_copy_41 (by decide) ?_
  refine fC_copy (n := 8) h ⟨h1, by decide⟩ ⟨h0, by decide⟩ rfl rfl (by decide) (by decide) (fun _ => rfl) (fun _ => rfl) (by decide) (by decide) wd_329 wd_138 wd_139 wd_140 ⟨Nat.le_of_ble_eq_true rfl, Nat.le_of_ble_eq_true rfl⟩ dX1_copy_43 (fun C4 h => ?_)
  refine ab_aloadn 1 dX1_copy_46 rfl ?_
  refine f_gr (x := 4) (k2 := 3) (i2 := r1) (j2 := 9) ⟨h1, by decide⟩ rfl rfl (Nat.le_of_ble_eq_true rfl) wd_65 rfl rfl dX1_copy_47 ?_
  refine ab_iconst (v := 0) dX1_copy_50 (by decide) ?_
  refine ab_aloadn 0 dX1_copy_51 rfl ?_
  refine f_gr (x := 4) (k2 := 3) (i2 := r0) (j2 := 9) ⟨h0, by decide⟩ rfl rfl (Nat.le_of_ble_eq_true rfl) wd_65 rfl rfl dX1_copy_52 ?_
  refine ab_iconst (v := 0) dX1_copy_55 (by decide) ?_
  refine ab_bipush (v := 8) dX1_copy_56 (by decide) ?_
  refine fC_copy (n := 8) h ⟨h1, by decide⟩ ⟨h0, by decide⟩ rfl rfl (by decide) (by decide) (fun _ => rfl) (fun _ => rfl) (by decide) (by decide) wd_329 wd_138 wd_139 wd_140 ⟨Nat.le_of_ble_eq_true rfl, Nat.le_of_ble_eq_true rfl⟩ dX1_copy_58 (fun C5 h => ?_)
  refine ab_aloadn 1 dX1_copy_61 rfl ?_
  refine f_gr (x := 5) (k2 := 3) (i2 := r1) (j2 := 10) ⟨h1, by decide⟩ rfl rfl (Nat.le_of_ble_eq_true rfl) wd_119 rfl rfl dX1_copy_62 ?_
  refine ab_iconst (v := 0) dX1_copy_65 (by decide) ?_
  refine ab_aloadn 0 dX1_copy_66 rfl ?_
  refine f_gr (x := 5) (k2 := 3) (i2 := r0) (j2 := 10) ⟨h0, by decide⟩ rfl rfl (Nat.le_of_ble_eq_true rfl) wd_119 rfl rfl dX1_copy_67 ?_
  refine ab_iconst (v := 0) dX1_copy_70 (by decide) ?_
  refine ab_bipush (v := 8) dX1_copy_71 (by decide) ?_
  refine fC_copy (n := 8) h ⟨h1, by decide⟩ ⟨h0, by decide⟩ rfl rfl (by decide) (by decide) (fun _ => rfl) (fun _ => rfl) (by decide) (by decide) wd_329 wd_138 wd_139 wd_140 ⟨Nat.le_of_ble_eq_true rfl, Nat.le_of_ble_eq_true rfl⟩ dX1_copy_73 (fun C6 h => ?_)
  refine ab_aloadn 1 dX1_copy_76 rfl ?_
  refine f_gr (x := 6) (k2 := 3) (i2 := r1) (j2 := 11) ⟨h1, by decide⟩ rfl rfl (Nat.le_of_ble_eq_true rfl) wd_66 rfl rfl dX1_copy_77 ?_
  refine ab_iconst (v := 0) dX1_copy_80 (by decide) ?_
  refine ab_aloadn 0 dX1_copy_81 rfl ?_
  refine f_gr (x := 6) (k2 := 3) (i2 := r0) (j2 := 11) ⟨h0, by decide⟩ rfl rfl (Nat.le_of_ble_eq_true rfl) wd_66 rfl rfl dX1_copy_82 ?_
  refine ab_iconst (v := 0) dX1_copy_85 (by decide) ?_
  refine ab_bipush (v := 8) dX1_copy_86 (by decide) ?_
  refine fC_copy (n := 8) h ⟨h1, by decide⟩ ⟨h0, by decide⟩ rfl rfl (by decide) (by decide) (fun _ => rfl) (fun _ => rfl) (by decide) (by decide) wd_329 wd_138 wd_139 wd_140 ⟨Nat.le_of_ble_eq_true rfl, Nat.le_of_ble_eq_true rfl⟩ dX1_copy_88 (fun C7 h => ?_)
  refine ab_aloadn 1 dX1_copy_91 rfl ?_
  refine f_gr (x := 7) (k2 := 3) (i2 := r1) (j2 := 12) ⟨h1, by decide⟩ rfl rfl (Nat.le_of_ble_eq_true rfl) wd_67 rfl rfl dX1_copy_92 ?_
  refine ab_iconst (v := 0) dX1_copy_95 (by decide) ?_
  refine ab_aloadn 0 dX1_copy_96 rfl ?_
  refine f_gr (x := 7) (k2 := 3) (i2 := r0) (j2 := 12) ⟨h0, by decide⟩ rfl rfl (Nat.le_of_ble_eq_true rfl) wd_67 rfl rfl dX1_copy_97 ?_
  refine ab_iconst (v := 0) dX1_copy_100 (by decide) ?_
  refine ab_bipush (v := 8) dX1_copy_101 (by decide) ?_
  refine fC_copy (n := 8) h ⟨h1, by decide⟩ ⟨h0, by decide⟩ rfl rfl (by decide) (by decide) (fun _ => rfl) (fun _ => rfl) (by decide) (by decide) wd_329 wd_138 wd_139 wd_140 ⟨Nat.le_of_ble_eq_true rfl, Nat.le_of_ble_eq_true rfl⟩ dX1_copy_103 (fun C8 h => ?_)
  refine ab_aloadn 1 dX1_copy_106 rfl ?_
  refine f_gr (x := 8) (k2 := 3) (i2 := r1) (j2 := 13) ⟨h1, by decide⟩ rfl rfl (Nat.le_of_ble_eq_true rfl) wd_68 rfl rfl dX1_copy_107 ?_
  refine ab_iconst (v := 0) dX1_copy_110 (by decide) ?_
  refine ab_aloadn 0 dX1_copy_111 rfl ?_
  refine f_gr (x := 8) (k2 := 3) (i2 := r0) (j2 := 13) ⟨h0, by decide⟩ rfl rfl (Nat.le_of_ble_eq_true rfl) wd_68 rfl rfl dX1_copy_112 ?_
  refine ab_iconst (v := 0) dX1_copy_115 (by decide) ?_
  refine ab_bipush (v := 8) dX1_copy_116 (by decide) ?_
  refine fC_copy (n := 8) h ⟨h1, by decide⟩ ⟨h0, by decide⟩ rfl rfl (by decide) (by decide) (fun _ => rfl) (fun _ => rfl) (by decide) (by decide) wd_329 wd_138 wd_139 wd_140 ⟨Nat.le_of_ble_eq_true rfl, Nat.le_of_ble_eq_true rfl⟩ dX1_copy_118 (fun C9 h => ?_)
  refine ab_aloadn 1 dX1_copy_121 rfl ?_
  refine f_gr (x := 9) (k2 := 3) (i2 := r1) (j2 := 14) ⟨h1, by decide⟩ rfl rfl (Nat.le_of_ble_eq_true rfl) wd_69 rfl rfl dX1_copy_122 ?_
  refine ab_iconst (v := 0) dX1_copy_125 (by decide) ?_
  refine ab_aloadn 0 dX1_copy_126 rfl ?_
  refine f_gr (x := 9) (k2 := 3) (i2 := r0) (j2 := 14) ⟨h0, by decide⟩ rfl rfl (Nat.le_of_ble_eq_true rfl) wd_69 rfl rfl dX1_copy_127 ?_
  refine ab_iconst (v := 0) dX1_copy_130 (by decide) ?_
  refine ab_bipush (v := 8) dX1_copy_131 (by decide) ?_
  refine fC_copy (n := 8) h ⟨h1, by decide⟩ ⟨h0, by decide⟩ rfl rfl (by decide) (by decide) (fun _ => rfl) (fun _ => rfl) (by decide) (by decide) wd_329 wd_138 wd_139 wd_140 ⟨Nat.le_of_ble_eq_true rfl, Nat.le_of_ble_eq_true rfl⟩ dX1_copy_133 (fun C10 h => ?_)
  refine ab_aloadn 1 dX1_copy_136 rfl ?_
  refine f_gr (x := 10) (k2 := 3) (i2 := r1) (j2 := 15) ⟨h1, by decide⟩ rfl rfl (Nat.le_of_ble_eq_true rfl) wd_118 rfl rfl dX1_copy_137 ?_
  refine ab_iconst (v := 0) dX1_copy_140 (by decide) ?_
  refine ab_aloadn 0 dX1_copy_141 rfl ?_
  refine f_gr (x := 10) (k2 := 3) (i2 := r0) (j2 := 15) ⟨h0, by decide⟩ rfl rfl (Nat.le_of_ble_eq_true rfl) wd_118 rfl rfl dX1_copy_142 ?_
  refine ab_iconst (v := 0) dX1_copy_145 (by decide) ?_
  refine ab_bipush (v := 8) dX1_copy_146 (by decide) ?_
  refine fC_copy (n := 8) h ⟨h1, by decide⟩ ⟨h0, by decide⟩ rfl rfl (by decide) (by decide) (fun _ => rfl) (fun _ => rfl) (by decide) (by decide) wd_329 wd_138 wd_139 wd_140 ⟨Nat.le_of_ble_eq_true rfl, Nat.le_of_ble_eq_true rfl⟩ dX1_copy_148 (fun C11 h => ?_)
  exact fC_vret h rfl dX1_copy_151
theorem ct_X1_copy {l : Launch} {G : GX} {X : XM} {Q : Int32 → Mem → Prop} (r0 : Nat) (h0 : r0 < 4) (r1 : Nat) (h1 : r1 < 4) (C : CM) (h : SAT (f_X1_copy r0 r1 C) (fun v c => Q v (c, X))) : CT l G 1 mt_X1_copy [.ref (gA G 3 r0 6), .ref (gA G 3 r1 6)] (C, X) Q := ct_of pn_X1 (Nat.le_of_ble_eq_true rfl) (t_X1_copy_0 r0 h0 r1 h1 C h)
def f_X0_copy (r0 : Nat) (r1 : Nat) (C : CM) : Option (Int32 × CM) := bnd (stC C 3 r0 0 0 (C.1 3 r1 0 0)) (fun C1 => bnd (stC C1 3 r0 0 1 (C1.1 3 r1 0 1)) (fun C2 => bnd (stC C2 3 r0 0 2 (C2.1 3 r1 0 2)) (fun C3 => bnd (stC C3 3 r0 0 3 (C3.1 3 r1 0 3)) (fun C4 => bnd (stC C4 3 r0 0 4 (C4.1 3 r1 0 4)) (fun C5 => bnd (stC C5 3 r0 0 5 (C5.1 3 r1 0 5)) (fun C6 => bnd (stC C6 3 r0 0 6 (C6.1 3 r1 0 6)) (fun C7 => chk (isB (C7.1 3 r1 0 7)) (bnd (stC C7 3 r0 0 7 (C7.1 3 r1 0 7)) (fun C8 => bnd (stC C8 3 r0 0 8 (C8.1 3 r1 0 8)) (fun C9 => bnd (stC C9 3 r0 0 9 (C9.1 3 r1 0 9)) (fun C10 => cal (f_X1_copy r0 r1 C10) (fun v11 C12 => bnd (rwC C12 3 r0 1 (C12.1 3 r1 1)) (fun C13 => bnd (rwC C13 3 r0 2 (C13.1 3 r1 2)) (fun C14 => bnd (rwC C14 3 r0 3 (C14.1 3 r1 3)) (fun C15 => bnd (rwC C15 3 r0 4 (C15.1 3 r1 4)) (fun C16 => bnd (rwC C16 3 r0 5 (C16.1 3 r1 5)) (fun C17 => (rt 0 C17))))))))))))))))))
set_option maxRecDepth 8000 in
theorem t_X0_copy_0 {l : Launch} {G : GX} {X : XM} {Q : Int32 → Mem → Prop} (r0 : Nat) (h0 : r0 < 4) (r1 : Nat) (h1 : r1 < 4) (C : CM) (h : SAT (f_X0_copy r0 r1 C) (fun v c => Q v (c, X))) : AB l G (rmD 2) 0 0 mt_X0_copy (ZQ G mt_X0_copy Q) 0 [(0, .ref (gA G 3 r0 0)), (1, .ref (gA G 3 r1 0))] [] (C, X) := by
  unfold f_X0_copy at h
  refine ab_aloadn 0 dX0_copy_0 rfl ?_
  refine ab_aloadn 1 dX0_copy_1 rfl ?_
  refine fC_gi (x := 0) ⟨h1, by decide⟩ rfl rfl (Nat.le_of_ble_eq_true rfl) wd_52 (by decide) rfl dX0_copy_2 ?_
  refine fC_pi (x := 0) (ty := .int) ⟨h0, by decide⟩ rfl rfl (Nat.le_of_ble_eq_true rfl) wd_52 (by decide) rfl h rfl (by decide +kernel) rfl rfl dX0_copy_5 (fun C1 h => ?_)
  refine ab_aloadn 0 dX0_copy_8 rfl ?_
  refine ab_aloadn 1 dX0_copy_9 rfl ?_
  refine fC_gi (x := 1) ⟨h1, by decide⟩ rfl rfl (Nat.le_of_ble_eq_true rfl) wd_53 (by decide) rfl dX0_copy_10 ?_
  refine fC_pi (x := 1) (ty := .int) ⟨h0, by decide⟩ rfl rfl (Nat.le_of_ble_eq_true rfl) wd_53 (by decide) rfl h rfl (by decide +kernel) rfl rfl dX0_copy_13 (fun C2 h => ?_)
  refine ab_aloadn 0 dX0_copy_16 rfl ?_
  refine ab_aloadn 1 dX0_copy_17 rfl ?_
  refine fC_gi (x := 2) ⟨h1, by decide⟩ rfl rfl (Nat.le_of_ble_eq_true rfl) wd_54 (by decide) rfl dX0_copy_18 ?_
  refine fC_pi (x := 2) (ty := .int) ⟨h0, by decide⟩ rfl rfl (Nat.le_of_ble_eq_true rfl) wd_54 (by decide) rfl h rfl (by decide +kernel) rfl rfl dX0_copy_21 (fun C3 h => ?_)
  refine ab_aloadn 0 dX0_copy_24 rfl ?_
  refine ab_aloadn 1 dX0_copy_25 rfl ?_
  refine fC_gi (x := 3) ⟨h1, by decide⟩ rfl rfl (Nat.le_of_ble_eq_true rfl) wd_55 (by decide) rfl dX0_copy_26 ?_
  refine fC_pi (x := 3) (ty := .int) ⟨h0, by decide⟩ rfl rfl (Nat.le_of_ble_eq_true rfl) wd_55 (by decide) rfl h rfl (by decide +kernel) rfl rfl dX0_copy_29 (fun C4 h => ?_)
  refine ab_aloadn 0 dX0_copy_32 rfl ?_
  refine ab_aloadn 1 dX0_copy_33 rfl ?_
  refine fC_gi (x := 4) ⟨h1, by decide⟩ rfl rfl (Nat.le_of_ble_eq_true rfl) wd_56 (by decide) rfl dX0_copy_34 ?_
  refine fC_pi (x := 4) (ty := .int) ⟨h0, by decide⟩ rfl rfl (Nat.le_of_ble_eq_true rfl) wd_56 (by decide) rfl h rfl (by decide +kernel) rfl rfl dX0_copy_37 (fun C5 h => ?_)
  refine ab_aloadn 0 dX0_copy_40 rfl ?_
  refine ab_aloadn 1 dX0_copy_41 rfl ?_
  refine fC_gi (x := 5) ⟨h1, by decide⟩ rfl rfl (Nat.le_of_ble_eq_true rfl) wd_57 (by decide) rfl dX0_copy_42 ?_
  refine fC_pi (x := 5) (ty := .int) ⟨h0, by decide⟩ rfl rfl (Nat.le_of_ble_eq_true rfl) wd_57 (by decide) rfl h rfl (by decide +kernel) rfl rfl dX0_copy_45 (fun C6 h => ?_)
  refine ab_aloadn 0 dX0_copy_48 rfl ?_
  refine ab_aloadn 1 dX0_copy_49 rfl ?_
  refine fC_gi (x := 6) ⟨h1, by decide⟩ rfl rfl (Nat.le_of_ble_eq_true rfl) wd_58 (by decide) rfl dX0_copy_50 ?_
  refine fC_pi (x := 6) (ty := .int) ⟨h0, by decide⟩ rfl rfl (Nat.le_of_ble_eq_true rfl) wd_58 (by decide) rfl h rfl (by decide +kernel) rfl rfl dX0_copy_53 (fun C7 h => ?_)
  refine ab_aloadn 0 dX0_copy_56 rfl ?_
  refine ab_aloadn 1 dX0_copy_57 rfl ?_
  refine fC_gi (x := 7) ⟨h1, by decide⟩ rfl rfl (Nat.le_of_ble_eq_true rfl) wd_59 (by decide) rfl dX0_copy_58 ?_
  obtain ⟨hz, h⟩ := sat_chk h
  refine fC_pi (x := 7) (ty := .boolean) ⟨h0, by decide⟩ rfl rfl (Nat.le_of_ble_eq_true rfl) wd_59 (by decide) rfl h rfl (by decide +kernel) (isB_n hz) (isB_f hz) dX0_copy_61 (fun C8 h => ?_)
  refine ab_aloadn 0 dX0_copy_64 rfl ?_
  refine ab_aloadn 1 dX0_copy_65 rfl ?_
  refine fC_gi (x := 8) ⟨h1, by decide⟩ rfl rfl (Nat.le_of_ble_eq_true rfl) wd_60 (by decide) rfl dX0_copy_66 ?_
  refine fC_pi (x := 8) (ty := .int) ⟨h0, by decide⟩ rfl rfl (Nat.le_of_ble_eq_true rfl) wd_60 (by decide) rfl h rfl (by decide +kernel) rfl rfl dX0_copy_69 (fun C9 h => ?_)
  refine ab_aloadn 0 dX0_copy_72 rfl ?_
  refine ab_aloadn 1 dX0_copy_73 rfl ?_
  refine fC_gi (x := 9) ⟨h1, by decide⟩ rfl rfl (Nat.le_of_ble_eq_true rfl) wd_61 (by decide) rfl dX0_copy_74 ?_
  refine fC_pi (x := 9) (ty := .int) ⟨h0, by decide⟩ rfl rfl (Nat.le_of_ble_eq_true rfl) wd_61 (by decide) rfl h rfl (by decide +kernel) rfl rfl dX0_copy_77 (fun C10 h => ?_)
  refine ab_aloadn 0 dX0_copy_80 rfl ?_
  refine f_gr (x := 10) (k2 := 3) (i2 := r0) (j2 := 6) ⟨h0, by decide⟩ rfl rfl (Nat.le_of_ble_eq_true rfl) wd_62 rfl rfl dX0_copy_81 ?_
  refine ab_aloadn 1 dX0_copy_84 rfl ?_
  refine f_gr (x := 10) (k2 := 3) (i2 := r1) (j2 := 6) ⟨h1, by decide⟩ rfl rfl (Nat.le_of_ble_eq_true rfl) wd_62 rfl rfl dX0_copy_85 ?_
  refine fC_Vv (mtc := mt_X1_copy) (As := [.ref (gA G 3 r1 6)]) h (fun Q h => ct_X1_copy r0 h0 r1 h1 C10 h) ⟨h0, by decide⟩ rfl rfl rfl mw_X1_copy wd_331 rfl rfl ⟨Nat.le_of_ble_eq_true rfl, Nat.le_of_ble_eq_true rfl⟩ ⟨Nat.zero_le _, Nat.zero_le _⟩ (Nat.le_of_ble_eq_true rfl) rfl dX0_copy_88 (fun v11 C12 h => ?_)
  refine ab_aloadn 1 dX0_copy_91 rfl ?_
  refine f_gr (x := 11) (k2 := 3) (i2 := r1) (j2 := 1) ⟨h1, by decide⟩ rfl rfl (Nat.le_of_ble_eq_true rfl) wd_71 rfl rfl dX0_copy_92 ?_
  refine ab_iconst (v := 0) dX0_copy_95 (by decide) ?_
  refine ab_aloadn 0 dX0_copy_96 rfl ?_
  refine f_gr (x := 11) (k2 := 3) (i2 := r0) (j2 := 1) ⟨h0, by decide⟩ rfl rfl (Nat.le_of_ble_eq_true rfl) wd_71 rfl rfl dX0_copy_97 ?_
  refine ab_iconst (v := 0) dX0_copy_100 (by decide) ?_
  refine ab_bipush (v := 100) dX0_copy_101 (by decide) ?_
  refine fC_copy (n := 100) h ⟨h1, by decide⟩ ⟨h0, by decide⟩ rfl rfl (by decide) (by decide) (fun _ => rfl) (fun _ => rfl) (by decide) (by decide) wd_332 wd_138 wd_139 wd_140 ⟨Nat.le_of_ble_eq_true rfl, Nat.le_of_ble_eq_true rfl⟩ dX0_copy_103 (fun C13 h => ?_)
  refine ab_aloadn 1 dX0_copy_106 rfl ?_
  refine f_gr (x := 12) (k2 := 3) (i2 := r1) (j2 := 2) ⟨h1, by decide⟩ rfl rfl (Nat.le_of_ble_eq_true rfl) wd_72 rfl rfl dX0_copy_107 ?_
  refine ab_iconst (v := 0) dX0_copy_110 (by decide) ?_
  refine ab_aloadn 0 dX0_copy_111 rfl ?_
  refine f_gr (x := 12) (k2 := 3) (i2 := r0) (j2 := 2) ⟨h0, by decide⟩ rfl rfl (Nat.le_of_ble_eq_true rfl) wd_72 rfl rfl dX0_copy_112 ?_
  refine ab_iconst (v := 0) dX0_copy_115 (by decide) ?_
  refine ab_bipush (v := 100) dX0_copy_116 (by decide) ?_
  refine fC_copy (n := 100) h ⟨h1, by decide⟩ ⟨h0, by decide⟩ rfl rfl (by decide) (by decide) (fun _ => rfl) (fun _ => rfl) (by decide) (by decide) wd_332 wd_138 wd_139 wd_140 ⟨Nat.le_of_ble_eq_true rfl, Nat.le_of_ble_eq_true rfl⟩ dX0_copy_118 (fun C14 h => ?_)
  refine ab_aloadn 1 dX0_copy_121 rfl ?_
  refine f_gr (x := 13) (k2 := 3) (i2 := r1) (j2 := 3) ⟨h1, by decide⟩ rfl rfl (Nat.le_of_ble_eq_true rfl) wd_104 rfl rfl dX0_copy_122 ?_
  refine ab_iconst (v := 0) dX0_copy_125 (by decide) ?_
  refine ab_aloadn 0 dX0_copy_126 rfl ?_
  refine f_gr (x := 13) (k2 := 3) (i2 := r0) (j2 := 3) ⟨h0, by decide⟩ rfl rfl (Nat.le_of_ble_eq_true rfl) wd_104 rfl rfl dX0_copy_127 ?_
  refine ab_iconst (v := 0) dX0_copy_130 (by decide) ?_
  refine ab_bipush (v := 12) dX0_copy_131 (by decide) ?_
  refine fC_copy (n := 12) h ⟨h1, by decide⟩ ⟨h0, by decide⟩ rfl rfl (by decide) (by decide) (fun _ => rfl) (fun _ => rfl) (by decide) (by decide) wd_332 wd_138 wd_139 wd_140 ⟨Nat.le_of_ble_eq_true rfl, Nat.le_of_ble_eq_true rfl⟩ dX0_copy_133 (fun C15 h => ?_)
  refine ab_aloadn 1 dX0_copy_136 rfl ?_
  refine f_gr (x := 14) (k2 := 3) (i2 := r1) (j2 := 4) ⟨h1, by decide⟩ rfl rfl (Nat.le_of_ble_eq_true rfl) wd_108 rfl rfl dX0_copy_137 ?_
  refine ab_iconst (v := 0) dX0_copy_140 (by decide) ?_
  refine ab_aloadn 0 dX0_copy_141 rfl ?_
  refine f_gr (x := 14) (k2 := 3) (i2 := r0) (j2 := 4) ⟨h0, by decide⟩ rfl rfl (Nat.le_of_ble_eq_true rfl) wd_108 rfl rfl dX0_copy_142 ?_
  refine ab_iconst (v := 0) dX0_copy_145 (by decide) ?_
  refine ab_bipush (v := 48) dX0_copy_146 (by decide) ?_
  refine fC_copy (n := 48) h ⟨h1, by decide⟩ ⟨h0, by decide⟩ rfl rfl (by decide) (by decide) (fun _ => rfl) (fun _ => rfl) (by decide) (by decide) wd_332 wd_138 wd_139 wd_140 ⟨Nat.le_of_ble_eq_true rfl, Nat.le_of_ble_eq_true rfl⟩ dX0_copy_148 (fun C16 h => ?_)
  refine ab_aloadn 1 dX0_copy_151 rfl ?_
  refine f_gr (x := 15) (k2 := 3) (i2 := r1) (j2 := 5) ⟨h1, by decide⟩ rfl rfl (Nat.le_of_ble_eq_true rfl) wd_73 rfl rfl dX0_copy_152 ?_
  refine ab_iconst (v := 0) dX0_copy_155 (by decide) ?_
  refine ab_aloadn 0 dX0_copy_156 rfl ?_
  refine f_gr (x := 15) (k2 := 3) (i2 := r0) (j2 := 5) ⟨h0, by decide⟩ rfl rfl (Nat.le_of_ble_eq_true rfl) wd_73 rfl rfl dX0_copy_157 ?_
  refine ab_iconst (v := 0) dX0_copy_160 (by decide) ?_
  refine ab_bipush (v := 48) dX0_copy_161 (by decide) ?_
  refine fC_copy (n := 48) h ⟨h1, by decide⟩ ⟨h0, by decide⟩ rfl rfl (by decide) (by decide) (fun _ => rfl) (fun _ => rfl) (by decide) (by decide) wd_332 wd_138 wd_139 wd_140 ⟨Nat.le_of_ble_eq_true rfl, Nat.le_of_ble_eq_true rfl⟩ dX0_copy_163 (fun C17 h => ?_)
  exact fC_vret h rfl dX0_copy_166
theorem ct_X0_copy {l : Launch} {G : GX} {X : XM} {Q : Int32 → Mem → Prop} (r0 : Nat) (h0 : r0 < 4) (r1 : Nat) (h1 : r1 < 4) (C : CM) (h : SAT (f_X0_copy r0 r1 C) (fun v c => Q v (c, X))) : CT l G 2 mt_X0_copy [.ref (gA G 3 r0 0), .ref (gA G 3 r1 0)] (C, X) Q := ct_of pn_X0 (Nat.le_of_ble_eq_true rfl) (t_X0_copy_0 r0 h0 r1 h1 C h)
def f_X3_copy (r0 : Nat) (r1 : Nat) (C : CM) : Option (Int32 × CM) := bnd (stC C 5 r0 0 0 (C.1 5 r1 0 0)) (fun C1 => bnd (rwC C1 5 r0 1 (C1.1 5 r1 1)) (fun C2 => bnd (rwC C2 5 r0 2 (C2.1 5 r1 2)) (fun C3 => bnd (rwC C3 5 r0 3 (C3.1 5 r1 3)) (fun C4 => (rt 0 C4)))))
set_option maxRecDepth 8000 in
theorem t_X3_copy_0 {l : Launch} {G : GX} {X : XM} {Q : Int32 → Mem → Prop} (r0 : Nat) (h0 : r0 < 4) (r1 : Nat) (h1 : r1 < 4) (C : CM) (h : SAT (f_X3_copy r0 r1 C) (fun v c => Q v (c, X))) : AB l G (rmD 1) 0 0 mt_X3_copy (ZQ G mt_X3_copy Q) 0 [(0, .ref (gA G 5 r0 0)), (1, .ref (gA G 5 r1 0))] [] (C, X) := by
  unfold f_X3_copy at h
  refine ab_aloadn 0 dX3_copy_0 rfl ?_
  refine ab_aloadn 1 dX3_copy_1 rfl ?_
  refine fC_gi (x := 0) ⟨h1, by decide⟩ rfl rfl (Nat.le_of_ble_eq_true rfl) wd_165 (by decide) rfl dX3_copy_2 ?_
  refine fC_pi (x := 0) (ty := .int) ⟨h0, by decide⟩ rfl rfl (Nat.le_of_ble_eq_true rfl) wd_165 (by decide) rfl h rfl (by decide +kernel) rfl rfl dX3_copy_5 (fun C1 h => ?_)
  refine ab_aloadn 1 dX3_copy_8 rfl ?_
  refine f_gr (x := 1) (k2 := 5) (i2 := r1) (j2 := 1) ⟨h1, by decide⟩ rfl rfl (Nat.le_of_ble_eq_true rfl) wd_170 rfl rfl dX3_copy_9 ?_
  refine ab_iconst (v := 0) dX3_copy_12 (by decide) ?_
  refine ab_aloadn 0 dX3_copy_13 rfl ?_
  refine f_gr (x := 1) (k2 := 5) (i2 := r0) (j2 := 1) ⟨h0, by decide⟩ rfl rfl (Nat.le_of_ble_eq_true rfl) wd_170 rfl rfl dX3_copy_14 ?_
  refine ab_iconst (v := 0) dX3_copy_17 (by decide) ?_
  refine ab_bipush (v := 30) dX3_copy_18 (by decide) ?_
  refine fC_copy (n := 30) h ⟨h1, by decide⟩ ⟨h0, by decide⟩ rfl rfl (by decide) (by decide) (fun _ => rfl) (fun _ => rfl) (by decide) (by decide) wd_337 wd_138 wd_139 wd_140 ⟨Nat.le_of_ble_eq_true rfl, Nat.le_of_ble_eq_true rfl⟩ dX3_copy_20 (fun C2 h => ?_)
  refine ab_aloadn 1 dX3_copy_23 rfl ?_
  refine f_gr (x := 2) (k2 := 5) (i2 := r1) (j2 := 2) ⟨h1, by decide⟩ rfl rfl (Nat.le_of_ble_eq_true rfl) wd_172 rfl rfl dX3_copy_24 ?_
  refine ab_iconst (v := 0) dX3_copy_27 (by decide) ?_
  refine ab_aloadn 0 dX3_copy_28 rfl ?_
  refine f_gr (x := 2) (k2 := 5) (i2 := r0) (j2 := 2) ⟨h0, by decide⟩ rfl rfl (Nat.le_of_ble_eq_true rfl) wd_172 rfl rfl dX3_copy_29 ?_
  refine ab_iconst (v := 0) dX3_copy_32 (by decide) ?_
  refine ab_bipush (v := 30) dX3_copy_33 (by decide) ?_
  refine fC_copy (n := 30) h ⟨h1, by decide⟩ ⟨h0, by decide⟩ rfl rfl (by decide) (by decide) (fun _ => rfl) (fun _ => rfl) (by decide) (by decide) wd_337 wd_138 wd_139 wd_140 ⟨Nat.le_of_ble_eq_true rfl, Nat.le_of_ble_eq_true rfl⟩ dX3_copy_35 (fun C3 h => ?_)
  refine ab_aloadn 1 dX3_copy_38 rfl ?_
  refine f_gr (x := 3) (k2 := 5) (i2 := r1) (j2 := 3) ⟨h1, by decide⟩ rfl rfl (Nat.le_of_ble_eq_true rfl) wd_171 rfl rfl dX3_copy_39 ?_
  refine ab_iconst (v := 0) dX3_copy_42 (by decide) ?_
  refine ab_aloadn 0 dX3_copy_43 rfl ?_
  refine f_gr (x := 3) (k2 := 5) (i2 := r0) (j2 := 3) ⟨h0, by decide⟩ rfl rfl (Nat.le_of_ble_eq_true rfl) wd_171 rfl rfl dX3_copy_44 ?_
  refine ab_iconst (v := 0) dX3_copy_47 (by decide) ?_
  refine ab_bipush (v := 30) dX3_copy_48 (by decide) ?_
  refine fC_copy (n := 30) h ⟨h1, by decide⟩ ⟨h0, by decide⟩ rfl rfl (by decide) (by decide) (fun _ => rfl) (fun _ => rfl) (by decide) (by decide) wd_337 wd_138 wd_139 wd_140 ⟨Nat.le_of_ble_eq_true rfl, Nat.le_of_ble_eq_true rfl⟩ dX3_copy_50 (fun C4 h => ?_)
  exact fC_vret h rfl dX3_copy_53
theorem ct_X3_copy {l : Launch} {G : GX} {X : XM} {Q : Int32 → Mem → Prop} (r0 : Nat) (h0 : r0 < 4) (r1 : Nat) (h1 : r1 < 4) (C : CM) (h : SAT (f_X3_copy r0 r1 C) (fun v c => Q v (c, X))) : CT l G 1 mt_X3_copy [.ref (gA G 5 r0 0), .ref (gA G 5 r1 0)] (C, X) Q := ct_of pn_X3 (Nat.le_of_ble_eq_true rfl) (t_X3_copy_0 r0 h0 r1 h1 C h)
def f_X5_copy (r0 : Nat) (r1 : Nat) (C : CM) : Option (Int32 × CM) := bnd (stC C 6 r0 0 0 (C.1 6 r1 0 0)) (fun C1 => bnd (stC C1 6 r0 0 1 (C1.1 6 r1 0 1)) (fun C2 => bnd (rwC C2 6 r0 1 (C2.1 6 r1 1)) (fun C3 => bnd (rwC C3 6 r0 2 (C3.1 6 r1 2)) (fun C4 => bnd (rwC C4 6 r0 3 (C4.1 6 r1 3)) (fun C5 => (rt 0 C5))))))
set_option maxRecDepth 8000 in
theorem t_X5_copy_0 {l : Launch} {G : GX} {X : XM} {Q : Int32 → Mem → Prop} (r0 : Nat) (h0 : r0 < 4) (r1 : Nat) (h1 : r1 < 4) (C : CM) (h : SAT (f_X5_copy r0 r1 C) (fun v c => Q v (c, X))) : AB l G (rmD 1) 0 0 mt_X5_copy (ZQ G mt_X5_copy Q) 0 [(0, .ref (gA G 6 r0 0)), (1, .ref (gA G 6 r1 0))] [] (C, X) := by
  unfold f_X5_copy at h
  refine ab_aloadn 0 dX5_copy_0 rfl ?_
  refine ab_aloadn 1 dX5_copy_1 rfl ?_
  refine fC_gi (x := 0) ⟨h1, by decide⟩ rfl rfl (Nat.le_of_ble_eq_true rfl) wd_10 (by decide) rfl dX5_copy_2 ?_
  refine fC_pi (x := 0) (ty := .int) ⟨h0, by decide⟩ rfl rfl (Nat.le_of_ble_eq_true rfl) wd_10 (by decide) rfl h rfl (by decide +kernel) rfl rfl dX5_copy_5 (fun C1 h => ?_)
  refine ab_aloadn 0 dX5_copy_8 rfl ?_
  refine ab_aloadn 1 dX5_copy_9 rfl ?_
  refine fC_gi (x := 1) ⟨h1, by decide⟩ rfl rfl (Nat.le_of_ble_eq_true rfl) wd_18 (by decide) rfl dX5_copy_10 ?_
  refine fC_pi (x := 1) (ty := .int) ⟨h0, by decide⟩ rfl rfl (Nat.le_of_ble_eq_true rfl) wd_18 (by decide) rfl h rfl (by decide +kernel) rfl rfl dX5_copy_13 (fun C2 h => ?_)
  refine ab_aloadn 1 dX5_copy_16 rfl ?_
  refine f_gr (x := 2) (k2 := 6) (i2 := r1) (j2 := 1) ⟨h1, by decide⟩ rfl rfl (Nat.le_of_ble_eq_true rfl) wd_19 rfl rfl dX5_copy_17 ?_
  refine ab_iconst (v := 0) dX5_copy_20 (by decide) ?_
  refine ab_aloadn 0 dX5_copy_21 rfl ?_
  refine f_gr (x := 2) (k2 := 6) (i2 := r0) (j2 := 1) ⟨h0, by decide⟩ rfl rfl (Nat.le_of_ble_eq_true rfl) wd_19 rfl rfl dX5_copy_22 ?_
  refine ab_iconst (v := 0) dX5_copy_25 (by decide) ?_
  refine ab_bipush (v := 40) dX5_copy_26 (by decide) ?_
  refine fC_copy (n := 40) h ⟨h1, by decide⟩ ⟨h0, by decide⟩ rfl rfl (by decide) (by decide) (fun _ => rfl) (fun _ => rfl) (by decide) (by decide) wd_340 wd_138 wd_139 wd_140 ⟨Nat.le_of_ble_eq_true rfl, Nat.le_of_ble_eq_true rfl⟩ dX5_copy_28 (fun C3 h => ?_)
  refine ab_aloadn 1 dX5_copy_31 rfl ?_
  refine f_gr (x := 3) (k2 := 6) (i2 := r1) (j2 := 2) ⟨h1, by decide⟩ rfl rfl (Nat.le_of_ble_eq_true rfl) wd_20 rfl rfl dX5_copy_32 ?_
  refine ab_iconst (v := 0) dX5_copy_35 (by decide) ?_
  refine ab_aloadn 0 dX5_copy_36 rfl ?_
  refine f_gr (x := 3) (k2 := 6) (i2 := r0) (j2 := 2) ⟨h0, by decide⟩ rfl rfl (Nat.le_of_ble_eq_true rfl) wd_20 rfl rfl dX5_copy_37 ?_
  refine ab_iconst (v := 0) dX5_copy_40 (by decide) ?_
  refine ab_bipush (v := 40) dX5_copy_41 (by decide) ?_
  refine fC_copy (n := 40) h ⟨h1, by decide⟩ ⟨h0, by decide⟩ rfl rfl (by decide) (by decide) (fun _ => rfl) (fun _ => rfl) (by decide) (by decide) wd_340 wd_138 wd_139 wd_140 ⟨Nat.le_of_ble_eq_true rfl, Nat.le_of_ble_eq_true rfl⟩ dX5_copy_43 (fun C4 h => ?_)
  refine ab_aloadn 1 dX5_copy_46 rfl ?_
  refine f_gr (x := 4) (k2 := 6) (i2 := r1) (j2 := 3) ⟨h1, by decide⟩ rfl rfl (Nat.le_of_ble_eq_true rfl) wd_21 rfl rfl dX5_copy_47 ?_
  refine ab_iconst (v := 0) dX5_copy_50 (by decide) ?_
  refine ab_aloadn 0 dX5_copy_51 rfl ?_
  refine f_gr (x := 4) (k2 := 6) (i2 := r0) (j2 := 3) ⟨h0, by decide⟩ rfl rfl (Nat.le_of_ble_eq_true rfl) wd_21 rfl rfl dX5_copy_52 ?_
  refine ab_iconst (v := 0) dX5_copy_55 (by decide) ?_
  refine ab_bipush (v := 40) dX5_copy_56 (by decide) ?_
  refine fC_copy (n := 40) h ⟨h1, by decide⟩ ⟨h0, by decide⟩ rfl rfl (by decide) (by decide) (fun _ => rfl) (fun _ => rfl) (by decide) (by decide) wd_340 wd_138 wd_139 wd_140 ⟨Nat.le_of_ble_eq_true rfl, Nat.le_of_ble_eq_true rfl⟩ dX5_copy_58 (fun C5 h => ?_)
  exact fC_vret h rfl dX5_copy_61
theorem ct_X5_copy {l : Launch} {G : GX} {X : XM} {Q : Int32 → Mem → Prop} (r0 : Nat) (h0 : r0 < 4) (r1 : Nat) (h1 : r1 < 4) (C : CM) (h : SAT (f_X5_copy r0 r1 C) (fun v c => Q v (c, X))) : CT l G 1 mt_X5_copy [.ref (gA G 6 r0 0), .ref (gA G 6 r1 0)] (C, X) Q := ct_of pn_X5 (Nat.le_of_ble_eq_true rfl) (t_X5_copy_0 r0 h0 r1 h1 C h)
def f_X8_copy (r0 : Nat) (r1 : Nat) (C : CM) : Option (Int32 × CM) := ldR (C.2 2 r0 1) 4 (fun y1 => ldR (C.2 2 r1 1) 4 (fun y3 => cal (f_X0_copy y1 y3 C) (fun v5 C6 => cal (f_X6_copy r0 r1 C6) (fun v7 C8 => ldR (C8.2 2 r0 3) 4 (fun y9 => ldR (C8.2 2 r1 3) 4 (fun y11 => cal (f_X3_copy y9 y11 C8) (fun v13 C14 => ldR (C14.2 2 r0 4) 4 (fun y15 => ldR (C14.2 2 r1 4) 4 (fun y17 => cal (f_X5_copy y15 y17 C14) (fun v19 C20 => (rt 0 C20)))))))))))
set_option maxRecDepth 8000 in
theorem t_X8_copy_0 {l : Launch} {G : GX} {X : XM} {Q : Int32 → Mem → Prop} (r0 : Nat) (h0 : r0 < 3) (r1 : Nat) (h1 : r1 < 3) (C : CM) (h : SAT (f_X8_copy r0 r1 C) (fun v c => Q v (c, X))) : AB l G (rmD 3) 0 0 mt_X8_copy (ZQ G mt_X8_copy Q) 0 [(0, .ref (gA G 2 r0 0)), (1, .ref (gA G 2 r1 0))] [] (C, X) := by
  unfold f_X8_copy at h
  refine ab_aloadn 0 dX8_copy_0 rfl ?_
  refine fC_gd (x := 1) ⟨h0, by decide⟩ rfl rfl (Nat.le_of_ble_eq_true rfl) wd_328 rfl h rfl dX8_copy_1 (fun y1 hy2 h => ?_)
  refine ab_aloadn 1 dX8_copy_4 rfl ?_
  refine fC_gd (x := 1) ⟨h1, by decide⟩ rfl rfl (Nat.le_of_ble_eq_true rfl) wd_328 rfl h rfl dX8_copy_5 (fun y3 hy4 h => ?_)
  refine fC_Vv (mtc := mt_X0_copy) (As := [.ref (gA G 3 y3 0)]) h (fun Q h => ct_X0_copy y1 hy2 y3 hy4 C h) ⟨hy2, by decide⟩ rfl rfl rfl mw_X0_copy wd_333 rfl rfl ⟨Nat.le_of_ble_eq_true rfl, Nat.le_of_ble_eq_true rfl⟩ ⟨Nat.zero_le _, Nat.zero_le _⟩ (Nat.le_of_ble_eq_true rfl) rfl dX8_copy_8 (fun v5 C6 h => ?_)
  refine ab_aloadn 0 dX8_copy_11 rfl ?_
  refine f_gr (x := 2) (k2 := 4) (i2 := r0) (j2 := 0) ⟨h0, by decide⟩ rfl rfl (Nat.le_of_ble_eq_true rfl) wd_334 rfl rfl dX8_copy_12 ?_
  refine ab_aloadn 1 dX8_copy_15 rfl ?_
  refine f_gr (x := 2) (k2 := 4) (i2 := r1) (j2 := 0) ⟨h1, by decide⟩ rfl rfl (Nat.le_of_ble_eq_true rfl) wd_334 rfl rfl dX8_copy_16 ?_
  refine fC_Vv (mtc := mt_X6_copy) (As := [.ref (gA G 4 r1 0)]) h (fun Q h => ct_X6_copy r0 (Nat.lt_trans h0 (by decide)) r1 (Nat.lt_trans h1 (by decide)) C6 h) ⟨(Nat.lt_trans h0 (by decide)), by decide⟩ rfl rfl rfl mw_X6_copy wd_335 rfl rfl ⟨Nat.le_of_ble_eq_true rfl, Nat.le_of_ble_eq_true rfl⟩ ⟨Nat.zero_le _, Nat.zero_le _⟩ (Nat.le_of_ble_eq_true rfl) rfl dX8_copy_19 (fun v7 C8 h => ?_)
  refine ab_aloadn 0 dX8_copy_22 rfl ?_
  refine fC_gd (x := 3) ⟨h0, by decide⟩ rfl rfl (Nat.le_of_ble_eq_true rfl) wd_336 rfl h rfl dX8_copy_23 (fun y9 hy10 h => ?_)
  refine ab_aloadn 1 dX8_copy_26 rfl ?_
  refine fC_gd (x := 3) ⟨h1, by decide⟩ rfl rfl (Nat.le_of_ble_eq_true rfl) wd_336 rfl h rfl dX8_copy_27 (fun y11 hy12 h => ?_)
  refine fC_Vv (mtc := mt_X3_copy) (As := [.ref (gA G 5 y11 0)]) h (fun Q h => ct_X3_copy y9 hy10 y11 hy12 C8 h) ⟨hy10, by decide⟩ rfl rfl rfl mw_X3_copy wd_338 rfl rfl ⟨Nat.le_of_ble_eq_true rfl, Nat.le_of_ble_eq_true rfl⟩ ⟨Nat.zero_le _, Nat.zero_le _⟩ (Nat.le_of_ble_eq_true rfl) rfl dX8_copy_30 (fun v13 C14 h => ?_)
  refine ab_aloadn 0 dX8_copy_33 rfl ?_
  refine fC_gd (x := 4) ⟨h0, by decide⟩ rfl rfl (Nat.le_of_ble_eq_true rfl) wd_339 rfl h rfl dX8_copy_34 (fun y15 hy16 h => ?_)
  refine ab_aloadn 1 dX8_copy_37 rfl ?_
  refine fC_gd (x := 4) ⟨h1, by decide⟩ rfl rfl (Nat.le_of_ble_eq_true rfl) wd_339 rfl h rfl dX8_copy_38 (fun y17 hy18 h => ?_)
  refine fC_Vv (mtc := mt_X5_copy) (As := [.ref (gA G 6 y17 0)]) h (fun Q h => ct_X5_copy y15 hy16 y17 hy18 C14 h) ⟨hy16, by decide⟩ rfl rfl rfl mw_X5_copy wd_341 rfl rfl ⟨Nat.le_of_ble_eq_true rfl, Nat.le_of_ble_eq_true rfl⟩ ⟨Nat.zero_le _, Nat.zero_le _⟩ (Nat.le_of_ble_eq_true rfl) rfl dX8_copy_41 (fun v19 C20 h => ?_)
  exact fC_vret h rfl dX8_copy_44
theorem ct_X8_copy {l : Launch} {G : GX} {X : XM} {Q : Int32 → Mem → Prop} (r0 : Nat) (h0 : r0 < 3) (r1 : Nat) (h1 : r1 < 3) (C : CM) (h : SAT (f_X8_copy r0 r1 C) (fun v c => Q v (c, X))) : CT l G 3 mt_X8_copy [.ref (gA G 2 r0 0), .ref (gA G 2 r1 0)] (C, X) Q := ct_of pn_X8 (Nat.le_of_ble_eq_true rfl) (t_X8_copy_0 r0 h0 r1 h1 C h)
def f_X10_image (a1 : Int32) (C : CM) : Option (Int32 × CM) := (if a1 < 0 then (rt 0 C) else (if a1 < 2 then ldQ 2 a1 (fun y3 => cal (f_X8_copy (1 + y3) 0 C) (fun v5 C6 => ldQ 2 a1 (fun y7 => bnd (stC C6 2 (1 + y7) 0 0 1) (fun C9 => (rt 1 C9))))) else (rt 0 C)))
set_option maxRecDepth 8000 in
theorem t_X10_image_0 {l : Launch} {G : GX} {X : XM} {Q : Int32 → Mem → Prop} (a1 : Int32) (C : CM) (h : SAT (f_X10_image a1 C) (fun v c => Q v (c, X))) : AB l G (rmD 4) 0 0 mt_X10_image (ZQ G mt_X10_image Q) 0 [(0, .ref (gA G 0 0 0)), (1, .int a1)] [] (C, X) := by
  unfold f_X10_image at h
  refine ab_iloadn 1 dX10_image_0 rfl ?_
  refine ab_if_lt (tgt := 9) dX10_image_1 (by decide) (fun hc1 => ?_) (fun hc1 => ?_)
  · have h := sat_t hc1 h
    refine ab_iconst (v := 0) dX10_image_9 (by decide) ?_
    exact fC_iret h rfl rfl dX10_image_10
  · have h := sat_f hc1 h
    refine ab_iloadn 1 dX10_image_4 rfl ?_
    refine ab_iconst (v := 2) dX10_image_5 (by decide) ?_
    refine ab_icmp_lt (tgt := 11) dX10_image_6 (by decide) (fun hc2 => ?_) (fun hc2 => ?_)
    · have h := sat_t hc2 h
      refine ab_aloadn 0 dX10_image_11 rfl ?_
      refine f_gr (x := 5) (k2 := 0) (i2 := 0) (j2 := 2) ⟨by decide, by decide⟩ rfl rfl (Nat.le_of_ble_eq_true rfl) wd_327 rfl rfl dX10_image_12 ?_
      refine ab_iloadn 1 dX10_image_15 rfl ?_
      refine f_aald (k2 := 2) (b := 1) ⟨by decide, by decide⟩ rfl (by decide) (fun _ => rfl) h dX10_image_16 (fun y3 hy4 h => ?_)
      refine ab_aloadn 0 dX10_image_17 rfl ?_
      refine f_gr (x := 4) (k2 := 2) (i2 := 0) (j2 := 0) ⟨by decide, by decide⟩ rfl rfl (Nat.le_of_ble_eq_true rfl) wd_124 rfl rfl dX10_image_18 ?_
      refine fC_Vv (mtc := mt_X8_copy) (As := [.ref (gA G 2 0 0)]) h (fun Q h => ct_X8_copy (1 + y3) (Nat.add_lt_add_left hy4 1) 0 (by decide) C h) ⟨(Nat.add_lt_add_left hy4 1), by decide⟩ rfl rfl rfl mw_X8_copy wd_342 rfl rfl ⟨Nat.le_of_ble_eq_true rfl, Nat.le_of_ble_eq_true rfl⟩ ⟨Nat.zero_le _, Nat.zero_le _⟩ (Nat.le_of_ble_eq_true rfl) rfl dX10_image_21 (fun v5 C6 h => ?_)
      refine ab_aloadn 0 dX10_image_24 rfl ?_
      refine f_gr (x := 5) (k2 := 0) (i2 := 0) (j2 := 2) ⟨by decide, by decide⟩ rfl rfl (Nat.le_of_ble_eq_true rfl) wd_327 rfl rfl dX10_image_25 ?_
      refine ab_iloadn 1 dX10_image_28 rfl ?_
      refine f_aald (k2 := 2) (b := 1) ⟨by decide, by decide⟩ rfl (by decide) (fun _ => rfl) h dX10_image_29 (fun y7 hy8 h => ?_)
      refine ab_iconst (v := 1) dX10_image_30 (by decide) ?_
      refine fC_pi (x := 0) (ty := .boolean) ⟨(Nat.add_lt_add_left hy8 1), by decide⟩ rfl rfl (Nat.le_of_ble_eq_true rfl) wd_343 (by decide) rfl h rfl (by decide +kernel) rfl rfl dX10_image_31 (fun C9 h => ?_)
      refine ab_iconst (v := 1) dX10_image_34 (by decide) ?_
      exact fC_iret h rfl rfl dX10_image_35
    · have h := sat_f hc2 h
      refine ab_iconst (v := 0) dX10_image_9 (by decide) ?_
      exact fC_iret h rfl rfl dX10_image_10
theorem ct_X10_image {l : Launch} {G : GX} {X : XM} {Q : Int32 → Mem → Prop} (a1 : Int32) (C : CM) (h : SAT (f_X10_image a1 C) (fun v c => Q v (c, X))) : CT l G 4 mt_X10_image [.ref (gA G 0 0 0), .int a1] (C, X) Q := ct_of pn_X10 (Nat.le_of_ble_eq_true rfl) (t_X10_image_0 a1 C h)
def f_X10_restore (a1 : Int32) (C : CM) : Option (Int32 × CM) := (if a1 < 0 then (rt 0 C) else (if 2 ≤ a1 then (rt 0 C) else ldQ 2 a1 (fun y3 => (if (C.1 2 (1 + y3) 0 0) = 0 then (rt 0 C) else ldQ 2 a1 (fun y6 => cal (f_X8_copy 0 (1 + y6) C) (fun v8 C9 => cal (f_X2_forget C9) (fun v10 C11 => bnd (stC C11 9 0 0 0 0) (fun C12 => (rt 1 C12)))))))))
set_option maxRecDepth 8000 in
theorem t_X10_restore_0 {l : Launch} {G : GX} {X : XM} {Q : Int32 → Mem → Prop} (a1 : Int32) (C : CM) (h : SAT (f_X10_restore a1 C) (fun v c => Q v (c, X))) : AB l G (rmD 4) 0 0 mt_X10_restore (ZQ G mt_X10_restore Q) 0 [(0, .ref (gA G 0 0 0)), (1, .int a1)] [] (C, X) := by
  unfold f_X10_restore at h
  refine ab_iloadn 1 dX10_restore_0 rfl ?_
  refine ab_if_lt (tgt := 21) dX10_restore_1 (by decide) (fun hc1 => ?_) (fun hc1 => ?_)
  · have h := sat_t hc1 h
    refine ab_iconst (v := 0) dX10_restore_21 (by decide) ?_
    exact fC_iret h rfl rfl dX10_restore_22
  · have h := sat_f hc1 h
    refine ab_iloadn 1 dX10_restore_4 rfl ?_
    refine ab_iconst (v := 2) dX10_restore_5 (by decide) ?_
    refine ab_icmp_ge (tgt := 21) dX10_restore_6 (by decide) (fun hc2 => ?_) (fun hc2 => ?_)
    · have h := sat_t hc2 h
      refine ab_iconst (v := 0) dX10_restore_21 (by decide) ?_
      exact fC_iret h rfl rfl dX10_restore_22
    · have h := sat_f hc2 h
      refine ab_aloadn 0 dX10_restore_9 rfl ?_
      refine f_gr (x := 5) (k2 := 0) (i2 := 0) (j2 := 2) ⟨by decide, by decide⟩ rfl rfl (Nat.le_of_ble_eq_true rfl) wd_327 rfl rfl dX10_restore_10 ?_
      refine ab_iloadn 1 dX10_restore_13 rfl ?_
      refine f_aald (k2 := 2) (b := 1) ⟨by decide, by decide⟩ rfl (by decide) (fun _ => rfl) h dX10_restore_14 (fun y3 hy4 h => ?_)
      refine fC_gi (x := 0) ⟨(Nat.add_lt_add_left hy4 1), by decide⟩ rfl rfl (Nat.le_of_ble_eq_true rfl) wd_343 (by decide) rfl dX10_restore_15 ?_
      refine ab_if_ne (tgt := 23) dX10_restore_18 (by decide) (fun hc5 => ?_) (fun hc5 => ?_)
      · have h := sat_f hc5 h
        refine ab_aloadn 0 dX10_restore_23 rfl ?_
        refine f_gr (x := 4) (k2 := 2) (i2 := 0) (j2 := 0) ⟨by decide, by decide⟩ rfl rfl (Nat.le_of_ble_eq_true rfl) wd_124 rfl rfl dX10_restore_24 ?_
        refine ab_aloadn 0 dX10_restore_27 rfl ?_
        refine f_gr (x := 5) (k2 := 0) (i2 := 0) (j2 := 2) ⟨by decide, by decide⟩ rfl rfl (Nat.le_of_ble_eq_true rfl) wd_327 rfl rfl dX10_restore_28 ?_
        refine ab_iloadn 1 dX10_restore_31 rfl ?_
        refine f_aald (k2 := 2) (b := 1) ⟨by decide, by decide⟩ rfl (by decide) (fun _ => rfl) h dX10_restore_32 (fun y6 hy7 h => ?_)
        refine fC_Vv (mtc := mt_X8_copy) (As := [.ref (gA G 2 (1 + y6) 0)]) h (fun Q h => ct_X8_copy 0 (by decide) (1 + y6) (Nat.add_lt_add_left hy7 1) C h) ⟨by decide, by decide⟩ rfl rfl rfl mw_X8_copy wd_342 rfl rfl ⟨Nat.le_of_ble_eq_true rfl, Nat.le_of_ble_eq_true rfl⟩ ⟨Nat.zero_le _, Nat.zero_le _⟩ (Nat.le_of_ble_eq_true rfl) rfl dX10_restore_33 (fun v8 C9 h => ?_)
        refine ab_aloadn 0 dX10_restore_36 rfl ?_
        refine f_gr (x := 9) (k2 := 7) (i2 := 0) (j2 := 0) ⟨by decide, by decide⟩ rfl rfl (Nat.le_of_ble_eq_true rfl) wd_157 rfl rfl dX10_restore_37 ?_
        refine fC_Vv (mtc := mt_X2_forget) (As := []) h (fun Q h => ct_X2_forget C9 h) ⟨by decide, by decide⟩ rfl rfl rfl mw_X2_forget wd_159 rfl rfl ⟨Nat.le_of_ble_eq_true rfl, Nat.le_of_ble_eq_true rfl⟩ ⟨Nat.zero_le _, Nat.zero_le _⟩ (Nat.le_of_ble_eq_true rfl) rfl dX10_restore_40 (fun v10 C11 h => ?_)
        refine ab_aloadn 0 dX10_restore_43 rfl ?_
        refine f_gr (x := 11) (k2 := 9) (i2 := 0) (j2 := 0) ⟨by decide, by decide⟩ rfl rfl (Nat.le_of_ble_eq_true rfl) wd_160 rfl rfl dX10_restore_44 ?_
        refine ab_iconst (v := 0) dX10_restore_47 (by decide) ?_
        refine fC_pi (x := 0) (ty := .boolean) ⟨by decide, by decide⟩ rfl rfl (Nat.le_of_ble_eq_true rfl) wd_161 (by decide) rfl h rfl (by decide +kernel) rfl rfl dX10_restore_48 (fun C12 h => ?_)
        refine ab_iconst (v := 1) dX10_restore_51 (by decide) ?_
        exact fC_iret h rfl rfl dX10_restore_52
      · have h := sat_t hc5 h
        refine ab_iconst (v := 0) dX10_restore_21 (by decide) ?_
        exact fC_iret h rfl rfl dX10_restore_22
theorem ct_X10_restore {l : Launch} {G : GX} {X : XM} {Q : Int32 → Mem → Prop} (a1 : Int32) (C : CM) (h : SAT (f_X10_restore a1 C) (fun v c => Q v (c, X))) : CT l G 4 mt_X10_restore [.ref (gA G 0 0 0), .int a1] (C, X) Q := ct_of pn_X10 (Nat.le_of_ble_eq_true rfl) (t_X10_restore_0 a1 C h)
