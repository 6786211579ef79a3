/-! Lines of the bank: frames, the class reading on behind a fault, a free cell. -/
section LNB
variable {N : Nat}
def FB (r : Nat) (C C' : CM) : Prop := C'.2 = C.2 ∧ ∀ q i, q ≠ 1 → ¬ (q = 3 ∧ i = r) → C'.1 q i = C.1 q i
theorem FB.trans {r : Nat} {A B C : CM} (h1 : FB r A B) (h2 : FB r B C) : FB r A C := ⟨h2.1.trans h1.1, fun q i a b => (h2.2 q i a b).trans (h1.2 q i a b)⟩
theorem fb_f1 {r : Nat} {C C' : CM} (h : F1 C C') : FB r C C' := ⟨h.1, fun q i a _ => by rw [h.2 q a]⟩
theorem fb_st {r j x : Nat} {C : CM} {v : Int32} : FB r C (stC C 3 r j x v) := by
  refine ⟨rfl, fun q i a b => ?_⟩
  funext j' x'
  simp only [stC]
  rw [if_neg (by omega)]
def GB (X X' : XM) : Prop := (∀ x, lastF x = true → x ≠ 15 → X'.1 0 x = X.1 0 x) ∧ (∀ j, lastR j = true → X'.1 j = X.1 j) ∧ (∀ x, x < 8 → X'.2 5 x = X.2 5 x) ∧ X'.2 6 = X.2 6 ∧ X'.2 18 = X.2 18
theorem GB.trans {A B C : XM} (h1 : GB A B) (h2 : GB B C) : GB A C := ⟨fun x a b => (h2.1 x a b).trans (h1.1 x a b), fun j a => (h2.2.1 j a).trans (h1.2.1 j a), fun x a => (h2.2.2.1 x a).trans (h1.2.2.1 x a), h2.2.2.2.1.trans h1.2.2.2.1, h2.2.2.2.2.trans h1.2.2.2.2⟩
theorem gb_lk {X X' : XM} (h : LkF X X') : GB X X' := by
  refine ⟨fun x a b => ?_, fun j a => ?_, fun x _ => h.2.2 5 x (by omega), funext fun x => h.2.2 6 x (by omega), funext fun x => h.2.2 18 x (by omega)⟩
  · have := lf_no a
    exact h.2.1 x (by omega) (by omega) (by omega) (by omega) (by omega) (by omega) (by omega) (by omega) (by omega)
  · have := lr_no a
    exact h.1 j (by omega)
theorem gb_f {X : XM} {x : Nat} {v : Int32} (hx : 18 ≤ x ∧ x ≤ 25) : GB X (stX X 0 x v) := by
  refine ⟨fun y a b => ?_, fun j a => ?_, fun _ _ => rfl, rfl, rfl⟩
  · have := lf_no a
    exact stX_ne (by omega)
  · have := lr_no a
    exact stX_row (by omega)
theorem gb_3 {X : XM} {x : Nat} {v : Int32} : GB X (stX X 3 x v) := by
  refine ⟨fun y a b => by rw [stX_row (by omega)], fun j a => ?_, fun _ _ => rfl, rfl, rfl⟩
  have := lr_no a
  exact stX_row (by omega)
theorem stL_f {X : XM} {j x j' x' : Nat} {v : Int64} (h : ¬ (j' = j ∧ x' = x)) : (stL X j x v).2 j' x' = X.2 j' x' := by
  simp only [stL]
  rw [if_neg h]
theorem gb_L {X : XM} {x : Nat} {v : Int64} (hx : 8 ≤ x) : GB X (stL X 5 x v) :=
  ⟨fun _ _ _ => rfl, fun _ _ => rfl, fun y hy => stL_f (by omega), funext fun y => stL_f (by omega), funext fun y => stL_f (by omega)⟩
theorem ps_4 {C : CM} {X : XM} {i : Nat} (h : PsR N C X i) : C.1 1 0 0 4 = nI i := by
  obtain ⟨u, L, lm, t, P, t1, t2, h3, h4, h5, -⟩ := h
  exact h4
/-- what a line comes to -/
def LineP (N r : Nat) (C : CM) (X : XM) (y : Option (Int32 × CM)) (y' : Option (Int32 × XM)) : Prop :=
  (∃ C' X' i' W H V T, y = some (0, C') ∧ y' = some (1, X') ∧ (∃ j, C.1 1 0 0 4 = nI j ∧ j < i') ∧ PsR N C' X' i' ∧ FB r C C' ∧ GB X X' ∧ HbR (C'.1 3 r) (X'.1 3) (X'.1 0) (X'.2 5) W H V T) ∨
  (∃ C' X', y = some (0, C') ∧ y' = some (0, X') ∧ FaR C' X' ∧ F1 C C' ∧ GB X X')
section FA
variable {C : CM} {r : Nat}
theorem fa_cell (h : FaC C) : f_X0_takeCell r C = some (-1, C) := by
  unfold f_X0_takeCell
  rw [fa_number h, cal_some, fa_number h, cal_some, fa_sound h, cal_some, if_pos rfl]; rfl
theorem ref_m1 : f_X0_refuseIfTaken_b r (-1) C = some (0, C) ∧ f_X0_refuseIfTaken_e r (-1) C = some (0, C) := by
  unfold f_X0_refuseIfTaken_b f_X0_refuseIfTaken_e
  rw [if_pos (show (-1 : Int32) < 0 by decide), if_pos (show (-1 : Int32) < 0 by decide)]
  exact ⟨rfl, rfl⟩
theorem isO_m1 : f_X0_isOwner r (-1) C = some (0, C) := by
  unfold f_X0_isOwner
  rw [if_pos (show (-1 : Int32) < 0 by decide)]; rfl
theorem isO_k {k V : Nat} (hV : V ≤ 8) (hk : k < V) (hc : C.1 3 r 6 0 = nI V) : f_X0_isOwner r (nI k) C = some (1, C) := by
  unfold f_X0_isOwner
  rw [hc, if_neg (nI_nneg (by omega)), if_neg (by rw [le_nn (by omega) (by omega)]; omega)]; rfl
theorem fa_takeO {V : Nat} (hN : 2000 ≤ N) (h : FaC C) (hV : V ≤ 8) (hc : C.1 3 r 6 0 = nI V) : f_X1_take N r C = some (-1, C) := by
  unfold f_X1_take f_X1_take_19
  obtain ⟨w, hw⟩ := fa_find (C := C) (r := r) hN (-1) hV hc
  rw [fa_name h, cal_some, hw, cal_some]
  by_cases e : w = -1
  · rw [if_pos e, (fa_blame h 3).2, cal_some, fa_sound h, cal_some, if_pos rfl]; rfl
  · rw [if_neg e, fa_sound h, cal_some, if_pos rfl]; rfl
theorem fa_yard12 (h : FaC C) : f_X0_readYard_12 r C = some (0, C) := by
  unfold f_X0_readYard_12
  rw [fa_number h, cal_some, fa_number h, cal_some, fa_sound h, cal_some, if_pos rfl]; rfl
theorem fa_run12 (h : FaC C) : f_X0_readRun_12 r C = some (0, C) := by
  unfold f_X0_readRun_12
  rw [fa_number h, cal_some, fa_number h, cal_some, fa_sound h, cal_some, if_pos rfl]; rfl
theorem fa_tree14 (h : FaC C) : f_X0_readTree_14 r C = some (0, C) := by
  unfold f_X0_readTree_14
  rw [fa_cell h, cal_some, ref_m1.1, cal_some, fa_sound h, cal_some, if_pos rfl]; rfl
theorem fa_fence14 (h : FaC C) : f_X0_readFence_14 r C = some (0, C) := by
  unfold f_X0_readFence_14
  rw [fa_cell h, cal_some, ref_m1.1, cal_some, fa_sound h, cal_some, if_pos rfl]; rfl
theorem fa_eddy14 (h : FaC C) : f_X0_readEddy_14 r C = some (0, C) := by
  unfold f_X0_readEddy_14
  rw [fa_cell h, cal_some, ref_m1.2, cal_some, fa_number h, cal_some, fa_sound h, cal_some, if_pos rfl]; rfl
theorem fa_gust46 (h : FaC C) (a : Int32) : f_X0_readGust_46 r a C = some (0, C) := by
  unfold f_X0_readGust_46
  rw [fa_number h, cal_some, fa_number h, cal_some, fa_sound h, cal_some, if_pos rfl]; rfl
theorem fa_gust14 (h : FaC C) : f_X0_readGust_14 r C = some (0, C) := by
  unfold f_X0_readGust_14
  rw [fa_number h, cal_some, if_pos (show (-1 : Int32) < 0 by decide), fa_gust46 h]
theorem fa_vane36 (h : FaC C) (a : Int32) : f_X0_readVane_36 N r a C = some (0, C) := by
  unfold f_X0_readVane_36
  rw [fa_number h, cal_some, fa_sound h, cal_some, if_pos rfl]; rfl
theorem fa_owner39 (h : FaC C) (a : Int32) : f_X0_readOwner_39 N r a C = some (0, C) := by
  unfold f_X0_readOwner_39
  rw [fa_cell h, cal_some, ref_m1.1, cal_some, fa_number h, cal_some, fa_number h, cal_some, fa_number h, cal_some, fa_sound h, cal_some, if_pos rfl]; rfl
theorem fa_owner17 {V : Nat} (hN : 2000 ≤ N) (h : FaC C) (hV : V ≤ 8) (hc : C.1 3 r 6 0 = nI V) : f_X0_readOwner_17 N r C = some (0, C) := by
  unfold f_X0_readOwner_17
  obtain ⟨w, hw⟩ := fa_find (C := C) (r := r) hN (-1) hV hc
  rw [fa_name h, cal_some, hw, cal_some, fa_owner39 h, (fa_blame h 3).2, cal_some]
  by_cases e : w = -1
  · rw [if_pos e]
  · rw [if_neg e, fa_owner39 h]
theorem fa_pact54 (h : FaC C) (a b : Int32) : f_X0_readPact_54 N r a b C = some (0, C) := by
  unfold f_X0_readPact_54
  rw [fa_sound h, cal_some, if_pos rfl]; rfl
theorem fa_pact35 {V : Nat} (hN : 2000 ≤ N) (h : FaC C) (hV : V ≤ 8) (hc : C.1 3 r 6 0 = nI V) (a : Int32) : f_X0_readPact_35 N r a C = some (0, C) := by
  unfold f_X0_readPact_35
  rw [fa_takeO hN h hV hc, cal_some, (fa_blame h 3).2, cal_some, fa_pact54 h]
  by_cases e : a = -1
  · rw [if_pos e]
  · rw [if_neg e]
theorem fa_plot64 (h : FaC C) (a b : Int32) : f_X0_readPlot_64 N r a b C = some (0, C) := by
  unfold f_X0_readPlot_64
  rw [fa_sound h, cal_some, if_pos rfl]; rfl
theorem fa_plot35 (h : FaC C) (a : Int32) : f_X0_readPlot_35 N r a C = some (0, C) := by
  unfold f_X0_readPlot_35
  rw [fa_cell h, cal_some, fa_sound h, cal_some, if_pos rfl, fa_plot64 h]
end FA
theorem free_30 {X : XM} {V T : Nat} {v : Int32} (hN : 2000 ≤ N) (hV : V ≤ 8) (hT : T ≤ 12) (s2 : X.1 3 2 = nI V) (s3 : X.1 3 3 = nI T) (c18 : X.1 0 18 = v) (b : Bool) : ∃ b' : Bool, f_X11_takesFree_30 N (bI b) X = (if bI b' = 0 then some (0, bdX X 3) else cal (f_X11_next N X) (fun _ X5 => (rt 1 X5))) ∧ (b' = true ↔ b = true ∧ (∀ k, k < V → X.1 3 (7 + k) ≠ v) ∧ ∀ t, t < T → X.1 3 (63 + t) ≠ v) := by
  have s2' : X.1 3 (OfNat.ofNat 2) = nI V := s2
  have s3' : X.1 3 (OfNat.ofNat 3) = nI T := s3
  have stp : ∀ (b : Bool) (w : Int32), ∃ q : Bool, (if bI b = 0 then (0 : Int32) else if w = v then 0 else 1) = bI q ∧ (q = true ↔ b = true ∧ w ≠ v) := by
    intro b w
    cases b
    · exact ⟨false, by rw [if_pos (show bI false = (0 : Int32) from rfl)]; rfl, by simp⟩
    · by_cases e : w = v
      · exact ⟨false, by rw [if_neg (show ¬ bI true = (0 : Int32) by decide), if_pos e]; rfl, by simp [e]⟩
      · exact ⟨true, by rw [if_neg (show ¬ bI true = (0 : Int32) by decide), if_neg e]; rfl, by simp [e]⟩
  have l77 : ∀ (b : Bool), ∃ b' : Bool, f_X11_takesFree_77 N N (bI b) 0 X = (if bI b' = 0 then some (0, bdX X 3) else cal (f_X11_next N X) (fun _ X5 => (rt 1 X5))) ∧ (b' = true ↔ b = true ∧ ∀ t, t < T → X.1 3 (63 + t) ≠ v) := by
    intro b
    refine loop1 (fun m i (q : Int32) => f_X11_takesFree_77 N m q i X) (fun i q => ∃ b' : Bool, q = bI b' ∧ (b' = true ↔ b = true ∧ ∀ t, t < i → X.1 3 (63 + t) ≠ v)) (fun y => ∃ b' : Bool, y = (if bI b' = 0 then some (0, bdX X 3) else cal (f_X11_next N X) (fun _ X5 => (rt 1 X5))) ∧ (b' = true ↔ b = true ∧ ∀ t, t < T → X.1 3 (63 + t) ≠ v)) T ?_ ?_ T 0 N (bI b) (by omega) (by omega) ⟨b, rfl, ⟨fun e => ⟨e, fun t ht => absurd ht (Nat.not_lt_zero _)⟩, fun e => e.1⟩⟩
    · rintro m i q hi ⟨b1, rfl, hb1⟩
      left
      obtain ⟨b2, e2, hb2⟩ := stp b1 (X.1 3 (63 + i))
      refine ⟨bI b2, ?_, b2, rfl, ?_⟩
      · rw [f_X11_takesFree_77, f_X11_takesFree_111, f_X11_takesFree_112, f_X11_takesFree_112]
        rw [ldA_l (by decide) (by decide), s3']
        simp (disch := omega) only [le_nn, if_neg, ldA_nI, nI_al, nI_la]
        rw [c18, ← e2]
        by_cases z : bI b1 = 0
        · rw [if_pos z, if_pos z]
        · rw [if_neg z, if_neg z]
          by_cases z2 : X.1 3 (63 + i) = v
          · rw [if_pos z2, if_pos z2]
          · rw [if_neg z2, if_neg z2]
      · rw [hb2, hb1]
        constructor
        · intro ⟨⟨a1, a2⟩, a3⟩
          refine ⟨a1, fun t ht => ?_⟩
          by_cases q : t = i
          · rw [q]; exact a3
          · exact a2 t (by omega)
        · intro ⟨a1, a2⟩
          exact ⟨⟨a1, fun t ht => a2 t (by omega)⟩, a2 i (by omega)⟩
    · rintro m q ⟨b1, rfl, hb1⟩
      refine ⟨b1, ?_, hb1⟩
      rw [f_X11_takesFree_77, ldA_l (by decide) (by decide), s3', if_pos (by rw [le_nn (by omega) (by omega)]; exact Nat.le_refl _), bad_eq, cal_some]
      rfl
  unfold f_X11_takesFree_30
  refine loop1 (fun m i (q : Int32) => f_X11_takesFree_33 N m q i X) (fun i q => ∃ b' : Bool, q = bI b' ∧ (b' = true ↔ b = true ∧ ∀ t, t < i → X.1 3 (7 + t) ≠ v)) (fun y => ∃ b' : Bool, y = (if bI b' = 0 then some (0, bdX X 3) else cal (f_X11_next N X) (fun _ X5 => (rt 1 X5))) ∧ (b' = true ↔ b = true ∧ (∀ k, k < V → X.1 3 (7 + k) ≠ v) ∧ ∀ t, t < T → X.1 3 (63 + t) ≠ v)) V ?_ ?_ V 0 N (bI b) (by omega) (by omega) ⟨b, rfl, ⟨fun e => ⟨e, fun t ht => absurd ht (Nat.not_lt_zero _)⟩, fun e => e.1⟩⟩
  · rintro m i q hi ⟨b1, rfl, hb1⟩
    left
    obtain ⟨b2, e2, hb2⟩ := stp b1 (X.1 3 (7 + i))
    refine ⟨bI b2, ?_, b2, rfl, ?_⟩
    · rw [f_X11_takesFree_33, f_X11_takesFree_67, f_X11_takesFree_68, f_X11_takesFree_68]
      rw [ldA_l (by decide) (by decide), s2']
      simp (disch := omega) only [le_nn, if_neg, ldA_nI, nI_al, nI_la]
      rw [c18, ← e2]
      by_cases z : bI b1 = 0
      · rw [if_pos z, if_pos z]
      · rw [if_neg z, if_neg z]
        by_cases z2 : X.1 3 (7 + i) = v
        · rw [if_pos z2, if_pos z2]
        · rw [if_neg z2, if_neg z2]
    · rw [hb2, hb1]
      constructor
      · intro ⟨⟨a1, a2⟩, a3⟩
        refine ⟨a1, fun t ht => ?_⟩
        by_cases q : t = i
        · rw [q]; exact a3
        · exact a2 t (by omega)
      · intro ⟨a1, a2⟩
        exact ⟨⟨a1, fun t ht => a2 t (by omega)⟩, a2 i (by omega)⟩
  · rintro m q ⟨b1, rfl, hb1⟩
    obtain ⟨b2, e2, hb2⟩ := l77 b1
    refine ⟨b2, ?_, by rw [hb2, hb1, and_assoc]⟩
    rw [f_X11_takesFree_33, ldA_l (by decide) (by decide), s2', if_pos (by rw [le_nn (by omega) (by omega)]; exact Nat.le_refl _)]
    exact e2
theorem hb_lk {r W H V T : Nat} {C C' : CM} {X X' : XM} (h : HbR (C.1 3 r) (X.1 3) (X.1 0) (X.2 5) W H V T) (hc : C'.1 3 r = C.1 3 r) (hx : LkF X X') : HbR (C'.1 3 r) (X'.1 3) (X'.1 0) (X'.2 5) W H V T := by
  have e5 : X'.2 5 = X.2 5 := funext fun x => hx.2.2 5 x (by omega)
  rw [hc, hx.1 3 (by omega), e5]
  obtain ⟨z_bd, z_w, z_h, z_o, z_t, z_yd, z_ln, z_g, z_rn, z_re, z_vb, z_ed, z_hm, z_gd, z_sh, z_sk, z_vn, z_pc, z_pl, z_tr, z_ey, z_gu, z_fe, z_th, z_nm⟩ := h
  have f : ∀ x, 19 ≤ x → x ≤ 24 → X'.1 0 x = X.1 0 x := fun x h1 h2 => hx.2.1 x (by omega) (by omega) (by omega) (by omega) (by omega) (by omega) (by omega) (by omega) (by omega)
  refine ⟨z_bd, z_w, z_h, z_o, z_t, ?_, ?_, z_g, ?_, z_re, ?_, ?_, z_hm, z_gd, z_sh, z_sk, z_vn, z_pc, z_pl, z_tr, z_ey, z_gu, ?_, z_th, z_nm⟩
  · rw [f 23 (by omega) (by omega)]; exact z_yd
  · rw [f 19 (by omega) (by omega)]; exact z_ln
  · rw [f 24 (by omega) (by omega)]; exact z_rn
  · rw [f 20 (by omega) (by omega)]; exact z_vb
  · rw [f 22 (by omega) (by omega)]; exact z_ed
  · rw [f 21 (by omega) (by omega)]; exact z_fe
theorem free_rel {C : CM} {X : XM} {r i W H V T : Nat} (hN : 2000 ≤ N) (h : PsR N C X i) (hb : HbR (C.1 3 r) (X.1 3) (X.1 0) (X.2 5) W H V T) :
    (∃ c X', inY (W, H, V, T) c ∧ C.1 3 r 1 c = 0 ∧ f_X0_takeCell r C = some (nI c, nxC (nxC C i) (i + 1)) ∧ f_X0_refuseIfTaken_b r (nI c) (nxC (nxC C i) (i + 1)) = some (0, nxC (nxC C i) (i + 1)) ∧ f_X11_takesFree N X = some (1, X') ∧ X'.1 0 18 = nI c ∧ PsR N (nxC (nxC C i) (i + 1)) X' (i + 1 + 1) ∧ LkF X X') ∨
    (∃ v C1 C' X', f_X0_takeCell r C = some (v, C1) ∧ f_X0_refuseIfTaken_b r v C1 = some (0, C') ∧ f_X11_takesFree N X = some (0, X') ∧ F1 C C' ∧ FaR C' X' ∧ LkF X X') := by
  have bd := hb_bd hb
  unfold f_X11_takesFree
  rcases cell_rel hN bd.1 bd.2.1 h (hb_w hb).1 (hb_h hb).1 (hb_w hb).2 (hb_h hb).2 with ⟨x, y, X1, x1, y1, c1, c2, c3, c4, c5, c6⟩ | ⟨C', X', c1, c2, c3, c4, c5⟩
  · have hy : inY (W, H, V, T) (y * 10 + x) := ⟨by omega, by simp only; omega, by simp only; omega⟩
    generalize y * 10 + x = c at hy c1 c3
    have hc : c < 100 := hy.1
    have e3 : (nxC (nxC C i) (i + 1)).1 3 r = C.1 3 r := by
      unfold nxC
      rw [stC_ob (by omega), stC_ob (by omega)]
    have hb1 : HbR (C.1 3 r) (X1.1 3) (X1.1 0) (X1.2 5) W H V T := hb_lk hb rfl c6
    obtain ⟨fe, f1, -⟩ := hb_fe hb1
    have ft := free_th (hb_th hb1) bd.2.2.1 bd.2.2.2 hc
    rw [c2, cal_some, if_neg (show ¬ (1 : Int32) = 0 by decide), c3, nI_la, show (OfNat.ofNat 271 : Nat) = 271 from rfl, ldA_nI (by omega) (by omega)]
    obtain ⟨b', e1, e2⟩ := free_30 (X := X1) hN bd.2.2.1 bd.2.2.2 (hb_o hb1).2 (hb_t hb1).2 c3 (decide (X1.1 3 (271 + c) = 0))
    have hsel : (if X1.1 3 (271 + c) = 0 then (f_X11_takesFree_30 N 1 X1) else (f_X11_takesFree_30 N 0 X1)) = f_X11_takesFree_30 N (bI (decide (X1.1 3 (271 + c) = 0))) X1 := by
      by_cases z : X1.1 3 (271 + c) = 0
      · rw [if_pos z, decide_eq_true z]; rfl
      · rw [if_neg z, decide_eq_false z]; rfl
    rw [hsel, e1]
    have z01 : (X1.1 3 (271 + c) = 0) ↔ X1.1 3 (271 + c) ≠ 1 := by
      have q := f1 c hc
      rw [q.2]
      rcases (show fe c = 0 ∨ fe c = 1 by omega) with z | z
      · rw [z]; decide
      · rw [z]; decide
    have iff : b' = true ↔ C.1 3 r 1 c = 0 := by
      rw [e2, ft, decide_eq_true_iff, z01]
      exact ⟨fun q => ⟨q.2.1, q.2.2, q.1⟩, fun q => ⟨q.2.2, q.1, q.2.1⟩⟩
    have rf : f_X0_refuseIfTaken_b r (nI c) (nxC (nxC C i) (i + 1)) = (if C.1 3 r 1 c = 0 then some (0, nxC (nxC C i) (i + 1)) else cal (f_X7_blameTaken 3 (nxC (nxC C i) (i + 1))) (fun _ C6 => rt 0 C6)) := by
      unfold f_X0_refuseIfTaken_b
      rw [if_neg (nI_nneg (by omega)), if_neg (by simp (disch := omega) only [le_ln]; omega), ldA_nI (by omega) (by omega), e3]
      rfl
    by_cases z : C.1 3 r 1 c = 0
    · rw [iff.mpr z, if_neg (show ¬ bI true = (0 : Int32) by decide)]
      obtain ⟨X2, n1, n2, n3⟩ := next_rel hN c4 (by unfold nxC; rw [stC_row (by omega), c5]; decide) (by unfold nxC; rw [stC_row (by omega), c5]; decide)
      rw [n1, cal_some]
      refine Or.inl ⟨c, X2, hy, z, c1, by rw [rf, if_pos z], rfl, ?_, n3, c6.trans (lk_nx n2)⟩
      rw [n2.2.1 18 (by omega) (by omega) (by omega) (by omega) (by omega)]
      exact c3
    · have bf : b' = false := by
        cases b'
        · rfl
        · exact absurd (iff.mp rfl) z
      rw [bf, if_pos (show bI false = (0 : Int32) from rfl)]
      refine Or.inr ⟨nI c, _, _, bdX X1 3, c1, by rw [rf, if_neg z, ps_taken c4, cal_some]; rfl, rfl, nx_f1.trans (nx_f1.trans bl_f1), (bl_fa c4 (by decide)).2, c6.trans (lk_bd bd_bdf)⟩
  · rw [c2, cal_some, if_pos rfl]
    exact Or.inr ⟨-1, C', C', X', c1, ref_m1.1, rfl, c3, c4, c5⟩
end LNB
