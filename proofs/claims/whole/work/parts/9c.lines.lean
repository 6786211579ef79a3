/-! Lines of the bank without names: tree, fence, yard, run, eddy, gust. -/
section LN1
variable {N : Nat} {C : CM} {X : XM} {r i W H V T : Nat}
theorem nx_3 : (nxC C i).1 3 r = C.1 3 r := by
  unfold nxC
  exact stC_ob (by omega)
theorem tree_line (hN : 2000 ≤ N) (h : PsR N C X i) (hw : C.1 1 0 1 i = 2) (hb : HbR (C.1 3 r) (X.1 3) (X.1 0) (X.2 5) W H V T) : LineP N r C X (f_X0_readTree r (nxC C i)) (ldA (X.1 3) 371 3 (fun v65 => (if v65 = 12 then cal (f_X11_bad 4 X) (fun v76 X77 => (chk (isB v76) (rt v76 X77))) else cal (f_X11_next N X) (fun _ X68 => cal (f_X11_takesFree N X68) (fun v69 X70 => (if v69 = 0 then (rt 0 X70) else ldA (X70.1 3) 371 3 (fun v72 => sxA X70 3 371 (63 + v72) (X70.1 0 18) (fun X73 => ldA (X73.1 3) 371 3 (fun v74 => sxA X73 3 371 3 (v74 + 1) (fun X75 => (rt 1 X75))))))))))) := by
  have bd := hb_bd hb
  have t1 : (nxC C i).1 3 r 0 3 = nI T := by rw [nx_3]; exact (hb_t hb).1
  have t2 : X.1 3 (OfNat.ofNat 3) = nI T := (hb_t hb).2
  unfold f_X0_readTree
  rw [ldA_l (by decide) (by decide), t1, t2]
  simp (disch := omega) only [lt_nl, eq_nl]
  by_cases hT : T = 12
  · have hf := (bl_fa h (show (4 : Int32) ≠ 0 by decide)).2
    rw [if_neg (by omega), if_pos hT, ps_taken h, cal_some, bad_eq, cal_some, fa_tree14 hf.1]
    exact Or.inr ⟨_, _, rfl, rfl, hf, nx_f1.trans bl_f1, gb_lk (lk_bd bd_bdf)⟩
  · rw [if_pos (show T < 12 by omega), if_neg hT]
    obtain ⟨X4, a1, a2, a3⟩ := next_rel hN h (by rw [hw]; decide) (by rw [hw]; decide)
    rw [a1, cal_some]
    have hb4 := hb_lk hb (nx_3 (i := i)) (lk_nx a2)
    unfold f_X0_readTree_14
    rcases free_rel hN a3 hb4 with ⟨c, X5, y1, y2, y3, y4, y5, y6, y7, y8⟩ | ⟨v, C1, C', X', y1, y2, y3, y4, y5, y6⟩
    · have eD : (nxC (nxC (nxC C i) (i + 1)) (i + 1 + 1)).1 3 r = (nxC C i).1 3 r := by rw [nx_3, nx_3]
      have hb5 := hb_lk hb4 eD y8
      have fD : F1 C (nxC (nxC (nxC C i) (i + 1)) (i + 1 + 1)) := nx_f1.trans (nx_f1.trans nx_f1)
      rw [y3, cal_some, y4, cal_some, ps_sound y7, cal_some, if_neg (show ¬ (1 : Int32) = 0 by decide), y5, cal_some, if_neg (show ¬ (1 : Int32) = 0 by decide)]
      rw [← eD] at y2
      generalize nxC (nxC (nxC C i) (i + 1)) (i + 1 + 1) = D at y7 hb5 fD y2 ⊢
      have hc : c < 100 := y1.1
      have d1 := (hb_t hb5).1
      have d2 : X5.1 3 (OfNat.ofNat 3) = nI T := (hb_t hb5).2
      have e1 : ∀ v : Int32, (stC D 3 r 1 c v).1 3 r 0 3 = nI T := fun v => by rw [stC_row (by omega)]; exact d1
      have e2 : ∀ v w : Int32, (stC (stC D 3 r 1 c v) 3 r 3 T w).1 3 r 0 3 = nI T := fun v w => by rw [stC_row (by omega)]; exact e1 v
      have e3 : ∀ v : Int32, (stX X5 3 (63 + T) v).1 3 (OfNat.ofNat 3) = nI T := fun v => by rw [stX_ne (by show 3 ≠ 63 + T; omega)]; exact d2
      rw [d1, if_neg (by simp (disch := omega) only [le_ln]; omega), if_neg (nI_nneg (by omega)), if_neg (by simp (disch := omega) only [le_ln]; omega), stA_nI (by omega) (by omega), e1, stA_nI (by omega) (by omega), e2, bnd_v, ldA_l (by decide) (by decide), d2, y6, nI_la, nI_la, nI_al, show (OfNat.ofNat 63 : Nat) = 63 from rfl, sxA_nI (by omega) (by omega), ldA_l (by decide) (by decide), e3, nI_al, sxA_l (by decide) (by decide)]
      refine Or.inl ⟨stC (stC (stC D 3 r 1 c (nI (32 + T))) 3 r 3 T (nI c)) 3 r 0 3 (nI (T + 1)), stX (stX X5 3 (63 + T) (nI c)) 3 3 (nI (T + 1)), i + 1 + 1 + 1, W, H, V, T + 1, rfl, rfl, ⟨i, ps_4 h, by omega⟩, psR_c y7 (by rw [stC_ob (by omega), stC_ob (by omega), stC_ob (by omega)]) ((xp_row (by omega) (by omega)).trans (xp_row (by omega) (by omega))), (fb_f1 fD).trans (fb_st.trans (fb_st.trans fb_st)), (gb_lk (lk_nx a2)).trans ((gb_lk y8).trans (gb_3.trans gb_3)), ?_⟩
      refine hb_tree hb5 (c := c) (by omega) y1 y2 (fun j x h1 h2 h3 => ?_) (fun x h1 h2 => ?_) (fun x h1 h2 => ?_) ?_ ?_ ?_ ?_ ?_
      · simp only [stC]
        rw [if_neg (by omega), if_neg (by omega), if_neg (by omega)]
      · rw [stX_ne h2, stX_ne h1]
      · rw [stX_row (by omega), stX_row (by omega)]
      · rw [stC_row (by omega), stC_row (by omega), stC_at]
      · rw [stC_row (by omega), stC_at]
      · rw [stX_ne (by omega), stX_at]
      · exact stC_at
      · exact stX_at
    · rw [y1, cal_some, y2, cal_some, fa_sound y5.1, cal_some, if_pos rfl, y3, cal_some, if_pos rfl]
      exact Or.inr ⟨C', X', rfl, rfl, y5, nx_f1.trans y4, (gb_lk (lk_nx a2)).trans (gb_lk y6)⟩
theorem fence_line (hN : 2000 ≤ N) (h : PsR N C X i) (hw : C.1 1 0 1 i = 2) (hb : HbR (C.1 3 r) (X.1 3) (X.1 0) (X.2 5) W H V T) : LineP N r C X (f_X0_readFence r (nxC C i)) (if (X.1 0 21) = 12 then cal (f_X11_bad 4 X) (fun v63 X64 => (chk (isB v63) (rt v63 X64))) else cal (f_X11_next N X) (fun _ X57 => cal (f_X11_takesFree N X57) (fun v58 X59 => (if v58 = 0 then (rt 0 X59) else sxA X59 3 371 (271 + (X59.1 0 18)) 1 (fun X61 => bnd (stX X61 0 21 ((X61.1 0 21) + 1)) (fun X62 => (rt 1 X62))))))) := by
  have bd := hb_bd hb
  obtain ⟨fe, f1, f2, f3, f4⟩ := hb_fe hb
  have t1 : (nxC C i).1 3 r 0 4 = nI (sumN fe 100) := by rw [nx_3]; exact f3
  unfold f_X0_readFence
  rw [t1]
  by_cases hT : sumN fe 100 = 12
  · have hf := (bl_fa h (show (4 : Int32) ≠ 0 by decide)).2
    rw [if_neg (by rw [hT]; decide), if_pos (by rw [f4, hT]; rfl), ps_taken h, cal_some, bad_eq, cal_some, fa_fence14 hf.1]
    exact Or.inr ⟨_, _, rfl, rfl, hf, nx_f1.trans bl_f1, gb_lk (lk_bd bd_bdf)⟩
  · have h21 : X.1 0 21 ≠ 12 := by
      rw [f4, ne_eq, eq_nl (by omega) (by decide)]
      exact hT
    rw [if_pos (by simp (disch := omega) only [lt_nl]; omega), if_neg h21]
    obtain ⟨X4, a1, a2, a3⟩ := next_rel hN h (by rw [hw]; decide) (by rw [hw]; decide)
    rw [a1, cal_some]
    have hb4 := hb_lk hb (nx_3 (i := i)) (lk_nx a2)
    unfold f_X0_readFence_14
    rcases free_rel hN a3 hb4 with ⟨c, X5, y1, y2, y3, y4, y5, y6, y7, y8⟩ | ⟨v, C1, C', X', y1, y2, y3, y4, y5, y6⟩
    · have eD : (nxC (nxC (nxC C i) (i + 1)) (i + 1 + 1)).1 3 r = (nxC C i).1 3 r := by rw [nx_3, nx_3]
      have hb5 := hb_lk hb4 eD y8
      have e21 : X5.1 0 21 ≠ 12 := by
        rw [y8.2.1 21 (by omega) (by omega) (by omega) (by omega) (by omega) (by omega) (by omega) (by omega) (by omega), a2.2.1 21 (by omega) (by omega) (by omega) (by omega) (by omega)]
        exact h21
      have fD : F1 C (nxC (nxC (nxC C i) (i + 1)) (i + 1 + 1)) := nx_f1.trans (nx_f1.trans nx_f1)
      rw [y3, cal_some, y4, cal_some, ps_sound y7, cal_some, if_neg (show ¬ (1 : Int32) = 0 by decide), y5, cal_some, if_neg (show ¬ (1 : Int32) = 0 by decide)]
      rw [← eD] at y2
      generalize nxC (nxC (nxC C i) (i + 1)) (i + 1 + 1) = D at y7 hb5 fD y2 ⊢
      have hc : c < 100 := y1.1
      rw [if_neg (nI_nneg (by omega)), if_neg (by simp (disch := omega) only [le_ln]; omega), stA_nI (by omega) (by omega), bnd_v, y6, nI_la, show (OfNat.ofNat 271 : Nat) = 271 from rfl, sxA_nI (by omega) (by omega), bnd_v]
      have p1 : (stC D 3 r 1 c 48).1 3 r 0 4 = D.1 3 r 0 4 := by rw [stC_row (by omega)]
      have p2 : (stX X5 3 (271 + c) 1).1 0 21 = X5.1 0 21 := by rw [stX_row (by omega)]
      rw [p1, p2]
      refine Or.inl ⟨stC (stC D 3 r 1 c 48) 3 r 0 4 (D.1 3 r 0 4 + 1), stX (stX X5 3 (271 + c) 1) 0 21 (X5.1 0 21 + 1), i + 1 + 1 + 1, W, H, V, T, rfl, rfl, ⟨i, ps_4 h, by omega⟩, psR_c y7 (by rw [stC_ob (by omega), stC_ob (by omega)]) ((xp_row (by omega) (by omega)).trans (xp_f (by omega))), (fb_f1 fD).trans (fb_st.trans fb_st), (gb_lk (lk_nx a2)).trans ((gb_lk y8).trans (gb_3.trans (gb_f (by omega)))), ?_⟩
      refine hb_fence hb5 (c := c) e21 y1 y2 (fun j x h1 h2 => ?_) (fun x h1 => ?_) (fun x h1 h2 h3 => ?_) ?_ ?_ ?_ ?_
      · simp only [stC]
        rw [if_neg (by omega), if_neg (by omega)]
      · rw [stX_row (by omega), stX_ne h1]
      · rw [stX_ne h3, stX_row (by omega)]
      · rw [stC_row (by omega), stC_at]
      · rw [stX_row (by omega), stX_at]
      · exact stC_at
      · exact stX_at
    · rw [y1, cal_some, y2, cal_some, fa_sound y5.1, cal_some, if_pos rfl, y3, cal_some, if_pos rfl]
      exact Or.inr ⟨C', X', rfl, rfl, y5, nx_f1.trans y4, (gb_lk (lk_nx a2)).trans (gb_lk y6)⟩
theorem run_line (hN : 2000 ≤ N) (h : PsR N C X i) (hw : C.1 1 0 1 i = 2) (hb : HbR (C.1 3 r) (X.1 3) (X.1 0) (X.2 5) W H V T) : LineP N r C X (f_X0_readRun r (nxC C i)) (if (X.1 0 24) = 0 then bnd (stX X 0 24 1) (fun X32 => cal (f_X11_next N X32) (fun _ X34 => cal (f_X11_takes N 0 99 X34) (fun v35 X36 => (if v35 = 0 then (rt 0 X36) else sxA X36 3 371 5 (X36.1 0 18) (fun X38 => cal (f_X11_takes N 0 999 X38) (fun v39 X40 => (if v39 = 0 then (rt 0 X40) else sxA X40 3 371 6 (X40.1 0 18) (fun X42 => (rt 1 X42))))))))) else cal (f_X11_bad 3 X) (fun v43 X44 => (chk (isB v43) (rt v43 X44)))) := by
  have t1 : (nxC C i).1 3 r 0 7 = C.1 3 r 0 7 := by rw [nx_3]
  unfold f_X0_readRun
  rw [t1]
  rcases hb_rn hb with ⟨q1, q2⟩ | ⟨q1, q2⟩
  · rw [if_pos q1, if_pos q2, bnd_v]
    have p0 : PsR N C (stX X 0 24 1) i := psR_c h rfl (xp_f (by omega))
    obtain ⟨X4, a1, a2, a3⟩ := next_rel hN p0 (by rw [hw]; decide) (by rw [hw]; decide)
    rw [a1, cal_some]
    unfold f_X0_readRun_12
    have g4 : GB X X4 := (gb_f (x := 24) (v := 1) (by omega)).trans (gb_lk (lk_nx a2))
    rcases number_rel hN a3 (lo := 0) (hi := 99) (by omega) (by omega) with ⟨z, X5, z1, z2, z3, n1, n2, n3, n4⟩ | ⟨C', X', n1, n2, n3, n4, n5⟩
    · have n1' : f_X7_takeNumber 0 99 (nxC C i) = _ := n1
      have n2' : f_X11_takes N 0 99 X4 = _ := n2
      rw [n1', n2', cal_some, cal_some, if_neg (show ¬ (1 : Int32) = 0 by decide), sxA_l (by decide) (by decide), nx_18 n3, show (OfNat.ofNat 5 : Nat) = 5 from rfl]
      have p5 : PsR N (nxC (nxC C i) (i + 1)) (stX X5 3 5 (nI z)) (i + 1 + 1) := psR_c n4 rfl (xp_row (by omega) (by omega))
      have g5 : GB X (stX X5 3 5 (nI z)) := g4.trans ((gb_f (x := 18) (by omega)).trans ((gb_lk (lk_nx n3)).trans gb_3))
      rcases number_rel hN p5 (lo := 0) (hi := 999) (by omega) (by omega) with ⟨y, X6, y1, y2, y3, m1, m2, m3, m4⟩ | ⟨C', X', m1, m2, m3, m4, m5⟩
      · have m1' : f_X7_takeNumber 0 999 (nxC (nxC C i) (i + 1)) = _ := m1
        have m2' : f_X11_takes N 0 999 (stX X5 3 5 (nI z)) = _ := m2
        rw [m1', m2', cal_some, cal_some, if_neg (show ¬ (1 : Int32) = 0 by decide), sxA_l (by decide) (by decide), nx_18 m3, show (OfNat.ofNat 6 : Nat) = 6 from rfl, ps_sound m4, cal_some, if_neg (show ¬ (1 : Int32) = 0 by decide), bnd_v, bnd_v, bnd_v]
        have eD : (nxC (nxC (nxC C i) (i + 1)) (i + 1 + 1)).1 3 r = C.1 3 r := by rw [nx_3, nx_3, nx_3]
        have fD : F1 C (nxC (nxC (nxC C i) (i + 1)) (i + 1 + 1)) := nx_f1.trans (nx_f1.trans nx_f1)
        generalize nxC (nxC (nxC C i) (i + 1)) (i + 1 + 1) = D at m4 eD fD ⊢
        refine Or.inl ⟨_, stX X6 3 6 (nI y), i + 1 + 1 + 1, W, H, V, T, rfl, rfl, ⟨i, ps_4 h, by omega⟩, psR_c m4 (by rw [stC_ob (by omega), stC_ob (by omega), stC_ob (by omega)]) (xp_row (by omega) (by omega)), (fb_f1 fD).trans (fb_st.trans (fb_st.trans fb_st)), g5.trans ((gb_f (x := 18) (by omega)).trans ((gb_lk (lk_nx m3)).trans gb_3)), ?_⟩
        have x3 : ∀ x, X6.1 3 x = if x = 5 then nI z else X.1 3 x := fun x => by
          rw [m3.1 3 (by omega), stX_row (by omega), stX_if, n3.1 3 (by omega), stX_row (by omega), a2.1 3 (by omega), stX_row (by omega)]
        have x0 : ∀ x, 19 ≤ x → x ≤ 24 → X6.1 0 x = if x = 24 then 1 else X.1 0 x := fun x h1 h2 => by
          rw [m3.2.1 x (by omega) (by omega) (by omega) (by omega) (by omega), stX_ne (by omega), stX_row (by omega), n3.2.1 x (by omega) (by omega) (by omega) (by omega) (by omega), stX_ne (by omega), a2.2.1 x (by omega) (by omega) (by omega) (by omega) (by omega), stX_if]
        have x5 : X6.2 5 = X.2 5 := funext fun x => by
          rw [m3.2.2 5 x (by omega), stX_2, stX_2, n3.2.2 5 x (by omega), stX_2, a2.2.2 5 x (by omega), stX_2]
        show HbR _ _ _ (X6.2 5) W H V T
        rw [x5]
        refine hb_run hb (e := z) (c := y) z2 y2 (fun j x h1 h2 h3 => ?_) (fun x h1 h2 => ?_) (fun x h1 h2 h3 => ?_) ?_ ?_ ?_ ?_ ?_ ?_
        · rw [← eD]
          simp only [stC]
          rw [if_neg (by omega), if_neg (by omega), if_neg (by omega)]
        · rw [stX_ne h2, x3, if_neg h1]
        · rw [stX_row (by omega), x0 x h1 h2, if_neg h3]
        · rw [stC_ne (by omega), stC_ne (by omega), stC_at]
        · rw [stC_ne (by omega), stC_at]
        · exact stC_at
        · rw [stX_ne (by omega), x3, if_pos rfl]
        · exact stX_at
        · rw [stX_row (by omega), x0 24 (by omega) (by omega), if_pos rfl]; decide
      · have m1' : f_X7_takeNumber 0 999 (nxC (nxC C i) (i + 1)) = _ := m1
        have m2' : f_X11_takes N 0 999 (stX X5 3 5 (nI z)) = _ := m2
        rw [m1', m2', cal_some, cal_some, if_pos rfl, fa_sound m4.1, cal_some, if_pos rfl]
        exact Or.inr ⟨C', X', rfl, rfl, m4, nx_f1.trans (nx_f1.trans m3), g5.trans (gb_lk (lk_bd m5))⟩
    · have n1' : f_X7_takeNumber 0 99 (nxC C i) = _ := n1
      have n2' : f_X11_takes N 0 99 X4 = _ := n2
      rw [n1', n2', cal_some, cal_some, if_pos rfl, fa_number n4.1, cal_some, fa_sound n4.1, cal_some, if_pos rfl]
      exact Or.inr ⟨C', X', rfl, rfl, n4, nx_f1.trans n3, g4.trans (gb_lk (lk_bd n5))⟩
  · have hf := (bl_fa h (show (3 : Int32) ≠ 0 by decide)).2
    rw [if_neg (by rw [q1]; decide), if_neg q2, ps_taken h, cal_some, bad_eq, cal_some, fa_run12 hf.1]
    exact Or.inr ⟨_, _, rfl, rfl, hf, nx_f1.trans bl_f1, gb_lk (lk_bd bd_bdf)⟩
theorem yard_line (hN : 2000 ≤ N) (h : PsR N C X i) (hw : C.1 1 0 1 i = 2) (hb : HbR (C.1 3 r) (X.1 3) (X.1 0) (X.2 5) W H V T) : LineP N r C X (f_X0_readYard r (nxC C i)) (if (X.1 0 23) = 0 then bnd (stX X 0 23 1) (fun X91 => cal (f_X11_next N X91) (fun _ X93 => (f_X11_line_34 N N 0 X93))) else cal (f_X11_bad 3 X) (fun v94 X95 => (chk (isB v94) (rt v94 X95)))) := by
  have bd := hb_bd hb
  have t1 : (nxC C i).1 3 r 0 1 = nI W := by rw [nx_3]; exact (hb_w hb).1
  unfold f_X0_readYard
  rw [t1]
  rcases hb_yd hb with ⟨q2, q1⟩ | ⟨q2, q1⟩
  · rw [if_pos (by rw [q1]; rfl), if_pos q2, bnd_v]
    have p0 : PsR N C (stX X 0 23 1) i := psR_c h rfl (xp_f (by omega))
    obtain ⟨X4, a1, a2, a3⟩ := next_rel hN p0 (by rw [hw]; decide) (by rw [hw]; decide)
    rw [a1, cal_some]
    unfold f_X0_readYard_12
    have g4 : GB X X4 := (gb_f (x := 23) (v := 1) (by omega)).trans (gb_lk (lk_nx a2))
    obtain ⟨fu, hfu⟩ : ∃ fu, N = fu + 3 := ⟨N - 3, by omega⟩
    have l1 : f_X11_line_34 N N 0 X4 = cal (f_X11_takes N 2 10 X4) (fun v2 X3 => (if v2 = 0 then (rt 0 X3) else sxA X3 3 371 (0 + 0) (X3.1 0 18) (fun X5 => (f_X11_line_34 N (fu + 2) (0 + 1) X5)))) := by
      have e : ∀ m, m = fu + 3 → f_X11_line_34 N m 0 X4 = cal (f_X11_takes N 2 10 X4) (fun v2 X3 => (if v2 = 0 then (rt 0 X3) else sxA X3 3 371 (0 + 0) (X3.1 0 18) (fun X5 => (f_X11_line_34 N (fu + 2) (0 + 1) X5)))) := by
        intro m hm
        subst hm
        rw [f_X11_line_34, if_neg (by decide)]
      exact e N hfu
    have l2 : ∀ Y, f_X11_line_34 N (fu + 2) (0 + 1) Y = cal (f_X11_takes N 2 10 Y) (fun v2 X3 => (if v2 = 0 then (rt 0 X3) else sxA X3 3 371 (0 + (0 + 1)) (X3.1 0 18) (fun X5 => (rt 1 X5)))) := by
      intro Y
      rw [f_X11_line_34, if_neg (by decide)]
      have e : ∀ Z, f_X11_line_34 N (fu + 1) (0 + 1 + 1) Z = rt 1 Z := fun Z => by rw [f_X11_line_34, if_pos (by decide)]
      simp only [e]
    rw [l1]
    rcases number_rel hN a3 (lo := 2) (hi := 10) (by omega) (by omega) with ⟨z, X5, z1, z2, z3, n1, n2, n3, n4⟩ | ⟨C', X', n1, n2, n3, n4, n5⟩
    · have n1' : f_X7_takeNumber 2 10 (nxC C i) = _ := n1
      have n2' : f_X11_takes N 2 10 X4 = _ := n2
      rw [n1', n2', cal_some, cal_some, if_neg (show ¬ (1 : Int32) = 0 by decide), show (0 : Int32) + 0 = nI 0 from rfl, sxA_nI (by decide) (by decide), nx_18 n3, l2]
      have p5 : PsR N (nxC (nxC C i) (i + 1)) (stX X5 3 0 (nI z)) (i + 1 + 1) := psR_c n4 rfl (xp_row (by omega) (by omega))
      have g5 : GB X (stX X5 3 0 (nI z)) := g4.trans ((gb_f (x := 18) (by omega)).trans ((gb_lk (lk_nx n3)).trans gb_3))
      rcases number_rel hN p5 (lo := 2) (hi := 10) (by omega) (by omega) with ⟨y, X6, y1, y2, y3, m1, m2, m3, m4⟩ | ⟨C', X', m1, m2, m3, m4, m5⟩
      · have m1' : f_X7_takeNumber 2 10 (nxC (nxC C i) (i + 1)) = _ := m1
        have m2' : f_X11_takes N 2 10 (stX X5 3 0 (nI z)) = _ := m2
        rw [m1', m2', cal_some, cal_some, if_neg (show ¬ (1 : Int32) = 0 by decide), show (0 : Int32) + (0 + 1) = nI 1 from rfl, sxA_nI (by decide) (by decide), nx_18 m3, ps_sound m4, cal_some, if_neg (show ¬ (1 : Int32) = 0 by decide), bnd_v, bnd_v]
        have eD : (nxC (nxC (nxC C i) (i + 1)) (i + 1 + 1)).1 3 r = C.1 3 r := by rw [nx_3, nx_3, nx_3]
        have fD : F1 C (nxC (nxC (nxC C i) (i + 1)) (i + 1 + 1)) := nx_f1.trans (nx_f1.trans nx_f1)
        generalize nxC (nxC (nxC C i) (i + 1)) (i + 1 + 1) = D at m4 eD fD ⊢
        refine Or.inl ⟨_, stX X6 3 1 (nI y), i + 1 + 1 + 1, z, y, V, T, rfl, rfl, ⟨i, ps_4 h, by omega⟩, psR_c m4 (by rw [stC_ob (by omega), stC_ob (by omega)]) (xp_row (by omega) (by omega)), (fb_f1 fD).trans (fb_st.trans fb_st), g5.trans ((gb_f (x := 18) (by omega)).trans ((gb_lk (lk_nx m3)).trans gb_3)), ?_⟩
        have x3 : ∀ x, X6.1 3 x = if x = 0 then nI z else X.1 3 x := fun x => by
          rw [m3.1 3 (by omega), stX_row (by omega), stX_if, n3.1 3 (by omega), stX_row (by omega), a2.1 3 (by omega), stX_row (by omega)]
        have x0 : ∀ x, 19 ≤ x → x ≤ 24 → X6.1 0 x = if x = 23 then 1 else X.1 0 x := fun x h1 h2 => by
          rw [m3.2.1 x (by omega) (by omega) (by omega) (by omega) (by omega), stX_ne (by omega), stX_row (by omega), n3.2.1 x (by omega) (by omega) (by omega) (by omega) (by omega), stX_ne (by omega), a2.2.1 x (by omega) (by omega) (by omega) (by omega) (by omega), stX_if]
        have x5 : X6.2 5 = X.2 5 := funext fun x => by
          rw [m3.2.2 5 x (by omega), stX_2, stX_2, n3.2.2 5 x (by omega), stX_2, a2.2.2 5 x (by omega), stX_2]
        show HbR _ _ _ (X6.2 5) z y V T
        rw [x5]
        refine hb_yard hb (w := z) (hh := y) q1 (by omega) z2 y2 (fun j x h1 h2 => ?_) (fun x h1 h2 => ?_) (fun x h1 h2 h3 => ?_) ?_ ?_ ?_ ?_ ?_
        · rw [← eD]
          simp only [stC]
          rw [if_neg (by omega), if_neg (by omega)]
        · rw [stX_ne h2, x3, if_neg h1]
        · rw [stX_row (by omega), x0 x h1 h2, if_neg h3]
        · rw [stC_ne (by omega), stC_at]
        · exact stC_at
        · rw [stX_ne (by omega), x3, if_pos rfl]
        · exact stX_at
        · rw [stX_row (by omega), x0 23 (by omega) (by omega), if_pos rfl]; decide
      · have m1' : f_X7_takeNumber 2 10 (nxC (nxC C i) (i + 1)) = _ := m1
        have m2' : f_X11_takes N 2 10 (stX X5 3 0 (nI z)) = _ := m2
        rw [m1', m2', cal_some, cal_some, if_pos rfl, fa_sound m4.1, cal_some, if_pos rfl]
        exact Or.inr ⟨C', X', rfl, rfl, m4, nx_f1.trans (nx_f1.trans m3), g5.trans (gb_lk (lk_bd m5))⟩
    · have n1' : f_X7_takeNumber 2 10 (nxC C i) = _ := n1
      have n2' : f_X11_takes N 2 10 X4 = _ := n2
      rw [n1', n2', cal_some, cal_some, if_pos rfl, fa_number n4.1, cal_some, fa_sound n4.1, cal_some, if_pos rfl]
      exact Or.inr ⟨C', X', rfl, rfl, n4, nx_f1.trans n3, g4.trans (gb_lk (lk_bd n5))⟩
  · have hf := (bl_fa h (show (3 : Int32) ≠ 0 by decide)).2
    rw [if_neg (by rw [show (0 : Int32) = nI 0 from rfl, eq_nn (by omega) (by omega)]; exact q1), if_neg q2, ps_taken h, cal_some, bad_eq, cal_some, fa_yard12 hf.1]
    exact Or.inr ⟨_, _, rfl, rfl, hf, nx_f1.trans bl_f1, gb_lk (lk_bd bd_bdf)⟩
end LN1
