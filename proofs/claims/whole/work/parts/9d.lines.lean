/-! Lines of the bank: eddy, gust. -/
section LN2
variable {N : Nat} {C : CM} {X : XM} {r i W H V T : Nat}
theorem eddy_line (hN : 2000 ≤ N) (h : PsR N C X i) (hw : C.1 1 0 1 i = 2) (hb : HbR (C.1 3 r) (X.1 3) (X.1 0) (X.2 5) W H V T) : LineP N r C X (f_X0_readEddy r (nxC C i)) (f_X11_readEddy N X) := by
  have bd := hb_bd hb
  obtain ⟨e, e1, e2, e3⟩ := hb_ed hb
  have t1 : (nxC C i).1 3 r 0 5 = nI e := by rw [nx_3]; exact e2
  unfold f_X0_readEddy f_X11_readEddy
  rw [t1, e3]
  by_cases hT : e = 8
  · have hf := (bl_fa h (show (4 : Int32) ≠ 0 by decide)).2
    rw [if_neg (by rw [hT]; decide), if_pos (by rw [hT]; rfl), ps_taken h, cal_some, bad_eq, cal_some, fa_eddy14 hf.1]
    exact Or.inr ⟨_, _, rfl, rfl, hf, nx_f1.trans bl_f1, gb_lk (lk_bd bd_bdf)⟩
  rw [if_pos (by simp (disch := omega) only [lt_nl]; omega), if_neg (by rw [eq_nl (by omega) (by decide)]; exact hT), bnd_v, nI_al]
  have p0 : PsR N C (stX X 0 22 (nI (e + 1))) i := psR_c h rfl (xp_f (by omega))
  obtain ⟨X4, a1, a2, a3⟩ := next_rel hN p0 (by rw [hw]; decide) (by rw [hw]; decide)
  have a1' : f_X11_next N (stX X 0 22 (nI (e + (OfNat.ofNat 1)))) = some (0, X4) := a1
  rw [a1', cal_some]
  have g4 : GB X X4 := (gb_f (x := 22) (by omega)).trans (gb_lk (lk_nx a2))
  have s4 : X4.1 3 = X.1 3 := by rw [a2.1 3 (by omega), stX_row (by omega)]
  unfold f_X0_readEddy_14
  rcases cell_rel (b := r) hN bd.1 bd.2.1 a3 (by rw [nx_3]; exact (hb_w hb).1) (by rw [nx_3]; exact (hb_h hb).1) (by rw [s4]; exact (hb_w hb).2) (by rw [s4]; exact (hb_h hb).2) with ⟨x, y, X5, x1, y1, c1, c2, c3, c4, c5, c6⟩ | ⟨C', X', c1, c2, c3, c4, c5⟩
  · have hc : y * 10 + x < 100 := by omega
    generalize y * 10 + x = c at hc c1 c3
    have e5 : (nxC (nxC (nxC C i) (i + 1)) (i + 1 + 1)).1 3 r = C.1 3 r := by rw [nx_3, nx_3, nx_3]
    have s5 : X5.1 3 = X.1 3 := by rw [c6.1 3 (by omega), s4]
    obtain ⟨v, v1, v2, v3⟩ := hb_ey hb c hc
    have rf : f_X0_refuseIfTaken_e r (nI c) (nxC (nxC (nxC C i) (i + 1)) (i + 1 + 1)) = (if v = 0 then some (0, nxC (nxC (nxC C i) (i + 1)) (i + 1 + 1)) else cal (f_X7_blameTaken 3 (nxC (nxC (nxC C i) (i + 1)) (i + 1 + 1))) (fun _ C6 => rt 0 C6)) := by
      unfold f_X0_refuseIfTaken_e
      rw [if_neg (nI_nneg (by omega)), if_neg (by simp (disch := omega) only [le_ln]; omega), ldA_nI (by omega) (by omega), e5, v2]
      simp (disch := omega) only [eq_nl]
      rfl
    have l0 : X5.1 3 (75 + c) = nI v := by rw [s5]; exact v3
    rw [c1, cal_some, rf, c2, cal_some, if_neg (show ¬ (1 : Int32) = 0 by decide), c3, nI_la, show (OfNat.ofNat 75 : Nat) = 75 from rfl, ldA_nI (by omega) (by omega), l0]
    simp (disch := omega) only [le_nl]
    by_cases z : v = 0
    · rw [if_pos z, cal_some, if_pos (by show v ≤ 0; omega)]
      obtain ⟨X6, b1, b2, b3⟩ := next_rel hN c4 (by unfold nxC; rw [stC_row (by omega)]; unfold nxC at c5; rw [c5]; decide) (by unfold nxC; rw [stC_row (by omega)]; unfold nxC at c5; rw [c5]; decide)
      rw [b1, cal_some]
      have g6 : GB X X6 := g4.trans ((gb_lk c6).trans (gb_lk (lk_nx b2)))
      rcases number_rel hN b3 (lo := 1) (hi := 7) (by omega) (by omega) with ⟨w, X7, z1, z2, z3, n1, n2, n3, n4⟩ | ⟨C', X', n1, n2, n3, n4, n5⟩
      · have n1' : f_X7_takeNumber 1 7 (nxC (nxC (nxC C i) (i + 1)) (i + 1 + 1)) = _ := n1
        have n2' : f_X11_takes N 1 7 X6 = _ := n2
        rw [n1', n2', cal_some, cal_some, if_neg (show ¬ (1 : Int32) = 0 by decide), ps_sound n4, cal_some, if_neg (show ¬ (1 : Int32) = 0 by decide), if_neg (nI_nneg (by omega)), if_neg (by simp (disch := omega) only [le_ln]; omega), stA_nI (by omega) (by omega), bnd_v, sxA_nI (by omega) (by omega), nx_18 n3]
        have eD : (nxC (nxC (nxC (nxC C i) (i + 1)) (i + 1 + 1)) (i + 1 + 1 + 1)).1 3 r = C.1 3 r := by rw [nx_3, nx_3, nx_3, nx_3]
        have fD : F1 C (nxC (nxC (nxC (nxC C i) (i + 1)) (i + 1 + 1)) (i + 1 + 1 + 1)) := nx_f1.trans (nx_f1.trans (nx_f1.trans nx_f1))
        generalize nxC (nxC (nxC (nxC C i) (i + 1)) (i + 1 + 1)) (i + 1 + 1 + 1) = D at n4 eD fD ⊢
        have d5 : (stC D 3 r 2 c (nI w)).1 3 r 0 5 = nI e := by rw [stC_row (by omega), eD]; exact e2
        rw [d5, nI_al]
        refine Or.inl ⟨_, stX X7 3 (75 + c) (nI w), i + 1 + 1 + 1 + 1, W, H, V, T, rfl, rfl, ⟨i, ps_4 h, by omega⟩, psR_c n4 (by rw [stC_ob (by omega), stC_ob (by omega)]) (xp_row (by omega) (by omega)), (fb_f1 fD).trans (fb_st.trans fb_st), g6.trans ((gb_f (x := 18) (by omega)).trans ((gb_lk (lk_nx n3)).trans gb_3)), ?_⟩
        have x3 : X7.1 3 = X.1 3 := by
          rw [n3.1 3 (by omega), stX_row (by omega), b2.1 3 (by omega), s5]
        have x0 : ∀ x, 19 ≤ x → x ≤ 24 → X7.1 0 x = if x = 22 then nI (e + 1) else X.1 0 x := fun x h1 h2 => by
          rw [n3.2.1 x (by omega) (by omega) (by omega) (by omega) (by omega), stX_ne (by omega), b2.2.1 x (by omega) (by omega) (by omega) (by omega) (by omega), c6.2.1 x (by omega) (by omega) (by omega) (by omega) (by omega) (by omega) (by omega) (by omega) (by omega), a2.2.1 x (by omega) (by omega) (by omega) (by omega) (by omega), stX_if]
        have x5 : X7.2 5 = X.2 5 := funext fun x => by
          rw [n3.2.2 5 x (by omega), stX_2, b2.2.2 5 x (by omega), c6.2.2 5 x (by omega), a2.2.2 5 x (by omega), stX_2]
        show HbR _ _ _ (X7.2 5) W H V T
        rw [x5]
        refine hb_eddy hb (c := c) (v := w) (e := e + 1) hc z2 (by omega) (fun j x h1 h2 => ?_) (fun x h1 => ?_) (fun x h1 h2 h3 => ?_) ?_ ?_ ?_ ?_
        · rw [← eD]
          simp only [stC]
          rw [if_neg (by omega), if_neg (by omega)]
        · rw [stX_ne h1, x3]
        · rw [stX_row (by omega), x0 x h1 h2, if_neg h3]
        · rw [stC_row (by omega), stC_at]
        · exact stX_at
        · exact stC_at
        · rw [stX_row (by omega), x0 22 (by omega) (by omega), if_pos rfl]
      · have n1' : f_X7_takeNumber 1 7 (nxC (nxC (nxC C i) (i + 1)) (i + 1 + 1)) = _ := n1
        have n2' : f_X11_takes N 1 7 X6 = _ := n2
        rw [n1', n2', cal_some, cal_some, if_pos rfl, fa_sound n4.1, cal_some, if_pos rfl]
        exact Or.inr ⟨C', X', rfl, rfl, n4, nx_f1.trans (nx_f1.trans (nx_f1.trans n3)), g6.trans (gb_lk (lk_bd n5))⟩
    · have hf := (bl_fa c4 (show (3 : Int32) ≠ 0 by decide)).2
      rw [if_neg z, ps_taken c4, cal_some, cal_rt, fa_number hf.1, cal_some, fa_sound hf.1, cal_some, if_pos rfl, if_neg (by show ¬ v ≤ 0; omega), bad_eq, cal_some]
      exact Or.inr ⟨_, _, rfl, rfl, hf, nx_f1.trans (nx_f1.trans (nx_f1.trans bl_f1)), g4.trans ((gb_lk c6).trans (gb_lk (lk_bd bd_bdf)))⟩
  · rw [c1, cal_some, ref_m1.2, cal_some, fa_number c4.1, cal_some, fa_sound c4.1, cal_some, if_pos rfl, c2, cal_some, if_pos rfl]
    exact Or.inr ⟨C', X', rfl, rfl, c4, nx_f1.trans c3, g4.trans (gb_lk c5)⟩
theorem gust_line (hN : 2000 ≤ N) (h : PsR N C X i) (hw : C.1 1 0 1 i = 2) (hb : HbR (C.1 3 r) (X.1 3) (X.1 0) (X.2 5) W H V T) : LineP N r C X (f_X0_readGust r (nxC C i)) (f_X11_readGust N X) := by
  have bd := hb_bd hb
  obtain ⟨g, e1, e2, e3⟩ := hb_g hb
  have t1 : (nxC C i).1 3 r 0 6 = nI g := by rw [nx_3]; exact e2
  have t2 : X.1 3 (OfNat.ofNat 4) = nI g := e3
  unfold f_X0_readGust f_X11_readGust
  rw [t1, ldA_l (by decide) (by decide), t2]
  by_cases hT : g = 30
  · have hf := (bl_fa h (show (4 : Int32) ≠ 0 by decide)).2
    rw [if_neg (by rw [hT]; decide), if_pos (by rw [hT]; rfl), ps_taken h, cal_some, bad_eq, cal_some, fa_gust14 hf.1]
    exact Or.inr ⟨_, _, rfl, rfl, hf, nx_f1.trans bl_f1, gb_lk (lk_bd bd_bdf)⟩
  rw [if_pos (by simp (disch := omega) only [lt_nl]; omega), if_neg (by rw [eq_nl (by omega) (by decide)]; exact hT)]
  obtain ⟨X4, a1, a2, a3⟩ := next_rel hN h (by rw [hw]; decide) (by rw [hw]; decide)
  rw [a1, cal_some]
  have g4 : GB X X4 := gb_lk (lk_nx a2)
  have s4 : X4.1 3 = X.1 3 := a2.1 3 (by omega)
  unfold f_X0_readGust_14
  have e47 : (47 : Int32) = nI 48 - 1 := by decide
  rcases numC (H := 48) (by omega) a3 with ⟨q, q1, q2, q3, q4, q5, q6⟩ | ⟨q3, q4⟩
  · rw [if_pos q3, q4]
    have ele : (nI q ≤ (47 : Int32)) = (q ≤ 47) := le_nl (by omega) (by decide)
    by_cases hq : q < 48
    · have n1 : f_X7_takeNumber 0 47 (nxC C i) = some (nI q, nxC (nxC C i) (i + 1)) := by rw [e47]; exact q5 hq
      obtain ⟨f, f1, f2, f3, f4⟩ := hb_gu hb q hq
      have l1 : (nxC (nxC C i) (i + 1)).1 3 r 5 q = nI f := by rw [nx_3, nx_3]; exact f2
      have l2 : X4.1 3 (223 + q) = nI f := by rw [s4]; exact f3
      rw [n1, cal_some, if_neg (nI_nneg (by omega)), if_neg (by simp (disch := omega) only [le_ln]; omega), ldA_nI (by omega) (by omega), l1, if_pos (show nI q ≤ (47 : Int32) by rw [ele]; omega), nI_la, nI_la, show (OfNat.ofNat 223 : Nat) = 223 from rfl, show (OfNat.ofNat 175 : Nat) = 175 from rfl, ldA_nI (by omega) (by omega), l2]
      simp (disch := omega) only [le_nl, eq_nl]
      by_cases z : f = 0
      · rw [if_pos z, if_pos (by show f ≤ 0; omega)]
        obtain ⟨X5, b1, b2, b3⟩ := next_rel hN a3 (by rw [q2]; decide) (by rw [q2]; decide)
        rw [b1, cal_some]
        unfold f_X0_readGust_46
        have g5 : GB X X5 := g4.trans (gb_lk (lk_nx b2))
        rcases number_rel hN b3 (lo := 0) (hi := 7) (by omega) (by omega) with ⟨d, X6, z1, z2, z3, n1, n2, n3, n4⟩ | ⟨C', X', n1, n2, n3, n4, n5⟩
        · have n1' : f_X7_takeNumber 0 7 (nxC (nxC C i) (i + 1)) = _ := n1
          have n2' : f_X11_takes N 0 7 X5 = _ := n2
          rw [n1', n2', cal_some, cal_some, if_neg (show ¬ (1 : Int32) = 0 by decide), sxA_nI (by omega) (by omega), nx_18 n3]
          have p6 : PsR N (nxC (nxC (nxC C i) (i + 1)) (i + 1 + 1)) (stX X6 3 (175 + q) (nI d)) (i + 1 + 1 + 1) := psR_c n4 rfl (xp_row (by omega) (by omega))
          have g6 : GB X (stX X6 3 (175 + q) (nI d)) := g5.trans ((gb_f (x := 18) (by omega)).trans ((gb_lk (lk_nx n3)).trans gb_3))
          rcases number_rel hN p6 (lo := 1) (hi := 9) (by omega) (by omega) with ⟨u, X7, y1, y2, y3, m1, m2, m3, m4⟩ | ⟨C', X', m1, m2, m3, m4, m5⟩
          · have m1' : f_X7_takeNumber 1 9 (nxC (nxC (nxC C i) (i + 1)) (i + 1 + 1)) = _ := m1
            have m2' : f_X11_takes N 1 9 (stX X6 3 (175 + q) (nI d)) = _ := m2
            have x3 : ∀ x, X7.1 3 x = if x = 175 + q then nI d else X.1 3 x := fun x => by
              rw [m3.1 3 (by omega), stX_row (by omega), stX_if, n3.1 3 (by omega), stX_row (by omega), b2.1 3 (by omega), s4]
            have x0 : ∀ x, 19 ≤ x → x ≤ 24 → X7.1 0 x = X.1 0 x := fun x h1 h2 => by
              rw [m3.2.1 x (by omega) (by omega) (by omega) (by omega) (by omega), stX_ne (by omega), stX_row (by omega), n3.2.1 x (by omega) (by omega) (by omega) (by omega) (by omega), stX_ne (by omega), b2.2.1 x (by omega) (by omega) (by omega) (by omega) (by omega), a2.2.1 x (by omega) (by omega) (by omega) (by omega) (by omega)]
            have x5 : X7.2 5 = X.2 5 := funext fun x => by
              rw [m3.2.2 5 x (by omega), stX_2, stX_2, n3.2.2 5 x (by omega), stX_2, b2.2.2 5 x (by omega), a2.2.2 5 x (by omega)]
            have x4 : (stX X7 3 (223 + q) (nI u)).1 3 (OfNat.ofNat 4) = nI g := by
              show (stX X7 3 (223 + q) (nI u)).1 3 4 = nI g
              rw [stX_ne (by omega), x3, if_neg (by omega)]; exact e3
            rw [m1', m2', cal_some, cal_some, if_neg (show ¬ (1 : Int32) = 0 by decide), ps_sound m4, cal_some, if_neg (show ¬ (1 : Int32) = 0 by decide), if_neg (nI_nneg (by omega)), if_neg (by simp (disch := omega) only [le_ln]; omega), stA_nI (by omega) (by omega), stA_nI (by omega) (by omega), bnd_v, sxA_nI (by omega) (by omega), nx_18 m3, ldA_l (by decide) (by decide), x4, sxA_l (by decide) (by decide)]
            have eD : (nxC (nxC (nxC (nxC C i) (i + 1)) (i + 1 + 1)) (i + 1 + 1 + 1)).1 3 r = C.1 3 r := by rw [nx_3, nx_3, nx_3, nx_3]
            have fD : F1 C (nxC (nxC (nxC (nxC C i) (i + 1)) (i + 1 + 1)) (i + 1 + 1 + 1)) := nx_f1.trans (nx_f1.trans (nx_f1.trans nx_f1))
            generalize nxC (nxC (nxC (nxC C i) (i + 1)) (i + 1 + 1)) (i + 1 + 1 + 1) = D at m4 eD fD ⊢
            have d5 : (stC (stC D 3 r 4 q (nI d)) 3 r 5 q (nI u)).1 3 r 0 6 = nI g := by rw [stC_row (by omega), stC_row (by omega), eD]; exact e2
            rw [d5, nI_al]
            refine Or.inl ⟨_, stX (stX X7 3 (223 + q) (nI u)) 3 4 (nI (g + 1)), i + 1 + 1 + 1 + 1, W, H, V, T, rfl, rfl, ⟨i, ps_4 h, by omega⟩, psR_c m4 (by rw [stC_ob (by omega), stC_ob (by omega), stC_ob (by omega)]) ((xp_row (by omega) (by omega)).trans (xp_row (by omega) (by omega))), (fb_f1 fD).trans (fb_st.trans (fb_st.trans fb_st)), g6.trans ((gb_f (x := 18) (by omega)).trans ((gb_lk (lk_nx m3)).trans (gb_3.trans gb_3))), ?_⟩
            show HbR _ _ _ (X7.2 5) W H V T
            rw [x5]
            refine hb_gust hb (p := q) (d := d) (f := u) (g := g + 1) hq z2 y2 (by omega) (fun j x h1 h2 h3 => ?_) (fun x h1 h2 h3 => ?_) (fun x h1 h2 => ?_) ?_ ?_ ?_ ?_ ?_ ?_
            · rw [← eD]
              simp only [stC]
              rw [if_neg (by omega), if_neg (by omega), if_neg (by omega)]
            · rw [stX_ne h3, stX_ne h2, x3, if_neg h1]
            · rw [stX_row (by omega), stX_row (by omega), x0 x h1 h2]
            · rw [stC_row (by omega), stC_at]
            · rw [stX_ne (by omega), stX_at]
            · rw [stC_row (by omega), stC_row (by omega), stC_at]
            · rw [stX_ne (by omega), stX_ne (by omega), x3, if_pos rfl]
            · exact stC_at
            · exact stX_at
          · have m1' : f_X7_takeNumber 1 9 (nxC (nxC (nxC C i) (i + 1)) (i + 1 + 1)) = _ := m1
            have m2' : f_X11_takes N 1 9 (stX X6 3 (175 + q) (nI d)) = _ := m2
            rw [m1', m2', cal_some, cal_some, if_pos rfl, fa_sound m4.1, cal_some, if_pos rfl]
            exact Or.inr ⟨C', X', rfl, rfl, m4, nx_f1.trans (nx_f1.trans (nx_f1.trans m3)), g6.trans (gb_lk (lk_bd m5))⟩
        · have n1' : f_X7_takeNumber 0 7 (nxC (nxC C i) (i + 1)) = _ := n1
          have n2' : f_X11_takes N 0 7 X5 = _ := n2
          rw [n1', n2', cal_some, cal_some, if_pos rfl, fa_number n4.1, cal_some, fa_sound n4.1, cal_some, if_pos rfl]
          exact Or.inr ⟨C', X', rfl, rfl, n4, nx_f1.trans (nx_f1.trans n3), g5.trans (gb_lk (lk_bd n5))⟩
      · have hf := (bl_fa a3 (show (3 : Int32) ≠ 0 by decide)).2
        rw [if_neg z, if_neg (by show ¬ f ≤ 0; omega), ps_taken a3, cal_some, bad_eq, cal_some, fa_gust46 hf.1]
        exact Or.inr ⟨_, _, rfl, rfl, hf, nx_f1.trans (nx_f1.trans bl_f1), g4.trans (gb_lk (lk_bd bd_bdf))⟩
    · have n1 : f_X7_takeNumber 0 47 (nxC C i) = some (-1, blC (nxC (nxC C i) (i + 1)) 2 ((nxC C i).1 1 0 3 (i + 1))) := by rw [e47]; exact q6 (by omega)
      have hf := (bl_fa a3 (show (2 : Int32) ≠ 0 by decide)).2
      rw [n1, cal_some, if_pos (show (-1 : Int32) < 0 by decide), fa_gust46 hf.1, if_neg (show ¬ nI q ≤ (47 : Int32) by rw [ele]; omega), bad_eq, cal_some]
      exact Or.inr ⟨_, _, rfl, rfl, hf, nx_f1.trans (nx_f1.trans bl_f1), g4.trans (gb_lk (lk_bd bd_bdf))⟩
  · have n1 : f_X7_takeNumber 0 47 (nxC C i) = some (-1, blC (nxC C i) 1 ((nxC C i).1 1 0 3 (i + 1))) := by rw [e47]; exact q4
    have hf := (bl_fa a3 (show (1 : Int32) ≠ 0 by decide)).1
    rw [n1, cal_some, if_pos (show (-1 : Int32) < 0 by decide), fa_gust46 hf.1, if_neg q3, bad_eq, cal_some]
    exact Or.inr ⟨_, _, rfl, rfl, hf, nx_f1.trans bl_f1, g4.trans (gb_lk (lk_bd bd_bdf))⟩
end LN2
