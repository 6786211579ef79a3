/-! Lines of the bank with names: plot, owner. -/
section LN4
variable {N : Nat} {C : CM} {X : XM} {r i W H V T : Nat}
theorem plot_68 {c : Nat} {a : Int32} (hN : 2000 ≤ N) (e18 : X.1 0 18 = nI c) : ((∃ k, k < 8 ∧ X.1 3 (55 + k) = nI (c + 1)) ∧ f_X11_readPlot_68 N a N 0 X = some (0, bdX X 3)) ∨ ((∀ k, k < 8 → X.1 3 (55 + k) ≠ nI (c + 1)) ∧ f_X11_readPlot_68 N a N 0 X = sxA X 3 371 (55 + a) (nI (c + 1)) (fun X2 => cal (f_X11_next N X2) (fun _ X4 => (rt 1 X4)))) := by
  refine loop1 (fun m i (_ : Unit) => f_X11_readPlot_68 N a m i X) (fun i _ => ∀ k, k < i → X.1 3 (55 + k) ≠ nI (c + 1)) (fun y => ((∃ k, k < 8 ∧ X.1 3 (55 + k) = nI (c + 1)) ∧ y = some (0, bdX X 3)) ∨ ((∀ k, k < 8 → X.1 3 (55 + k) ≠ nI (c + 1)) ∧ y = sxA X 3 371 (55 + a) (nI (c + 1)) (fun X2 => cal (f_X11_next N X2) (fun _ X4 => (rt 1 X4))))) 8 ?_ ?_ 8 0 N () (by omega) (by omega) (fun k hk => absurd hk (Nat.not_lt_zero _))
  · rintro m i ⟨⟩ hi hI
    have e : f_X11_readPlot_68 N a (m + 1) (nI i) X = (if X.1 3 (55 + i) = nI (c + 1) then some (0, bdX X 3) else f_X11_readPlot_68 N a m (nI (i + 1)) X) := by
      rw [f_X11_readPlot_68, e18, bad_eq, cal_some]
      simp (disch := omega) only [le_ln, if_neg, ldA_nI, nI_al, nI_la]
      rfl
    by_cases z : X.1 3 (55 + i) = nI (c + 1)
    · right
      left
      refine ⟨⟨i, hi, z⟩, ?_⟩
      try dsimp only
      rw [e, if_pos z]
    · left
      refine ⟨(), ?_, fun k hk => ?_⟩
      · try dsimp only
        rw [e, if_neg z]
      · by_cases q : k = i
        · rw [q]; exact z
        · exact hI k (by omega)
  · rintro m ⟨⟩ hI
    right
    refine ⟨hI, ?_⟩
    try dsimp only
    rw [f_X11_readPlot_68, if_pos (by decide), e18, nI_al]
theorem plotOn_eq {c : Nat} (hN : 2000 ≤ N) (hV : V ≤ 8) (hc : C.1 3 r 6 0 = nI V) : ((∃ k, k < V ∧ C.1 3 r 14 k = nI c) ∧ f_X1_hasPlotOn N r (nI c) C = some (1, C)) ∨ ((∀ k, k < V → C.1 3 r 14 k ≠ nI c) ∧ f_X1_hasPlotOn N r (nI c) C = some (0, C)) := by
  unfold f_X1_hasPlotOn
  refine loop1 (fun m i (_ : Unit) => f_X1_hasPlotOn_2 N r (nI c) m i C) (fun i _ => ∀ k, k < i → C.1 3 r 14 k ≠ nI c) (fun y => ((∃ k, k < V ∧ C.1 3 r 14 k = nI c) ∧ y = some (1, C)) ∨ ((∀ k, k < V → C.1 3 r 14 k ≠ nI c) ∧ y = some (0, C))) V ?_ ?_ V 0 N () (by omega) (by omega) (fun k hk => absurd hk (Nat.not_lt_zero _))
  · rintro m i ⟨⟩ hi hI
    have e : f_X1_hasPlotOn_2 N r (nI c) (m + 1) (nI i) C = (if C.1 3 r 14 i = nI c then some (1, C) else f_X1_hasPlotOn_2 N r (nI c) m (nI (i + 1)) C) := by
      rw [f_X1_hasPlotOn_2, hc]
      simp (disch := omega) only [le_nn, if_neg, ldA_nI, nI_al]
      rfl
    by_cases z : C.1 3 r 14 i = nI c
    · right
      left
      refine ⟨⟨i, hi, z⟩, ?_⟩
      try dsimp only
      rw [e, if_pos z]
    · left
      refine ⟨(), ?_, fun k hk => ?_⟩
      · try dsimp only
        rw [e, if_neg z]
      · by_cases q : k = i
        · rw [q]; exact z
        · exact hI k (by omega)
  · rintro m ⟨⟩ hI
    right
    refine ⟨hI, ?_⟩
    try dsimp only
    rw [f_X1_hasPlotOn_2, hc, if_pos (by rw [le_nn (by omega) (by omega)]; exact Nat.le_refl _)]
    rfl
theorem plot_line (hN : 2000 ≤ N) (h : PsR N C X i) (hw : C.1 1 0 1 i = 2) (hb : HbR (C.1 3 r) (X.1 3) (X.1 0) (X.2 5) W H V T) (h6 : X.2 6 = X0m.2 6) : LineP N r C X (f_X0_readPlot N r (nxC C i)) (f_X11_readPlot N X) := by
  have bd := hb_bd hb
  unfold f_X0_readPlot f_X11_readPlot
  obtain ⟨X4, a1, a2, a3⟩ := next_rel hN h (by rw [hw]; decide) (by rw [hw]; decide)
  rw [a1, cal_some]
  have g4 : GB X X4 := gb_lk (lk_nx a2)
  have hb4 := hb_lk hb (nx_3 (i := i)) (lk_nx a2)
  have h64 : X4.2 6 = X0m.2 6 := g4.2.2.2.1.trans h6
  have vle : ∀ {v : Nat}, (v = 0 ∨ inY (W, H, V, T) (v - 1)) → v ≤ 100 := fun {v} q => by
    rcases q with q | q
    · omega
    · have := q.1
      omega
  obtain ⟨m, m1, m2⟩ := plot_8 (X := X4) hN (fun k hk => by
    obtain ⟨v, v1, v2, v3, v4⟩ := hb_pl hb4 k hk
    exact ⟨v, by have := vle v1; omega, v3⟩)
  rw [m2]
  rcases own_rel hN a3 hb4 h64 m with ⟨k, X5, k1, k2, k3, k4, k5, k6, k7⟩ | ⟨k, k1, k2, k3, k4⟩ | ⟨C', X', k1, k2, k3, k4, k5⟩
  · have hD1 : (nxC (nxC C i) (i + 1)).1 3 r = (nxC C i).1 3 r := nx_3
    have hb5 := hb_lk hb4 hD1 k7
    have dV := (hb_o hb5).1
    obtain ⟨v, v1, v2, v3, v4⟩ := hb_pl hb4 k (by omega)
    have hv := vle v1
    have hv0 : v = 0 := by
      have e := m1 k (by omega)
      rw [k2] at e
      by_cases z : X4.1 3 (55 + k) = 0
      · rw [v3, show (0 : Int32) = nI 0 from rfl, eq_nn (by omega) (by omega)] at z
        exact z
      · rw [if_neg z] at e
        exact absurd e (by decide)
    have l14 : (nxC (nxC C i) (i + 1)).1 3 r 14 k = -1 := by
      rw [hD1, v2, hv0]; decide
    rw [k3, cal_some, isO_k bd.2.2.1 k1 dV, cal_some, if_neg (show ¬ (1 : Int32) = 0 by decide), ldA_nI (by omega) (by omega), l14, if_pos rfl, k4, cal_some, if_neg (show ¬ (1 : Int32) = 0 by decide), k5]
    unfold f_X0_readPlot_35
    have g5 : GB X X5 := g4.trans (gb_lk k7)
    rcases cell_rel (b := r) hN bd.1 bd.2.1 k6 (hb_w hb5).1 (hb_h hb5).1 (hb_w hb5).2 (hb_h hb5).2 with ⟨x, y, X6, x1, y1, c1, c2, c3, c4, c5, c6⟩ | ⟨C', X', c1, c2, c3, c4, c5⟩
    · have hy : inY (W, H, V, T) (y * 10 + x) := ⟨by omega, by simp only; omega, by simp only; omega⟩
      generalize y * 10 + x = c at hy c1 c3
      have hc : c < 100 := hy.1
      have eD : (nxC (nxC (nxC (nxC C i) (i + 1)) (i + 1 + 1)) (i + 1 + 1 + 1)).1 3 r = C.1 3 r := by rw [nx_3, nx_3, nx_3, nx_3]
      have fD : F1 C (nxC (nxC (nxC (nxC C i) (i + 1)) (i + 1 + 1)) (i + 1 + 1 + 1)) := nx_f1.trans (nx_f1.trans (nx_f1.trans nx_f1))
      have s6 : X6.1 3 = X.1 3 := by rw [c6.1 3 (by omega), k7.1 3 (by omega), a2.1 3 (by omega)]
      have dV' : (nxC (nxC (nxC (nxC C i) (i + 1)) (i + 1 + 1)) (i + 1 + 1 + 1)).1 3 r 6 0 = nI V := by rw [eD]; exact (hb_o hb).1
      have g6 : GB X X6 := g5.trans (gb_lk c6)
      have same : ∀ j, j < 8 → (C.1 3 r 14 j = nI c ↔ X.1 3 (55 + j) = nI (c + 1)) := fun j hj => by
        obtain ⟨u, u1, u2, u3, u4⟩ := hb_pl hb j hj
        have hu := vle u1
        rw [u2, u3, eq_nn (by omega) (by omega)]
        by_cases z : u = 0
        · subst z
          exact ⟨fun e => absurd (show nI c = (-1 : Int32) by rw [← e]; decide) (m1_nI (by omega)), fun e => by omega⟩
        · rw [show nI u - 1 = nI (u - 1) from nI_sl (by show 1 ≤ u; omega), eq_nn (by omega) (by omega)]
          omega
      rw [c1, cal_some, nx_sound c4, cal_some, if_neg (show ¬ (1 : Int32) = 0 by decide), c2, cal_some, if_neg (show ¬ (1 : Int32) = 0 by decide)]
      rcases plotOn_eq (c := c) hN bd.2.2.1 dV' with ⟨⟨j, j1, j2⟩, o2⟩ | ⟨o1, o2⟩
      · rw [eD] at j2
        rcases plot_68 (a := nI k) hN c3 with ⟨-, p2⟩ | ⟨p1, -⟩
        · have hf := (bl_fa c4 (show (3 : Int32) ≠ 0 by decide)).2
          rw [o2, cal_some, if_neg (show ¬ (1 : Int32) = 0 by decide), ps_taken c4, cal_some, fa_plot64 hf.1, p2]
          exact Or.inr ⟨_, _, rfl, rfl, hf, nx_f1.trans (nx_f1.trans (nx_f1.trans (nx_f1.trans bl_f1))), g6.trans (gb_lk (lk_bd bd_bdf))⟩
        · exact absurd (by rw [s6]; exact (same j (by omega)).mp j2) (p1 j (by omega))
      · rcases plot_68 (a := nI k) hN c3 with ⟨⟨j, j1, j2⟩, -⟩ | ⟨-, p2⟩
        · exfalso
          rw [s6] at j2
          by_cases jV : j < V
          · exact o1 j jV (by rw [eD]; exact (same j j1).mpr j2)
          · obtain ⟨u, u1, u2, u3, u4⟩ := hb_pl hb j j1
            rw [u3, u4 (by omega), eq_nn (by omega) (by omega)] at j2
            omega
        · have p6 : PsR N (nxC (nxC (nxC C i) (i + 1)) (i + 1 + 1)) (stX X6 3 (55 + k) (nI (c + 1))) (i + 1 + 1 + 1) := psR_c c4 rfl (xp_row (by omega) (by omega))
          have tk : (nxC (nxC (nxC C i) (i + 1)) (i + 1 + 1)).1 1 0 1 (i + 1 + 1 + 1) = 4 := by
            unfold nxC
            rw [stC_row (by omega)]
            exact c5
          obtain ⟨X7, b1, b2, b3⟩ := next_rel hN p6 (by rw [tk]; decide) (by rw [tk]; decide)
          rw [o2, cal_some, if_pos rfl, p2, nI_la, show (OfNat.ofNat 55 : Nat) = 55 from rfl, sxA_nI (by omega) (by omega), b1, cal_some]
          unfold f_X0_readPlot_64
          rw [ps_sound b3, cal_some, if_neg (show ¬ (1 : Int32) = 0 by decide), isO_k bd.2.2.1 k1 dV', cal_some, if_neg (show ¬ (1 : Int32) = 0 by decide), stA_nI (by omega) (by omega)]
          generalize nxC (nxC (nxC (nxC C i) (i + 1)) (i + 1 + 1)) (i + 1 + 1 + 1) = D at b3 eD fD ⊢
          refine Or.inl ⟨_, X7, i + 1 + 1 + 1 + 1, W, H, V, T, rfl, rfl, ⟨i, ps_4 h, by omega⟩, psR_c b3 (by rw [stC_ob (by omega)]) (XP.rf X7), (fb_f1 fD).trans fb_st, g6.trans (gb_3.trans (gb_lk (lk_nx b2))), ?_⟩
          have x3 : ∀ x, X7.1 3 x = if x = 55 + k then nI (c + 1) else X.1 3 x := fun x => by
            rw [b2.1 3 (by omega), stX_if, s6]
          have x0 : ∀ x, 19 ≤ x → x ≤ 24 → X7.1 0 x = X.1 0 x := fun x h1 h2 => by
            rw [b2.2.1 x (by omega) (by omega) (by omega) (by omega) (by omega), stX_row (by omega), c6.2.1 x (by omega) (by omega) (by omega) (by omega) (by omega) (by omega) (by omega) (by omega) (by omega), k7.2.1 x (by omega) (by omega) (by omega) (by omega) (by omega) (by omega) (by omega) (by omega) (by omega), a2.2.1 x (by omega) (by omega) (by omega) (by omega) (by omega)]
          have x5 : X7.2 5 = X.2 5 := funext fun x => by
            rw [b2.2.2 5 x (by omega), stX_2, c6.2.2 5 x (by omega), k7.2.2 5 x (by omega), a2.2.2 5 x (by omega)]
          rw [x5]
          refine hb_plot hb (k := k) (v := c + 1) k1 (Or.inr (by rw [Nat.add_sub_cancel]; exact hy)) (fun y x h1 => ?_) (fun x h1 => ?_) (fun x h1 h2 => ?_) ?_ ?_
          · rw [← eD]
            simp only [stC]
            rw [if_neg (by omega)]
          · rw [x3, if_neg h1]
          · exact x0 x h1 h2
          · rw [stC_at, show nI (c + 1) - 1 = nI (c + 1 - 1) from nI_sl (by show 1 ≤ c + 1; omega), Nat.add_sub_cancel]
          · rw [x3, if_pos rfl]
    · rw [c1, cal_some, fa_sound c4.1, cal_some, if_pos rfl, fa_plot64 c4.1, c2, cal_some, if_pos rfl]
      exact Or.inr ⟨C', X', rfl, rfl, c4, nx_f1.trans (nx_f1.trans c3), g5.trans (gb_lk c5)⟩
  · have hD1 : (nxC (nxC C i) (i + 1)).1 3 r = (nxC C i).1 3 r := nx_3
    have dV : (nxC (nxC C i) (i + 1)).1 3 r 6 0 = nI V := by rw [hD1]; exact (hb_o hb4).1
    obtain ⟨v, v1, v2, v3, v4⟩ := hb_pl hb4 k (by omega)
    have hv := vle v1
    have hv0 : v ≠ 0 := fun z => by
      have e := m1 k (by omega)
      rw [k2, if_pos (by rw [v3, z]; rfl)] at e
      exact absurd e (by decide)
    have l14 : ¬ (nxC (nxC C i) (i + 1)).1 3 r 14 k = -1 := by
      rw [hD1, v2, m1_iff (by omega)]; exact hv0
    have hf := (bl_fa a3 (show (3 : Int32) ≠ 0 by decide)).2
    rw [k3, cal_some, isO_k bd.2.2.1 k1 dV, cal_some, if_neg (show ¬ (1 : Int32) = 0 by decide), ldA_nI (by omega) (by omega), if_neg l14, ps_taken a3, cal_some, fa_plot35 hf.1, k4, cal_some, if_pos rfl]
    exact Or.inr ⟨_, _, rfl, rfl, hf, nx_f1.trans (nx_f1.trans bl_f1), g4.trans (gb_lk (lk_bd bd_bdf))⟩
  · rw [k1, cal_some, isO_m1, cal_some, if_pos rfl, fa_plot35 k4.1, k2, cal_some, if_pos rfl]
    exact Or.inr ⟨C', X', rfl, rfl, k4, nx_f1.trans k3, g4.trans (gb_lk k5)⟩
theorem xp_L {x : Nat} {v : Int64} : XP X (stL X 5 x v) := ⟨rfl, stL_f (by omega), fun _ _ => rfl⟩
theorem nmf_rel (hN : 2000 ≤ N) (h : PsR N C X i) (h6 : X.2 6 = X0m.2 6) : (∃ a, C.1 1 0 1 i = 3 ∧ f_X7_takeName C = some (a, nxC C i) ∧ f_X11_isName N X = some (1, X) ∧ NmR a (X.2 0 17)) ∨ (f_X7_takeName C = some (-1, blC C 1 (C.1 1 0 3 i)) ∧ f_X11_isName N X = some (0, X)) := by
  have hm := ps_mt h
  have hi := isName_rel hN hm h6
  unfold f_X7_takeName
  rw [ps_kind h]
  by_cases e : C.1 1 0 1 i = 3
  · rw [if_pos e] at hi
    rw [if_pos e, cal_some]
    obtain ⟨-, q⟩ := id hm
    rw [e] at q
    have hv : NmR (C.1 1 0 2 i) (X.2 0 17) := by
      rcases q with ⟨h1, -⟩ | ⟨h1, -⟩ | ⟨w', -, h1, -⟩ | ⟨-, -, q, -⟩ | ⟨z, -, h1, -⟩ | ⟨c', -, h1, -⟩
      · exact absurd h1 (by decide)
      · exact absurd h1 (by decide)
      · exact absurd h1 (by decide)
      · exact q
      · exact absurd h1 (by decide)
      · exact absurd h1 (by decide)
    exact Or.inl ⟨_, e, rfl, hi, hv⟩
  · rw [if_neg e] at hi
    rw [if_neg e, cal_some]
    exact Or.inr ⟨rfl, hi⟩
theorem hb_M {B : Nat → Nat → Int32} {s F : Nat → Int32} {M M' : Nat → Int64} (h : HbR B s F M W H V T) (hM : ∀ k, k < V → M' (8 + k) = M (8 + k)) : HbR B s F M' W H V T := by
  obtain ⟨z_bd, z_w, z_h, z_o, z_t, z_yd, z_ln, z_g, z_rn, z_re, z_vb, z_ed, z_hm, z_gd, z_sh, z_sk, z_vn, z_pc, z_pl, z_tr, z_ey, z_gu, z_fe, z_th, z_nm⟩ := h
  exact ⟨z_bd, z_w, z_h, z_o, z_t, z_yd, z_ln, z_g, z_rn, z_re, z_vb, z_ed, z_hm, z_gd, z_sh, z_sk, z_vn, z_pc, z_pl, z_tr, z_ey, z_gu, z_fe, z_th, fun k hk => by rw [hM k hk]; exact z_nm k hk⟩
theorem owner_line (hN : 2000 ≤ N) (h : PsR N C X i) (hw : C.1 1 0 1 i = 2) (hb : HbR (C.1 3 r) (X.1 3) (X.1 0) (X.2 5) W H V T) (h6 : X.2 6 = X0m.2 6) : LineP N r C X (f_X0_readOwner N r (nxC C i)) (f_X11_readOwner N X) := by
  have bd := hb_bd hb
  have t1 : (nxC C i).1 3 r 6 0 = nI V := by rw [nx_3]; exact (hb_o hb).1
  have t2 : X.1 3 (OfNat.ofNat 2) = nI V := (hb_o hb).2
  unfold f_X0_readOwner f_X11_readOwner
  rw [t1, ldA_l (by decide) (by decide), t2]
  by_cases hT : V = 8
  · have hf := (bl_fa h (show (4 : Int32) ≠ 0 by decide)).2
    rw [if_neg (by rw [hT]; decide), if_pos (by rw [hT]; rfl), ps_taken h, cal_some, bad_eq, cal_some, fa_owner17 hN hf.1 bd.2.2.1 (by unfold blC; rw [stC_ob (by omega), stC_ob (by omega)]; exact t1)]
    exact Or.inr ⟨_, _, rfl, rfl, hf, nx_f1.trans bl_f1, gb_lk (lk_bd bd_bdf)⟩
  have hV : V < 8 := by have := bd.2.2.1; omega
  rw [if_pos (by simp (disch := omega) only [lt_nl]; omega), if_neg (by rw [eq_nl (by omega) (by decide)]; exact hT)]
  obtain ⟨X4, a1, a2, a3⟩ := next_rel hN h (by rw [hw]; decide) (by rw [hw]; decide)
  rw [a1, cal_some]
  have g4 : GB X X4 := gb_lk (lk_nx a2)
  have hb4 := hb_lk hb (nx_3 (i := i)) (lk_nx a2)
  have h64 : X4.2 6 = X0m.2 6 := g4.2.2.2.1.trans h6
  unfold f_X0_readOwner_17
  rcases nmf_rel hN a3 h64 with ⟨a, n0, n1, n2, n3⟩ | ⟨n1, n2⟩
  · rw [n1, cal_some, n2, cal_some, if_neg (show ¬ (1 : Int32) = 0 by decide)]
    have t4 : (nxC (nxC C i) (i + 1)).1 3 r 6 0 = nI V := by rw [nx_3, nx_3]; exact (hb_o hb).1
    rcases find_rel (C := nxC (nxC C i) (i + 1)) (X := X4) (r := r) (a := a) hN bd.2.2.1 (show 8 ≤ 8 by omega) t4 (by rw [nx_3]; exact hb_nm hb4) n3 with ⟨k, k1, k2, k3, k4⟩ | ⟨k1, k3, k4⟩
    · have k4' : f_X11_find N 8 (nI V) X4 = some (nI k, X4) := k4
      have hf := (bl_fa a3 (show (3 : Int32) ≠ 0 by decide)).2
      rw [k3, cal_some, if_neg (m1_nI (by omega)), ps_taken a3, cal_some, fa_owner39 hf.1, k4', cal_some, if_neg (nI_nneg (by omega)), bad_eq, cal_some]
      exact Or.inr ⟨_, _, rfl, rfl, hf, nx_f1.trans (nx_f1.trans bl_f1), g4.trans (gb_lk (lk_bd bd_bdf))⟩
    · have k4' : f_X11_find N 8 (nI V) X4 = some (-1, X4) := k4
      rw [k3, cal_some, if_pos rfl, k4', cal_some, if_pos (show (-1 : Int32) < 0 by decide), nI_la, show (OfNat.ofNat 8 : Nat) = 8 from rfl, slA_nI (by omega) (by omega)]
      have p5 : PsR N (nxC C i) (stL X4 5 (8 + V) (X4.2 0 17)) (i + 1) := psR_c a3 rfl xp_L
      have hb5 : HbR ((nxC C i).1 3 r) ((stL X4 5 (8 + V) (X4.2 0 17)).1 3) ((stL X4 5 (8 + V) (X4.2 0 17)).1 0) ((stL X4 5 (8 + V) (X4.2 0 17)).2 5) W H V T := hb_M hb4 (fun k hk => stL_f (by omega))
      have g5 : GB X (stL X4 5 (8 + V) (X4.2 0 17)) := g4.trans (gb_L (by omega))
      obtain ⟨X6, b1, b2, b3⟩ := next_rel hN p5 (by rw [n0]; decide) (by rw [n0]; decide)
      rw [b1, cal_some]
      have hb6 := hb_lk hb5 (nx_3 (C := nxC C i) (i := i + 1)) (lk_nx b2)
      have g6 : GB X X6 := g5.trans (gb_lk (lk_nx b2))
      unfold f_X0_readOwner_39
      rcases free_rel hN b3 hb6 with ⟨c, X7, y1, y2, y3, y4, y5, y6, y7, y8⟩ | ⟨v, C1, C', X', y1, y2, y3, y4, y5, y6⟩
      · rw [y3, cal_some, y4, cal_some, y5, cal_some, if_neg (show ¬ (1 : Int32) = 0 by decide), y6]
        simp (disch := omega) only [nI_la, sxA_nI]
        have hc : c < 100 := y1.1
        have e7 : (nxC (nxC (nxC (nxC C i) (i + 1)) (i + 1 + 1)) (i + 1 + 1 + 1)).1 3 r = C.1 3 r := by rw [nx_3, nx_3, nx_3, nx_3]
        have f7 : F1 C (nxC (nxC (nxC (nxC C i) (i + 1)) (i + 1 + 1)) (i + 1 + 1 + 1)) := nx_f1.trans (nx_f1.trans (nx_f1.trans nx_f1))
        have y2' : C.1 3 r 1 c = 0 := by rw [nx_3, nx_3] at y2; exact y2
        have g7 : GB X (stX X7 3 (7 + V) (nI c)) := g6.trans ((gb_lk y8).trans gb_3)
        have s7 : X7.1 3 = X.1 3 := by
          rw [y8.1 3 (by omega), b2.1 3 (by omega)]
          show X4.1 3 = _
          rw [a2.1 3 (by omega)]
        have z7 : ∀ x, 19 ≤ x → x ≤ 24 → X7.1 0 x = X.1 0 x := fun x h1 h2 => by
          rw [y8.2.1 x (by omega) (by omega) (by omega) (by omega) (by omega) (by omega) (by omega) (by omega) (by omega), b2.2.1 x (by omega) (by omega) (by omega) (by omega) (by omega)]
          show X4.1 0 x = _
          rw [a2.2.1 x (by omega) (by omega) (by omega) (by omega) (by omega)]
        have w7 : ∀ x, X7.2 5 x = if x = 8 + V then X4.2 0 17 else X.2 5 x := fun x => by
          rw [y8.2.2 5 x (by omega), b2.2.2 5 x (by omega)]
          by_cases e : x = 8 + V
          · rw [e, if_pos rfl, stL_at]
          · rw [if_neg e, stL_f (by omega), a2.2.2 5 x (by omega)]
        have p7 := psR_c y7 (C' := nxC (nxC (nxC (nxC C i) (i + 1)) (i + 1 + 1)) (i + 1 + 1 + 1)) rfl (xp_row (X := X7) (j := 3) (x := 7 + V) (v := nI c) (by omega) (by omega))
        generalize nxC (nxC (nxC (nxC C i) (i + 1)) (i + 1 + 1)) (i + 1 + 1 + 1) = D at p7 e7 f7 ⊢
        generalize hi7 : i + 1 + 1 + 1 + 1 = i7 at p7
        rcases number_rel hN p7 (lo := 0) (hi := 999) (by omega) (by omega) with ⟨g, X8, z1, z2, z3, n1, n2, n3', n4⟩ | ⟨C', X', n1, n2, n3', n4, n5⟩
        · have n1' : f_X7_takeNumber 0 999 D = _ := n1
          have n2' : f_X11_takes N 0 999 (stX X7 3 (7 + V) (nI c)) = _ := n2
          have p8 := psR_c n4 (C' := nxC D i7) rfl (xp_row (X := X8) (j := 3) (x := 15 + V) (v := nI g) (by omega) (by omega))
          have g8 : GB X (stX X8 3 (15 + V) (nI g)) := g7.trans ((gb_f (x := 18) (by omega)).trans ((gb_lk (lk_nx n3')).trans gb_3))
          rw [n1', n2', cal_some, cal_some, if_neg (show ¬ (1 : Int32) = 0 by decide), nx_18 n3']
          rcases number_rel hN p8 (lo := 1) (hi := 99) (by omega) (by omega) with ⟨w, X9, u1, u2, u3, m1, m2, m3, m4⟩ | ⟨C', X', m1, m2, m3, m4, m5⟩
          · have m1' : f_X7_takeNumber 1 99 (nxC D i7) = _ := m1
            have m2' : f_X11_takes N 1 99 (stX X8 3 (15 + V) (nI g)) = _ := m2
            have p9 := psR_c m4 (C' := nxC (nxC D i7) (i7 + 1)) rfl (xp_row (X := X9) (j := 3) (x := 23 + V) (v := nI w) (by omega) (by omega))
            have g9 : GB X (stX X9 3 (23 + V) (nI w)) := g8.trans ((gb_f (x := 18) (by omega)).trans ((gb_lk (lk_nx m3)).trans gb_3))
            rw [m1', m2', cal_some, cal_some, if_neg (show ¬ (1 : Int32) = 0 by decide), nx_18 m3]
            rcases number_rel hN p9 (lo := 0) (hi := 9) (by omega) (by omega) with ⟨t, X10, v1, v2, v3, l1, l2, l3, l4⟩ | ⟨C', X', l1, l2, l3, l4, l5⟩
            · have l1' : f_X7_takeNumber 0 9 (nxC (nxC D i7) (i7 + 1)) = _ := l1
              have l2' : f_X11_takes N 0 9 (stX X9 3 (23 + V) (nI w)) = _ := l2
              have x3 : ∀ x, X10.1 3 x = if x = 23 + V then nI w else if x = 15 + V then nI g else if x = 7 + V then nI c else X.1 3 x := fun x => by
                rw [l3.1 3 (by omega), stX_row (by omega), stX_if, m3.1 3 (by omega), stX_row (by omega), stX_if, n3'.1 3 (by omega), stX_row (by omega), stX_if, s7]
              have x0 : ∀ x, 19 ≤ x → x ≤ 24 → X10.1 0 x = X.1 0 x := fun x h1 h2 => by
                rw [l3.2.1 x (by omega) (by omega) (by omega) (by omega) (by omega), stX_ne (by omega), stX_row (by omega), m3.2.1 x (by omega) (by omega) (by omega) (by omega) (by omega), stX_ne (by omega), stX_row (by omega), n3'.2.1 x (by omega) (by omega) (by omega) (by omega) (by omega), stX_ne (by omega), stX_row (by omega), z7 x h1 h2]
              have x5 : ∀ x, X10.2 5 x = if x = 8 + V then X4.2 0 17 else X.2 5 x := fun x => by
                rw [l3.2.2 5 x (by omega), stX_2, stX_2, m3.2.2 5 x (by omega), stX_2, stX_2, n3'.2.2 5 x (by omega), stX_2, stX_2, w7]
              have x2 : (stX X10 3 (31 + V) (nI t)).1 3 (OfNat.ofNat 2) = nI V := by
                show (stX X10 3 (31 + V) (nI t)).1 3 2 = nI V
                rw [stX_ne (by omega), x3, if_neg (by omega), if_neg (by omega), if_neg (by omega)]
                exact (hb_o hb).2
              have eE : (nxC (nxC (nxC D i7) (i7 + 1)) (i7 + 1 + 1)).1 3 r = C.1 3 r := by rw [nx_3, nx_3, nx_3]; exact e7
              have fE : F1 C (nxC (nxC (nxC D i7) (i7 + 1)) (i7 + 1 + 1)) := f7.trans (nx_f1.trans (nx_f1.trans nx_f1))
              rw [l1', l2', cal_some, cal_some, if_neg (show ¬ (1 : Int32) = 0 by decide), nx_18 l3, ps_sound l4, cal_some, if_neg (show ¬ (1 : Int32) = 0 by decide)]
              generalize nxC (nxC (nxC D i7) (i7 + 1)) (i7 + 1 + 1) = E at l4 eE fE ⊢
              have dV : E.1 3 r 6 0 = nI V := by rw [eE]; exact (hb_o hb).1
              rw [dV, if_neg (by simp (disch := omega) only [le_ln]; omega), if_neg (nI_nneg (by omega)), if_neg (by simp (disch := omega) only [le_ln]; omega)]
              rw [stA_nI (by omega) (by omega), stA_nI (by omega) (by omega), stA_nI (by omega) (by omega), stA_nI (by omega) (by omega), stA_nI (by omega) (by omega), stA_nI (by omega) (by omega), bnd_v, ldA_l (by decide) (by decide), x2, nI_al, sxA_l (by decide) (by decide), nI_la]
              generalize hE6 : stC (stC (stC (stC (stC (stC E 3 r 7 V a) 3 r 8 V (nI c)) 3 r 9 V (nI g)) 3 r 10 V (nI w)) 3 r 11 V (nI t)) 3 r 1 c (nI (OfNat.ofNat 16 + V)) = E6
              have d6 : E6.1 3 r 6 0 = nI V := by
                rw [← hE6, stC_row (by omega), stC_row (by omega), stC_row (by omega), stC_row (by omega), stC_row (by omega), stC_row (by omega)]
                exact dV
              rw [d6, nI_al]
              refine Or.inl ⟨stC E6 3 r 6 0 (nI (V + 1)), stX (stX X10 3 (31 + V) (nI t)) 3 2 (nI (V + 1)), i7 + 1 + 1 + 1, W, H, V + 1, T, rfl, rfl, ⟨i, ps_4 h, by omega⟩, psR_c l4 ?_ ((xp_row (by omega) (by omega)).trans (xp_row (by omega) (by omega))), ?_, g9.trans ((gb_f (x := 18) (by omega)).trans ((gb_lk (lk_nx l3)).trans (gb_3.trans gb_3))), ?_⟩
              · rw [← hE6, stC_ob (by omega), stC_ob (by omega), stC_ob (by omega), stC_ob (by omega), stC_ob (by omega), stC_ob (by omega), stC_ob (by omega)]
              · rw [← hE6]
                exact (fb_f1 fE).trans (fb_st.trans (fb_st.trans (fb_st.trans (fb_st.trans (fb_st.trans (fb_st.trans fb_st))))))
              · refine hb_owner hb (c := c) (g := g) (a := w) (k := t) hV y1 y2' z2 u1 u2 v2 (fun j x h1 h2 h3 h4 h5 h6 h7 => ?_) (fun x h1 h2 h3 h4 h5 => ?_) (fun x h1 h2 => ?_) (fun x h1 h2 => ?_) ?_ ?_ ?_ ?_ ?_ ?_ ?_ ?_ ?_ ?_ ?_ ?_
                · rw [← hE6, ← eE]
                  simp only [stC]
                  rw [if_neg (by omega), if_neg (by omega), if_neg (by omega), if_neg (by omega), if_neg (by omega), if_neg (by omega), if_neg (by omega)]
                · rw [stX_ne h5, stX_ne h4, x3, if_neg h3, if_neg h2, if_neg h1]
                · rw [stX_row (by omega), stX_row (by omega), x0 x h1 h2]
                · rw [stX_2, stX_2, x5, if_neg h2]
                · rw [stX_2, stX_2, x5, if_pos rfl, ← hE6, stC_row (by omega), stC_row (by omega), stC_row (by omega), stC_row (by omega), stC_row (by omega), stC_row (by omega), stC_at]
                  exact n3
                · rw [← hE6, stC_row (by omega), stC_at]
                · rw [← hE6, stC_row (by omega), stC_row (by omega), stC_row (by omega), stC_row (by omega), stC_row (by omega), stC_at]
                · rw [stX_ne (by omega), stX_ne (by omega), x3, if_neg (by omega), if_neg (by omega), if_pos rfl]
                · rw [← hE6, stC_row (by omega), stC_row (by omega), stC_row (by omega), stC_row (by omega), stC_at]
                · rw [stX_ne (by omega), stX_ne (by omega), x3, if_neg (by omega), if_pos rfl]
                · rw [← hE6, stC_row (by omega), stC_row (by omega), stC_row (by omega), stC_at]
                · rw [stX_ne (by omega), stX_ne (by omega), x3, if_pos rfl]
                · rw [← hE6, stC_row (by omega), stC_row (by omega), stC_at]
                · rw [stX_ne (by omega), stX_at]
                · exact stC_at
                · exact stX_at
            · have l1' : f_X7_takeNumber 0 9 (nxC (nxC D i7) (i7 + 1)) = _ := l1
              have l2' : f_X11_takes N 0 9 (stX X9 3 (23 + V) (nI w)) = _ := l2
              rw [l1', l2', cal_some, cal_some, if_pos rfl, fa_sound l4.1, cal_some, if_pos rfl]
              exact Or.inr ⟨C', X', rfl, rfl, l4, f7.trans (nx_f1.trans (nx_f1.trans l3)), g9.trans (gb_lk (lk_bd l5))⟩
          · have m1' : f_X7_takeNumber 1 99 (nxC D i7) = _ := m1
            have m2' : f_X11_takes N 1 99 (stX X8 3 (15 + V) (nI g)) = _ := m2
            rw [m1', m2', cal_some, cal_some, if_pos rfl, fa_number m4.1, cal_some, fa_sound m4.1, cal_some, if_pos rfl]
            exact Or.inr ⟨C', X', rfl, rfl, m4, f7.trans (nx_f1.trans m3), g8.trans (gb_lk (lk_bd m5))⟩
        · have n1' : f_X7_takeNumber 0 999 D = _ := n1
          have n2' : f_X11_takes N 0 999 (stX X7 3 (7 + V) (nI c)) = _ := n2
          rw [n1', n2', cal_some, cal_some, if_pos rfl, fa_number n4.1, cal_some, fa_number n4.1, cal_some, fa_sound n4.1, cal_some, if_pos rfl]
          exact Or.inr ⟨C', X', rfl, rfl, n4, f7.trans n3', g7.trans (gb_lk (lk_bd n5))⟩
      · rw [y1, cal_some, y2, cal_some, fa_number y5.1, cal_some, fa_number y5.1, cal_some, fa_number y5.1, cal_some, fa_sound y5.1, cal_some, if_pos rfl, y3, cal_some, if_pos rfl]
        exact Or.inr ⟨C', X', rfl, rfl, y5, nx_f1.trans (nx_f1.trans y4), g6.trans (gb_lk y6)⟩
  · have hf := (bl_fa a3 (show (1 : Int32) ≠ 0 by decide)).1
    have t4 : (blC (nxC C i) 1 ((nxC C i).1 1 0 3 (i + 1))).1 3 r 6 0 = nI V := by
      unfold blC
      rw [stC_ob (by omega), stC_ob (by omega)]; exact t1
    obtain ⟨w, hw'⟩ := fa_find (C := blC (nxC C i) 1 ((nxC C i).1 1 0 3 (i + 1))) (r := r) hN (-1) bd.2.2.1 t4
    rw [n1, cal_some, n2, cal_some, if_pos rfl, bad_eq, cal_some, hw', cal_some, (fa_blame hf.1 3).2, cal_some]
    simp only [fa_owner39 hf.1]
    rw [show (if w = -1 then (some ((0 : Int32), blC (nxC C i) 1 ((nxC C i).1 1 0 3 (i + 1)))) else some (0, blC (nxC C i) 1 ((nxC C i).1 1 0 3 (i + 1)))) = some (0, blC (nxC C i) 1 ((nxC C i).1 1 0 3 (i + 1))) by by_cases e : w = -1 <;> simp [e]]
    exact Or.inr ⟨_, _, rfl, rfl, hf, nx_f1.trans bl_f1, g4.trans (gb_lk (lk_bd bd_bdf))⟩
end LN4
