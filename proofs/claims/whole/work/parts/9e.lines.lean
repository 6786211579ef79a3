/-! Lines of the bank with names: vane, pact, plot, owner. -/
section LN3
variable {N : Nat} {C : CM} {X : XM} {r i W H V T : Nat}
theorem nx_sound (h : PsR N C X i) : f_X7_isSound (nxC C i) = some (1, nxC C i) := by
  unfold f_X7_isSound
  rw [if_pos (by unfold nxC; rw [stC_ne (by omega)]; exact ps_5 h)]
  rfl
theorem own_rel (hN : 2000 ≤ N) (h : PsR N C X i) (hb : HbR (C.1 3 r) (X.1 3) (X.1 0) (X.2 5) W H V T) (h6 : X.2 6 = X0m.2 6) (m : Int32) :
    (∃ k X', k < V ∧ bt m k = 0 ∧ f_X1_take N r C = some (nI k, nxC C i) ∧ f_X11_takesOwner N m X = some (1, X') ∧ X'.1 0 18 = nI k ∧ PsR N (nxC C i) X' (i + 1) ∧ LkF X X') ∨
    (∃ k, k < V ∧ bt m k = 1 ∧ f_X1_take N r C = some (nI k, nxC C i) ∧ f_X11_takesOwner N m X = some (0, bdX X 3)) ∨
    (∃ C' X', f_X1_take N r C = some (-1, C') ∧ f_X11_takesOwner N m X = some (0, X') ∧ F1 C C' ∧ FaR C' X' ∧ LkF X X') := by
  have bd := hb_bd hb
  have s2 : X.1 3 (OfNat.ofNat 2) = nI V := (hb_o hb).2
  unfold f_X11_takesOwner f_X11_takesOwner_38
  rcases name_rel hN h h6 bd.2.2.1 (show 8 ≤ 8 by omega) (hb_o hb).1 (hb_nm hb) with ⟨q1, k, q2, q3, q4, q5⟩ | ⟨q1, C', q2, q3, q4, q5⟩ | ⟨q1, C', q2, q3, q4⟩
  · have q4' : f_X11_find N 8 (nI V) X = some (nI k, X) := q4
    rw [q1, cal_some, if_neg (show ¬ (1 : Int32) = 0 by decide), ldA_l (by decide) (by decide), s2, q4', cal_some, if_neg (nI_nneg (by omega)), bitOf_eq, cal_some]
    rcases bt01 m k with z | z
    · rw [z, if_pos rfl, bnd_v]
      obtain ⟨X', a1, a2, a3⟩ := next_rel hN (psR_c h rfl (xp_f (x := 18) (v := nI k) (by omega))) (by rw [q5]; decide) (by rw [q5]; decide)
      rw [a1, cal_some]
      exact Or.inl ⟨k, X', q2, z, q3, rfl, nx_18 a2, a3, (lk_f (Or.inl rfl)).trans (lk_nx a2)⟩
    · rw [z, if_neg (show ¬ (1 : Int32) = 0 by decide), bad_eq, cal_some]
      exact Or.inr (Or.inl ⟨k, q2, z, q3, rfl⟩)
  · have q3' : f_X11_find N 8 (nI V) X = some (-1, X) := q3
    rw [q1, cal_some, if_neg (show ¬ (1 : Int32) = 0 by decide), ldA_l (by decide) (by decide), s2, q3', cal_some, if_pos (show (-1 : Int32) < 0 by decide), bad_eq, cal_some]
    exact Or.inr (Or.inr ⟨C', bdX X 3, q2, rfl, q4, q5, lk_bd bd_bdf⟩)
  · rw [q1, cal_some, if_pos rfl, bad_eq, cal_some]
    exact Or.inr (Or.inr ⟨C', bdX X 1, q2, rfl, q3, q4, lk_bd bd_bdf⟩)
theorem vane_line (hN : 2000 ≤ N) (h : PsR N C X i) (hw : C.1 1 0 1 i = 2) (hb : HbR (C.1 3 r) (X.1 3) (X.1 0) (X.2 5) W H V T) (h6 : X.2 6 = X0m.2 6) : LineP N r C X (f_X0_readVane N r (nxC C i)) (cal (f_X11_next N X) (fun _ X79 => cal (f_X11_takesOwner N (X79.1 0 20) X79) (fun v80 X81 => (if v80 = 0 then (rt 0 X81) else bnd (stX X81 0 20 ((X81.1 0 20) ||| ((1 : Int32) <<< ((X81.1 0 18) &&& 31)))) (fun X83 => cal (f_X11_takes N 0 7 X83) (fun v84 X85 => (if v84 = 0 then (rt 0 X85) else sxA X85 3 371 (39 + (X81.1 0 18)) (X85.1 0 18) (fun X87 => (rt 1 X87))))))))) := by
  have bd := hb_bd hb
  unfold f_X0_readVane
  obtain ⟨X4, a1, a2, a3⟩ := next_rel hN h (by rw [hw]; decide) (by rw [hw]; decide)
  rw [a1, cal_some]
  have g4 : GB X X4 := gb_lk (lk_nx a2)
  have hb4 := hb_lk hb (nx_3 (i := i)) (lk_nx a2)
  have h64 : X4.2 6 = X0m.2 6 := g4.2.2.2.1.trans h6
  have vb4 := hb_vb hb4
  have e4 : (nxC (nxC C i) (i + 1)).1 3 r 6 1 = X4.1 0 20 := by rw [nx_3]; exact vb4
  rcases own_rel hN a3 hb4 h64 (X4.1 0 20) with ⟨k, X5, k1, k2, k3, k4, k5, k6, k7⟩ | ⟨k, k1, k2, k3, k4⟩ | ⟨C', X', k1, k2, k3, k4, k5⟩
  · rw [k3, cal_some, nx_sound a3, cal_some, if_neg (show ¬ (1 : Int32) = 0 by decide), e4]
    have nb : ¬ ((X4.1 0 20 >>> (nI k &&& 31)) &&& 1) = 1 := by
      show ¬ bt (X4.1 0 20) k = 1
      rw [k2]; decide
    rw [if_neg nb, k4, cal_some, if_neg (show ¬ (1 : Int32) = 0 by decide), bnd_v, k5]
    have f20 : X5.1 0 20 = X4.1 0 20 := k7.2.1 20 (by omega) (by omega) (by omega) (by omega) (by omega) (by omega) (by omega) (by omega) (by omega)
    rw [f20]
    generalize hbits : X4.1 0 20 ||| ((1 : Int32) <<< (nI k &&& 31)) = bits
    have p5 : PsR N (nxC (nxC C i) (i + 1)) (stX X5 0 20 bits) (i + 1 + 1) := psR_c k6 rfl (xp_f (by omega))
    have g5 : GB X (stX X5 0 20 bits) := g4.trans ((gb_lk k7).trans (gb_f (by omega)))
    unfold f_X0_readVane_36
    rcases number_rel hN p5 (lo := 0) (hi := 7) (by omega) (by omega) with ⟨d, X6, z1, z2, z3, n1, n2, n3, n4⟩ | ⟨C', X', n1, n2, n3, n4, n5⟩
    · have n1' : f_X7_takeNumber 0 7 (nxC (nxC C i) (i + 1)) = _ := n1
      have n2' : f_X11_takes N 0 7 (stX X5 0 20 bits) = _ := n2
      have eD : (nxC (nxC (nxC C i) (i + 1)) (i + 1 + 1)).1 3 r = C.1 3 r := by rw [nx_3, nx_3, nx_3]
      have fD : F1 C (nxC (nxC (nxC C i) (i + 1)) (i + 1 + 1)) := nx_f1.trans (nx_f1.trans nx_f1)
      rw [n1', n2', cal_some, cal_some, if_neg (show ¬ (1 : Int32) = 0 by decide), ps_sound n4, cal_some, if_neg (show ¬ (1 : Int32) = 0 by decide)]
      generalize nxC (nxC (nxC C i) (i + 1)) (i + 1 + 1) = D at n4 eD fD ⊢
      have dV : D.1 3 r 6 0 = nI V := by rw [eD]; exact (hb_o hb).1
      have dB : D.1 3 r 6 1 = X4.1 0 20 := by rw [eD, ← nx_3 (i := i)]; exact vb4
      rw [isO_k bd.2.2.1 k1 dV, cal_some, if_neg (show ¬ (1 : Int32) = 0 by decide), bnd_v, dB, hbits, stA_nI (by omega) (by omega), nI_la, show (OfNat.ofNat 39 : Nat) = 39 from rfl, sxA_nI (by omega) (by omega), nx_18 n3]
      refine Or.inl ⟨_, stX X6 3 (39 + k) (nI d), i + 1 + 1 + 1, W, H, V, T, rfl, rfl, ⟨i, ps_4 h, by omega⟩, psR_c n4 (by rw [stC_ob (by omega), stC_ob (by omega)]) (xp_row (by omega) (by omega)), (fb_f1 fD).trans (fb_st.trans fb_st), g5.trans ((gb_f (x := 18) (by omega)).trans ((gb_lk (lk_nx n3)).trans gb_3)), ?_⟩
      have x3 : X6.1 3 = X.1 3 := by
        rw [n3.1 3 (by omega), stX_row (by omega), stX_row (by omega), k7.1 3 (by omega), a2.1 3 (by omega)]
      have x0 : ∀ x, 19 ≤ x → x ≤ 24 → X6.1 0 x = if x = 20 then bits else X.1 0 x := fun x h1 h2 => by
        rw [n3.2.1 x (by omega) (by omega) (by omega) (by omega) (by omega), stX_ne (by omega), stX_if, k7.2.1 x (by omega) (by omega) (by omega) (by omega) (by omega) (by omega) (by omega) (by omega) (by omega), a2.2.1 x (by omega) (by omega) (by omega) (by omega) (by omega)]
      have x5 : X6.2 5 = X.2 5 := funext fun x => by
        rw [n3.2.2 5 x (by omega), stX_2, stX_2, k7.2.2 5 x (by omega), a2.2.2 5 x (by omega)]
      show HbR _ _ _ (X6.2 5) W H V T
      rw [x5]
      refine hb_vane hb (k := k) (d := d) k1 z2 (fun j x h1 h2 => ?_) (fun x h1 => ?_) (fun x h1 h2 h3 => ?_) ?_ ?_ ?_
      · rw [← eD]
        simp only [stC]
        rw [if_neg (by omega), if_neg (by omega)]
      · rw [stX_ne h1, x3]
      · rw [stX_row (by omega), x0 x h1 h2, if_neg h3]
      · rw [stC_row (by omega), stC_at, stX_row (by omega), x0 20 (by omega) (by omega), if_pos rfl]
      · exact stC_at
      · exact stX_at
    · have n1' : f_X7_takeNumber 0 7 (nxC (nxC C i) (i + 1)) = _ := n1
      have n2' : f_X11_takes N 0 7 (stX X5 0 20 bits) = _ := n2
      rw [n1', n2', cal_some, cal_some, if_pos rfl, fa_sound n4.1, cal_some, if_pos rfl]
      exact Or.inr ⟨C', X', rfl, rfl, n4, nx_f1.trans (nx_f1.trans n3), g5.trans (gb_lk (lk_bd n5))⟩
  · have hf := (bl_fa a3 (show (3 : Int32) ≠ 0 by decide)).2
    have nb : ((X4.1 0 20 >>> (nI k &&& 31)) &&& 1) = 1 := k2
    rw [k3, cal_some, nx_sound a3, cal_some, if_neg (show ¬ (1 : Int32) = 0 by decide), e4, if_pos nb, ps_taken a3, cal_some, fa_vane36 hf.1, k4, cal_some, if_pos rfl]
    exact Or.inr ⟨_, _, rfl, rfl, hf, nx_f1.trans (nx_f1.trans bl_f1), g4.trans (gb_lk (lk_bd bd_bdf))⟩
  · rw [k1, cal_some, fa_sound k4.1, cal_some, if_pos rfl, fa_vane36 k4.1, k2, cal_some, if_pos rfl]
    exact Or.inr ⟨C', X', rfl, rfl, k4, nx_f1.trans k3, g4.trans (gb_lk k5)⟩
theorem or_z : ∀ m, m < 256 → nI m ||| (0 : Int32) = nI m := by decide +kernel
theorem bt_one : ∀ k, k < 8 → ∀ j, j < 8 → bt ((1 : Int32) <<< (nI k &&& 31)) j = if j = k then 1 else 0 := by decide +kernel
theorem pact_8 (hN : 2000 ≤ N) (hs : ∀ k, k < 8 → ∃ v, v ≤ 999 ∧ X.1 3 (47 + k) = nI v) : ∃ m, (∀ k, k < 8 → bt m k = if X.1 3 (47 + k) = 0 then 0 else 1) ∧ f_X11_readPact_8 N N 0 0 X = cal (f_X11_takesOwner N m X) (fun v2 X3 => (if v2 = 0 then (rt 0 X3) else cal (f_X11_takesOwner N ((1 : Int32) <<< ((X3.1 0 18) &&& 31)) X3) (fun v5 X6 => (if v5 = 0 then (rt 0 X6) else sxA X6 3 371 (47 + (X3.1 0 18)) ((X6.1 0 18) + 1) (fun X8 => (rt 1 X8)))))) := by
  refine loop1 (fun m i (q : Int32) => f_X11_readPact_8 N m q i X) (fun i q => ∃ u, u < 256 ∧ q = nI u ∧ ∀ k, k < 8 → bt q k = if k < i ∧ ¬ X.1 3 (47 + k) = 0 then 1 else 0) (fun y => ∃ m, (∀ k, k < 8 → bt m k = if X.1 3 (47 + k) = 0 then 0 else 1) ∧ y = cal (f_X11_takesOwner N m X) (fun v2 X3 => (if v2 = 0 then (rt 0 X3) else cal (f_X11_takesOwner N ((1 : Int32) <<< ((X3.1 0 18) &&& 31)) X3) (fun v5 X6 => (if v5 = 0 then (rt 0 X6) else sxA X6 3 371 (47 + (X3.1 0 18)) ((X6.1 0 18) + 1) (fun X8 => (rt 1 X8))))))) 8 ?_ ?_ 8 0 N 0 (by omega) (by omega) ⟨0, by omega, rfl, fun k hk => by rw [bt_0 k hk, if_neg (by omega)]⟩
  · rintro m i q hi ⟨u, u1, rfl, u3⟩
    obtain ⟨v, v1, v2⟩ := hs i hi
    left
    by_cases z : v = 0
    · refine ⟨nI u, ?_, u, u1, rfl, fun k hk => ?_⟩
      · rw [f_X11_readPact_8, f_X11_readPact_34]
        simp (disch := omega) only [le_ln, if_neg, ldA_nI, nI_al, nI_la, v2, le_nl]
        rw [if_pos (by show v ≤ 0; omega), or_z u u1]
      · rw [u3 k hk]
        by_cases e : k = i
        · subst e
          rw [if_neg (by omega), if_neg (fun q => q.2 (by rw [v2, z]; rfl))]
        · by_cases e2 : k < i ∧ ¬ X.1 3 (47 + k) = 0
          · rw [if_pos e2, if_pos ⟨by omega, e2.2⟩]
          · rw [if_neg e2, if_neg (fun q => e2 ⟨by omega, q.2⟩)]
    · obtain ⟨⟨w1, w2⟩, w3⟩ := bt_or u u1 i hi
      refine ⟨nI u ||| ((1 : Int32) <<< (nI i &&& 31)), ?_, _, w1, w2, fun k hk => ?_⟩
      · rw [f_X11_readPact_8, f_X11_readPact_34, f_X11_readPact_34]
        simp (disch := omega) only [le_ln, if_neg, ldA_nI, nI_al, nI_la, v2, le_nl]
      · rw [w3 k hk]
        by_cases e : k = i
        · subst e
          have nz : ¬ X.1 3 (47 + k) = 0 := by
            rw [v2, show (0 : Int32) = nI 0 from rfl, eq_nn (by omega) (by omega)]; exact z
          rw [if_pos rfl, if_pos ⟨by omega, nz⟩]
        · rw [if_neg e, u3 k hk]
          by_cases e2 : k < i ∧ ¬ X.1 3 (47 + k) = 0
          · rw [if_pos e2, if_pos ⟨by omega, e2.2⟩]
          · rw [if_neg e2, if_neg (fun q => e2 ⟨by omega, q.2⟩)]
  · rintro m q ⟨u, u1, rfl, u3⟩
    refine ⟨nI u, fun k hk => ?_, ?_⟩
    · rw [u3 k hk]
      by_cases e2 : X.1 3 (47 + k) = 0
      · rw [if_pos e2, if_neg (fun q => q.2 e2)]
      · rw [if_neg e2, if_pos ⟨hk, e2⟩]
    · try dsimp only
      rw [f_X11_readPact_8, if_pos (by decide)]
theorem plot_8 (hN : 2000 ≤ N) (hs : ∀ k, k < 8 → ∃ v, v ≤ 999 ∧ X.1 3 (55 + k) = nI v) : ∃ m, (∀ k, k < 8 → bt m k = if X.1 3 (55 + k) = 0 then 0 else 1) ∧ f_X11_readPlot_8 N N 0 0 X = cal (f_X11_takesOwner N m X) (fun v2 X3 => (if v2 = 0 then (rt 0 X3) else cal (f_X11_looksAtCell N X3) (fun v5 X6 => (if v5 = 0 then (rt 0 X6) else (f_X11_readPlot_68 N (X3.1 0 18) N 0 X6))))) := by
  refine loop1 (fun m i (q : Int32) => f_X11_readPlot_8 N m q i X) (fun i q => ∃ u, u < 256 ∧ q = nI u ∧ ∀ k, k < 8 → bt q k = if k < i ∧ ¬ X.1 3 (55 + k) = 0 then 1 else 0) (fun y => ∃ m, (∀ k, k < 8 → bt m k = if X.1 3 (55 + k) = 0 then 0 else 1) ∧ y = cal (f_X11_takesOwner N m X) (fun v2 X3 => (if v2 = 0 then (rt 0 X3) else cal (f_X11_looksAtCell N X3) (fun v5 X6 => (if v5 = 0 then (rt 0 X6) else (f_X11_readPlot_68 N (X3.1 0 18) N 0 X6)))))) 8 ?_ ?_ 8 0 N 0 (by omega) (by omega) ⟨0, by omega, rfl, fun k hk => by rw [bt_0 k hk, if_neg (by omega)]⟩
  · rintro m i q hi ⟨u, u1, rfl, u3⟩
    obtain ⟨v, v1, v2⟩ := hs i hi
    left
    by_cases z : v = 0
    · refine ⟨nI u, ?_, u, u1, rfl, fun k hk => ?_⟩
      · rw [f_X11_readPlot_8, f_X11_readPlot_34]
        simp (disch := omega) only [le_ln, if_neg, ldA_nI, nI_al, nI_la, v2, le_nl]
        rw [if_pos (by show v ≤ 0; omega), or_z u u1]
      · rw [u3 k hk]
        by_cases e : k = i
        · subst e
          rw [if_neg (by omega), if_neg (fun q => q.2 (by rw [v2, z]; rfl))]
        · by_cases e2 : k < i ∧ ¬ X.1 3 (55 + k) = 0
          · rw [if_pos e2, if_pos ⟨by omega, e2.2⟩]
          · rw [if_neg e2, if_neg (fun q => e2 ⟨by omega, q.2⟩)]
    · obtain ⟨⟨w1, w2⟩, w3⟩ := bt_or u u1 i hi
      refine ⟨nI u ||| ((1 : Int32) <<< (nI i &&& 31)), ?_, _, w1, w2, fun k hk => ?_⟩
      · rw [f_X11_readPlot_8, f_X11_readPlot_34, f_X11_readPlot_34]
        simp (disch := omega) only [le_ln, if_neg, ldA_nI, nI_al, nI_la, v2, le_nl]
      · rw [w3 k hk]
        by_cases e : k = i
        · subst e
          have nz : ¬ X.1 3 (55 + k) = 0 := by
            rw [v2, show (0 : Int32) = nI 0 from rfl, eq_nn (by omega) (by omega)]; exact z
          rw [if_pos rfl, if_pos ⟨by omega, nz⟩]
        · rw [if_neg e, u3 k hk]
          by_cases e2 : k < i ∧ ¬ X.1 3 (55 + k) = 0
          · rw [if_pos e2, if_pos ⟨by omega, e2.2⟩]
          · rw [if_neg e2, if_neg (fun q => e2 ⟨by omega, q.2⟩)]
  · rintro m q ⟨u, u1, rfl, u3⟩
    refine ⟨nI u, fun k hk => ?_, ?_⟩
    · rw [u3 k hk]
      by_cases e2 : X.1 3 (55 + k) = 0
      · rw [if_pos e2, if_neg (fun q => q.2 e2)]
      · rw [if_neg e2, if_pos ⟨hk, e2⟩]
    · try dsimp only
      rw [f_X11_readPlot_8, if_pos (by decide)]
theorem m1_iff {v : Nat} (hv : v ≤ 999) : (nI v - 1 = (-1 : Int32)) = (v = 0) := by
  by_cases z : v = 0
  · subst z
    exact propext ⟨fun _ => rfl, fun _ => by decide⟩
  · rw [show nI v - 1 = nI (v - 1) from nI_sl (by show 1 ≤ v; omega)]
    refine propext ⟨fun e => absurd (show nI (v - 1) < 0 by rw [e]; decide) (nI_nneg (by omega)), fun e => absurd e z⟩
theorem m1_nI {k : Nat} (hk : k ≤ 999) : ¬ nI k = (-1 : Int32) := fun e => nI_nneg (show k < 2147483648 by omega) (by rw [e]; decide)
theorem pact_line (hN : 2000 ≤ N) (h : PsR N C X i) (hw : C.1 1 0 1 i = 2) (hb : HbR (C.1 3 r) (X.1 3) (X.1 0) (X.2 5) W H V T) (h6 : X.2 6 = X0m.2 6) : LineP N r C X (f_X0_readPact N r (nxC C i)) (f_X11_readPact N X) := by
  have bd := hb_bd hb
  unfold f_X0_readPact f_X11_readPact
  obtain ⟨X4, a1, a2, a3⟩ := next_rel hN h (by rw [hw]; decide) (by rw [hw]; decide)
  rw [a1, cal_some]
  have g4 : GB X X4 := gb_lk (lk_nx a2)
  have hb4 := hb_lk hb (nx_3 (i := i)) (lk_nx a2)
  have h64 : X4.2 6 = X0m.2 6 := g4.2.2.2.1.trans h6
  obtain ⟨m, m1, m2⟩ := pact_8 (X := X4) hN (fun k hk => by
    obtain ⟨v, v1, v2, v3, v4⟩ := hb_pc hb4 k hk
    exact ⟨v, by omega, v3⟩)
  rw [m2]
  rcases own_rel hN a3 hb4 h64 m with ⟨k, X5, k1, k2, k3, k4, k5, k6, k7⟩ | ⟨k, k1, k2, k3, k4⟩ | ⟨C', X', k1, k2, k3, k4, k5⟩
  · have hD1 : (nxC (nxC C i) (i + 1)).1 3 r = (nxC C i).1 3 r := nx_3
    have hb5 := hb_lk hb4 hD1 k7
    have dV := (hb_o hb5).1
    obtain ⟨v, v1, v2, v3, v4⟩ := hb_pc hb4 k (by omega)
    have hv0 : v = 0 := by
      have e := m1 k (by omega)
      rw [k2] at e
      by_cases z : X4.1 3 (47 + k) = 0
      · rw [v3, show (0 : Int32) = nI 0 from rfl, eq_nn (by omega) (by omega)] at z
        exact z
      · rw [if_neg z] at e
        exact absurd e (by decide)
    have l13 : (nxC (nxC C i) (i + 1)).1 3 r 13 k = -1 := by
      rw [hD1, v2, hv0]; decide
    rw [k3, cal_some, isO_k bd.2.2.1 k1 dV, cal_some, if_neg (show ¬ (1 : Int32) = 0 by decide), ldA_nI (by omega) (by omega), l13, if_pos rfl, k4, cal_some, if_neg (show ¬ (1 : Int32) = 0 by decide), k5]
    unfold f_X0_readPact_35
    have g5 : GB X X5 := g4.trans (gb_lk k7)
    rcases own_rel hN k6 hb5 (g5.2.2.2.1.trans h6) ((1 : Int32) <<< (nI k &&& 31)) with ⟨j, X6, j1, j2, j3, j4, j5, j6, j7⟩ | ⟨j, j1, j2, j3, j4⟩ | ⟨C', X', j1, j2, j3, j4, j5⟩
    · have hjk : j ≠ k := fun e => by
        rw [bt_one k (by omega) j (by omega), if_pos e] at j2
        exact absurd j2 (by decide)
      have eD : (nxC (nxC (nxC C i) (i + 1)) (i + 1 + 1)).1 3 r = C.1 3 r := by rw [nx_3, nx_3, nx_3]
      have fD : F1 C (nxC (nxC (nxC C i) (i + 1)) (i + 1 + 1)) := nx_f1.trans (nx_f1.trans nx_f1)
      rw [j3, cal_some, if_neg (by rw [eq_nn (by omega) (by omega)]; omega), j4, cal_some, if_neg (show ¬ (1 : Int32) = 0 by decide), j5]
      unfold f_X0_readPact_54
      rw [ps_sound j6, cal_some, if_neg (show ¬ (1 : Int32) = 0 by decide)]
      generalize nxC (nxC (nxC C i) (i + 1)) (i + 1 + 1) = D at j6 eD fD ⊢
      have dV' : D.1 3 r 6 0 = nI V := by rw [eD]; exact (hb_o hb).1
      rw [isO_k bd.2.2.1 k1 dV', cal_some, if_neg (show ¬ (1 : Int32) = 0 by decide), stA_nI (by omega) (by omega), nI_la, nI_al, show (OfNat.ofNat 47 : Nat) = 47 from rfl, sxA_nI (by omega) (by omega)]
      refine Or.inl ⟨_, stX X6 3 (47 + k) (nI (j + 1)), i + 1 + 1 + 1, W, H, V, T, rfl, rfl, ⟨i, ps_4 h, by omega⟩, psR_c j6 (by rw [stC_ob (by omega)]) (xp_row (by omega) (by omega)), (fb_f1 fD).trans fb_st, g5.trans ((gb_lk j7).trans gb_3), ?_⟩
      have x3 : X6.1 3 = X.1 3 := by rw [j7.1 3 (by omega), k7.1 3 (by omega), a2.1 3 (by omega)]
      have x0 : ∀ x, 19 ≤ x → x ≤ 24 → X6.1 0 x = X.1 0 x := fun x h1 h2 => by
        rw [j7.2.1 x (by omega) (by omega) (by omega) (by omega) (by omega) (by omega) (by omega) (by omega) (by omega), k7.2.1 x (by omega) (by omega) (by omega) (by omega) (by omega) (by omega) (by omega) (by omega) (by omega), a2.2.1 x (by omega) (by omega) (by omega) (by omega) (by omega)]
      have x5 : X6.2 5 = X.2 5 := funext fun x => by
        rw [j7.2.2 5 x (by omega), k7.2.2 5 x (by omega), a2.2.2 5 x (by omega)]
      show HbR _ _ _ (X6.2 5) W H V T
      rw [x5]
      refine hb_pact hb (k := k) (v := j + 1) k1 (by omega) (fun y x h1 => ?_) (fun x h1 => ?_) (fun x h1 h2 => ?_) ?_ ?_
      · rw [← eD]
        simp only [stC]
        rw [if_neg (by omega)]
      · rw [stX_ne h1, x3]
      · rw [stX_row (by omega), x0 x h1 h2]
      · rw [stC_at, show nI (j + 1) - 1 = nI (j + 1 - 1) from nI_sl (by show 1 ≤ j + 1; omega), Nat.add_sub_cancel]
      · exact stX_at
    · have hjk : j = k := by
        rw [bt_one k (by omega) j (by omega)] at j2
        by_cases e : j = k
        · exact e
        · rw [if_neg e] at j2
          exact absurd j2 (by decide)
      have hf := (bl_fa k6 (show (3 : Int32) ≠ 0 by decide)).2
      rw [j3, cal_some, if_pos (by rw [hjk]), ps_taken k6, cal_some, fa_pact54 hf.1, j4, cal_some, if_pos rfl]
      exact Or.inr ⟨_, _, rfl, rfl, hf, nx_f1.trans (nx_f1.trans (nx_f1.trans bl_f1)), g5.trans (gb_lk (lk_bd bd_bdf))⟩
    · rw [j1, cal_some, if_neg (m1_nI (by omega)), fa_pact54 j4.1, j2, cal_some, if_pos rfl]
      exact Or.inr ⟨C', X', rfl, rfl, j4, nx_f1.trans (nx_f1.trans j3), g5.trans (gb_lk j5)⟩
  · have hD1 : (nxC (nxC C i) (i + 1)).1 3 r = (nxC C i).1 3 r := nx_3
    have dV : (nxC (nxC C i) (i + 1)).1 3 r 6 0 = nI V := by rw [hD1]; exact (hb_o hb4).1
    obtain ⟨v, v1, v2, v3, v4⟩ := hb_pc hb4 k (by omega)
    have hv0 : v ≠ 0 := fun z => by
      have e := m1 k (by omega)
      rw [k2, if_pos (by rw [v3, z]; rfl)] at e
      exact absurd e (by decide)
    have l13 : ¬ (nxC (nxC C i) (i + 1)).1 3 r 13 k = -1 := by
      rw [hD1, v2, m1_iff (by omega)]; exact hv0
    have hf := (bl_fa a3 (show (3 : Int32) ≠ 0 by decide)).2
    rw [k3, cal_some, isO_k bd.2.2.1 k1 dV, cal_some, if_neg (show ¬ (1 : Int32) = 0 by decide), ldA_nI (by omega) (by omega), if_neg l13, ps_taken a3, cal_some, fa_pact35 hN hf.1 bd.2.2.1 (by unfold blC; rw [stC_ob (by omega), stC_ob (by omega)]; exact dV), k4, cal_some, if_pos rfl]
    exact Or.inr ⟨_, _, rfl, rfl, hf, nx_f1.trans (nx_f1.trans bl_f1), g4.trans (gb_lk (lk_bd bd_bdf))⟩
  · have dV : C'.1 3 r 6 0 = nI V := by rw [k3.2 3 (by omega), nx_3]; exact (hb_o hb).1
    rw [k1, cal_some, isO_m1, cal_some, if_pos rfl, fa_pact35 hN k4.1 bd.2.2.1 dV, k2, cal_some, if_pos rfl]
    exact Or.inr ⟨C', X', rfl, rfl, k4, nx_f1.trans k3, g4.trans (gb_lk k5)⟩
end LN3
