/-! Calls that try: faces, gains, best, richest, suit, fence, drawn, odds. -/
section TRQ
variable {N : Nat}
theorem i1n : ¬ ((1 : Int32) = 0) := by decide
theorem op_faces (hN : 2000 ≤ N) (b1 b2 : Int32) : OP (Rel N) (f_X10_faces N b1 b2) (f_X11_faces N b1 b2) := op_q fun C X hR => by
  have hR0 := rel_xe hR (xe_0 X 0)
  have hx0 := xe_0 X 0
  unfold f_X10_faces f_X11_faces
  rw [bnd_v]
  generalize stX X 0 0 0 = X0 at hR0 hx0 ⊢
  obtain ⟨⟨n, hH, -⟩, -, -, hRs⟩ := hR0
  have hb := (b_lt hRs.1).1
  rcases isGust_rel (C := C) (X := X0) b1 b2 with ⟨d, f, hd, hf1, hf, rfl, rfl, e1, e2⟩ | ⟨e1, e2⟩
  rotate_left
  · rw [e1, e2]
    exact ⟨_, _, _, rfl, rfl, CE.rf C, hx0⟩
  rw [e1, e2, cal_some, cal_some, if_neg i1n, if_neg i1n]
  obtain ⟨Y, y1, y2, y3⟩ := xb_start N X0 hN
  obtain ⟨q, D, hq, q1, c1, f1, ⟨hB, hT, hQ⟩, -, -⟩ := tq_start (hb_of hH) (FT.rf C) y3
  obtain ⟨v, D', Y', t1, t2, t3, t4, -⟩ := turn_rel hN hB hT hd hf hQ.1 hQ.2.1
  obtain ⟨Z, z1, z2, z3, z4, z5⟩ := xb_back hN (xb_fy y2 (fy_of t4.2.2.2.2.2))
  simp only [c1, cal_some, f1.1, ldR_lt hb, t1, y1, t2, z1, z5, t3]
  exact ⟨_, _, _, rfl, rfl, ce_ft (f1.trans (ft_of t4.2.2.2.2.1)), hx0.trans z2⟩
theorem gain_rel {n : BN} {C D : CM} {X Y : XM} {o d f : Nat} (hN : 2000 ≤ N) (hH : HereR C X n) (hb : C.2 2 0 1 < 4) (ho : o < 8) (hd : d < 8) (hf : f < 10) (hD : FT 3 C D) (hY : Y.1 2 = X.1 2) : ∃ v D' Y', f_X10_gainNow N (nI o) (nI d) (nI f) D = some (v, D') ∧ f_X11_gainOf N (nI o) (nI d) (nI f) Y = some (v, Y') ∧ FT 3 C D' ∧ XE Y Y' := by
  obtain ⟨Y1, y1, y2, y3⟩ := xb_start N Y hN
  obtain ⟨q, D1, hq, q1, c1, f1, ⟨hB, hT, hQ⟩, hS, hcp⟩ := tq_start (hb_of hH) hD (y3.trans hY)
  obtain ⟨D2, Y2, g1, g2, g3, -⟩ := gale_rel hN hB hT hd hf (show 1000 + 100000 * q ≤ 1000000000 by omega) hQ.1 hQ.2.1
  obtain ⟨Z, z1, z2, z3, z4, z5⟩ := xb_back hN (xb_fy y2 (fy_of g3.2.2.2.2.2))
  have hS2 := (wi_S g3).1 1 o (by omega) (by omega) ho
  have a1 : D2.1 4 3 1 o = Y2.1 2 (373 + o) := hS2
  have a2 : D2.1 4 0 1 o = Y1.1 2 (373 + o) := by
    rw [(ft_of g3.2.2.2.2.1 : FT 3 D1 D2).2 4 0 1 o (by omega) (by omega), f1.2 4 0 1 o (by omega) (by omega), ← hcp 1 o (by unfold dX6; omega)]
    exact sh_row hS 1 o (by omega) (by omega) ho
  refine ⟨Y2.1 2 (373 + o) - Y1.1 2 (373 + o), D2, Z, ?_, ?_, f1.trans (ft_of g3.2.2.2.2.1), z2⟩
  · unfold f_X10_gainNow
    simp (disch := omega) only [c1, cal_some, f1.1, ldR_lt, g1, ldA_nI, a1, a2, rt]
  · unfold f_X11_gainOf
    simp (disch := omega) only [y1, cal_some, nI_la, ldA_nI, g2, z1, rt]
theorem op_gains (hN : 2000 ≤ N) (b1 b2 b3 : Int32) : OP (Rel N) (f_X10_gains N b1 b2 b3) (f_X11_gains N b1 b2 b3) := op_q fun C X hR => by
  have hR0 := rel_xe hR (xe_0 X 0)
  have hx0 := xe_0 X 0
  unfold f_X10_gains f_X11_gains
  rw [bnd_v]
  generalize stX X 0 0 0 = X0 at hR0 hx0 ⊢
  obtain ⟨⟨n, hH, -⟩, -, -, hRs⟩ := hR0
  have hb := (b_lt hRs.1).1
  have bd := bk_bd hH.1
  rw [ldR_lt hb]
  rcases isOwner_rel hH.1 rfl b1 with ⟨o, ho, rfl, e1, e2⟩ | ⟨e1, e2⟩
  rotate_left
  · rw [e1, e2]
    exact ⟨_, _, _, rfl, rfl, CE.rf C, hx0⟩
  rw [e1, e2, cal_some, cal_some, if_neg i1n, if_neg i1n]
  rcases isGust_rel (C := C) (X := X0) b2 b3 with ⟨d, f, hd, hf1, hf, rfl, rfl, e1, e2⟩ | ⟨e1, e2⟩
  rotate_left
  · rw [e1, e2]
    exact ⟨_, _, _, rfl, rfl, CE.rf C, hx0⟩
  rw [e1, e2, cal_some, cal_some, if_neg i1n, if_neg i1n]
  obtain ⟨v, D', Y', g1, g2, g3, g4⟩ := gain_rel hN hH hb (show o < 8 by omega) hd hf (FT.rf C) rfl
  rw [g1, g2]
  exact ⟨_, _, _, rfl, rfl, ce_ft g3, hx0.trans g4⟩
theorem gain_const {n : BN} {C : CM} {X : XM} {o f : Nat} (hN : 2000 ≤ N) (hH : HereR C X n) (hb : C.2 2 0 1 < 4) (ho : o < 8) (hf : f < 10) : ∃ gv : Nat → Int32, ∀ d, d < 8 → ∀ D Y, FT 3 C D → Y.1 2 = X.1 2 → ∃ D' Y', f_X10_gainNow N (nI o) (nI d) (nI f) D = some (gv d, D') ∧ f_X11_gainOf N (nI o) (nI d) (nI f) Y = some (gv d, Y') ∧ FT 3 C D' ∧ XE Y Y' := by
  refine ⟨fun d => match f_X10_gainNow N (nI o) (nI d) (nI f) C with
    | some (v, _) => v
    | none => 0, fun d hd D Y hD hY => ?_⟩
  obtain ⟨v0, D0, Y0, a1, a2, -, -⟩ := gain_rel hN hH hb ho hd hf (FT.rf C) hY
  obtain ⟨v1, D1, Y1, c1, c2, c3, c4⟩ := gain_rel hN hH hb ho hd hf hD hY
  have e : v1 = v0 := by
    rw [a2] at c2
    cases c2
    rfl
  subst e
  refine ⟨D1, Y1, ?_, ?_, c3, c4⟩
  · dsimp only
    rw [a1]
    exact c1
  · dsimp only
    rw [a1]
    exact c2
theorem op_best (hN : 2000 ≤ N) (b1 b2 : Int32) : OP (Rel N) (f_X10_best N b1 b2) (f_X11_best N b1 b2) := op_q fun C X hR => by
  have hR0 := rel_xe hR (xe_0 X 0)
  have hx0 := xe_0 X 0
  unfold f_X10_best f_X11_best
  rw [bnd_v]
  generalize stX X 0 0 0 = X0 at hR0 hx0 ⊢
  obtain ⟨⟨n, hH, -⟩, -, -, hRs⟩ := hR0
  have hb := (b_lt hRs.1).1
  have bd := bk_bd hH.1
  rw [ldR_lt hb]
  rcases isOwner_rel hH.1 rfl b1 with ⟨o, ho, rfl, e1, e2⟩ | ⟨e1, e2⟩
  rotate_left
  · rw [e1, e2]
    exact ⟨_, _, _, rfl, rfl, CE.rf C, hx0⟩
  rw [e1, e2, cal_some, cal_some, if_neg i1n, if_neg i1n]
  have hg : (∃ f, 1 ≤ f ∧ f < 10 ∧ b2 = nI f ∧ f_X10_isGust 0 b2 C = some (1, C) ∧ f_X11_isIn b2 1 9 X0 = some (1, X0)) ∨ (f_X10_isGust 0 b2 C = some (0, C) ∧ f_X11_isIn b2 1 9 X0 = some (0, X0)) := by
    unfold f_X10_isGust
    rw [isIn_eq, if_neg (by decide), if_neg (by decide)]
    by_cases h1 : b2 < 1
    · rw [if_pos h1, if_pos h1]
      exact Or.inr ⟨rfl, rfl⟩
    rw [if_neg h1, if_neg h1]
    by_cases h9 : 9 < b2
    · rw [if_pos h9, if_pos h9]
      exact Or.inr ⟨rfl, rfl⟩
    rw [if_neg h9, if_neg h9]
    rcases int_cases b2 with h | ⟨f, hf, rfl⟩
    · exact absurd (Int32.lt_of_lt_of_le h (by decide)) h1
    · simp (disch := omega) only [lt_nl, lt_ln] at h1 h9
      exact Or.inl ⟨f, by omega, by omega, rfl, rfl, rfl⟩
  rcases hg with ⟨f, hf1, hf, rfl, e1, e2⟩ | ⟨e1, e2⟩
  rotate_left
  · rw [e1, e2]
    exact ⟨_, _, _, rfl, rfl, CE.rf C, hx0⟩
  rw [e1, e2, cal_some, cal_some, if_neg i1n, if_neg i1n]
  obtain ⟨gv, hgv⟩ := gain_const hN hH hb (show o < 8 by omega) hf
  obtain ⟨D0, -, d1, -, d3, -⟩ := hgv 0 (by omega) C X0 (FT.rf C) rfl
  have d1' : f_X10_gainNow N (nI o) 0 (nI f) C = some (gv 0, D0) := d1
  rw [d1', cal_some]
  refine loop2 (fun m i (q : Int32 × Int32 × CM) => f_X10_best_38 N (nI o) (nI f) m q.1 q.2.1 i q.2.2) (fun m i (q : Int32 × XM) => f_X11_best_30 N (nI o) (nI f) m q.1 i q.2)
    (fun k q q' => ∃ g, g < 8 ∧ q.1 = nI g ∧ q'.1 = nI g ∧ q.2.1 = gv g ∧ FT 3 C q.2.2 ∧ XE X0 q'.2)
    (fun y z => ∃ r C' X', y = some (r, C') ∧ z = some (r, X') ∧ CE C C' ∧ XE X X') 8 ?_ ?_ 7 1 N N (0, gv 0, D0) (0, X0) (by omega) (by omega) (by omega) ⟨0, by omega, rfl, rfl, rfl, d3, XE.rf X0⟩
  · rintro m m' k ⟨a, v, D⟩ ⟨a', Y⟩ hk ⟨g, hg, rfl, rfl, rfl, hD, hY⟩
    refine Or.inl ?_
    obtain ⟨D1, Y1, p1, p2, p3, p4⟩ := hgv k hk D Y hD (hY.2.1 2 rfl)
    have hY1 := hY.trans p4
    obtain ⟨-, Y2, -, r2, -, r4⟩ := hgv g hg D Y1 hD (hY1.2.1 2 rfl)
    dsimp only
    rw [f_X10_best_38, f_X11_best_30]
    simp (disch := omega) only [le_ln, if_neg, p1, p2, cal_some, r2, nI_al]
    by_cases h : gv k ≤ gv g
    · rw [if_pos h, if_pos h]
      exact ⟨(nI g, gv g, D1), (nI g, Y2), rfl, rfl, g, hg, rfl, rfl, rfl, p3, hY1.trans r4⟩
    · rw [if_neg h, if_neg h]
      exact ⟨(nI k, gv k, D1), (nI k, Y2), rfl, rfl, k, hk, rfl, rfl, rfl, p3, hY1.trans r4⟩
  · rintro m m' ⟨a, v, D⟩ ⟨a', Y⟩ ⟨g, hg, rfl, rfl, rfl, hD, hY⟩
    refine ⟨nI g, D, Y, ?_, ?_, ce_ft hD, hx0.trans hY⟩
    · simp (disch := omega) only [f_X10_best_38, le_ln, if_pos, rt]
    · simp (disch := omega) only [f_X11_best_30, le_ln, if_pos, rt]
theorem op_richest (hN : 2000 ≤ N) : OP (Rel N) (f_X10_richest N) (f_X11_richest N) := op_q fun C X hR => by
  have hR0 := rel_xe hR (xe_0 X 0)
  have hx0 := xe_0 X 0
  unfold f_X10_richest f_X11_richest
  rw [bnd_v]
  generalize stX X 0 0 0 = X0 at hR0 hx0 ⊢
  obtain ⟨⟨n, hH, -⟩, -, -, hRs⟩ := hR0
  have hb := (b_lt hRs.1).1
  have bd := bk_bd hH.1
  obtain ⟨Y, y1, y2, y3⟩ := xb_start N X0 hN
  obtain ⟨q, D, hq, q1, c1, f1, t1, -, -⟩ := tq_start (hb_of hH) (FT.rf C) y3
  obtain ⟨j, D', Y', -, e2, e3, t2, f2, f3⟩ := tq_pass (k := 48) hN (by omega) (by omega) hq t1
  have e2' : f_X9_pass N (C.2 2 0 1) 3 48 D = some (nI j, D') := e2
  have e3' : f_X11_goes N 48 Y = some (nI j, Y') := e3
  obtain ⟨Z, z1, z2, -, -, -⟩ := xb_back hN (xb_fy y2 f3)
  rw [c1, cal_some, f1.1, ldR_lt hb, e2', cal_some, y1, cal_some, e3', cal_some]
  have hD2 : D'.2 = C.2 := f2.1.trans f1.1
  have c6 : D'.1 3 (C.2 2 0 1) 6 0 = nI n.2.2.1 := by
    rw [t2.2.2.1.1]
    exact (bk_o hH.1).1
  have x2 : Y'.1 2 2 = nI n.2.2.1 := (bk_o t2.1).2
  refine loop2 (fun m i q => f_X10_richest_39 N m q i D') (fun m i q => f_X11_richest_20 N m q i Y') (fun k q q' => (q = -1 ∧ q' = -1) ∨ ∃ g, g < 8 ∧ q = nI g ∧ q' = nI g)
    (fun y z => ∃ r C' X', y = some (r, C') ∧ z = some (r, X') ∧ CE C C' ∧ XE X X') n.2.2.1 ?_ ?_ n.2.2.1 0 N N (-1) (-1) (by omega) (by omega) (by omega) (Or.inl ⟨rfl, rfl⟩)
  · rintro m m' k a a' hk ha
    refine Or.inl ?_
    obtain ⟨v, v1, v2⟩ := tq_w t2 (show k < 8 by omega)
    rw [f_X10_richest_39, f_X11_richest_20]
    simp (disch := omega) only [hD2, ldR_lt hb, c6, le_nn, if_neg, ldA_l, x2, v1, v2, cal_some, f_X10_richest_80, f_X11_richest_47, nI_al]
    rcases ha with ⟨rfl, rfl⟩ | ⟨g, hg, rfl, rfl⟩
    · rw [if_pos rfl, if_pos (by decide)]
      exact ⟨nI k, nI k, rfl, rfl, Or.inr ⟨k, by omega, rfl, rfl⟩⟩
    · obtain ⟨u, u1, u2⟩ := tq_w t2 hg
      have hne : ¬ (nI g = (-1 : Int32)) := fun e => nI_nneg (show g < 2147483648 by omega) (by rw [e]; decide)
      rw [if_neg hne, if_neg (nI_nneg (by omega)), u1, u2, cal_some, cal_some]
      by_cases h : v ≤ u
      · rw [if_pos h, if_pos h]
        exact ⟨nI g, nI g, rfl, rfl, Or.inr ⟨g, hg, rfl, rfl⟩⟩
      · rw [if_neg h, if_neg h]
        exact ⟨nI k, nI k, rfl, rfl, Or.inr ⟨k, by omega, rfl, rfl⟩⟩
  · rintro m m' a a' ha
    have haa : a' = a := by
      rcases ha with ⟨rfl, rfl⟩ | ⟨g, hg, rfl, rfl⟩ <;> rfl
    subst haa
    refine ⟨a', D', Z, ?_, ?_, ce_ft (f1.trans f2), hx0.trans z2⟩
    · simp (disch := omega) only [f_X10_richest_39, hD2, ldR_lt hb, c6, le_nn, if_pos, rt]
    · simp (disch := omega) only [f_X11_richest_20, ldA_l, x2, le_nn, if_pos, z1, cal_some, rt]
theorem op_suit (hN : 2000 ≤ N) (b1 b2 : Int32) : OP (Rel N) (f_X10_suit N b1 b2) (f_X11_suit N b1 b2) := op_q fun C X hR => by
  have hR0 := rel_xe hR (xe_0 X 0)
  have hx0 := xe_0 X 0
  unfold f_X10_suit f_X11_suit
  rw [bnd_v]
  generalize stX X 0 0 0 = X0 at hR0 hx0 ⊢
  obtain ⟨⟨n, hH, -⟩, -, -, hRs⟩ := hR0
  have hb := (b_lt hRs.1).1
  have bd := bk_bd hH.1
  rw [ldR_lt hb]
  rcases isOwner_rel hH.1 rfl b1 with ⟨o, ho, rfl, e1, e2⟩ | ⟨e1, e2⟩
  rotate_left
  · rw [e1, e2]
    exact ⟨_, _, _, rfl, rfl, CE.rf C, hx0⟩
  rw [e1, e2, cal_some, cal_some, if_neg i1n, if_neg i1n]
  rcases tree_rel hH.1 hH.2.1 b2 with ⟨u, hu, rfl, hst, e1, e2⟩ | ⟨e1, e2⟩
  rotate_left
  · rw [e1, e2]
    exact ⟨_, _, _, rfl, rfl, CE.rf C, hx0⟩
  rw [e1, e2, cal_some, cal_some, if_pos rfl, if_neg i1n]
  obtain ⟨Y, y1, y2, y3⟩ := xb_start N X0 hN
  obtain ⟨v, D1, Y1, w1, w2, w3, w4⟩ := we_rel hN hH hb (show o < 8 by omega) (FT.rf C) y3 y2
  obtain ⟨Z, z1, z2, z3, z4, -⟩ := xb_back hN w4
  obtain ⟨q, D2, hq, q1, c1, f1, t1, -, -⟩ := tq_start (hb_of hH) w3 z4
  obtain ⟨c, hc, s1, s2⟩ := bk_tree hH.1 u hu
  have c3 : D2.1 3 (C.2 2 0 1) = C.1 3 (C.2 2 0 1) := t1.2.2.1.1
  have etk := takeTree_eq (r := 3) (b := C.2 2 0 1) (u := u) (c := c) (C := D2) (by omega) hc.1 (by rw [c3]; exact s1)
  obtain ⟨t2, f2, f3⟩ := tq_fell (w := D2.1 4 3 0 3 &&& (((1 : Int32) <<< (nI u &&& 31)) ^^^ (-1))) t1 hu hc.1 (by rw [z4]; exact s2) (by rw [z4]; exact hst)
  generalize stC (stC D2 4 3 8 c 0) 4 3 0 3 (D2.1 4 3 0 3 &&& (((1 : Int32) <<< (nI u &&& 31)) ^^^ (-1))) = D3 at etk t2 f2
  obtain ⟨v', j, D4, Y4, a1, a2, a3, a4, a5⟩ := atLast_rel hN (by omega) hq (show o < 8 by omega) t2
  obtain ⟨Z2, z5, z6, -, -, -⟩ := xb_back hN (xb_fy (xb_fy z3 f3) a5)
  rw [w1, cal_some, c1, cal_some, f1.1, ldR_lt hb, etk, cal_some, f2.1, f1.1, ldR_lt hb, a1, cal_some, a2, cal_some, y1, cal_some, w2, cal_some, z1, cal_some]
  simp (disch := omega) only [nI_la, sxA_nI, a3, cal_some, z5]
  exact ⟨_, _, _, rfl, rfl, ce_ft (f1.trans (f2.trans a4)), hx0.trans z6⟩
theorem wdr_rel {n : BN} {C D : CM} {X Y : XM} {o k : Nat} {sd : Int32} (hN : 2000 ≤ N) (hH : HereR C X n) (hb : C.2 2 0 1 < 4) (ho : o < 8) (hk : k ≤ 48) (hD : FT 3 C D) (hY : Y.1 2 = X.1 2) (hXB : XB X Y) : ∃ v D' Y', f_X10_wealthDrawn N (nI o) (nI k) sd D = some (v, D') ∧ f_X11_drawnOf N (nI o) (nI k) sd Y = some (v, Y') ∧ FT 3 C D' ∧ XB X Y' ∧ XE X Y' ∧ Y'.1 2 = X.1 2 := by
  obtain ⟨q, D1, hq, q1, c1, f1, ⟨hB, hT, hQ⟩, -, -⟩ := tq_start (hb_of hH) hD hY
  obtain ⟨D2, Y2, v, d1, d2, d3, d4, d5⟩ := drawn_rel (N := N) (k := k) (q := q) (a1 := o) (sd := sd) (g := 1000 + 100000 * q) hN hB hT (by omega) hk ho hQ.1 hQ.2.1
  obtain ⟨Z, z1, z2, z3, z4, -⟩ := xb_back hN (xb_fy hXB d5)
  refine ⟨v, D2, Z, ?_, ?_, f1.trans d4, z3, z2, z4⟩
  · unfold f_X10_wealthDrawn
    rw [c1, cal_some, f1.1, ldR_lt hb, d1, cal_some, d3]
    rfl
  · rw [d2, z1]
    rfl
theorem op_drawn (hN : 2000 ≤ N) (b1 b2 b3 : Int32) : OP (Rel N) (f_X10_drawn N b1 b2 b3) (f_X11_drawn N b1 b2 b3) := op_q fun C X hR => by
  have hR0 := rel_xe hR (xe_0 X 0)
  have hx0 := xe_0 X 0
  unfold f_X10_drawn f_X11_drawn
  rw [bnd_v]
  generalize stX X 0 0 0 = X0 at hR0 hx0 ⊢
  obtain ⟨⟨n, hH, -⟩, -, -, hRs⟩ := hR0
  have hb := (b_lt hRs.1).1
  have bd := bk_bd hH.1
  rw [ldR_lt hb]
  rcases isOwner_rel hH.1 rfl b1 with ⟨o, ho, rfl, e1, e2⟩ | ⟨e1, e2⟩
  rotate_left
  · rw [e1, e2]
    exact ⟨_, _, _, rfl, rfl, CE.rf C, hx0⟩
  rw [e1, e2, cal_some, cal_some, if_neg i1n, if_neg i1n]
  simp only [isIn_eq, cal_some]
  by_cases h1 : b2 < 1
  · rw [if_pos h1, if_pos h1, if_pos rfl]
    exact ⟨_, _, _, rfl, rfl, CE.rf C, hx0⟩
  rw [if_neg h1, if_neg h1]
  by_cases h2 : b2 ≤ 48
  rotate_left
  · rw [if_neg h2, if_pos (Int32.not_le.mp h2), if_pos rfl]
    exact ⟨_, _, _, rfl, rfl, CE.rf C, hx0⟩
  rw [if_pos h2, if_neg (Int32.not_lt.mpr h2), if_neg i1n]
  obtain ⟨k, hk, rfl⟩ : ∃ k, k < 2147483648 ∧ b2 = nI k := by
    rcases int_cases b2 with h | h
    · exact absurd (Int32.lt_of_lt_of_le h (by decide)) h1
    · exact h
  rw [le_nl hk (by decide)] at h2
  obtain ⟨Y, y1, y2, y3⟩ := xb_start N X0 hN
  obtain ⟨v, D', Y', w1, w2, w3, -, w5, -⟩ := wdr_rel (sd := b3) hN hH hb (show o < 8 by omega) (show k ≤ 48 from h2) (FT.rf C) y3 y2
  rw [w1, y1, cal_some, cal_some, w2]
  exact ⟨_, _, _, rfl, rfl, ce_ft w3, hx0.trans w5⟩
theorem op_odds (hN : 2000 ≤ N) (b1 b2 b3 : Int32) : OP (Rel N) (f_X10_odds N b1 b2 b3) (f_X11_odds N b1 b2 b3) := op_q fun C X hR => by
  have hR0 := rel_xe hR (xe_0 X 0)
  have hx0 := xe_0 X 0
  unfold f_X10_odds f_X11_odds
  rw [bnd_v]
  generalize stX X 0 0 0 = X0 at hR0 hx0 ⊢
  obtain ⟨⟨n, hH, -⟩, -, -, hRs⟩ := hR0
  have hb := (b_lt hRs.1).1
  have bd := bk_bd hH.1
  rw [ldR_lt hb]
  rcases isOwner_rel hH.1 rfl b1 with ⟨o, ho, rfl, e1, e2⟩ | ⟨e1, e2⟩
  rotate_left
  · rw [e1, e2]
    exact ⟨_, _, _, rfl, rfl, CE.rf C, hx0⟩
  rw [e1, e2, cal_some, cal_some, if_neg i1n, if_neg i1n]
  simp only [isIn_eq, cal_some]
  by_cases h1 : b2 < 1
  · rw [if_pos h1, if_pos h1, if_pos rfl]
    exact ⟨_, _, _, rfl, rfl, CE.rf C, hx0⟩
  rw [if_neg h1, if_neg h1]
  by_cases h2 : b2 ≤ 100
  rotate_left
  · rw [if_neg h2, if_pos (Int32.not_le.mp h2), if_pos rfl]
    exact ⟨_, _, _, rfl, rfl, CE.rf C, hx0⟩
  rw [if_pos h2, if_neg (Int32.not_lt.mpr h2), if_neg i1n]
  obtain ⟨k, hk, rfl⟩ : ∃ k, k < 2147483648 ∧ b2 = nI k := by
    rcases int_cases b2 with h | h
    · exact absurd (Int32.lt_of_lt_of_le h (by decide)) h1
    · exact h
  rw [le_nl hk (by decide)] at h2
  obtain ⟨Y, y1, y2, y3⟩ := xb_start N X0 hN
  have ho8 : o < 8 := by omega
  have row := sh_row hH.2.1
  have g1 := row 1 o (by omega) (by omega) ho8
  have g2 := row 2 o (by omega) (by omega) ho8
  have hwY : f_X11_wealth (nI o) Y = some (X0.1 2 (373 + o) + X0.1 2 (381 + o), Y) := by
    simp (disch := omega) only [f_X11_wealth, nI_la, ldA_nI, rt, y3]
  have hwC : ∀ D, FT 3 C D → f_X6_wealth 0 (nI o) D = some (X0.1 2 (373 + o) + X0.1 2 (381 + o), D) := by
    intro D hD
    have a1 : D.1 4 0 1 o = X0.1 2 (373 + o) := (hD.2 4 0 1 o (by omega) (by omega)).trans g1
    have a2 : D.1 4 0 2 o = X0.1 2 (381 + o) := (hD.2 4 0 2 o (by omega) (by omega)).trans g2
    simp (disch := omega) only [f_X6_wealth, ldA_nI, rt, a1, a2]
  rw [y1, cal_some, hwY, cal_some]
  generalize X0.1 2 (373 + o) + X0.1 2 (381 + o) = had at hwC
  refine loop2 (fun m i (q : Int32 × CM) => f_X10_odds_33 N (nI o) (nI k) b3 m q.1 i q.2) (fun m i (q : Int32 × XM) => f_X11_odds_42 N (nI o) (nI k) b3 had m q.1 i q.2)
    (fun i q q' => q'.1 = q.1 ∧ FT 3 C q.2 ∧ XB X0 q'.2 ∧ q'.2.1 2 = X0.1 2 ∧ (i = 0 ∨ XE X0 q'.2))
    (fun y z => ∃ r C' X', y = some (r, C') ∧ z = some (r, X') ∧ CE C C' ∧ XE X X') k ?_ ?_ k 0 N N (0, C) (0, Y) (by omega) (by omega) (by omega) ⟨rfl, FT.rf C, y2, y3, Or.inl rfl⟩
  · rintro m m' i ⟨a, D⟩ ⟨a', Y⟩ hi ⟨rfl, hD, hXB, hY, -⟩
    refine Or.inl ?_
    obtain ⟨v, D', Y', w1, w2, w3, w4, w5, w6⟩ := wdr_rel (sd := b3 + nI i) hN hH hb ho8 (show 12 ≤ 48 by omega) hD hY hXB
    have w1' : f_X10_wealthDrawn N (nI o) 12 (b3 + nI i) D = some (v, D') := w1
    have w2' : f_X11_drawnOf N (nI o) 12 (b3 + nI i) Y = some (v, Y') := w2
    dsimp only
    rw [f_X10_odds_33, f_X11_odds_42]
    simp (disch := omega) only [le_nn, if_neg, w1', cal_some, hwC D' w3, w2', nI_al, f_X11_odds_71, Int32.add_zero]
    by_cases h : had ≤ v
    · rw [if_pos h, if_pos h]
      exact ⟨(a', D'), (a', Y'), rfl, rfl, rfl, w3, w4, w6, Or.inr w5⟩
    · rw [if_neg h, if_neg h]
      exact ⟨(a' + 1, D'), (a' + 1, Y'), rfl, rfl, rfl, w3, w4, w6, Or.inr w5⟩
  · rintro m m' ⟨a, D⟩ ⟨a', Y⟩ ⟨rfl, hD, hXB, hY, hE⟩
    have hxe : XE X0 Y := by
      rcases hE with h | h
      · subst h
        exact absurd (by decide : nI 0 < (1 : Int32)) h1
      · exact h
    refine ⟨a', D, Y, ?_, ?_, ce_ft hD, hx0.trans hxe⟩
    · simp (disch := omega) only [f_X10_odds_33, le_nn, if_pos, rt]
    · simp (disch := omega) only [f_X11_odds_42, le_nn, if_pos, rt]
end TRQ
