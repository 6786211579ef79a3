/-! judge as a call. -/
section JDG
variable {N : Nat}
def jrC (D : CM) (y dn : Int32) : CM := stC (stC (stC (stC (stC D 0 0 5 0 y) 0 0 5 1 dn) 0 0 5 2 (D.1 4 3 0 0)) 0 0 5 3 (D.1 4 3 0 1)) 0 0 5 4 (D.1 4 3 0 2)
def jrX (Y : XM) (v : Int32) : XM := stX (stX (stX (stX Y 13 2 (Y.1 2 371)) 13 3 (Y.1 2 372)) 13 4 v) 0 43 1
theorem j85 (a1 y dn : Int32) (D : CM) : f_X10_judge_85 N a1 y dn D = (if a1 = 1 then (if dn ≤ 0 then (f_X10_judge_165 N y dn (jrC D y dn)) else cal (f_X10_keepPast (jrC D y dn)) (fun _ C9 => cal (f_X6_copy 0 3 C9) (fun _ C11 => (f_X10_judge_165 N y dn C11)))) else (f_X10_judge_165 N y dn (jrC D y dn))) := by
  unfold f_X10_judge_85
  rw [stA_l (x := 0) (by decide) (by decide), stA_l (x := 1) (by decide) (by decide), stA_l (x := 2) (by decide) (by decide), stA_l (x := 3) (by decide) (by decide), stA_l (x := 4) (by decide) (by decide)]
  rfl
theorem j162 {fe : Nat → Nat} (hN : 2000 ≤ N) (a1 a2 : Int32) (Y : XM) (hf : ∀ c, c < 100 → Y.1 2 (441 + c) = nI (fe c)) : f_X11_judge_162 N a1 a2 Y = (if a1 = 1 then (if Y.1 13 1 ≤ 0 then (f_X11_judge_261 N a1 a2 (jrX Y (nI (sumN fe 100)))) else cal (f_X11_keep N (jrX Y (nI (sumN fe 100)))) (fun _ X13 => (f_X11_judge_225 N a1 a2 N 0 X13))) else (f_X11_judge_261 N a1 a2 (jrX Y (nI (sumN fe 100))))) := by
  unfold f_X11_judge_162
  have e1 : (stX (stX Y 13 2 (Y.1 2 371)) 13 3 (Y.1 2 372)).1 2 = Y.1 2 := by rw [stX_row (by omega), stX_row (by omega)]
  have e2 : (stX Y 13 2 (Y.1 2 371)).1 2 = Y.1 2 := stX_row (by omega)
  have ef := fences_eq (fe := fe) (stX (stX Y 13 2 (Y.1 2 371)) 13 3 (Y.1 2 372)) hN (fun c hc => by rw [e1]; exact hf c hc)
  have e13 : (jrX Y (nI (sumN fe 100))).1 13 1 = Y.1 13 1 := by
    unfold jrX
    rw [stX_row (by omega), stX_ne (by omega), stX_ne (by omega), stX_ne (by omega)]
  simp (disch := omega) only [ldA_l, sxA_l, e2, ef, cal_some, bnd_v]
  have e14 : (stX (stX (stX (stX Y 13 2 (Y.1 2 371)) 13 3 (Y.1 2 372)) 13 4 (nI (sumN fe 100))) 0 43 1).1 13 1 = Y.1 13 1 := e13
  rw [e14]
  rfl
theorem jrC_fr (D : CM) (y dn : Int32) : SameC D (jrC D y dn) ∧ (∀ k i j x, ¬ (k = 0 ∧ i = 0 ∧ j = 5) → (jrC D y dn).1 k i j x = D.1 k i j x) ∧ (jrC D y dn).2 = D.2 ∧ (jrC D y dn).1 0 0 5 0 = y ∧ (jrC D y dn).1 0 0 5 1 = dn ∧ (jrC D y dn).1 0 0 5 2 = D.1 4 3 0 0 ∧ (jrC D y dn).1 0 0 5 3 = D.1 4 3 0 1 ∧ (jrC D y dn).1 0 0 5 4 = D.1 4 3 0 2 := by
  refine ⟨(same_st0 _).trans ((same_st0 _).trans ((same_st0 _).trans ((same_st0 _).trans (same_st0 _)))), fun k i j x h => ?_, rfl, ?_, ?_, ?_, ?_, ?_⟩
  · unfold jrC
    simp only [stC]
    rw [if_neg (by omega), if_neg (by omega), if_neg (by omega), if_neg (by omega), if_neg (by omega)]
  all_goals
    unfold jrC
    simp [stC]
theorem op_judge (hN : 2000 ≤ N) (b1 : Int32) : OP (Rel N) (f_X10_judge N b1) (f_X11_judge N b1) := by
  intro C X hR
  have hR0 := rel_xe hR (xe_0 X 0)
  unfold f_X10_judge f_X11_judge
  rw [bnd_v]
  generalize stX X 0 0 0 = X0 at hR0 ⊢
  simp only [isIn_eq, cal_some]
  by_cases hb1 : b1 = 0 ∨ b1 = 1
  rotate_left
  · have h0 : ¬ b1 = 0 := fun h => hb1 (Or.inl h)
    have h1 : ¬ b1 = 1 := fun h => hb1 (Or.inr h)
    rw [if_neg h0, if_neg h1]
    refine ⟨_, _, _, rfl, ?_, hR0⟩
    rcases int_cases b1 with h | ⟨k, hk, rfl⟩
    · rw [if_pos h, if_pos rfl]
      rfl
    · simp (disch := omega) only [eq_nl] at h0 h1
      simp (disch := omega) only [lt_nl, if_neg, lt_ln, if_pos, if_true]
      rfl
  have hin : (if b1 < 0 then (0 : Int32) else if 1 < b1 then 0 else 1) = 1 := by
    rcases hb1 with rfl | rfl <;> decide
  have hc12 : (if b1 = 0 then f_X10_judge_12 N b1 C else if b1 = 1 then f_X10_judge_12 N b1 C else rt (-2) C) = f_X10_judge_12 N b1 C := by
    rcases hb1 with rfl | rfl <;> rfl
  rw [hc12, hin, if_neg i1n, judge19_eq N b1 X0 hN, judge50_eq N b1 _ hN]
  obtain ⟨⟨n, hH, hP⟩, hT, hG, hRs⟩ := id hR0
  obtain ⟨hRf, hI, hM, hPr, hJu, hF, hR6⟩ := id hRs
  have hb := b_lt hRf
  have bd := bk_bd hH.1
  have hn : n.2.2.1 ≤ 8 ∧ n.2.2.2 ≤ 12 := ⟨bd.2.2.1, bd.2.2.2⟩
  obtain ⟨q, D1, hq, q1, cp, f1, t1, hS1, hcp⟩ := tq_start (Y := X0) (hb_of hH) (FT.rf C) rfl
  unfold f_X10_judge_12
  rw [cp, cal_some]
  generalize hY0 : rwX (rwX X0 14 (fil (X0.1 14) (fun x => X0.1 2 (371 + x)) 0 172)) 13 (fil ((rwX X0 14 (fil (X0.1 14) (fun x => X0.1 2 (371 + x)) 0 172)).1 13) (fun _ => 0) 0 5) = Y0
  have y2 : Y0.1 2 = X0.1 2 := by rw [← hY0, rwX_out (by omega), rwX_out (by omega)]
  have y13 : ∀ x, x < 5 → Y0.1 13 x = 0 := fun x hx => by
    rw [← hY0, rwX_in]
    unfold fil
    rw [if_pos (by omega)]
  have yJ : XJ X0 Y0 := by
    refine ⟨by rw [← hY0]; rfl, fun x hx => ?_, fun j hj h2 h13 => ?_, fun x hx => ?_, fun x hx => by rw [y2]⟩
    · rw [← hY0, rwX_out (by omega), rwX_out (by omega)]
    · have : j ≠ 14 := fun e => by subst e; cases hj
      rw [← hY0, rwX_out h13, rwX_out this]
    · rw [← hY0, rwX_out (by omega), rwX_in]
      have := fil_in (r := X0.1 14) (g := fun x => X0.1 2 (371 + x)) (a := 0) hx
      rwa [Nat.zero_add] at this
  clear hY0
  have hTS : TS n (C.2 2 0 1) (C.1 3 (C.2 2 0 1)) D1 Y0 := by
    refine ⟨by rw [y2]; exact hH.1, t1.2.2.1.1, ?_⟩
    rw [y2]
    exact hS1
  obtain ⟨y, dn, wr, D, Y, hy, hdn, e1, e2, e3, j0, j1, ts, hD, hJ, hdn0⟩ := judge_loop (a1 := b1) hN hH hb f1 yJ hTS (y13 0 (by omega)) (y13 1 (by omega)) y2
  obtain ⟨fe, g1, g2, g3⟩ := sh_fe ts.2.2
  rw [e1, e2, j85, j162 (fe := fe) hN b1 wr Y (fun c hc => (g1 c hc).2), j1]
  have hans : ∀ E : CM, f_X10_judge_165 N (nI y) (nI dn) E = some (wr, E) := by
    intro E
    unfold f_X10_judge_165
    rcases e3 with ⟨rfl, rfl⟩ | ⟨hy0, rfl⟩
    · rw [if_pos (show nI 0 = (0 : Int32) from rfl)]
      rfl
    · have hne : ¬ (nI y = (0 : Int32)) := by simp (disch := omega) only [eq_nl]; exact hy0
      rw [if_neg hne]
      rfl
  obtain ⟨sC, frC, rC, v0, v1, v2, v3, v4⟩ := jrC_fr D (nI y) (nI dn)
  rw [hans]
  generalize hZ : jrX Y (nI (sumN fe 100)) = Z
  have zr : ∀ j x, j ≠ 13 → ¬ (j = 0 ∧ x = 43) → Z.1 j x = Y.1 j x := by
    intro j x a1 a2
    rw [← hZ]
    unfold jrX
    simp only [stX]
    rw [if_neg a2, if_neg (by omega), if_neg (by omega), if_neg (by omega)]
  have z43 : Z.1 0 43 = 1 := by rw [← hZ]; exact stX_at
  have z2' : Z.2 = Y.2 := by rw [← hZ]; rfl
  have z13 : ∀ i, i < 5 → (jrC D (nI y) (nI dn)).1 0 0 5 i = Z.1 13 i := by
    intro i hi
    rw [← hZ]
    unfold jrX
    rw [stX_row (by omega)]
    rcases (by omega : i = 0 ∨ i = 1 ∨ i = 2 ∨ i = 3 ∨ i = 4) with rfl | rfl | rfl | rfl | rfl
    · rw [v0, stX_ne (by omega), stX_ne (by omega), stX_ne (by omega), j0]
    · rw [v1, stX_ne (by omega), stX_ne (by omega), stX_ne (by omega), j1]
    · rw [v2, stX_ne (by omega), stX_ne (by omega), stX_at]
      exact sh_q ts.2.2
    · rw [v3, stX_ne (by omega), stX_at]
      exact sh_tr ts.2.2
    · rw [v4, stX_at]
      exact g3
  clear hZ
  generalize jrC D (nI y) (nI dn) = E at sC frC rC z13 ⊢
  have sCE : SameC C E := (same_ce (ce_ft hD)).trans sC
  -- what was judged, and the state as it was
  have base : ∀ X' : XM, X'.2 = Z.2 → X'.1 2 = X0.1 2 → (∀ j x, j ≠ 2 → X'.1 j x = Z.1 j x) → Rel N E X' := by
    intro X' a1 a2 a3
    have n2 : X'.2 = X0.2 := a1.trans (z2'.trans hJ.1)
    have fl : ∀ x, lastF x = true → x ≠ 43 → X'.1 0 x = X0.1 0 x := fun x hx h43 => (a3 0 x (by omega)).trans ((zr 0 x (by omega) (by omega)).trans (hJ.2.1 x hx))
    have rw' : ∀ j, lastR j = true → j ≠ 2 → j ≠ 13 → X'.1 j = X0.1 j := fun j hj h2 h13 => (funext fun x => (a3 j x h2).trans (zr j x h13 (fun e => by rw [e.1] at hj; cases hj))).trans (hJ.2.2.1 j hj h2 h13)
    have e0 : ∀ j x, j ≠ 5 → E.1 0 0 j x = C.1 0 0 j x := fun j x hj => (frC 0 0 j x (by omega)).trans (hD.2 0 0 j x (by omega) (by omega))
    have e0r : ∀ j, j ≠ 5 → E.1 0 0 j = C.1 0 0 j := fun j hj => funext fun x => e0 j x hj
    refine rel_upd hR0 sCE ⟨a2, rw' 10 rfl (by omega) (by omega), rw' 17 rfl (by omega) (by omega), rw' 19 rfl (by omega) (by omega), fl 33 rfl (by omega), fun x _ => by rw [n2], by rw [n2], by rw [n2]⟩ ?_ ?_ ?_ ?_ ?_
    · unfold TapeR
      rw [e0r 0 (by omega), e0r 1 (by omega), fl 2 rfl (by omega), rw' 1 rfl (by omega) (by omega)]
      exact hT
    · unfold MoreR
      rw [e0r 0 (by omega), fl 35 rfl (by omega), fl 34 rfl (by omega)]
      exact hM
    · unfold PairR
      rw [e0r 0 (by omega), e0r 3 (by omega), fl 38 rfl (by omega), rw' 12 rfl (by omega) (by omega)]
      exact hPr
    · refine Or.inr ⟨(a3 0 43 (by omega)).trans z43, fun i hi => ?_⟩
      rw [a3 13 i (by omega)]
      exact z13 i hi
    · rw [e0r 0 (by omega), fl 15 rfl (by omega)]
      exact hF
  have z14 : ∀ x, x < 172 → Z.1 14 x = X0.1 2 (371 + x) := fun x hx => (zr 14 x (by omega) (by omega)).trans (hJ.2.2.2.1 x hx)
  have zo : ∀ x, ¬ (371 ≤ x ∧ x < 543) → Z.1 2 x = X0.1 2 x := fun x hx => (zr 2 x (by omega) (by omega)).trans (hJ.2.2.2.2 x hx)
  have back : (rwX Z 2 (fil (Z.1 2) (Z.1 14) 371 172)).1 2 = X0.1 2 := by
    rw [rwX_in]
    funext x
    unfold fil
    by_cases h : 371 ≤ x ∧ x < 371 + 172
    · rw [if_pos h, z14 _ (by omega), show 371 + (x - 371) = x by omega]
    · rw [if_neg h]
      exact zo x (by omega)
  have hRb := base (rwX Z 2 (fil (Z.1 2) (Z.1 14) 371 172)) rfl back (fun j x hj => by rw [rwX_out hj])
  have h1n : ∀ W : XM, f_X11_judge_261 N 1 wr W = some (wr, W) := by
    intro W
    unfold f_X11_judge_261
    obtain ⟨m, hm⟩ : ∃ m, N = m + 1 := ⟨N - 1, by omega⟩
    have : ∀ m, f_X11_judge_263 N 1 wr (m + 1) 0 W = some (wr, W) := fun m => by
      rw [f_X11_judge_263, if_neg (by decide), if_neg (by decide)]
      rfl
    rw [hm] at this ⊢
    exact this m
  rcases hb1 with rfl | rfl
  · rw [if_neg (show ¬ ((0 : Int32) = 1) by decide), if_neg (show ¬ ((0 : Int32) = 1) by decide)]
    unfold f_X11_judge_261
    rw [judge263_eq N wr Z hN]
    exact ⟨_, _, _, rfl, rfl, hRb⟩
  rw [if_pos rfl, if_pos rfl]
  simp (disch := omega) only [le_nl]
  by_cases hd0 : dn ≤ 0
  · rw [if_pos hd0, if_pos hd0, h1n]
    refine ⟨_, _, _, rfl, rfl, base Z rfl ?_ (fun _ _ _ => rfl)⟩
    rw [← hdn0 (by omega)]
    exact funext fun x => zr 2 x (by omega) (by omega)
  rw [if_neg hd0, if_neg hd0]
  generalize hX5 : rwX Z 2 (fil (Z.1 2) (Z.1 14) 371 172) = X5 at back hRb
  have x5r : ∀ j, j ≠ 2 → X5.1 j = Z.1 j := fun j hj => by rw [← hX5]; exact rwX_out hj
  have x5n : X5.2 = Z.2 := by rw [← hX5]; rfl
  clear hX5
  obtain ⟨⟨n', hH5, hP5⟩, hT5, -, hRs5⟩ := id hRb
  -- the same bank, so the same numbers
  have e3C : ∀ i, E.1 3 i = C.1 3 i := fun i => funext fun j => funext fun x => (frC 3 i j x (by omega)).trans (hD.2 3 i j x (by omega) (by omega))
  have hH5n : HereR E X5 n := by
    have e5 : ∀ i, E.1 5 i = C.1 5 i := fun i => funext fun j => funext fun x => (frC 5 i j x (by omega)).trans (hD.2 5 i j x (by omega) (by omega))
    have e6 : ∀ i, E.1 6 i = C.1 6 i := fun i => funext fun j => funext fun x => (frC 6 i j x (by omega)).trans (hD.2 6 i j x (by omega) (by omega))
    have e4 : E.1 4 0 = C.1 4 0 := funext fun j => funext fun x => (frC 4 0 j x (by omega)).trans (hD.2 4 0 j x (by omega) (by omega))
    unfold HereR
    rw [rC, hD.1, e3C, e4, e5, e6, back, x5n, z2', hJ.1]
    exact hH
  have e4i : ∀ i, i ≠ 3 → E.1 4 i = C.1 4 i := fun i hi => funext fun j => funext fun x => (frC 4 i j x (by omega)).trans (hD.2 4 i j x (by omega) (by omega))
  have x33 : X5.1 0 33 = X0.1 0 33 := (congrFun (x5r 0 (by omega)) 33).trans ((zr 0 33 (by omega) (by omega)).trans (hJ.2.1 33 rfl))
  have x10 : X5.1 10 = X0.1 10 := (x5r 10 (by omega)).trans ((funext fun x => zr 10 x (by omega) (by omega)).trans (hJ.2.2.1 10 rfl (by omega) (by omega)))
  have hP5n : PastR n (X5.1 2) E X5 := by
    rw [back]
    exact pastR_mono hn hP (funext fun x => (frC 7 0 0 x (by omega)).trans (hD.2 7 0 0 x (by omega) (by omega))) (fun i hi => e4i i (by omega)) x33 x10
  obtain ⟨E6, X6, k1, k2, k3, k4, k5, k6, k7, k8⟩ := keep_rel hN hn hP5n hH5n.2.1
  obtain ⟨top, kp, p1, p2, p3, p4, p5, p6⟩ := id hP5n
  obtain ⟨X6', l1, l2, l3, l4, l5, l6⟩ := keep_eq N X5 kp p2 p5 hN
  have hX66 : X6' = X6 := by
    rw [k2] at l1
    cases l1
    rfl
  subst hX66
  have z33 : Z.1 0 33 = nI kp := (congrFun (x5r 0 (by omega)) 33).symm.trans p5
  obtain ⟨Z9, o1, o2, o3, o4, o5, o6⟩ := keep_eq N Z kp p2 z33 hN
  have hM1 : min (kp + 1) 8 = (min (kp + 1) 8 - 1) + 1 := by omega
  rw [k1, o1, cal_some, cal_some, judge225_eq N 1 wr Z9 (min (kp + 1) 8 - 1) (by omega) (by rw [← hM1]; exact o4) hN, h1n, copy_X6 E6 (show 3 ≠ 0 by omega), cal_some, hans]
  refine ⟨_, _, _, rfl, rfl, ?_⟩
  have z9r : ∀ j, j ≠ 10 → j ≠ 0 → Z9.1 j = Z.1 j := fun j a1 a2 => funext fun x => o3 j x a1 (by omega)
  have E4 : ∀ j x, dX6 j x → (cpK E6 4 0 3 dX6).1 4 0 j x = D.1 4 3 j x := fun j x hj => by
    rw [cpK_in hj, k4 4 3 j x (by omega) (by omega) (by omega)]
    exact frC 4 3 j x (by omega)
  refine rel_act (n := n) hH5n hT5 hRs5 ⟨k3, fun k i j x a1 a2 a3 a4 => ?_⟩ ⟨?_, fun j x a1 a2 a3 a4 a5 a6 a7 => ?_⟩ ?_ ?_ ?_
  · rw [cpK_out (by omega), k4 k i j x a1 a2 (by omega)]
  · show Z9.2 = X5.2
    rw [o2, x5n]
  · rw [rwX_out a2]
    by_cases e : j = 2
    · subst e
      rw [congrFun (z9r 2 (by omega) (by omega)) x, zo x (by omega), back]
    · rw [o3 j x a2 (by omega), congrFun (x5r j e) x]
  · refine stateR_congr hn ts.2.2 (fun x hx => ?_) E4 (fun x hx => ?_)
    · rw [back]
      exact (hJ.2.2.2.2 x (by omega)).symm
    · rw [rwX_out (by omega), z9r 2 (by omega) (by omega)]
      exact zr 2 _ (by omega) (by omega)
  · obtain ⟨tp, kq, s1, s2, s3, s4, s5, s6⟩ := k8
    have hkq : kq = min (kp + 1) 8 := by
      have := s5.symm.trans l4
      rw [eq_nn (by omega) (by omega)] at this
      exact this
    subst hkq
    refine ⟨tp, min (kp + 1) 8, s1, s2, ?_, ?_, ?_, fun i hi => ?_⟩
    · rw [cpK_out (by omega)]; exact s3
    · rw [cpK_out (by omega)]; exact s4
    · rw [rwX_out (by omega)]; exact o4
    · refine stateR_congr hn (s6 i hi) (fun _ _ => rfl) (fun j x hj => by rw [cpK_out (by omega)]) (fun x hx => ?_)
      rw [rwX_in]
      by_cases hl : i = min (kp + 1) 8 - 1
      · rw [← hl, fil_in hx, congrFun (z9r 14 (by omega) (by omega)) x, z14 x hx]
        have := l5 x hx
        rw [← hl, back] at this
        exact this.symm
      · rw [fil_lt (by omega), o6 i x (by omega) hx, l6 i x (by omega) hx, congrFun (x5r 10 (by omega))]
  · rw [cpK_out (by omega)]
    exact k5
end JDG
