/-! The acts as calls. -/
section ACO
variable {N : Nat} {n : BN}
theorem rel_kept {C C1 C2 : CM} {X X1 X2 : XM} (hH : HereR C X n) (hT : TapeR C X) (hR : RestR C X) (k2 : C1.2 = C.2) (k3 : ∀ k i j x, k ≠ 7 → ¬ (k = 9 ∧ j = 0 ∧ x = 0) → ¬ (k = 4 ∧ 4 ≤ i) → C1.1 k i j x = C.1 k i j x) (k4 : C1.1 9 0 0 0 = 0) (k5 : X1.2 = X.2) (k6 : ∀ j x, j ≠ 10 → ¬ (j = 0 ∧ x = 33) → X1.1 j x = X.1 j x) (k7 : PastR n (X.1 2) C1 X1) (f1 : FT 0 C1 C2) (f2 : FY X1 X2) (hS : StateR n (X.1 2) (C2.1 4 0) (fun x => X2.1 2 (371 + x))) : Rel N C2 X2 := by
  have bd := bk_bd hH.1
  refine rel_act hH hT hR ⟨f1.1.trans k2, fun k i j x a1 a2 a3 a4 => ?_⟩ ⟨f2.1.trans k5, fun j x a1 a2 a3 a4 a5 a6 a7 => ?_⟩ hS ?_ ?_
  · rw [f1.2 k i j x a3 (by omega)]
    exact k3 k i j x a1 a2 (by omega)
  · rw [f2.2 j x (by omega) a3 a4 a1]
    exact k6 j x a2 (by omega)
  · refine pastR_mono ⟨bd.2.2.1, bd.2.2.2⟩ k7 (funext fun x => f1.2 7 0 0 x (by omega) (by omega)) (fun i hi => funext fun j => funext fun x => f1.2 4 i j x (by omega) (by omega)) (f2.2 0 33 (by omega) (by omega) (by omega) (by omega)) (funext fun x => f2.2 10 x (by omega) (by omega) (by omega) (by omega))
  · rw [f1.2 9 0 0 0 (by omega) (by omega)]
    exact k4
theorem op_blow (hN : 2000 ≤ N) (b1 : Int32) : OP (Rel N) (f_X10_blow N b1) (f_X11_blow N b1) := by
  intro C X hR
  have hR0 := rel_xe hR (xe_0 X 0)
  unfold f_X10_blow f_X11_blow
  rw [bnd_v]
  generalize stX X 0 0 0 = X0 at hR0 ⊢
  obtain ⟨⟨n, hH, hP⟩, hT, -, hRs⟩ := id hR0
  obtain ⟨hB, hS, -⟩ := id hH
  have bd := bk_bd hB
  have hb := (b_lt hRs.1).1
  simp only [isIn_eq, cal_some]
  by_cases h1 : b1 < 1
  · rw [if_pos h1, if_pos h1, if_pos rfl]
    exact ⟨_, _, _, rfl, rfl, hR0⟩
  rw [if_neg h1, if_neg h1]
  by_cases h2 : b1 ≤ 48
  rotate_left
  · rw [if_neg h2, if_pos (Int32.not_le.mp h2), if_pos rfl]
    exact ⟨_, _, _, rfl, rfl, hR0⟩
  rw [if_pos h2, if_neg (Int32.not_lt.mpr h2), if_neg (show ¬ ((1 : Int32) = 0) by decide)]
  obtain ⟨k, hk, rfl⟩ : ∃ k, k < 2147483648 ∧ b1 = nI k := by
    rcases int_cases b1 with h | h
    · exact absurd (Int32.lt_of_lt_of_le h (by decide)) h1
    · exact h
  rw [le_nl hk (by decide)] at h2
  obtain ⟨q, hq, q1, q2, q3⟩ := sh_qb hS
  rw [q1]
  simp (disch := omega) only [lt_nl, ldA_l, q2, le_nl]
  by_cases h48 : q < 48
  · rw [if_pos h48, if_pos (show q ≤ 47 by omega)]
    obtain ⟨C1, X1, e1, e2, k2, k3, k4, k5, k6, k7⟩ := keep_rel hN ⟨bd.2.2.1, bd.2.2.2⟩ hP hS
    have x2 : X1.1 2 = X0.1 2 := funext fun x => k6 2 x (by omega) (by omega)
    have c4 : C1.1 4 0 = C.1 4 0 := funext fun j => funext fun x => k3 4 0 j x (by omega) (by omega) (by omega)
    have c3 : C1.1 3 (C.2 2 0 1) = C.1 3 (C.2 2 0 1) := funext fun j => funext fun x => k3 3 _ j x (by omega) (by omega) (by omega)
    have hS1 : StateR n (X1.1 2) (C1.1 4 0) (fun x => X1.1 2 (371 + x)) := by rw [x2, c4]; exact hS
    have hB1 : BankR (C.1 3 (C.2 2 0 1)) (X1.1 2) n := by rw [x2]; exact hB
    obtain ⟨j, C2, X2, j1, j2, j3, j4⟩ := pass_rel (k := k) hN hB1 (sh_th hS1) (by omega) (by omega) hq (qi_of c3 hS1 (by rw [c4]; exact q1) hq)
    rw [e1, e2, cal_some, cal_some, k2, ldR_lt hb, j2, j3]
    refine ⟨_, _, _, rfl, rfl, ?_⟩
    refine rel_kept hH hT hRs k2 k3 k4 k5 k6 k7 (ft_of j4.1.2.2.2.2.1) (fy_of j4.1.2.2.2.2.2) ?_
    rw [← x2]
    exact st_of hB1 hS1 (by omega) (fun _ _ => rfl) j4
  · rw [if_neg h48, if_neg (show ¬ q ≤ 47 by omega)]
    exact ⟨_, _, _, rfl, rfl, hR0⟩
theorem op_set (hN : 2000 ≤ N) (b1 : Int32) : OP (Rel N) (f_X10_set b1) (f_X11_set N b1) := by
  intro C X hR
  have hR0 := rel_xe hR (xe_0 X 0)
  unfold f_X10_set f_X11_set
  rw [bnd_v]
  generalize stX X 0 0 0 = X0 at hR0 ⊢
  obtain ⟨⟨n, hH, hP⟩, hT, -, hRs⟩ := id hR0
  obtain ⟨hB, hS, -⟩ := id hH
  have bd := bk_bd hB
  have hb := (b_lt hRs.1).1
  rw [ldR_lt hb]
  rcases isCell_rel hB rfl b1 with ⟨c, hc, rfl, e1, e2⟩ | ⟨e1, e2⟩
  rotate_left
  · rw [e1, e2]
    exact ⟨_, _, _, rfl, rfl, hR0⟩
  rw [e1, e2, cal_some, cal_some, if_neg (show ¬ ((1 : Int32) = 0) by decide), if_neg (show ¬ ((1 : Int32) = 0) by decide)]
  obtain ⟨fe, f1, f2, f3⟩ := sh_fe hS
  have hc1 := hc.1
  have hfc := f1 c hc1
  have hf01 : X0.1 2 (441 + c) = 0 ∨ X0.1 2 (441 + c) = 1 := by
    rcases (by omega : fe c = 0 ∨ fe c = 1) with h | h
    · rw [h] at hfc; exact Or.inl hfc.2
    · rw [h] at hfc; exact Or.inr hfc.2
  unfold f_X6_whyNoFence f_X11_whySet
  rw [isBare_eq hN bd.2.2.1 bd.2.2.2 (bk_o hB).2 (bk_t hB).2 (sh_th hS) hc1 hf01]
  simp (disch := omega) only [lt_nl, if_neg, le_ln, ldA_nI, cal_some, fences_eq (fe := fe) X0 hN (fun c hc => (f1 c hc).2), f3]
  by_cases h0 : C.1 4 0 8 c = 0
  rotate_left
  · rw [if_neg h0, if_neg h0, if_pos rfl]
    exact ⟨_, _, _, rfl, rfl, hR0⟩
  rw [if_pos h0, if_pos h0, if_neg (show ¬ ((1 : Int32) = 0) by decide)]
  simp (disch := omega) only [eq_nl]
  by_cases h12 : sumN fe 100 < 12
  rotate_left
  · rw [if_neg h12, if_pos (by omega)]
    exact ⟨_, _, _, rfl, rfl, hR0⟩
  rw [if_pos h12, if_neg (by omega)]
  obtain ⟨C1, X1, e1, e2, k2, k3, k4, k5, k6, k7⟩ := keep_rel hN ⟨bd.2.2.1, bd.2.2.2⟩ hP hS
  have x2 : X1.1 2 = X0.1 2 := funext fun x => k6 2 x (by omega) (by omega)
  have c4 : C1.1 4 0 = C.1 4 0 := funext fun j => funext fun x => k3 4 0 j x (by omega) (by omega) (by omega)
  have c42 : C1.1 4 0 0 2 = nI (sumN fe 100) := by rw [c4]; exact f3
  refine ⟨0, stC (stC C1 4 0 8 c 48) 4 0 0 2 (nI (sumN fe 100 + 1)), stX X1 2 (441 + c) 1, ?_, ?_, ?_⟩
  · unfold f_X6_putFence f_X10_set_47
    simp (disch := omega) only [rt, cal_some, if_true, e1, lt_nl, le_ln, if_neg, stA_nI, bnd_v, stC_row, c42, nI_al]
  · simp (disch := omega) only [rt, cal_some, e2, nI_la, sxA_nI]
    rfl
  · refine rel_kept hH hT hRs k2 k3 k4 k5 k6 k7 (ft_st (ft_st (FT.rf C1) (by omega)) (by omega)) (fy_st (FY.rf X1) (by omega)) ?_
    refine set_st (c := c) ⟨bd.2.2.1, bd.2.2.2⟩ hS hc1 h0 ?_ ?_ (fun x hx => ?_) ?_ (fun j x hj h8 h02 => ?_) (fun x hx => ?_)
    · show X0.1 2 (371 + (70 + c)) ≠ 1
      rw [show 371 + (70 + c) = 441 + c by omega]
      intro hf
      have := (sh_th hS).2.2.1 c hc1 hf
      rw [h0] at this
      exact absurd this (by decide)
    · rw [f3]
      simp (disch := omega) only [lt_nl]
      exact h12
    · rw [stC_row (by omega), stC_if, c4]
    · rw [stC_at, f3, nI_al]
    · simp only [stC]
      rw [if_neg (by omega), if_neg (by omega), c4]
    · rw [stX_if, x2]
      by_cases e : x = 70 + c
      · rw [if_pos e, if_pos (by omega)]
      · rw [if_neg e, if_neg (by omega)]
theorem tree_rel {r : Nat} {B : Nat → Nat → Int32} {C : CM} {X : XM} (hB : BankR B (X.1 2) n) (hS : StateR n (X.1 2) (C.1 4 r) (fun x => X.1 2 (371 + x))) (a : Int32) : (∃ u, u < n.2.2.2 ∧ a = nI u ∧ X.1 2 (429 + u) = 1 ∧ f_X6_whyNoFelling r a C = some (0, C) ∧ f_X11_isTree a X = some (1, X)) ∨ (f_X6_whyNoFelling r a C = some (3, C) ∧ f_X11_isTree a X = some (0, X)) := by
  have bd := bk_bd hB
  obtain ⟨m, m1, m2, m3⟩ := sh_sd hS
  unfold f_X6_whyNoFelling f_X11_isTree f_X6_whyNoFelling_21
  have x3 := (bk_t hB).2
  simp (disch := omega) only [ldA_l, x3, isIn_eq, cal_some]
  rcases int_cases a with hb | ⟨k, hk, rfl⟩
  · rw [if_pos hb, if_pos hb, if_pos rfl]
    exact Or.inr ⟨rfl, rfl⟩
  simp (disch := omega) only [lt_nl, if_neg, le_ln, ltm1]
  by_cases h12 : 12 ≤ k
  · rw [if_pos h12, if_pos (show n.2.2.2 ≤ k by omega), if_pos rfl]
    exact Or.inr ⟨rfl, rfl⟩
  rw [if_neg h12, m2, sh_bit m1 (by omega)]
  have hk3 := m3 k (by omega)
  by_cases hT : n.2.2.2 ≤ k
  · rw [if_pos hT, if_pos rfl, hk3.2 hT]
    exact Or.inr ⟨rfl, rfl⟩
  rw [if_neg hT, if_neg (show ¬ ((1 : Int32) = 0) by decide)]
  simp (disch := omega) only [nI_la, ldA_nI, hk3.1]
  cases hbt : m.testBit k
  · exact Or.inr ⟨rfl, rfl⟩
  · exact Or.inl ⟨k, by omega, rfl, by rw [hk3.1, hbt]; rfl, rfl, rfl⟩
theorem takeTree_eq {r b u c : Nat} {C : CM} (hu : u < 12) (hc : c < 100) (h : C.1 3 b 3 u = nI c) : f_X6_takeTree r b (nI u) C = some (0, stC (stC C 4 r 8 c 0) 4 r 0 3 (C.1 4 r 0 3 &&& (((1 : Int32) <<< (nI u &&& 31)) ^^^ (-1)))) := by
  unfold f_X6_takeTree f_X6_takeTree_20
  simp (disch := omega) only [lt_nl, le_ln, if_neg, ldA_nI, h, stA_nI, bnd_v, stC_row, rt]
theorem op_fell (hN : 2000 ≤ N) (b1 : Int32) : OP (Rel N) (f_X10_fell b1) (f_X11_fell N b1) := by
  intro C X hR
  have hR0 := rel_xe hR (xe_0 X 0)
  unfold f_X10_fell f_X11_fell
  rw [bnd_v]
  generalize stX X 0 0 0 = X0 at hR0 ⊢
  obtain ⟨⟨n, hH, hP⟩, hT, -, hRs⟩ := id hR0
  obtain ⟨hB, hS, -⟩ := id hH
  have bd := bk_bd hB
  have hb := (b_lt hRs.1).1
  rcases tree_rel hB hS b1 with ⟨u, hu, rfl, hst, e1, e2⟩ | ⟨e1, e2⟩
  rotate_left
  · rw [e1, e2]
    exact ⟨_, _, _, rfl, rfl, hR0⟩
  rw [e1, e2, cal_some, cal_some, if_pos rfl, if_neg (show ¬ ((1 : Int32) = 0) by decide)]
  obtain ⟨C1, X1, e1, e2, k2, k3, k4, k5, k6, k7⟩ := keep_rel hN ⟨bd.2.2.1, bd.2.2.2⟩ hP hS
  have x2 : X1.1 2 = X0.1 2 := funext fun x => k6 2 x (by omega) (by omega)
  have c4 : C1.1 4 0 = C.1 4 0 := funext fun j => funext fun x => k3 4 0 j x (by omega) (by omega) (by omega)
  have c3 : C1.1 3 (C.2 2 0 1) = C.1 3 (C.2 2 0 1) := funext fun j => funext fun x => k3 3 _ j x (by omega) (by omega) (by omega)
  obtain ⟨c, hc, t1, t2⟩ := bk_tree hB u hu
  rw [e1, e2, cal_some, cal_some, k2, ldR_lt hb, takeTree_eq (r := 0) (c := c) (by omega) hc.1 (by rw [c3]; exact t1)]
  simp (disch := omega) only [nI_la, sxA_nI]
  refine ⟨_, _, _, rfl, rfl, ?_⟩
  refine rel_kept hH hT hRs k2 k3 k4 k5 k6 k7 (ft_st (ft_st (FT.rf C1) (by omega)) (by omega)) (fy_st (FY.rf X1) (by omega)) ?_
  refine fell_st (c := c) (u := u) ⟨bd.2.2.1, bd.2.2.2⟩ hS hc.1 hu t2 ?_ (fun x hx => ?_) ?_ (fun j x hj h8 h02 => ?_) (fun x hx => ?_)
  · show X0.1 2 (371 + (58 + u)) = 1
    rw [show 371 + (58 + u) = 429 + u by omega]
    exact hst
  · rw [stC_row (by omega), stC_if, c4]
  · rw [stC_at, c4]
  · simp only [stC]
    rw [if_neg (by omega), if_neg (by omega), c4]
  · rw [stX_if, x2]
    by_cases e : x = 58 + u
    · rw [if_pos e, if_pos (by omega)]
    · rw [if_neg e, if_neg (by omega)]
/-- oil and point on a state, both sides -/
theorem oil_st {r o : Nat} {s : Nat → Int32} {C : CM} {X : XM} (hn : n.2.2.1 ≤ 8 ∧ n.2.2.2 ≤ 12) (hS : StateR n s (C.1 4 r) (fun x => X.1 2 (371 + x))) (ho : o < 8) :
    ∃ C' X', f_X6_oilVane r (nI o) C = some (0, C') ∧ f_X11_oils (nI o) X = some (0, X') ∧ FT r C C' ∧ FY X X' ∧ StateR n s (C'.1 4 r) (fun x => X'.1 2 (371 + x)) ∧ C' = stC (stC C 4 r 5 o 0) 4 r 3 o 0 ∧ X' = stX (stX X 2 (405 + o) 0) 2 (389 + o) 0 := by
  refine ⟨stC (stC C 4 r 5 o 0) 4 r 3 o 0, stX (stX X 2 (405 + o) 0) 2 (389 + o) 0, ?_, ?_, ft_st (ft_st (FT.rf C) (by omega)) (by omega), fy_st (fy_st (FY.rf X) (by omega)) (by omega), ?_, rfl, rfl⟩
  · unfold f_X6_oilVane
    simp (disch := omega) only [lt_nl, le_ln, if_neg, stA_nI, rt]
  · unfold f_X11_oils
    simp (disch := omega) only [nI_la, sxA_nI, rt]
  · refine row_st (P := (stC C 4 r 5 o 0).1 4 r) (t := fun x => (stX X 2 (405 + o) 0).1 2 (371 + x)) (o := o) (j1 := 3) (v1 := 0) hn (row_st (o := o) (j1 := 5) (v1 := 0) hn hS ho (by omega) (fun j x _ => ?_) (fun x hx => ?_)) ho (by omega) (fun j x _ => ?_) (fun x hx => ?_)
    · simp only [stC, true_and]
      rfl
    · rw [stX_if]
      by_cases e : x = 8 * 5 + o - 6
      · rw [if_pos e, if_pos (by omega)]
        rfl
      · rw [if_neg e, if_neg (by omega)]
    · simp only [stC, true_and]
      rfl
    · rw [stX_if]
      by_cases e : x = 8 * 3 + o - 6
      · rw [if_pos e, if_pos (by omega)]
        rfl
      · rw [if_neg e, if_neg (by omega)]
theorem point_st {r o d : Nat} {s : Nat → Int32} {C : CM} {X : XM} (hn : n.2.2.1 ≤ 8 ∧ n.2.2.2 ≤ 12) (hS : StateR n s (C.1 4 r) (fun x => X.1 2 (371 + x))) (ho : o < 8) (hd : d ≤ 7) :
    ∃ C' X', f_X6_stickVane r (nI o) (nI d) C = some (0, C') ∧ f_X11_points (nI o) (nI d) X = some (0, X') ∧ FT r C C' ∧ FY X X' ∧ StateR n s (C'.1 4 r) (fun x => X'.1 2 (371 + x)) ∧ C' = stC (stC C 4 r 4 o (nI d)) 4 r 5 o 1 ∧ X' = stX (stX X 2 (397 + o) (nI d)) 2 (405 + o) 1 := by
  refine ⟨stC (stC C 4 r 4 o (nI d)) 4 r 5 o 1, stX (stX X 2 (397 + o) (nI d)) 2 (405 + o) 1, ?_, ?_, ft_st (ft_st (FT.rf C) (by omega)) (by omega), fy_st (fy_st (FY.rf X) (by omega)) (by omega), ?_, rfl, rfl⟩
  · unfold f_X6_stickVane
    simp (disch := omega) only [lt_nl, le_ln, if_neg, stA_nI, rt]
  · unfold f_X11_points
    simp (disch := omega) only [nI_la, sxA_nI, rt]
  · refine row_st (P := (stC C 4 r 4 o (nI d)).1 4 r) (t := fun x => (stX X 2 (397 + o) (nI d)).1 2 (371 + x)) (o := o) (j1 := 5) (v1 := 1) hn (row_st (o := o) (j1 := 4) (v1 := d) hn hS ho (by omega) (fun j x _ => ?_) (fun x hx => ?_)) ho (by omega) (fun j x _ => ?_) (fun x hx => ?_)
    · simp only [stC, true_and]
    · rw [stX_if]
      by_cases e : x = 8 * 4 + o - 6
      · rw [if_pos e, if_pos (by omega)]
      · rw [if_neg e, if_neg (by omega)]
    · simp only [stC, true_and]
      rfl
    · rw [stX_if]
      by_cases e : x = 8 * 5 + o - 6
      · rw [if_pos e, if_pos (by omega)]
        rfl
      · rw [if_neg e, if_neg (by omega)]
theorem op_oil (hN : 2000 ≤ N) (b1 : Int32) : OP (Rel N) (f_X10_oil b1) (f_X11_oil N b1) := by
  intro C X hR
  have hR0 := rel_xe hR (xe_0 X 0)
  unfold f_X10_oil f_X11_oil
  rw [bnd_v]
  generalize stX X 0 0 0 = X0 at hR0 ⊢
  obtain ⟨⟨n, hH, hP⟩, hT, -, hRs⟩ := id hR0
  obtain ⟨hB, hS, -⟩ := id hH
  have bd := bk_bd hB
  have hn : n.2.2.1 ≤ 8 ∧ n.2.2.2 ≤ 12 := ⟨bd.2.2.1, bd.2.2.2⟩
  have hb := (b_lt hRs.1).1
  rw [ldR_lt hb]
  rcases isOwner_rel hB rfl b1 with ⟨o, ho, rfl, e1, e2⟩ | ⟨e1, e2⟩
  rotate_left
  · rw [e1, e2]
    exact ⟨_, _, _, rfl, rfl, hR0⟩
  rw [e1, e2, cal_some, cal_some, if_neg (show ¬ ((1 : Int32) = 0) by decide), if_neg (show ¬ ((1 : Int32) = 0) by decide)]
  obtain ⟨C1, X1, e1, e2, k2, k3, k4, k5, k6, k7⟩ := keep_rel hN hn hP hS
  have x2 : X1.1 2 = X0.1 2 := funext fun x => k6 2 x (by omega) (by omega)
  have c4 : C1.1 4 0 = C.1 4 0 := funext fun j => funext fun x => k3 4 0 j x (by omega) (by omega) (by omega)
  have hS1 : StateR n (X0.1 2) (C1.1 4 0) (fun x => X1.1 2 (371 + x)) := by rw [x2, c4]; exact hS
  obtain ⟨C2, X2, a1, a2, a3, a4, a5, -⟩ := oil_st hn hS1 (show o < 8 by omega)
  rw [e1, e2, cal_some, cal_some, a1, a2]
  exact ⟨_, _, _, rfl, rfl, rel_kept hH hT hRs k2 k3 k4 k5 k6 k7 a3 a4 a5⟩
theorem op_point (hN : 2000 ≤ N) (b1 b2 : Int32) : OP (Rel N) (f_X10_point b1 b2) (f_X11_point N b1 b2) := by
  intro C X hR
  have hR0 := rel_xe hR (xe_0 X 0)
  unfold f_X10_point f_X11_point
  rw [bnd_v]
  generalize stX X 0 0 0 = X0 at hR0 ⊢
  obtain ⟨⟨n, hH, hP⟩, hT, -, hRs⟩ := id hR0
  obtain ⟨hB, hS, -⟩ := id hH
  have bd := bk_bd hB
  have hn : n.2.2.1 ≤ 8 ∧ n.2.2.2 ≤ 12 := ⟨bd.2.2.1, bd.2.2.2⟩
  have hb := (b_lt hRs.1).1
  rw [ldR_lt hb]
  rcases isOwner_rel hB rfl b1 with ⟨o, ho, rfl, e1, e2⟩ | ⟨e1, e2⟩
  rotate_left
  · rw [e1, e2]
    exact ⟨_, _, _, rfl, rfl, hR0⟩
  rw [e1, e2, cal_some, cal_some, if_neg (show ¬ ((1 : Int32) = 0) by decide), if_neg (show ¬ ((1 : Int32) = 0) by decide)]
  simp only [isIn_eq, cal_some]
  rcases int_cases b2 with h | ⟨d, hd, rfl⟩
  · rw [if_pos h, if_pos h, if_pos rfl]
    exact ⟨_, _, _, rfl, rfl, hR0⟩
  simp (disch := omega) only [lt_nl, if_neg, lt_ln]
  by_cases hd8 : d < 8
  rotate_left
  · rw [if_neg hd8, if_pos (show 7 < d by omega), if_pos rfl]
    exact ⟨_, _, _, rfl, rfl, hR0⟩
  rw [if_pos hd8, if_neg (show ¬ 7 < d by omega), if_neg (show ¬ ((1 : Int32) = 0) by decide)]
  obtain ⟨C1, X1, e1, e2, k2, k3, k4, k5, k6, k7⟩ := keep_rel hN hn hP hS
  have x2 : X1.1 2 = X0.1 2 := funext fun x => k6 2 x (by omega) (by omega)
  have c4 : C1.1 4 0 = C.1 4 0 := funext fun j => funext fun x => k3 4 0 j x (by omega) (by omega) (by omega)
  have hS1 : StateR n (X0.1 2) (C1.1 4 0) (fun x => X1.1 2 (371 + x)) := by rw [x2, c4]; exact hS
  obtain ⟨C2, X2, a1, a2, a3, a4, a5, -⟩ := point_st (d := d) hn hS1 (show o < 8 by omega) (by omega)
  rw [e1, e2, cal_some, cal_some, a1, a2]
  exact ⟨_, _, _, rfl, rfl, rel_kept hH hT hRs k2 k3 k4 k5 k6 k7 a3 a4 a5⟩
theorem op_undo (hN : 2000 ≤ N) : OP (Rel N) f_X10_undo (f_X11_undo N) := by
  intro C X hR
  have hR0 := rel_xe hR (xe_0 X 0)
  unfold f_X10_undo f_X11_undo
  rw [bnd_v]
  generalize stX X 0 0 0 = X0 at hR0 ⊢
  obtain ⟨⟨n, hH, hP⟩, hT, -, hRs⟩ := id hR0
  obtain ⟨hB, hS, -⟩ := id hH
  have bd := bk_bd hB
  have hn : n.2.2.1 ≤ 8 ∧ n.2.2.2 ≤ 12 := ⟨bd.2.2.1, bd.2.2.2⟩
  obtain ⟨top, kp, a1, a2, a3, a4, a5, a6⟩ := id hP
  rw [a4, a5]
  by_cases h0 : kp = 0
  · subst h0
    exact ⟨_, _, _, rfl, rfl, hR0⟩
  have hne : ¬ (nI kp = 0) := by simp (disch := omega) only [eq_nl]; exact h0
  rw [if_neg hne, if_neg hne, bnd_v]
  have e1 := undo26_eq N (stX X0 0 33 (nI (kp - 1))) (kp - 1) (by omega) stX_at hN
  have e0 : nI kp - 1 = nI (kp - 1) := nI_sl (n := 1) (show 1 ≤ kp by omega)
  rw [e0, e1]
  have hi : (top + 8 - 1) % 8 < 8 := by omega
  have e3 : 4 + (top + 8 - 1) % 8 = 4 + (top + 8 - kp + (kp - 1)) % 8 := by omega
  have hpop : f_X2_pop 0 C = some (0, cpK (stC (stC C 7 0 0 1 (nI ((top + 8 - 1) % 8))) 7 0 0 2 (nI (kp - 1))) 4 0 (4 + (top + 8 - 1) % 8) dX6) := by
    have q1 : nI (top + 8) - 1 = nI (top + 8 - 1) := nI_sl (n := 1) (show 1 ≤ top + 8 by omega)
    unfold f_X2_pop
    rw [a4, a3]
    simp (disch := omega) only [le_nl, if_neg, nI_al, q1, nI_dl, nI_r8, bnd_v, stC_ne, a4, e0, stC_at, ldQ_nI, copy_X6 _ (show 4 + (top + 8 - 1) % 8 ≠ 0 by omega), cal_some, rt]
  rw [hpop, cal_some, bnd_v]
  have hv : (stC (cpK (stC (stC C 7 0 0 1 (nI ((top + 8 - 1) % 8))) 7 0 0 2 (nI (kp - 1))) 4 0 (4 + (top + 8 - 1) % 8) dX6) 9 0 0 0 0).1 7 0 0 2 = nI (kp - 1) := by
    rw [stC_ob (by omega)]
    simp only [cpK]
    rw [if_neg (by omega), stC_at]
  rw [hv]
  refine ⟨_, _, _, rfl, rfl, ?_⟩
  · have r2 : (stX X0 0 33 (nI (kp - 1))).1 2 = X0.1 2 := stX_row (by omega)
    have r10 : (stX X0 0 33 (nI (kp - 1))).1 10 = X0.1 10 := stX_row (by omega)
    have cC : ∀ k i j x, ¬ (k = 4 ∧ i = 0) → k ≠ 7 → k ≠ 9 → (stC (cpK (stC (stC C 7 0 0 1 (nI ((top + 8 - 1) % 8))) 7 0 0 2 (nI (kp - 1))) 4 0 (4 + (top + 8 - 1) % 8) dX6) 9 0 0 0 0).1 k i j x = C.1 k i j x := by
      intro k i j x h1 h2 h3
      simp only [stC, cpK]
      rw [if_neg (by omega), if_neg (by omega), if_neg (by omega), if_neg (by omega)]
    refine rel_act (n := n) hH hT hRs ⟨rfl, fun k i j x h1 h2 h3 h4 => ?_⟩ ⟨rfl, fun j x h1 h2 h3 h4 h5 h6 h7 => ?_⟩ ?_ ⟨(top + 8 - 1) % 8, kp - 1, by omega, by omega, ?_, ?_, ?_, fun i hi => ?_⟩ stC_at
    · simp only [stC, cpK]
      rw [if_neg (by omega), if_neg (by omega), if_neg (by omega), if_neg (by omega)]
    · simp only [rwX, stX]
      by_cases e : j = 2
      · subst e
        rw [if_pos rfl]
        unfold fil
        rw [if_neg (by omega)]
        dsimp only
        rw [if_neg (by omega)]
      · rw [if_neg e, if_neg (by omega)]
    · refine stateR_congr hn (a6 (kp - 1) (by omega)) (fun _ _ => rfl) (fun j x hj => ?_) (fun x hx => ?_)
      · rw [stC_ob (by omega)]
        simp only [cpK]
        rw [if_pos ⟨trivial, trivial, hj⟩, stC_ob (by omega), stC_ob (by omega), e3]
      · rw [rwX_in, fil_in hx, r10]
    · rw [stC_ob (by omega)]
      simp only [cpK]
      rw [if_neg (by omega), stC_ne (by omega), stC_at]
    · rw [stC_ob (by omega)]
      simp only [cpK]
      rw [if_neg (by omega), stC_at]
    · rw [rwX_out (by omega), stX_at]
    · refine stateR_congr hn (a6 i (by omega)) (fun _ _ => rfl) (fun j x hj => ?_) (fun x hx => ?_)
      · rw [cC _ _ _ _ (by omega) (by omega) (by omega), show 4 + ((top + 8 - 1) % 8 + 8 - (kp - 1) + i) % 8 = 4 + (top + 8 - kp + i) % 8 by omega]
      · rw [rwX_out (by omega), r10]
end ACO
