/-! judge: plans at work. -/
section JUD
variable {N : Nat} {n : BN} {b : Nat} {B : Nat → Nat → Int32}
def TS (n : BN) (b : Nat) (B : Nat → Nat → Int32) (D : CM) (Y : XM) : Prop := BankR B (Y.1 2) n ∧ D.1 3 b = B ∧ StateR n (Y.1 2) (D.1 4 3) (fun x => Y.1 2 (371 + x))
theorem ts_of {D D' : CM} {Y Y' : XM} (h : TS n b B D Y) (hf : FT 3 D D') (hy : FY Y Y') (hS : StateR n (Y.1 2) (D'.1 4 3) (fun x => Y'.1 2 (371 + x))) : TS n b B D' Y' := by
  have bd := bk_bd h.1
  have hs : ∀ x, x < 371 → Y'.1 2 x = Y.1 2 x := fun x hx => hy.2 2 x (by omega) (by omega) (by omega) (by omega)
  refine ⟨bankR_congr h.1 hs, ?_, stateR_congr ⟨bd.2.2.1, bd.2.2.2⟩ hS hs (fun _ _ _ => rfl) (fun _ _ => rfl)⟩
  rw [← h.2.1]
  exact funext fun j => funext fun x => hf.2 3 b j x (by omega) (by omega)
theorem perform_rel {pl i w v : Nat} {z : Int32} {D : CM} {Y : XM} (hN : 2000 ≤ N) (h : TS n b B D Y) (hi : i < 30) (hw : w ≤ 4) (p1 : D.1 5 pl 1 i = nI (10 + w)) (p2 : D.1 5 pl 2 i = nI v) (q0 : w = 0 → inY n v) (q1 : w = 1 → v ≤ 999) (q2 : w = 2 ∨ w = 3 → v < n.2.2.1) (q3 : w = 3 → ∃ d, d ≤ 7 ∧ D.1 5 pl 3 i = nI d ∧ z = nI d) (q4 : w = 4 → 1 ≤ v ∧ v ≤ 48) :
    ∃ y D' Y', y ≤ 4 ∧ f_X3_perform N pl (nI i) b 3 D = some (nI y, D') ∧ f_X11_does N (nI w) (nI v) z Y = some (nI y, Y') ∧ TS n b B D' Y' ∧ FT 3 D D' ∧ FY Y Y' ∧ (y ≠ 0 → D' = D ∧ Y' = Y) := by
  obtain ⟨hB, hC, hS⟩ := id h
  have bd := bk_bd hB
  have hn : n.2.2.1 ≤ 8 ∧ n.2.2.2 ≤ 12 := ⟨bd.2.2.1, bd.2.2.2⟩
  unfold f_X3_perform f_X11_does f_X3_perform_134 f_X3_perform_136 f_X11_does_59
  rw [ldA_nI hi (by omega), ldA_nI hi (by omega), p1, p2]
  rcases (by omega : w = 0 ∨ w = 1 ∨ w = 2 ∨ w = 3 ∨ w = 4) with rfl | rfl | rfl | rfl | rfl
  · have hc := q0 rfl
    have hc1 := hc.1
    rw [if_pos (show nI (10 + 0) = (10 : Int32) from rfl), if_pos (show nI 0 = (0 : Int32) from rfl)]
    obtain ⟨fe, f1, f2, f3⟩ := sh_fe hS
    have hfc := f1 v hc1
    have hf01 : Y.1 2 (441 + v) = 0 ∨ Y.1 2 (441 + v) = 1 := by
      rcases (by omega : fe v = 0 ∨ fe v = 1) with h | h
      · rw [h] at hfc; exact Or.inl hfc.2
      · rw [h] at hfc; exact Or.inr hfc.2
    unfold f_X6_whyNoFence f_X11_whySet
    rw [isBare_eq hN bd.2.2.1 bd.2.2.2 (bk_o hB).2 (bk_t hB).2 (sh_th hS) hc1 hf01]
    simp (disch := omega) only [lt_nl, if_neg, le_ln, ldA_nI, cal_some, fences_eq (fe := fe) Y hN (fun c hc => (f1 c hc).2), f3]
    by_cases h0 : D.1 4 3 8 v = 0
    rotate_left
    · rw [if_neg h0, if_neg h0, if_pos rfl]
      exact ⟨1, D, Y, by omega, rfl, rfl, h, FT.rf D, FY.rf Y, fun _ => ⟨rfl, rfl⟩⟩
    rw [if_pos h0, if_pos h0, if_neg i1n]
    simp (disch := omega) only [eq_nl]
    by_cases h12 : sumN fe 100 < 12
    rotate_left
    · rw [if_neg h12, if_pos (by omega)]
      exact ⟨2, D, Y, by omega, rfl, rfl, h, FT.rf D, FY.rf Y, fun _ => ⟨rfl, rfl⟩⟩
    rw [if_pos h12, if_neg (by omega)]
    simp (disch := omega) only [rt, cal_some, if_true, putF_eq D hc1, nI_la, sxA_nI]
    have ff : FT 3 D (stC (stC D 4 3 8 v 48) 4 3 0 2 (D.1 4 3 0 2 + 1)) := ft_st (ft_st (FT.rf D) (by omega)) (by omega)
    have fy : FY Y (stX Y 2 (441 + v) 1) := fy_st (FY.rf Y) (by omega)
    refine ⟨0, _, _, by omega, rfl, rfl, ts_of h ff fy ?_, ff, fy, fun hy => absurd rfl hy⟩
    refine set_st (c := v) hn hS hc1 h0 ?_ ?_ (fun x hx => ?_) ?_ (fun j x hj h8 h02 => ?_) (fun x hx => ?_)
    · show Y.1 2 (371 + (70 + v)) ≠ 1
      rw [show 371 + (70 + v) = 441 + v by omega]
      intro hf
      have := (sh_th hS).2.2.1 v hc1 hf
      rw [h0] at this
      exact absurd this (by decide)
    · rw [f3]
      simp (disch := omega) only [lt_nl]
      exact h12
    · rw [stC_row (by omega), stC_if]
    · rw [stC_at]
    · simp only [stC]
      rw [if_neg (by omega), if_neg (by omega)]
    · rw [stX_if]
      by_cases e : x = 70 + v
      · rw [if_pos e, if_pos (by omega)]
      · rw [if_neg e, if_neg (by omega)]
  · rw [if_neg (show ¬ nI (10 + 1) = (10 : Int32) by decide), if_pos (show nI (10 + 1) = (11 : Int32) from rfl), if_neg (show ¬ nI 1 = (0 : Int32) by decide), if_pos (show nI 1 = (1 : Int32) from rfl)]
    rcases tree_rel hB hS (nI v) with ⟨u, hu, huv, hst, e1, e2⟩ | ⟨e1, e2⟩
    rotate_left
    · rw [e1, e2]
      exact ⟨3, D, Y, by omega, rfl, rfl, h, FT.rf D, FY.rf Y, fun _ => ⟨rfl, rfl⟩⟩
    have hv := q1 rfl
    have huv' : v = u := by
      rw [eq_nn (by omega) (by omega)] at huv
      exact huv
    subst huv'
    obtain ⟨c, hc, t1, t2⟩ := bk_tree hB v hu
    rw [e1, e2, cal_some, cal_some, if_pos rfl, if_neg i1n, takeTree_eq (r := 3) (c := c) (by omega) hc.1 (by rw [hC]; exact t1), cal_some]
    simp (disch := omega) only [nI_la, sxA_nI]
    have ff : FT 3 D (stC (stC D 4 3 8 c 0) 4 3 0 3 (D.1 4 3 0 3 &&& (((1 : Int32) <<< (nI v &&& 31)) ^^^ (-1)))) := ft_st (ft_st (FT.rf D) (by omega)) (by omega)
    have fy : FY Y (stX Y 2 (429 + v) 0) := fy_st (FY.rf Y) (by omega)
    refine ⟨0, _, _, by omega, rfl, rfl, ts_of h ff fy ?_, ff, fy, fun hy => absurd rfl hy⟩
    refine fell_st (c := c) (u := v) hn hS hc.1 hu t2 ?_ (fun x hx => ?_) ?_ (fun j x hj h8 h02 => ?_) (fun x hx => ?_)
    · show Y.1 2 (371 + (58 + v)) = 1
      rw [show 371 + (58 + v) = 429 + v by omega]
      exact hst
    · rw [stC_row (by omega), stC_if]
    · rw [stC_at]
    · simp only [stC]
      rw [if_neg (by omega), if_neg (by omega)]
    · rw [stX_if]
      by_cases e : x = 58 + v
      · rw [if_pos e, if_pos (by omega)]
      · rw [if_neg e, if_neg (by omega)]
  · have hv := q2 (Or.inl rfl)
    rw [if_neg (show ¬ nI (10 + 2) = (10 : Int32) by decide), if_neg (show ¬ nI (10 + 2) = (11 : Int32) by decide), if_pos (show nI (10 + 2) = (12 : Int32) from rfl), if_neg (show ¬ nI 2 = (0 : Int32) by decide), if_neg (show ¬ nI 2 = (1 : Int32) by decide), if_pos (show nI 2 = (2 : Int32) from rfl)]
    obtain ⟨C2, X2, a1, a2, a3, a4, a5, -⟩ := oil_st hn hS (show v < 8 by omega)
    rw [a1, a2]
    exact ⟨0, C2, X2, by omega, rfl, rfl, ts_of h a3 a4 a5, a3, a4, fun hy => absurd rfl hy⟩
  · have hv := q2 (Or.inr rfl)
    obtain ⟨d, hd, d1, d2⟩ := q3 rfl
    rw [if_neg (show ¬ nI (10 + 3) = (10 : Int32) by decide), if_neg (show ¬ nI (10 + 3) = (11 : Int32) by decide), if_neg (show ¬ nI (10 + 3) = (12 : Int32) by decide), if_pos (show nI (10 + 3) = (13 : Int32) from rfl), if_neg (show ¬ nI 3 = (0 : Int32) by decide), if_neg (show ¬ nI 3 = (1 : Int32) by decide), if_neg (show ¬ nI 3 = (2 : Int32) by decide), if_pos (show nI 3 = (3 : Int32) from rfl), ldA_nI hi (by omega), d1, d2]
    obtain ⟨C2, X2, a1, a2, a3, a4, a5, -⟩ := point_st (d := d) hn hS (show v < 8 by omega) hd
    rw [a1, a2]
    exact ⟨0, C2, X2, by omega, rfl, rfl, ts_of h a3 a4 a5, a3, a4, fun hy => absurd rfl hy⟩
  · obtain ⟨hv1, hv2⟩ := q4 rfl
    rw [if_neg (show ¬ nI (10 + 4) = (10 : Int32) by decide), if_neg (show ¬ nI (10 + 4) = (11 : Int32) by decide), if_neg (show ¬ nI (10 + 4) = (12 : Int32) by decide), if_neg (show ¬ nI (10 + 4) = (13 : Int32) by decide), if_neg (show ¬ nI 4 = (0 : Int32) by decide), if_neg (show ¬ nI 4 = (1 : Int32) by decide), if_neg (show ¬ nI 4 = (2 : Int32) by decide), if_neg (show ¬ nI 4 = (3 : Int32) by decide)]
    obtain ⟨q, hq, e1, e2, e3⟩ := sh_qb hS
    simp (disch := omega) only [ldA_l, e2, le_nl]
    by_cases h48 : q ≤ 47
    · rw [if_pos h48]
      obtain ⟨j, D', Y', j1, j2, j3, j4⟩ := pass_rel (k := v) hN hB (sh_th hS) (by omega) hv2 hq (qi_of hC hS e1 hq)
      rw [j2, j3, cal_some, cal_some]
      simp (disch := omega) only [eq_nl]
      rw [if_neg (show ¬ j = 0 by omega)]
      have ff : FT 3 D D' := ft_of j4.1.2.2.2.2.1
      have fy : FY Y Y' := fy_of j4.1.2.2.2.2.2
      exact ⟨0, D', Y', by omega, rfl, rfl, ts_of h ff fy (st_of hB hS (by omega) (fun _ _ => rfl) j4), ff, fy, fun hy => absurd rfl hy⟩
    · rw [if_neg h48]
      have e4 : f_X9_pass N b 3 (nI v) D = some (0, D) := by
        unfold f_X9_pass
        obtain ⟨m, hm⟩ : ∃ m, N = m + 1 := ⟨N - 1, by omega⟩
        have : ∀ m, f_X9_pass_3 N b 3 (nI v) (m + 1) 0 D = some (0, D) := fun m => by
          rw [f_X9_pass_3, e1]
          simp (disch := omega) only [le_nl, if_neg, le_ln, if_pos, f_X9_pass_76, rt]
        rw [hm] at this ⊢
        exact this m
      rw [e4, cal_some, if_pos rfl]
      exact ⟨4, D, Y, by omega, rfl, rfl, h, FT.rf D, FY.rf Y, fun _ => ⟨rfl, rfl⟩⟩
/-- the reference judges, from X on -/
def XJ (X Y : XM) : Prop := Y.2 = X.2 ∧ (∀ x, lastF x = true → Y.1 0 x = X.1 0 x) ∧ (∀ j, lastR j = true → j ≠ 2 → j ≠ 13 → Y.1 j = X.1 j) ∧ (∀ x, x < 172 → Y.1 14 x = X.1 2 (371 + x)) ∧ (∀ x, ¬ (371 ≤ x ∧ x < 543) → Y.1 2 x = X.1 2 x)
theorem xj_fy {X Y Z : XM} (h : XJ X Y) (hf : FY Y Z) : XJ X Z := by
  obtain ⟨h1, h2, h3, h4, h5⟩ := h
  refine ⟨hf.1.trans h1, fun x hx => ?_, fun j hj h2' h13 => ?_, fun x hx => ?_, fun x hx => ?_⟩
  · rw [hf.2 0 x ?_ (by omega) (by omega) (by omega)]
    · exact h2 x hx
    · rintro ⟨-, rfl | rfl | rfl | rfl⟩ <;> cases hx
  · have : j ≠ 0 ∧ j ≠ 7 ∧ j ≠ 8 := by
      refine ⟨?_, ?_, ?_⟩ <;> (rintro rfl; cases hj)
    refine (funext fun x => ?_ : Z.1 j = Y.1 j).trans (h3 j hj h2' h13)
    exact hf.2 j x (by omega) this.2.1 this.2.2 (by omega)
  · rw [hf.2 14 x (by omega) (by omega) (by omega) (by omega)]
    exact h4 x hx
  · rw [hf.2 2 x (by omega) (by omega) (by omega) (by omega)]
    exact h5 x hx
theorem xj_13 {X Y : XM} {x : Nat} {v : Int32} (h : XJ X Y) : XJ X (stX Y 13 x v) := by
  obtain ⟨h1, h2, h3, h4, h5⟩ := h
  refine ⟨h1, fun x hx => ?_, fun j hj h2' h13 => ?_, fun x hx => ?_, fun x hx => ?_⟩
  · rw [stX_row (by omega)]; exact h2 x hx
  · rw [stX_row h13]; exact h3 j hj h2' h13
  · rw [stX_row (by omega)]; exact h4 x hx
  · rw [stX_row (by omega)]; exact h5 x hx
theorem ts_13 {D : CM} {Y : XM} {x : Nat} {v : Int32} (h : TS n b B D Y) : TS n b B D (stX Y 13 x v) := by
  unfold TS
  rw [stX_row (by omega)]
  exact h
/-- the lines, one by one -/
theorem judge_loop {a1 : Int32} {C : CM} {X : XM} (hN : 2000 ≤ N) (hH : HereR C X n) (hb : C.2 2 0 1 < 4 ∧ C.2 2 0 3 < 4 ∧ C.2 2 0 4 < 4) {D0 : CM} {Y0 : XM} (hD : FT 3 C D0) (hJ : XJ X Y0) (hT : TS n (C.2 2 0 1) (C.1 3 (C.2 2 0 1)) D0 Y0) (h0 : Y0.1 13 0 = 0) (h1 : Y0.1 13 1 = 0) (hs : Y0.1 2 = X.1 2) :
    ∃ y dn wr D Y, y ≤ 4 ∧ dn ≤ 30 ∧ f_X10_judge_30 N a1 N 0 0 D0 = f_X10_judge_85 N a1 (nI y) (nI dn) D ∧ f_X11_judge_72 N a1 N (-1) 0 Y0 = f_X11_judge_162 N a1 wr Y ∧ ((y = 0 ∧ wr = -1) ∨ (y ≠ 0 ∧ wr = nI dn)) ∧ Y.1 13 0 = nI y ∧ Y.1 13 1 = nI dn ∧ TS n (C.2 2 0 1) (C.1 3 (C.2 2 0 1)) D Y ∧ FT 3 C D ∧ XJ X Y ∧ (dn = 0 → Y.1 2 = X.1 2) := by
  obtain ⟨L, hL, l1, l2, l3⟩ := hH.2.2.1
  refine loop2f (fun m i D => f_X10_judge_30 N a1 m 0 i D) (fun m i Y => f_X11_judge_72 N a1 m (-1) i Y)
    (fun k D Y => TS n (C.2 2 0 1) (C.1 3 (C.2 2 0 1)) D Y ∧ FT 3 C D ∧ XJ X Y ∧ Y.1 13 0 = 0 ∧ Y.1 13 1 = nI k ∧ (k = 0 → Y.1 2 = X.1 2))
    (fun yy zz => ∃ y dn wr D Y, y ≤ 4 ∧ dn ≤ 30 ∧ yy = f_X10_judge_85 N a1 (nI y) (nI dn) D ∧ zz = f_X11_judge_162 N a1 wr Y ∧ ((y = 0 ∧ wr = -1) ∨ (y ≠ 0 ∧ wr = nI dn)) ∧ Y.1 13 0 = nI y ∧ Y.1 13 1 = nI dn ∧ TS n (C.2 2 0 1) (C.1 3 (C.2 2 0 1)) D Y ∧ FT 3 C D ∧ XJ X Y ∧ (dn = 0 → Y.1 2 = X.1 2)) L ?_ ?_ L 0 N N D0 Y0 (by omega) (by omega) (by omega) ⟨hT, hD, hJ, h0, h1, fun _ => hs⟩
  · rintro m m' k D Y hk hm hm' ⟨t, hD, hJ, j0, j1, js⟩
    obtain ⟨m2, hm2⟩ : ∃ m2, m = m2 + 1 := ⟨m - 1, by omega⟩
    obtain ⟨m3, hm3⟩ : ∃ m3, m' = m3 + 1 := ⟨m' - 1, by omega⟩
    obtain ⟨w, v, hw, p1, p2, p3, p4, q0, q1, q2, q3, q4⟩ := l3 k hk
    have c5 : ∀ j x, D.1 5 (C.2 2 0 3) j x = C.1 5 (C.2 2 0 3) j x := fun j x => hD.2 5 _ j x (by omega) (by omega)
    have c50 : D.1 5 (C.2 2 0 3) 0 0 = nI L := (c5 0 0).trans l1
    have x543 : Y.1 2 543 = nI L := (hJ.2.2.2.2 543 (by omega)).trans l2
    have x4 : Y.1 2 (544 + 4 * k) = nI w := (hJ.2.2.2.2 _ (by omega)).trans p2
    have x5 : Y.1 2 (544 + 4 * k + 1) = nI v := (hJ.2.2.2.2 _ (by omega)).trans (by rw [show 544 + 4 * k + 1 = 545 + 4 * k by omega]; exact p4)
    obtain ⟨y, D', Y', hy, e1, e2, e3, e4, e5, e6⟩ := perform_rel (pl := C.2 2 0 3) (i := k) (w := w) (v := v) (z := Y.1 2 (544 + 4 * k + 2)) hN t (by omega) hw ((c5 1 k).trans p1) ((c5 2 k).trans p3) q0 q1 q2 (fun hw3 => by
      obtain ⟨d, d1, d2, d3⟩ := q3 hw3
      refine ⟨d, d1, (c5 3 k).trans d2, ?_⟩
      rw [hJ.2.2.2.2 _ (by omega), show 544 + 4 * k + 2 = 546 + 4 * k by omega]
      exact d3) q4
    have y131 : Y'.1 13 1 = nI k := (e5.2 13 1 (by omega) (by omega) (by omega) (by omega)).trans j1
    have hDD : FT 3 C D' := hD.trans e4
    have hJJ : XJ X Y' := xj_fy hJ e5
    have sC : f_X10_judge_30 N a1 (m + 1) 0 (nI k) D = (if nI y = 0 then f_X10_judge_30 N a1 m (nI y) (nI (k + 1)) D' else f_X10_judge_30 N a1 m (nI y) (nI k) D') := by
      simp (disch := omega) only [f_X10_judge_30, if_true, hD.1, ldR_lt hb.2.1, ldR_lt hb.1, c50, le_nn, if_neg, e1, cal_some, nI_al]
    have sX : f_X11_judge_72 N a1 (m' + 1) (-1) (nI k) Y = (if nI y ≤ 0 then f_X11_judge_72 N a1 m' (-1) (nI (k + 1)) (stX (stX Y' 13 0 (nI y)) 13 1 (nI (k + 1))) else f_X11_judge_72 N a1 m' (nI k) (nI (k + 1)) (stX Y' 13 0 (nI y))) := by
      rw [f_X11_judge_72]
      simp (disch := omega) only [ldA_l, x543, le_nn, if_neg, nI_lm, nI_la, nI_al, ldA_nI, x4, x5, e2, cal_some, sxA_l, stX_at]
      rw [if_neg (by decide)]
      have e131 : (stX Y' 13 0 (nI y)).1 13 1 = nI k := by rw [stX_ne (by omega)]; exact y131
      simp only [e131, nI_al]
    by_cases hy0 : y = 0
    · subst hy0
      refine Or.inl ⟨D', stX (stX Y' 13 0 (nI 0)) 13 1 (nI (k + 1)), ?_, ?_, ts_13 (ts_13 e3), hDD, xj_13 (xj_13 hJJ), ?_, stX_at, fun h => by omega⟩
      · show f_X10_judge_30 N a1 (m + 1) 0 (nI k) D = _
        rw [sC, if_pos (show nI 0 = (0 : Int32) from rfl)]
        rfl
      · show f_X11_judge_72 N a1 (m' + 1) (-1) (nI k) Y = _
        rw [sX, if_pos (by decide)]
      · rw [stX_ne (by omega), stX_at]
        rfl
    · obtain ⟨rfl, rfl⟩ := e6 hy0
      have hne : ¬ (nI y = (0 : Int32)) := by simp (disch := omega) only [eq_nl]; exact hy0
      have hnle : ¬ (nI y ≤ (0 : Int32)) := by simp (disch := omega) only [le_nl]; omega
      subst hm2 hm3
      refine Or.inr ⟨y, k, nI k, D', stX Y' 13 0 (nI y), hy, by omega, ?_, ?_, Or.inr ⟨hy0, rfl⟩, stX_at, ?_, ts_13 e3, hDD, xj_13 hJJ, fun hk0 => ?_⟩
      · show f_X10_judge_30 N a1 (m2 + 1 + 1) 0 (nI k) D' = _
        rw [sC, if_neg hne, f_X10_judge_30, if_neg hne]
      · show f_X11_judge_72 N a1 (m3 + 1 + 1) (-1) (nI k) Y' = _
        have x543' : (stX Y' 13 0 (nI y)).1 2 543 = nI L := by rw [stX_row (by omega)]; exact x543
        rw [sX, if_neg hnle, f_X11_judge_72]
        simp (disch := omega) only [ldA_l, x543']
        rw [if_pos (nI_pos' (by omega)), ite_self]
      · rw [stX_ne (by omega)]
        exact j1
      · rw [stX_row (by omega)]
        exact js hk0
  · rintro m m' D Y ⟨t, hD, hJ, j0, j1, js⟩
    have c50 : D.1 5 (C.2 2 0 3) 0 0 = nI L := (hD.2 5 _ 0 0 (by omega) (by omega)).trans l1
    have x543 : Y.1 2 543 = nI L := (hJ.2.2.2.2 543 (by omega)).trans l2
    refine ⟨0, L, -1, D, Y, by omega, hL, ?_, ?_, Or.inl ⟨rfl, rfl⟩, j0, j1, t, hD, hJ, js⟩
    · simp (disch := omega) only [f_X10_judge_30, if_true, hD.1, ldR_lt hb.2.1, c50, le_nn, if_pos]
      rfl
    · simp (disch := omega) only [f_X11_judge_72, ldA_l, x543, le_nn, if_pos]
theorem judge19_eq (N : Nat) (a1 : Int32) (X : XM) (hN : 2000 ≤ N) : f_X11_judge_19 N a1 N 0 X = f_X11_judge_50 N a1 N 0 (rwX X 14 (fil (X.1 14) (fun x => X.1 2 (371 + x)) 0 172)) := by
  have h := loop_0st (fun m i Y => f_X11_judge_19 N a1 m i Y) (fun k => rwX X 14 (fil (X.1 14) (fun x => X.1 2 (371 + x)) 0 k)) 172 (f_X11_judge_50 N a1 N 0 (rwX X 14 (fil (X.1 14) (fun x => X.1 2 (371 + x)) 0 172)))
    (fun m k hk => by
      simp (disch := omega) only [f_X11_judge_19, le_ln, if_neg, nI_la, ldA_nI, sxA_nI, nI_al, stX_rwX, rwX_out]
      rw [← fil_s, Nat.zero_add])
    (fun m => by simp (disch := omega) only [f_X11_judge_19, le_ln, if_pos]) (fuel := N) (by omega)
  simpa [fil_0, rwX_self] using h
theorem judge50_eq (N : Nat) (a1 : Int32) (X : XM) (hN : 2000 ≤ N) : f_X11_judge_50 N a1 N 0 X = f_X11_judge_72 N a1 N (-1) 0 (rwX X 13 (fil (X.1 13) (fun _ => 0) 0 5)) := by
  have h := loop_0st (fun m i Y => f_X11_judge_50 N a1 m i Y) (fun k => rwX X 13 (fil (X.1 13) (fun _ => 0) 0 k)) 5 (f_X11_judge_72 N a1 N (-1) 0 (rwX X 13 (fil (X.1 13) (fun _ => 0) 0 5)))
    (fun m k hk => by
      simp (disch := omega) only [f_X11_judge_50, le_ln, if_neg, sxA_nI, nI_al, stX_rwX]
      rw [← fil_s, Nat.zero_add])
    (fun m => by simp (disch := omega) only [f_X11_judge_50, le_ln, if_pos]) (fuel := N) (by omega)
  simpa [fil_0, rwX_self] using h
theorem judge263_eq (N : Nat) (a2 : Int32) (X : XM) (hN : 2000 ≤ N) : f_X11_judge_263 N 0 a2 N 0 X = some (a2, rwX X 2 (fil (X.1 2) (X.1 14) 371 172)) := by
  have h := loop_0st (fun m i Y => f_X11_judge_263 N 0 a2 m i Y) (fun k => rwX X 2 (fil (X.1 2) (X.1 14) 371 k)) 172 (some (a2, rwX X 2 (fil (X.1 2) (X.1 14) 371 172)))
    (fun m k hk => by
      simp (disch := omega) only [f_X11_judge_263, le_ln, if_neg, if_true, nI_la, ldA_nI, sxA_nI, nI_al, stX_rwX, rwX_out]
      rw [← fil_s])
    (fun m => by simp (disch := omega) only [f_X11_judge_263, le_ln, if_pos, f_X11_judge_296, rt]) (fuel := N) (by omega)
  simpa [fil_0, rwX_self] using h
theorem judge225_eq (N : Nat) (a1 a2 : Int32) (X : XM) (m : Nat) (hm : m < 8) (hX : X.1 0 33 = nI (m + 1)) (hN : 2000 ≤ N) : f_X11_judge_225 N a1 a2 N 0 X = f_X11_judge_261 N a1 a2 (rwX X 10 (fil (X.1 10) (X.1 14) (172 * m) 172)) := by
  have h := loop_0st (fun mm i Y => f_X11_judge_225 N a1 a2 mm i Y) (fun k => rwX X 10 (fil (X.1 10) (X.1 14) (172 * m) k)) 172 (f_X11_judge_261 N a1 a2 (rwX X 10 (fil (X.1 10) (X.1 14) (172 * m) 172)))
    (fun mm k hk => by
      simp (disch := omega) only [f_X11_judge_225, le_ln, if_neg, rwX_out, hX, nI_m1, nI_lm, nI_add, ldA_nI, sxA_nI, nI_al, stX_rwX]
      rw [← fil_s])
    (fun mm => by simp (disch := omega) only [f_X11_judge_225, le_ln, if_pos]) (fuel := N) (by omega)
  simpa [fil_0, rwX_self] using h
end JUD
