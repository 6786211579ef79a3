/-! fence, and the plots. -/
section FEN
variable {N : Nat}
theorem putF_eq {r c : Nat} (D : CM) (hc : c < 100) : f_X6_putFence r (nI c) D = some (0, stC (stC D 4 r 8 c 48) 4 r 0 2 (D.1 4 r 0 2 + 1)) := by
  unfold f_X6_putFence
  simp (disch := omega) only [lt_nl, le_ln, if_neg, stA_nI, bnd_v, stC_row, rt]
theorem here_ft {n : BN} {C D : CM} {X Y : XM} (hH : HereR C X n) (hD : FT 3 C D) (hY : Y.1 2 = X.1 2) (hN2 : Y.2 = X.2) : HereR D Y n := by
  have e3 : ∀ i, D.1 3 i = C.1 3 i := fun i => funext fun j => funext fun x => hD.2 3 i j x (by omega) (by omega)
  have e5 : ∀ i, D.1 5 i = C.1 5 i := fun i => funext fun j => funext fun x => hD.2 5 i j x (by omega) (by omega)
  have e6 : ∀ i, D.1 6 i = C.1 6 i := fun i => funext fun j => funext fun x => hD.2 6 i j x (by omega) (by omega)
  have e4 : D.1 4 0 = C.1 4 0 := funext fun j => funext fun x => hD.2 4 0 j x (by omega) (by omega)
  unfold HereR
  rw [hD.1, e3, e4, e5, e6, hY, hN2]
  exact hH
theorem op_fence (hN : 2000 ≤ N) (b1 : Int32) : OP (Rel N) (f_X10_fence N b1) (f_X11_fence N b1) := by
  intro C X hR
  have hR0 := rel_xe hR (xe_0 X 0)
  unfold f_X10_fence f_X11_fence
  rw [bnd_v]
  generalize stX X 0 0 0 = X0 at hR0 ⊢
  obtain ⟨⟨n, hH, -⟩, -, -, hRs⟩ := id hR0
  obtain ⟨hB, hS, -⟩ := id hH
  have hb := (b_lt hRs.1).1
  have bd := bk_bd hB
  rw [ldR_lt hb]
  rcases isOwner_rel hB rfl b1 with ⟨o, ho, rfl, e1, e2⟩ | ⟨e1, e2⟩
  rotate_left
  · rw [e1, e2]
    exact ⟨_, _, _, rfl, rfl, hR0⟩
  rw [e1, e2, cal_some, cal_some, if_neg i1n, if_neg i1n]
  obtain ⟨fe, f1, f2, f3⟩ := sh_fe hS
  rw [fences_eq (fe := fe) X0 hN (fun c hc => (f1 c hc).2), cal_some, f3]
  simp (disch := omega) only [lt_nl, eq_nl]
  by_cases h12 : sumN fe 100 < 12
  rotate_left
  · rw [if_neg h12, if_pos (by omega)]
    exact ⟨_, _, _, rfl, rfl, hR0⟩
  rw [if_pos h12, if_neg (by omega)]
  obtain ⟨Y, y1, y2, y3⟩ := xb_start N X0 hN
  obtain ⟨v, D1, Y1, w1, w2, w3, w4⟩ := we_rel hN hH hb (show o < 8 by omega) (FT.rf C) y3 y2
  obtain ⟨Z, z1, z2, z3, z4, -⟩ := xb_back hN w4
  rw [w1, y1, cal_some, cal_some, w2, cal_some, z1, cal_some]
  refine loop2 (fun m i (q : Int32 × Int32 × CM) => f_X10_fence_45 N (nI o) v m q.1 q.2.1 i q.2.2) (fun m i (q : Int32 × Int32 × XM) => f_X11_fence_46 N (nI o) v m q.1 q.2.1 i q.2.2)
    (fun k q q' => q.1 = q'.2.1 ∧ q.2.1 = q'.1 ∧ (q'.1 = -1 ∨ ∃ g, g < 100 ∧ q'.1 = nI g) ∧ FT 3 C q.2.2 ∧ XB X0 q'.2.2 ∧ q'.2.2.1 2 = X0.1 2 ∧ XE X0 q'.2.2)
    (fun y z => ∃ r C' X', y = some (r, C') ∧ z = some (r, X') ∧ Rel N C' X') 100 ?_ ?_ 100 0 N N (v, -1, D1) (-1, v, Z) (by omega) (by omega) (by omega) ⟨rfl, rfl, Or.inl rfl, w3, z3, z4, z2⟩
  · rintro m m' k ⟨ms, ba, D⟩ ⟨ba', ms', Y⟩ hk ⟨h1, h2, h3, hD, hXB, hY, hxe⟩
    dsimp only at h1 h2 h3 hD hXB hY hxe
    subst h1 h2
    refine Or.inl ?_
    dsimp only
    rw [f_X10_fence_45, f_X11_fence_46]
    have c3 : D.1 3 (C.2 2 0 1) = C.1 3 (C.2 2 0 1) := funext fun j => funext fun x => hD.2 3 _ j x (by omega) (by omega)
    have hBY : BankR (C.1 3 (C.2 2 0 1)) (Y.1 2) n := by rw [hY]; exact hB
    simp (disch := omega) only [le_ln, if_neg, hD.1, ldR_lt hb, nI_al]
    rcases isCell_rel hBY c3 (nI k) with ⟨c, hc, hkc, e1, e2⟩ | ⟨e1, e2⟩
    rotate_left
    · rw [e1, e2, cal_some, cal_some, if_pos rfl, if_pos rfl]
      exact ⟨(ms, ba, D), (ba, ms, Y), rfl, rfl, rfl, rfl, h3, hD, hXB, hY, hxe⟩
    have hck : c = k := by
      have := hc.1
      rw [eq_nn (by omega) (by omega)] at hkc
      exact hkc.symm
    subst hck
    have hf01 : Y.1 2 (441 + c) = 0 ∨ Y.1 2 (441 + c) = 1 := by
      rw [hY]
      have := f1 c hk
      rcases (by omega : fe c = 0 ∨ fe c = 1) with h | h
      · rw [h] at this; exact Or.inl this.2
      · rw [h] at this; exact Or.inr this.2
    have hbare := isBare_eq (N := N) (X := Y) (c := c) (th := C.1 4 0 8) hN bd.2.2.1 bd.2.2.2 (bk_o hBY).2 (bk_t hBY).2 (by rw [hY]; exact sh_th hS) hk hf01
    have c48 : D.1 4 0 8 c = C.1 4 0 8 c := hD.2 4 0 8 c (by omega) (by omega)
    rw [e1, e2, cal_some, cal_some, if_neg i1n, if_neg i1n, hbare, cal_some]
    simp (disch := omega) only [ldA_nI, c48]
    by_cases h0 : C.1 4 0 8 c = 0
    rotate_left
    · rw [if_neg h0, if_neg h0, if_pos rfl]
      exact ⟨(ms, ba, D), (ba, ms, Y), rfl, rfl, rfl, rfl, h3, hD, hXB, hY, hxe⟩
    rw [if_pos h0, if_pos h0, if_neg i1n]
    obtain ⟨q, D2, hq, q1, cp, g1, t1, -, hcp⟩ := tq_start (hb_of hH) hD hY
    obtain ⟨t2, g2, g3⟩ := tq_set (c := c) (w := D2.1 4 3 0 2 + 1) t1 hk (Or.inl ((hcp 8 c (by unfold dX6; omega)).trans h0))
    have epf := putF_eq (r := 3) (c := c) D2 hk
    generalize stC (stC D2 4 3 8 c 48) 4 3 0 2 (D2.1 4 3 0 2 + 1) = D3 at t2 g2 epf
    obtain ⟨v', j, D4, Y4, a1, a2, a3, a4, a5⟩ := atLast_rel hN (by omega) hq (show o < 8 by omega) t2
    obtain ⟨Z2, z5, z6, z7, z8, -⟩ := xb_back hN (xb_fy (xb_fy hXB g3) a5)
    have hD4 : FT 3 C D4 := g1.trans (g2.trans a4)
    simp (disch := omega) only [cp, cal_some, epf, g2.1, g1.1, ldR_lt hb, a1, a2, nI_la, sxA_nI, a3, z5]
    by_cases hv : v' ≤ ms
    · rw [if_pos hv, if_neg (Int32.not_lt.mpr hv)]
      exact ⟨(ms, ba, D4), (ba, ms, Z2), rfl, rfl, rfl, rfl, h3, hD4, z7, z8, z6⟩
    · rw [if_neg hv, if_pos (Int32.not_le.mp hv)]
      exact ⟨(v', nI c, D4), (nI c, v', Z2), rfl, rfl, rfl, rfl, Or.inr ⟨c, hk, rfl⟩, hD4, z7, z8, z6⟩
  · rintro m m' ⟨ms, ba, D⟩ ⟨ba', ms', Y⟩ ⟨h1, h2, h3, hD, hXB, hY, hxe⟩
    dsimp only at h1 h2 h3 hD hXB hY hxe
    subst h1 h2
    have hRD : Rel N D Y := rel_xe (rel_ce hR0 (ce_ft hD)) hxe
    dsimp only
    rw [f_X10_fence_45, f_X11_fence_46]
    simp (disch := omega) only [le_ln, if_pos, f_X10_fence_171, f_X11_fence_137]
    rcases h3 with rfl | ⟨g, hg, rfl⟩
    · rw [if_pos rfl, if_pos (by decide)]
      exact ⟨_, _, _, rfl, rfl, hRD⟩
    · have hne : ¬ (nI g = (-1 : Int32)) := fun e => nI_nneg (show g < 2147483648 by omega) (by rw [e]; decide)
      rw [if_neg hne, if_neg (nI_nneg (by omega))]
      simp only [bnd_v]
      refine ⟨_, _, _, rfl, rfl, ?_⟩
      obtain ⟨-, ⟨L, hL, l1, l2, l3⟩, -, -, -, -, hp, hj, hf, -⟩ := id hRD
      refine rel_upd hRD (same_st0 D) ((same_stX Y (by omega)).trans (same_stX _ (by omega))) ⟨L, hL, ?_, ?_, fun x hx => ?_⟩ ?_ ?_ ?_ ?_
      · rw [stC_ne (by omega)]; exact l1
      · rw [stX_ne (by omega), stX_ne (by omega)]; exact l2
      · rw [stC_row (by omega), stX_row (by omega), stX_row (by omega)]; exact l3 x hx
      · refine Or.inr ⟨stX_at, ?_⟩
        rw [stC_at, stX_ne (by omega), stX_at]
      · unfold PairR
        rw [stC_ne (by omega), stC_row (by omega), stX_ne (by omega), stX_ne (by omega), stX_row (by omega), stX_row (by omega)]
        exact hp
      · unfold JudR
        rw [stC_row (by omega), stX_ne (by omega), stX_ne (by omega), stX_row (by omega), stX_row (by omega)]
        exact hj
      · rw [stC_ne (by omega), stX_ne (by omega), stX_ne (by omega)]
        exact hf
/-- owners with a free plot, as bits -/
theorem plots_bits {n : BN} {C D : CM} {X Y : XM} (hN : 2000 ≤ N) (hH : HereB C X n) (hb : C.2 2 0 1 < 4) : ∃ m, m < 256 ∧ (∀ o, o < 8 → bt (nI m) o = 1 → o < n.2.2.1 ∧ ∃ c, c < 100 ∧ C.1 3 (C.2 2 0 1) 14 o = nI c ∧ X.1 2 (55 + o) = nI (c + 1) ∧ C.1 4 0 8 c = 0) ∧ ∀ D Y, FT 3 C D → Y.1 2 = X.1 2 → f_X10_freePlots N D = some (nI m, D) ∧ f_X11_plotters N Y = some (nI m, Y) := by
  obtain ⟨hB, hS, -⟩ := hH
  have bd := bk_bd hB
  obtain ⟨fe, f1, f2, f3⟩ := sh_fe hS
  unfold f_X10_freePlots f_X11_plotters
  have key : ∀ k, k ≤ n.2.2.1 → ∃ m, m < 256 ∧ (∀ o, o < 8 → bt (nI m) o = 1 → o < k ∧ ∃ c, c < 100 ∧ C.1 3 (C.2 2 0 1) 14 o = nI c ∧ X.1 2 (55 + o) = nI (c + 1) ∧ C.1 4 0 8 c = 0) ∧ ∀ D Y, FT 3 C D → Y.1 2 = X.1 2 → ∀ fu, k < fu → f_X10_freePlots_4 N fu 0 0 D = f_X10_freePlots_4 N (fu - k) (nI m) (nI k) D ∧ f_X11_plotters_4 N fu 0 0 Y = f_X11_plotters_4 N (fu - k) (nI m) (nI k) Y := by
    intro k
    induction k with
    | zero => exact fun _ => ⟨0, by omega, fun o ho h => by rw [show (nI 0 : Int32) = 0 from rfl, bt_0 o ho] at h; exact absurd h (by decide), fun D Y _ _ fu _ => ⟨rfl, rfl⟩⟩
    | succ k ih =>
      intro hk
      obtain ⟨m, hm, h1, h2⟩ := ih (by omega)
      obtain ⟨p, p0, p1, p2⟩ := bk_plot hB k (by omega)
      have stp : ∀ D Y, FT 3 C D → Y.1 2 = X.1 2 → ∀ f', f_X10_freePlots_4 N (f' + 1) (nI m) (nI k) D = (if p = 0 then f_X10_freePlots_4 N f' (nI m) (nI (k + 1)) D else if C.1 4 0 8 (p - 1) = 0 then f_X10_freePlots_4 N f' (nI m ||| ((1 : Int32) <<< (nI k &&& 31))) (nI (k + 1)) D else f_X10_freePlots_4 N f' (nI m) (nI (k + 1)) D) ∧ f_X11_plotters_4 N (f' + 1) (nI m) (nI k) Y = (if p = 0 then f_X11_plotters_4 N f' (nI m) (nI (k + 1)) Y else if C.1 4 0 8 (p - 1) = 0 then f_X11_plotters_4 N f' (nI m ||| ((1 : Int32) <<< (nI k &&& 31))) (nI (k + 1)) Y else f_X11_plotters_4 N f' (nI m) (nI (k + 1)) Y) := by
        intro D Y hD hY f'
        have c1 : D.1 3 (C.2 2 0 1) 6 0 = nI n.2.2.1 := (hD.2 3 _ 6 0 (by omega) (by omega)).trans (bk_o hB).1
        have c2 : D.1 3 (C.2 2 0 1) 14 k = nI p - 1 := (hD.2 3 _ 14 k (by omega) (by omega)).trans p1
        have x1 : Y.1 2 2 = nI n.2.2.1 := by rw [hY]; exact (bk_o hB).2
        have x2 : Y.1 2 (55 + k) = nI p := by rw [hY]; exact p2
        rw [f_X10_freePlots_4, f_X11_plotters_4]
        simp (disch := omega) only [hD.1, ldR_lt hb, c1, le_nn, if_neg, ldA_nI, c2, ldA_l, x1, nI_la, x2, nI_al]
        by_cases hp : p = 0
        · subst hp
          rw [if_pos rfl, if_pos rfl, if_pos (by decide), if_pos (by decide)]
          exact ⟨rfl, rfl⟩
        · have hin : inY n (p - 1) := by
            rcases p0 with h | h
            · exact absurd h hp
            · exact h
          have hp100 := hin.1
          have e0 : nI p - 1 = nI (p - 1) := nI_sl (n := 1) (show 1 ≤ p by omega)
          have c4 : D.1 4 0 8 (p - 1) = C.1 4 0 8 (p - 1) := hD.2 4 0 8 _ (by omega) (by omega)
          have hf01 : Y.1 2 (441 + (p - 1)) = 0 ∨ Y.1 2 (441 + (p - 1)) = 1 := by
            rw [hY]
            have := f1 (p - 1) hp100
            rcases (by omega : fe (p - 1) = 0 ∨ fe (p - 1) = 1) with h | h
            · rw [h] at this; exact Or.inl this.2
            · rw [h] at this; exact Or.inr this.2
          have hbare := isBare_eq (N := N) (X := Y) (c := p - 1) (th := C.1 4 0 8) hN bd.2.2.1 bd.2.2.2 x1 (by rw [hY]; exact (bk_t hB).2) (by rw [hY]; exact sh_th hS) hp100 hf01
          rw [if_neg hp, if_neg hp, e0]
          simp (disch := omega) only [lt_nl, le_ln, if_neg, ldA_nI, c4, le_nl, hbare, cal_some]
          by_cases h0 : C.1 4 0 8 (p - 1) = 0
          · rw [if_pos h0, if_pos h0, if_neg i1n]
            exact ⟨trivial, rfl⟩
          · rw [if_neg h0, if_neg h0, if_pos rfl]
            exact ⟨trivial, rfl⟩
      have app : ∀ (m' : Nat), (∀ D Y, FT 3 C D → Y.1 2 = X.1 2 → ∀ f', f_X10_freePlots_4 N (f' + 1) (nI m) (nI k) D = f_X10_freePlots_4 N f' (nI m') (nI (k + 1)) D ∧ f_X11_plotters_4 N (f' + 1) (nI m) (nI k) Y = f_X11_plotters_4 N f' (nI m') (nI (k + 1)) Y) → ∀ D Y, FT 3 C D → Y.1 2 = X.1 2 → ∀ fu, k + 1 < fu → f_X10_freePlots_4 N fu 0 0 D = f_X10_freePlots_4 N (fu - (k + 1)) (nI m') (nI (k + 1)) D ∧ f_X11_plotters_4 N fu 0 0 Y = f_X11_plotters_4 N (fu - (k + 1)) (nI m') (nI (k + 1)) Y := by
        intro m' hs D Y hD hY fu hfu
        obtain ⟨a1, a2⟩ := h2 D Y hD hY fu (by omega)
        obtain ⟨b1, b2⟩ := hs D Y hD hY (fu - (k + 1))
        rw [show fu - (k + 1) + 1 = fu - k by omega] at b1 b2
        exact ⟨a1.trans b1, a2.trans b2⟩
      by_cases hp : p = 0
      · refine ⟨m, hm, fun o ho h => ⟨Nat.lt_succ_of_lt (h1 o ho h).1, (h1 o ho h).2⟩, app m (fun D Y hD hY f' => ?_)⟩
        have := stp D Y hD hY f'
        rw [if_pos hp, if_pos hp] at this
        exact this
      by_cases h0 : C.1 4 0 8 (p - 1) = 0
      · obtain ⟨⟨m1, m2⟩, m3⟩ := bt_or m hm k (by omega)
        refine ⟨_, m1, fun o ho h => ?_, app _ (fun D Y hD hY f' => ?_)⟩
        · rw [← m2, m3 o ho] at h
          by_cases e : o = k
          · subst e
            have hin : inY n (p - 1) := by
              rcases p0 with h | h
              · exact absurd h hp
              · exact h
            refine ⟨by omega, p - 1, hin.1, ?_, ?_, h0⟩
            · rw [p1]
              exact nI_sl (n := 1) (show 1 ≤ p by omega)
            · rw [p2, show p - 1 + 1 = p by omega]
          · rw [if_neg e] at h
            exact ⟨Nat.lt_succ_of_lt (h1 o ho h).1, (h1 o ho h).2⟩
        · have := stp D Y hD hY f'
          rw [if_neg hp, if_neg hp, if_pos h0, if_pos h0] at this
          rw [← m2]
          exact this
      · refine ⟨m, hm, fun o ho h => ⟨Nat.lt_succ_of_lt (h1 o ho h).1, (h1 o ho h).2⟩, app m (fun D Y hD hY f' => ?_)⟩
        have := stp D Y hD hY f'
        rw [if_neg hp, if_neg hp, if_neg h0, if_neg h0] at this
        exact this
  obtain ⟨m, hm, h1, h2⟩ := key n.2.2.1 (Nat.le_refl _)
  refine ⟨m, hm, h1, fun D Y hD hY => ?_⟩
  obtain ⟨a1, a2⟩ := h2 D Y hD hY N (by omega)
  have c1 : D.1 3 (C.2 2 0 1) 6 0 = nI n.2.2.1 := (hD.2 3 _ 6 0 (by omega) (by omega)).trans (bk_o hB).1
  have x1 : Y.1 2 2 = nI n.2.2.1 := by rw [hY]; exact (bk_o hB).2
  obtain ⟨f', hf'⟩ : ∃ f', N - n.2.2.1 = f' + 1 := ⟨N - n.2.2.1 - 1, by omega⟩
  rw [a1, a2, hf', f_X10_freePlots_4, f_X11_plotters_4]
  simp (disch := omega) only [hD.1, ldR_lt hb, c1, le_nn, if_pos, ldA_l, x1, rt]
  exact ⟨trivial, trivial⟩
end FEN
