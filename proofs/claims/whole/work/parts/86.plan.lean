/-! The plan on both sides. -/
section PLAN4
variable {N : Nat}
/-- behind k lines -/
def PnI (N : Nat) (b r : Nat) (n : BN) (C0 : CM) (X0 : XM) (k : Nat) (C : CM) (X : XM) : Prop := k ≤ 30 ∧ (∃ i, PsR N C X i) ∧ C.1 5 r 0 0 = nI k ∧ X.1 0 40 = nI k ∧ (∀ l, l < k → LnR r n C X l) ∧ PcR b n C X ∧ FPl r C0 C ∧ GPl X0 X
/-- sound at the end, or faulted -/
def PnE (N : Nat) (r : Nat) (n : BN) (C0 : CM) (X0 : XM) (y : Option (Int32 × CM)) (y' : Option (Int32 × XM)) : Prop :=
  (∃ k C' X', k ≤ 30 ∧ y = some (0, C') ∧ y' = sxA X' 4 135 0 (X'.1 0 40) (fun X2 => f_X11_plan_81 N N 0 X2) ∧ C'.1 1 0 0 5 = 0 ∧ X'.1 0 15 = 0 ∧ C'.1 5 r 0 0 = nI k ∧ X'.1 0 40 = nI k ∧ (∀ l, l < k → LnR r n C' X' l) ∧ FPl r C0 C' ∧ GPl X0 X') ∨
  (∃ C' X', y = some (0, C') ∧ y' = some (-1 - X'.1 0 16, X') ∧ FaR C' X' ∧ FPl r C0 C' ∧ GPl X0 X')
theorem ps_5 {C : CM} {X : XM} {i : Nat} (h : PsR N C X i) : C.1 1 0 0 5 = 0 := by
  obtain ⟨u, L, lm, t, P, t1, t2, h3, h4, h5, -⟩ := h
  exact h5
theorem ps_goes {C : CM} {X : XM} {i : Nat} (h : PsR N C X i) : (X.1 0 11 = 0 ∧ f_X7_goesOn C = some (0, C)) ∨ (X.1 0 11 ≠ 0 ∧ f_X7_goesOn C = some (1, C)) := by
  unfold f_X7_goesOn
  rw [if_pos (ps_5 h), ps_sees h, cal_some]
  obtain ⟨-, q⟩ := ps_mt h
  rcases q with ⟨h1, h2, h3⟩ | ⟨h1, h3⟩ | ⟨w', h1, h2, h3, h4, h5⟩ | ⟨h1, h2, h3, h4⟩ | ⟨z, h1, h2, h3, h4, h5⟩ | ⟨c', h1, h2, h3, h4, h5⟩
  · rw [if_pos (show C.1 1 0 1 i = 0 ∧ C.1 1 0 2 i = 0 from ⟨h1, h2⟩), if_neg (show ¬ (1 : Int32) = 0 by decide)]
    exact Or.inl ⟨h3, rfl⟩
  · rw [if_neg (show ¬ (C.1 1 0 1 i = 0 ∧ C.1 1 0 2 i = 0) from fun q => absurd (h1.symm.trans q.1) (by decide)), if_pos rfl]
    exact Or.inr ⟨by rw [h3]; decide, rfl⟩
  · rw [if_neg (show ¬ (C.1 1 0 1 i = 0 ∧ C.1 1 0 2 i = 0) from fun q => absurd (h2.symm.trans q.1) (by decide)), if_pos rfl]
    exact Or.inr ⟨by rw [h4]; decide, rfl⟩
  · rw [if_neg (show ¬ (C.1 1 0 1 i = 0 ∧ C.1 1 0 2 i = 0) from fun q => absurd (h1.symm.trans q.1) (by decide)), if_pos rfl]
    exact Or.inr ⟨by rw [h2]; decide, rfl⟩
  · rw [if_neg (show ¬ (C.1 1 0 1 i = 0 ∧ C.1 1 0 2 i = 0) from fun q => absurd (h2.symm.trans q.1) (by decide)), if_pos rfl]
    exact Or.inr ⟨by rw [h4]; decide, rfl⟩
  · rw [if_neg (show ¬ (C.1 1 0 1 i = 0 ∧ C.1 1 0 2 i = 0) from fun q => absurd (h2.symm.trans q.1) (by decide)), if_pos rfl]
    exact Or.inr ⟨by rw [h4]; decide, rfl⟩
theorem plan_loop {b r : Nat} {n : BN} {C0 C : CM} {X0 X : XM} (hN : 2000 ≤ N) (hI : PnI N b r n C0 X0 0 C X) : PnE N r n C0 X0 (f_X3_read_7 N r b N 0 C) (f_X11_plan_26 N N X) := by
  refine loop2f (fun m i (D : CM) => f_X3_read_7 N r b m i D) (fun m _ (Y : XM) => f_X11_plan_26 N m Y) (fun k D Y => PnI N b r n C0 X0 k D Y) (PnE N r n C0 X0) 31 ?_ ?_ 31 0 N N C X (by omega) (by omega) (by omega) hI
  · intro m m' k D Y hk hm hm' hI
    obtain ⟨k30, ⟨i, hp⟩, e0, e40, hl, hc, hF, hG⟩ := hI
    obtain ⟨m1, rfl⟩ : ∃ m1, m = m1 + 1 := ⟨m - 1, by omega⟩
    have s1 : ¬ ((30 : Int32) < nI k) := by simp (disch := omega) only [lt_ln]; omega
    -- a fault ends it
    have ends : ∀ (a4 : Int32) (C' : CM) (X' : XM), FaR C' X' → FPl r C0 C' → GPl X0 X' → PnE N r n C0 X0 (f_X3_read_44 N (fun z3 c => f_X3_read_7 N r b (m1 + 1) z3 c) r b (nI k) a4 C') (some (-1 - X'.1 0 16, X')) := by
      intro a4 C' X' h1 h2 h3
      obtain ⟨C2, c1, c2⟩ := read44_fa (N := N) (r := r) (b := b) (a3 := nI k) (a4 := a4) (fun z3 c => f_X3_read_7 N r b (m1 + 1) z3 c) h1.1
      rw [c1, read7_fa c2.1]
      exact Or.inr ⟨C2, X', rfl, rfl, faR_k h1 c2, fpl_l h2 (fl_f1 (k := 0) c2.2.2.2), h3⟩
    rw [f_X3_read_7, f_X11_plan_26, if_neg s1]
    rcases ps_goes hp with ⟨g1, g2⟩ | ⟨g1, g2⟩
    · right
      rw [g2, cal_some, if_pos rfl, if_pos g1]
      exact Or.inl ⟨k, D, Y, k30, rfl, rfl, ps_5 hp, ps_15 hp, e0, e40, hl, hF, hG⟩
    rw [g2, cal_some, if_neg (show ¬ (1 : Int32) = 0 by decide), if_neg g1]
    rcases word_rel hN hp with ⟨c, hc4, hw, t1, t2⟩ | ⟨t1, t2⟩
    · rw [t1, t2, cal_some]
      unfold f_X11_planLine_71
      rw [if_pos (nI_pos' (by omega)), e40]
      have e00 : (nxC D i).1 5 r 0 0 = nI k := by unfold nxC; rw [stC_ob (by omega)]; exact e0
      rw [e00]
      simp (disch := omega) only [lt_nl, eq_nl, nI_lm, nI_la]
      by_cases h30 : k = 30
      · right
        rw [if_neg (by omega), if_pos h30, ps_taken hp, cal_some, bad_eq, cal_some]
        have hf := (bl_fa hp (show (4 : Int32) ≠ 0 by decide)).2
        have := ends (nI (10 + c)) _ _ hf (fpl_l hF (fl_f1 (k := 0) (nx_f1.trans bl_f1))) (gpl_l hG (gl_bd (k := 0) bd_bdf))
        rw [show chk (isB 0) (rt 0 (bdX Y 4)) = some (0, bdX Y 4) from rfl, cal_some, if_pos rfl]
        exact this
      · rw [if_pos (show k < 30 by omega), if_neg h30]
        rcases plan_line hN hc4 (show k < 30 by omega) hp hw hc e0 with ⟨C1, X1, i', l1, l2, l3, l4, l5, l6⟩ | ⟨C1, X1, l1, l2, l3, l4, l5⟩
        · rw [l2, cal_some, if_neg (show ¬ (1 : Int32) = 0 by decide)]
          unfold f_X3_read_44
          rw [l1, cal_some]
          have hl1 : ∀ l, l < k + 1 → LnR r n C1 X1 l := fun l hlk => by
            by_cases e : l = k
            · rw [e]; exact l6
            · exact lnR_c (hl l (by omega)) (fun j _ _ => l4.2.2.2 j l e) (fun y _ _ => l5.2.2.2.2.2.2 _ (by omega))
          rcases mark_rel hN l3 (c := 59) (Or.inl rfl) with ⟨X2, p1, p2, p3, p4⟩ | ⟨C2, X2, p1, p2, p3, p4, p5⟩
          · left
            have p1' : f_X7_takeMark 59 C1 = some (0, nxC C1 i') := p1
            have p2' : f_X11_sign N 59 X1 = some (1, X2) := p2
            have fn : FL r k C1 (nxC C1 i') := fl_f1 nx_f1
            have e2 : (nxC C1 i').1 5 r 0 0 = nI k := by rw [fn.2.2.1, l4.2.2.1]; exact e0
            have e41 : X2.1 0 40 = nI k := by rw [(gl_nx (k := k) p3).2.2.2.2.2.1, l5.2.2.2.2.2.1]; exact e40
            rw [p1', p2', cal_some, cal_some, ps_sound p4, cal_some, if_neg (show ¬ (1 : Int32) = 0 by decide), if_neg (show ¬ (1 : Int32) = 0 by decide), e2, e41, bnd_v, bnd_v, nI_al]
            have hfC : FPl r C0 (stC (nxC C1 i') 5 r 0 0 (nI (k + 1))) := by
              have h1 := fpl_l (fpl_l hF l4) fn
              refine ⟨h1.1, fun q j a b' => ?_⟩
              have : (stC (nxC C1 i') 5 r 0 0 (nI (k + 1))).1 q j = (nxC C1 i').1 q j := by
                funext x y
                simp only [stC]
                rw [if_neg (by omega)]
              rw [this]
              exact h1.2 q j a b'
            have hgX : GPl X0 (stX X2 0 40 (nI (k + 1))) := by
              have h1 := gpl_l (gpl_l hG l5) (gl_nx (k := k) p3)
              refine ⟨fun x a b' => ?_, fun j a => ?_, h1.2.2⟩
              · have := lf_no a
                rw [stX_ne (by omega)]
                exact h1.1 x a b'
              · have := lr_no a
                rw [stX_row (by omega)]
                exact h1.2.1 j a
            refine ⟨stC (nxC C1 i') 5 r 0 0 (nI (k + 1)), stX X2 0 40 (nI (k + 1)), rfl, rfl, by omega, ⟨i' + 1, psR_c p4 (stC_ob (by omega)) (xp_f (by omega))⟩, stC_at, stX_at, fun l hlk => ?_, ?_, hfC, hgX⟩
            · refine lnR_c (hl1 l hlk) (fun j _ _ => ?_) (fun y _ _ => ?_)
              · rw [stC_row (by omega)]
                unfold nxC
                rw [stC_ob (by omega)]
              · rw [stX_row (by omega), p3.1 4 (by omega)]
            · have h1 := pcR_c (pcR_c hc l4 l5) fn (gl_nx (k := k) p3)
              unfold PcR at h1 ⊢
              rw [show (stC (nxC C1 i') 5 r 0 0 (nI (k + 1))).1 3 b = (nxC C1 i').1 3 b from stC_ob (by omega), show (stX X2 0 40 (nI (k + 1))).1 2 = X2.1 2 from stX_row (by omega)]
              exact h1
          · right
            have p1' : f_X7_takeMark 59 C1 = some (0, C2) := p1
            have p2' : f_X11_sign N 59 X1 = some (0, X2) := p2
            rw [p1', p2', cal_some, cal_some, fa_sound p4.1, cal_some, if_pos rfl, if_pos rfl]
            dsimp only
            rw [read7_fa p4.1]
            exact Or.inr ⟨C2, X2, rfl, rfl, p4, fpl_l (fpl_l hF l4) (fl_f1 (k := k) p3), gpl_l (gpl_l hG l5) (gl_bd (k := k) p5)⟩
        · right
          rw [l2, cal_some, if_pos rfl]
          unfold f_X3_read_44
          obtain ⟨C2, c1, c2⟩ := fa_mark l3.1 59
          rw [l1, cal_some, c1, cal_some, fa_sound c2.1, cal_some, if_pos rfl]
          dsimp only
          rw [read7_fa c2.1]
          exact Or.inr ⟨C2, X1, rfl, rfl, faR_k l3 c2, fpl_l (fpl_l hF l4) (fl_f1 (k := k) c2.2.2.2), gpl_l hG l5⟩
    · right
      have hf := (bl_fa hp (show (1 : Int32) ≠ 0 by decide)).1
      have hfp := fpl_l hF (fl_f1 (k := 0) (bl_f1 (C := D) (e := 1) (pl := D.1 1 0 3 i)))
      have hgp := gpl_l hG (gl_bd (k := 0) (bd_bdf (X := Y) (e := 1)))
      have := ends (-1) _ _ hf hfp hgp
      rw [t1, t2, cal_some]
      unfold f_X11_planLine_71
      rw [if_neg (show ¬ ((0 : Int32) ≤ -1) by decide), bad_eq, cal_some, show chk (isB 0) (rt 0 (bdX Y 1)) = some (0, bdX Y 1) from rfl, cal_some, if_pos rfl, (fa_blame hf.1 4).2, cal_some]
      by_cases q : (blC D 1 (D.1 1 0 3 i)).1 5 r 0 0 < 30
      · rw [if_pos q]; exact this
      · rw [if_neg q]; exact this
  · intro m m' D Y hI
    obtain ⟨k30, -⟩ := hI
    omega
/-- the plan moves into its place -/
theorem plan81_eq {k : Nat} {X : XM} (hN : 2000 ≤ N) (hk : k ≤ 30) (h : X.1 0 40 = nI k) : ∃ X', f_X11_plan_81 N N 0 X = some (nI k, X') ∧ X'.2 = X.2 ∧ (∀ j, j ≠ 2 → X'.1 j = X.1 j) ∧ ∀ x, X'.1 2 x = if 543 ≤ x ∧ x ≤ 543 + 4 * k then X.1 4 (x - 543) else X.1 2 x := by
  refine loop1 (fun m i (Y : XM) => f_X11_plan_81 N m i Y) (fun y Y => Y.2 = X.2 ∧ (∀ j, j ≠ 2 → Y.1 j = X.1 j) ∧ ∀ x, Y.1 2 x = if 543 ≤ x ∧ x < 543 + y then X.1 4 (x - 543) else X.1 2 x)
    (fun z => ∃ X', z = some (nI k, X') ∧ X'.2 = X.2 ∧ (∀ j, j ≠ 2 → X'.1 j = X.1 j) ∧ ∀ x, X'.1 2 x = if 543 ≤ x ∧ x ≤ 543 + 4 * k then X.1 4 (x - 543) else X.1 2 x) (4 * k + 1) ?_ ?_ (4 * k + 1) 0 N X (by omega) (by omega) ⟨rfl, fun _ _ => rfl, fun x => by rw [if_neg (by omega)]⟩
  · intro m y Y hy ⟨y1, y2, y3⟩
    left
    have e40 : Y.1 0 40 = nI k := by rw [y2 0 (by omega)]; exact h
    refine ⟨stX Y 2 (543 + y) (X.1 4 y), ?_, y1, fun j hj => (stX_row hj).trans (y2 j hj), fun x => ?_⟩
    · rw [f_X11_plan_81, e40]
      simp (disch := omega) only [nI_lm, nI_la, lt_nn, if_neg, ldA_nI, sxA_nI, nI_al]
      rw [y2 4 (by omega)]
    · by_cases e : x = 543 + y
      · subst e
        rw [stX_at, if_pos (by omega), show 543 + y - 543 = y by omega]
      · rw [stX_ne e, y3]
        by_cases q : 543 ≤ x ∧ x < 543 + y
        · rw [if_pos q, if_pos (by omega)]
        · rw [if_neg q, if_neg (by omega)]
  · intro m Y ⟨y1, y2, y3⟩
    have e40 : Y.1 0 40 = nI k := by rw [y2 0 (by omega)]; exact h
    refine ⟨Y, ?_, y1, y2, fun x => ?_⟩
    · rw [f_X11_plan_81, e40]
      simp (disch := omega) only [nI_lm, lt_nn, if_pos, rt]
    · rw [y3]
      by_cases q : 543 ≤ x ∧ x < 543 + (4 * k + 1)
      · rw [if_pos q, if_pos (by omega)]
      · rw [if_neg q, if_neg (by omega)]
end PLAN4
