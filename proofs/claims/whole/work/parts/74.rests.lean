/-! rests as a call. -/
section RSU
variable {N : Nat}
theorem tryAll_eq {n : BN} {C : CM} {X : XM} {m : Nat} (hN : 2000 ≤ N) (hm : m < 256) (hfp : f_X10_freePlots N C = some (nI m, C)) {Y : XM} (hY : Y.1 2 = X.1 2) (hXB : XB X Y) (hwv : SvR N n C X m) :
    ∃ D, f_X10_tryAllPlots N C = some (0, D) ∧ FG C D ∧ D.1 9 0 0 1 = nI (cnR m (wvC N C) 256) ∧ (∀ s, s < 256 → RsP m (wvC N C) s → D.1 9 0 1 (cnR m (wvC N C) s) = nI s) := by
  unfold f_X10_tryAllPlots
  rw [hfp, cal_some]
  have L1 : ∃ D, f_X10_tryAllPlots_7 N (nI m) N 0 C = cal (f_X4_findRests N (nI m) D) (fun _ C3 => rt 0 C3) ∧ FG C D ∧ ∀ t, t < 256 → okS m t → ∀ o, o < 8 → D.1 9 0 2 (8 * t + o) = wvC N C t o := by
    refine loop1 (fun mm i D => f_X10_tryAllPlots_7 N (nI m) mm i D) (fun s D => FG C D ∧ ∀ t, t < s → okS m t → ∀ o, o < 8 → D.1 9 0 2 (8 * t + o) = wvC N C t o)
      (fun y => ∃ D, y = cal (f_X4_findRests N (nI m) D) (fun _ C3 => rt 0 C3) ∧ FG C D ∧ ∀ t, t < 256 → okS m t → ∀ o, o < 8 → D.1 9 0 2 (8 * t + o) = wvC N C t o) 256 ?_ ?_ 256 0 N C (by omega) (by omega) ⟨⟨rfl, fun _ _ _ _ _ _ _ => rfl⟩, fun t h => by omega⟩
    · rintro mm s D hs ⟨hD, hr⟩
      refine Or.inl ?_
      rw [f_X10_tryAllPlots_7]
      simp (disch := omega) only [le_ln, if_neg, nI_al]
      by_cases hok : nI s &&& (nI m ^^^ (-1)) = 0
      · rw [if_pos hok]
        obtain ⟨D', Y1, j, Y', p1, -, -, p4, -, p6, -, -⟩ := hwv s hok D Y hD hY hXB
        obtain ⟨E, e1, e2, e3, e4⟩ := note_eq hN hs p4
        rw [p1, cal_some, e1, cal_some]
        have hE : FG C E := by
          have := fg_ft hD p6
          exact ⟨e2.trans this.1, fun k i j x a1 a2 a3 => (e3 k i j x (by omega)).trans (this.2 k i j x a1 a2 a3)⟩
        refine ⟨E, rfl, hE, fun t ht hokt o ho => ?_⟩
        by_cases e : t = s
        · rw [e]; exact e4 o ho
        · rw [e3 9 0 2 _ (by omega), p6.2 9 0 2 _ (by omega) (by omega)]
          exact hr t (by omega) hokt o ho
      · rw [if_neg hok]
        refine ⟨D, rfl, hD, fun t ht hokt o ho => ?_⟩
        by_cases e : t = s
        · rw [e] at hokt
          exact absurd hokt hok
        · exact hr t (by omega) hokt o ho
    · rintro mm D ⟨hD, hr⟩
      refine ⟨D, ?_, hD, hr⟩
      simp (disch := omega) only [f_X10_tryAllPlots_7, le_ln, if_pos]
  obtain ⟨D, l1, hD, hr⟩ := L1
  rw [l1]
  unfold f_X4_findRests
  rw [bnd_v]
  have L2 : ∃ E, f_X4_findRests_7 N (nI m) N 0 (stC D 9 0 0 1 0) = some (0, E) ∧ FG C E ∧ E.1 9 0 0 1 = nI (cnR m (wvC N C) 256) ∧ (∀ s, s < 256 → RsP m (wvC N C) s → E.1 9 0 1 (cnR m (wvC N C) s) = nI s) := by
    refine loop1 (fun mm i D => f_X4_findRests_7 N (nI m) mm i D) (fun s E => FG C E ∧ E.1 9 0 2 = D.1 9 0 2 ∧ E.1 9 0 0 1 = nI (cnR m (wvC N C) s) ∧ ∀ t, t < s → RsP m (wvC N C) t → E.1 9 0 1 (cnR m (wvC N C) t) = nI t)
      (fun y => ∃ E, y = some (0, E) ∧ FG C E ∧ E.1 9 0 0 1 = nI (cnR m (wvC N C) 256) ∧ (∀ s, s < 256 → RsP m (wvC N C) s → E.1 9 0 1 (cnR m (wvC N C) s) = nI s)) 256 ?_ ?_ 256 0 N _ (by omega) (by omega) ⟨fg_9 hD, stC_row (by omega), stC_at, fun t h => by omega⟩
    · rintro mm s E hs ⟨hE, e2, e1, er⟩
      refine Or.inl ?_
      rw [f_X4_findRests_7]
      simp (disch := omega) only [le_ln, if_neg, nI_al]
      have hcl := cnR_le m (wvC N C) s
      by_cases hok : nI s &&& (nI m ^^^ (-1)) = 0
      · have hR := isRest_eq (wv := wvC N C) (D := E) hN hm hs hok (fun t ht hokt o ho => by rw [e2]; exact hr t ht hokt o ho)
        rw [if_pos hok, hR, cal_some]
        simp only [bI0]
        by_cases hP : RsP m (wvC N C) s
        · rw [tB_t hP, if_neg (by decide), e1]
          simp (disch := omega) only [stA_nI, bnd_v, stC_row, e1, nI_al]
          refine ⟨_, rfl, fg_9 (fg_9 hE), ?_, ?_, fun t ht hPt => ?_⟩
          · rw [stC_row (by omega), stC_row (by omega)]
            exact e2
          · rw [stC_at, cnR_s, tB_t hP]
            rfl
          · rw [stC_row (by omega), stC_if]
            by_cases e : t = s
            · rw [e, if_pos rfl]
            · have hlt : cnR m (wvC N C) t < cnR m (wvC N C) s := by
                have h1 : cnR m (wvC N C) (t + 1) = cnR m (wvC N C) t + 1 := by rw [cnR_s, tB_t hPt]; rfl
                have h2 : ∀ d, cnR m (wvC N C) (t + 1) ≤ cnR m (wvC N C) (t + 1 + d) := by
                  intro d
                  induction d with
                  | zero => exact Nat.le_refl _
                  | succ d ih =>
                    have := cnR_s m (wvC N C) (t + 1 + d)
                    have e3 : t + 1 + (d + 1) = t + 1 + d + 1 := rfl
                    rw [e3]
                    omega
                have := h2 (s - (t + 1))
                rw [show t + 1 + (s - (t + 1)) = s by omega] at this
                omega
              rw [if_neg (by omega)]
              exact er t (by omega) hPt
        · rw [tB_f hP, if_pos rfl]
          refine ⟨E, rfl, hE, e2, ?_, fun t ht hPt => ?_⟩
          · rw [cnR_s, tB_f hP]
            exact e1
          · by_cases e : t = s
            · rw [e] at hPt
              exact absurd hPt hP
            · exact er t (by omega) hPt
      · rw [if_neg hok]
        have hP : ¬ RsP m (wvC N C) s := fun h => hok h.1
        refine ⟨E, rfl, hE, e2, ?_, fun t ht hPt => ?_⟩
        · rw [cnR_s, tB_f hP]
          exact e1
        · by_cases e : t = s
          · rw [e] at hPt
            exact absurd hPt hP
          · exact er t (by omega) hPt
    · rintro mm E ⟨hE, e2, e1, er⟩
      refine ⟨stC E 9 0 0 0 1, ?_, fg_9 hE, ?_, fun s hs hP => ?_⟩
      · simp (disch := omega) only [f_X4_findRests_7, le_ln, if_pos, bnd_v, rt]
      · rw [stC_ne (by omega)]
        exact e1
      · rw [stC_row (by omega)]
        exact er s hs hP
  obtain ⟨E, a1, a2, a3, a4⟩ := L2
  rw [a1, cal_some]
  exact ⟨E, rfl, a2, a3, a4⟩
theorem xb_11 {X Y : XM} {x : Nat} {v : Int32} (h : XB X Y) : XB X (stX Y 11 x v) := by
  obtain ⟨h1, h2, h3, h4, h5⟩ := h
  refine ⟨h1, fun x hx => ?_, fun j hj h2' => ?_, fun x hx => ?_, fun x hx => ?_⟩
  · rw [stX_row (by omega)]; exact h2 x hx
  · rw [stX_row (fun e => by subst e; cases hj)]; exact h3 j hj h2'
  · rw [stX_row (by omega)]; exact h4 x hx
  · rw [stX_row (by omega)]; exact h5 x hx
/-- the answer of rests -/
theorem restsX {n : BN} {C : CM} {X : XM} {m : Nat} (hN : 2000 ≤ N) (hH : HereB C X n) (hm : m < 256) (hP : PlR n C X m) (hpl : ∀ Y : XM, Y.1 2 = X.1 2 → f_X11_plotters N Y = some (nI m, Y)) (hwv : SvR N n C X m) (a : Int32) :
    ∃ Z, XE X Z ∧ ((a < -1 ∧ f_X11_rests N a X = some (-1, Z)) ∨ (a = -1 ∧ f_X11_rests N a X = some (nI (cnR m (wvC N C) 256), Z)) ∨ (∃ k s, a = nI k ∧ k < 2147483648 ∧ s < 256 ∧ RsP m (wvC N C) s ∧ cnR m (wvC N C) s = k ∧ f_X11_rests N a X = some (nI s, Z)) ∨ (∃ k, a = nI k ∧ k < 2147483648 ∧ (∀ s, s < 256 → RsP m (wvC N C) s → cnR m (wvC N C) s ≠ k) ∧ f_X11_rests N a X = some (-1, Z))) := by
  have bd := bk_bd hH.1
  unfold f_X11_rests
  rw [bnd_v]
  have hx0 := xe_0 X 0
  have x02 : (stX X 0 0 0).1 2 = X.1 2 := stX_row (by omega)
  have xb0 : ∀ Y, XB (stX X 0 0 0) Y → XB X Y := fun Y h => by
    obtain ⟨h1, h2, h3, h4, h5⟩ := h
    refine ⟨h1, fun x hx => ?_, fun j hj hj2 => ?_, fun x hx => ?_, fun x hx => ?_⟩
    · rw [h2 x hx, stX_ne (fun e => by subst e; cases hx)]
    · rw [h3 j hj hj2, stX_row (fun e => by subst e; cases hj)]
    · rw [h4 x hx, x02]
    · rw [h5 x hx, x02]
  by_cases hlt : (-1 : Int32) ≤ a
  rotate_left
  · rw [if_neg hlt]
    exact ⟨_, hx0, Or.inl ⟨Int32.not_le.mp hlt, rfl⟩⟩
  rw [if_pos hlt, hpl _ x02, cal_some]
  obtain ⟨Y0, y1, y2, y3⟩ := xb_start N (stX X 0 0 0) hN
  rw [y1, cal_some]
  have hXB0 := xb0 Y0 y2
  have hY0 : Y0.1 2 = X.1 2 := y3.trans x02
  -- what each set brings
  have L1 : ∃ Y, f_X11_rests_23 N a (nI m) N 0 Y0 = f_X11_rests_104 N a (nI m) N 0 0 Y ∧ XE X Y ∧ Y.1 2 = X.1 2 ∧ ∀ t, t ≤ m → okS m t → ∀ o, o < n.2.2.1 → Y.1 11 (8 * t + o) = wvC N C t o := by
    have hE0 : XE X Y0 := by
      obtain ⟨h1, h2, h3, h4, h5⟩ := hXB0
      refine ⟨h2, fun j hj => ?_, fun x _ => by rw [h1], by rw [h1], by rw [h1]⟩
      by_cases e : j = 2
      · subst e
        exact hY0
      · exact h3 j hj e
    refine loop1 (fun mm i Y => f_X11_rests_23 N a (nI m) mm i Y) (fun s Y => XB X Y ∧ Y.1 2 = X.1 2 ∧ XE X Y ∧ ∀ t, t < s → okS m t → ∀ o, o < n.2.2.1 → Y.1 11 (8 * t + o) = wvC N C t o)
      (fun y => ∃ Y, y = f_X11_rests_104 N a (nI m) N 0 0 Y ∧ XE X Y ∧ Y.1 2 = X.1 2 ∧ ∀ t, t ≤ m → okS m t → ∀ o, o < n.2.2.1 → Y.1 11 (8 * t + o) = wvC N C t o) (m + 1) ?_ ?_ (m + 1) 0 N Y0 (by omega) (by omega) ⟨hXB0, hY0, hE0, fun t h => by omega⟩
    · rintro mm s Y hs ⟨hXB, hY, hE, hr⟩
      refine Or.inl ?_
      rw [f_X11_rests_23]
      simp (disch := omega) only [lt_nn, if_neg]
      by_cases hok : nI s &&& (nI m ^^^ (-1)) = 0
      · rw [if_pos hok]
        obtain ⟨D', Y1, j, Y', -, p2, p3, -, p5, -, p7, p8⟩ := hwv s hok C Y ⟨rfl, fun _ _ _ _ _ _ _ => rfl⟩ hY hXB
        rw [p2, cal_some, p3, cal_some]
        have y11 : Y'.1 2 2 = nI n.2.2.1 := (p7.2.2.2.2 2 (by omega)).trans (bk_o hH.1).2
        have L3 : ∃ W, f_X11_rests_54 N (fun z3 c => f_X11_rests_23 N a (nI m) mm z3 c) a (nI m) (nI s) N 0 Y' = cal (f_X11_back N W) (fun _ X4 => f_X11_rests_23 N a (nI m) mm (nI (s + 1)) X4) ∧ XB X W ∧ (∀ x, ¬ (8 * s ≤ x ∧ x < 8 * s + 8) → W.1 11 x = Y'.1 11 x) ∧ ∀ o, o < n.2.2.1 → W.1 11 (8 * s + o) = wvC N C s o := by
          refine loop1 (fun m2 i W => f_X11_rests_54 N (fun z3 c => f_X11_rests_23 N a (nI m) mm z3 c) a (nI m) (nI s) m2 i W) (fun o W => XB X W ∧ (∀ j, j ≠ 11 → W.1 j = Y'.1 j) ∧ (∀ x, ¬ (8 * s ≤ x ∧ x < 8 * s + 8) → W.1 11 x = Y'.1 11 x) ∧ ∀ o', o' < o → W.1 11 (8 * s + o') = wvC N C s o')
            (fun y => ∃ W, y = cal (f_X11_back N W) (fun _ X4 => f_X11_rests_23 N a (nI m) mm (nI (s + 1)) X4) ∧ XB X W ∧ (∀ x, ¬ (8 * s ≤ x ∧ x < 8 * s + 8) → W.1 11 x = Y'.1 11 x) ∧ ∀ o, o < n.2.2.1 → W.1 11 (8 * s + o) = wvC N C s o) n.2.2.1 ?_ ?_ n.2.2.1 0 N Y' (by omega) (by omega) ⟨p7, fun _ _ => rfl, fun _ _ => rfl, fun o h => by omega⟩
          · rintro m2 o W ho ⟨hW, hWr, hW11, hWv⟩
            have x2 : W.1 2 2 = nI n.2.2.1 := by rw [hWr 2 (by omega)]; exact y11
            have hwW : f_X11_wealth (nI o) W = some (wvC N C s o, W) := by
              have := p5 o (by omega)
              unfold f_X11_wealth at this ⊢
              simp (disch := omega) only [nI_la, ldA_nI] at this ⊢
              rw [hWr 2 (by omega)]
              have e := (Prod.mk.inj (Option.some.inj this)).1
              rw [e]
              rfl
            refine Or.inl ⟨stX W 11 (8 * s + o) (wvC N C s o), ?_, xb_11 hW, fun j hj => (stX_row hj).trans (hWr j hj), fun x hx => ?_, fun o' ho' => ?_⟩
            · simp (disch := omega) only [f_X11_rests_54, ldA_l, x2, le_nn, if_neg, hwW, cal_some, nI_lm, nI_add, sxA_nI, nI_al]
            · rw [stX_ne (by omega)]
              exact hW11 x hx
            · rw [stX_if]
              by_cases e : o' = o
              · rw [if_pos (by omega), e]
              · rw [if_neg (by omega)]
                exact hWv o' (by omega)
          · rintro m2 W ⟨hW, hWr, hW11, hWv⟩
            have x2 : W.1 2 2 = nI n.2.2.1 := by rw [hWr 2 (by omega)]; exact y11
            refine ⟨W, ?_, hW, hW11, hWv⟩
            simp (disch := omega) only [f_X11_rests_54, ldA_l, x2, le_nn, if_pos, nI_al]
        obtain ⟨W, w1, w2, w3, w4⟩ := L3
        rw [w1]
        obtain ⟨Z, z1, z2, z3, z4, -⟩ := xb_back hN w2
        rw [z1, cal_some]
        have eZ : Z.1 11 = W.1 11 := by
          have := back_eq N W hN
          rw [z1] at this
          have e := (Prod.mk.inj (Option.some.inj this)).2
          rw [e]
          exact rwX_out (by omega)
        have eY : ∀ x, Y'.1 11 x = Y.1 11 x := by
          intro x
          exact p8.2 11 x (by omega) (by omega) (by omega) (by omega)
        refine ⟨Z, rfl, z3, z4, z2, fun t ht hokt o ho => ?_⟩
        rw [eZ]
        by_cases e : t = s
        · rw [e]; exact w4 o ho
        · rw [w3 _ (by omega), eY]
          exact hr t (by omega) hokt o ho
      · rw [if_neg hok]
        refine ⟨Y, by rw [nI_al], hXB, hY, hE, fun t ht hokt o ho => ?_⟩
        by_cases e : t = s
        · rw [e] at hokt
          exact absurd hokt hok
        · exact hr t (by omega) hokt o ho
    · rintro mm Y ⟨hXB, hY, hE, hr⟩
      refine ⟨Y, ?_, hE, hY, fun t ht => hr t (by omega)⟩
      simp (disch := omega) only [f_X11_rests_23, lt_nn, if_pos]
  obtain ⟨Y, l1, hE, hY, hr⟩ := L1
  rw [l1]
  have x2 : Y.1 2 2 = nI n.2.2.1 := by rw [hY]; exact (bk_o hH.1).2
  -- whether a set is at rest
  have inner : ∀ (K : Int32 → Int32 → XM → Option (Int32 × XM)) (a3 : Int32) (s : Nat), s ≤ m → (if nI s &&& (nI m ^^^ (-1)) = 0 then f_X11_rests_124 N K a (nI m) a3 (nI s) 1 Y else f_X11_rests_124 N K a (nI m) a3 (nI s) 0 Y) = f_X11_rests_201 N K a (nI m) a3 (nI s) (bI (tB (RsP m (wvC N C) s))) Y := by
    intro K a3 s hs
    unfold f_X11_rests_124
    by_cases hok : nI s &&& (nI m ^^^ (-1)) = 0
    · rw [if_pos hok]
      refine loop1 (fun m2 i q => f_X11_rests_129 N K a (nI m) a3 (nI s) m2 q i Y) (fun o q => (q = 1 ∧ ∀ o', o' < o → bt (nI m) o' = 1 → wvC N C (s ^^^ 2 ^ o') o' ≤ wvC N C s o') ∨ (q = 0 ∧ ¬ RsP m (wvC N C) s)) (fun y => y = f_X11_rests_201 N K a (nI m) a3 (nI s) (bI (tB (RsP m (wvC N C) s))) Y) n.2.2.1 ?_ ?_ n.2.2.1 0 N 1 (by omega) (by omega) (Or.inl ⟨rfl, fun o h => by omega⟩)
      · rintro m2 o q ho (⟨rfl, hpr⟩ | ⟨rfl, hnR⟩)
        rotate_left
        · refine Or.inr ?_
          rw [f_X11_rests_129, tB_f hnR]
          simp (disch := omega) only [ldA_l, x2, if_true, ite_self]
          rfl
        obtain ⟨z1, z2⟩ := xor_t s (by omega) o (by omega)
        rw [f_X11_rests_129]
        simp (disch := omega) only [ldA_l, x2, le_nn, if_neg, bitOf_eq, cal_some, f_X11_rests_188, f_X11_rests_193, z1, nI_lm, nI_add, nI_al]
        rw [if_neg i1n]
        rcases bt01 (nI m) o with hb | hb
        · rw [hb, if_pos rfl]
          refine Or.inl ⟨1, rfl, Or.inl ⟨rfl, fun o' ho' hb' => ?_⟩⟩
          by_cases e : o' = o
          · rw [e, hb] at hb'
            exact absurd hb' (by decide)
          · exact hpr o' (by omega) hb'
        · have hokx := ok_xor (show s < 256 by omega) (show o < 8 by omega) hok hb
          have v1 := hr _ (ok_le hm z2 hokx) hokx o ho
          have v2 := hr s hs hok o ho
          rw [hb, if_neg i1n]
          simp (disch := omega) only [ldA_nI, v1, v2]
          by_cases hle : wvC N C (s ^^^ 2 ^ o) o ≤ wvC N C s o
          · rw [if_neg (Int32.not_lt.mpr hle)]
            refine Or.inl ⟨1, rfl, Or.inl ⟨rfl, fun o' ho' hb' => ?_⟩⟩
            by_cases e : o' = o
            · rw [e]; exact hle
            · exact hpr o' (by omega) hb'
          · rw [if_pos (Int32.not_le.mp hle)]
            exact Or.inl ⟨0, rfl, Or.inr ⟨rfl, fun h => hle (h.2 o (by omega) hb)⟩⟩
      · rintro m2 q (⟨rfl, hpr⟩ | ⟨rfl, hnR⟩)
        rotate_left
        · rw [f_X11_rests_129, tB_f hnR]
          simp (disch := omega) only [ldA_l, x2, if_true, ite_self]
          rfl
        have hR : RsP m (wvC N C) s := ⟨hok, fun o ho hb => hpr o (hP o ho hb).1 hb⟩
        rw [tB_t hR, f_X11_rests_129]
        simp (disch := omega) only [ldA_l, x2, le_nn, if_pos]
        rfl
    · rw [if_neg hok, tB_f (fun h => hok h.1)]
      obtain ⟨m2, hm2⟩ : ∃ m2, N = m2 + 1 := ⟨N - 1, by omega⟩
      have : ∀ m2, f_X11_rests_129 N K a (nI m) a3 (nI s) (m2 + 1) 0 0 Y = f_X11_rests_201 N K a (nI m) a3 (nI s) 0 Y := fun m2 => by
        rw [f_X11_rests_129]
        simp (disch := omega) only [ldA_l, x2, if_true, ite_self]
      rw [hm2] at this ⊢
      exact this m2
  have hgt : ∀ t, m < t → t < 256 → ¬ RsP m (wvC N C) t := fun t h1 h2 h3 => by
    have := ok_le hm h2 h3.1
    omega
  have hcst : ∀ d, m + 1 + d ≤ 256 → cnR m (wvC N C) (m + 1 + d) = cnR m (wvC N C) (m + 1) := by
    intro d
    induction d with
    | zero => intro _; rfl
    | succ d ih =>
      intro h
      rw [show m + 1 + (d + 1) = m + 1 + d + 1 by omega, cnR_s, tB_f (hgt _ (by omega) (by omega)), ih (by omega)]
      rfl
  have hc256 : cnR m (wvC N C) 256 = cnR m (wvC N C) (m + 1) := by
    have := hcst (256 - (m + 1)) (by omega)
    rwa [show m + 1 + (256 - (m + 1)) = 256 by omega] at this
  refine loop1 (fun m2 i q => f_X11_rests_104 N a (nI m) m2 q i Y) (fun s q => q = nI (cnR m (wvC N C) s) ∧ ∀ t, t < s → RsP m (wvC N C) t → a ≠ nI (cnR m (wvC N C) t))
    (fun y => ∃ Z, XE X Z ∧ ((a < -1 ∧ y = some (-1, Z)) ∨ (a = -1 ∧ y = some (nI (cnR m (wvC N C) 256), Z)) ∨ (∃ k s, a = nI k ∧ k < 2147483648 ∧ s < 256 ∧ RsP m (wvC N C) s ∧ cnR m (wvC N C) s = k ∧ y = some (nI s, Z)) ∨ (∃ k, a = nI k ∧ k < 2147483648 ∧ (∀ s, s < 256 → RsP m (wvC N C) s → cnR m (wvC N C) s ≠ k) ∧ y = some (-1, Z)))) (m + 1) ?_ ?_ (m + 1) 0 N 0 (by omega) (by omega) ⟨rfl, fun t h => by omega⟩
  · rintro m2 s q hs ⟨rfl, hne⟩
    have hcl := cnR_le m (wvC N C) s
    rw [f_X11_rests_104]
    simp (disch := omega) only [lt_nn, if_neg]
    rw [inner _ _ s (by omega)]
    unfold f_X11_rests_201
    simp only [bI0, nI_al]
    by_cases hR : RsP m (wvC N C) s
    · rw [tB_t hR, if_neg (by decide)]
      by_cases ha : nI (cnR m (wvC N C) s) = a
      · rw [if_pos ha]
        exact Or.inr ⟨Y, hE, Or.inr (Or.inr (Or.inl ⟨_, s, ha.symm, by omega, by omega, hR, rfl, rfl⟩))⟩
      · rw [if_neg ha]
        refine Or.inl ⟨_, rfl, ?_, fun t ht hRt => ?_⟩
        · rw [cnR_s, tB_t hR]
          rfl
        · by_cases e : t = s
          · rw [e]; exact fun h => ha h.symm
          · exact hne t (by omega) hRt
    · rw [tB_f hR, if_pos rfl]
      refine Or.inl ⟨_, rfl, ?_, fun t ht hRt => ?_⟩
      · rw [cnR_s, tB_f hR]
        rfl
      · by_cases e : t = s
        · rw [e] at hRt
          exact absurd hRt hR
        · exact hne t (by omega) hRt
  · rintro m2 q ⟨rfl, hne⟩
    refine ⟨Y, hE, ?_⟩
    rw [f_X11_rests_104]
    simp (disch := omega) only [lt_nn, if_pos]
    by_cases ha : a = -1
    · rw [if_pos ha]
      refine Or.inr (Or.inl ⟨ha, ?_⟩)
      rw [hc256]
      rfl
    · rw [if_neg ha]
      rcases int_cases a with h | ⟨k, hk, rfl⟩
      · refine Or.inl ⟨?_, rfl⟩
        have h1 : a ≤ -1 := by
          rw [Int32.lt_iff_toInt_lt] at h
          rw [Int32.le_iff_toInt_le]
          have e0 : (0 : Int32).toInt = 0 := by decide
          have e1 : (-1 : Int32).toInt = -1 := by decide
          omega
        exact absurd (Int32.le_antisymm h1 hlt) ha
      · refine Or.inr (Or.inr (Or.inr ⟨k, rfl, hk, fun s hs hR e => ?_, rfl⟩))
        have hsm : s ≤ m := ok_le hm hs hR.1
        exact hne s (by omega) hR (by rw [e])
theorem cn_ex {m : Nat} {wv : Nat → Nat → Int32} {k : Nat} : ∀ K, k < cnR m wv K → ∃ s, s < K ∧ RsP m wv s ∧ cnR m wv s = k := by
  intro K
  induction K with
  | zero => intro h; exact absurd h (Nat.not_lt_zero _)
  | succ K ih =>
    intro h
    by_cases hk : k < cnR m wv K
    · obtain ⟨s, h1, h2, h3⟩ := ih hk
      exact ⟨s, by omega, h2, h3⟩
    · rw [cnR_s] at h
      by_cases hR : RsP m wv K
      · rw [tB_t hR] at h
        have h : k < cnR m wv K + 1 := h
        exact ⟨K, by omega, hR, by omega⟩
      · rw [tB_f hR] at h
        exact absurd h hk
theorem rests14_eq {D : CM} {c : Nat} (hc : c ≤ 256) (h : D.1 9 0 0 1 = nI c) (a : Int32) : f_X10_rests_14 N a D = some (restV (D.1 9 0 0 1) (D.1 9 0 1) a, D) := by
  unfold f_X10_rests_14 restV
  by_cases h1 : a = -1
  · rw [if_pos h1, if_pos h1]
    rfl
  rw [if_neg h1, if_neg h1]
  rcases int_cases a with h2 | ⟨k, hk, rfl⟩
  · rw [if_pos h2, if_pos h2]
    rfl
  · rw [if_neg (nI_nneg hk), if_neg (nI_nneg hk), h]
    simp (disch := omega) only [le_nn, nI_clamp]
    by_cases h3 : c ≤ k
    · rw [if_pos h3, if_pos h3]
      rfl
    · rw [if_neg h3, if_neg h3, ldA_nI (by omega) (by omega)]
      rfl
theorem op_rests (hN : 2000 ≤ N) (b1 : Int32) : OP (Rel N) (f_X10_rests N b1) (f_X11_rests N b1) := by
  intro C X hR
  unfold f_X10_rests
  by_cases h0 : C.1 9 0 0 0 = 0
  rotate_left
  · obtain ⟨-, -, hG, -⟩ := id hR
    obtain ⟨⟨c, hc, c1⟩, hg⟩ := hG h0
    obtain ⟨Y', y1, y2⟩ := hg b1 X rfl (fun _ _ => rfl)
    rw [if_neg h0, rests14_eq hc c1, y1]
    exact ⟨_, _, _, rfl, rfl, rel_xe hR y2⟩
  rw [if_pos h0]
  obtain ⟨⟨n, hH, hP⟩, hT, -, hRs⟩ := id hR
  have hb := (b_lt hRs.1).1
  obtain ⟨m, hm, hm1, hm2⟩ := plots_bits (D := C) (Y := X) hN (hb_of hH) hb
  have hSv := set_val hN (hb_of hH) hb hm1
  obtain ⟨Y0, y1, y2, y3⟩ := xb_start N X hN
  obtain ⟨D, d1, hD, d2, d3⟩ := tryAll_eq (n := n) hN hm (hm2 C X (FT.rf C) rfl).1 y3 y2 hSv
  have hc := cnR_le m (wvC N C) 256
  rw [d1, cal_some, rests14_eq hc d2]
  have hans : ∀ (a : Int32) (Y : XM), Y.1 2 = X.1 2 → (∀ x, x < 8 → Y.2 5 x = X.2 5 x) → ∃ Y', f_X11_rests N a Y = some (restV (D.1 9 0 0 1) (D.1 9 0 1) a, Y') ∧ XE Y Y' := by
    intro a Y hY hn
    have hHY : HereR C Y n := by
      unfold HereR
      rw [hY]
      exact whR_congr hH (fun _ _ => rfl) hn
    have hPY : PlR n C Y m := fun o ho hbt => by rw [hY]; exact hm1 o ho hbt
    obtain ⟨Z, z1, z2⟩ := restsX hN (hb_of hHY) hm hPY (fun W hW => (hm2 C W (FT.rf C) (hW.trans hY)).2) (set_val hN (hb_of hHY) hb hPY) a
    refine ⟨Z, ?_, z1⟩
    unfold restV
    rcases z2 with ⟨h1, h2⟩ | ⟨h1, h2⟩ | ⟨k, s, rfl, hk, hs, hRs, hks, h2⟩ | ⟨k, rfl, hk, hne, h2⟩
    · rw [h2, if_neg (fun e => by rw [e] at h1; exact absurd h1 (by decide)), if_pos (Int32.lt_trans h1 (by decide))]
    · rw [h2, if_pos h1, d2]
    · have hlt : k < cnR m (wvC N C) 256 := by
        have h1 : cnR m (wvC N C) (s + 1) = cnR m (wvC N C) s + 1 := by rw [cnR_s, tB_t hRs]; rfl
        have h3 : ∀ d, cnR m (wvC N C) (s + 1) ≤ cnR m (wvC N C) (s + 1 + d) := by
          intro d
          induction d with
          | zero => exact Nat.le_refl _
          | succ d ih =>
            have := cnR_s m (wvC N C) (s + 1 + d)
            have e3 : s + 1 + (d + 1) = s + 1 + d + 1 := rfl
            rw [e3]
            omega
        have := h3 (256 - (s + 1))
        rw [show s + 1 + (256 - (s + 1)) = 256 by omega] at this
        omega
      rw [h2, if_neg (fun e => nI_nneg hk (by rw [e]; decide)), if_neg (nI_nneg hk), d2]
      simp (disch := omega) only [le_nn, if_neg, nI_clamp]
      rw [← hks, d3 s hs hRs]
    · rw [h2, if_neg (fun e => nI_nneg hk (by rw [e]; decide)), if_neg (nI_nneg hk), d2]
      have hle : cnR m (wvC N C) 256 ≤ k := by
        by_cases h : cnR m (wvC N C) 256 ≤ k
        · exact h
        · obtain ⟨s, s1, s2, s3⟩ := cn_ex (m := m) (wv := wvC N C) (k := k) 256 (by omega)
          exact absurd s3 (hne s s1 s2)
      simp (disch := omega) only [le_nn, if_pos]
  obtain ⟨X', x1, x2⟩ := hans b1 X rfl (fun _ _ => rfl)
  rw [x1]
  refine ⟨_, _, _, rfl, rfl, rel_xe ?_ x2⟩
  have e0 : D.1 0 0 = C.1 0 0 := funext fun j => funext fun x => hD.2 0 0 j x (by omega) (by omega) (by omega)
  have e3 : ∀ i, D.1 3 i = C.1 3 i := fun i => funext fun j => funext fun x => hD.2 3 i j x (by omega) (by omega) (by omega)
  have e5 : ∀ i, D.1 5 i = C.1 5 i := fun i => funext fun j => funext fun x => hD.2 5 i j x (by omega) (by omega) (by omega)
  have e6 : ∀ i, D.1 6 i = C.1 6 i := fun i => funext fun j => funext fun x => hD.2 6 i j x (by omega) (by omega) (by omega)
  have e4 : ∀ i, i ≠ 3 → D.1 4 i = C.1 4 i := fun i hi => funext fun j => funext fun x => hD.2 4 i j x (by omega) (by omega) (by omega)
  have e22 : ∀ i, D.1 2 i = C.1 2 i := fun i => funext fun j => funext fun x => hD.2 2 i j x (by omega) (by omega) (by omega)
  have e7 : D.1 7 0 0 = C.1 7 0 0 := funext fun x => hD.2 7 0 0 x (by omega) (by omega) (by omega)
  have bd := bk_bd hH.1
  obtain ⟨g1, g2, g3, g4, g5, g6, g7⟩ := hRs
  refine ⟨⟨n, here_fg hH hD, pastR_mono ⟨bd.2.2.1, bd.2.2.2⟩ hP e7 (fun i hi => e4 i (by omega)) rfl rfl⟩, ?_, fun _ => ⟨⟨_, hc, d2⟩, hans⟩, ?_, ?_, ?_, ?_, ?_, ?_, g7⟩
  · unfold TapeR
    rw [e0]
    exact hT
  · unfold RefR
    rw [hD.1]
    exact g1
  · intro k hk
    unfold ImgR
    rw [e22, e3, e5, e6, e4 _ (by omega)]
    exact g2 k hk
  · unfold MoreR
    rw [e0]
    exact g3
  · unfold PairR
    rw [e0]
    exact g4
  · unfold JudR
    rw [e0]
    exact g5
  · rw [e0]
    exact g6
end RSU
