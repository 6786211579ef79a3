/-! Quarters that go by, told or drawn, both sides. -/
def LtR (r : Nat) (C : CM) (X : XM) : Prop := ∃ l, l ≤ 8 ∧ X.1 2 541 = nI l ∧ C.1 4 r 0 4 = nI l - 1
def QI (b r : Nat) (B : Nat → Nat → Int32) (s th : Nat → Int32) (C0 : CM) (X0 : XM) (g q : Nat) (C : CM) (X : XM) : Prop :=
  WI b r B s th C0 X0 C X ∧ Rng (g + 100000 * q) (C.1 4 r) ∧ C.1 4 r 0 0 = nI q ∧ LtR r C X
/-- where a vane points behind a quarter -/
def ptQ (n : BN) (B : Nat → Nat → Int32) (th : Nat → Int32) (P : Nat → Nat → Int32) (q o : Nat) : Int32 := if 0 < (B 5 q).toNatClampNeg then ptN n B th P (B 4 q).toNatClampNeg (B 5 q).toNatClampNeg o else P 4 o
theorem rng_mono {G G' : Nat} {P : Nat → Nat → Int32} (h : Rng G P) (hG : G ≤ G') : Rng G' P := by
  intro o ho
  obtain ⟨⟨v, v1, v2⟩, h2⟩ := h o ho
  exact ⟨⟨v, by omega, v2⟩, h2⟩
theorem nI_m1 (d : Nat) : nI (d + 1) - 1 = nI d := pk_sub (a := d + 1) (b := 1) (by omega)
section PSS
variable {N b r g : Nat} {B : Nat → Nat → Int32} {s th : Nat → Int32} {n : BN} {C0 : CM} {X0 : XM}
theorem quarter_rel {q : Nat} {C : CM} {X : XM} (hN : 2000 ≤ N) (hB : BankR B s n) (hT : ThingR n s (fun k => s (429 + k)) (fun c => s (441 + c)) th) (hg : g ≤ 50000000) (hq : q < 48) (h : QI b r B s th C0 X0 g q C X) :
    ∃ C' X', (∀ m i a3, ¬ (a3 ≤ i) → f_X9_pass_3 N b r a3 (m + 1) i C = f_X9_pass_3 N b r a3 m (i + 1) C') ∧ f_X11_quarter N X = some (0, X') ∧ QI b r B s th C0 X0 g (q + 1) C' X' ∧ (∀ j, (j = 3 ∨ j = 5) → C'.1 4 r j = C.1 4 r j) ∧ (∀ o, o < 8 → C'.1 4 r 4 o = ptQ n B th (C.1 4 r) q o) := by
  obtain ⟨w, hr, h0, hl⟩ := h
  obtain ⟨f, hf, f1, f2, f3⟩ := bk_gust hB q hq
  have c5 : C.1 3 b 5 q = nI f := (congrFun (congrFun w.1 5) q).trans f1
  have x0 : X.1 2 371 = nI q := (wi_S w).2.2.2.symm.trans h0
  have x5 : X.1 2 (223 + q) = nI f := (w.2.1 _ (by omega)).trans f2
  by_cases hf0 : f = 0
  · subst hf0
    obtain ⟨C1, X1, e1, e2, w1, r1, k1, k2, k3⟩ := calm_rel hN hB (show g + 100000 * q ≤ 1000000000 by omega) w hr
    have c00 : C1.1 4 r 0 0 = nI q := (k2 0 (by omega)).trans h0
    have x371 : X1.1 2 371 = nI q := (wi_S w1).2.2.2.symm.trans c00
    refine ⟨stC C1 4 r 0 0 (nI (q + 1)), stX X1 2 371 (nI (q + 1)), ?_, ?_, ⟨wi_sc w1 (by omega), ?_, stC_at, ?_⟩, ?_, ?_⟩
    · intro m i a3 ha
      rw [f_X9_pass_3, if_neg ha, h0]
      simp (disch := omega) only [le_ln, if_neg, ldA_nI, c5]
      rw [if_pos (by decide), e1, cal_some]
      simp only [f_X9_pass_60, bnd_v, c00, nI_al]
    · unfold f_X11_quarter f_X11_quarter_53
      simp (disch := omega) only [ldA_l, x0, nI_la, ldA_nI, x5]
      rw [if_pos (by decide), e2, cal_some]
      simp (disch := omega) only [ldA_l, x371, sxA_l, nI_al, rt]
    · exact rng_mono (rng_c r1 (by omega)) (by omega)
    · obtain ⟨l, l1, l2, l3⟩ := hl
      refine ⟨l, l1, ?_, ?_⟩
      · rw [stX_ne (by omega), k3]
        exact l2
      · rw [stC_ne (by omega), k2 4 (by omega)]
        exact l3
    · intro j hj
      rw [stC_row (by omega), k1 j (by omega)]
    · intro o ho
      rw [stC_row (by omega), k1 4 (by omega)]
      unfold ptQ
      rw [f1, if_neg (by decide)]
  · obtain ⟨d, hd, d1, d2⟩ := f3 (by omega)
    have c4 : C.1 3 b 4 q = nI d := (congrFun (congrFun w.1 4) q).trans d1
    have x4 : X.1 2 (175 + q) = nI d := (w.2.1 _ (by omega)).trans d2
    obtain ⟨C1, X1, e1, e2, w1, r1, k1, k2, k3, k4, k5⟩ := gale_rel hN hB hT (show d < 8 by omega) (show f < 10 by omega) (show g + 100000 * q ≤ 1000000000 by omega) w hr
    have c00 : C1.1 4 r 0 0 = nI q := k3.trans h0
    have x371 : X1.1 2 371 = nI q := (wi_S w1).2.2.2.symm.trans c00
    refine ⟨stC C1 4 r 0 0 (nI (q + 1)), stX X1 2 371 (nI (q + 1)), ?_, ?_, ⟨wi_sc w1 (by omega), ?_, stC_at, ?_⟩, ?_, ?_⟩
    · intro m i a3 ha
      rw [f_X9_pass_3, if_neg ha, h0]
      simp (disch := omega) only [le_ln, le_nl, if_neg, ldA_nI, c5, c4, e1, cal_some, f_X9_pass_60, bnd_v, c00, nI_al]
    · unfold f_X11_quarter f_X11_quarter_53
      simp (disch := omega) only [ldA_l, x0, nI_la, ldA_nI, x5, le_nl, if_neg, x4, e2, cal_some, x371, sxA_l, nI_al, rt]
    · exact rng_mono (rng_c r1 (by omega)) (by omega)
    · refine ⟨d + 1, by omega, ?_, ?_⟩
      · rw [stX_ne (by omega)]
        exact k2
      · rw [stC_ne (by omega), nI_m1]
        exact k1
    · intro j hj
      rw [stC_row (by omega), k4 j (by omega)]
    · intro o ho
      rw [stC_row (by omega), k5 o ho]
      unfold ptQ
      rw [f1, d1, nI_clamp (by omega), nI_clamp (by omega), if_pos (by omega)]
theorem pass_rel {k q : Nat} {C : CM} {X : XM} (hN : 2000 ≤ N) (hB : BankR B s n) (hT : ThingR n s (fun k => s (429 + k)) (fun c => s (441 + c)) th) (hg : g ≤ 50000000) (hk : k ≤ 48) (hq : q ≤ 48) (h : QI b r B s th C0 X0 g q C X) :
    ∃ j C' X', j = min k (48 - q) ∧ f_X9_pass N b r (nI k) C = some (nI j, C') ∧ f_X11_goes N (nI k) X = some (nI j, X') ∧ QI b r B s th C0 X0 g (q + j) C' X' := by
  unfold f_X9_pass f_X11_goes
  refine loop2 (fun m i D => f_X9_pass_3 N b r (nI k) m i D) (fun m i Y => f_X11_goes_2 N (nI k) m i Y) (fun i D Y => q + i ≤ 48 ∧ QI b r B s th C0 X0 g (q + i) D Y)
    (fun y z => ∃ j C' X', j = min k (48 - q) ∧ y = some (nI j, C') ∧ z = some (nI j, X') ∧ QI b r B s th C0 X0 g (q + j) C' X') k ?_ ?_ k 0 N N C X (by omega) (by omega) (by omega) ⟨by omega, h⟩
  · rintro m m' i D Y hi ⟨hqi, hQ⟩
    have x0 : Y.1 2 371 = nI (q + i) := (wi_S hQ.1).2.2.2.symm.trans hQ.2.2.1
    by_cases h48 : q + i = 48
    · refine Or.inr ⟨i, D, Y, by omega, ?_, ?_, hQ⟩
      · have := hQ.2.2.1
        simp (disch := omega) only [f_X9_pass_3, le_nn, if_neg, this, le_ln, if_pos, f_X9_pass_76, rt]
      · simp (disch := omega) only [f_X11_goes_2, le_nn, if_neg, ldA_l, x0, lt_ln, if_pos, f_X11_goes_30, rt]
    · obtain ⟨C1, X1, e1, e2, e3, -, -⟩ := quarter_rel hN hB hT hg (show q + i < 48 by omega) hQ
      refine Or.inl ⟨C1, X1, ?_, ?_, by omega, e3⟩
      · show f_X9_pass_3 N b r (nI k) (m + 1) (nI i) D = f_X9_pass_3 N b r (nI k) m (nI (i + 1)) C1
        rw [e1 m (nI i) (nI k) (by simp (disch := omega) only [le_nn]; omega), nI_al]
      · show f_X11_goes_2 N (nI k) (m' + 1) (nI i) Y = f_X11_goes_2 N (nI k) m' (nI (i + 1)) X1
        simp (disch := omega) only [f_X11_goes_2, le_nn, if_neg, ldA_l, x0, lt_ln, e2, cal_some, nI_al]
  · rintro m m' D Y ⟨hqi, hQ⟩
    refine ⟨k, D, Y, by omega, ?_, ?_, hQ⟩
    · simp (disch := omega) only [f_X9_pass_3, le_nn, if_pos, f_X9_pass_76, rt]
    · simp (disch := omega) only [f_X11_goes_2, le_nn, if_pos, f_X11_goes_30, rt]
theorem u2i (v : UInt32) : v.toInt32 = nI v.toNat := by
  apply Int32.toBitVec_inj.1
  show v.toBitVec = BitVec.ofNat 32 v.toBitVec.toNat
  simp
theorem u8 (x : Int32) : ∃ U, U < 16777216 ∧ (Int32.toUInt32 x >>> (Int32.toUInt32 8 &&& Int32.toUInt32 31)).toInt32 = nI U := by
  refine ⟨(Int32.toUInt32 x >>> (Int32.toUInt32 8 &&& Int32.toUInt32 31)).toNat, ?_, ?_⟩
  · have e : (Int32.toUInt32 8 &&& Int32.toUInt32 31) = (8 : UInt32) := by decide
    rw [e, UInt32.toNat_shiftRight]
    have h := (x.toUInt32).toNat_lt
    have e2 : (8 : UInt32).toNat % 32 = 8 := by decide
    rw [e2, Nat.shiftRight_eq_div_pow]
    omega
  · exact u2i _
def drw (sd : Int32) : Int32 := sd * 1103515245 + 12345
def dru (sd : Int32) : Int32 := (Int32.toUInt32 sd >>> (Int32.toUInt32 8 &&& Int32.toUInt32 31)).toInt32
theorem drawC (C : CM) {k : Nat} (h0 : 0 < k) (hk : k < 2147483648) : ∃ v, v < k ∧ dru (drw (C.1 8 0 0 3)) - dru (drw (C.1 8 0 0 3)) / nI k * nI k = nI v ∧ f_X9_draw (nI k) C = some (nI v, stC C 8 0 0 3 (drw (C.1 8 0 0 3))) := by
  obtain ⟨U, hU, eU⟩ := u8 (drw (C.1 8 0 0 3))
  refine ⟨U % k, Nat.mod_lt _ h0, ?_, ?_⟩
  · unfold dru
    rw [eU, pk_rem (by omega) h0 hk]
  · unfold f_X9_draw
    have e1 : decide (nI k ≠ 0) = true := by
      rw [decide_eq_true_eq]
      simp (disch := omega) only [ne_eq, eq_nl]
      omega
    simp (disch := omega) only [bnd_v, le_nl, if_neg, e1, chk_t, stC_at, rt]
    have e2 : C.1 8 0 0 3 * 1103515245 + 12345 = drw (C.1 8 0 0 3) := rfl
    rw [e2, eU, pk_rem (by omega) h0 hk]
theorem drawX (X : XM) {k : Nat} (h0 : 0 < k) (hk : k < 2147483648) : f_X11_draw (nI k) X = some (dru (drw (X.1 0 39)) - dru (drw (X.1 0 39)) / nI k * nI k, stX X 0 39 (drw (X.1 0 39))) := by
  unfold f_X11_draw
  have e1 : decide (nI k ≠ 0) = true := by
    rw [decide_eq_true_eq]
    simp (disch := omega) only [ne_eq, eq_nl]
    omega
  simp only [bnd_v, e1, chk_t, stX_at, rt]
  rfl
/-- frames that let the seeds go, too -/
def FT (r : Nat) (C C' : CM) : Prop := C'.2 = C.2 ∧ ∀ k i j x, k ≠ 8 → ¬ (k = 4 ∧ i = r) → C'.1 k i j x = C.1 k i j x
def FY (X X' : XM) : Prop := X'.2 = X.2 ∧ ∀ j x, ¬ (j = 0 ∧ (x = 26 ∨ x = 27 ∨ x = 28 ∨ x = 39)) → j ≠ 7 → j ≠ 8 → ¬ (j = 2 ∧ 371 ≤ x ∧ x < 543) → X'.1 j x = X.1 j x
theorem FT.rf (C : CM) : FT r C C := ⟨rfl, fun _ _ _ _ _ _ => rfl⟩
theorem FY.rf (X : XM) : FY X X := ⟨rfl, fun _ _ _ _ _ _ => rfl⟩
theorem FT.trans {C1 C2 C3 : CM} (h1 : FT r C1 C2) (h2 : FT r C2 C3) : FT r C1 C3 := ⟨h2.1.trans h1.1, fun k i j x a c => (h2.2 k i j x a c).trans (h1.2 k i j x a c)⟩
theorem FY.trans {X1 X2 X3 : XM} (h1 : FY X1 X2) (h2 : FY X2 X3) : FY X1 X3 := ⟨h2.1.trans h1.1, fun j x a c d e => (h2.2 j x a c d e).trans (h1.2 j x a c d e)⟩
theorem ft_of {O : Nat} {C C' : CM} (h : FrC O r C C') : FT r C C' := ⟨h.1, fun k i j x a c => h.2 k i j x (by unfold wrC; omega)⟩
theorem fy_of {X X' : XM} (h : FrX X X') : FY X X' := ⟨h.1, fun j x a c d e => h.2 j x (by unfold wrX; omega)⟩
theorem ft_st {C C' : CM} {k i j x : Nat} {v : Int32} (h : FT r C C') (hk : k = 8 ∨ (k = 4 ∧ i = r)) : FT r C (stC C' k i j x v) := by
  refine ⟨h.1, fun k' i' j' x' a c => ?_⟩
  simp only [stC]
  rw [if_neg (by omega)]
  exact h.2 _ _ _ _ a c
theorem fy_st {X X' : XM} {j x : Nat} {v : Int32} (h : FY X X') (hj : (j = 0 ∧ (x = 26 ∨ x = 27 ∨ x = 28 ∨ x = 39)) ∨ j = 7 ∨ j = 8 ∨ (j = 2 ∧ 371 ≤ x ∧ x < 543)) : FY X (stX X' j x v) := by
  refine ⟨h.1, fun j' x' a c d e => ?_⟩
  simp only [stX]
  rw [if_neg (by omega)]
  exact h.2 _ _ a c d e
theorem wi_re {C : CM} {X : XM} (h : WI b r B s th C0 X0 C X) : WI b r B s th C X C X := ⟨h.1, h.2.1, h.2.2.1, h.2.2.2.1, FrC.rf _ r C, FrX.rf X⟩
theorem wi_sd {C : CM} {X : XM} {v : Int32} (h : WI b r B s th C0 X0 C X) : WI b r B s th (stC C 8 0 0 3 v) (stX X 0 39 v) (stC C 8 0 0 3 v) (stX X 0 39 v) := by
  obtain ⟨q1, q2, q3, q4, q5, q6⟩ := h
  refine ⟨(stC_ob (by omega)).trans q1, fun x hx => ?_, (congrFun (stC_ob (i' := r) (by omega)) 8).trans q3, stR_x (stR_c q4 (by omega)) (by omega), FrC.rf _ _ _, FrX.rf _⟩
  rw [stX_row (by omega)]
  exact q2 x hx
theorem drawn_rel {k q a1 : Nat} {sd : Int32} {C : CM} {X : XM} (hN : 2000 ≤ N) (hB : BankR B s n) (hT : ThingR n s (fun k => s (429 + k)) (fun c => s (441 + c)) th) (hg : g ≤ 50000000) (hk : k ≤ 48) (ha : a1 < 8) (hW : WI b r B s th C0 X0 C X) (hR : Rng g (C.1 4 r)) :
    ∃ C' X' v, f_X9_passDrawn N b r (nI k) sd C = some (0, C') ∧ f_X11_drawnOf N (nI a1) (nI k) sd X = cal (f_X11_back N X') (fun _ X5 => rt v X5) ∧ f_X6_wealth r (nI a1) C' = some (v, C') ∧ FT r C C' ∧ FY X X' := by
  unfold f_X9_passDrawn f_X11_drawnOf
  rw [bnd_v, bnd_v]
  refine loop2 (fun m i D => f_X9_passDrawn_9 N b r (nI k) m i D) (fun m i Y => f_X11_drawnOf_8 N (nI a1) (nI k) m i Y) (fun i D Y => WI b r B s th D Y D Y ∧ Rng (g + 100000 * i) (D.1 4 r) ∧ D.1 8 0 0 3 = Y.1 0 39 ∧ FT r C D ∧ FY X Y)
    (fun y z => ∃ C' X' v, y = some (0, C') ∧ z = cal (f_X11_back N X') (fun _ X5 => rt v X5) ∧ f_X6_wealth r (nI a1) C' = some (v, C') ∧ FT r C C' ∧ FY X X') k ?_ ?_ k 0 N N _ _ (by omega) (by omega) (by omega)
    ⟨wi_sd hW, rng_c hR (by omega), by rw [stC_at, stX_at], ft_st (FT.rf C) (by omega), fy_st (FY.rf X) (by omega)⟩
  · rintro m m' i D Y hi ⟨w, hr, hs, hft, hfy⟩
    refine Or.inl ?_
    obtain ⟨v, hv, v1, v2⟩ := drawC D (show 0 < 10 by omega) (by omega)
    have v3 := drawX Y (show 0 < 10 by omega) (by omega)
    rw [← hs, v1] at v3
    have w1 := wi_sd (v := drw (D.1 8 0 0 3)) w
    have r1 : Rng (g + 100000 * i) ((stC D 8 0 0 3 (drw (D.1 8 0 0 3))).1 4 r) := rng_c hr (by omega)
    have f1 : FT r C (stC D 8 0 0 3 (drw (D.1 8 0 0 3))) := ft_st hft (by omega)
    have f2 : FY X (stX Y 0 39 (drw (D.1 8 0 0 3))) := fy_st hfy (by omega)
    have s1 : (stC D 8 0 0 3 (drw (D.1 8 0 0 3))).1 8 0 0 3 = (stX Y 0 39 (drw (D.1 8 0 0 3))).1 0 39 := by rw [stC_at, stX_at]
    generalize stC D 8 0 0 3 (drw (D.1 8 0 0 3)) = D1 at v2 w1 r1 f1 s1
    generalize stX Y 0 39 (drw (D.1 8 0 0 3)) = Y1 at v3 w1 f2 s1
    have v2' : f_X9_draw 10 D = some (nI v, D1) := v2
    have v3' : f_X11_draw 10 Y = some (nI v, Y1) := v3
    by_cases hv0 : v = 0
    · subst hv0
      obtain ⟨C1, X1, e1, e2, w2, r2, -⟩ := calm_rel hN hB (show g + 100000 * i ≤ 1000000000 by omega) w1 r1
      refine ⟨C1, X1, ?_, ?_, wi_re w2, rng_mono r2 (by omega), ?_, f1.trans (ft_of w2.2.2.2.2.1), f2.trans (fy_of w2.2.2.2.2.2)⟩
      · simp (disch := omega) only [f_X9_passDrawn_9, le_nn, if_neg, v2', cal_some, le_nl, if_pos, e1, nI_al]
      · simp (disch := omega) only [f_X11_drawnOf_8, le_nn, if_neg, v3', cal_some, eq_nl, if_true, e2, nI_al]
      · rw [w2.2.2.2.2.1.2 8 0 0 3 (by unfold wrC; omega), w2.2.2.2.2.2.2 0 39 (by unfold wrX; omega)]
        exact s1
    · obtain ⟨d, hd, d1, d2⟩ := drawC D1 (show 0 < 8 by omega) (by omega)
      have d3 := drawX Y1 (show 0 < 8 by omega) (by omega)
      rw [← s1, d1] at d3
      have w2 := wi_sd (v := drw (D1.1 8 0 0 3)) w1
      have r2 : Rng (g + 100000 * i) ((stC D1 8 0 0 3 (drw (D1.1 8 0 0 3))).1 4 r) := rng_c r1 (by omega)
      have f3 : FT r C (stC D1 8 0 0 3 (drw (D1.1 8 0 0 3))) := ft_st f1 (by omega)
      have f4 : FY X (stX Y1 0 39 (drw (D1.1 8 0 0 3))) := fy_st f2 (by omega)
      have s2 : (stC D1 8 0 0 3 (drw (D1.1 8 0 0 3))).1 8 0 0 3 = (stX Y1 0 39 (drw (D1.1 8 0 0 3))).1 0 39 := by rw [stC_at, stX_at]
      generalize stC D1 8 0 0 3 (drw (D1.1 8 0 0 3)) = D2 at d2 w2 r2 f3 s2
      generalize stX Y1 0 39 (drw (D1.1 8 0 0 3)) = Y2 at d3 w2 f4 s2
      have d2' : f_X9_draw 8 D1 = some (nI d, D2) := d2
      have d3' : f_X11_draw 8 Y1 = some (nI d, Y2) := d3
      obtain ⟨C1, X1, e1, e2, w3, r3, -⟩ := gale_rel hN hB hT hd (show v < 10 by omega) (show g + 100000 * i ≤ 1000000000 by omega) w2 r2
      refine ⟨C1, X1, ?_, ?_, wi_re w3, rng_mono r3 (by omega), ?_, f3.trans (ft_of w3.2.2.2.2.1), f4.trans (fy_of w3.2.2.2.2.2)⟩
      · simp (disch := omega) only [f_X9_passDrawn_9, le_nn, if_neg, v2', cal_some, le_nl, d2', e1, nI_al]
      · simp (disch := omega) only [f_X11_drawnOf_8, le_nn, if_neg, v3', cal_some, eq_nl, d3', e2, nI_al]
      · rw [w3.2.2.2.2.1.2 8 0 0 3 (by unfold wrC; omega), w3.2.2.2.2.2.2 0 39 (by unfold wrX; omega)]
        exact s2
  · rintro m m' D Y ⟨w, hr, hs, hft, hfy⟩
    have hS := wi_S w
    have x1 : D.1 4 r 1 a1 = Y.1 2 (373 + a1) := hS.1 1 a1 (by omega) (by omega) ha
    have x2 : D.1 4 r 2 a1 = Y.1 2 (381 + a1) := hS.1 2 a1 (by omega) (by omega) ha
    refine ⟨D, Y, D.1 4 r 1 a1 + D.1 4 r 2 a1, ?_, ?_, ?_, hft, hfy⟩
    · simp (disch := omega) only [f_X9_passDrawn_9, le_nn, if_pos, rt]
    · simp (disch := omega) only [f_X11_drawnOf_8, le_nn, if_pos, f_X11_wealth, nI_la, ldA_nI, rt, cal_some, x1, x2]
    · simp (disch := omega) only [f_X6_wealth, ldA_nI, rt]
end PSS
