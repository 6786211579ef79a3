/-! Acts: what is kept, what is changed. -/
theorem thing_sub {n : BN} {s s' std std' fen fen' th th' : Nat → Int32} (hn : n.2.2.1 ≤ 8 ∧ n.2.2.2 ≤ 12) (h : ThingR n s std fen th) (hs : ∀ x, x < 371 → s' x = s x) (h1 : ∀ k, k < 12 → std' k = std k) (h2 : ∀ c, c < 100 → fen' c = fen c) (h3 : ∀ c, c < 100 → th' c = th c) : ThingR n s' std' fen' th' := by
  obtain ⟨t1, t2, t3, t4⟩ := h
  refine ⟨fun k hk c hc q => ?_, fun t ht hd c hc q => ?_, fun c hc hf => ?_, fun c hc q1 q2 q3 => ?_⟩
  · rw [h3 c q]
    exact t1 k hk c ((hs _ (by omega)).symm.trans hc) q
  · rw [h3 c q]
    exact t2 t ht ((h1 _ (by omega)).symm.trans hd) c ((hs _ (by omega)).symm.trans hc) q
  · rw [h3 c hc]
    exact t3 c hc ((h2 c hc).symm.trans hf)
  · rw [h3 c hc]
    exact t4 c hc (fun k hk e => q1 k hk ((hs _ (by omega)).trans e)) (fun t ht hd e => q2 t ht ((h1 _ (by omega)).trans hd) ((hs _ (by omega)).trans e)) (fun e => q3 ((h2 c hc).trans e))
theorem bankR_congr {B : Nat → Nat → Int32} {s s' : Nat → Int32} {n : BN} (h : BankR B s n) (hs : ∀ x, x < 371 → s' x = s x) : BankR B s' n := by
  have hd := bk_bd h
  obtain ⟨bw, bh, bO, bT⟩ := hd
  refine ⟨bk_bd h, ?_, ?_, ?_, ?_, ?_, bk_isB h, ?_, ?_, ?_, ?_, ?_, ?_, ?_, ?_, ?_, ?_, ?_, ?_, ?_⟩
  · rw [hs _ (by omega)]; exact bk_w h
  · rw [hs _ (by omega)]; exact bk_h h
  · rw [hs _ (by omega)]; exact bk_o h
  · rw [hs _ (by omega)]; exact bk_t h
  · rw [hs _ (by omega), hs _ (by omega), hs _ (by omega)]; exact bk_run h
  · intro k hk; rw [hs _ (by omega)]; exact bk_home h k hk
  · intro k hk; rw [hs _ (by omega)]; exact bk_gold h k hk
  · intro k hk; rw [hs _ (by omega)]; exact bk_share h k hk
  · intro k hk; rw [hs _ (by omega)]; exact bk_stick h k hk
  · intro k hk; rw [hs _ (by omega)]; exact bk_vane h k hk
  · intro k hk; rw [hs _ (by omega)]; exact bk_pact h k hk
  · intro k hk; rw [hs _ (by omega)]; exact bk_plot h k hk
  · intro k hk; rw [hs _ (by omega)]; exact bk_tree h k hk
  · intro k hk; rw [hs _ (by omega)]; exact bk_eddy h k hk
  · intro k hk; rw [hs _ (by omega), hs _ (by omega)]; exact bk_gust h k hk
  · obtain ⟨fe, f1, f2⟩ := bk_fen h
    refine ⟨fe, fun c hc => ?_, f2⟩
    rw [hs _ (by omega)]
    exact f1 c hc
  · exact thing_sub ⟨bO, bT⟩ (bk_thing h) hs (fun _ _ => rfl) (fun c hc => hs _ (by omega)) (fun _ _ => rfl)
  · obtain ⟨od, o1, o2, o3⟩ := bk_ord h
    refine ⟨od, o1, o2, fun i j hij hj => ?_⟩
    have a1 := (o1 i (by omega)).1
    have a2 := (o1 j hj).1
    rw [hs _ (by omega), hs _ (by omega)]
    exact o3 i j hij hj
theorem stateR_congr {n : BN} {s s' : Nat → Int32} {P P' : Nat → Nat → Int32} {t t' : Nat → Int32} (hn : n.2.2.1 ≤ 8 ∧ n.2.2.2 ≤ 12) (h : StateR n s P t) (hs : ∀ x, x < 371 → s' x = s x) (hP : ∀ j x, dX6 j x → P' j x = P j x) (ht : ∀ x, x < 172 → t' x = t x) : StateR n s' P' t' := by
  obtain ⟨⟨a1, a2, a3, a4⟩, ⟨q, q1, q2, q3⟩, ⟨l, l1, l2, l3⟩, z, ⟨m, m1, m2, m3⟩, ⟨fe, f1, f2, f3⟩, th⟩ := h
  refine ⟨⟨fun j o h1 h2 h3 => ?_, ?_, ?_, ?_⟩, ⟨q, q1, ?_, fun o ho => ?_⟩, ⟨l, l1, ?_, ?_⟩, fun j o hj h1 h2 => ?_, ⟨m, m1, ?_, fun k hk => ?_⟩, ⟨fe, fun c hc => ?_, f2, ?_⟩, ?_⟩
  · rw [hP j o (by unfold dX6; omega), ht _ (by omega)]
    exact a1 j o h1 h2 h3
  · rw [hP 0 1 (by unfold dX6; omega), ht _ (by omega)]
    exact a2
  · rw [hP 0 5 (by unfold dX6; omega), ht _ (by omega)]
    exact a3
  · rw [hP 0 0 (by unfold dX6; omega), ht _ (by omega)]
    exact a4
  · rw [hP 0 0 (by unfold dX6; omega)]
    exact q2
  · rw [hP 1 _ (by unfold dX6; omega), hP 3 _ (by unfold dX6; omega), hP 4 _ (by unfold dX6; omega), hP 5 _ (by unfold dX6; omega)]
    exact q3 o ho
  · rw [ht _ (by omega)]
    exact l2
  · rw [hP 0 4 (by unfold dX6; omega)]
    exact l3
  · rw [hP j o (by unfold dX6; omega)]
    exact z j o hj h1 h2
  · rw [hP 0 3 (by unfold dX6; omega)]
    exact m2
  · rw [ht _ (by omega)]
    exact m3 k hk
  · rw [ht _ (by omega)]
    exact f1 c hc
  · rw [hP 0 2 (by unfold dX6; omega)]
    exact f3
  · exact thing_sub hn th hs (fun k hk => ht _ (by omega)) (fun c hc => ht _ (by omega)) (fun c hc => hP 8 c (by unfold dX6; omega))
section ACT
variable {N : Nat} {n : BN} {s : Nat → Int32}
theorem keep_rel {C : CM} {X : XM} (hN : 2000 ≤ N) (hn : n.2.2.1 ≤ 8 ∧ n.2.2.2 ≤ 12) (h : PastR n s C X) (hS : StateR n s (C.1 4 0) (fun x => X.1 2 (371 + x))) :
    ∃ C' X', f_X10_keepPast C = some (0, C') ∧ f_X11_keep N X = some (0, X') ∧ C'.2 = C.2 ∧ (∀ k i j x, k ≠ 7 → ¬ (k = 9 ∧ j = 0 ∧ x = 0) → ¬ (k = 4 ∧ 4 ≤ i) → C'.1 k i j x = C.1 k i j x) ∧ C'.1 9 0 0 0 = 0 ∧ X'.2 = X.2 ∧ (∀ j x, j ≠ 10 → ¬ (j = 0 ∧ x = 33) → X'.1 j x = X.1 j x) ∧ PastR n s C' X' := by
  obtain ⟨top, kp, a1, a2, a3, a4, a5, a6⟩ := h
  obtain ⟨X', e1, e2, e3, e4, e5, e6⟩ := keep_eq N X kp a2 a5 hN
  have hmin : imin (nI (kp + 1)) 8 = nI (min (kp + 1) 8) := imin_nn (b := 8) (by omega) (by omega)
  refine ⟨stC (stC (stC (cpK C 4 (4 + top) 0 dX6) 7 0 0 1 (nI ((top + 1) % 8))) 7 0 0 2 (nI (min (kp + 1) 8))) 9 0 0 0 0, X', ?_, e1, rfl, ?_, stC_at, e2, e3, ?_⟩
  · have c1 : (cpK C 4 (4 + top) 0 dX6).1 7 0 0 1 = nI top := by
      simp only [cpK]
      rw [if_neg (by omega)]
      exact a3
    have c2 : (cpK C 4 (4 + top) 0 dX6).1 7 0 0 2 = nI kp := by
      simp only [cpK]
      rw [if_neg (by omega)]
      exact a4
    unfold f_X10_keepPast f_X2_push
    rw [a3]
    simp (disch := omega) only [ldQ_nI, copy_X6 C (show 0 ≠ 4 + top by omega), cal_some, bnd_v, c1, nI_al, nI_dl, nI_r8, stC_ne, c2, hmin, rt]
  · intro k i j x h1 h2 h3
    simp only [stC, cpK]
    rw [if_neg (by omega), if_neg (by omega), if_neg (by omega), if_neg (by omega)]
  · refine ⟨(top + 1) % 8, min (kp + 1) 8, by omega, by omega, ?_, ?_, e4, fun i hi => ?_⟩
    · rw [stC_ob (by omega), stC_ne (by omega), stC_at]
    · rw [stC_ob (by omega), stC_at]
    · have eC : ∀ i' j x, (stC (stC (stC (cpK C 4 (4 + top) 0 dX6) 7 0 0 1 (nI ((top + 1) % 8))) 7 0 0 2 (nI (min (kp + 1) 8))) 9 0 0 0 0).1 4 i' j x = (cpK C 4 (4 + top) 0 dX6).1 4 i' j x := by
        intro i' j x
        rw [stC_ob (by omega), stC_ob (by omega), stC_ob (by omega)]
      by_cases hl : i = min (kp + 1) 8 - 1
      · refine stateR_congr hn hS (fun _ _ => rfl) (fun j x hj => ?_) (fun x hx => ?_)
        · rw [eC]
          simp only [cpK]
          rw [if_pos ⟨trivial, by omega, hj⟩]
        · rw [hl]
          exact e5 x hx
      · refine stateR_congr hn (a6 (i + (kp + 1 - min (kp + 1) 8)) (by omega)) (fun _ _ => rfl) (fun j x hj => ?_) (fun x hx => ?_)
        · rw [eC]
          simp only [cpK]
          rw [if_neg (by omega), show 4 + ((top + 1) % 8 + 8 - min (kp + 1) 8 + i) % 8 = 4 + (top + 8 - kp + (i + (kp + 1 - min (kp + 1) 8))) % 8 by omega]
        · exact e6 i x (by omega) hx
def ActF (C C' : CM) : Prop := C'.2 = C.2 ∧ ∀ k i j x, k ≠ 7 → ¬ (k = 9 ∧ j = 0 ∧ x = 0) → k ≠ 8 → ¬ (k = 4 ∧ (i = 0 ∨ 3 ≤ i)) → C'.1 k i j x = C.1 k i j x
def ActX (X X' : XM) : Prop := X'.2 = X.2 ∧ ∀ j x, ¬ (j = 2 ∧ 371 ≤ x ∧ x < 543) → j ≠ 10 → j ≠ 7 → j ≠ 8 → j ≠ 9 → j ≠ 14 → ¬ (j = 0 ∧ (x = 33 ∨ x = 26 ∨ x = 27 ∨ x = 28 ∨ x = 39 ∨ x = 0)) → X'.1 j x = X.1 j x
theorem rel_act {C C' : CM} {X X' : XM} (hH : HereR C X n) (hT : TapeR C X) (hR : RestR C X) (hc : ActF C C') (hx : ActX X X') (hS : StateR n (X.1 2) (C'.1 4 0) (fun x => X'.1 2 (371 + x))) (hP : PastR n (X.1 2) C' X') (hg : C'.1 9 0 0 0 = 0) : Rel N C' X' := by
  obtain ⟨hB, -, hPl, hSe, hNm⟩ := hH
  obtain ⟨h5, h6, h7, h8, h9, h10, h11⟩ := hR
  have hn := bk_bd hB
  have hn' : n.2.2.1 ≤ 8 ∧ n.2.2.2 ≤ 12 := ⟨hn.2.2.1, hn.2.2.2⟩
  have hs : ∀ x, x < 371 ∨ 543 ≤ x → X'.1 2 x = X.1 2 x := fun x hx' => hx.2 2 x (by omega) (by omega) (by omega) (by omega) (by omega) (by omega) (by omega)
  have hsl : ∀ x, x < 371 → X'.1 2 x = X.1 2 x := fun x hx' => hs x (Or.inl hx')
  have e2 : C'.2 = C.2 := hc.1
  have e3 : ∀ i, C'.1 3 i = C.1 3 i := fun i => funext fun j => funext fun x => hc.2 3 i j x (by omega) (by omega) (by omega) (by omega)
  have e5 : ∀ i, C'.1 5 i = C.1 5 i := fun i => funext fun j => funext fun x => hc.2 5 i j x (by omega) (by omega) (by omega) (by omega)
  have e6 : ∀ i, C'.1 6 i = C.1 6 i := fun i => funext fun j => funext fun x => hc.2 6 i j x (by omega) (by omega) (by omega) (by omega)
  have e0 : C'.1 0 0 = C.1 0 0 := funext fun j => funext fun x => hc.2 0 0 j x (by omega) (by omega) (by omega) (by omega)
  have e22 : ∀ i, C'.1 2 i = C.1 2 i := fun i => funext fun j => funext fun x => hc.2 2 i j x (by omega) (by omega) (by omega) (by omega)
  have e4 : ∀ i, 1 ≤ i → i < 3 → C'.1 4 i = C.1 4 i := fun i h1 h2 => funext fun j => funext fun x => hc.2 4 i j x (by omega) (by omega) (by omega) (by omega)
  have row : ∀ j, j ≠ 0 → j ≠ 2 → j ≠ 10 → j ≠ 7 → j ≠ 8 → j ≠ 9 → j ≠ 14 → X'.1 j = X.1 j := fun j a1 a2 a3 a4 a5 a6 a7 => funext fun x => hx.2 j x (by omega) a3 a4 a5 a6 a7 (by omega)
  have fld : ∀ x, ¬ (x = 33 ∨ x = 26 ∨ x = 27 ∨ x = 28 ∨ x = 39 ∨ x = 0) → X'.1 0 x = X.1 0 x := fun x a => hx.2 0 x (by omega) (by omega) (by omega) (by omega) (by omega) (by omega) (by omega)
  refine ⟨⟨n, ⟨?_, ?_, ?_, ?_, ?_⟩, ?_⟩, ?_, fun h => absurd hg h, ?_, ?_, ?_, ?_, ?_, ?_, ?_⟩
  · rw [e2, e3]
    exact bankR_congr hB hsl
  · exact stateR_congr hn' hS hsl (fun _ _ _ => rfl) (fun _ _ => rfl)
  · rw [e2, e5]
    obtain ⟨L, l1, l2, l3, l4⟩ := hPl
    refine ⟨L, l1, l2, (hs _ (by omega)).trans l3, fun i hi => ?_⟩
    rw [hs _ (by omega), hs _ (by omega), hs _ (by omega)]
    exact l4 i hi
  · rw [e2, e6]
    obtain ⟨K, cd, k1, k2, k3⟩ := hSe
    refine ⟨K, cd, k1, (hs _ (by omega)).trans k2, ?_⟩
    rcases k3 with k3 | ⟨a1, a2, a3, a4, a5⟩
    · exact Or.inl k3
    · refine Or.inr ⟨a1, a2, a3, a4, fun i hi => ?_⟩
      rw [hs _ (by omega), hs _ (by omega), hs _ (by omega)]
      exact a5 i hi
  · rw [e2, e3, hx.1]
    exact hNm
  · obtain ⟨top, kp, a1, a2, a3, a4, a5, a6⟩ := hP
    exact ⟨top, kp, a1, a2, a3, a4, a5, fun i hi => stateR_congr hn' (a6 i hi) hsl (fun _ _ _ => rfl) (fun _ _ => rfl)⟩
  · unfold TapeR
    rw [e0, fld 2 (by omega), row 1 (by omega) (by omega) (by omega) (by omega) (by omega) (by omega) (by omega)]
    exact hT
  · unfold RefR
    rw [e2]
    exact h5
  · intro k hk
    unfold ImgR
    rw [e22, e3, e5, e6, e4 _ (by omega) (by omega), row 17 (by omega) (by omega) (by omega) (by omega) (by omega) (by omega) (by omega), row 19 (by omega) (by omega) (by omega) (by omega) (by omega) (by omega) (by omega), hx.1]
    exact h6 k hk
  · unfold MoreR
    rw [e0, fld 35 (by omega), fld 34 (by omega)]
    exact h7
  · unfold PairR
    rw [e0, fld 38 (by omega), row 12 (by omega) (by omega) (by omega) (by omega) (by omega) (by omega) (by omega)]
    exact h8
  · unfold JudR
    rw [e0, fld 43 (by omega), row 13 (by omega) (by omega) (by omega) (by omega) (by omega) (by omega) (by omega)]
    exact h9
  · rw [e0, fld 15 (by omega)]
    exact h10
  · rw [hx.1]
    exact h11
theorem pastR_mono {C C' : CM} {X X' : XM} (hn : n.2.2.1 ≤ 8 ∧ n.2.2.2 ≤ 12) (h : PastR n s C X) (h7 : C'.1 7 0 0 = C.1 7 0 0) (h4 : ∀ i, 4 ≤ i → C'.1 4 i = C.1 4 i) (h33 : X'.1 0 33 = X.1 0 33) (h10 : X'.1 10 = X.1 10) : PastR n s C' X' := by
  obtain ⟨top, kp, a1, a2, a3, a4, a5, a6⟩ := h
  refine ⟨top, kp, a1, a2, ?_, ?_, h33.trans a5, fun i hi => ?_⟩
  · rw [h7]; exact a3
  · rw [h7]; exact a4
  · rw [h4 _ (by omega), h10]
    exact a6 i hi
/-- what both sides hold ahead of the wind, of a state that stands -/
theorem qi_of {b r q : Nat} {B : Nat → Nat → Int32} {C : CM} {X : XM} (hC : C.1 3 b = B) (hS : StateR n (X.1 2) (C.1 4 r) (fun x => X.1 2 (371 + x))) (hq : C.1 4 r 0 0 = nI q) (hq48 : q ≤ 48) : QI b r B (X.1 2) (C.1 4 r 8) C X 1000 q C X := by
  obtain ⟨q', h1, h2, h3, h4⟩ := sh_qb hS
  have e : q' = q := by
    have := h2.symm.trans hq
    rw [eq_nn (by omega) (by omega)] at this
    exact this
  subst e
  exact ⟨⟨hC, fun _ _ => rfl, rfl, ⟨sh_row hS, sh_tr hS, sh_ru hS, sh_q hS⟩, FrC.rf _ _ _, FrX.rf _⟩, h4, hq, sh_lt hS⟩
/-- and behind it -/
theorem st_of {b r q : Nat} {B : Nat → Nat → Int32} {s0 : Nat → Int32} {C1 C2 : CM} {X1 X2 : XM} (hB : BankR B s0 n) (hS : StateR n s (C1.1 4 r) (fun x => X1.1 2 (371 + x))) (hq : q ≤ 48) (hs0 : ∀ x, (429 ≤ x ∧ x < 541) → s0 x = X1.1 2 x) (h : QI b r B s0 (C1.1 4 r 8) C1 X1 1000 q C2 X2) : StateR n s (C2.1 4 r) (fun x => X2.1 2 (371 + x)) := by
  obtain ⟨⟨w1, w2, w3, w4, w5, w6⟩, hr, h0, hl⟩ := h
  have bd := bk_bd hB
  have hcO := bk_cnt hB
  have fr : ∀ j x, ¬ wrC (cO B) r 4 r j x → C2.1 4 r j x = C1.1 4 r j x := fun j x hn => w5.2 4 r j x hn
  have hx : ∀ x, 429 ≤ x → x < 541 → X2.1 2 x = X1.1 2 x := fun x a c => (w2 x (by omega)).trans (hs0 x ⟨a, c⟩)
  refine ⟨⟨fun j o h1 h2 h3 => ?_, w4.2.1, w4.2.2.1, w4.2.2.2⟩, ⟨q, hq, h0, hr⟩, hl, fun j o hj h1 h2 => ?_, ?_, ?_, ?_⟩
  · have := w4.1 j o h1 h2 h3
    rw [this]
    dsimp only
    rw [show 371 + (8 * j + o - 6) = 365 + 8 * j + o by omega]
  · rw [fr j o (by unfold wrC; omega)]
    exact sh_z hS j o hj h1 h2
  · obtain ⟨m, m1, m2, m3⟩ := sh_sd hS
    refine ⟨m, m1, ?_, fun k hk => ?_⟩
    · rw [fr 0 3 (by unfold wrC; omega)]
      exact m2
    · dsimp only
      rw [show 371 + (58 + k) = 429 + k by omega, hx _ (by omega) (by omega)]
      exact m3 k hk
  · obtain ⟨fe, f1, f2, f3⟩ := sh_fe hS
    refine ⟨fe, fun c hc => ?_, f2, ?_⟩
    · dsimp only
      rw [show 371 + (70 + c) = 441 + c by omega, hx _ (by omega) (by omega)]
      exact f1 c hc
    · rw [fr 0 2 (by unfold wrC; omega)]
      exact f3
  · refine thing_sub ⟨bd.2.2.1, bd.2.2.2⟩ (sh_th hS) (fun _ _ => rfl) (fun k hk => ?_) (fun c hc => ?_) (fun c hc => ?_)
    · dsimp only
      rw [show 371 + (58 + k) = 429 + k by omega, hx _ (by omega) (by omega)]
    · dsimp only
      rw [show 371 + (70 + c) = 441 + c by omega, hx _ (by omega) (by omega)]
    · rw [w3]
end ACT
