/-! More calls that ask: owner, cell, comes, now. -/
section ASK
variable {N : Nat}
theorem isOwner_rel {B : Nat → Nat → Int32} {n : BN} {C : CM} {X : XM} {b : Nat} (hB : BankR B (X.1 2) n) (hC : C.1 3 b = B) (a : Int32) : (∃ k, k < n.2.2.1 ∧ a = nI k ∧ f_X0_isOwner b a C = some (1, C) ∧ f_X11_isOwner a X = some (1, X)) ∨ (f_X0_isOwner b a C = some (0, C) ∧ f_X11_isOwner a X = some (0, X)) := by
  have h8 := (bk_bd hB).2.2.1
  rcases isOwner_C (b := b) (C := C) (by rw [hC]; exact (bk_o hB).1) h8 a with ⟨k, k1, k2, k3⟩ | ⟨k1, k2⟩
  · rcases isOwner_X (X := X) (bk_o hB).2 h8 a with ⟨k', -, -, j3⟩ | ⟨j1, j2⟩
    · exact Or.inl ⟨k, k1, k2, k3, j3⟩
    · exact absurd k2 (j1 k k1)
  · rcases isOwner_X (X := X) (bk_o hB).2 h8 a with ⟨k', j1, j2, j3⟩ | ⟨j1, j2⟩
    · exact absurd j2 (k1 k' j1)
    · exact Or.inr ⟨k2, j2⟩
theorem isCell_rel {B : Nat → Nat → Int32} {n : BN} {C : CM} {X : XM} {b : Nat} (hB : BankR B (X.1 2) n) (hC : C.1 3 b = B) (a : Int32) : (∃ c, inY n c ∧ a = nI c ∧ f_X0_isCell b a C = some (1, C) ∧ f_X11_isCell a X = some (1, X)) ∨ (f_X0_isCell b a C = some (0, C) ∧ f_X11_isCell a X = some (0, X)) := by
  obtain ⟨bw, bh, bO, bT⟩ := bk_bd hB
  have c1 : C.1 3 b 0 1 = nI n.1 := by rw [hC]; exact (bk_w hB).1
  have c2 : C.1 3 b 0 2 = nI n.2.1 := by rw [hC]; exact (bk_h hB).1
  have x1 := (bk_w hB).2
  have x2 := (bk_h hB).2
  unfold f_X0_isCell f_X11_isCell
  rcases int_cases a with hb | ⟨k, hk, rfl⟩
  · rw [if_pos hb, if_pos hb]
    exact Or.inr ⟨rfl, rfl⟩
  · simp (disch := omega) only [lt_nl, if_neg, le_ln, nI_dl, nI_r2, c1, c2, le_nn, ldA_l, x1, x2]
    by_cases h1 : n.1 ≤ k % 10
    · rw [if_pos h1, if_pos h1, ite_self]
      exact Or.inr ⟨rfl, rfl⟩
    · rw [if_neg h1, if_neg h1]
      by_cases h2 : n.2.1 ≤ k / 10
      · rw [if_pos h2, if_pos h2, ite_self]
        exact Or.inr ⟨rfl, rfl⟩
      · rw [if_neg h2, if_neg h2, if_neg (by omega)]
        exact Or.inl ⟨k, ⟨by omega, by omega, by omega⟩, rfl, rfl, rfl⟩
theorem isGust_rel {C : CM} {X : XM} (a0 a1 : Int32) : (∃ d f, d < 8 ∧ 1 ≤ f ∧ f < 10 ∧ a0 = nI d ∧ a1 = nI f ∧ f_X10_isGust a0 a1 C = some (1, C) ∧ f_X11_isGust a0 a1 X = some (1, X)) ∨ (f_X10_isGust a0 a1 C = some (0, C) ∧ f_X11_isGust a0 a1 X = some (0, X)) := by
  unfold f_X10_isGust f_X11_isGust
  simp only [isIn_eq, cal_some]
  rcases int_cases a0 with hb | ⟨d, hd, rfl⟩
  · rw [if_pos hb, if_pos hb, if_pos rfl]
    exact Or.inr ⟨rfl, rfl⟩
  simp (disch := omega) only [lt_nl, if_neg, le_ln, lt_ln]
  by_cases h8 : 8 ≤ d
  · rw [if_pos h8, if_pos (show 7 < d by omega), if_pos rfl]
    exact Or.inr ⟨rfl, rfl⟩
  rw [if_neg h8, if_neg (show ¬ 7 < d by omega), if_neg (show ¬ ((1 : Int32) = 0) by decide)]
  rcases int_cases a1 with hb | ⟨f, hf, rfl⟩
  · have h1 : a1 < 1 := Int32.lt_of_lt_of_le hb (by decide)
    rw [if_pos h1, if_pos h1, if_pos rfl]
    exact Or.inr ⟨rfl, rfl⟩
  simp (disch := omega) only [lt_nl, lt_ln]
  by_cases h1 : f < 1
  · rw [if_pos h1, if_pos h1, if_pos rfl]
    exact Or.inr ⟨rfl, rfl⟩
  rw [if_neg h1, if_neg h1]
  by_cases h9 : 9 < f
  · rw [if_pos h9, if_pos h9, if_pos rfl]
    exact Or.inr ⟨rfl, rfl⟩
  rw [if_neg h9, if_neg h9, if_neg (show ¬ ((1 : Int32) = 0) by decide)]
  exact Or.inl ⟨d, f, by omega, by omega, by omega, rfl, rfl, rfl, rfl⟩
theorem op_comes (hN : 2000 ≤ N) (b1 b2 b3 b4 : Int32) : OP (Rel N) (f_X10_comes N b1 b2 b3 b4) (f_X11_comes N b1 b2 b3 b4) := op_q fun C X hR => by
  obtain ⟨⟨n, ⟨hB, hS, -⟩, -⟩, -, -, hRef, -⟩ := hR
  obtain ⟨bw, bh, bO, bT⟩ := bk_bd hB
  have hb := (b_lt hRef).1
  unfold f_X10_comes f_X11_comes
  have r2 : (stX X 0 0 0).1 2 = X.1 2 := stX_row (by omega)
  rw [bnd_v, ldR_lt hb]
  rcases isCell_rel (X := stX X 0 0 0) (by rw [r2]; exact hB) rfl b1 with ⟨c, hc, rfl, e1, e2⟩ | ⟨e1, e2⟩
  rotate_left
  · rw [e1, e2]
    exact ⟨_, _, _, rfl, rfl, CE.rf C, xe_0 X 0⟩
  rw [e1, e2, cal_some, cal_some, if_neg (show ¬ ((1 : Int32) = 0) by decide), if_neg (show ¬ ((1 : Int32) = 0) by decide)]
  rcases isGust_rel (C := C) (X := stX X 0 0 0) b2 b3 with ⟨d, f, hd, hf1, hf, rfl, rfl, e1, e2⟩ | ⟨e1, e2⟩
  rotate_left
  · rw [e1, e2]
    exact ⟨_, _, _, rfl, rfl, CE.rf C, xe_0 X 0⟩
  rw [e1, e2, cal_some, cal_some, if_neg (show ¬ ((1 : Int32) = 0) by decide), if_neg (show ¬ ((1 : Int32) = 0) by decide)]
  obtain ⟨hc1, hc2, hc3⟩ := hc
  obtain ⟨e, he, he1, he2⟩ := bk_eddy hB c hc1
  have q1 := forceAt_s_eq (N := N) (r := 0) (f := nI f) hN (bk_w hB).1 (bk_h hB).1 bw bh hc1 hc2 hc3 hd
  have q2 := dirAt_eq (d := d) hc1 hd (show e < 8 by omega) he1
  have q3 := comesTo_eq (N := N) (X := stX X 0 0 0) (f := nI f) hN (by rw [r2]; exact (bk_w hB).2) (by rw [r2]; exact (bk_h hB).2) bw bh bO bT (by rw [r2]; exact (bk_t hB).2) (by rw [r2]; exact sh_th hS) hc1 hd (by rw [r2]; exact he2) (show e < 8 by omega)
  simp only [isIn_eq, cal_some, q1, q2, q3, ldR_lt hb]
  have hxe : XE X (stX (stX (stX X 0 0 0) 0 27 (frc (C.1 4 0 8) n.1 n.2.1 c d (nI f))) 0 26 (nI ((d + e) % 8))) := (xe_0 X 0).trans ((xe_stF rfl).trans (xe_stF rfl))
  by_cases a0 : b4 = 0
  · subst a0
    refine ⟨_, _, _, rfl, ?_, CE.rf C, hxe⟩
    show some ((stX (stX (stX X 0 0 0) 0 27 (frc (C.1 4 0 8) n.1 n.2.1 c d (nI f))) 0 26 (nI ((d + e) % 8))).1 0 26, _) = _
    rw [stX_at]
  by_cases a1 : b4 = 1
  · subst a1
    refine ⟨_, _, _, rfl, ?_, CE.rf C, hxe⟩
    show some ((stX (stX (stX X 0 0 0) 0 27 (frc (C.1 4 0 8) n.1 n.2.1 c d (nI f))) 0 26 (nI ((d + e) % 8))).1 0 27, _) = _
    rw [stX_ne (by omega), stX_at]
  rw [if_neg a0, if_neg a1]
  refine ⟨_, _, stX X 0 0 0, rfl, ?_, CE.rf C, xe_0 X 0⟩
  rcases int_cases b4 with hb2 | ⟨k, hk, rfl⟩
  · rw [if_pos hb2, if_pos rfl]
    rfl
  · simp (disch := omega) only [eq_nl] at a0 a1
    simp (disch := omega) only [lt_nl, if_neg, lt_ln, if_pos, if_true]
    rfl
theorem xe_L (X : XM) (w : Int64) : XE X (stL X 20 0 w) := by
  refine ⟨fun _ _ => rfl, fun _ _ => rfl, fun x _ => ?_, ?_, ?_⟩
  · simp [stL]
  · funext x
    simp [stL]
  · funext x
    simp [stL]
theorem op_x {f : CM → Option (Int32 × (CM × Bool))} {g : XM → Option (Int32 × XM)} (h : ∀ C X, Rel N C X → ∃ v t, f C = some (v, (C, t)) ∧ ∀ Y : XM, Y.1 = X.1 → ∃ b, g Y = some (b, stX Y 0 0 (if t = true then 1 else 0)) ∧ (t = false → b = v)) : OPX (Rel N) f g := by
  intro C X hR
  obtain ⟨v, t, h1, h2⟩ := h C X hR
  refine ⟨v, C, t, h1, fun w => ?_⟩
  obtain ⟨b, h3, h4⟩ := h2 (stL X 20 0 w) rfl
  refine ⟨b, _, h3, ?_, stX_at, h4, rel_xe (rel_xe hR (xe_L X w)) (xe_0 _ _)⟩
  simp [stX, stL]
theorem throws_eq (a : Int32) (ha : a = 0 ∨ a = 1) (X : XM) : f_X11_throwsIf a X = some (a, stX X 0 0 a) := by
  rcases ha with rfl | rfl
  · rfl
  · rfl
def ownG (b1 b2 : Int32) (X2 : XM) : Option (Int32 × XM) := if b2 = 0 then ldA (X2.1 2) 845 (7 + b1) (fun v => (rt (v) X2)) else if b2 = 1 then ldA (X2.1 2) 845 (373 + b1) (fun v => (rt (v) X2)) else if b2 = 2 then ldA (X2.1 2) 845 (381 + b1) (fun v => (rt (v) X2)) else if b2 = 3 then ldA (X2.1 2) 845 (23 + b1) (fun v => (rt (v) X2)) else if b2 = 4 then ldA (X2.1 2) 845 (389 + b1) (fun v => (rt (v) X2)) else if b2 = 5 then ldA (X2.1 2) 845 (397 + b1) (fun v => (rt (v) X2)) else if b2 = 6 then ldA (X2.1 2) 845 (405 + b1) (fun v => (rt (v) X2)) else if b2 = 7 then ldA (X2.1 2) 845 (47 + b1) (fun v => (rt (v - 1) X2)) else if b2 = 8 then ldA (X2.1 2) 845 (55 + b1) (fun v => (rt (v - 1) X2)) else if b2 = 9 then ldA (X2.1 2) 845 (413 + b1) (fun v => (rt (v) X2)) else ldA (X2.1 2) 845 (421 + b1) (fun v => (rt v X2))
theorem own24 (b1 b2 as0 : Int32) (X : XM) : f_X11_owner_24 b1 b2 as0 X = cal (f_X11_throwsIf as0 X) (fun v1 X2 => if v1 = 0 then ownG b1 b2 X2 else rt 0 X2) := rfl
theorem op_owner (b1 b2 : Int32) : OPX (Rel N) (f_X10_owner b1 b2) (f_X11_owner b1 b2) := op_x fun C X hR => by
  obtain ⟨⟨n, ⟨hB, hS, -⟩, -⟩, -, -, hRef, -⟩ := hR
  obtain ⟨bw, bh, bO, bT⟩ := bk_bd hB
  have hb := (b_lt hRef).1
  unfold f_X10_owner f_X11_owner f_X11_owner_19 f_X10_owner_24
  rw [ldR_lt hb]
  have hY : ∀ Y : XM, Y.1 = X.1 → BankR (C.1 3 (C.2 2 0 1)) (Y.1 2) n := fun Y e => by rw [e]; exact hB
  have no : ∀ Y : XM, f_X11_owner_24 b1 b2 1 Y = some (0, stX Y 0 0 1) := fun Y => by
    rw [own24, throws_eq 1 (Or.inr rfl), cal_some, if_neg (by decide)]
    rfl
  rcases isOwner_rel (X := X) hB rfl b1 with ⟨k, hk, rfl, e1, -⟩ | ⟨e1, e2⟩
  rotate_left
  · rw [e1, cal_some, if_pos rfl]
    refine ⟨0, true, rfl, fun Y e => ⟨0, ?_, fun h => by cases h⟩⟩
    rcases isOwner_rel (hY Y e) rfl b1 with ⟨k, -, rfl, e3, -⟩ | ⟨-, e4⟩
    · rw [e1] at e3
      cases e3
    · rw [e4, cal_some, if_pos rfl]
      exact no Y
  rw [e1, cal_some, if_neg (show ¬ ((1 : Int32) = 0) by decide)]
  have e5 : ∀ Y : XM, Y.1 = X.1 → f_X11_isOwner (nI k) Y = some (1, Y) := fun Y e => by
    rcases isOwner_rel (hY Y e) rfl (nI k) with ⟨_, -, -, -, e4⟩ | ⟨e3, -⟩
    · exact e4
    · rw [e1] at e3
      cases e3
  by_cases h2 : b2 < 0
  · rw [if_pos h2]
    refine ⟨0, true, rfl, fun Y e => ⟨0, ?_, fun h => by cases h⟩⟩
    rw [e5 Y e, cal_some, if_neg (show ¬ ((1 : Int32) = 0) by decide), isIn_eq, cal_some, if_pos h2, if_pos rfl]
    exact no Y
  rw [if_neg h2]
  by_cases h3 : b2 ≤ 10
  rotate_left
  · rw [if_neg h3]
    refine ⟨0, true, rfl, fun Y e => ⟨0, ?_, fun h => by cases h⟩⟩
    rw [e5 Y e, cal_some, if_neg (show ¬ ((1 : Int32) = 0) by decide), isIn_eq, cal_some, if_neg h2, if_pos (Int32.not_le.mp h3), if_pos rfl]
    exact no Y
  rw [if_pos h3, ldR_lt hb]
  have hk8 : k < 8 := by omega
  have fin : ∀ (v : Int32) (F : Option (Int32 × (CM × Bool))), F = some (v, (C, false)) → (∀ Y : XM, Y.1 2 = X.1 2 → ownG (nI k) b2 Y = some (v, Y)) → ∃ v t, F = some (v, (C, t)) ∧ ∀ Y : XM, Y.1 = X.1 → ∃ b, (cal (f_X11_isOwner (nI k) Y) fun v1 X2 => if v1 = 0 then f_X11_owner_24 (nI k) b2 1 X2 else cal (f_X11_isIn b2 0 10 X2) fun v4 X5 => if v4 = 0 then f_X11_owner_24 (nI k) b2 1 X5 else f_X11_owner_24 (nI k) b2 0 X5) = some (b, stX Y 0 0 (if t = true then 1 else 0)) ∧ (t = false → b = v) := by
    intro v F hF hG
    refine ⟨v, false, hF, fun Y e => ⟨v, ?_, fun _ => rfl⟩⟩
    rw [e5 Y e, cal_some, if_neg (show ¬ ((1 : Int32) = 0) by decide), isIn_eq, cal_some, if_neg h2, if_neg (Int32.not_lt.mpr h3), if_neg (show ¬ ((1 : Int32) = 0) by decide), own24, throws_eq 0 (Or.inl rfl), cal_some, if_pos rfl]
    exact hG _ ((stX_row (by omega)).trans (by rw [e]))
  obtain ⟨c, -, c1, c2⟩ := bk_home hB k hk
  obtain ⟨v, -, -, v1, v2⟩ := bk_share hB k hk
  obtain ⟨p, -, p1, p2⟩ := bk_pact hB k hk
  obtain ⟨l, -, l1, l2⟩ := bk_plot hB k hk
  have row := sh_row hS
  by_cases a0 : b2 = 0
  · subst a0
    clear h2 h3
    refine fin (nI c) _ ?_ (fun Y e => ?_)
    · show ldA (C.1 3 (C.2 2 0 1) 8) 8 (nI k) (fun v => rt v (C, false)) = _
      rw [ldA_nI hk8 (by omega), c1]
      rfl
    · show ldA (Y.1 2) 845 (7 + nI k) (fun v => rt (v) Y) = _
      simp (disch := omega) only [nI_la, ldA_nI]
      rw [e, c2]
      rfl
  by_cases a1 : b2 = 1
  · subst a1
    clear h2 h3
    refine fin (C.1 4 0 1 k) _ ?_ (fun Y e => ?_)
    · show ldA (C.1 4 0 1) 8 (nI k) (fun v => rt v (C, false)) = _
      rw [ldA_nI hk8 (by omega)]
      rfl
    · show ldA (Y.1 2) 845 (373 + nI k) (fun v => rt v Y) = _
      simp (disch := omega) only [nI_la, ldA_nI]
      rw [e, row 1 k (by omega) (by omega) hk8]
      rfl
  by_cases a2 : b2 = 2
  · subst a2
    clear h2 h3
    refine fin (C.1 4 0 2 k) _ ?_ (fun Y e => ?_)
    · show ldA (C.1 4 0 2) 8 (nI k) (fun v => rt v (C, false)) = _
      rw [ldA_nI hk8 (by omega)]
      rfl
    · show ldA (Y.1 2) 845 (381 + nI k) (fun v => rt v Y) = _
      simp (disch := omega) only [nI_la, ldA_nI]
      rw [e, row 2 k (by omega) (by omega) hk8]
      rfl
  by_cases a3 : b2 = 3
  · subst a3
    clear h2 h3
    refine fin (nI v) _ ?_ (fun Y e => ?_)
    · show ldA (C.1 3 (C.2 2 0 1) 10) 8 (nI k) (fun v => rt v (C, false)) = _
      rw [ldA_nI hk8 (by omega), v1]
      rfl
    · show ldA (Y.1 2) 845 (23 + nI k) (fun v => rt (v) Y) = _
      simp (disch := omega) only [nI_la, ldA_nI]
      rw [e, v2]
      rfl
  by_cases a4 : b2 = 4
  · subst a4
    clear h2 h3
    refine fin (C.1 4 0 3 k) _ ?_ (fun Y e => ?_)
    · show ldA (C.1 4 0 3) 8 (nI k) (fun v => rt v (C, false)) = _
      rw [ldA_nI hk8 (by omega)]
      rfl
    · show ldA (Y.1 2) 845 (389 + nI k) (fun v => rt v Y) = _
      simp (disch := omega) only [nI_la, ldA_nI]
      rw [e, row 3 k (by omega) (by omega) hk8]
      rfl
  by_cases a5 : b2 = 5
  · subst a5
    clear h2 h3
    refine fin (C.1 4 0 4 k) _ ?_ (fun Y e => ?_)
    · show ldA (C.1 4 0 4) 8 (nI k) (fun v => rt v (C, false)) = _
      rw [ldA_nI hk8 (by omega)]
      rfl
    · show ldA (Y.1 2) 845 (397 + nI k) (fun v => rt v Y) = _
      simp (disch := omega) only [nI_la, ldA_nI]
      rw [e, row 4 k (by omega) (by omega) hk8]
      rfl
  by_cases a6 : b2 = 6
  · subst a6
    clear h2 h3
    refine fin (C.1 4 0 5 k) _ ?_ (fun Y e => ?_)
    · show ldA (C.1 4 0 5) 8 (nI k) (fun v => rt v (C, false)) = _
      rw [ldA_nI hk8 (by omega)]
      rfl
    · show ldA (Y.1 2) 845 (405 + nI k) (fun v => rt v Y) = _
      simp (disch := omega) only [nI_la, ldA_nI]
      rw [e, row 5 k (by omega) (by omega) hk8]
      rfl
  by_cases a7 : b2 = 7
  · subst a7
    clear h2 h3
    refine fin (nI p - 1) _ ?_ (fun Y e => ?_)
    · show ldA (C.1 3 (C.2 2 0 1) 13) 8 (nI k) (fun v => rt v (C, false)) = _
      rw [ldA_nI hk8 (by omega), p1]
      rfl
    · show ldA (Y.1 2) 845 (47 + nI k) (fun v => rt (v - 1) Y) = _
      simp (disch := omega) only [nI_la, ldA_nI]
      rw [e, p2]
      rfl
  by_cases a8 : b2 = 8
  · subst a8
    clear h2 h3
    refine fin (nI l - 1) _ ?_ (fun Y e => ?_)
    · show ldA (C.1 3 (C.2 2 0 1) 14) 8 (nI k) (fun v => rt v (C, false)) = _
      rw [ldA_nI hk8 (by omega), l1]
      rfl
    · show ldA (Y.1 2) 845 (55 + nI k) (fun v => rt (v - 1) Y) = _
      simp (disch := omega) only [nI_la, ldA_nI]
      rw [e, l2]
      rfl
  by_cases a9 : b2 = 9
  · subst a9
    clear h2 h3
    refine fin (C.1 4 0 6 k) _ ?_ (fun Y e => ?_)
    · show ldA (C.1 4 0 6) 8 (nI k) (fun v => rt v (C, false)) = _
      rw [ldA_nI hk8 (by omega)]
      rfl
    · show ldA (Y.1 2) 845 (413 + nI k) (fun v => rt v Y) = _
      simp (disch := omega) only [nI_la, ldA_nI]
      rw [e, row 6 k (by omega) (by omega) hk8]
      rfl
  refine fin (C.1 4 0 7 k) _ ?_ (fun Y e => ?_)
  · rw [if_neg a0, if_neg a1, if_neg a2, if_neg a3, if_neg a4, if_neg a5, if_neg a6, if_neg a7, if_neg a8, if_neg a9, ldA_nI hk8 (by omega)]
    rfl
  · unfold ownG
    rw [if_neg a0, if_neg a1, if_neg a2, if_neg a3, if_neg a4, if_neg a5, if_neg a6, if_neg a7, if_neg a8, if_neg a9]
    simp (disch := omega) only [nI_la, ldA_nI]
    rw [e, row 7 k (by omega) (by omega) hk8]
    rfl
end ASK
