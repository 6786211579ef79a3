/-! Lines of a plan. -/
section PLAN
variable {N : Nat}
/-- numbers below a size that may be none -/
theorem number_lt {C : CM} {X : XM} {i W : Nat} (hN : 2000 ≤ N) (hW : W < 2147483648) (h : PsR N C X i) : (∃ z X', z < W ∧ z ≤ 999 ∧ f_X7_takeNumber 0 (nI W - 1) C = some (nI z, nxC C i) ∧ f_X11_takes N 0 (nI W - 1) X = some (1, X') ∧ NxF (stX X 0 18 (nI z)) X' ∧ PsR N (nxC C i) X' (i + 1)) ∨ (∃ C' X', f_X7_takeNumber 0 (nI W - 1) C = some (-1, C') ∧ f_X11_takes N 0 (nI W - 1) X = some (0, X') ∧ F1 C C' ∧ FaR C' X' ∧ BdF X X') := by
  by_cases hw : 1 ≤ W
  · have e : nI W - 1 = nI (W - 1) := nI_sl hw
    rw [e]
    rcases number_rel hN h (lo := 0) (hi := W - 1) (by omega) (by omega) with ⟨z, X', a1, a2, a3, a4⟩ | q
    · exact Or.inl ⟨z, X', by omega, a3, a4⟩
    · exact Or.inr q
  · have e : nI W - 1 = (-1 : Int32) := by
      rw [show W = 0 by omega]
      decide
    rw [e]
    refine Or.inr ?_
    unfold f_X7_takeNumber f_X11_takes
    have h5 : C.1 1 0 0 5 = 0 := by
      obtain ⟨u, L, lm, t, P, t1, t2, h3, h4, h5, -⟩ := h
      exact h5
    have e5 : (nxC C i).1 1 0 0 5 = 0 := by unfold nxC; rw [stC_ne (by omega)]; exact h5
    rw [ps_kind h]
    have hm := ps_mt h
    obtain ⟨-, q⟩ := id hm
    by_cases e : C.1 1 0 1 i = 4
    · rw [if_pos e, cal_some, if_pos e5]
      rw [e] at q
      obtain ⟨z, z1, z2, z3, z4, z5⟩ : ∃ z, z ≤ 999 ∧ (4 : Int32) = 4 ∧ C.1 1 0 2 i = nI z ∧ X.1 0 11 = 2 ∧ X.1 0 14 = nI z := by
        rcases q with ⟨h1, -⟩ | ⟨h1, -⟩ | ⟨w', -, h1, -⟩ | ⟨h1, -⟩ | q | ⟨c', -, h1, -⟩
        · exact absurd h1 (by decide)
        · exact absurd h1 (by decide)
        · exact absurd h1 (by decide)
        · exact absurd h1 (by decide)
        · exact q
        · exact absurd h1 (by decide)
      unfold f_X11_isIn
      have n1 : ¬ nI z < (0 : Int32) := nI_nneg (by omega)
      have n2 : (-1 : Int32) < nI z := by
        have := nI_pos' (n := z) (by omega)
        exact Int32.lt_of_lt_of_le (by decide) this
      rw [z3, if_pos z4, z5, if_neg n1, if_neg n1, if_neg (Int32.not_le.mpr n2), if_pos n2, cal_rt, if_pos rfl, bad_eq, cal_some]
      unfold f_X7_takeNumber_23 f_X7_takeNumber_28
      rw [ps_taken h, cal_some]
      have hf := (bl_fa h (show (2 : Int32) ≠ 0 by decide)).2
      rw [if_neg hf.1.1]
      exact ⟨blC (nxC C i) 2 (C.1 1 0 3 i), bdX X 2, rfl, rfl, nx_f1.trans bl_f1, hf, bd_bdf⟩
    · have h11 : X.1 0 11 ≠ 2 := by
        rcases q with ⟨h1, h2, h3⟩ | ⟨h1, h3⟩ | ⟨w', h1, h2, h3, h4, h5⟩ | ⟨h1, h2, h3, h4⟩ | ⟨z, h1, h2, h3, h4, h5⟩ | ⟨c', h1, h2, h3, h4, h5⟩
        · rw [h3]; decide
        · rw [h3]; decide
        · rw [h4]; decide
        · rw [h2]; decide
        · exact absurd h2 e
        · rw [h4]; decide
      have hf := (bl_fa h (show (1 : Int32) ≠ 0 by decide)).1
      rw [if_neg e, cal_some, if_neg hf.1.1, if_neg h11, bad_eq, cal_some]
      unfold f_X7_takeNumber_28
      rw [if_neg hf.1.1]
      exact ⟨blC C 1 (C.1 1 0 3 i), bdX X 1, rfl, rfl, bl_f1, hf, bd_bdf⟩
/-- a name of the bank r -/
theorem name_rel {C : CM} {X : XM} {i V o r : Nat} (hN : 2000 ≤ N) (h : PsR N C X i) (h6 : X.2 6 = X0m.2 6) (hV : V ≤ 8) (ho : o ≤ 8) (hc : C.1 3 r 6 0 = nI V) (hn : ∀ k, k < V → NmR (C.1 3 r 7 k) (X.2 5 (o + k))) :
    (f_X11_isName N X = some (1, X) ∧ ∃ k, k < V ∧ f_X1_take N r C = some (nI k, nxC C i) ∧ f_X11_find N (nI o) (nI V) X = some (nI k, X) ∧ C.1 1 0 1 i = 3) ∨
    (f_X11_isName N X = some (1, X) ∧ ∃ C', f_X1_take N r C = some (-1, C') ∧ f_X11_find N (nI o) (nI V) X = some (-1, X) ∧ F1 C C' ∧ FaR C' (bdX X 3)) ∨
    (f_X11_isName N X = some (0, X) ∧ ∃ C', f_X1_take N r C = some (-1, C') ∧ F1 C C' ∧ FaR C' (bdX X 1)) := by
  have hm := ps_mt h
  have hi := isName_rel hN hm h6
  unfold f_X1_take f_X7_takeName f_X1_take_19
  rw [ps_kind h]
  by_cases e : C.1 1 0 1 i = 3
  · rw [if_pos e] at hi
    rw [if_pos e, cal_some, cal_rt]
    obtain ⟨-, q⟩ := id hm
    rw [e] at q
    have hv : NmR (C.1 1 0 2 i) (X.2 0 17) := by
      rcases q with ⟨h1, -⟩ | ⟨h1, -⟩ | ⟨w', -, h1, -⟩ | ⟨-, -, q, -⟩ | ⟨z, -, h1, -⟩ | ⟨c', -, h1, -⟩
      · exact absurd h1 (by decide)
      · exact absurd h1 (by decide)
      · exact absurd h1 (by decide)
      · exact q
      · exact absurd h1 (by decide)
      · exact absurd h1 (by decide)
    have e3 : (nxC C i).1 3 r = C.1 3 r := by unfold nxC; exact stC_ob (by omega)
    have h5 : (nxC C i).1 1 0 0 5 = 0 := by
      obtain ⟨u, L, lm, t, P, t1, t2, h3, h4, h5, -⟩ := h
      unfold nxC; rw [stC_ne (by omega)]; exact h5
    rcases find_rel (C := nxC C i) (X := X) (r := r) hN hV ho (by rw [e3]; exact hc) (by rw [e3]; exact hn) hv with ⟨k, k1, k2, k3, k4⟩ | ⟨k1, k3, k4⟩
    · refine Or.inl ⟨hi, k, k1, ?_, k4, e⟩
      rw [k3, cal_some, if_neg (fun e => nI_nneg (show k < 2147483648 by omega) (by rw [e]; decide))]
      unfold f_X7_isSound
      rw [if_pos h5]
      rfl
    · refine Or.inr (Or.inl ⟨hi, blC (nxC C i) 3 (C.1 1 0 3 i), ?_, k4, nx_f1.trans bl_f1, (bl_fa h (by decide)).2⟩)
      rw [k3, cal_some, if_pos rfl, ps_taken h, cal_some, fa_sound (bl_fa h (by decide)).2.1, cal_some]
      rfl
  · rw [if_neg e] at hi
    rw [if_neg e, cal_some, cal_rt]
    have hf := (bl_fa h (show (1 : Int32) ≠ 0 by decide)).1
    obtain ⟨w, hw⟩ := fa_find (C := blC C 1 (C.1 1 0 3 i)) (r := r) hN (-1) hV (by unfold blC; rw [stC_ob (by omega), stC_ob (by omega)]; exact hc)
    refine Or.inr (Or.inr ⟨hi, blC C 1 (C.1 1 0 3 i), ?_, bl_f1, hf⟩)
    rw [hw, cal_some]
    by_cases hw1 : w = -1
    · rw [if_pos hw1, (fa_blame hf.1 3).2, cal_some, fa_sound hf.1, cal_some]
      rfl
    · rw [if_neg hw1, fa_sound hf.1, cal_some]
      rfl
/-- frames: what a line of a plan touches -/
def FL (r k : Nat) (C C' : CM) : Prop := C'.2 = C.2 ∧ (∀ q i, q ≠ 1 → ¬ (q = 5 ∧ i = r) → C'.1 q i = C.1 q i) ∧ C'.1 5 r 0 = C.1 5 r 0 ∧ ∀ j l, l ≠ k → C'.1 5 r j l = C.1 5 r j l
theorem FL.rf (r k : Nat) (C : CM) : FL r k C C := ⟨rfl, fun _ _ _ _ => rfl, rfl, fun _ _ _ => rfl⟩
theorem FL.trans {r k : Nat} {A B C : CM} (h1 : FL r k A B) (h2 : FL r k B C) : FL r k A C := ⟨h2.1.trans h1.1, fun q i a b => (h2.2.1 q i a b).trans (h1.2.1 q i a b), h2.2.2.1.trans h1.2.2.1, fun j l h => (h2.2.2.2 j l h).trans (h1.2.2.2 j l h)⟩
theorem fl_f1 {r k : Nat} {C C' : CM} (h : F1 C C') : FL r k C C' := ⟨h.1, fun q i a _ => by rw [h.2 q a], by rw [h.2 5 (by omega)], fun j l _ => by rw [h.2 5 (by omega)]⟩
theorem fl_st {r k j : Nat} {C : CM} {v : Int32} (hj : j ≠ 0) : FL r k C (stC C 5 r j k v) := by
  refine ⟨rfl, fun q i a b => ?_, stC_row (by omega), fun j' l hl => ?_⟩
  · funext j' x
    simp only [stC]
    rw [if_neg (by omega)]
  · simp only [stC]
    rw [if_neg (by omega)]
def GL (k : Nat) (X X' : XM) : Prop := (∀ x, lastF x = true → x ≠ 15 → X'.1 0 x = X.1 0 x) ∧ (∀ j, lastR j = true → X'.1 j = X.1 j) ∧ X'.2 5 = X.2 5 ∧ X'.2 6 = X.2 6 ∧ X'.2 18 = X.2 18 ∧ X'.1 0 40 = X.1 0 40 ∧ ∀ y, y < 1 + 4 * k → X'.1 4 y = X.1 4 y
theorem GL.rf (k : Nat) (X : XM) : GL k X X := ⟨fun _ _ _ => rfl, fun _ _ => rfl, rfl, rfl, rfl, rfl, fun _ _ => rfl⟩
theorem GL.trans {k : Nat} {A B C : XM} (h1 : GL k A B) (h2 : GL k B C) : GL k A C := ⟨fun x a b => (h2.1 x a b).trans (h1.1 x a b), fun j a => (h2.2.1 j a).trans (h1.2.1 j a), h2.2.2.1.trans h1.2.2.1, h2.2.2.2.1.trans h1.2.2.2.1, h2.2.2.2.2.1.trans h1.2.2.2.2.1, h2.2.2.2.2.2.1.trans h1.2.2.2.2.2.1, fun y hy => (h2.2.2.2.2.2.2 y hy).trans (h1.2.2.2.2.2.2 y hy)⟩
theorem lf_no {x : Nat} (h : lastF x = true) : x = 2 ∨ x = 15 ∨ x = 33 ∨ x = 34 ∨ x = 35 ∨ x = 38 ∨ x = 43 := by
  simp only [lastF, Bool.or_eq_true, beq_iff_eq] at h
  omega
theorem lr_no {x : Nat} (h : lastR x = true) : x = 1 ∨ x = 2 ∨ x = 10 ∨ x = 12 ∨ x = 13 ∨ x = 17 ∨ x = 19 := by
  simp only [lastR, Bool.or_eq_true, beq_iff_eq] at h
  omega
theorem gl_nx {k : Nat} {X X' : XM} (h : NxF X X') : GL k X X' := by
  refine ⟨fun x a b => ?_, fun j hj => ?_, ?_, ?_, ?_, ?_, fun y _ => ?_⟩
  · have := lf_no a
    exact h.2.1 x (by omega) (by omega) (by omega) (by omega) (by omega)
  · have := lr_no hj
    exact h.1 j (by omega)
  · exact funext fun x => h.2.2 5 x (by omega)
  · exact funext fun x => h.2.2 6 x (by omega)
  · exact funext fun x => h.2.2 18 x (by omega)
  · exact h.2.1 40 (by omega) (by omega) (by omega) (by omega) (by omega)
  · rw [h.1 4 (by omega)]
theorem gl_bd {k : Nat} {X X' : XM} (h : BdF X X') : GL k X X' := by
  refine ⟨fun x a b => ?_, fun j hj => ?_, by rw [h.1], by rw [h.1], by rw [h.1], h.2.2 40 (by omega) (by omega), fun y _ => by rw [h.2.1 4 (by omega)]⟩
  · have := lf_no a
    exact h.2.2 x b (by omega)
  · have := lr_no hj
    exact h.2.1 j (by omega)
theorem gl_4 {k y : Nat} {X : XM} {v : Int32} (hy : 1 + 4 * k ≤ y) : GL k X (stX X 4 y v) := by
  refine ⟨fun x a b => by rw [stX_row (by omega)], fun j hj => ?_, rfl, rfl, rfl, by rw [stX_row (by omega)], fun y' hy' => stX_ne (by omega)⟩
  have := lr_no hj
  exact stX_row (by omega)
theorem gl_18 {k : Nat} {X : XM} {v : Int32} : GL k X (stX X 0 18 v) := by
  refine ⟨fun x a b => ?_, fun j hj => ?_, rfl, rfl, rfl, stX_ne (by omega), fun y _ => by rw [stX_row (by omega)]⟩
  · have := lf_no a
    exact stX_ne (by omega)
  · have := lr_no hj
    exact stX_row (by omega)
end PLAN
