/-! A cell of the bank that is read. -/
section CELL
variable {N : Nat}
theorem numC {C : CM} {X : XM} {i H : Nat} (hH : H < 2147483648) (h : PsR N C X i) : (∃ z, z ≤ 999 ∧ C.1 1 0 1 i = 4 ∧ X.1 0 11 = 2 ∧ X.1 0 14 = nI z ∧ (z < H → f_X7_takeNumber 0 (nI H - 1) C = some (nI z, nxC C i)) ∧ (H ≤ z → f_X7_takeNumber 0 (nI H - 1) C = some (-1, blC (nxC C i) 2 (C.1 1 0 3 i)))) ∨ (X.1 0 11 ≠ 2 ∧ f_X7_takeNumber 0 (nI H - 1) C = some (-1, blC C 1 (C.1 1 0 3 i))) := by
  obtain ⟨-, q⟩ := ps_mt h
  have e5 : (nxC C i).1 1 0 0 5 = 0 := by unfold nxC; rw [stC_ne (by omega)]; exact ps_5 h
  unfold f_X7_takeNumber f_X7_takeNumber_23 f_X7_takeNumber_28
  rw [ps_kind h]
  by_cases e : C.1 1 0 1 i = 4
  · rw [e] at q
    obtain ⟨z, z1, z2, z3, z4, z5⟩ : ∃ z, z ≤ 999 ∧ (4 : Int32) = 4 ∧ C.1 1 0 2 i = nI z ∧ X.1 0 11 = 2 ∧ X.1 0 14 = nI z := by
      rcases q with ⟨h1, -⟩ | ⟨h1, -⟩ | ⟨w', -, h1, -⟩ | ⟨h1, -⟩ | q | ⟨c', -, h1, -⟩
      · exact absurd h1 (by decide)
      · exact absurd h1 (by decide)
      · exact absurd h1 (by decide)
      · exact absurd h1 (by decide)
      · exact q
      · exact absurd h1 (by decide)
    have hle : (nI z ≤ nI H - 1) = (z < H) := by
      by_cases hw : 1 ≤ H
      · rw [show nI H - 1 = nI (H - 1) from nI_sl hw, le_nn (by omega) (by omega)]
        exact propext ⟨fun _ => by omega, fun _ => by omega⟩
      · have e0 : nI H - 1 = (-1 : Int32) := by
          rw [show H = 0 by omega]
          decide
        rw [e0]
        refine propext ⟨fun q => absurd (Int32.lt_of_le_of_lt q (show (-1 : Int32) < 0 by decide)) (nI_nneg (by omega)), fun q => by omega⟩
    refine Or.inl ⟨z, z1, e, z4, z5, fun hz => ?_, fun hz => ?_⟩
    · rw [if_pos e, cal_some, if_pos e5, z3, if_neg (nI_nneg (by omega)), if_pos (by rw [hle]; exact hz), if_pos e5]
      rfl
    · have hf := (bl_fa h (show (2 : Int32) ≠ 0 by decide)).2
      rw [if_pos e, cal_some, if_pos e5, z3, if_neg (nI_nneg (by omega)), if_neg (by rw [hle]; omega), ps_taken h, cal_some, if_neg hf.1.1]
      rfl
  · have hf := (bl_fa h (show (1 : Int32) ≠ 0 by decide)).1
    refine Or.inr ⟨?_, ?_⟩
    · rcases q with ⟨h1, h2, h3⟩ | ⟨h1, h3⟩ | ⟨w', h1, h2, h3, h4, h5⟩ | ⟨h1, h2, h3, h4⟩ | ⟨z, h1, h2, h3, h4, h5⟩ | ⟨c', h1, h2, h3, h4, h5⟩
      · rw [h3]; decide
      · rw [h3]; decide
      · rw [h4]; decide
      · rw [h2]; decide
      · exact absurd h2 e
      · rw [h4]; decide
    · rw [if_neg e, cal_some, if_neg hf.1.1, if_neg hf.1.1]
      rfl
/-- what looking at a cell touches -/
def LkF (X X' : XM) : Prop := (∀ j, j ≠ 0 → X'.1 j = X.1 j) ∧ (∀ x, x ≠ 4 → x ≠ 11 → x ≠ 12 → x ≠ 13 → x ≠ 14 → x ≠ 15 → x ≠ 16 → x ≠ 18 → x ≠ 25 → X'.1 0 x = X.1 0 x) ∧ ∀ j x, ¬ (j = 0 ∧ x = 17) → X'.2 j x = X.2 j x
theorem LkF.trans {A B C : XM} (h1 : LkF A B) (h2 : LkF B C) : LkF A C := ⟨fun j hj => (h2.1 j hj).trans (h1.1 j hj), fun x a b c d e f g h k => (h2.2.1 x a b c d e f g h k).trans (h1.2.1 x a b c d e f g h k), fun j x h => (h2.2.2 j x h).trans (h1.2.2 j x h)⟩
theorem lk_nx {X X' : XM} (h : NxF X X') : LkF X X' := ⟨h.1, fun x a b c d e _ _ _ _ => h.2.1 x a b c d e, h.2.2⟩
theorem lk_bd {X X' : XM} (h : BdF X X') : LkF X X' := ⟨h.2.1, fun x _ _ _ _ _ a b _ _ => h.2.2 x a b, fun j x _ => by rw [h.1]⟩
theorem lk_f {X : XM} {x : Nat} {v : Int32} (h : x = 18 ∨ x = 25) : LkF X (stX X 0 x v) := ⟨fun j hj => stX_row hj, fun y _ _ _ _ _ _ _ a b => stX_ne (by omega), fun _ _ _ => rfl⟩
theorem cell_rel {C : CM} {X : XM} {b i W H : Nat} (hN : 2000 ≤ N) (hW : W ≤ 10) (hH : H ≤ 10) (h : PsR N C X i) (cw : C.1 3 b 0 1 = nI W) (ch : C.1 3 b 0 2 = nI H) (xw : X.1 3 0 = nI W) (xh : X.1 3 1 = nI H) :
    (∃ x y X', x < W ∧ y < H ∧ f_X0_takeCell b C = some (nI (y * 10 + x), nxC (nxC C i) (i + 1)) ∧ f_X11_looksAtCell N X = some (1, X') ∧ X'.1 0 18 = nI (y * 10 + x) ∧ PsR N (nxC C i) X' (i + 1) ∧ C.1 1 0 1 (i + 1) = 4 ∧ LkF X X') ∨
    (∃ C' X', f_X0_takeCell b C = some (-1, C') ∧ f_X11_looksAtCell N X = some (0, X') ∧ F1 C C' ∧ FaR C' X' ∧ LkF X X') := by
  unfold f_X0_takeCell f_X11_looksAtCell
  have xw' : X.1 3 (OfNat.ofNat 0) = nI W := xw
  rw [ldA_l (by decide) (by decide), xw', cw]
  rcases number_lt hN (W := W) (by omega) h with ⟨x, X5, x1, x2, n1, n2, n3, n4⟩ | ⟨C', X', n1, n2, n3, n4, n5⟩
  · have e18 := nx_18 n3
    have c2 : (nxC C i).1 3 b 0 2 = nI H := by unfold nxC; rw [stC_ob (by omega)]; exact ch
    have p5 : PsR N (nxC C i) (stX X5 0 25 (nI x)) (i + 1) := psR_c n4 rfl (xp_f (by omega))
    have e25 : (stX X5 0 25 (nI x)).1 0 25 = nI x := stX_at
    have xh' : (stX X5 0 25 (nI x)).1 3 (OfNat.ofNat 1) = nI H := by
      show (stX X5 0 25 (nI x)).1 3 1 = nI H
      rw [stX_row (by omega), n3.1 3 (by omega), stX_row (by omega)]; exact xh
    have lk5 : LkF X (stX X5 0 25 (nI x)) := (lk_f (x := 18) (v := nI x) (Or.inl rfl)).trans ((lk_nx n3).trans (lk_f (Or.inr rfl)))
    rw [n1, n2, cal_some, cal_some, if_neg (show ¬ (1 : Int32) = 0 by decide), e18, bnd_v, c2]
    rcases numC (H := H) (by omega) p5 with ⟨y, y1, y2, y3, y4, y5, y6⟩ | ⟨y3, y4⟩
    · rw [if_pos y3, y4, ldA_l (by decide) (by decide), xh']
      simp (disch := omega) only [lt_nn]
      by_cases hy : y < H
      · have s2 : f_X7_isSound (nxC (nxC C i) (i + 1)) = some (1, nxC (nxC C i) (i + 1)) := by
          unfold f_X7_isSound
          rw [if_pos (by unfold nxC; rw [stC_ne (by omega), stC_ne (by omega)]; exact ps_5 h)]
          rfl
        have ev : nI y * 10 + nI x = nI (y * 10 + x) := by rw [nI_ml]; exact nI_add _ _
        have ev' : (10 : Int32) * nI y + nI x = nI (y * 10 + x) := by rw [nI_lm, Nat.mul_comm]; exact nI_add _ _
        rw [y5 hy, cal_some, s2, cal_some, if_neg (show ¬ (1 : Int32) = 0 by decide), if_pos hy, e25, ev, ev', bnd_v]
        refine Or.inl ⟨x, y, stX (stX X5 0 25 (nI x)) 0 18 (nI (y * 10 + x)), x1, hy, rfl, rfl, stX_at, psR_c p5 rfl (xp_f (by omega)), ?_, lk5.trans (lk_f (Or.inl rfl))⟩
        have : (nxC C i).1 1 0 1 (i + 1) = C.1 1 0 1 (i + 1) := by unfold nxC; rw [stC_row (by omega)]
        rw [← this]
        exact y2
      · have hfa := (bl_fa p5 (show (2 : Int32) ≠ 0 by decide)).2
        rw [y6 (by omega), cal_some, fa_sound hfa.1, cal_some, if_pos rfl, if_neg hy, bad_eq, cal_some]
        exact Or.inr ⟨_, bdX (stX X5 0 25 (nI x)) 2, rfl, rfl, nx_f1.trans (nx_f1.trans bl_f1), hfa, lk5.trans (lk_bd bd_bdf)⟩
    · have hfa := (bl_fa p5 (show (1 : Int32) ≠ 0 by decide)).1
      rw [y4, cal_some, fa_sound hfa.1, cal_some, if_pos rfl, if_neg y3, bad_eq, cal_some]
      exact Or.inr ⟨_, bdX (stX X5 0 25 (nI x)) 1, rfl, rfl, nx_f1.trans bl_f1, hfa, lk5.trans (lk_bd bd_bdf)⟩
  · rw [n1, n2, cal_some, cal_some, if_pos rfl, fa_number n4.1, cal_some, fa_sound n4.1, cal_some, if_pos rfl]
    exact Or.inr ⟨C', X', rfl, rfl, n3, n4, lk_bd n5⟩
end CELL
