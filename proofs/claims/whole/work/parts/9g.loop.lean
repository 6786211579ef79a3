/-! A line of the bank, whatever its word; all lines. -/
section LN5
variable {N : Nat} {C : CM} {X : XM} {r i W H V T : Nat}
theorem lineP_c {y : Option (Int32 × CM)} {y' : Option (Int32 × XM)} (h : LineP N r C X y y') : LineP N r C X (cal y (fun _ c => rt 0 c)) y' := by
  rcases h with ⟨C', X', i', W, H, V, T, h1, h2, h3⟩ | ⟨C', X', h1, h2, h3⟩
  · exact Or.inl ⟨C', X', i', W, H, V, T, by rw [h1, cal_some]; rfl, h2, h3⟩
  · exact Or.inr ⟨C', X', by rw [h1, cal_some]; rfl, h2, h3⟩
theorem lineP_x {y : Option (Int32 × CM)} {y' : Option (Int32 × XM)} (h : LineP N r C X y y') : LineP N r C X y (cal y' (fun v x => chk (isB v) (rt v x))) := by
  rcases h with ⟨C', X', i', W, H, V, T, h1, h2, h3⟩ | ⟨C', X', h1, h2, h3⟩
  · exact Or.inl ⟨C', X', i', W, H, V, T, h1, by rw [h2, cal_some]; rfl, h3⟩
  · exact Or.inr ⟨C', X', h1, by rw [h2, cal_some]; rfl, h3⟩
theorem word9 (h : PsR N C X i) : (∃ w, w ≤ 9 ∧ C.1 1 0 1 i = 2 ∧ f_X7_takeWord 0 9 C = some (nI w, nxC C i) ∧ ∀ u, u < 24 → f_X11_isWord (resV u) X = some (if u = w then 1 else 0, X)) ∨ (f_X7_takeWord 0 9 C = some (-1, blC C 1 (C.1 1 0 3 i)) ∧ ∀ u, u ≤ 9 → f_X11_isWord (resV u) X = some (0, X)) := by
  have hm := ps_mt h
  unfold f_X7_takeWord f_X7_takeWord_15
  rw [ps_word h, cal_some, ps_blame h, cal_some, ps_kind h]
  by_cases e2 : C.1 1 0 1 i = 2
  · rw [if_pos e2, if_pos e2, cal_some]
    obtain ⟨w, hw, hv⟩ : ∃ w, w < 24 ∧ C.1 1 0 2 i = nI w := by
      obtain ⟨-, q⟩ := hm
      rw [e2] at q
      rcases q with ⟨h1, -⟩ | ⟨h1, -⟩ | ⟨w', h0, h1, h2, -⟩ | ⟨h1, -⟩ | ⟨z, -, h1, -⟩ | ⟨c', -, h1, -⟩
      · exact absurd h1 (by decide)
      · exact absurd h1 (by decide)
      · exact ⟨w', h0, h2⟩
      · exact absurd h1 (by decide)
      · exact absurd h1 (by decide)
      · exact absurd h1 (by decide)
    have all : ∀ u, u < 24 → f_X11_isWord (resV u) X = some (if u = w then 1 else 0, X) := fun u hu => by
      rw [isWord_rel hm hu, hv]
      by_cases e : u = w
      · rw [if_pos ⟨e2, by rw [e]⟩, if_pos e]
      · rw [if_neg (fun q => e (by have := q.2; rw [eq_nn (by omega) (by omega)] at this; exact this.symm)), if_neg e]
    rw [hv, if_neg (nI_nneg (by omega))]
    simp (disch := omega) only [le_nl]
    by_cases hh : w ≤ 9
    · rw [if_pos hh]
      exact Or.inl ⟨w, hh, e2, rfl, all⟩
    · rw [if_neg hh]
      exact Or.inr ⟨rfl, fun u hu => by rw [all u (by omega), if_neg (by omega)]⟩
  · rw [if_neg e2, if_pos (by decide)]
    exact Or.inr ⟨rfl, fun u hu => by rw [isWord_rel hm (by omega), if_neg (fun q => e2 q.1)]⟩
theorem rv_0 : (2036429412 : Int64) = resV 0 := by decide
theorem rv_1 : (478745093490 : Int64) = resV 1 := by decide
theorem rv_2 : (1986096741 : Int64) = resV 2 := by decide
theorem rv_3 : (1953654117 : Int64) = resV 3 := by decide
theorem rv_4 : (439788397413 : Int64) = resV 4 := by decide
theorem rv_5 : (1701078137 : Int64) = resV 5 := by decide
theorem rv_6 : (1735750516 : Int64) = resV 6 := by decide
theorem rv_7 : (1885430644 : Int64) = resV 7 := by decide
theorem rv_8 : (1886154612 : Int64) = resV 8 := by decide
theorem rv_9 : (7501166 : Int64) = resV 9 := by decide
theorem line_rel (hN : 2000 ≤ N) (h : PsR N C X i) (hb : HbR (C.1 3 r) (X.1 3) (X.1 0) (X.2 5) W H V T) (h6 : X.2 6 = X0m.2 6) : LineP N r C X (f_X0_readLine N r C) (f_X11_line N X) := by
  unfold f_X0_readLine f_X11_line
  rcases word9 h with ⟨w, w9, e2, t1, hW⟩ | ⟨t1, hW⟩
  · rw [t1, cal_some]
    rcases (show w = 0 ∨ w = 1 ∨ w = 2 ∨ w = 3 ∨ w = 4 ∨ w = 5 ∨ w = 6 ∨ w = 7 ∨ w = 8 ∨ w = 9 by omega) with rfl | rfl | rfl | rfl | rfl | rfl | rfl | rfl | rfl | rfl
    · rw [rv_0, hW 0 (by omega), if_pos (show (0 : Nat) = 0 from rfl), cal_some, if_neg (show ¬ (1 : Int32) = 0 by decide), if_pos (show nI 0 = (0 : Int32) from rfl)]
      exact lineP_c (yard_line hN h e2 hb)
    · rw [rv_0, hW 0 (by omega), if_neg (show ¬ (0 : Nat) = 1 by omega), cal_some, if_pos (show (0 : Int32) = 0 from rfl), rv_1, hW 1 (by omega), if_pos (show (1 : Nat) = 1 from rfl), cal_some, if_neg (show ¬ (1 : Int32) = 0 by decide), if_neg (show ¬ nI 1 = (0 : Int32) by decide), if_pos (show nI 1 = (1 : Int32) from rfl)]
      exact lineP_c (lineP_x (owner_line hN h e2 hb h6))
    · rw [rv_0, hW 0 (by omega), if_neg (show ¬ (0 : Nat) = 2 by omega), cal_some, if_pos (show (0 : Int32) = 0 from rfl), rv_1, hW 1 (by omega), if_neg (show ¬ (1 : Nat) = 2 by omega), cal_some, if_pos (show (0 : Int32) = 0 from rfl), rv_2, hW 2 (by omega), if_pos (show (2 : Nat) = 2 from rfl), cal_some, if_neg (show ¬ (1 : Int32) = 0 by decide), if_neg (show ¬ nI 2 = (0 : Int32) by decide), if_neg (show ¬ nI 2 = (1 : Int32) by decide), if_pos (show nI 2 = (2 : Int32) from rfl)]
      exact lineP_c (vane_line hN h e2 hb h6)
    · rw [rv_0, hW 0 (by omega), if_neg (show ¬ (0 : Nat) = 3 by omega), cal_some, if_pos (show (0 : Int32) = 0 from rfl), rv_1, hW 1 (by omega), if_neg (show ¬ (1 : Nat) = 3 by omega), cal_some, if_pos (show (0 : Int32) = 0 from rfl), rv_2, hW 2 (by omega), if_neg (show ¬ (2 : Nat) = 3 by omega), cal_some, if_pos (show (0 : Int32) = 0 from rfl), rv_3, hW 3 (by omega), if_pos (show (3 : Nat) = 3 from rfl), cal_some, if_neg (show ¬ (1 : Int32) = 0 by decide), if_neg (show ¬ nI 3 = (0 : Int32) by decide), if_neg (show ¬ nI 3 = (1 : Int32) by decide), if_neg (show ¬ nI 3 = (2 : Int32) by decide), if_pos (show nI 3 = (3 : Int32) from rfl)]
      exact lineP_c (tree_line hN h e2 hb)
    · rw [rv_0, hW 0 (by omega), if_neg (show ¬ (0 : Nat) = 4 by omega), cal_some, if_pos (show (0 : Int32) = 0 from rfl), rv_1, hW 1 (by omega), if_neg (show ¬ (1 : Nat) = 4 by omega), cal_some, if_pos (show (0 : Int32) = 0 from rfl), rv_2, hW 2 (by omega), if_neg (show ¬ (2 : Nat) = 4 by omega), cal_some, if_pos (show (0 : Int32) = 0 from rfl), rv_3, hW 3 (by omega), if_neg (show ¬ (3 : Nat) = 4 by omega), cal_some, if_pos (show (0 : Int32) = 0 from rfl), rv_4, hW 4 (by omega), if_pos (show (4 : Nat) = 4 from rfl), cal_some, if_neg (show ¬ (1 : Int32) = 0 by decide), if_neg (show ¬ nI 4 = (0 : Int32) by decide), if_neg (show ¬ nI 4 = (1 : Int32) by decide), if_neg (show ¬ nI 4 = (2 : Int32) by decide), if_neg (show ¬ nI 4 = (3 : Int32) by decide), if_pos (show nI 4 = (4 : Int32) from rfl)]
      exact lineP_c (fence_line hN h e2 hb)
    · rw [rv_0, hW 0 (by omega), if_neg (show ¬ (0 : Nat) = 5 by omega), cal_some, if_pos (show (0 : Int32) = 0 from rfl), rv_1, hW 1 (by omega), if_neg (show ¬ (1 : Nat) = 5 by omega), cal_some, if_pos (show (0 : Int32) = 0 from rfl), rv_2, hW 2 (by omega), if_neg (show ¬ (2 : Nat) = 5 by omega), cal_some, if_pos (show (0 : Int32) = 0 from rfl), rv_3, hW 3 (by omega), if_neg (show ¬ (3 : Nat) = 5 by omega), cal_some, if_pos (show (0 : Int32) = 0 from rfl), rv_4, hW 4 (by omega), if_neg (show ¬ (4 : Nat) = 5 by omega), cal_some, if_pos (show (0 : Int32) = 0 from rfl), rv_5, hW 5 (by omega), if_pos (show (5 : Nat) = 5 from rfl), cal_some, if_neg (show ¬ (1 : Int32) = 0 by decide), if_neg (show ¬ nI 5 = (0 : Int32) by decide), if_neg (show ¬ nI 5 = (1 : Int32) by decide), if_neg (show ¬ nI 5 = (2 : Int32) by decide), if_neg (show ¬ nI 5 = (3 : Int32) by decide), if_neg (show ¬ nI 5 = (4 : Int32) by decide), if_pos (show nI 5 = (5 : Int32) from rfl)]
      exact lineP_c (lineP_x (eddy_line hN h e2 hb))
    · rw [rv_0, hW 0 (by omega), if_neg (show ¬ (0 : Nat) = 6 by omega), cal_some, if_pos (show (0 : Int32) = 0 from rfl), rv_1, hW 1 (by omega), if_neg (show ¬ (1 : Nat) = 6 by omega), cal_some, if_pos (show (0 : Int32) = 0 from rfl), rv_2, hW 2 (by omega), if_neg (show ¬ (2 : Nat) = 6 by omega), cal_some, if_pos (show (0 : Int32) = 0 from rfl), rv_3, hW 3 (by omega), if_neg (show ¬ (3 : Nat) = 6 by omega), cal_some, if_pos (show (0 : Int32) = 0 from rfl), rv_4, hW 4 (by omega), if_neg (show ¬ (4 : Nat) = 6 by omega), cal_some, if_pos (show (0 : Int32) = 0 from rfl), rv_5, hW 5 (by omega), if_neg (show ¬ (5 : Nat) = 6 by omega), cal_some, if_pos (show (0 : Int32) = 0 from rfl), rv_6, hW 6 (by omega), if_pos (show (6 : Nat) = 6 from rfl), cal_some, if_neg (show ¬ (1 : Int32) = 0 by decide), if_neg (show ¬ nI 6 = (0 : Int32) by decide), if_neg (show ¬ nI 6 = (1 : Int32) by decide), if_neg (show ¬ nI 6 = (2 : Int32) by decide), if_neg (show ¬ nI 6 = (3 : Int32) by decide), if_neg (show ¬ nI 6 = (4 : Int32) by decide), if_neg (show ¬ nI 6 = (5 : Int32) by decide), if_pos (show nI 6 = (6 : Int32) from rfl)]
      exact lineP_c (lineP_x (gust_line hN h e2 hb))
    · rw [rv_0, hW 0 (by omega), if_neg (show ¬ (0 : Nat) = 7 by omega), cal_some, if_pos (show (0 : Int32) = 0 from rfl), rv_1, hW 1 (by omega), if_neg (show ¬ (1 : Nat) = 7 by omega), cal_some, if_pos (show (0 : Int32) = 0 from rfl), rv_2, hW 2 (by omega), if_neg (show ¬ (2 : Nat) = 7 by omega), cal_some, if_pos (show (0 : Int32) = 0 from rfl), rv_3, hW 3 (by omega), if_neg (show ¬ (3 : Nat) = 7 by omega), cal_some, if_pos (show (0 : Int32) = 0 from rfl), rv_4, hW 4 (by omega), if_neg (show ¬ (4 : Nat) = 7 by omega), cal_some, if_pos (show (0 : Int32) = 0 from rfl), rv_5, hW 5 (by omega), if_neg (show ¬ (5 : Nat) = 7 by omega), cal_some, if_pos (show (0 : Int32) = 0 from rfl), rv_6, hW 6 (by omega), if_neg (show ¬ (6 : Nat) = 7 by omega), cal_some, if_pos (show (0 : Int32) = 0 from rfl), rv_7, hW 7 (by omega), if_pos (show (7 : Nat) = 7 from rfl), cal_some, if_neg (show ¬ (1 : Int32) = 0 by decide), if_neg (show ¬ nI 7 = (0 : Int32) by decide), if_neg (show ¬ nI 7 = (1 : Int32) by decide), if_neg (show ¬ nI 7 = (2 : Int32) by decide), if_neg (show ¬ nI 7 = (3 : Int32) by decide), if_neg (show ¬ nI 7 = (4 : Int32) by decide), if_neg (show ¬ nI 7 = (5 : Int32) by decide), if_neg (show ¬ nI 7 = (6 : Int32) by decide), if_pos (show nI 7 = (7 : Int32) from rfl)]
      exact lineP_c (lineP_x (pact_line hN h e2 hb h6))
    · rw [rv_0, hW 0 (by omega), if_neg (show ¬ (0 : Nat) = 8 by omega), cal_some, if_pos (show (0 : Int32) = 0 from rfl), rv_1, hW 1 (by omega), if_neg (show ¬ (1 : Nat) = 8 by omega), cal_some, if_pos (show (0 : Int32) = 0 from rfl), rv_2, hW 2 (by omega), if_neg (show ¬ (2 : Nat) = 8 by omega), cal_some, if_pos (show (0 : Int32) = 0 from rfl), rv_3, hW 3 (by omega), if_neg (show ¬ (3 : Nat) = 8 by omega), cal_some, if_pos (show (0 : Int32) = 0 from rfl), rv_4, hW 4 (by omega), if_neg (show ¬ (4 : Nat) = 8 by omega), cal_some, if_pos (show (0 : Int32) = 0 from rfl), rv_5, hW 5 (by omega), if_neg (show ¬ (5 : Nat) = 8 by omega), cal_some, if_pos (show (0 : Int32) = 0 from rfl), rv_6, hW 6 (by omega), if_neg (show ¬ (6 : Nat) = 8 by omega), cal_some, if_pos (show (0 : Int32) = 0 from rfl), rv_7, hW 7 (by omega), if_neg (show ¬ (7 : Nat) = 8 by omega), cal_some, if_pos (show (0 : Int32) = 0 from rfl), rv_8, hW 8 (by omega), if_pos (show (8 : Nat) = 8 from rfl), cal_some, if_neg (show ¬ (1 : Int32) = 0 by decide), if_neg (show ¬ nI 8 = (0 : Int32) by decide), if_neg (show ¬ nI 8 = (1 : Int32) by decide), if_neg (show ¬ nI 8 = (2 : Int32) by decide), if_neg (show ¬ nI 8 = (3 : Int32) by decide), if_neg (show ¬ nI 8 = (4 : Int32) by decide), if_neg (show ¬ nI 8 = (5 : Int32) by decide), if_neg (show ¬ nI 8 = (6 : Int32) by decide), if_neg (show ¬ nI 8 = (7 : Int32) by decide), if_pos (show nI 8 = (8 : Int32) from rfl)]
      exact lineP_c (lineP_x (plot_line hN h e2 hb h6))
    · rw [rv_0, hW 0 (by omega), if_neg (show ¬ (0 : Nat) = 9 by omega), cal_some, if_pos (show (0 : Int32) = 0 from rfl), rv_1, hW 1 (by omega), if_neg (show ¬ (1 : Nat) = 9 by omega), cal_some, if_pos (show (0 : Int32) = 0 from rfl), rv_2, hW 2 (by omega), if_neg (show ¬ (2 : Nat) = 9 by omega), cal_some, if_pos (show (0 : Int32) = 0 from rfl), rv_3, hW 3 (by omega), if_neg (show ¬ (3 : Nat) = 9 by omega), cal_some, if_pos (show (0 : Int32) = 0 from rfl), rv_4, hW 4 (by omega), if_neg (show ¬ (4 : Nat) = 9 by omega), cal_some, if_pos (show (0 : Int32) = 0 from rfl), rv_5, hW 5 (by omega), if_neg (show ¬ (5 : Nat) = 9 by omega), cal_some, if_pos (show (0 : Int32) = 0 from rfl), rv_6, hW 6 (by omega), if_neg (show ¬ (6 : Nat) = 9 by omega), cal_some, if_pos (show (0 : Int32) = 0 from rfl), rv_7, hW 7 (by omega), if_neg (show ¬ (7 : Nat) = 9 by omega), cal_some, if_pos (show (0 : Int32) = 0 from rfl), rv_8, hW 8 (by omega), if_neg (show ¬ (8 : Nat) = 9 by omega), cal_some, if_pos (show (0 : Int32) = 0 from rfl), rv_9, hW 9 (by omega), if_pos (show (9 : Nat) = 9 from rfl), cal_some, if_neg (show ¬ (1 : Int32) = 0 by decide), if_neg (show ¬ nI 9 = (0 : Int32) by decide), if_neg (show ¬ nI 9 = (1 : Int32) by decide), if_neg (show ¬ nI 9 = (2 : Int32) by decide), if_neg (show ¬ nI 9 = (3 : Int32) by decide), if_neg (show ¬ nI 9 = (4 : Int32) by decide), if_neg (show ¬ nI 9 = (5 : Int32) by decide), if_neg (show ¬ nI 9 = (6 : Int32) by decide), if_neg (show ¬ nI 9 = (7 : Int32) by decide), if_neg (show ¬ nI 9 = (8 : Int32) by decide), if_pos (show nI 9 = (9 : Int32) from rfl)]
      exact lineP_c (run_line hN h e2 hb)
  · rw [t1, cal_some, if_neg (show ¬ (-1 : Int32) = 0 by decide), if_neg (show ¬ (-1 : Int32) = 1 by decide), if_neg (show ¬ (-1 : Int32) = 2 by decide), if_neg (show ¬ (-1 : Int32) = 3 by decide), if_neg (show ¬ (-1 : Int32) = 4 by decide), if_neg (show ¬ (-1 : Int32) = 5 by decide), if_neg (show ¬ (-1 : Int32) = 6 by decide), if_neg (show ¬ (-1 : Int32) = 7 by decide), if_neg (show ¬ (-1 : Int32) = 8 by decide), if_neg (show ¬ (-1 : Int32) = 9 by decide), rv_0, hW 0 (by omega), cal_some, if_pos (show (0 : Int32) = 0 from rfl), rv_1, hW 1 (by omega), cal_some, if_pos (show (0 : Int32) = 0 from rfl), rv_2, hW 2 (by omega), cal_some, if_pos (show (0 : Int32) = 0 from rfl), rv_3, hW 3 (by omega), cal_some, if_pos (show (0 : Int32) = 0 from rfl), rv_4, hW 4 (by omega), cal_some, if_pos (show (0 : Int32) = 0 from rfl), rv_5, hW 5 (by omega), cal_some, if_pos (show (0 : Int32) = 0 from rfl), rv_6, hW 6 (by omega), cal_some, if_pos (show (0 : Int32) = 0 from rfl), rv_7, hW 7 (by omega), cal_some, if_pos (show (0 : Int32) = 0 from rfl), rv_8, hW 8 (by omega), cal_some, if_pos (show (0 : Int32) = 0 from rfl), rv_9, hW 9 (by omega), cal_some, if_pos (show (0 : Int32) = 0 from rfl), bad_eq, cal_some]
    exact Or.inr ⟨_, _, rfl, rfl, (bl_fa h (by decide)).1, bl_f1, gb_lk (lk_bd bd_bdf)⟩
theorem read6_fa {m : Nat} {a : Int32} (h : FaC C) : f_X0_read_6 N r (m + 1) a C = f_X0_read_47 N r C := by
  rw [f_X0_read_6, fa_goes h, cal_some, if_pos (show (0 : Int32) = 0 from rfl)]
  by_cases c : 900 ≤ a
  · rw [if_pos c]
  · rw [if_neg c]
/-- what all lines come to -/
def BankE (N r : Nat) (C : CM) (X : XM) (y : Option (Int32 × CM)) (y' : Option (Int32 × XM)) : Prop :=
  (∃ C' X' W H V T, y = f_X0_read_47 N r C' ∧ y' = f_X11_bank_118 N N 0 X' ∧ C'.1 1 0 0 5 = 0 ∧ X'.1 0 15 = 0 ∧ FB r C C' ∧ GB X X' ∧ HbR (C'.1 3 r) (X'.1 3) (X'.1 0) (X'.2 5) W H V T) ∨
  (∃ C' X' V, y = f_X0_read_47 N r C' ∧ y' = some ((-1) - X'.1 0 16, X') ∧ FaR C' X' ∧ FB r C C' ∧ GB X X' ∧ V ≤ 8 ∧ C'.1 3 r 6 0 = nI V)
theorem fb_rf (r : Nat) (C : CM) : FB r C C := ⟨rfl, fun _ _ _ _ => rfl⟩
theorem gb_rf (X : XM) : GB X X := ⟨fun _ _ _ => rfl, fun _ _ => rfl, fun _ _ => rfl, rfl, rfl⟩
theorem bank_loop (hN : 2000 ≤ N) {C0 : CM} {X0 : XM} (h6 : X0.2 6 = X0m.2 6) : ∀ d m m' a i C X W H V T, 941 ≤ i + d → 2 * a ≤ i → d ≤ m → d ≤ m' → PsR N C X i → HbR (C.1 3 r) (X.1 3) (X.1 0) (X.2 5) W H V T → FB r C0 C → GB X0 X → BankE N r C0 X0 (f_X0_read_6 N r (m + 1) (nI a) C) (f_X11_bank_73 N (m' + 1) X) := by
  intro d
  induction d with
  | zero =>
    intro m m' a i C X W H V T h1 h2 h3 h4 hp
    obtain ⟨u, L, lm, t, P, t1, t2, -⟩ := hp
    omega
  | succ d ih =>
    intro m m' a i C X W H V T h1 h2 h3 h4 hp hb hF hG
    have hi : i ≤ 940 := by
      obtain ⟨u, L, lm, t, P, t1, t2, -⟩ := hp
      omega
    have bd := hb_bd hb
    rw [f_X0_read_6, f_X11_bank_73, if_neg (by simp (disch := omega) only [le_ln]; omega)]
    rcases ps_goes hp with ⟨g1, g2⟩ | ⟨g1, g2⟩
    · rw [g2, cal_some, if_pos rfl, if_pos g1]
      exact Or.inl ⟨C, X, W, H, V, T, rfl, rfl, ps_5 hp, ps_15 hp, hF, hG, hb⟩
    rw [g2, cal_some, if_neg (show ¬ (1 : Int32) = 0 by decide), if_neg g1]
    obtain ⟨m0, rfl⟩ : ∃ m0, m = m0 + 1 := ⟨m - 1, by omega⟩
    obtain ⟨m0', rfl⟩ : ∃ m0, m' = m0 + 1 := ⟨m' - 1, by omega⟩
    -- behind a fault
    have ends : ∀ (C1 C2 : CM) (X1 : XM), F1 C C1 → FaR C1 X1 → GB X X1 → f_X7_takeMark 59 C1 = some (0, C2) → FaK C1 C2 → BankE N r C0 X0 (bnd (stC C2 3 r 0 0 (C2.1 3 r 0 0 + 1)) (fun C9 => f_X0_read_6 N r (m0 + 1) (nI a + 1) C9)) (f_X11_bank_96 N X1) := by
      intro C1 C2 X1 q1 q2 q3 q4 q5
      have f2 : FaR C2 X1 := faR_k q2 q5
      have o1 : (stC C2 3 r 0 0 (C2.1 3 r 0 0 + 1)).1 1 0 = C2.1 1 0 := stC_ob (by omega)
      have f3 : FaR (stC C2 3 r 0 0 (C2.1 3 r 0 0 + 1)) X1 := ⟨faC_c f2.1 o1, by rw [o1]; exact f2.2.1, by rw [o1]; exact f2.2.2⟩
      rw [bnd_v, read6_fa f3.1]
      refine Or.inr ⟨_, X1, V, rfl, rfl, f3, hF.trans ((fb_f1 (q1.trans q5.2.2.2)).trans fb_st), hG.trans q3, bd.2.2.1, ?_⟩
      rw [stC_row (by omega), q5.2.2.2.2 3 (by omega), q1.2 3 (by omega)]
      exact (hb_o hb).1
    rcases line_rel hN hp hb (hG.2.2.2.1.trans h6) with ⟨C1, X1, i1, W1, H1, V1, T1, l1, l2, ⟨j, j1, j2⟩, l3, l4, l5, l6⟩ | ⟨C1, X1, l1, l2, l3, l4, l5⟩
    · have hj : j = i := by
        have ei := ps_4 hp
        have hi1 : i1 ≤ 940 := by
          obtain ⟨u, L, lm, t, P, t1, t2, -⟩ := l3
          omega
        rw [j1, eq_nn (by omega) (by omega)] at ei
        exact ei
      rw [l1, l2, cal_some, cal_some, if_neg (show ¬ (1 : Int32) = 0 by decide)]
      have bd1 := hb_bd l6
      rcases mark_rel hN l3 (c := 59) (Or.inl rfl) with ⟨X2, p1, p2, p3, p4⟩ | ⟨C2, X2, p1, p2, p3, p4, p5⟩
      · have p1' : f_X7_takeMark 59 C1 = some (0, nxC C1 i1) := p1
        have p2' : f_X11_sign N 59 X1 = some (1, X2) := p2
        rw [p1', p2', cal_some, cal_some, if_neg (show ¬ (1 : Int32) = 0 by decide), bnd_v, bnd_v, nI_al]
        have e3 : (nxC C1 i1).1 3 r = C1.1 3 r := nx_3
        have hb2 := hb_lk l6 e3 (lk_nx p3)
        refine ih m0 m0' (a + 1) (i1 + 1) _ _ W1 H1 V1 T1 (by omega) (by omega) (by omega) (by omega) (psR_c p4 (stC_ob (by omega)) (xp_f (by omega))) ?_ (hF.trans (l4.trans ((fb_f1 nx_f1).trans fb_st))) (hG.trans (l5.trans ((gb_lk (lk_nx p3)).trans (gb_f (by omega)))))
        refine hb_end hb2 (fun j x h1 => ?_) (fun x => ?_) (fun x h1 h2 h3 => ?_) ?_
        · simp only [stC]
          rw [if_neg (by omega)]
        · rw [stX_row (by omega)]
        · rw [stX_ne h3]
        · rw [stC_at, stX_at, hb_ln hb2]
      · have p1' : f_X7_takeMark 59 C1 = some (0, C2) := p1
        have p2' : f_X11_sign N 59 X1 = some (0, X2) := p2
        rw [p1', p2', cal_some, cal_some, if_pos rfl, bnd_v]
        have o1 : (stC C2 3 r 0 0 (C2.1 3 r 0 0 + 1)).1 1 0 = C2.1 1 0 := stC_ob (by omega)
        have f3 : FaR (stC C2 3 r 0 0 (C2.1 3 r 0 0 + 1)) X2 := ⟨faC_c p4.1 o1, by rw [o1]; exact p4.2.1, by rw [o1]; exact p4.2.2⟩
        rw [read6_fa f3.1]
        refine Or.inr ⟨_, X2, V1, rfl, rfl, f3, hF.trans (l4.trans ((fb_f1 p3).trans fb_st)), hG.trans (l5.trans (gb_lk (lk_bd p5))), bd1.2.2.1, ?_⟩
        rw [stC_row (by omega), p3.2 3 (by omega)]
        exact (hb_o l6).1
    · obtain ⟨C2, c1, c2⟩ := fa_mark l3.1 59
      rw [l1, l2, cal_some, cal_some, if_pos rfl, c1, cal_some]
      exact ends C1 C2 X1 l4 l3 l5 c1 c2
end LN5
