/-! Words, names, numbers and marks on both sides. -/
theorem lg0 {x y : Int64} : (lg_cmp x y = 0) = (x = y) := by
  unfold lg_cmp
  by_cases h : x > y
  · rw [if_pos h]
    refine propext ⟨fun e => absurd e (by decide), fun e => ?_⟩
    subst e
    exact (Int64.lt_irrefl h).elim
  · rw [if_neg h]
    by_cases e : x = y
    · rw [if_pos e]; exact propext ⟨fun _ => e, fun _ => rfl⟩
    · rw [if_neg e]; exact propext ⟨fun q => absurd q (by decide), fun q => absurd q e⟩
theorem lgp {x y : Int64} (h : x = y) : lg_cmp x y = 0 := by rw [lg0]; exact h
theorem lgn {x y : Int64} (h : x ≠ y) : ¬ lg_cmp x y = 0 := by rw [lg0]; exact h
theorem resV_inj {w w' : Nat} (h : w < 24) (h' : w' < 24) : (resV w = resV w') = (w = w') := by
  refine propext ⟨fun e => ?_, fun e => by rw [e]⟩
  obtain ⟨a1, a2, a3⟩ := wdL_ok w h
  obtain ⟨b1, b2, b3⟩ := wdL_ok w' h'
  rw [a3, b3] at e
  exact wdL_inj w h w' h' ((nm_eq a1 b1 a2 b2).2.mp e)
section PAR2
variable {N : Nat} {C : CM} {X : XM} {i : Nat}
theorem isWord_rel {k v pl : Int32} (hM : MtR k v pl X) {w : Nat} (hw : w < 24) : f_X11_isWord (resV w) X = some (if k = 2 ∧ v = nI w then 1 else 0, X) := by
  unfold f_X11_isWord
  obtain ⟨-, h⟩ := hM
  rcases h with ⟨h1, h2, h3⟩ | ⟨h1, h3⟩ | ⟨w', h1, h2, h3, h4, h5⟩ | ⟨h1, h2, h3, h4⟩ | ⟨z, h1, h2, h3, h4, h5⟩ | ⟨c, h1, h2, h3, h4, h5⟩
  · rw [h3, if_neg (by decide), if_neg (fun q => absurd (h1.symm.trans q.1) (by decide))]; rfl
  · rw [h3, if_neg (by decide), if_neg (fun q => absurd (h1.symm.trans q.1) (by decide))]; rfl
  · rw [h4, if_pos rfl, h5]
    by_cases e : w' = w
    · rw [if_pos (lgp (by rw [e])), if_pos ⟨h2, by rw [h3, e]⟩]; rfl
    · rw [if_neg (lgn (fun q => e (by rwa [resV_inj h1 hw] at q))), if_neg (fun q => e (by have := h3.symm.trans q.2; rwa [eq_nn (by omega) (by omega)] at this))]; rfl
  · rw [h2, if_pos rfl, if_neg (lgn (h4 w hw)), if_neg (fun q => absurd (h1.symm.trans q.1) (by decide))]; rfl
  · rw [h4, if_neg (by decide), if_neg (fun q => absurd (h2.symm.trans q.1) (by decide))]; rfl
  · rw [h4, if_neg (by decide), if_neg (fun q => absurd (h2.symm.trans q.1) (by decide))]; rfl
theorem isName_rel (hN : 2000 ≤ N) {k v pl : Int32} (hM : MtR k v pl X) (h6 : X.2 6 = X0m.2 6) : f_X11_isName N X = some (if k = 3 then 1 else 0, X) := by
  have key : ∀ b : Bool, (∀ w, w < 24 → b = true → X.2 0 17 ≠ resV w) → f_X11_isName_16 N N (bI b) 0 X = some (bI b, X) := by
    intro b hb
    refine loop1 (fun m i (q : Int32) => f_X11_isName_16 N m q i X) (fun _ q => q = bI b) (fun y => y = some (bI b, X)) 24 ?_ ?_ 24 0 N (bI b) (by omega) (by omega) rfl
    · rintro m i q hi rfl
      left
      refine ⟨bI b, ?_, rfl⟩
      rw [f_X11_isName_16, f_X11_isName_44, f_X11_isName_45, f_X11_isName_45]
      simp (disch := omega) only [le_ln, if_neg, ldL_nI, nI_al]
      cases b
      · rw [if_pos (show bI false = (0 : Int32) from rfl)]; rfl
      · rw [if_neg (show ¬ bI true = (0 : Int32) by decide), show X.2 6 i = resV i by (rw [h6]; rfl), if_neg (lgn (hb i hi rfl))]; rfl
    · rintro m q rfl
      rw [f_X11_isName_16, if_pos (by decide), isB_bI]
      rfl
  unfold f_X11_isName f_X11_isName_13
  obtain ⟨-, h⟩ := hM
  rcases h with ⟨h1, h2, h3⟩ | ⟨h1, h3⟩ | ⟨w', h1, h2, h3, h4, h5⟩ | ⟨h1, h2, h3, h4⟩ | ⟨z, h1, h2, h3, h4, h5⟩ | ⟨c, h1, h2, h3, h4, h5⟩
  · rw [h3, if_neg (by decide), h1, if_neg (by decide)]
    exact key false (fun w _ q => absurd q (by decide))
  · rw [h3, if_neg (by decide), h1, if_neg (by decide)]
    exact key false (fun w _ q => absurd q (by decide))
  · rw [h4, if_pos rfl, h2, if_neg (by decide)]
    -- a reserved word: found at w'
    refine loop1 (fun m i (q : Int32) => f_X11_isName_16 N m q i X) (fun i q => q = bI (decide (i ≤ w'))) (fun y => y = some (0, X)) 24 ?_ ?_ 24 0 N 1 (by omega) (by omega) rfl
    · rintro m i q hi rfl
      left
      refine ⟨bI (decide (i + 1 ≤ w')), ?_, rfl⟩
      rw [f_X11_isName_16, f_X11_isName_44, f_X11_isName_45, f_X11_isName_45]
      simp (disch := omega) only [le_ln, if_neg, ldL_nI, nI_al]
      have hr : X.2 6 i = resV i := by rw [h6]; rfl
      rw [hr, h5]
      by_cases c1 : i ≤ w'
      · rw [decide_eq_true c1, if_neg (show ¬ bI true = (0 : Int32) by decide)]
        by_cases c2 : w' = i
        · rw [if_pos (lgp (by rw [c2])), decide_eq_false (by omega)]; rfl
        · rw [if_neg (lgn (fun q => c2 (by rwa [resV_inj h1 hi] at q))), decide_eq_true (by omega)]; rfl
      · rw [decide_eq_false c1, if_pos (show bI false = (0 : Int32) from rfl), decide_eq_false (by omega)]; rfl
    · rintro m q rfl
      rw [f_X11_isName_16, if_pos (by decide), isB_bI, decide_eq_false (by omega)]
      rfl
  · rw [h2, if_pos rfl, h1, if_pos rfl]
    exact key true (fun w hw _ => h4 w hw)
  · rw [h4, if_neg (by decide), h2, if_neg (by decide)]
    exact key false (fun w _ q => absurd q (by decide))
  · rw [h4, if_neg (by decide), h2, if_neg (by decide)]
    exact key false (fun w _ q => absurd q (by decide))
theorem isSign_rel {k v pl : Int32} (hM : MtR k v pl X) {c : Nat} (hc : isMk c) : f_X11_isSign (nI c) X = some (if k = 5 ∧ v = nI c then 1 else 0, X) := by
  unfold f_X11_isSign
  obtain ⟨-, h⟩ := hM
  have mk : ∀ c, isMk c → c < 100 := fun c h => by unfold isMk at h; omega
  rcases h with ⟨h1, h2, h3⟩ | ⟨h1, h3⟩ | ⟨w', h1, h2, h3, h4, h5⟩ | ⟨h1, h2, h3, h4⟩ | ⟨z, h1, h2, h3, h4, h5⟩ | ⟨c', h1, h2, h3, h4, h5⟩
  · rw [h3, if_neg (by decide), if_neg (fun q => absurd (h1.symm.trans q.1) (by decide))]; rfl
  · rw [h3, if_neg (by decide), if_neg (fun q => absurd (h1.symm.trans q.1) (by decide))]; rfl
  · rw [h4, if_neg (by decide), if_neg (fun q => absurd (h2.symm.trans q.1) (by decide))]; rfl
  · rw [h2, if_neg (by decide), if_neg (fun q => absurd (h1.symm.trans q.1) (by decide))]; rfl
  · rw [h4, if_neg (by decide), if_neg (fun q => absurd (h2.symm.trans q.1) (by decide))]; rfl
  · have m1 := mk c hc
    have m2 := mk c' h1
    rw [h4, if_pos rfl, h5, h2, h3]
    simp (disch := omega) only [eq_nn]
    by_cases e : c' = c
    · rw [if_pos e, if_pos ⟨trivial, e⟩]; rfl
    · rw [if_neg e, if_neg (fun q => e q.2)]; rfl
theorem ps_mt (h : PsR N C X i) : MtR (C.1 1 0 1 i) (C.1 1 0 2 i) (C.1 1 0 3 i) X := by
  obtain ⟨u, L, lm, t, P, t1, t2, h3, h4, h5, h6, h7, h8, h9, h10⟩ := h
  exact h10.2
theorem ps_15 (h : PsR N C X i) : X.1 0 15 = 0 := by
  obtain ⟨u, L, lm, t, P, t1, t2, h3, h4, h5, h6, h7, h8, h9, h10⟩ := h
  exact h10.1
/-- the faults' fields alone -/
def BdF (X X' : XM) : Prop := X'.2 = X.2 ∧ (∀ j, j ≠ 0 → X'.1 j = X.1 j) ∧ ∀ x, x ≠ 15 → x ≠ 16 → X'.1 0 x = X.1 0 x
theorem bd_bdf {e : Int32} : BdF X (bdX X e) := by
  unfold bdX
  refine ⟨rfl, fun j hj => by rw [stX_row hj, stX_row hj], fun x h1 h2 => by rw [stX_ne h2, stX_ne h1]⟩
theorem mark_rel (hN : 2000 ≤ N) (h : PsR N C X i) {c : Nat} (hc : isMk c) : (∃ X', f_X7_takeMark (nI c) C = some (0, nxC C i) ∧ f_X11_sign N (nI c) X = some (1, X') ∧ NxF X X' ∧ PsR N (nxC C i) X' (i + 1)) ∨ (∃ C' X', f_X7_takeMark (nI c) C = some (0, C') ∧ f_X11_sign N (nI c) X = some (0, X') ∧ F1 C C' ∧ FaR C' X' ∧ BdF X X') := by
  unfold f_X7_takeMark f_X11_sign
  rw [ps_sees h, cal_some, isSign_rel (ps_mt h) hc, cal_some]
  by_cases e : C.1 1 0 1 i = 5 ∧ C.1 1 0 2 i = nI c
  · rw [if_pos e, if_neg (show ¬ (1 : Int32) = 0 by decide), if_neg (show ¬ (1 : Int32) = 0 by decide), ps_take h, cal_some]
    obtain ⟨X', a1, a2, a3⟩ := next_rel hN h (by rw [e.1]; decide) (by rw [e.1]; decide)
    rw [a1, cal_some]
    exact Or.inl ⟨X', rfl, rfl, a2, a3⟩
  · rw [if_neg e, if_pos rfl, if_pos rfl, ps_blame h, cal_some, bad_eq, cal_some]
    exact Or.inr ⟨blC C 1 (C.1 1 0 3 i), bdX X 1, rfl, rfl, bl_f1, (bl_fa h (by decide)).1, bd_bdf⟩
theorem number_rel (hN : 2000 ≤ N) (h : PsR N C X i) {lo hi : Nat} (hlo : lo < 2147483648) (hhi : hi < 2147483648) : (∃ z X', lo ≤ z ∧ z ≤ hi ∧ z ≤ 999 ∧ f_X7_takeNumber (nI lo) (nI hi) C = some (nI z, nxC C i) ∧ f_X11_takes N (nI lo) (nI hi) X = some (1, X') ∧ NxF (stX X 0 18 (nI z)) X' ∧ PsR N (nxC C i) X' (i + 1)) ∨ (∃ C' X', f_X7_takeNumber (nI lo) (nI hi) C = some (-1, C') ∧ f_X11_takes N (nI lo) (nI hi) X = some (0, X') ∧ F1 C C' ∧ FaR C' X' ∧ BdF X X') := by
  have e5 : ∀ D : CM, D.1 1 0 0 5 = 0 → (nxC D i).1 1 0 0 5 = 0 := fun D h => by unfold nxC; rw [stC_ne (by omega)]; exact h
  have h5 : C.1 1 0 0 5 = 0 := by
    obtain ⟨u, L, lm, t, P, t1, t2, h3, h4, h5, -⟩ := h
    exact h5
  unfold f_X7_takeNumber f_X11_takes
  rw [ps_kind h]
  by_cases e : C.1 1 0 1 i = 4
  · rw [if_pos e, cal_some, if_pos (e5 C h5)]
    have hm := ps_mt h
    obtain ⟨-, q⟩ := id hm
    rw [e] at q
    obtain ⟨z, z1, z2, z3, z4, z5⟩ : ∃ z, z ≤ 999 ∧ (4 : Int32) = 4 ∧ C.1 1 0 2 i = nI z ∧ X.1 0 11 = 2 ∧ X.1 0 14 = nI z := by
      rcases q with ⟨h1, -⟩ | ⟨h1, -⟩ | ⟨w', -, h1, -⟩ | ⟨h1, -⟩ | q | ⟨c', -, h1, -⟩
      · exact absurd h1 (by decide)
      · exact absurd h1 (by decide)
      · exact absurd h1 (by decide)
      · exact absurd h1 (by decide)
      · exact q
      · exact absurd h1 (by decide)
    unfold f_X11_isIn
    rw [z3, if_pos z4, z5]
    simp (disch := omega) only [lt_nn, le_nn]
    by_cases c1 : z < lo
    · rw [if_pos c1, if_pos c1]
      unfold f_X7_takeNumber_23 f_X7_takeNumber_28
      rw [ps_taken h, cal_some, cal_rt, if_pos rfl, bad_eq, cal_some]
      have hf := (bl_fa h (show (2 : Int32) ≠ 0 by decide)).2
      rw [if_neg hf.1.1]
      exact Or.inr ⟨blC (nxC C i) 2 (C.1 1 0 3 i), bdX X 2, rfl, rfl, nx_f1.trans bl_f1, hf, bd_bdf⟩
    rw [if_neg c1, if_neg c1]
    by_cases c2 : z ≤ hi
    · rw [if_pos c2, if_neg (by omega), cal_rt, if_neg (show ¬ (1 : Int32) = 0 by decide)]
      unfold f_X7_takeNumber_28
      rw [if_pos (e5 C h5), bnd_v, z5]
      obtain ⟨X', a1, a2, a3⟩ := next_rel hN (psR_c h rfl (xp_f (x := 18) (v := nI z) (by omega))) (by rw [e]; decide) (by rw [e]; decide)
      rw [a1, cal_some]
      exact Or.inl ⟨z, X', by omega, c2, z1, rfl, rfl, a2, a3⟩
    · rw [if_neg c2, if_pos (by omega), cal_rt, if_pos rfl, bad_eq, cal_some]
      unfold f_X7_takeNumber_23 f_X7_takeNumber_28
      rw [ps_taken h, cal_some]
      have hf := (bl_fa h (show (2 : Int32) ≠ 0 by decide)).2
      rw [if_neg hf.1.1]
      exact Or.inr ⟨blC (nxC C i) 2 (C.1 1 0 3 i), bdX X 2, rfl, rfl, nx_f1.trans bl_f1, hf, bd_bdf⟩
  · have hm := ps_mt h
    obtain ⟨-, q⟩ := id hm
    have h11 : X.1 0 11 ≠ 2 := by
      rcases q with ⟨h1, h2, h3⟩ | ⟨h1, h3⟩ | ⟨w', h1, h2, h3, h4, h5⟩ | ⟨h1, h2, h3, h4⟩ | ⟨z, h1, h2, h3, h4, h5⟩ | ⟨c', h1, h2, h3, h4, h5⟩
      · rw [h3]; decide
      · rw [h3]; decide
      · rw [h4]; decide
      · rw [h2]; decide
      · exact absurd h2 e
      · rw [h4]; decide
    have hf := (bl_fa h (show (1 : Int32) ≠ 0 by decide)).1
    rw [if_neg e, cal_some, if_neg hf.1.1, if_neg h11, bad_eq, cal_some]
    unfold f_X7_takeNumber_28
    rw [if_neg hf.1.1]
    exact Or.inr ⟨blC C 1 (C.1 1 0 3 i), bdX X 1, rfl, rfl, bl_f1, hf, bd_bdf⟩
/-- a name looked up among the first V -/
theorem find_rel (hN : 2000 ≤ N) {V o r : Nat} {a : Int32} (hV : V ≤ 8) (ho : o ≤ 8) (hc : C.1 3 r 6 0 = nI V) (hn : ∀ k, k < V → NmR (C.1 3 r 7 k) (X.2 5 (o + k))) (hv : NmR a (X.2 0 17)) : (∃ k, k < V ∧ C.1 3 r 7 k = a ∧ f_X1_find N r a C = some (nI k, C) ∧ f_X11_find N (nI o) (nI V) X = some (nI k, X)) ∨ ((∀ k, k < V → C.1 3 r 7 k ≠ a) ∧ f_X1_find N r a C = some (-1, C) ∧ f_X11_find N (nI o) (nI V) X = some (-1, X)) := by
  unfold f_X1_find f_X11_find
  refine loop2 (fun m i (_ : Unit) => f_X1_find_2 N r a m i C) (fun m i (_ : Unit) => f_X11_find_2 N (nI o) (nI V) m i X) (fun k _ _ => ∀ j, j < k → C.1 3 r 7 j ≠ a)
    (fun y y' => (∃ k, k < V ∧ C.1 3 r 7 k = a ∧ y = some (nI k, C) ∧ y' = some (nI k, X)) ∨ ((∀ k, k < V → C.1 3 r 7 k ≠ a) ∧ y = some (-1, C) ∧ y' = some (-1, X))) V ?_ ?_ V 0 N N () () (by omega) (by omega) (by omega) (fun j h => absurd h (Nat.not_lt_zero _))
  · rintro m m' k ⟨⟩ ⟨⟩ hk hI
    rw [f_X1_find_2, f_X11_find_2, hc]
    simp (disch := omega) only [le_nn, if_neg, ldA_nI, nI_al]
    have eo : nI o + nI k = nI (o + k) := nI_add o k
    rw [eo, ldL_nI (by omega) (by omega)]
    by_cases e : C.1 3 r 7 k = a
    · rw [if_pos e, if_pos (lgp ((nmR_eq (hn k hk) hv).mp e))]
      exact Or.inr (Or.inl ⟨k, hk, e, rfl, rfl⟩)
    · rw [if_neg e, if_neg (lgn (fun q => e ((nmR_eq (hn k hk) hv).mpr q)))]
      refine Or.inl ⟨(), (), rfl, rfl, fun j hj => ?_⟩
      by_cases q : j = k
      · rw [q]; exact e
      · exact hI j (by omega)
  · rintro m m' ⟨⟩ ⟨⟩ hI
    rw [f_X1_find_2, f_X11_find_2, hc]
    simp (disch := omega) only [le_nn, Nat.le_refl, if_true]
    exact Or.inr ⟨hI, rfl, rfl⟩
theorem fa_find (hN : 2000 ≤ N) {V r : Nat} (a : Int32) (hV : V ≤ 8) (hc : C.1 3 r 6 0 = nI V) : ∃ w, f_X1_find N r a C = some (w, C) := by
  unfold f_X1_find
  refine loop1 (fun m i (_ : Unit) => f_X1_find_2 N r a m i C) (fun _ _ => True) (fun y => ∃ w, y = some (w, C)) V ?_ ?_ V 0 N () (by omega) (by omega) trivial
  · rintro m k ⟨⟩ hk -
    rw [f_X1_find_2, hc]
    simp (disch := omega) only [le_nn, if_neg, ldA_nI, nI_al]
    by_cases e : C.1 3 r 7 k = a
    · rw [if_pos e]
      exact Or.inr ⟨_, rfl⟩
    · rw [if_neg e]
      exact Or.inl ⟨(), rfl, trivial⟩
  · rintro m ⟨⟩ -
    rw [f_X1_find_2, hc]
    simp (disch := omega) only [le_nn, Nat.le_refl, if_true]
    exact ⟨_, rfl⟩
end PAR2
