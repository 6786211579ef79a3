/-! A new plan or a new sentence in the relation. -/
section NEW
variable {N : Nat}
theorem sentR_s {Q : Nat → Nat → Int32} {s s' : Nat → Int32} (h : SentR Q s) (hs : ∀ x, 664 ≤ x → s' x = s x) : SentR Q s' := by
  obtain ⟨K, cd, h1, h2, h3⟩ := h
  refine ⟨K, cd, h1, (hs _ (by omega)).trans h2, ?_⟩
  rcases h3 with h3 | ⟨a1, a2, a3, a4, a5⟩
  · exact Or.inl h3
  · refine Or.inr ⟨a1, a2, a3, a4, fun i hi => ?_⟩
    rw [hs _ (by omega), hs _ (by omega), hs _ (by omega)]
    exact a5 i hi
theorem planR_s {n : BN} {Q : Nat → Nat → Int32} {s s' : Nat → Int32} (h : PlanR n Q s) (hs : ∀ x, 543 ≤ x → x < 664 → s' x = s x) : PlanR n Q s' := by
  obtain ⟨L, h1, h2, h3, h4⟩ := h
  refine ⟨L, h1, h2, (hs _ (by omega) (by omega)).trans h3, fun i hi => ?_⟩
  rw [hs _ (by omega) (by omega), hs _ (by omega) (by omega), hs _ (by omega) (by omega)]
  exact h4 i hi
theorem rel_new {n : BN} {C C' : CM} {X X' : XM} (hN : 2000 ≤ N) (hR : Rel N C X) (hH : HereR C X n) (hP : PastR n (X.1 2) C X) (h2 : C'.1 2 = C.1 2) (h3 : C'.1 3 = C.1 3) (h4 : C'.1 4 = C.1 4) (h7 : C'.1 7 = C.1 7) (h9 : C'.1 9 = C.1 9)
    (h5 : ∀ i, (i = 1 ∨ i = 2) → C'.1 5 i = C.1 5 i) (h6 : ∀ i, (i = 1 ∨ i = 2) → C'.1 6 i = C.1 6 i) (h0 : ∀ j x, ¬ (j = 0 ∧ x = 3) → C'.1 0 0 j x = C.1 0 0 j x) (hrf : RefR C') (hrb : C'.2 2 0 1 = C.2 2 0 1)
    (x2 : ∀ x, x < 543 → X'.1 2 x = X.1 2 x) (xr : ∀ j, lastR j = true → j ≠ 2 → X'.1 j = X.1 j) (xf : ∀ x, lastF x = true → x ≠ 15 → X'.1 0 x = X.1 0 x) (n5 : ∀ x, x < 8 → X'.2 5 x = X.2 5 x) (n6 : X'.2 6 = X.2 6) (n18 : X'.2 18 = X.2 18)
    (p1 : PlanR n (C'.1 5 (C'.2 2 0 3)) (X'.1 2)) (p2 : SentR (C'.1 6 (C'.2 2 0 4)) (X'.1 2)) (hf : C'.1 0 0 0 3 = X'.1 0 15) : Rel N C' X' := by
  obtain ⟨-, hT, hG, hRf, hI, hM, hPr, hJ, hF, hR6⟩ := id hR
  have bd := bk_bd hH.1
  have hb := (b_lt hRf).1
  have hBk : BankR (C.1 3 (C.2 2 0 1)) (X'.1 2) n := bankR_congr hH.1 (fun x hx => x2 x (by omega))
  have hSt : StateR n (X'.1 2) (C.1 4 0) (fun x => X'.1 2 (371 + x)) := stateR_congr ⟨bd.2.2.1, bd.2.2.2⟩ hH.2.1 (fun x hx => x2 x (by omega)) (fun _ _ _ => rfl) (fun x hx => x2 _ (by omega))
  refine ⟨⟨n, ?_, ?_⟩, ?_, fun hk => ?_, hrf, fun k hk => ?_, ?_, ?_, ?_, hf, n6.trans hR6⟩
  · unfold HereR
    rw [h3, h4, hrb]
    exact ⟨hBk, hSt, p1, p2, nameR_congr bd.2.2.1 hH.2.2.2.2 n5⟩
  · obtain ⟨top, kp, a1, a2, a3, a4, a5, a6⟩ := hP
    refine ⟨top, kp, a1, a2, ?_, ?_, (xf 33 rfl (by omega)).trans a5, fun i hi => ?_⟩
    · rw [h7]; exact a3
    · rw [h7]; exact a4
    · rw [h4, xr 10 rfl (by omega)]
      exact stateR_congr ⟨bd.2.2.1, bd.2.2.2⟩ (a6 i hi) (fun x hx => x2 x (by omega)) (fun _ _ _ => rfl) (fun _ _ => rfl)
  · obtain ⟨L, l1, l2, l3, l4⟩ := hT
    refine ⟨L, l1, ?_, ?_, fun x hx => ?_⟩
    · rw [h0 0 1 (by omega)]; exact l2
    · rw [xf 2 rfl (by omega)]; exact l3
    · rw [h0 1 x (by omega), xr 1 rfl (by omega)]; exact l4 x hx
  · rw [h9] at hk
    exact game_new hN (hb_of hH) ⟨hBk, hSt, trivial⟩ hb (fun o ho => x2 _ (by omega)) n5 h9 (hG hk)
  · have := hI k hk
    unfold ImgR at this ⊢
    rw [h2, h3, h4, h5 (1 + k) (by omega), h6 (1 + k) (by omega), xr 19 rfl (by omega), xr 17 rfl (by omega), n18]
    exact this
  · unfold MoreR
    rw [h0 0 13 (by omega), xf 35 rfl (by omega), xf 34 rfl (by omega)]
    exact hM
  · obtain ⟨m, m1, m2, m3, m4⟩ := hPr
    refine ⟨m, m1, ?_, ?_, fun k hk => ?_⟩
    · rw [h0 0 15 (by omega)]; exact m2
    · rw [xf 38 rfl (by omega)]; exact m3
    · rw [h0 3 k (by omega), xr 12 rfl (by omega)]; exact m4 k hk
  · unfold JudR
    rw [xf 43 rfl (by omega), xr 13 rfl (by omega)]
    rcases hJ with ⟨j1, j2⟩ | ⟨j1, j2⟩
    · exact Or.inl ⟨j1, fun i hi => by rw [h0 5 i (by omega)]; exact j2 i hi⟩
    · exact Or.inr ⟨j1, fun i hi => by rw [h0 5 i (by omega)]; exact j2 i hi⟩
end NEW
/-! All lines of a plan. -/
section PLAN3
variable {N : Nat}
theorem lnR_c {r l : Nat} {n : BN} {C C' : CM} {X X' : XM} (h : LnR r n C X l) (hc : ∀ j, 1 ≤ j → j ≤ 3 → C'.1 5 r j l = C.1 5 r j l) (hx : ∀ y, 1 ≤ y → y ≤ 3 → X'.1 4 (y + 4 * l) = X.1 4 (y + 4 * l)) : LnR r n C' X' l := by
  unfold LnR
  rw [hc 1 (by omega) (by omega), hc 2 (by omega) (by omega), hc 3 (by omega) (by omega), hx 1 (by omega) (by omega), hx 2 (by omega) (by omega), hx 3 (by omega) (by omega)]
  exact h
def FPl (r : Nat) (C C' : CM) : Prop := C'.2 = C.2 ∧ ∀ q i, q ≠ 1 → ¬ (q = 5 ∧ i = r) → C'.1 q i = C.1 q i
def GPl (X X' : XM) : Prop := (∀ x, lastF x = true → x ≠ 15 → X'.1 0 x = X.1 0 x) ∧ (∀ j, lastR j = true → X'.1 j = X.1 j) ∧ X'.2 5 = X.2 5 ∧ X'.2 6 = X.2 6 ∧ X'.2 18 = X.2 18
theorem fpl_l {r k : Nat} {A B C : CM} (h1 : FPl r A B) (h2 : FL r k B C) : FPl r A C := ⟨h2.1.trans h1.1, fun q i a b => (h2.2.1 q i a b).trans (h1.2 q i a b)⟩
theorem gpl_l {k : Nat} {A B C : XM} (h1 : GPl A B) (h2 : GL k B C) : GPl A C := ⟨fun x a b => (h2.1 x a b).trans (h1.1 x a b), fun j a => (h2.2.1 j a).trans (h1.2.1 j a), h2.2.2.1.trans h1.2.2.1, h2.2.2.2.1.trans h1.2.2.2.1, h2.2.2.2.2.1.trans h1.2.2.2.2⟩
theorem word_rel {C : CM} {X : XM} {i : Nat} (hN : 2000 ≤ N) (h : PsR N C X i) : (∃ c, c ≤ 4 ∧ C.1 1 0 1 i = 2 ∧ f_X7_takeWord 10 14 C = some (nI (10 + c), nxC C i) ∧ f_X11_planLine N X = f_X11_planLine_71 N (nI c) X) ∨ (f_X7_takeWord 10 14 C = some (-1, blC C 1 (C.1 1 0 3 i)) ∧ f_X11_planLine N X = f_X11_planLine_71 N (-1) X) := by
  have hm := ps_mt h
  have w10 := isWord_rel hm (w := 10) (by omega)
  have w11 := isWord_rel hm (w := 11) (by omega)
  have w12 := isWord_rel hm (w := 12) (by omega)
  have w13 := isWord_rel hm (w := 13) (by omega)
  have w14 := isWord_rel hm (w := 14) (by omega)
  have v10 : (7562612 : Int64) = resV 10 := by decide
  have v11 : (1717922924 : Int64) = resV 11 := by decide
  have v12 : (7301484 : Int64) = resV 12 := by decide
  have v13 : (482905517684 : Int64) = resV 13 := by decide
  have v14 : (1651273591 : Int64) = resV 14 := by decide
  unfold f_X7_takeWord f_X7_takeWord_15 f_X11_planLine
  rw [ps_word h, cal_some, v10, v11, v12, v13, v14, w10, cal_some, w11, cal_some, w12, cal_some, w13, cal_some, w14, cal_some, ps_blame h, cal_some, ps_kind h]
  by_cases e2 : C.1 1 0 1 i = 2
  · rw [if_pos e2, if_pos e2, cal_some]
    obtain ⟨w, hw, hv⟩ : ∃ w, w < 24 ∧ C.1 1 0 2 i = nI w := by
      obtain ⟨-, q⟩ := hm
      rw [e2] at q
      rcases q with ⟨h1, -⟩ | ⟨h1, -⟩ | ⟨w', h0, h1, h2, -⟩ | ⟨h1, -⟩ | ⟨z, -, h1, -⟩ | ⟨c', -, h1, -⟩
      · exact absurd h1 (by decide)
      · exact absurd h1 (by decide)
      · exact ⟨w', h0, h2⟩
      · exact absurd h1 (by decide)
      · exact absurd h1 (by decide)
      · exact absurd h1 (by decide)
    rw [hv]
    simp (disch := omega) only [lt_nl, le_nl, e2, true_and, eq_nn]
    have hcs : w = 10 ∨ w = 11 ∨ w = 12 ∨ w = 13 ∨ w = 14 ∨ w < 10 ∨ 14 < w := by omega
    rcases hcs with rfl | rfl | rfl | rfl | rfl | hh | hh
    · exact Or.inl ⟨0, by omega, rfl, rfl⟩
    · exact Or.inl ⟨1, by omega, rfl, rfl⟩
    · exact Or.inl ⟨2, by omega, rfl, rfl⟩
    · exact Or.inl ⟨3, by omega, rfl, rfl⟩
    · exact Or.inl ⟨4, by omega, rfl, rfl⟩
    · refine Or.inr ⟨by rw [if_pos hh]; rfl, ?_⟩
      have a0 : w ≠ 10 := by omega
      have a1 : w ≠ 11 := by omega
      have a2 : w ≠ 12 := by omega
      have a3 : w ≠ 13 := by omega
      have a4 : w ≠ 14 := by omega
      simp [a0, a1, a2, a3, a4]
    · refine Or.inr ⟨by rw [if_neg (by omega), if_neg (by omega)]; rfl, ?_⟩
      have a0 : w ≠ 10 := by omega
      have a1 : w ≠ 11 := by omega
      have a2 : w ≠ 12 := by omega
      have a3 : w ≠ 13 := by omega
      have a4 : w ≠ 14 := by omega
      simp [a0, a1, a2, a3, a4]
  · rw [if_neg e2, if_pos (by decide)]
    refine Or.inr ⟨rfl, ?_⟩
    have nn : ∀ w : Nat, ¬ (C.1 1 0 1 i = 2 ∧ C.1 1 0 2 i = nI w) := fun w q => e2 q.1
    rw [if_neg (nn 10), if_neg (nn 11), if_neg (nn 12), if_neg (nn 13), if_neg (nn 14), if_pos rfl, if_pos rfl, if_pos rfl, if_pos rfl, if_pos rfl]
theorem read7_fa {r b m : Nat} {a : Int32} {C : CM} (h : FaC C) : f_X3_read_7 N r b (m + 1) a C = some (0, C) := by
  rw [f_X3_read_7, fa_goes h, cal_some, if_pos (show (0 : Int32) = 0 from rfl)]
  by_cases c : 30 < a
  · rw [if_pos c]; rfl
  · rw [if_neg c]; rfl
theorem read44_fa {r b : Nat} {a3 a4 : Int32} {C : CM} (kk : Int32 → CM → Option (Int32 × CM)) (h : FaC C) : ∃ C', f_X3_read_44 N kk r b a3 a4 C = kk (a3 + 1) C' ∧ FaK C C' := by
  unfold f_X3_read_44 f_X3_readLine
  obtain ⟨C', h1, h2⟩ := fa_mark h 59
  rw [fa_sound h, cal_some, if_pos rfl, cal_rt, h1, cal_some, fa_sound h2.1, cal_some, if_pos rfl]
  exact ⟨C', rfl, h2⟩
end PLAN3
