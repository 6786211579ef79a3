/-! said: the sentence weighed. -/
section SAJ
variable {N : Nat}
def lfX (X : XM) (k i : Nat) : Bool := match f_X11_isLeaf (nI k) (X.1 2 (665 + 3 * i)) (X.1 2 (666 + 3 * i)) (X.1 2 (667 + 3 * i)) X with
  | some (v, _) => decide (v = 1)
  | none => false
/-- a sentence that stands: its codes -/
def SnR (C : CM) (X : XM) (K : Nat) (cd : Nat → Nat) : Prop := 0 < K ∧ K ≤ 40 ∧ X.1 2 664 = nI K ∧ C.1 6 (C.2 2 0 4) 0 1 = nI K ∧ dpS cd K = 1 ∧ ∀ i, i < K → (cd i < 6 ∨ cd i = 10 ∨ cd i = 11 ∨ cd i = 12) ∧ X.1 2 (665 + 3 * i) = nI (cd i) ∧ C.1 6 (C.2 2 0 4) 1 i = nI (cdW (cd i)) ∧ (0 < cd i → cd i < 6 → (∃ g, 60 ≤ g ∧ g ≤ 62 ∧ C.1 6 (C.2 2 0 4) 2 i = nI g ∧ X.1 2 (666 + 3 * i) = nI g) ∧ C.1 6 (C.2 2 0 4) 3 i = X.1 2 (667 + 3 * i)) ∧ (cd i = 10 → 1 ≤ dpS cd i) ∧ (cd i = 11 ∨ cd i = 12 → 2 ≤ dpS cd i) ∧ dpS cd (i + 1) ≤ 20
theorem leaf_val {n : BN} {C D : CM} {X Y : XM} {k i K : Nat} {cd : Nat → Nat} (hH : HereR C X n) (hSn : SnR C X K cd) (hk : k < n.2.2.1) (hi : i < K) (hc : cd i < 6) (hD : FS C D) (hY : Y.1 2 = X.1 2) :
    f_X5_isSo (C.2 2 0 4) 0 (nI k) (nI i) D = some (bI (lfX X k i), D) ∧ f_X11_isLeaf (nI k) (nI (cd i)) (X.1 2 (666 + 3 * i)) (X.1 2 (667 + 3 * i)) Y = some (bI (lfX X k i), Y) := by
  obtain ⟨h0, h40, -, -, -, h5⟩ := hSn
  obtain ⟨-, x1, c1, c2, -⟩ := h5 i hi
  obtain ⟨p, p1, p2⟩ := leaf_rel hH hk (show i < 40 by omega) hc c1 (fun h => c2 h hc) hD hY
  obtain ⟨q, q1, q2⟩ := leaf_rel (Y := X) hH hk (show i < 40 by omega) hc c1 (fun h => c2 h hc) hD rfl
  have e : q = p := by
    rw [p1] at q1
    have : bI p = bI q := (Prod.mk.inj (Option.some.inj q1)).1
    cases p <;> cases q <;> first | rfl | exact absurd this (by decide)
  subst e
  have e2 : lfX X k i = q := by
    unfold lfX
    rw [x1, q2]
    cases q <;> rfl
  rw [e2]
  exact ⟨p1, p2⟩
theorem ownOne_eq {n : BN} {C D : CM} {X : XM} {i K : Nat} {cd : Nat → Nat} (hN : 2000 ≤ N) (hH : HereR C X n) (hSn : SnR C X K cd) (hi : i < K) (hc : cd i < 6) (hD : FS C D) : ∃ v, f_X5_ownersOfOne N (C.2 2 0 4) 0 (nI n.2.2.1) (nI i) D = some (v, D) ∧ ∀ k, k < n.2.2.1 → bb v k = lfX X k i := by
  have bd := bk_bd hH.1
  unfold f_X5_ownersOfOne
  refine loop1 (fun m o q => f_X5_ownersOfOne_6 N (C.2 2 0 4) 0 (nI n.2.2.1) (nI i) m q o D) (fun o q => ∃ m, m < 256 ∧ q = nI m ∧ ∀ k, k < 8 → bb (nI m) k = (decide (k < o) && lfX X k i)) (fun y => ∃ v, y = some (v, D) ∧ ∀ k, k < n.2.2.1 → bb v k = lfX X k i) n.2.2.1 ?_ ?_ n.2.2.1 0 N 0 (by omega) (by omega) ⟨0, by omega, rfl, fun k hk => by
    rw [bb_of (p := false) hk (by rw [show (nI 0 : Int32) = 0 from rfl, bt_0 k hk]; rfl)]
    simp⟩
  · rintro mm o q ho ⟨m, hm, rfl, hb⟩
    refine Or.inl ?_
    have e := (leaf_val (Y := X) hH hSn ho hi hc hD rfl).1
    rw [f_X5_ownersOfOne_6]
    simp (disch := omega) only [le_nn, if_neg, e, cal_some, bI0, nI_al]
    cases hl : lfX X o i
    · rw [if_pos rfl]
      refine ⟨nI m, rfl, m, hm, rfl, fun k hk => ?_⟩
      rw [hb k hk]
      by_cases e2 : k = o
      · subst e2
        rw [hl]
        simp
      · have : (decide (k < o)) = decide (k < o + 1) := by
          rw [decide_eq_decide]
          omega
        rw [this]
    · rw [if_neg (by decide)]
      obtain ⟨⟨m1, m2⟩, m3⟩ := bt_or m hm o (by omega)
      refine ⟨_, rfl, _, m1, m2, fun k hk => ?_⟩
      rw [← m2]
      refine bb_of hk ?_
      rw [m3 k hk]
      by_cases e2 : k = o
      · subst e2
        rw [if_pos rfl, hl]
        simp
      · rw [if_neg e2, bt_bb _ hk, hb k hk]
        have : (decide (k < o)) = decide (k < o + 1) := by
          rw [decide_eq_decide]
          omega
        rw [this]
  · rintro mm q ⟨m, hm, rfl, hb⟩
    refine ⟨nI m, ?_, fun k hk => ?_⟩
    · simp (disch := omega) only [f_X5_ownersOfOne_6, le_nn, if_pos, rt]
    · rw [hb k (by omega)]
      simp [hk]
theorem dp_le {cd : Nat → Nat} {K i : Nat} (h : ∀ i, i < K → dpS cd (i + 1) ≤ 20) (hi : i ≤ K) : dpS cd i ≤ 20 := by
  cases i with
  | zero => exact Nat.zero_le _
  | succ i => exact h i (by omega)
theorem owners_eq {n : BN} {C : CM} {X : XM} {K : Nat} {cd : Nat → Nat} (hN : 2000 ≤ N) (hH : HereR C X n) (hSn : SnR C X K cd) : ∃ m D, m < 256 ∧ f_X5_ownersOf N (C.2 2 0 4) 0 (nI n.2.2.1) C = some (nI m, D) ∧ FS C D ∧ ∀ k, k < 8 → bb (nI m) k = (decide (k < n.2.2.1) && stS cd (lfX X k) K 0) := by
  have bd := bk_bd hH.1
  obtain ⟨h0, h40, hx, hc, hd1, h5⟩ := id hSn
  have hdp := fun i hi => dp_le (K := K) (i := i) (fun i hi => (h5 i hi).2.2.2.2.2.2) hi
  unfold f_X5_ownersOf
  refine loop1 (fun m i (q : Int32 × CM) => f_X5_ownersOf_5 N (C.2 2 0 4) 0 (nI n.2.2.1) m q.1 i q.2) (fun i q => i ≤ K ∧ q.1 = nI (dpS cd i) ∧ FS C q.2 ∧ ∀ t, t < dpS cd i → ∀ k, k < n.2.2.1 → bb (q.2.1 6 (C.2 2 0 4) 4 t) k = stS cd (lfX X k) i t)
    (fun y => ∃ m D, m < 256 ∧ y = some (nI m, D) ∧ FS C D ∧ ∀ k, k < 8 → bb (nI m) k = (decide (k < n.2.2.1) && stS cd (lfX X k) K 0)) K ?_ ?_ K 0 N (0, C) (by omega) (by omega) ⟨by omega, rfl, ⟨rfl, fun _ _ _ _ _ => rfl⟩, fun t ht => by simp [dpS] at ht⟩
  · rintro m i ⟨a, D⟩ hi ⟨hiK, ha, hD, hst⟩
    dsimp only at ha hD hst
    subst ha
    refine Or.inl ?_
    obtain ⟨g1, g2, g3, g4, g5, g6, g7⟩ := h5 i hi
    have d20 := hdp i (by omega)
    have e01 : D.1 6 (C.2 2 0 4) 0 1 = nI K := (hD.2 6 _ 0 1 (by omega)).trans hc
    have e1 : D.1 6 (C.2 2 0 4) 1 i = nI (cdW (cd i)) := (hD.2 6 _ 1 i (by omega)).trans g3
    have hFS : ∀ t v, FS C (stC D 6 (C.2 2 0 4) 4 t v) := fun t v => ⟨hD.1, fun k' i' j' x' hn => by
      simp only [stC]
      rw [if_neg (by omega)]
      exact hD.2 k' i' j' x' hn⟩
    dsimp only
    rw [f_X5_ownersOf_5]
    simp (disch := omega) only [e01, le_nn, if_neg, ldA_nI, e1]
    rcases g1 with hl | h10 | h11 | h12
    · have hw : cdW (cd i) = 18 + cd i := by unfold cdW; rw [if_pos hl]
      have hdp1 : dpS cd (i + 1) = dpS cd i + 1 := by
        show (if cd i = 10 then _ else if cd i = 11 ∨ cd i = 12 then _ else _) = _
        rw [if_neg (by omega), if_neg (by omega)]
      obtain ⟨v, v1, v2⟩ := ownOne_eq hN hH hSn hi hl hD
      refine ⟨(nI (dpS cd i + 1), stC D 6 (C.2 2 0 4) 4 (dpS cd i) v), ?_, by omega, by rw [hdp1], hFS _ _, fun t ht k hk => ?_⟩
      · rw [hw, if_neg (by simp (disch := omega) only [eq_nl]; omega)]
        unfold f_X5_ownersOf_51 f_X5_ownersOf_91 f_X5_ownersOf_131
        rw [ldA_nI (by omega) (by omega), ldA_nI (by omega) (by omega), e1, hw, if_neg (by simp (disch := omega) only [eq_nl]; omega), if_neg (by simp (disch := omega) only [eq_nl]; omega), if_neg (by simp (disch := omega) only [le_ln]; omega), v1, cal_some]
        simp (disch := omega) only [stA_nI, nI_al]
      · dsimp only
        show _ = (if cd i = 10 then _ else if cd i = 11 then _ else if cd i = 12 then _ else _)
        rw [if_neg (by omega), if_neg (by omega), if_neg (by omega), stC_if]
        by_cases e : t = dpS cd i
        · rw [if_pos e, if_pos e]
          exact v2 k hk
        · rw [if_neg e, if_neg e]
          exact hst t (by omega) k hk
    · have hdp1 : dpS cd (i + 1) = dpS cd i := by
        show (if cd i = 10 then _ else if cd i = 11 ∨ cd i = 12 then _ else _) = _
        rw [if_pos h10]
      have d1 := g5 h10
      refine ⟨(nI (dpS cd i), stC D 6 (C.2 2 0 4) 4 (dpS cd i - 1) (D.1 6 (C.2 2 0 4) 4 (dpS cd i - 1) ^^^ (-1))), ?_, by omega, by rw [hdp1], hFS _ _, fun t ht k hk => ?_⟩
      · rw [h10, if_pos (show nI (cdW 10) = (17 : Int32) from rfl), nI_sl (n := 1) (show 1 ≤ dpS cd i from d1)]
        show (if nI (dpS cd i) ≤ 0 then _ else ldA _ 20 (nI (dpS cd i - 1)) (fun v7 => stA D 6 (C.2 2 0 4) 4 20 (nI (dpS cd i - 1)) (v7 ^^^ (-1)) (fun C8 => _))) = _
        simp (disch := omega) only [le_nl, if_neg, ldA_nI, stA_nI, nI_al]
      · dsimp only
        show _ = (if cd i = 10 then _ else _)
        rw [if_pos h10, stC_if]
        by_cases e : t = dpS cd i - 1
        · rw [if_pos e, if_pos e, bb_not _ _ (by omega), e, hst _ (by omega) k hk]
        · rw [if_neg e, if_neg e]
          exact hst t (by omega) k hk
    · have hdp1 : dpS cd (i + 1) = dpS cd i - 1 := by
        show (if cd i = 10 then _ else if cd i = 11 ∨ cd i = 12 then _ else _) = _
        rw [if_neg (by omega), if_pos (Or.inl h11)]
      have d2 := g6 (Or.inl h11)
      have s1 : nI (dpS cd i) - 1 = nI (dpS cd i - 1) := nI_sl (n := 1) (show 1 ≤ dpS cd i by omega)
      have s2 : nI (dpS cd i - 1) - 1 = nI (dpS cd i - 2) := nI_sl (n := 1) (show 1 ≤ dpS cd i - 1 by omega)
      refine ⟨(nI (dpS cd i - 1), stC D 6 (C.2 2 0 4) 4 (dpS cd i - 2) (D.1 6 (C.2 2 0 4) 4 (dpS cd i - 2) &&& D.1 6 (C.2 2 0 4) 4 (dpS cd i - 1))), ?_, by omega, by rw [hdp1], hFS _ _, fun t ht k hk => ?_⟩
      · rw [h11, if_neg (show ¬ nI (cdW 11) = (17 : Int32) by decide)]
        unfold f_X5_ownersOf_51
        rw [ldA_nI (by omega) (by omega), e1, h11, if_pos (show nI (cdW 11) = (16 : Int32) from rfl), s1, s2]
        simp (disch := omega) only [le_nl, if_neg, ldA_nI, stA_nI, nI_al]
      · dsimp only
        show _ = (if cd i = 10 then _ else if cd i = 11 then _ else _)
        rw [if_neg (by omega), if_pos h11, stC_if]
        by_cases e : t = dpS cd i - 2
        · rw [if_pos e, if_pos e, bb_and, e, hst _ (by omega) k hk, hst _ (by omega) k hk, show dpS cd i - 2 + 1 = dpS cd i - 1 by omega]
        · rw [if_neg e, if_neg e]
          exact hst t (by omega) k hk
    · have hdp1 : dpS cd (i + 1) = dpS cd i - 1 := by
        show (if cd i = 10 then _ else if cd i = 11 ∨ cd i = 12 then _ else _) = _
        rw [if_neg (by omega), if_pos (Or.inr h12)]
      have d2 := g6 (Or.inr h12)
      have s1 : nI (dpS cd i) - 1 = nI (dpS cd i - 1) := nI_sl (n := 1) (show 1 ≤ dpS cd i by omega)
      have s2 : nI (dpS cd i - 1) - 1 = nI (dpS cd i - 2) := nI_sl (n := 1) (show 1 ≤ dpS cd i - 1 by omega)
      refine ⟨(nI (dpS cd i - 1), stC D 6 (C.2 2 0 4) 4 (dpS cd i - 2) (D.1 6 (C.2 2 0 4) 4 (dpS cd i - 2) ||| D.1 6 (C.2 2 0 4) 4 (dpS cd i - 1))), ?_, by omega, by rw [hdp1], hFS _ _, fun t ht k hk => ?_⟩
      · rw [h12, if_neg (show ¬ nI (cdW 12) = (17 : Int32) by decide)]
        unfold f_X5_ownersOf_51 f_X5_ownersOf_91
        rw [ldA_nI (by omega) (by omega), ldA_nI (by omega) (by omega), e1, h12, if_neg (show ¬ nI (cdW 12) = (16 : Int32) by decide), if_pos (show nI (cdW 12) = (15 : Int32) from rfl), s1, s2]
        simp (disch := omega) only [le_nl, if_neg, ldA_nI, stA_nI, nI_al]
      · dsimp only
        show _ = (if cd i = 10 then _ else if cd i = 11 then _ else if cd i = 12 then _ else _)
        rw [if_neg (by omega), if_neg (by omega), if_pos h12, stC_if]
        by_cases e : t = dpS cd i - 2
        · rw [if_pos e, if_pos e, bb_or, e, hst _ (by omega) k hk, hst _ (by omega) k hk, show dpS cd i - 2 + 1 = dpS cd i - 1 by omega]
        · rw [if_neg e, if_neg e]
          exact hst t (by omega) k hk
  · rintro m ⟨a, D⟩ ⟨-, ha, hD, hst⟩
    dsimp only at ha hD hst
    subst ha
    have e01 : D.1 6 (C.2 2 0 4) 0 1 = nI K := (hD.2 6 _ 0 1 (by omega)).trans hc
    obtain ⟨mm, hmm, e⟩ := and_small (D.1 6 (C.2 2 0 4) 4 0) (((1 : Int32) <<< (nI n.2.2.1 &&& 31)) - 1) (mask_lt _ (by omega))
    refine ⟨mm, D, hmm, ?_, hD, fun k hk => ?_⟩
    · dsimp only
      rw [hd1]
      simp (disch := omega) only [f_X5_ownersOf_5, e01, le_nn, if_pos, le_nl, if_neg, ldA_l, rt, e]
    · rw [← e, bb_and, mask_bb _ (by omega) k hk]
      by_cases hkO : k < n.2.2.1
      · rw [hst 0 (by omega) k hkO, decide_eq_true hkO, Bool.and_true, Bool.true_and]
      · rw [decide_eq_false hkO, Bool.and_false, Bool.false_and]
theorem isSaid_eq {n : BN} {C : CM} {X Y : XM} {K k : Nat} {cd : Nat → Nat} (hN : 2000 ≤ N) (hH : HereR C X n) (hSn : SnR C X K cd) (hk : k < n.2.2.1) (hY : Y.1 2 = X.1 2) : ∃ Z, f_X11_isSaid N (nI k) Y = some (bI (stS cd (lfX X k) K 0), Z) ∧ Z.2 = Y.2 ∧ ∀ j, j ≠ 16 → Z.1 j = Y.1 j := by
  have bd := bk_bd hH.1
  obtain ⟨h0, h40, hx, hc, hd1, h5⟩ := id hSn
  have hdp := fun i hi => dp_le (K := K) (i := i) (fun i hi => (h5 i hi).2.2.2.2.2.2) hi
  unfold f_X11_isSaid
  refine loop1 (fun m i (q : Int32 × XM) => f_X11_isSaid_4 N (nI k) m q.1 i q.2) (fun i q => q.1 = nI (dpS cd i) ∧ q.2.2 = Y.2 ∧ (∀ j, j ≠ 16 → q.2.1 j = Y.1 j) ∧ ∀ t, t < dpS cd i → q.2.1 16 t = bI (stS cd (lfX X k) i t))
    (fun y => ∃ Z, y = some (bI (stS cd (lfX X k) K 0), Z) ∧ Z.2 = Y.2 ∧ ∀ j, j ≠ 16 → Z.1 j = Y.1 j) K ?_ ?_ K 0 N (0, Y) (by omega) (by omega) ⟨rfl, rfl, fun _ _ => rfl, fun t ht => by simp [dpS] at ht⟩
  · rintro m i ⟨a, Z⟩ hi ⟨ha, hZ2, hZ, hst⟩
    dsimp only at ha hZ2 hZ hst
    subst ha
    refine Or.inl ?_
    obtain ⟨g1, g2, g3, g4, g5, g6, g7⟩ := h5 i hi
    have d20 := hdp i (by omega)
    have z2 : Z.1 2 = X.1 2 := (hZ 2 (by omega)).trans hY
    have x664 : Z.1 2 664 = nI K := by rw [z2]; exact hx
    have x5 : Z.1 2 (665 + 3 * i) = nI (cd i) := by rw [z2]; exact g2
    have hfr : ∀ t v, ∀ j, j ≠ 16 → (stX Z 16 t v).1 j = Y.1 j := fun t v j hj => (stX_row hj).trans (hZ j hj)
    dsimp only
    rw [f_X11_isSaid_4]
    simp (disch := omega) only [ldA_l, x664, le_nn, if_neg, nI_lm, nI_la, ldA_nI, x5, nI_al]
    rcases g1 with hl | h10 | h11 | h12
    · have hdp1 : dpS cd (i + 1) = dpS cd i + 1 := by
        show (if cd i = 10 then _ else if cd i = 11 ∨ cd i = 12 then _ else _) = _
        rw [if_neg (by omega), if_neg (by omega)]
      have lv := (leaf_val (D := C) hH hSn hk hi hl ⟨rfl, fun _ _ _ _ _ => rfl⟩ z2).2
      refine ⟨(nI (dpS cd i + 1), stX Z 16 (dpS cd i) (bI (lfX X k i))), ?_, by rw [hdp1], hZ2, hfr _ _, fun t ht => ?_⟩
      · rw [if_neg (by simp (disch := omega) only [eq_nl]; omega), if_neg (by simp (disch := omega) only [eq_nl]; omega), if_neg (by simp (disch := omega) only [eq_nl]; omega), show 665 + 3 * i + 1 = 666 + 3 * i by omega, show 665 + 3 * i + 2 = 667 + 3 * i by omega, z2, lv, cal_some, nrZ_bI]
        simp (disch := omega) only [sxA_nI]
      · dsimp only
        show _ = bI (if cd i = 10 then _ else if cd i = 11 then _ else if cd i = 12 then _ else _)
        rw [if_neg (by omega), if_neg (by omega), if_neg (by omega), stX_if]
        by_cases e : t = dpS cd i
        · rw [if_pos e, if_pos e]
        · rw [if_neg e, if_neg e]
          exact hst t (by omega)
    · have hdp1 : dpS cd (i + 1) = dpS cd i := by
        show (if cd i = 10 then _ else if cd i = 11 ∨ cd i = 12 then _ else _) = _
        rw [if_pos h10]
      have d1 := g5 h10
      have s1 : nI (dpS cd i) - 1 = nI (dpS cd i - 1) := nI_sl (n := 1) (show 1 ≤ dpS cd i by omega)
      have hv := hst (dpS cd i - 1) (by omega)
      refine ⟨(nI (dpS cd i), stX Z 16 (dpS cd i - 1) (bI (!stS cd (lfX X k) i (dpS cd i - 1)))), ?_, by rw [hdp1], hZ2, hfr _ _, fun t ht => ?_⟩
      · rw [h10, if_pos (show nI 10 = (10 : Int32) from rfl), s1]
        unfold f_X11_isSaid_60
        simp (disch := omega) only [ldA_nI, hv, bI0, sxA_nI, nI_al]
        cases stS cd (lfX X k) i (dpS cd i - 1)
        · rfl
        · rfl
      · dsimp only
        show _ = bI (if cd i = 10 then _ else _)
        rw [if_pos h10, stX_if]
        by_cases e : t = dpS cd i - 1
        · rw [if_pos e, if_pos e, e]
        · rw [if_neg e, if_neg e]
          exact hst t (by omega)
    · have hdp1 : dpS cd (i + 1) = dpS cd i - 1 := by
        show (if cd i = 10 then _ else if cd i = 11 ∨ cd i = 12 then _ else _) = _
        rw [if_neg (by omega), if_pos (Or.inl h11)]
      have d2 := g6 (Or.inl h11)
      have s1 : nI (dpS cd i) - 1 = nI (dpS cd i - 1) := nI_sl (n := 1) (show 1 ≤ dpS cd i by omega)
      have s2 : nI (dpS cd i - 1) - 1 = nI (dpS cd i - 2) := nI_sl (n := 1) (show 1 ≤ dpS cd i - 1 by omega)
      have hv := hst (dpS cd i - 2) (by omega)
      have hv1 := hst (dpS cd i - 1) (by omega)
      refine ⟨(nI (dpS cd i - 1), stX Z 16 (dpS cd i - 2) (bI (stS cd (lfX X k) i (dpS cd i - 2) && stS cd (lfX X k) i (dpS cd i - 1)))), ?_, by rw [hdp1], hZ2, hfr _ _, fun t ht => ?_⟩
      · rw [h11, if_neg (show ¬ nI 11 = (10 : Int32) by decide), if_pos (show nI 11 = (11 : Int32) from rfl)]
        unfold f_X11_isSaid_88 f_X11_isSaid_134 f_X11_isSaid_163
        rw [s1, s2, ldA_nI (by omega) (by omega), x5, h11, if_pos (show nI 11 = (11 : Int32) from rfl)]
        simp (disch := omega) only [ldA_nI, hv, hv1, bI0, sxA_nI, nI_al]
        cases stS cd (lfX X k) i (dpS cd i - 2)
        · rfl
        · cases stS cd (lfX X k) i (dpS cd i - 1)
          · rfl
          · rfl
      · dsimp only
        show _ = bI (if cd i = 10 then _ else if cd i = 11 then _ else _)
        rw [if_neg (by omega), if_pos h11, stX_if]
        by_cases e : t = dpS cd i - 2
        · rw [if_pos e, if_pos e, e, show dpS cd i - 2 + 1 = dpS cd i - 1 by omega]
        · rw [if_neg e, if_neg e]
          exact hst t (by omega)
    · have hdp1 : dpS cd (i + 1) = dpS cd i - 1 := by
        show (if cd i = 10 then _ else if cd i = 11 ∨ cd i = 12 then _ else _) = _
        rw [if_neg (by omega), if_pos (Or.inr h12)]
      have d2 := g6 (Or.inr h12)
      have s1 : nI (dpS cd i) - 1 = nI (dpS cd i - 1) := nI_sl (n := 1) (show 1 ≤ dpS cd i by omega)
      have s2 : nI (dpS cd i - 1) - 1 = nI (dpS cd i - 2) := nI_sl (n := 1) (show 1 ≤ dpS cd i - 1 by omega)
      have hv := hst (dpS cd i - 2) (by omega)
      have hv1 := hst (dpS cd i - 1) (by omega)
      refine ⟨(nI (dpS cd i - 1), stX Z 16 (dpS cd i - 2) (bI (stS cd (lfX X k) i (dpS cd i - 2) || stS cd (lfX X k) i (dpS cd i - 1)))), ?_, by rw [hdp1], hZ2, hfr _ _, fun t ht => ?_⟩
      · rw [h12, if_neg (show ¬ nI 12 = (10 : Int32) by decide), if_neg (show ¬ nI 12 = (11 : Int32) by decide), if_pos (show nI 12 = (12 : Int32) from rfl)]
        unfold f_X11_isSaid_88 f_X11_isSaid_158 f_X11_isSaid_163
        rw [s1, s2, ldA_nI (by omega) (by omega), x5, h12, if_neg (show ¬ nI 12 = (11 : Int32) by decide)]
        simp (disch := omega) only [ldA_nI, hv, hv1, bI0, sxA_nI, nI_al]
        cases stS cd (lfX X k) i (dpS cd i - 2)
        · cases stS cd (lfX X k) i (dpS cd i - 1)
          · rfl
          · rfl
        · rfl
      · dsimp only
        show _ = bI (if cd i = 10 then _ else if cd i = 11 then _ else if cd i = 12 then _ else _)
        rw [if_neg (by omega), if_neg (by omega), if_pos h12, stX_if]
        by_cases e : t = dpS cd i - 2
        · rw [if_pos e, if_pos e, e, show dpS cd i - 2 + 1 = dpS cd i - 1 by omega]
        · rw [if_neg e, if_neg e]
          exact hst t (by omega)
  · rintro m ⟨a, Z⟩ ⟨ha, hZ2, hZ, hst⟩
    dsimp only at ha hZ2 hZ hst
    have x664 : Z.1 2 664 = nI K := by rw [hZ 2 (by omega), hY]; exact hx
    have hv := hst 0 (by omega)
    refine ⟨Z, ?_, hZ2, hZ⟩
    dsimp only
    simp (disch := omega) only [f_X11_isSaid_4, ldA_l, x664, le_nn, if_pos, hv, isB_bI, chk_t, rt]
theorem sumN_eq {f g : Nat → Nat} : ∀ k, (∀ o, o < k → f o = g o) → sumN f k = sumN g k := by
  intro k
  induction k with
  | zero => intro _; rfl
  | succ k ih =>
    intro h
    show sumN f k + f k = sumN g k + g k
    rw [ih (fun o ho => h o (by omega)), h k (by omega)]
theorem tb8 : ∀ m, m < 256 → ∀ k, k < 12 → 8 ≤ k → m.testBit k = false := by decide +kernel
theorem sumN_bd {f : Nat → Bool} : ∀ k, sumN (fun o => (f o).toNat) k ≤ k := by
  intro k
  induction k with
  | zero => exact Nat.le_refl _
  | succ k ih =>
    show sumN (fun o => (f o).toNat) k + (f k).toNat ≤ k + 1
    have := Bool.toNat_le (f k)
    omega
theorem bb_tb {m k : Nat} (hm : m < 256) (hk : k < 8) : bb (nI m) k = m.testBit k := by
  refine bb_of hk ?_
  have := sh_bit (m := m) (t := k) (by omega) (by omega)
  show (nI m >>> (nI k &&& 31)) &&& 1 = _
  rw [this]
  cases m.testBit k <;> rfl
theorem op_said (hN : 2000 ≤ N) (b1 : Int32) : OP (Rel N) (f_X10_said N b1) (f_X11_said N b1) := op_q fun C X hR => by
  have hR0 := rel_xe hR (xe_0 X 0)
  have hx0 := xe_0 X 0
  unfold f_X10_said f_X11_said
  rw [bnd_v]
  generalize stX X 0 0 0 = X0 at hR0 hx0 ⊢
  obtain ⟨⟨n, hH, -⟩, -, -, hRs⟩ := hR0
  have hb := b_lt hRs.1
  have bd := bk_bd hH.1
  obtain ⟨K, cd, k1, k2, k3⟩ := hH.2.2.2.1
  rw [ldR_lt hb.2.2]
  simp (disch := omega) only [ldA_l, k2]
  rcases k3 with ⟨rfl, h00⟩ | ⟨hK, h00, h01, hd, h5⟩
  · rw [h00, if_pos rfl, if_pos (show nI 0 = (0 : Int32) from rfl)]
    exact ⟨_, _, _, rfl, rfl, CE.rf C, hx0⟩
  have hSn : SnR C X0 K cd := ⟨hK, k1, k2, h01, hd, h5⟩
  have hKne : ¬ (nI K = (0 : Int32)) := by simp (disch := omega) only [eq_nl]; omega
  rw [if_neg h00, if_neg hKne, ldR_lt hb.2.2, ldR_lt hb.1, (bk_o hH.1).1]
  obtain ⟨m, D, hm, e1, hD, hbb⟩ := owners_eq hN hH hSn
  rw [e1, cal_some]
  generalize hsd : (fun k => stS cd (lfX X0 k) K 0) = sd at hbb
  have hbb' : ∀ k, k < 8 → bb (nI m) k = (decide (k < n.2.2.1) && sd k) := fun k hk => by rw [hbb k hk, ← hsd]
  have hsaid : ∀ Y : XM, Y.1 2 = X0.1 2 → ∀ k, k < n.2.2.1 → ∃ Z, f_X11_isSaid N (nI k) Y = some (bI (sd k), Z) ∧ Z.2 = Y.2 ∧ ∀ j, j ≠ 16 → Z.1 j = Y.1 j := fun Y hY k hk => by rw [← hsd]; exact isSaid_eq hN hH hSn hk hY
  have xe16 : ∀ Y Z : XM, Z.2 = Y.2 → (∀ j, j ≠ 16 → Z.1 j = Y.1 j) → XE Y Z := fun Y Z h2 h1 => ⟨fun x _ => by rw [h1 0 (by omega)], fun j hj => h1 j (fun e => by subst e; cases hj), fun x _ => by rw [h2], by rw [h2], by rw [h2]⟩
  have hbit : ∀ k, k < 8 → ((nI m >>> (nI k &&& 31)) &&& 1 = 1) = (k < n.2.2.1 ∧ sd k = true) := fun k hk => by
    show (bt (nI m) k = 1) = _
    rw [bt_bb _ hk, hbb' k hk]
    by_cases h1 : k < n.2.2.1 <;> cases h2 : sd k <;> simp [h1]
  by_cases ha : b1 = -1
  · subst ha
    rw [if_pos rfl, if_pos (by decide), bc_eq, cal_some, bc_pop (by omega)]
    have ecnt : popT m 12 = sumN (fun o => (sd o).toNat) n.2.2.1 := by
      have s1 : popT m 12 = sumN (fun k => (decide (k < n.2.2.1) && sd k).toNat) (n.2.2.1 + (12 - n.2.2.1)) := by
        rw [show n.2.2.1 + (12 - n.2.2.1) = 12 by omega]
        refine sumN_eq 12 (fun k hk => ?_)
        by_cases h8 : k < 8
        · rw [← hbb' k h8, bb_tb hm h8]
        · rw [tb8 m hm k hk (by omega), decide_eq_false (show ¬ k < n.2.2.1 by omega)]
          rfl
      rw [s1, sumN_z (12 - n.2.2.1) (fun o h1 h2 => by rw [decide_eq_false (show ¬ o < n.2.2.1 by omega)]; rfl)]
      refine sumN_eq _ (fun o ho => ?_)
      rw [decide_eq_true ho, Bool.true_and]
    rw [ecnt]
    obtain ⟨Z, z1, z2⟩ : ∃ Z, f_X11_said_27 N (-1) N 0 0 X0 = some (nI (sumN (fun o => (sd o).toNat) n.2.2.1), Z) ∧ XE X0 Z := by
      refine loop1 (fun mm i (q : Int32 × XM) => f_X11_said_27 N (-1) mm q.1 i q.2) (fun i q => i ≤ n.2.2.1 ∧ q.1 = nI (sumN (fun o => (sd o).toNat) i) ∧ XE X0 q.2) (fun y => ∃ Z, y = some (nI (sumN (fun o => (sd o).toNat) n.2.2.1), Z) ∧ XE X0 Z) n.2.2.1 ?_ ?_ n.2.2.1 0 N (0, X0) (by omega) (by omega) ⟨by omega, rfl, XE.rf X0⟩
      · rintro mm i ⟨a, Y⟩ hi ⟨hiO, ha, hY⟩
        dsimp only at ha hY
        subst ha
        refine Or.inl ?_
        have y2 : Y.1 2 = X0.1 2 := hY.2.1 2 rfl
        have x2 : Y.1 2 2 = nI n.2.2.1 := by rw [y2]; exact (bk_o hH.1).2
        have hbd := sumN_bd (f := sd) i
        obtain ⟨Z, z1, z2, z3⟩ := hsaid Y y2 i hi
        dsimp only
        rw [f_X11_said_27]
        simp (disch := omega) only [ldA_l, x2, le_nn, if_neg, z1, cal_some, bI0, nI_al]
        cases hs : sd i
        · rw [if_pos rfl]
          refine ⟨(nI (sumN (fun o => (sd o).toNat) i), Z), rfl, by omega, ?_, hY.trans (xe16 Y Z z2 z3)⟩
          show _ = nI (sumN (fun o => (sd o).toNat) i + (sd i).toNat)
          rw [hs]
          rfl
        · rw [if_neg (by decide), if_neg (fun e => nI_nneg (show sumN (fun o => (sd o).toNat) i < 2147483648 by omega) (by rw [e]; decide))]
          refine ⟨(nI (sumN (fun o => (sd o).toNat) i + 1), Z), rfl, by omega, ?_, hY.trans (xe16 Y Z z2 z3)⟩
          show _ = nI (sumN (fun o => (sd o).toNat) i + (sd i).toNat)
          rw [hs]
          rfl
      · rintro mm ⟨a, Y⟩ ⟨-, ha, hY⟩
        dsimp only at ha hY
        have x2 : Y.1 2 2 = nI n.2.2.1 := by rw [hY.2.1 2 rfl]; exact (bk_o hH.1).2
        refine ⟨Y, ?_, hY⟩
        dsimp only
        rw [ha]
        simp (disch := omega) only [f_X11_said_27, ldA_l, x2, le_nn, if_pos, if_true, rt]
    rw [z1]
    exact ⟨_, _, _, rfl, rfl, ce_fs hD, hx0.trans z2⟩
  rw [if_neg ha]
  rcases int_cases b1 with hneg | ⟨kk, hkk, rfl⟩
  · have hlt : ¬ ((-1 : Int32) ≤ b1) := by
      intro h
      have h1 : b1 ≤ -1 := by
        rw [Int32.lt_iff_toInt_lt] at hneg
        rw [Int32.le_iff_toInt_le]
        have e0 : (0 : Int32).toInt = 0 := by decide
        have e1 : (-1 : Int32).toInt = -1 := by decide
        omega
      exact ha (Int32.le_antisymm h1 h)
    rw [if_neg hlt]
    -- no owner's count is negative
    refine ⟨-1, D, X0, ?_, rfl, ce_fs hD, hx0⟩
    refine loop1 (fun mm i q => f_X10_said_61 N b1 (nI m) mm q i D) (fun i q => ∃ c, c ≤ i ∧ q = nI c) (fun y => y = some (-1, D)) 8 ?_ ?_ 8 0 N 0 (by omega) (by omega) ⟨0, by omega, rfl⟩
    · rintro mm i q hi ⟨c, hc, rfl⟩
      refine Or.inl ?_
      rw [f_X10_said_61]
      simp (disch := omega) only [le_ln, if_neg, nI_al]
      by_cases h : (nI m >>> (nI i &&& 31)) &&& 1 = 1
      · rw [if_pos h, if_neg (fun e => nI_nneg (show c < 2147483648 by omega) (by rw [e]; exact hneg))]
        exact ⟨nI (c + 1), rfl, c + 1, by omega, rfl⟩
      · rw [if_neg h]
        exact ⟨nI c, rfl, c, by omega, rfl⟩
    · rintro mm q -
      simp (disch := omega) only [f_X10_said_61, le_ln, if_pos, rt]
  · rw [if_pos (Int32.le_trans (by decide) (nI_pos' (show kk < 2 ^ 31 by omega)))]
    have hC : (∃ o, o < 8 ∧ (decide (o < n.2.2.1) && sd o) = true ∧ sumN (fun o => (decide (o < n.2.2.1) && sd o).toNat) o = kk ∧ f_X10_said_61 N (nI kk) (nI m) N 0 0 D = some (nI o, D)) ∨ ((∀ o, o < 8 → (decide (o < n.2.2.1) && sd o) = true → sumN (fun o => (decide (o < n.2.2.1) && sd o).toNat) o ≠ kk) ∧ f_X10_said_61 N (nI kk) (nI m) N 0 0 D = some (-1, D)) := by
      refine loop1 (fun mm i q => f_X10_said_61 N (nI kk) (nI m) mm q i D) (fun i q => q = nI (sumN (fun o => (decide (o < n.2.2.1) && sd o).toNat) i) ∧ ∀ o, o < i → (decide (o < n.2.2.1) && sd o) = true → sumN (fun o => (decide (o < n.2.2.1) && sd o).toNat) o ≠ kk)
        (fun y => (∃ o, o < 8 ∧ (decide (o < n.2.2.1) && sd o) = true ∧ sumN (fun o => (decide (o < n.2.2.1) && sd o).toNat) o = kk ∧ y = some (nI o, D)) ∨ ((∀ o, o < 8 → (decide (o < n.2.2.1) && sd o) = true → sumN (fun o => (decide (o < n.2.2.1) && sd o).toNat) o ≠ kk) ∧ y = some (-1, D))) 8 ?_ ?_ 8 0 N 0 (by omega) (by omega) ⟨rfl, fun o ho => by omega⟩
      · rintro mm i q hi ⟨rfl, hne⟩
        have hbd := sumN_bd (f := fun o => (decide (o < n.2.2.1) && sd o)) i
        have hbi := hbit i hi
        rw [f_X10_said_61]
        simp (disch := omega) only [le_ln, if_neg, nI_al, eq_nn]
        by_cases h : i < n.2.2.1 ∧ sd i = true
        · have hT : (decide (i < n.2.2.1) && sd i) = true := by rw [decide_eq_true h.1, h.2]; rfl
          rw [if_pos (by rw [hbi]; exact h)]
          by_cases hck : sumN (fun o => (decide (o < n.2.2.1) && sd o).toNat) i = kk
          · rw [if_pos hck]
            exact Or.inr (Or.inl ⟨i, hi, hT, hck, rfl⟩)
          · rw [if_neg hck]
            refine Or.inl ⟨_, rfl, ?_, fun o ho h2 => ?_⟩
            · show _ = nI (sumN (fun o => (decide (o < n.2.2.1) && sd o).toNat) i + (decide (i < n.2.2.1) && sd i).toNat)
              rw [hT]
              rfl
            · by_cases e : o = i
              · rw [e]; exact hck
              · exact hne o (by omega) h2
        · have hF : (decide (i < n.2.2.1) && sd i) = false := by
            cases hs : sd i
            · simp
            · rw [decide_eq_false (fun h1 => h ⟨h1, hs⟩)]
              rfl
          rw [if_neg (by rw [hbi]; exact h)]
          refine Or.inl ⟨_, rfl, ?_, fun o ho h2 => ?_⟩
          · show _ = nI (sumN (fun o => (decide (o < n.2.2.1) && sd o).toNat) i + (decide (i < n.2.2.1) && sd i).toNat)
            rw [hF]
            rfl
          · by_cases e : o = i
            · rw [e, hF] at h2
              cases h2
            · exact hne o (by omega) h2
      · rintro mm q ⟨-, hne⟩
        refine Or.inr ⟨hne, ?_⟩
        simp (disch := omega) only [f_X10_said_61, le_ln, if_pos, rt]
    have hX : ∃ Z, XE X0 Z ∧ ((∃ o, o < n.2.2.1 ∧ (decide (o < n.2.2.1) && sd o) = true ∧ sumN (fun o => (decide (o < n.2.2.1) && sd o).toNat) o = kk ∧ f_X11_said_27 N (nI kk) N 0 0 X0 = some (nI o, Z)) ∨ ((∀ o, o < n.2.2.1 → (decide (o < n.2.2.1) && sd o) = true → sumN (fun o => (decide (o < n.2.2.1) && sd o).toNat) o ≠ kk) ∧ f_X11_said_27 N (nI kk) N 0 0 X0 = some (-1, Z))) := by
      refine loop1 (fun mm i (q : Int32 × XM) => f_X11_said_27 N (nI kk) mm q.1 i q.2) (fun i q => XE X0 q.2 ∧ q.1 = nI (sumN (fun o => (decide (o < n.2.2.1) && sd o).toNat) i) ∧ ∀ o, o < i → (decide (o < n.2.2.1) && sd o) = true → sumN (fun o => (decide (o < n.2.2.1) && sd o).toNat) o ≠ kk)
        (fun y => ∃ Z, XE X0 Z ∧ ((∃ o, o < n.2.2.1 ∧ (decide (o < n.2.2.1) && sd o) = true ∧ sumN (fun o => (decide (o < n.2.2.1) && sd o).toNat) o = kk ∧ y = some (nI o, Z)) ∨ ((∀ o, o < n.2.2.1 → (decide (o < n.2.2.1) && sd o) = true → sumN (fun o => (decide (o < n.2.2.1) && sd o).toNat) o ≠ kk) ∧ y = some (-1, Z)))) n.2.2.1 ?_ ?_ n.2.2.1 0 N (0, X0) (by omega) (by omega) ⟨XE.rf X0, rfl, fun o ho => by omega⟩
      · rintro mm i ⟨a, Y⟩ hi ⟨hY, ha, hne⟩
        dsimp only at hY ha
        subst ha
        have hbd := sumN_bd (f := fun o => (decide (o < n.2.2.1) && sd o)) i
        have y2 : Y.1 2 = X0.1 2 := hY.2.1 2 rfl
        have x2 : Y.1 2 2 = nI n.2.2.1 := by rw [y2]; exact (bk_o hH.1).2
        obtain ⟨Z, z1, z2, z3⟩ := hsaid Y y2 i hi
        have hYZ := hY.trans (xe16 Y Z z2 z3)
        dsimp only
        rw [f_X11_said_27]
        simp (disch := omega) only [ldA_l, x2, le_nn, if_neg, z1, cal_some, bI0, nI_al, eq_nn]
        cases hs : sd i
        · have hF : (decide (i < n.2.2.1) && sd i) = false := by rw [hs]; simp
          rw [if_pos rfl]
          refine Or.inl ⟨(_, Z), rfl, hYZ, ?_, fun o ho h2 => ?_⟩
          · show _ = nI (sumN (fun o => (decide (o < n.2.2.1) && sd o).toNat) i + (decide (i < n.2.2.1) && sd i).toNat)
            rw [hF]
            rfl
          · by_cases e : o = i
            · rw [e, hF] at h2
              cases h2
            · exact hne o (by omega) h2
        · have hT : (decide (i < n.2.2.1) && sd i) = true := by rw [decide_eq_true hi, hs]; rfl
          rw [if_neg (by decide)]
          by_cases hck : sumN (fun o => (decide (o < n.2.2.1) && sd o).toNat) i = kk
          · rw [if_pos hck]
            exact Or.inr ⟨Z, hYZ, Or.inl ⟨i, hi, hT, hck, rfl⟩⟩
          · rw [if_neg hck]
            refine Or.inl ⟨(_, Z), rfl, hYZ, ?_, fun o ho h2 => ?_⟩
            · show _ = nI (sumN (fun o => (decide (o < n.2.2.1) && sd o).toNat) i + (decide (i < n.2.2.1) && sd i).toNat)
              rw [hT]
              rfl
            · by_cases e : o = i
              · rw [e]; exact hck
              · exact hne o (by omega) h2
      · rintro mm ⟨a, Y⟩ ⟨hY, -, hne⟩
        dsimp only at hY
        have x2 : Y.1 2 2 = nI n.2.2.1 := by rw [hY.2.1 2 rfl]; exact (bk_o hH.1).2
        refine ⟨Y, hY, Or.inr ⟨hne, ?_⟩⟩
        dsimp only
        simp (disch := omega) only [f_X11_said_27, ldA_l, x2, le_nn, if_pos]
        rw [if_neg ha]
        rfl
    have mono : ∀ o1 o2, o1 < o2 → (decide (o1 < n.2.2.1) && sd o1) = true → sumN (fun o => (decide (o < n.2.2.1) && sd o).toNat) o1 < sumN (fun o => (decide (o < n.2.2.1) && sd o).toNat) o2 := by
      intro o1 o2 h12 hT
      induction o2 with
      | zero => omega
      | succ o2 ih =>
        show _ < sumN (fun o => (decide (o < n.2.2.1) && sd o).toNat) o2 + (decide (o2 < n.2.2.1) && sd o2).toNat
        by_cases e : o1 = o2
        · subst e
          rw [hT]
          show _ < _ + 1
          omega
        · have := ih (by omega)
          omega
    obtain ⟨Z, hZ, hX⟩ := hX
    rcases hC with ⟨o1, p1, p2, p3, p4⟩ | ⟨p1, p2⟩
    · have ho1 : o1 < n.2.2.1 := by
        rw [Bool.and_eq_true, decide_eq_true_eq] at p2
        exact p2.1
      rcases hX with ⟨o2, q1, q2, q3, q4⟩ | ⟨q1, q2⟩
      · have e : o1 = o2 := by
          rcases Nat.lt_trichotomy o1 o2 with h | h | h
          · have := mono o1 o2 h p2
            omega
          · exact h
          · have := mono o2 o1 h q2
            omega
        subst e
        exact ⟨_, _, _, p4, q4, ce_fs hD, hx0.trans hZ⟩
      · exact absurd p3 (q1 o1 ho1 p2)
    · rcases hX with ⟨o2, q1, q2, q3, q4⟩ | ⟨q1, q2⟩
      · exact absurd q3 (p1 o2 (by omega) q2)
      · exact ⟨_, _, _, p2, q2, ce_fs hD, hx0.trans hZ⟩
end SAJ
