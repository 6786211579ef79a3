/-! What force comes to a cell, on both sides. -/
theorem i10 : ((1 : Int32) = 0) = False := by decide
theorem i01 : ((0 : Int32) = 1) = False := by decide
theorem nI_r2 {k : Nat} (hk : k < 2147483648) : nI k - nI (k / 10) * 10 = nI (k % 10) := by
  rw [← nI_dl (n := 10) hk (by decide) (by decide)]
  exact nI_rl (n := 10) hk (by decide) (by decide)
theorem nI_r8 {k : Nat} (hk : k < 2147483648) : nI k - nI (k / 8) * 8 = nI (k % 8) := by
  rw [← nI_dl (n := 8) hk (by decide) (by decide)]
  exact nI_rl (n := 8) hk (by decide) (by decide)
theorem nI_r21 {k : Nat} (hk : k < 2147483648) : nI k - nI (k / 2) * 2 = nI (k % 2) := by
  rw [← nI_dl (n := 2) hk (by decide) (by decide)]
  exact nI_rl (n := 2) hk (by decide) (by decide)
theorem stX_self (X : XM) (j x : Nat) : stX X j x (X.1 j x) = X := by
  refine Prod.ext ?_ rfl
  funext j' x'
  simp only [stX]
  split
  · rename_i h
    rw [h.1, h.2]
  · rfl
theorem stX_stX (X : XM) (j x : Nat) (a c : Int32) : stX (stX X j x a) j x c = stX X j x c := by
  refine Prod.ext ?_ rfl
  funext j' x'
  simp only [stX]
  split <;> rfl
theorem stX_row {X : XM} {j x j' : Nat} {v : Int32} (h : j' ≠ j) : (stX X j x v).1 j' = X.1 j' := by
  funext x'
  simp [stX, h]
theorem stX_at {X : XM} {j x : Nat} {v : Int32} : (stX X j x v).1 j x = v := by simp [stX]
theorem stX_ne {X : XM} {j x x' : Nat} {v : Int32} (h : x' ≠ x) : (stX X j x v).1 j x' = X.1 j x' := by simp [stX, h]
theorem vX_s : ∀ x, x < 10 → ∀ d, d < 8 → ∀ i, i < 3 → vX x i d + tbX d = vX x (i + 1) d := by decide +kernel
theorem vY_s : ∀ x, x < 10 → ∀ d, d < 8 → ∀ i, i < 3 → vY x i d + tbY d = vY x (i + 1) d := by decide +kernel
theorem vX_0 : ∀ x, x < 10 → ∀ d, d < 8 → vX x 0 d = nI x := by decide +kernel
theorem vY_0 : ∀ x, x < 10 → ∀ d, d < 8 → vY x 0 d = nI x := by decide +kernel
def oB (w h x y d i : Nat) : Bool := outX w x i d || outY h y i d
def ixT (x y d i : Nat) : Nat := (vY y i d * 10 + vX x i d).toNatClampNeg
def tkAt (th : Nat → Int32) (w h x y d i : Nat) : Int32 := if oB w h x y d i = true then 0 else tkT (th (ixT x y d i))
theorem oB_no {w h x y d i : Nat} (hw : w < 11) (hh : h < 11) (hx : x < 10) (hy : y < 10) (hd : d < 8) (hi : i < 4) (ho : oB w h x y d i = false) : ∃ x' y', x' < w ∧ y' < h ∧ vX x i d = nI x' ∧ vY y i d = nI y' ∧ ixT x y d i = 10 * y' + x' := by
  simp only [oB, Bool.or_eq_false_iff] at ho
  obtain ⟨x', h1, h2⟩ := outX_no hw hx hd hi ho.1
  obtain ⟨y', h3, h4⟩ := outY_no hh hy hd hi ho.2
  refine ⟨x', y', h1, h3, h2, h4, ?_⟩
  simp only [ixT, h2, h4, nI_ml, nI_add]
  rw [nI_clamp (by omega)]
  omega
theorem oB_mono {w h x y d i : Nat} (hw : w < 11) (hh : h < 11) (hx : x < w) (hy : y < h) (hd : d < 8) (hi : i < 3) (ho : oB w h x y d i = true) : oB w h x y d (i + 1) = true := by
  simp only [oB, Bool.or_eq_true] at ho ⊢
  rcases ho with ho | ho
  · exact Or.inl (outX_mono w hw x (by omega) d hd i hi ⟨hx, ho⟩)
  · exact Or.inr (outY_mono h hh y (by omega) d hd i hi ⟨hy, ho⟩)
theorem tk_if {α : Type} (F : Int32 → α) (v a : Int32) : (if ((v >>> (4 &&& 31)) <<< (4 &&& 31)) = 32 then F (a - 2) else if ((v >>> (4 &&& 31)) <<< (4 &&& 31)) = 48 then F (a - 3) else F a) = F (a - tkT v) := by
  unfold tkT
  by_cases h1 : ((v >>> (4 &&& 31)) <<< (4 &&& 31)) = 32
  · rw [if_pos h1, if_pos h1]
  · rw [if_neg h1, if_neg h1]
    by_cases h2 : ((v >>> (4 &&& 31)) <<< (4 &&& 31)) = 48
    · rw [if_pos h2, if_pos h2]
    · rw [if_neg h2, if_neg h2, Int32.sub_zero]
theorem fs_step {N b r m i x y d w h : Nat} {C : CM} {a : Int32} (hW : C.1 3 b 0 1 = nI w) (hH : C.1 3 b 0 2 = nI h) (hw : w < 11) (hh : h < 11) (hx : x < 10) (hy : y < 10) (hd : d < 8) (hi : i < 3) :
    f_X0_forceAt_s_39 N b r (tbX d) (tbY d) (m + 1) a (vX x i d) (vY y i d) (nI i) C = if oB w h x y d (i + 1) = true then some (imax a 0, C) else f_X0_forceAt_s_39 N b r (tbX d) (tbY d) m (a - tkT (C.1 4 r 8 (ixT x y d (i + 1)))) (vX x (i + 1) d) (vY y (i + 1) d) (nI (i + 1)) C := by
  rw [f_X0_forceAt_s_39]
  simp (disch := omega) only [le_ln, if_neg, vX_s x hx d hd i hi, vY_s y hy d hd i hi, hW, hH, nI_al, f_X0_forceAt_s_135, rt]
  by_cases ho : oB w h x y d (i + 1) = true
  · rw [if_pos ho]
    simp only [oB, outX, outY, Bool.or_eq_true, decide_eq_true_eq] at ho
    by_cases h1 : vX x (i + 1) d < 0
    · rw [if_pos h1]
    rw [if_neg h1]
    by_cases h2 : nI w ≤ vX x (i + 1) d
    · rw [if_pos h2]
    rw [if_neg h2]
    by_cases h3 : vY y (i + 1) d < 0
    · rw [if_pos h3]
    rw [if_neg h3, if_neg]
    intro h4
    rcases ho with (h | h) | h | h
    · exact h1 h
    · exact h2 h
    · exact h3 h
    · exact absurd h4 (Int32.not_lt.mpr h)
  · rw [if_neg ho]
    obtain ⟨x', y', q1, q2, q3, q4, q5⟩ := oB_no hw hh hx hy hd (by omega : i + 1 < 4) (by simpa using ho)
    rw [q5, q3, q4]
    simp (disch := omega) only [lt_nl, le_nn, lt_nn, if_neg, if_pos, nI_ml, nI_add, ldA_nI]
    rw [Nat.mul_comm y' 10]
    exact tk_if (fun a => f_X0_forceAt_s_39 N b r (tbX d) (tbY d) m a (nI x') (nI y') (nI (i + 1)) C) _ a
theorem fb_step {N b r m i x y d w h : Nat} {C : CM} {a : Int32} (hW : C.1 3 b 0 1 = nI w) (hH : C.1 3 b 0 2 = nI h) (hw : w < 11) (hh : h < 11) (hx : x < 10) (hy : y < 10) (hd : d < 8) (hi : i < 3) :
    f_X0_forceAt_b_39 N b r (tbX d) (tbY d) (m + 1) a (vX x i d) (vY y i d) (nI i) C = if oB w h x y d (i + 1) = true then some (imax a 0, C) else f_X0_forceAt_b_39 N b r (tbX d) (tbY d) m (a - tkT (C.1 3 r 1 (ixT x y d (i + 1)))) (vX x (i + 1) d) (vY y (i + 1) d) (nI (i + 1)) C := by
  rw [f_X0_forceAt_b_39]
  simp (disch := omega) only [le_ln, if_neg, vX_s x hx d hd i hi, vY_s y hy d hd i hi, hW, hH, nI_al, f_X0_forceAt_b_135, rt]
  by_cases ho : oB w h x y d (i + 1) = true
  · rw [if_pos ho]
    simp only [oB, outX, outY, Bool.or_eq_true, decide_eq_true_eq] at ho
    by_cases h1 : vX x (i + 1) d < 0
    · rw [if_pos h1]
    rw [if_neg h1]
    by_cases h2 : nI w ≤ vX x (i + 1) d
    · rw [if_pos h2]
    rw [if_neg h2]
    by_cases h3 : vY y (i + 1) d < 0
    · rw [if_pos h3]
    rw [if_neg h3, if_neg]
    intro h4
    rcases ho with (h | h) | h | h
    · exact h1 h
    · exact h2 h
    · exact h3 h
    · exact absurd h4 (Int32.not_lt.mpr h)
  · rw [if_neg ho]
    obtain ⟨x', y', q1, q2, q3, q4, q5⟩ := oB_no hw hh hx hy hd (by omega : i + 1 < 4) (by simpa using ho)
    rw [q5, q3, q4]
    simp (disch := omega) only [lt_nl, le_nn, lt_nn, if_neg, if_pos, nI_ml, nI_add, ldA_nI]
    rw [Nat.mul_comm y' 10]
    exact tk_if (fun a => f_X0_forceAt_b_39 N b r (tbX d) (tbY d) m a (nI x') (nI y') (nI (i + 1)) C) _ a
def frc (th : Nat → Int32) (w h c d : Nat) (f : Int32) : Int32 := imax (f - tkAt th w h (c % 10) (c / 10) d 1 - tkAt th w h (c % 10) (c / 10) d 2 - tkAt th w h (c % 10) (c / 10) d 3) 0
theorem and7 : ∀ d, d < 8 → nI d &&& 7 = nI d := by decide +kernel
theorem forceAt_s_eq {N b r c d w h : Nat} {C : CM} {f : Int32} (hN : 2000 ≤ N) (hW : C.1 3 b 0 1 = nI w) (hH : C.1 3 b 0 2 = nI h) (hw : w ≤ 10) (hh : h ≤ 10) (hc : c < 100) (hx : c % 10 < w) (hy : c / 10 < h) (hd : d < 8) : f_X0_forceAt_s N b r (nI c) (nI d) f C = some (frc (C.1 4 r 8) w h c d f, C) := by
  obtain ⟨m, hm⟩ : ∃ m, N = m + 4 := ⟨N - 4, by omega⟩
  unfold f_X0_forceAt_s
  rw [and7 d hd]
  simp (disch := omega) only [ldA_nI, nI_rl, nI_dl, nI_r2]
  have e0 : f_X0_forceAt_s_39 N b r (tbX d) (tbY d) N f (nI (c % 10)) (nI (c / 10)) 0 C = f_X0_forceAt_s_39 N b r (tbX d) (tbY d) (m + 4) f (vX (c % 10) 0 d) (vY (c / 10) 0 d) (nI 0) C := by
    rw [vX_0 _ (by omega) d hd, vY_0 _ (by omega) d hd, ← hm]
    rfl
  rw [e0, fs_step hW hH (by omega) (by omega) (by omega) (by omega) hd (by omega)]
  by_cases o1 : oB w h (c % 10) (c / 10) d 1 = true
  · have o2 := oB_mono (by omega) (by omega) hx hy hd (by omega) o1
    have o3 := oB_mono (by omega) (by omega) hx hy hd (by omega) o2
    rw [if_pos o1]
    simp only [frc, tkAt, o1, o2, o3, if_true, Int32.sub_zero]
  rw [if_neg o1, fs_step hW hH (by omega) (by omega) (by omega) (by omega) hd (by omega)]
  by_cases o2 : oB w h (c % 10) (c / 10) d 2 = true
  · have o3 := oB_mono (by omega) (by omega) hx hy hd (by omega) o2
    rw [if_pos o2]
    simp only [frc, tkAt, o1, o2, o3, if_true, Int32.sub_zero]
    simp
  rw [if_neg o2, fs_step hW hH (by omega) (by omega) (by omega) (by omega) hd (by omega)]
  by_cases o3 : oB w h (c % 10) (c / 10) d 3 = true
  · rw [if_pos o3]
    simp only [frc, tkAt, o1, o2, o3, if_true, Int32.sub_zero]
    simp
  rw [if_neg o3, f_X0_forceAt_s_39]
  simp (disch := omega) only [le_ln, if_pos, f_X0_forceAt_s_135, rt, frc, tkAt, o1, o2, o3]
  simp
theorem forceAt_b_eq {N b r c d w h : Nat} {C : CM} {f : Int32} (hN : 2000 ≤ N) (hW : C.1 3 b 0 1 = nI w) (hH : C.1 3 b 0 2 = nI h) (hw : w ≤ 10) (hh : h ≤ 10) (hc : c < 100) (hx : c % 10 < w) (hy : c / 10 < h) (hd : d < 8) : f_X0_forceAt_b N b r (nI c) (nI d) f C = some (frc (C.1 3 r 1) w h c d f, C) := by
  obtain ⟨m, hm⟩ : ∃ m, N = m + 4 := ⟨N - 4, by omega⟩
  unfold f_X0_forceAt_b
  rw [and7 d hd]
  simp (disch := omega) only [ldA_nI, nI_rl, nI_dl, nI_r2]
  have e0 : f_X0_forceAt_b_39 N b r (tbX d) (tbY d) N f (nI (c % 10)) (nI (c / 10)) 0 C = f_X0_forceAt_b_39 N b r (tbX d) (tbY d) (m + 4) f (vX (c % 10) 0 d) (vY (c / 10) 0 d) (nI 0) C := by
    rw [vX_0 _ (by omega) d hd, vY_0 _ (by omega) d hd, ← hm]
    rfl
  rw [e0, fb_step hW hH (by omega) (by omega) (by omega) (by omega) hd (by omega)]
  by_cases o1 : oB w h (c % 10) (c / 10) d 1 = true
  · have o2 := oB_mono (by omega) (by omega) hx hy hd (by omega) o1
    have o3 := oB_mono (by omega) (by omega) hx hy hd (by omega) o2
    rw [if_pos o1]
    simp only [frc, tkAt, o1, o2, o3, if_true, Int32.sub_zero]
  rw [if_neg o1, fb_step hW hH (by omega) (by omega) (by omega) (by omega) hd (by omega)]
  by_cases o2 : oB w h (c % 10) (c / 10) d 2 = true
  · have o3 := oB_mono (by omega) (by omega) hx hy hd (by omega) o2
    rw [if_pos o2]
    simp only [frc, tkAt, o1, o2, o3, if_true, Int32.sub_zero]
    simp
  rw [if_neg o2, fb_step hW hH (by omega) (by omega) (by omega) (by omega) hd (by omega)]
  by_cases o3 : oB w h (c % 10) (c / 10) d 3 = true
  · rw [if_pos o3]
    simp only [frc, tkAt, o1, o2, o3, if_true, Int32.sub_zero]
    simp
  rw [if_neg o3, f_X0_forceAt_b_39]
  simp (disch := omega) only [le_ln, if_pos, f_X0_forceAt_b_135, rt, frc, tkAt, o1, o2, o3]
  simp
theorem alongX_eq (X : XM) : ∀ d, d < 8 → f_X11_alongX (nI d) X = some (tbX d, X) := by
  intro d hd
  match d, hd with
  | 0, _ => rfl
  | 1, _ => rfl
  | 2, _ => rfl
  | 3, _ => rfl
  | 4, _ => rfl
  | 5, _ => rfl
  | 6, _ => rfl
  | 7, _ => rfl
theorem alongY_eq (X : XM) : ∀ d, d < 8 → f_X11_alongY (nI d) X = some (tbY d, X) := by
  intro d hd
  match d, hd with
  | 0, _ => rfl
  | 1, _ => rfl
  | 2, _ => rfl
  | 3, _ => rfl
  | 4, _ => rfl
  | 5, _ => rfl
  | 6, _ => rfl
  | 7, _ => rfl
theorem inX_out : ∀ w, w < 11 → ∀ x, x < 10 → ∀ d, d < 8 → ∀ i, i < 4 → (if vX x i d < 0 then (0 : Int32) else if nI w - 1 < vX x i d then 0 else 1) = if outX w x i d = true then 0 else 1 := by decide +kernel
theorem inY_out : ∀ w, w < 11 → ∀ x, x < 10 → ∀ d, d < 8 → ∀ i, i < 4 → (if vY x i d < 0 then (0 : Int32) else if nI w - 1 < vY x i d then 0 else 1) = if outY w x i d = true then 0 else 1 := by decide +kernel
theorem isIn_eq (v a b : Int32) (X : XM) : f_X11_isIn v a b X = some (if v < a then 0 else if b < v then 0 else 1, X) := by
  unfold f_X11_isIn
  by_cases h1 : v < a
  · rw [if_pos h1, if_pos h1]
    rfl
  · rw [if_neg h1, if_neg h1]
    by_cases h2 : b < v
    · rw [if_pos h2, if_pos h2]
      rfl
    · rw [if_neg h2, if_neg h2]
      rfl
theorem ct_step {N c d w h k m : Nat} {X : XM} {n : BN} {th : Nat → Int32} (hN : 2000 ≤ N) (hW : X.1 2 0 = nI w) (hH : X.1 2 1 = nI h) (hw : w ≤ 10) (hh : h ≤ 10) (hO : n.2.2.1 ≤ 8) (hT : n.2.2.2 ≤ 12) (hX : X.1 2 3 = nI n.2.2.2) (hth : ThingR n (X.1 2) (fun k => X.1 2 (429 + k)) (fun c => X.1 2 (441 + c)) th) (hc : c < 100) (hd : d < 8) (hk : k < 4) :
    f_X11_comesTo_8 N (nI c) (nI d) (m + 1) (nI k) X = f_X11_comesTo_8 N (nI c) (nI d) m (nI (k + 1)) (stX X 0 27 (X.1 0 27 - tkAt th w h (c % 10) (c / 10) d k)) := by
  rw [f_X11_comesTo_8]
  simp (disch := omega) only [le_ln, if_neg, alongX_eq X d hd, alongY_eq X d hd, cal_some, ldA_l, hW, hH, nI_rl, nI_dl, nI_r2, nI_al, isIn_eq]
  have e1 := inX_out w (by omega) (c % 10) (by omega) d hd k hk
  have e2 := inY_out h (by omega) (c / 10) (by omega) d hd k hk
  unfold vX at e1
  unfold vY at e2
  rw [e1, e2]
  by_cases ox : outX w (c % 10) k d = true
  · simp only [ox, if_true, tkAt, oB, Bool.true_or, Int32.sub_zero, stX_self]
  by_cases oy : outY h (c / 10) k d = true
  · simp only [ox, oy, if_true, tkAt, oB, Bool.or_true, Int32.sub_zero, stX_self]
    simp
  have ho : oB w h (c % 10) (c / 10) d k = false := by simp [oB, ox, oy]
  obtain ⟨x', y', q1, q2, q3, q4, q5⟩ := oB_no (by omega) (by omega) (by omega) (by omega) hd hk ho
  have q3' := q3
  have q4' := q4
  unfold vX at q3'
  unfold vY at q4'
  simp only [ox, oy, q3', q4', tkAt, ho, q5]
  simp only [Bool.false_eq_true, if_false, i10, nI_lm, nI_add, nI_la, f_X11_comesTo_129, bnd_v, nI_al]
  rcases takes_X hN hO hT hX hth (show 10 * y' + x' < 100 by omega) with ⟨t, ht, e, tk⟩ | ⟨e, ⟨hf, tk⟩ | ⟨hf, tk⟩⟩
  · rw [e, tk, cal_some, if_neg (nI_nneg (by omega))]
  · rw [e, tk, cal_some, if_pos (by decide)]
    simp (disch := omega) only [ldA_nI]
    rw [Nat.add_assoc, if_pos hf]
  · rw [e, tk, cal_some, if_pos (by decide)]
    simp (disch := omega) only [ldA_nI]
    rw [Nat.add_assoc, if_neg hf]
theorem comesTo_eq {N c d w h e : Nat} {X : XM} {n : BN} {th : Nat → Int32} {f : Int32} (hN : 2000 ≤ N) (hW : X.1 2 0 = nI w) (hH : X.1 2 1 = nI h) (hw : w ≤ 10) (hh : h ≤ 10) (hO : n.2.2.1 ≤ 8) (hT : n.2.2.2 ≤ 12) (hX : X.1 2 3 = nI n.2.2.2) (hth : ThingR n (X.1 2) (fun k => X.1 2 (429 + k)) (fun c => X.1 2 (441 + c)) th) (hc : c < 100) (hd : d < 8) (hE : X.1 2 (75 + c) = nI e) (he : e < 8) :
    f_X11_comesTo N (nI c) (nI d) f X = some (0, stX (stX X 0 27 (frc th w h c d f)) 0 26 (nI ((d + e) % 8))) := by
  obtain ⟨m, hm⟩ : ∃ m, N = m + 4 := ⟨N - 4, by omega⟩
  unfold f_X11_comesTo
  rw [bnd_v]
  have e0 : ∀ Y : XM, f_X11_comesTo_8 N (nI c) (nI d) N 1 Y = f_X11_comesTo_8 N (nI c) (nI d) (m + 4) (nI 1) Y := by
    intro Y
    rw [← hm]
    rfl
  have r2 : ∀ v : Int32, (stX X 0 27 v).1 2 = X.1 2 := fun v => stX_row (by omega)
  have st : ∀ (v : Int32) (m k : Nat), k < 4 → f_X11_comesTo_8 N (nI c) (nI d) (m + 1) (nI k) (stX X 0 27 v) = f_X11_comesTo_8 N (nI c) (nI d) m (nI (k + 1)) (stX X 0 27 (v - tkAt th w h (c % 10) (c / 10) d k)) := by
    intro v m k hk
    rw [ct_step hN (by rw [r2]; exact hW) (by rw [r2]; exact hH) hw hh hO hT (by rw [r2]; exact hX) (by rw [r2]; exact hth) hc hd hk, stX_stX, stX_at]
  rw [e0, st f _ 1 (by omega), st _ _ 2 (by omega), st _ _ 3 (by omega), f_X11_comesTo_8]
  have e5 : ∀ a : Int32, (if 0 ≤ a then f_X11_comesTo_155 N (nI c) (nI d) a (stX X 0 27 a) else f_X11_comesTo_155 N (nI c) (nI d) 0 (stX X 0 27 a)) = some (0, stX (stX X 0 27 (imax a 0)) 0 26 (nI ((d + e) % 8))) := by
    intro a
    have e6 : ∀ a' : Int32, f_X11_comesTo_155 N (nI c) (nI d) a' (stX X 0 27 a) = some (0, stX (stX X 0 27 a') 0 26 (nI ((d + e) % 8))) := by
      intro a'
      unfold f_X11_comesTo_155
      simp (disch := omega) only [bnd_v, stX_stX, r2, nI_la, ldA_nI, hE, nI_add, nI_rl, rt]
    unfold imax
    by_cases h0 : a < 0
    · rw [if_pos h0, if_neg (Int32.not_le.mpr h0), e6]
    · rw [if_neg h0, if_pos (Int32.not_lt.mp h0), e6]
  simp (disch := omega) only [le_ln, if_pos, stX_at]
  exact e5 _
theorem dir8 : ∀ d, d < 8 → ∀ e, e < 8 → (nI d + nI e) &&& 7 = nI ((d + e) % 8) := by decide +kernel
theorem dirAt_eq {b c d e : Nat} {C : CM} (hc : c < 100) (hd : d < 8) (he : e < 8) (hE : C.1 3 b 2 c = nI e) : f_X0_dirAt b (nI c) (nI d) C = some (nI ((d + e) % 8), C) := by
  unfold f_X0_dirAt
  simp (disch := omega) only [lt_nl, le_ln, if_neg, ldA_nI, hE, f_X0_dirAt_20, rt]
  rw [dir8 d hd e he]
theorem tkT_cases (v : Int32) : tkT v = 0 ∨ tkT v = 2 ∨ tkT v = 3 := by
  unfold tkT
  by_cases h1 : ((v >>> (4 &&& 31)) <<< (4 &&& 31)) = 32
  · rw [if_pos h1]
    exact Or.inr (Or.inl rfl)
  · rw [if_neg h1]
    by_cases h2 : ((v >>> (4 &&& 31)) <<< (4 &&& 31)) = 48
    · rw [if_pos h2]
      exact Or.inr (Or.inr rfl)
    · rw [if_neg h2]
      exact Or.inl rfl
theorem tkAt_mem (th : Nat → Int32) (w h x y d i : Nat) : tkAt th w h x y d i ∈ ([0, 2, 3] : List Int32) := by
  unfold tkAt
  by_cases ho : oB w h x y d i = true
  · rw [if_pos ho]
    decide
  · rw [if_neg ho]
    rcases tkT_cases (th (ixT x y d i)) with e | e | e <;> rw [e] <;> decide
theorem frc_ok : ∀ f, f < 10 → ∀ a ∈ ([0, 2, 3] : List Int32), ∀ b ∈ ([0, 2, 3] : List Int32), ∀ c ∈ ([0, 2, 3] : List Int32), (imax (nI f - a - b - c) 0).toNatClampNeg ≤ f ∧ imax (nI f - a - b - c) 0 = nI (imax (nI f - a - b - c) 0).toNatClampNeg := by decide +kernel
theorem frc_le (th : Nat → Int32) (w h c d : Nat) {f : Nat} (hf : f < 10) : ∃ v, v ≤ f ∧ frc th w h c d (nI f) = nI v := by
  have h1 := frc_ok f hf _ (tkAt_mem th w h (c % 10) (c / 10) d 1) _ (tkAt_mem th w h (c % 10) (c / 10) d 2) _ (tkAt_mem th w h (c % 10) (c / 10) d 3)
  exact ⟨_, h1.1, h1.2⟩
/-- where a vane points then -/
def trn (p t v k : Nat) : Int32 := if 0 < nI v - nI k then (if 4 < ((nI t - nI p) &&& 7) then (nI p - (imin (8 - ((nI t - nI p) &&& 7)) (nI v - nI k))) &&& 7 else (nI p + (imin ((nI t - nI p) &&& 7) (nI v - nI k))) &&& 7) else nI p
theorem turned_eq (p t v k : Nat) (C : CM) : f_X9_turned (nI p) (nI t) (nI v - nI k) C = some (trn p t v k, C) := by
  unfold f_X9_turned trn
  by_cases h1 : 0 < nI v - nI k
  · rw [if_pos h1, if_pos h1]
    by_cases h2 : 4 < ((nI t - nI p) &&& 7)
    · rw [if_pos h2, if_pos h2]
      rfl
    · rw [if_neg h2, if_neg h2]
      rfl
  · rw [if_neg h1, if_neg h1]
    rfl
/-- the same, as the reference has it -/
def trX (p t : Nat) (st : Int32) : Int32 :=
  if 4 < (((nI t - nI p) + 8) - ((nI t - nI p) + 8) / 8 * 8) then
    (if st ≤ (8 - (((nI t - nI p) + 8) - ((nI t - nI p) + 8) / 8 * 8)) then ((nI p + 8) - st) - ((nI p + 8) - st) / 8 * 8
     else ((nI p + 8) - (8 - (((nI t - nI p) + 8) - ((nI t - nI p) + 8) / 8 * 8))) - ((nI p + 8) - (8 - (((nI t - nI p) + 8) - ((nI t - nI p) + 8) / 8 * 8))) / 8 * 8)
  else (if st ≤ (((nI t - nI p) + 8) - ((nI t - nI p) + 8) / 8 * 8) then (nI p + st) - (nI p + st) / 8 * 8
     else (nI p + (((nI t - nI p) + 8) - ((nI t - nI p) + 8) / 8 * 8)) - (nI p + (((nI t - nI p) + 8) - ((nI t - nI p) + 8) / 8 * 8)) / 8 * 8)
theorem trn_X : ∀ p, p < 8 → ∀ t, t < 8 → ∀ v, v < 10 → ∀ k, k < 10 → trX p t (if nI v ≤ nI k then 0 else nI v - nI k) = trn p t v k := by decide +kernel
theorem trn_lt : ∀ p, p < 8 → ∀ t, t < 8 → ∀ v, v < 10 → ∀ k, k < 10 → (trn p t v k).toNatClampNeg < 8 ∧ trn p t v k = nI (trn p t v k).toNatClampNeg := by decide +kernel
theorem turns36_eq {o p t : Nat} {as0 : Int32} {X : XM} (ho : o < 8) (h26 : X.1 0 26 = nI t) (hp : X.1 2 (397 + o) = nI p) : f_X11_turns_36 (nI o) as0 X = some (0, if X.1 2 (405 + o) = 1 then X else stX X 2 (397 + o) (trX p t as0)) := by
  unfold f_X11_turns_36 f_X11_turns_154 f_X11_turns_108 trX
  simp (disch := omega) only [nI_la, ldA_nI, sxA_nI, h26, hp, rt]
  by_cases hs : X.1 2 (405 + o) = 1
  · rw [if_pos hs, if_pos hs]
  · rw [if_neg hs, if_neg hs]
    by_cases h4 : 4 < (((nI t - nI p) + 8) - ((nI t - nI p) + 8) / 8 * 8)
    · rw [if_pos h4, if_pos h4]
      by_cases h5 : as0 ≤ (8 - (((nI t - nI p) + 8) - ((nI t - nI p) + 8) / 8 * 8))
      · rw [if_pos h5, if_pos h5]
      · rw [if_neg h5, if_neg h5]
    · rw [if_neg h4, if_neg h4]
      by_cases h5 : as0 ≤ (((nI t - nI p) + 8) - ((nI t - nI p) + 8) / 8 * 8)
      · rw [if_pos h5, if_pos h5]
      · rw [if_neg h5, if_neg h5]
theorem turns_eq {o p t v k : Nat} {X : XM} (ho : o < 8) (h26 : X.1 0 26 = nI t) (h27 : X.1 0 27 = nI v) (hp : X.1 2 (397 + o) = nI p) (hk : X.1 2 (389 + o) = nI k) (hp8 : p < 8) (ht8 : t < 8) (hv : v < 10) (hk10 : k < 10) : f_X11_turns (nI o) X = some (0, if X.1 2 (405 + o) = 1 then X else stX X 2 (397 + o) (trn p t v k)) := by
  unfold f_X11_turns
  simp (disch := omega) only [nI_la, ldA_nI, h27, hk, turns36_eq ho h26 hp]
  rw [← trn_X p hp8 t ht8 v hv k hk10]
  by_cases h : nI v ≤ nI k
  · rw [if_pos h, if_pos h]
  · rw [if_neg h, if_neg h]
