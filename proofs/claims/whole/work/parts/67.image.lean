/-! image and restore. -/
def rwL (X : XM) (j : Nat) (r : Nat → Int64) : XM := (X.1, fun j' x' => if j' = j then r x' else X.2 j' x')
theorem rwL_self (X : XM) (j : Nat) : rwL X j (X.2 j) = X := by
  unfold rwL
  refine Prod.ext rfl ?_
  funext j' x'
  by_cases h : j' = j <;> simp [h]
theorem stL_rwL {X : XM} {j x : Nat} {r : Nat → Int64} {v : Int64} : stL (rwL X j r) j x v = rwL X j (fun y => if y = x then v else r y) := by
  unfold stL rwL
  refine Prod.ext rfl ?_
  funext j' x'
  by_cases h : j' = j <;> by_cases h2 : x' = x <;> simp [h, h2]
theorem rwL_in {X : XM} {j : Nat} {r : Nat → Int64} : (rwL X j r).2 j = r := by
  funext x
  simp [rwL]
theorem rwL_out {X : XM} {j j' : Nat} {r : Nat → Int64} (h : j' ≠ j) : (rwL X j r).2 j' = X.2 j' := by
  funext x
  simp [rwL, h]
theorem stX_2 {X : XM} {j x : Nat} {v : Int32} : (stX X j x v).2 = X.2 := rfl
theorem rwL_1 {X : XM} {j : Nat} {r : Nat → Int64} : (rwL X j r).1 = X.1 := rfl
theorem rwX_2 {X : XM} {j : Nat} {r : Nat → Int32} : (rwX X j r).2 = X.2 := rfl
def filL (r g : Nat → Int64) (a n : Nat) : Nat → Int64 := fun x => if a ≤ x ∧ x < a + n then g (x - a) else r x
theorem filL_0 (r g : Nat → Int64) (a : Nat) : filL r g a 0 = r := by
  funext x
  unfold filL
  rw [if_neg (by omega)]
theorem filL_s (r g : Nat → Int64) (a n : Nat) : (fun y => if y = a + n then g n else filL r g a n y) = filL r g a (n + 1) := by
  funext x
  unfold filL
  by_cases h : x = a + n
  · subst h
    rw [if_pos rfl, if_pos (by omega), show a + n - a = n by omega]
  · rw [if_neg h]
    by_cases h2 : a ≤ x ∧ x < a + n
    · rw [if_pos h2, if_pos (by omega)]
    · rw [if_neg h2, if_neg (by omega)]
theorem filL_in {r g : Nat → Int64} {a n x : Nat} (h : x < n) : filL r g a n (a + x) = g x := by
  unfold filL
  rw [if_pos (by omega), Nat.add_sub_cancel_left]
theorem image18_eq (N : Nat) (X : XM) (k : Nat) (hk : k < 2) (hN : 2000 ≤ N) : f_X11_image_18 N (nI k) N 0 X = f_X11_image_51 N (nI k) N 0 (rwX X 17 (fil (X.1 17) (X.1 2) (845 * k) 845)) := by
  have h := loop_0st (fun m i Y => f_X11_image_18 N (nI k) m i Y) (fun i => rwX X 17 (fil (X.1 17) (X.1 2) (845 * k) i)) 845 (f_X11_image_51 N (nI k) N 0 (rwX X 17 (fil (X.1 17) (X.1 2) (845 * k) 845)))
    (fun m i hi => by
      simp (disch := omega) only [f_X11_image_18, le_ln, if_neg, rwX_out, nI_lm, nI_add, ldA_nI, sxA_nI, nI_al, stX_rwX]
      rw [← fil_s])
    (fun m => by simp (disch := omega) only [f_X11_image_18, le_ln, if_pos]) (fuel := N) (by omega)
  simpa [fil_0, rwX_self] using h
theorem image51_eq (N : Nat) (X : XM) (k : Nat) (hk : k < 2) (hN : 2000 ≤ N) : f_X11_image_51 N (nI k) N 0 X = some (1, stX (rwL X 18 (filL (X.2 18) (X.2 5) (8 * k) 8)) 19 k 1) := by
  have h := loop_0st (fun m i Y => f_X11_image_51 N (nI k) m i Y) (fun i => rwL X 18 (filL (X.2 18) (X.2 5) (8 * k) i)) 8 (some (1, stX (rwL X 18 (filL (X.2 18) (X.2 5) (8 * k) 8)) 19 k 1))
    (fun m i hi => by
      simp (disch := omega) only [f_X11_image_51, le_ln, if_neg, rwL_out, nI_lm, nI_add, ldL_nI, slA_nI, nI_al, stL_rwL]
      rw [← filL_s])
    (fun m => by
      simp (disch := omega) only [f_X11_image_51, le_ln, if_pos, sxA_nI, rt]
      rfl) (fuel := N) (by omega)
  simpa [filL_0, rwL_self] using h
theorem restore27_eq (N : Nat) (X : XM) (k : Nat) (hk : k < 2) (hN : 2000 ≤ N) : f_X11_restore_27 N (nI k) N 0 X = f_X11_restore_60 N (nI k) N 0 (rwX X 2 (fil (X.1 2) (fun x => X.1 17 (845 * k + x)) 0 845)) := by
  have h := loop_0st (fun m i Y => f_X11_restore_27 N (nI k) m i Y) (fun i => rwX X 2 (fil (X.1 2) (fun x => X.1 17 (845 * k + x)) 0 i)) 845 (f_X11_restore_60 N (nI k) N 0 (rwX X 2 (fil (X.1 2) (fun x => X.1 17 (845 * k + x)) 0 845)))
    (fun m i hi => by
      simp (disch := omega) only [f_X11_restore_27, le_ln, if_neg, rwX_out, nI_lm, nI_add, ldA_nI, sxA_nI, nI_al, stX_rwX]
      rw [← fil_s, Nat.zero_add])
    (fun m => by simp (disch := omega) only [f_X11_restore_27, le_ln, if_pos]) (fuel := N) (by omega)
  simpa [fil_0, rwX_self] using h
theorem restore60_eq (N : Nat) (X : XM) (k : Nat) (hk : k < 2) (hN : 2000 ≤ N) : f_X11_restore_60 N (nI k) N 0 X = some (1, stX (rwL X 5 (filL (X.2 5) (fun x => X.2 18 (8 * k + x)) 0 8)) 0 33 0) := by
  have h := loop_0st (fun m i Y => f_X11_restore_60 N (nI k) m i Y) (fun i => rwL X 5 (filL (X.2 5) (fun x => X.2 18 (8 * k + x)) 0 i)) 8 (some (1, stX (rwL X 5 (filL (X.2 5) (fun x => X.2 18 (8 * k + x)) 0 8)) 0 33 0))
    (fun m i hi => by
      simp (disch := omega) only [f_X11_restore_60, le_ln, if_neg, rwL_out, nI_lm, nI_add, ldL_nI, slA_nI, nI_al, stL_rwL]
      rw [← filL_s, Nat.zero_add])
    (fun m => by simp (disch := omega) only [f_X11_restore_60, le_ln, if_pos, bnd_v, rt]) (fuel := N) (by omega)
  simpa [filL_0, rwL_self] using h
theorem bankR_B {B B' : Nat → Nat → Int32} {s : Nat → Int32} {n : BN} (h : BankR B s n) (hB : ∀ j x, dX0 j x → B' j x = B j x) : BankR B' s n := by
  have hr : ∀ j, (1 ≤ j ∧ j ≤ 5) ∨ (7 ≤ j ∧ j ≤ 15) → B' j = B j := fun j hj => funext fun x => hB j x (by unfold dX0; omega)
  have h0 : ∀ x, x < 10 → B' 0 x = B 0 x := fun x hx => hB 0 x (by unfold dX0; omega)
  have h6 : B' 6 0 = B 6 0 := hB 6 0 (by unfold dX0; omega)
  unfold BankR
  rw [h0 1 (by omega), h0 2 (by omega), h0 3 (by omega), h0 4 (by omega), h0 6 (by omega), h0 7 (by omega), h0 8 (by omega), h0 9 (by omega), h6, hr 1 (by omega), hr 2 (by omega), hr 3 (by omega), hr 4 (by omega), hr 5 (by omega), hr 8 (by omega), hr 9 (by omega), hr 10 (by omega), hr 11 (by omega), hr 12 (by omega), hr 13 (by omega), hr 14 (by omega), hr 15 (by omega)]
  exact h
theorem whR_cp {B B' P P' Pl Pl' Se Se' : Nat → Nat → Int32} {s s' : Nat → Int32} {nm nm' : Nat → Int64} {n : BN} (h : WhR B P Pl Se s nm n) (hB : ∀ j x, dX0 j x → B' j x = B j x) (hP : ∀ j x, dX6 j x → P' j x = P j x) (hPl : ∀ j x, dX3 j x → Pl' j x = Pl j x) (hSe : ∀ j x, dX5 j x → Se' j x = Se j x) (hs : ∀ x, x < 845 → s' x = s x) (hm : ∀ x, x < 8 → nm' x = nm x) : WhR B' P' Pl' Se' s' nm' n := by
  obtain ⟨h1, h2, h3, h4, h5⟩ := h
  have bd := bk_bd h1
  refine ⟨bankR_B (bankR_congr h1 (fun x hx => hs x (by omega))) hB, stateR_congr ⟨bd.2.2.1, bd.2.2.2⟩ h2 (fun x hx => hs x (by omega)) hP (fun x hx => hs _ (by omega)), ?_, ?_, ?_⟩
  · obtain ⟨L, l1, l2, l3, l4⟩ := h3
    refine ⟨L, l1, (hPl 0 0 (by unfold dX3; omega)).trans l2, (hs _ (by omega)).trans l3, fun i hi => ?_⟩
    rw [hPl 1 i (by unfold dX3; omega), hPl 2 i (by unfold dX3; omega), hPl 3 i (by unfold dX3; omega), hs _ (by omega), hs _ (by omega), hs _ (by omega)]
    exact l4 i hi
  · obtain ⟨K, cd, k1, k2, k3⟩ := h4
    refine ⟨K, cd, k1, (hs _ (by omega)).trans k2, ?_⟩
    rw [hSe 0 0 (by unfold dX5; omega), hSe 0 1 (by unfold dX5; omega)]
    rcases k3 with k3 | ⟨a1, a2, a3, a4, a5⟩
    · exact Or.inl k3
    · refine Or.inr ⟨a1, a2, a3, a4, fun i hi => ?_⟩
      rw [hSe 1 i (by unfold dX5; omega), hSe 2 i (by unfold dX5; omega), hSe 3 i (by unfold dX5; omega), hs _ (by omega), hs _ (by omega), hs _ (by omega)]
      exact a5 i hi
  · intro k hk
    rw [hB 7 k (by unfold dX0; omega), hm k (by omega)]
    exact h5 k hk
theorem cpK_in {C : CM} {k r0 r1 j x : Nat} {d : Nat → Nat → Prop} [∀ j x, Decidable (d j x)] (h : d j x) : (cpK C k r0 r1 d).1 k r0 j x = C.1 k r1 j x := by
  simp only [cpK]
  rw [if_pos ⟨trivial, trivial, h⟩]
theorem cpK_out {C : CM} {k r0 r1 k' i j x : Nat} {d : Nat → Nat → Prop} [∀ j x, Decidable (d j x)] (h : ¬ (k' = k ∧ i = r0)) : (cpK C k r0 r1 d).1 k' i j x = C.1 k' i j x := by
  simp only [cpK]
  rw [if_neg (fun e => h ⟨e.1, e.2.1⟩)]
/-- a whole that is copied -/
theorem copy_X8 {C : CM} {r0 r1 y0 y1 z0 z1 w0 w1 : Nat} (h1 : C.2 2 r0 1 = y0) (h2 : C.2 2 r1 1 = y1) (h3 : C.2 2 r0 3 = z0) (h4 : C.2 2 r1 3 = z1) (h5 : C.2 2 r0 4 = w0) (h6 : C.2 2 r1 4 = w1) (l : y0 < 4 ∧ y1 < 4 ∧ z0 < 4 ∧ z1 < 4 ∧ w0 < 4 ∧ w1 < 4) (n1 : y1 ≠ y0) (n2 : r1 ≠ r0) (n3 : z1 ≠ z0) (n4 : w1 ≠ w0) (hb : isB (C.1 3 y1 0 7) = true) :
    f_X8_copy r0 r1 C = some (0, cpK (cpK (cpK (cpK C 3 y0 y1 dX0) 4 r0 r1 dX6) 5 z0 z1 dX3) 6 w0 w1 dX5) := by
  subst h1 h2 h3 h4 h5 h6
  unfold f_X8_copy
  rw [ldR_lt l.1, ldR_lt l.2.1, copy_X0 C n1 hb, cal_some, copy_X6 _ n2, cal_some]
  show ldR (C.2 2 r0 3) 4 _ = _
  rw [ldR_lt l.2.2.1]
  show ldR (C.2 2 r1 3) 4 _ = _
  rw [ldR_lt l.2.2.2.1, copy_X3 _ n3, cal_some]
  show ldR (C.2 2 r0 4) 4 _ = _
  rw [ldR_lt l.2.2.2.2.1]
  show ldR (C.2 2 r1 4) 4 _ = _
  rw [ldR_lt l.2.2.2.2.2, copy_X5 _ n4, cal_some]
  rfl
section IMG
variable {N : Nat}
theorem op_image (hN : 2000 ≤ N) (b1 : Int32) : OP (Rel N) (f_X10_image b1) (f_X11_image N b1) := by
  intro C X hR
  have hR0 := rel_xe hR (xe_0 X 0)
  unfold f_X10_image f_X11_image
  rw [bnd_v]
  generalize stX X 0 0 0 = X0 at hR0 ⊢
  simp only [isIn_eq, cal_some]
  rcases int_cases b1 with h | ⟨k, hk, rfl⟩
  · rw [if_pos h, if_pos h, if_pos rfl]
    exact ⟨_, _, _, rfl, rfl, hR0⟩
  simp (disch := omega) only [lt_nl, if_neg, lt_ln]
  by_cases hk2 : k < 2
  rotate_left
  · rw [if_neg hk2, if_pos (show 1 < k by omega), if_pos rfl]
    exact ⟨_, _, _, rfl, rfl, hR0⟩
  rw [if_pos hk2, if_neg (show ¬ 1 < k by omega), if_neg i1n, image18_eq N X0 k hk2 hN, image51_eq N _ k hk2 hN]
  obtain ⟨⟨n, hH, hP⟩, hT, hG, hRf, hI, hM, hPr, hJ, hF, hR6⟩ := id hR0
  obtain ⟨r1, r2, r3, r4⟩ := id hRf
  have i1 := r4 (1 + k) 1 (by omega) (by omega)
  have i3 := r4 (1 + k) 3 (by omega) (by omega)
  have i4 := r4 (1 + k) 4 (by omega) (by omega)
  simp (disch := omega) only [ldQ_nI]
  rw [copy_X8 (C := C) (r0 := 1 + k) (r1 := 0) i1 rfl i3 rfl i4 rfl (by omega) (by omega) (by omega) (by omega) (by omega) (bk_isB hH.1), cal_some, bnd_v]
  refine ⟨_, _, _, rfl, rfl, ?_⟩
  generalize hC' : stC (cpK (cpK (cpK (cpK C 3 (1 + k) (C.2 2 0 1) dX0) 4 (1 + k) 0 dX6) 5 (1 + k) (C.2 2 0 3) dX3) 6 (1 + k) (C.2 2 0 4) dX5) 2 (1 + k) 0 0 1 = C'
  have e2 : C'.2 = C.2 := by rw [← hC']; rfl
  have fr : ∀ a i j x, ¬ ((a = 3 ∨ a = 4 ∨ a = 5 ∨ a = 6) ∧ i = 1 + k) → ¬ (a = 2 ∧ i = 1 + k ∧ j = 0 ∧ x = 0) → C'.1 a i j x = C.1 a i j x := by
    intro a i j x q1 q2
    rw [← hC']
    simp only [stC]
    rw [if_neg (by omega), cpK_out (by omega), cpK_out (by omega), cpK_out (by omega), cpK_out (by omega)]
  have in3 : ∀ j x, dX0 j x → C'.1 3 (1 + k) j x = C.1 3 (C.2 2 0 1) j x := fun j x hj => by
    rw [← hC', stC_ob (by omega), cpK_out (by omega), cpK_out (by omega), cpK_out (by omega), cpK_in hj]
  have in4 : ∀ j x, dX6 j x → C'.1 4 (1 + k) j x = C.1 4 0 j x := fun j x hj => by
    rw [← hC', stC_ob (by omega), cpK_out (by omega), cpK_out (by omega), cpK_in hj, cpK_out (by omega)]
  have in5 : ∀ j x, dX3 j x → C'.1 5 (1 + k) j x = C.1 5 (C.2 2 0 3) j x := fun j x hj => by
    rw [← hC', stC_ob (by omega), cpK_out (by omega), cpK_in hj, cpK_out (by omega), cpK_out (by omega)]
  have in6 : ∀ j x, dX5 j x → C'.1 6 (1 + k) j x = C.1 6 (C.2 2 0 4) j x := fun j x hj => by
    rw [← hC', stC_ob (by omega), cpK_in hj, cpK_out (by omega), cpK_out (by omega), cpK_out (by omega)]
  have k2 : C'.1 2 (1 + k) 0 0 = 1 := by rw [← hC']; exact stC_at
  clear hC'
  have ob : ∀ a i, ¬ ((a = 3 ∨ a = 4 ∨ a = 5 ∨ a = 6) ∧ i = 1 + k) → a ≠ 2 → C'.1 a i = C.1 a i := fun a i q1 q2 => funext fun j => funext fun x => fr a i j x q1 (by omega)
  generalize hX' : stX (rwL (rwX X0 17 (fil (X0.1 17) (X0.1 2) (845 * k) 845)) 18 (filL ((rwX X0 17 (fil (X0.1 17) (X0.1 2) (845 * k) 845)).2 18) ((rwX X0 17 (fil (X0.1 17) (X0.1 2) (845 * k) 845)).2 5) (8 * k) 8)) 19 k 1 = X'
  have xr : ∀ j x, j ≠ 17 → ¬ (j = 19 ∧ x = k) → X'.1 j x = X0.1 j x := by
    intro j x q1 q2
    rw [← hX']
    simp only [stX]
    rw [if_neg q2]
    show (rwX X0 17 _).1 j x = _
    rw [rwX_out q1]
  have x17 : X'.1 17 = fil (X0.1 17) (X0.1 2) (845 * k) 845 := by
    rw [← hX', stX_row (by omega), rwL_1, rwX_in]
  have x19 : X'.1 19 k = 1 := by rw [← hX']; exact stX_at
  have l18 : X'.2 18 = filL (X0.2 18) (X0.2 5) (8 * k) 8 := by
    rw [← hX', stX_2, rwL_in, rwX_2]
  have lo : ∀ j, j ≠ 18 → X'.2 j = X0.2 j := fun j hj => by
    rw [← hX']
    exact rwL_out hj
  clear hX'
  have row : ∀ j, j ≠ 17 → j ≠ 19 → X'.1 j = X0.1 j := fun j q1 q2 => funext fun x => xr j x q1 (by omega)
  have b1 : C.2 2 0 1 ≠ 1 + k := by omega
  have b3 : C.2 2 0 3 ≠ 1 + k := by omega
  have b4 : C.2 2 0 4 ≠ 1 + k := by omega
  refine ⟨⟨n, ?_, ?_⟩, ?_, ?_, ?_, ?_, ?_, ?_, ?_, ?_, ?_⟩
  · unfold HereR
    rw [e2, ob 3 _ (by omega) (by omega), ob 4 0 (by omega) (by omega), ob 5 _ (by omega) (by omega), ob 6 _ (by omega) (by omega), row 2 (by omega) (by omega), lo 5 (by omega)]
    exact hH
  · obtain ⟨top, kp, a1, a2, a3, a4, a5, a6⟩ := hP
    refine ⟨top, kp, a1, a2, ?_, ?_, ?_, fun i hi => ?_⟩
    · rw [ob 7 0 (by omega) (by omega)]; exact a3
    · rw [ob 7 0 (by omega) (by omega)]; exact a4
    · rw [row 0 (by omega) (by omega)]; exact a5
    · rw [ob 4 _ (by omega) (by omega), row 2 (by omega) (by omega), row 10 (by omega) (by omega)]
      exact a6 i hi
  · unfold TapeR
    rw [ob 0 0 (by omega) (by omega), row 0 (by omega) (by omega), row 1 (by omega) (by omega)]
    exact hT
  · intro h9
    rw [ob 9 0 (by omega) (by omega)] at h9
    obtain ⟨q1, q2⟩ := hG h9
    refine ⟨by rw [ob 9 0 (by omega) (by omega)]; exact q1, fun a Y hY hm => ?_⟩
    rw [ob 9 0 (by omega) (by omega)]
    exact q2 a Y (hY.trans (row 2 (by omega) (by omega))) (fun x hx => by rw [hm x hx, lo 5 (by omega)])
  · unfold RefR
    rw [e2]
    exact hRf
  · intro k' hk'
    by_cases e : k' = k
    · subst e
      refine Or.inr ⟨k2, x19, n, whR_cp hH in3 in4 in5 in6 (fun x hx => ?_) (fun x hx => ?_)⟩
      · rw [x17, fil_in hx]
      · rw [l18, filL_in hx]
    · have c2 : C'.1 2 (1 + k') 0 0 = C.1 2 (1 + k') 0 0 := fr 2 _ 0 0 (by omega) (by omega)
      have c19 : X'.1 19 k' = X0.1 19 k' := xr 19 k' (by omega) (by omega)
      unfold ImgR
      rw [c2, c19, ob 3 _ (by omega) (by omega), ob 4 _ (by omega) (by omega), ob 5 _ (by omega) (by omega), ob 6 _ (by omega) (by omega)]
      rcases hI k' hk' with h | ⟨q1, q2, m, q3⟩
      · exact Or.inl h
      · refine Or.inr ⟨q1, q2, m, whR_cp q3 (fun _ _ _ => rfl) (fun _ _ _ => rfl) (fun _ _ _ => rfl) (fun _ _ _ => rfl) (fun x hx => ?_) (fun x hx => ?_)⟩
        · rw [x17]
          unfold fil
          rw [if_neg (by omega)]
        · rw [l18]
          unfold filL
          rw [if_neg (by omega)]
  · unfold MoreR
    rw [ob 0 0 (by omega) (by omega), row 0 (by omega) (by omega)]
    exact hM
  · unfold PairR
    rw [ob 0 0 (by omega) (by omega), row 0 (by omega) (by omega), row 12 (by omega) (by omega)]
    exact hPr
  · unfold JudR
    rw [ob 0 0 (by omega) (by omega), row 0 (by omega) (by omega), row 13 (by omega) (by omega)]
    exact hJ
  · rw [ob 0 0 (by omega) (by omega), row 0 (by omega) (by omega)]
    exact hF
  · rw [lo 6 (by omega)]
    exact hR6
theorem op_restore (hN : 2000 ≤ N) (b1 : Int32) : OP (Rel N) (f_X10_restore b1) (f_X11_restore N b1) := by
  intro C X hR
  have hR0 := rel_xe hR (xe_0 X 0)
  unfold f_X10_restore f_X11_restore
  rw [bnd_v]
  generalize stX X 0 0 0 = X0 at hR0 ⊢
  simp only [isIn_eq, cal_some]
  rcases int_cases b1 with h | ⟨k, hk, rfl⟩
  · rw [if_pos h, if_pos h, if_pos rfl]
    exact ⟨_, _, _, rfl, rfl, hR0⟩
  simp (disch := omega) only [lt_nl, if_neg, lt_ln, le_ln]
  by_cases hk2 : k < 2
  rotate_left
  · rw [if_pos (show 2 ≤ k by omega), if_pos (show 1 < k by omega), if_pos rfl]
    exact ⟨_, _, _, rfl, rfl, hR0⟩
  rw [if_neg (show ¬ 2 ≤ k by omega), if_neg (show ¬ 1 < k by omega), if_neg i1n]
  obtain ⟨-, hT, -, hRf, hI, hM, hPr, hJ, hF, hR6⟩ := id hR0
  simp (disch := omega) only [ldQ_nI, ldA_nI]
  rcases hI k hk2 with ⟨h1, h2⟩ | ⟨h1, h2, n, hW⟩
  · rw [h1, h2, if_pos rfl, if_pos rfl]
    exact ⟨_, _, _, rfl, rfl, hR0⟩
  rw [h1, h2, if_neg i1n, if_neg i1n, restore27_eq N X0 k hk2 hN, restore60_eq N _ k hk2 hN]
  obtain ⟨r1, r2, r3, r4⟩ := id hRf
  have i1 := r4 (1 + k) 1 (by omega) (by omega)
  have i3 := r4 (1 + k) 3 (by omega) (by omega)
  have i4 := r4 (1 + k) 4 (by omega) (by omega)
  rw [copy_X8 (C := C) (r0 := 0) (r1 := 1 + k) rfl i1 rfl i3 rfl i4 (by omega) (by omega) (by omega) (by omega) (by omega) (bk_isB hW.1), cal_some]
  unfold f_X2_forget
  simp only [bnd_v, rt, cal_some]
  refine ⟨_, _, _, rfl, rfl, ?_⟩
  generalize hC' : stC (stC (cpK (cpK (cpK (cpK C 3 (C.2 2 0 1) (1 + k) dX0) 4 0 (1 + k) dX6) 5 (C.2 2 0 3) (1 + k) dX3) 6 (C.2 2 0 4) (1 + k) dX5) 7 0 0 2 0) 9 0 0 0 0 = C'
  have e2 : C'.2 = C.2 := by rw [← hC']; rfl
  have fr : ∀ a i j x, ¬ (a = 3 ∧ i = C.2 2 0 1) → ¬ (a = 4 ∧ i = 0) → ¬ (a = 5 ∧ i = C.2 2 0 3) → ¬ (a = 6 ∧ i = C.2 2 0 4) → ¬ (a = 7 ∧ i = 0 ∧ j = 0 ∧ x = 2) → ¬ (a = 9 ∧ i = 0 ∧ j = 0 ∧ x = 0) → C'.1 a i j x = C.1 a i j x := by
    intro a i j x q1 q2 q3 q4 q5 q6
    rw [← hC']
    simp only [stC]
    rw [if_neg q6, if_neg q5, cpK_out q4, cpK_out q3, cpK_out q2, cpK_out q1]
  have in3 : ∀ j x, dX0 j x → C'.1 3 (C.2 2 0 1) j x = C.1 3 (1 + k) j x := fun j x hj => by
    rw [← hC', stC_ob (by omega), stC_ob (by omega), cpK_out (by omega), cpK_out (by omega), cpK_out (by omega), cpK_in hj]
  have in4 : ∀ j x, dX6 j x → C'.1 4 0 j x = C.1 4 (1 + k) j x := fun j x hj => by
    rw [← hC', stC_ob (by omega), stC_ob (by omega), cpK_out (by omega), cpK_out (by omega), cpK_in hj, cpK_out (by omega)]
  have in5 : ∀ j x, dX3 j x → C'.1 5 (C.2 2 0 3) j x = C.1 5 (1 + k) j x := fun j x hj => by
    rw [← hC', stC_ob (by omega), stC_ob (by omega), cpK_out (by omega), cpK_in hj, cpK_out (by omega), cpK_out (by omega)]
  have in6 : ∀ j x, dX5 j x → C'.1 6 (C.2 2 0 4) j x = C.1 6 (1 + k) j x := fun j x hj => by
    rw [← hC', stC_ob (by omega), stC_ob (by omega), cpK_in hj, cpK_out (by omega), cpK_out (by omega), cpK_out (by omega)]
  have k7 : C'.1 7 0 0 2 = 0 := by rw [← hC', stC_ob (by omega)]; exact stC_at
  have k9 : C'.1 9 0 0 0 = 0 := by rw [← hC']; exact stC_at
  clear hC'
  have ob : ∀ a i, ¬ (a = 3 ∧ i = C.2 2 0 1) → ¬ (a = 4 ∧ i = 0) → ¬ (a = 5 ∧ i = C.2 2 0 3) → ¬ (a = 6 ∧ i = C.2 2 0 4) → a ≠ 7 → a ≠ 9 → C'.1 a i = C.1 a i := fun a i q1 q2 q3 q4 q5 q6 => funext fun j => funext fun x => fr a i j x q1 q2 q3 q4 (by omega) (by omega)
  generalize hX' : stX (rwL (rwX X0 2 (fil (X0.1 2) (fun x => X0.1 17 (845 * k + x)) 0 845)) 5 (filL ((rwX X0 2 (fil (X0.1 2) (fun x => X0.1 17 (845 * k + x)) 0 845)).2 5) (fun x => (rwX X0 2 (fil (X0.1 2) (fun x => X0.1 17 (845 * k + x)) 0 845)).2 18 (8 * k + x)) 0 8)) 0 33 0 = X'
  have xr : ∀ j x, j ≠ 2 → ¬ (j = 0 ∧ x = 33) → X'.1 j x = X0.1 j x := by
    intro j x q1 q2
    rw [← hX']
    simp only [stX]
    rw [if_neg q2]
    show (rwX X0 2 _).1 j x = _
    rw [rwX_out q1]
  have x2 : X'.1 2 = fil (X0.1 2) (fun x => X0.1 17 (845 * k + x)) 0 845 := by
    rw [← hX', stX_row (by omega), rwL_1, rwX_in]
  have x33 : X'.1 0 33 = 0 := by rw [← hX']; exact stX_at
  have l5 : X'.2 5 = filL (X0.2 5) (fun x => X0.2 18 (8 * k + x)) 0 8 := by
    rw [← hX', stX_2, rwL_in, rwX_2]
  have lo : ∀ j, j ≠ 5 → X'.2 j = X0.2 j := fun j hj => by
    rw [← hX']
    exact rwL_out hj
  clear hX'
  have row : ∀ j, j ≠ 2 → j ≠ 0 → X'.1 j = X0.1 j := fun j q1 q2 => funext fun x => xr j x q1 (by omega)
  have fld : ∀ x, x ≠ 33 → X'.1 0 x = X0.1 0 x := fun x q => xr 0 x (by omega) (by omega)
  obtain ⟨-, ⟨t0, -⟩⟩ : True ∧ (∃ t, t = 0) ∧ True := ⟨trivial, ⟨0, rfl⟩, trivial⟩
  have htop : ∃ top, top < 8 ∧ C.1 7 0 0 1 = nI top := by
    obtain ⟨⟨n', -, ⟨top, kp, a1, a2, a3, -⟩⟩, -⟩ := hR0
    exact ⟨top, a1, a3⟩
  obtain ⟨top, tp1, tp2⟩ := htop
  refine ⟨⟨n, ?_, ⟨top, 0, tp1, by omega, ?_, k7, x33, fun i hi => by omega⟩⟩, ?_, fun h => absurd k9 h, ?_, ?_, ?_, ?_, ?_, ?_, ?_⟩
  · unfold HereR
    rw [e2]
    refine whR_cp hW in3 in4 in5 in6 (fun x hx => ?_) (fun x hx => ?_)
    · rw [x2]
      have := fil_in (r := X0.1 2) (g := fun x => X0.1 17 (845 * k + x)) (a := 0) hx
      rwa [Nat.zero_add] at this
    · rw [l5]
      have := filL_in (r := X0.2 5) (g := fun x => X0.2 18 (8 * k + x)) (a := 0) hx
      rwa [Nat.zero_add] at this
  · rw [fr 7 0 0 1 (by omega) (by omega) (by omega) (by omega) (by omega) (by omega)]
    exact tp2
  · unfold TapeR
    rw [ob 0 0 (by omega) (by omega) (by omega) (by omega) (by omega) (by omega), fld 2 (by omega), row 1 (by omega) (by omega)]
    exact hT
  · unfold RefR
    rw [e2]
    exact hRf
  · intro k' hk'
    unfold ImgR
    rw [ob 2 _ (by omega) (by omega) (by omega) (by omega) (by omega) (by omega), ob 3 _ (by omega) (by omega) (by omega) (by omega) (by omega) (by omega), ob 4 _ (by omega) (by omega) (by omega) (by omega) (by omega) (by omega), ob 5 _ (by omega) (by omega) (by omega) (by omega) (by omega) (by omega), ob 6 _ (by omega) (by omega) (by omega) (by omega) (by omega) (by omega), row 17 (by omega) (by omega), row 19 (by omega) (by omega), lo 18 (by omega)]
    exact hI k' hk'
  · unfold MoreR
    rw [ob 0 0 (by omega) (by omega) (by omega) (by omega) (by omega) (by omega), fld 35 (by omega), fld 34 (by omega)]
    exact hM
  · unfold PairR
    rw [ob 0 0 (by omega) (by omega) (by omega) (by omega) (by omega) (by omega), fld 38 (by omega), row 12 (by omega) (by omega)]
    exact hPr
  · unfold JudR
    rw [ob 0 0 (by omega) (by omega) (by omega) (by omega) (by omega) (by omega), fld 43 (by omega), row 13 (by omega) (by omega)]
    exact hJ
  · rw [ob 0 0 (by omega) (by omega) (by omega) (by omega) (by omega) (by omega), fld 15 (by omega)]
    exact hF
  · rw [lo 6 (by omega)]
    exact hR6
end IMG
