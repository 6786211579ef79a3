/-! bank() -/
section BK2
variable {N : Nat}
theorem rel_spare {C C' : CM} {X : XM} (hR : Rel N C X) (h2 : C'.2 = C.2) (h1 : ∀ q i, ¬ (q = 3 ∧ i = C.2 0 0 6) → C'.1 q i = C.1 q i) : Rel N C' X := by
  obtain ⟨⟨n, hH, hP⟩, hT, hG, hRf, hI, hM, hPr, hJ, hF, hR6⟩ := hR
  obtain ⟨r1, r2, r3, r4⟩ := id hRf
  refine ⟨⟨n, ?_, ?_⟩, ?_, fun hk => ?_, ?_, fun k hk => ?_, ?_, ?_, ?_, ?_, hR6⟩
  · unfold HereR
    rw [h2, h1 3 _ (by omega), h1 4 0 (by omega), h1 5 _ (by omega), h1 6 _ (by omega)]
    exact hH
  · obtain ⟨top, kp, a1, a2, a3, a4, a5, a6⟩ := hP
    refine ⟨top, kp, a1, a2, ?_, ?_, a5, fun i hi => ?_⟩
    · rw [h1 7 0 (by omega)]; exact a3
    · rw [h1 7 0 (by omega)]; exact a4
    · rw [h1 4 _ (by omega)]; exact a6 i hi
  · unfold TapeR
    rw [h1 0 0 (by omega)]
    exact hT
  · rw [h1 9 0 (by omega)] at hk
    have := hG hk
    unfold GameR at this ⊢
    rw [h1 9 0 (by omega)]
    exact this
  · unfold RefR
    rw [h2]
    exact hRf
  · have := hI k hk
    unfold ImgR at this ⊢
    rw [h1 2 _ (by omega), h1 3 _ (by omega), h1 4 _ (by omega), h1 5 _ (by omega), h1 6 _ (by omega)]
    exact this
  · unfold MoreR
    rw [h1 0 0 (by omega)]
    exact hM
  · unfold PairR
    rw [h1 0 0 (by omega)]
    exact hPr
  · unfold JudR
    rw [h1 0 0 (by omega)]
    exact hJ
  · rw [h1 0 0 (by omega)]
    exact hF
theorem fr_fb {r : Nat} {C C' : CM} (h : Fr15 r C C') : FB r C C' := ⟨h.1, fun q i _ b => funext fun j => funext fun x => h.2 q i j x (fun e => b ⟨e.1, e.2.1⟩)⟩
theorem op_bank (hN : 2000 ≤ N) : OP (Rel N) (f_X10_bank N) (f_X11_bank N) := by
  intro C X hR
  have hR0 := rel_xe hR (xe_0 X 0)
  unfold f_X10_bank f_X11_bank
  rw [bnd_v]
  generalize stX X 0 0 0 = X0 at hR0 ⊢
  obtain ⟨C1, X1, s1, s2, hR1, -, -, -, nx⟩ := start_rel (lm := 900) hN (by omega) hR0
  have s1' : f_X10_splitTape N 900 C = some (0, C1) := s1
  have s2' : f_X11_taken 900 X0 = some (0, X1) := s2
  rw [s1', cal_some, s2', cal_some, bnd_v, bnd_v, bnd_v, bnd_v, bnd_v, bnd_v, bnd_v]
  clear s1 s2 s1' s2' hR0 hR C X X0
  generalize hX2 : stX (stX (stX (stX (stX (stX (stX X1 0 15 0) 0 19 0) 0 20 0) 0 21 0) 0 22 0) 0 23 0) 0 24 0 = X2
  have x2f : ∀ x, X2.1 0 x = if x = 15 ∨ (19 ≤ x ∧ x ≤ 24) then 0 else X1.1 0 x := fun x => by
    rw [← hX2]
    simp only [stX_if]
    by_cases e0 : x = 24
    · rw [if_pos e0, if_pos (by omega)]
    rw [if_neg e0]
    by_cases e1 : x = 23
    · rw [if_pos e1, if_pos (by omega)]
    rw [if_neg e1]
    by_cases e2 : x = 22
    · rw [if_pos e2, if_pos (by omega)]
    rw [if_neg e2]
    by_cases e3 : x = 21
    · rw [if_pos e3, if_pos (by omega)]
    rw [if_neg e3]
    by_cases e4 : x = 20
    · rw [if_pos e4, if_pos (by omega)]
    rw [if_neg e4]
    by_cases e5 : x = 19
    · rw [if_pos e5, if_pos (by omega)]
    rw [if_neg e5]
    by_cases e6 : x = 15
    · rw [if_pos e6, if_pos (by omega)]
    rw [if_neg e6, if_neg (by omega)]
  have x2r : ∀ j, j ≠ 0 → X2.1 j = X1.1 j := fun j hj => by
    rw [← hX2, stX_row hj, stX_row hj, stX_row hj, stX_row hj, stX_row hj, stX_row hj, stX_row hj]
  have x22 : X2.2 = X1.2 := by rw [← hX2]; rfl
  clear hX2
  obtain ⟨Y, y1, y2, y3, y4⟩ := bank49 (X := X2) hN
  rw [y1]
  obtain ⟨X3, a1, a2, a3⟩ := nx Y (by rw [y3 1 (by omega), x2r 1 (by omega)]) (fun x hx => by rw [y3 0 (by omega), x2f, if_neg (by omega)]) (by rw [y3 0 (by omega), x2f, if_pos (by omega)])
  rw [a1, cal_some]
  obtain ⟨⟨n0, hH, hP⟩, hT, hG, hRf, hI, hM, hPr, hJ, hFl, hR6⟩ := id hR1
  obtain ⟨r1, r2, r3, r4⟩ := id hRf
  have hb := b_lt hRf
  have h06 : C1.2 0 0 6 < 4 := by omega
  rw [ldR_lt h06]
  generalize hr : C1.2 0 0 6 = r at h06 ⊢
  unfold f_X0_read
  obtain ⟨C2, c1, c2, c3, c4⟩ := clear_eq (r := r) (C := C1) hN
  rw [c1, cal_some]
  have g3 : GB X1 X3 := by
    refine ⟨fun x a b => ?_, fun j a => ?_, fun x _ => ?_, ?_, ?_⟩
    · have := lf_no a
      rw [a2.2.1 x (by omega) (by omega) (by omega) (by omega) (by omega), y3 0 (by omega), x2f, if_neg (by omega)]
    · have := lr_no a
      rw [a2.1 j (by omega), y3 j (by omega), x2r j (by omega)]
    · rw [a2.2.2 5 x (by omega), y2, x22]
    · funext x
      rw [a2.2.2 6 x (by omega), y2, x22]
    · funext x
      rw [a2.2.2 18 x (by omega), y2, x22]
  have hb0 : HbR (C2.1 3 r) (X3.1 3) (X3.1 0) (X3.2 5) 0 0 0 0 := by
    refine hb_0 c4 (fun x hx => ?_) (fun x h1 h2 => ?_)
    · rw [a2.1 3 (by omega)]
      exact y4 x hx
    · rw [a2.2.1 x (by omega) (by omega) (by omega) (by omega) (by omega), y3 0 (by omega), x2f, if_pos (by omega)]
  obtain ⟨fu, hfu⟩ : ∃ fu, N = fu + 1 := ⟨N - 1, by omega⟩
  have L := bank_loop (r := r) hN (C0 := C1) (X0 := X1) hR6 941 fu fu 0 0 C2 X3 0 0 0 0 (by omega) (by omega) (by omega) (by omega) (psR_c a3 (by rw [c3]) (XP.rf X3)) hb0 c2 g3
  rw [← hfu] at L
  have L : BankE N r C1 X1 (f_X0_read_6 N r N 0 C2) (f_X11_bank_73 N N X3) := L
  -- frames
  have nr : ∀ i, i = 1 ∨ i = 2 → i ≠ r := fun i hi => by omega
  rcases L with ⟨C', X', W, H, V, T, q1, q2, q3, q4, q5, q6, q7⟩ | ⟨C', X', V, q1, q2, q3, q4, q5, q6, q7⟩
  · -- sound
    have bd := hb_bd q7
    rw [q1, q2]
    unfold f_X0_read_47
    obtain ⟨C3, k1, k2, k3⟩ := sort_eq (r := r) (C := C') hN bd.2.2.1 (hb_o q7).1
    obtain ⟨X4, m1, m2, m3, m4⟩ := bank118 (X := X') hN
    obtain ⟨X5, n1, n2, n3, n4⟩ := bank156 (X := X4) hN
    have v2 : X5.1 2 2 = nI V := by rw [n2, m4 2 (by omega), if_pos (by omega)]; exact (hb_o q7).2
    have v3 : X5.1 2 3 = nI T := by rw [n2, m4 3 (by omega), if_pos (by omega)]; exact (hb_t q7).2
    obtain ⟨X6, b1, b2, b3⟩ := begins_eq (X := X5) hN bd.2.2.1 bd.2.2.2 v2 v3
    rw [k1, cal_some, cal_rt, bnd_v, m1, n1, b1, cal_some, bnd_v]
    have e5 : C3.1 1 0 0 5 = 0 := by rw [k2.2 1 0 0 5 (by omega)]; exact q3
    rw [e5]
    have z3 : (stC C3 0 0 0 3 0).1 0 0 0 3 = 0 := stC_at
    have z2 : (stC C3 0 0 0 3 0).2 = C1.2 := k2.1.trans q5.1
    rw [if_pos z3, z2, ldR_lt hb.1, hr, ldR_lt h06, bnd_v, bnd_v]
    -- the memory that both references are changed in
    generalize hC4 : rfC (rfC (stC C3 0 0 0 3 0) 2 0 1 r) 0 0 6 (C1.2 2 0 1) = C4
    have d2 : ∀ k i f, C4.2 k i f = if k = 0 ∧ i = 0 ∧ f = 6 then C1.2 2 0 1 else if k = 2 ∧ i = 0 ∧ f = 1 then r else C1.2 k i f := by
      intro k i f
      rw [← hC4]
      simp only [rfC]
      rw [z2]
    have d1 : C4.1 = (stC C3 0 0 0 3 0).1 := by rw [← hC4]; rfl
    clear hC4
    have d201 : C4.2 2 0 1 = r := by rw [d2, if_neg (by omega), if_pos (by omega)]
    have d203 : C4.2 2 0 3 = C1.2 2 0 3 := by rw [d2, if_neg (by omega), if_neg (by omega)]
    have d204 : C4.2 2 0 4 = C1.2 2 0 4 := by rw [d2, if_neg (by omega), if_neg (by omega)]
    obtain ⟨C5, t1, t2, t3, t4⟩ := beginC_eq (r := 0) (b := r) C4 hN
    have f201 : C5.2 2 0 1 = r := by rw [t2]; exact d201
    rw [d201, ldR_lt h06, t1, cal_some, t2, d203, ldR_lt hb.2.1, bnd_v]
    have f204 : (stC C5 5 (C1.2 2 0 3) 0 0 0).2 2 0 4 = C1.2 2 0 4 := by
      show C5.2 2 0 4 = _
      rw [t2]; exact d204
    rw [f204, ldR_lt hb.2.2, bnd_v]
    unfold f_X2_forget
    rw [bnd_v, cal_rt, bnd_v]
    generalize hC6 : stC (stC (stC (stC C5 5 (C1.2 2 0 3) 0 0 0) 6 (C1.2 2 0 4) 0 0 0) 7 0 0 2 0) 9 0 0 0 0 = C6
    have u2 : C6.2 = C4.2 := by rw [← hC6]; exact t2
    have u3 : ∀ q, q ≠ 5 → q ≠ 6 → q ≠ 7 → q ≠ 9 → C6.1 q = C5.1 q := fun q h1 h2 h3 h4 => by
      rw [← hC6]
      funext i
      rw [stC_ob h4, stC_ob h3, stC_ob h2, stC_ob h1]
    have u5 : C6.1 5 (C1.2 2 0 3) 0 0 = 0 := by
      rw [← hC6, stC_ob (by omega), stC_ob (by omega), stC_ob (by omega), stC_at]
    have u6 : C6.1 6 (C1.2 2 0 4) 0 0 = 0 := by
      rw [← hC6, stC_ob (by omega), stC_ob (by omega), stC_at]
    have u7 : C6.1 7 0 0 2 = 0 := by
      rw [← hC6, stC_ob (by omega), stC_at]
    have u9 : C6.1 9 0 0 0 = 0 := by rw [← hC6, stC_at]
    have u71 : C6.1 7 0 0 1 = C5.1 7 0 0 1 := by
      rw [← hC6, stC_ob (by omega), stC_ne (by omega), stC_ob (by omega), stC_ob (by omega)]
    have u51 : ∀ i, i = 1 ∨ i = 2 → C6.1 5 i = C5.1 5 i := fun i hi => by
      rw [← hC6, stC_ob (by omega), stC_ob (by omega), stC_ob (by omega)]
      funext j x
      simp only [stC]
      rw [if_neg (by omega)]
    have u61 : ∀ i, i = 1 ∨ i = 2 → C6.1 6 i = C5.1 6 i := fun i hi => by
      rw [← hC6, stC_ob (by omega), stC_ob (by omega)]
      funext j x
      simp only [stC]
      rw [if_neg (by omega), if_neg (by omega)]
    clear hC6
    have u201 : C6.2 2 0 1 = r := by rw [u2]; exact d201
    rw [u201, ldR_lt h06]
    -- what of the class was before
    have cl : ∀ q i, q ≠ 1 → q ≠ 0 → ¬ (q = 3 ∧ i = r) → ¬ (q = 4 ∧ i = 0) → C5.1 q i = C1.1 q i := fun q i h1 h0 h2 h3 => by
      rw [t3 q i h3, d1, stC_ob h0, (fr_fb k2).2 q i h1 h2, q5.2 q i h1 h2]
    have c0 : ∀ j x, ¬ (j = 0 ∧ x = 3) → C6.1 0 0 j x = C1.1 0 0 j x := fun j x h => by
      rw [u3 0 (by omega) (by omega) (by omega) (by omega), t3 0 0 (by omega), d1]
      have : (stC C3 0 0 0 3 0).1 0 0 j x = C3.1 0 0 j x := by
        simp only [stC]
        rw [if_neg (by omega)]
      rw [this, (fr_fb k2).2 0 0 (by omega) (by omega), q5.2 0 0 (by omega) (by omega)]
    have b3r : C6.1 3 r = C3.1 3 r := by
      rw [u3 3 (by omega) (by omega) (by omega) (by omega), t3 3 r (by omega), d1, stC_ob (by omega)]
    have b4r : C4.1 3 r = C3.1 3 r := by rw [d1, stC_ob (by omega)]
    have hBk : BankR (C3.1 3 r) (X'.1 3) (W, H, V, T) := bank_of_hb q7 (fun j x hj => k2.2 3 r j x (by omega)) k3
    -- what of the reference
    have w0 : ∀ x, x ≠ 33 → (stX X6 0 33 0).1 0 x = X'.1 0 x := fun x hx => by
      rw [stX_ne hx, b2.2.1 0 (by omega), n2, m3 0 (by omega)]
    have wr : ∀ j, j ≠ 0 → j ≠ 2 → (stX X6 0 33 0).1 j = X'.1 j := fun j h0 h2 => by
      rw [stX_row h0, b2.2.1 j h2, n2, m3 j h2]
    have ws : ∀ x, x < 371 → (stX X6 0 33 0).1 2 x = X'.1 3 x := fun x hx => by
      rw [stX_row (by omega), b2.2.2 x (by omega), n2, m4 x (by omega), if_pos hx]
    have wt : ∀ x, 543 ≤ x → x < 845 → (stX X6 0 33 0).1 2 x = 0 := fun x h1 h2 => by
      rw [stX_row (by omega), b2.2.2 x (by omega), n2, m4 x (by omega), if_neg (by omega)]
    have wn : ∀ x, x < 8 → (stX X6 0 33 0).2 5 x = X'.2 5 (8 + x) := fun x hx => by
      rw [stX_2, b2.1, n4 x hx, m2]
    have wl : ∀ j x, ¬ (j = 5 ∧ x < 8) → (stX X6 0 33 0).2 j x = X'.2 j x := fun j x h => by
      rw [stX_2, b2.1, n3 j x h, m2]
    have wb : ∀ y, y < 172 → (stX X6 0 33 0).1 2 (371 + y) = bgV (X'.1 3) V T y := fun y hy => by
      rw [stX_row (by omega), b3 y hy]
      unfold bgV
      have e : ∀ z, z < 371 → X5.1 2 z = X'.1 3 z := fun z hz => by rw [n2, m4 z (by omega), if_pos hz]
      by_cases p1 : 70 ≤ y ∧ y < 170
      · rw [if_pos p1, if_pos p1, e _ (by omega)]
      rw [if_neg p1, if_neg p1]
      by_cases p2 : 58 ≤ y ∧ y < 58 + T
      · rw [if_pos p2, if_pos p2]
      rw [if_neg p2, if_neg p2]
      by_cases p3 : 26 ≤ y ∧ y < 26 + V
      · rw [if_pos p3, if_pos p3, e _ (by omega)]
      rw [if_neg p3, if_neg p3]
      by_cases p4 : 18 ≤ y ∧ y < 18 + V
      · rw [if_pos p4, if_pos p4, e _ (by omega)]
      rw [if_neg p4, if_neg p4]
      by_cases p5 : 2 ≤ y ∧ y < 2 + V
      · rw [if_pos p5, if_pos p5, e _ (by omega)]
      rw [if_neg p5, if_neg p5]
    have ans : C6.1 3 r 0 0 = (stX X6 0 33 0).1 0 19 := by
      rw [b3r, k2.2 3 r 0 0 (by omega), w0 19 (by omega)]
      exact hb_ln q7
    generalize hX7 : stX X6 0 33 0 = X7 at w0 wr ws wt wn wl wb ans ⊢
    have w33 : X7.1 0 33 = 0 := by rw [← hX7, stX_at]
    clear hX7
    rw [ans]
    refine ⟨_, _, _, rfl, rfl, ?_⟩
    refine ⟨⟨(W, H, V, T), ?_, ?_⟩, ?_, fun hk => absurd u9 hk, ?_, fun k hk => ?_, ?_, ?_, ?_, ?_, ?_⟩
    · unfold HereR
      rw [u201, u2, d203, d204, b3r]
      refine ⟨bankR_congr hBk ws, ?_, ⟨0, by omega, u5, wt 543 (by omega) (by omega), fun i hi => absurd hi (Nat.not_lt_zero _)⟩, ⟨0, fun _ => 0, by omega, wt 664 (by omega) (by omega), Or.inl ⟨rfl, u6⟩⟩, fun k hk => ?_⟩
      · have hS := begin_st hBk (show BgP (C3.1 3 r) (C5.1 4 0) by rw [← b4r]; exact t4)
        rw [u3 4 (by omega) (by omega) (by omega) (by omega)]
        exact stateR_congr ⟨bd.2.2.1, bd.2.2.2⟩ hS ws (fun _ _ _ => rfl) (fun x hx => wb x hx)
      · have hk : k < V := hk
        rw [wn k (by omega), k2.2 3 r 7 k (by omega)]
        exact hb_nm q7 k hk
    · obtain ⟨top, kp, a1, a2, a3, a4, a5, a6⟩ := hP
      refine ⟨top, 0, a1, by omega, ?_, u7, w33, fun i hi => absurd hi (Nat.not_lt_zero _)⟩
      rw [u71, cl 7 0 (by omega) (by omega) (by omega) (by omega)]
      exact a3
    · obtain ⟨L, l1, l2, l3, l4⟩ := hT
      refine ⟨L, l1, ?_, ?_, fun x hx => ?_⟩
      · rw [c0 0 1 (by omega)]; exact l2
      · rw [w0 2 (by omega), q6.1 2 rfl (by omega)]; exact l3
      · rw [c0 1 x (by omega), wr 1 (by omega) (by omega), q6.2.1 1 rfl]; exact l4 x hx
    · refine ⟨?_, ?_, ?_, fun i f hi hf => ?_⟩
      · rw [u201, u2, d2, if_pos (by omega)]
        omega
      · rw [u2, d203, d2, if_neg (by omega), if_neg (by omega)]
        exact r2
      · rw [u2, d204, d2, if_neg (by omega), if_neg (by omega)]
        exact r3
      · rw [u2, d2, if_neg (by omega), if_neg (by omega)]
        exact r4 i f hi hf
    · have := hI k hk
      unfold ImgR at this ⊢
      have e18 : (fun x => X7.2 18 (8 * k + x)) = fun x => X1.2 18 (8 * k + x) := funext fun x => by
        rw [wl 18 _ (by omega), q6.2.2.2.2]
      rw [u3 2 (by omega) (by omega) (by omega) (by omega), u3 3 (by omega) (by omega) (by omega) (by omega), u3 4 (by omega) (by omega) (by omega) (by omega), u51 (1 + k) (by omega), u61 (1 + k) (by omega), cl 2 _ (by omega) (by omega) (by omega) (by omega), cl 3 _ (by omega) (by omega) (by omega) (by omega), cl 4 _ (by omega) (by omega) (by omega) (by omega), cl 5 _ (by omega) (by omega) (by omega) (by omega), cl 6 _ (by omega) (by omega) (by omega) (by omega), wr 19 (by omega) (by omega), wr 17 (by omega) (by omega), q6.2.1 19 rfl, q6.2.1 17 rfl, e18]
      exact this
    · unfold MoreR
      rw [c0 0 13 (by omega), w0 35 (by omega), w0 34 (by omega), q6.1 35 rfl (by omega), q6.1 34 rfl (by omega)]
      exact hM
    · obtain ⟨m, p1, p2, p3, p4⟩ := hPr
      refine ⟨m, p1, ?_, ?_, fun k hk => ?_⟩
      · rw [c0 0 15 (by omega)]; exact p2
      · rw [w0 38 (by omega), q6.1 38 rfl (by omega)]; exact p3
      · rw [c0 3 k (by omega), wr 12 (by omega) (by omega), q6.2.1 12 rfl]; exact p4 k hk
    · unfold JudR
      rw [w0 43 (by omega), q6.1 43 rfl (by omega), wr 13 (by omega) (by omega), q6.2.1 13 rfl]
      rcases hJ with ⟨j1, j2⟩ | ⟨j1, j2⟩
      · exact Or.inl ⟨j1, fun i hi => by rw [c0 5 i (by omega)]; exact j2 i hi⟩
      · exact Or.inr ⟨j1, fun i hi => by rw [c0 5 i (by omega)]; exact j2 i hi⟩
    · rw [w0 15 (by omega), q4, u3 0 (by omega) (by omega) (by omega) (by omega), t3 0 0 (by omega), d1]
      exact z3
    · funext x
      rw [wl 6 x (by omega), q6.2.2.2.1, hR6]
  · -- a fault
    rw [q1, q2]
    unfold f_X0_read_47
    obtain ⟨C3, k1, k2, -⟩ := sort_eq (r := r) (C := C') hN q6 q7
    rw [k1, cal_some, cal_rt, bnd_v]
    have e5 : C3.1 1 0 0 5 = C'.1 1 0 0 5 := k2.2 1 0 0 5 (by omega)
    have e6 : C3.1 1 0 0 6 = C'.1 1 0 0 6 := k2.2 1 0 0 6 (by omega)
    have z3 : (stC C3 0 0 0 3 (C3.1 1 0 0 5)).1 0 0 0 3 = C'.1 1 0 0 5 := by rw [stC_at]; exact e5
    have z6 : (stC C3 0 0 0 3 (C3.1 1 0 0 5)).1 1 0 0 6 = C'.1 1 0 0 6 := by rw [stC_ob (by omega)]; exact e6
    rw [if_neg (by rw [z3]; exact q3.1.1), z6, ← q3.2.2]
    refine ⟨_, _, _, rfl, rfl, ?_⟩
    have fbb : FB r C1 C3 := q4.trans (fr_fb k2)
    -- the spare bank alone
    generalize hD : ((fun k i j x => if k = 3 ∧ i = r then C3.1 k i j x else C1.1 k i j x, C1.2) : CM) = D
    have dd : ∀ q i, ¬ (q = 3 ∧ i = r) → D.1 q i = C1.1 q i := fun q i h => by
      rw [← hD]
      funext j x
      show (if q = 3 ∧ i = r then C3.1 q i j x else C1.1 q i j x) = _
      rw [if_neg h]
    have dr : D.1 3 r = C3.1 3 r := by
      rw [← hD]
      funext j x
      show (if 3 = 3 ∧ r = r then C3.1 3 r j x else C1.1 3 r j x) = _
      rw [if_pos ⟨rfl, rfl⟩]
    have d2 : D.2 = C1.2 := by rw [← hD]
    clear hD
    have hRD : Rel N D X1 := rel_spare hR1 d2 (by rw [hr]; exact dd)
    obtain ⟨⟨n1, hH1, hP1⟩, -⟩ := id hRD
    have sm : ∀ q i, q ≠ 1 → q ≠ 0 → (stC C3 0 0 0 3 (C3.1 1 0 0 5)).1 q i = D.1 q i := fun q i h1 h0 => by
      rw [stC_ob h0]
      by_cases e : q = 3 ∧ i = r
      · obtain ⟨rfl, rfl⟩ := e
        exact dr.symm
      · rw [dd q i e]
        exact fbb.2 q i h1 e
    have c2' : (stC C3 0 0 0 3 (C3.1 1 0 0 5)).2 = D.2 := by rw [d2]; exact fbb.1
    refine rel_new hN hRD hH1 hP1 ?_ ?_ ?_ ?_ ?_ ?_ ?_ ?_ ?_ ?_ ?_ ?_ ?_ ?_ ?_ ?_ ?_ ?_ ?_
    · exact funext fun i => sm 2 i (by omega) (by omega)
    · exact funext fun i => sm 3 i (by omega) (by omega)
    · exact funext fun i => sm 4 i (by omega) (by omega)
    · exact funext fun i => sm 7 i (by omega) (by omega)
    · exact funext fun i => sm 9 i (by omega) (by omega)
    · exact fun i _ => sm 5 i (by omega) (by omega)
    · exact fun i _ => sm 6 i (by omega) (by omega)
    · intro j x hjx
      have : (stC C3 0 0 0 3 (C3.1 1 0 0 5)).1 0 0 j x = C3.1 0 0 j x := by
        simp only [stC]
        rw [if_neg (by omega)]
      rw [this, fbb.2 0 0 (by omega) (by omega), dd 0 0 (by omega)]
    · unfold RefR
      rw [c2', d2]
      exact hRf
    · rw [c2']
    · intro x hx
      rw [q5.2.1 2 rfl]
    · intro j hj h2
      exact q5.2.1 j hj
    · exact q5.1
    · exact q5.2.2.1
    · exact q5.2.2.2.1
    · exact q5.2.2.2.2
    · rw [c2', sm 5 _ (by omega) (by omega), q5.2.1 2 rfl]
      exact hH1.2.2.1
    · rw [c2', sm 6 _ (by omega) (by omega), q5.2.1 2 rfl]
      exact hH1.2.2.2.1
    · rw [z3]
      exact q3.2.1.symm
end BK2
