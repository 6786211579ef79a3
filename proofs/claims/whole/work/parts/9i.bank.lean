/-! The bank told anew: both sides cleared, both sides at the end. -/
section BK1
variable {N : Nat}
theorem clear12 {r : Nat} {C : CM} (hN : 2000 ≤ N) : ∃ C', f_X1_clear_12 N r N 0 C = some (0, C') ∧ FB r C C' ∧ (∀ j x, j ≠ 9 → j ≠ 11 → j ≠ 12 → j ≠ 13 → j ≠ 14 → C'.1 3 r j x = C.1 3 r j x) ∧ (C'.1 1 = C.1 1) ∧ ∀ k, k < 8 → C'.1 3 r 9 k = 0 ∧ C'.1 3 r 11 k = 0 ∧ C'.1 3 r 12 k = 0 ∧ C'.1 3 r 13 k = -1 ∧ C'.1 3 r 14 k = -1 := by
  refine loop1 (fun m i (D : CM) => f_X1_clear_12 N r m i D) (fun i D => FB r C D ∧ (∀ j x, j ≠ 9 → j ≠ 11 → j ≠ 12 → j ≠ 13 → j ≠ 14 → D.1 3 r j x = C.1 3 r j x) ∧ D.1 1 = C.1 1 ∧ ∀ k, k < i → D.1 3 r 9 k = 0 ∧ D.1 3 r 11 k = 0 ∧ D.1 3 r 12 k = 0 ∧ D.1 3 r 13 k = -1 ∧ D.1 3 r 14 k = -1) (fun y => ∃ C', y = some (0, C') ∧ FB r C C' ∧ (∀ j x, j ≠ 9 → j ≠ 11 → j ≠ 12 → j ≠ 13 → j ≠ 14 → C'.1 3 r j x = C.1 3 r j x) ∧ C'.1 1 = C.1 1 ∧ ∀ k, k < 8 → C'.1 3 r 9 k = 0 ∧ C'.1 3 r 11 k = 0 ∧ C'.1 3 r 12 k = 0 ∧ C'.1 3 r 13 k = -1 ∧ C'.1 3 r 14 k = -1) 8 ?_ ?_ 8 0 N C (by omega) (by omega) ⟨fb_rf r C, fun _ _ _ _ _ _ _ => rfl, rfl, fun k hk => absurd hk (Nat.not_lt_zero _)⟩
  · rintro m i D hi ⟨d1, d2, d3, d4⟩
    left
    refine ⟨stC (stC (stC (stC (stC D 3 r 9 i 0) 3 r 11 i 0) 3 r 12 i 0) 3 r 13 i (-1)) 3 r 14 i (-1), ?_, d1.trans (fb_st.trans (fb_st.trans (fb_st.trans (fb_st.trans fb_st)))), fun j x h1 h2 h3 h4 h5 => ?_, ?_, fun k hk => ?_⟩
    · rw [f_X1_clear_12]
      simp (disch := omega) only [le_ln, if_neg, stA_nI, nI_al]
    · simp only [stC]
      rw [if_neg (by omega), if_neg (by omega), if_neg (by omega), if_neg (by omega), if_neg (by omega)]
      exact d2 j x h1 h2 h3 h4 h5
    · rw [← d3]
      funext i'
      rw [stC_ob (by omega), stC_ob (by omega), stC_ob (by omega), stC_ob (by omega), stC_ob (by omega)]
    · simp only [stC]
      by_cases e : k = i
      · subst e
        simp
      · obtain ⟨e1, e2, e3, e4, e5⟩ := d4 k (by omega)
        simp [e, e1, e2, e3, e4, e5]
  · rintro m D ⟨d1, d2, d3, d4⟩
    refine ⟨D, ?_, d1, d2, d3, d4⟩
    try dsimp only
    rw [f_X1_clear_12, if_pos (by decide)]
    rfl
theorem clear87 {r : Nat} {C : CM} (hN : 2000 ≤ N) : ∃ C', f_X0_clear_87 N r N 0 C = some (0, C') ∧ FB r C C' ∧ (∀ j x, j ≠ 5 → C'.1 3 r j x = C.1 3 r j x) ∧ (C'.1 1 = C.1 1) ∧ ∀ k, k < 48 → C'.1 3 r 5 k = 0 := by
  refine loop1 (fun m i (D : CM) => f_X0_clear_87 N r m i D) (fun i D => FB r C D ∧ (∀ j x, j ≠ 5 → D.1 3 r j x = C.1 3 r j x) ∧ D.1 1 = C.1 1 ∧ ∀ k, k < i → D.1 3 r 5 k = 0) (fun y => ∃ C', y = some (0, C') ∧ FB r C C' ∧ (∀ j x, j ≠ 5 → C'.1 3 r j x = C.1 3 r j x) ∧ C'.1 1 = C.1 1 ∧ ∀ k, k < 48 → C'.1 3 r 5 k = 0) 48 ?_ ?_ 48 0 N C (by omega) (by omega) ⟨fb_rf r C, fun _ _ _ => rfl, rfl, fun k hk => absurd hk (Nat.not_lt_zero _)⟩
  · rintro m i D hi ⟨d1, d2, d3, d4⟩
    left
    refine ⟨stC D 3 r 5 i 0, ?_, d1.trans fb_st, fun j x h1 => ?_, ?_, fun k hk => ?_⟩
    · rw [f_X0_clear_87]
      simp (disch := omega) only [le_ln, if_neg, stA_nI, nI_al]
    · rw [stC_row h1]
      exact d2 j x h1
    · rw [← d3]
      funext i'
      rw [stC_ob (by omega)]
    · rw [stC_if]
      by_cases e : k = i
      · rw [if_pos e]
      · rw [if_neg e]
        exact d4 k (by omega)
  · rintro m D ⟨d1, d2, d3, d4⟩
    refine ⟨D, ?_, d1, d2, d3, d4⟩
    try dsimp only
    rw [f_X0_clear_87, if_pos (by decide)]
    rfl
theorem clear59 {r : Nat} {C : CM} (hN : 2000 ≤ N) : ∃ C', f_X0_clear_59 N r N 0 C = f_X0_clear_87 N r N 0 C' ∧ FB r C C' ∧ (∀ j x, j ≠ 1 → j ≠ 2 → C'.1 3 r j x = C.1 3 r j x) ∧ (C'.1 1 = C.1 1) ∧ ∀ k, k < 100 → C'.1 3 r 1 k = 0 ∧ C'.1 3 r 2 k = 0 := by
  refine loop1 (fun m i (D : CM) => f_X0_clear_59 N r m i D) (fun i D => FB r C D ∧ (∀ j x, j ≠ 1 → j ≠ 2 → D.1 3 r j x = C.1 3 r j x) ∧ D.1 1 = C.1 1 ∧ ∀ k, k < i → D.1 3 r 1 k = 0 ∧ D.1 3 r 2 k = 0) (fun y => ∃ C', y = f_X0_clear_87 N r N 0 C' ∧ FB r C C' ∧ (∀ j x, j ≠ 1 → j ≠ 2 → C'.1 3 r j x = C.1 3 r j x) ∧ C'.1 1 = C.1 1 ∧ ∀ k, k < 100 → C'.1 3 r 1 k = 0 ∧ C'.1 3 r 2 k = 0) 100 ?_ ?_ 100 0 N C (by omega) (by omega) ⟨fb_rf r C, fun _ _ _ _ => rfl, rfl, fun k hk => absurd hk (Nat.not_lt_zero _)⟩
  · rintro m i D hi ⟨d1, d2, d3, d4⟩
    left
    refine ⟨stC (stC D 3 r 1 i 0) 3 r 2 i 0, ?_, d1.trans (fb_st.trans fb_st), fun j x h1 h2 => ?_, ?_, fun k hk => ?_⟩
    · rw [f_X0_clear_59]
      simp (disch := omega) only [le_ln, if_neg, stA_nI, nI_al]
    · rw [stC_row h2, stC_row h1]
      exact d2 j x h1 h2
    · rw [← d3]
      funext i'
      rw [stC_ob (by omega), stC_ob (by omega)]
    · rw [stC_row (by omega), stC_if, stC_if, stC_row (by omega)]
      by_cases e : k = i
      · rw [if_pos e, if_pos e]
        exact ⟨rfl, rfl⟩
      · rw [if_neg e, if_neg e]
        exact d4 k (by omega)
  · rintro m D ⟨d1, d2, d3, d4⟩
    refine ⟨D, ?_, d1, d2, d3, d4⟩
    try dsimp only
    rw [f_X0_clear_59, if_pos (by decide)]
def Clr (B : Nat → Nat → Int32) : Prop := (∀ x, x ≤ 9 → B 0 x = 0) ∧ B 6 0 = 0 ∧ B 6 1 = 0 ∧ (∀ k, k < 8 → B 9 k = 0 ∧ B 11 k = 0 ∧ B 12 k = 0 ∧ B 13 k = -1 ∧ B 14 k = -1) ∧ (∀ c, c < 100 → B 1 c = 0 ∧ B 2 c = 0) ∧ ∀ q, q < 48 → B 5 q = 0
theorem clear_eq {r : Nat} {C : CM} (hN : 2000 ≤ N) : ∃ C', f_X0_clear N r C = some (0, C') ∧ FB r C C' ∧ C'.1 1 = C.1 1 ∧ Clr (C'.1 3 r) := by
  unfold f_X0_clear f_X1_clear
  simp only [bnd_v]
  generalize hA : stC (stC (stC (stC (stC (stC (stC (stC (stC (stC C 3 r 0 0 0) 3 r 0 1 0) 3 r 0 2 0) 3 r 0 3 0) 3 r 0 4 0) 3 r 0 5 0) 3 r 0 6 0) 3 r 0 7 0) 3 r 0 8 0) 3 r 0 9 0 = A
  have a0 : ∀ x, x ≤ 9 → A.1 3 r 0 x = 0 := fun x hx => by
    rw [← hA]
    simp only [stC]
    by_cases e0 : x = 9
    · simp [e0]
    by_cases e1 : x = 8
    · simp [e1]
    by_cases e2 : x = 7
    · simp [e2]
    by_cases e3 : x = 6
    · simp [e3]
    by_cases e4 : x = 5
    · simp [e4]
    by_cases e5 : x = 4
    · simp [e5]
    by_cases e6 : x = 3
    · simp [e6]
    by_cases e7 : x = 2
    · simp [e7]
    by_cases e8 : x = 1
    · simp [e8]
    have e9 : x = 0 := by omega
    simp [e9]
  have a1 : FB r C A := by
    rw [← hA]
    exact fb_st.trans (fb_st.trans (fb_st.trans (fb_st.trans (fb_st.trans (fb_st.trans (fb_st.trans (fb_st.trans (fb_st.trans fb_st))))))))
  have a2 : A.1 1 = C.1 1 := by
    rw [← hA]
    funext i
    rw [stC_ob (by omega), stC_ob (by omega), stC_ob (by omega), stC_ob (by omega), stC_ob (by omega), stC_ob (by omega), stC_ob (by omega), stC_ob (by omega), stC_ob (by omega), stC_ob (by omega)]
  clear hA
  generalize hA' : stC (stC A 3 r 6 0 0) 3 r 6 1 0 = A'
  have b0 : ∀ x, x ≤ 9 → A'.1 3 r 0 x = 0 := fun x hx => by
    rw [← hA', stC_row (by omega), stC_row (by omega)]
    exact a0 x hx
  have b1 : FB r C A' := by
    rw [← hA']
    exact a1.trans (fb_st.trans fb_st)
  have b2 : A'.1 1 = C.1 1 := by
    rw [← hA', ← a2]
    funext i
    rw [stC_ob (by omega), stC_ob (by omega)]
  have b3 : A'.1 3 r 6 0 = 0 ∧ A'.1 3 r 6 1 = 0 := by
    rw [← hA']
    exact ⟨by rw [stC_ne (by omega), stC_at], stC_at⟩
  clear hA'
  obtain ⟨D, d1, d2, d3, d4, d5⟩ := clear12 (r := r) (C := A') hN
  obtain ⟨E, e1, e2, e3, e4, e5⟩ := clear59 (r := r) (C := D) hN
  obtain ⟨G, g1, g2, g3, g4, g5⟩ := clear87 (r := r) (C := E) hN
  rw [d1, cal_some, e1, g1]
  refine ⟨G, rfl, b1.trans (d2.trans (e2.trans g2)), by rw [g4, e4, d4, b2], fun x hx => ?_, ?_, ?_, fun k hk => ?_, fun c hc => ?_, g5⟩
  · rw [g3 0 x (by omega), e3 0 x (by omega) (by omega), d3 0 x (by omega) (by omega) (by omega) (by omega) (by omega)]
    exact b0 x hx
  · rw [g3 6 0 (by omega), e3 6 0 (by omega) (by omega), d3 6 0 (by omega) (by omega) (by omega) (by omega) (by omega)]
    exact b3.1
  · rw [g3 6 1 (by omega), e3 6 1 (by omega) (by omega), d3 6 1 (by omega) (by omega) (by omega) (by omega) (by omega)]
    exact b3.2
  · rw [g3 9 k (by omega), e3 9 k (by omega) (by omega), g3 11 k (by omega), e3 11 k (by omega) (by omega), g3 12 k (by omega), e3 12 k (by omega) (by omega), g3 13 k (by omega), e3 13 k (by omega) (by omega), g3 14 k (by omega), e3 14 k (by omega) (by omega)]
    exact d5 k hk
  · rw [g3 1 c (by omega), g3 2 c (by omega)]
    exact e5 c hc
theorem hb_0 {B : Nat → Nat → Int32} {s F : Nat → Int32} {M : Nat → Int64} (h : Clr B) (hs : ∀ x, x < 371 → s x = 0) (hF : ∀ x, 19 ≤ x → x ≤ 24 → F x = 0) : HbR B s F M 0 0 0 0 := by
  obtain ⟨h1, h2, h3, h4, h5, h6⟩ := h
  have z : ∀ x, x < 371 → s x = nI 0 := hs
  refine ⟨by omega, ⟨h1 1 (by omega), hs 0 (by omega)⟩, ⟨h1 2 (by omega), hs 1 (by omega)⟩, ⟨h2, hs 2 (by omega)⟩, ⟨h1 3 (by omega), hs 3 (by omega)⟩, Or.inl ⟨hF 23 (by omega) (by omega), rfl⟩, (h1 0 (by omega)).trans (hF 19 (by omega) (by omega)).symm, ⟨0, by omega, h1 6 (by omega), hs 4 (by omega)⟩, Or.inl ⟨h1 7 (by omega), hF 24 (by omega) (by omega)⟩, ⟨⟨0, by omega, h1 8 (by omega), hs 5 (by omega)⟩, ⟨0, by omega, h1 9 (by omega), hs 6 (by omega)⟩⟩, h3.trans (hF 20 (by omega) (by omega)).symm, ⟨0, by omega, h1 5 (by omega), hF 22 (by omega) (by omega)⟩, fun k hk => absurd hk (Nat.not_lt_zero _), fun k hk => ⟨0, by omega, (h4 k hk).1, hs _ (by omega), fun _ => rfl⟩, fun k hk => absurd hk (Nat.not_lt_zero _), fun k hk => ⟨0, by omega, (h4 k hk).2.1, hs _ (by omega), fun _ => rfl⟩, fun k hk => ⟨0, by omega, (h4 k hk).2.2.1, hs _ (by omega), fun _ => rfl⟩, fun k hk => ⟨0, by omega, (h4 k hk).2.2.2.1.trans (by decide), hs _ (by omega), fun _ => rfl⟩, fun k hk => ⟨0, Or.inl rfl, (h4 k hk).2.2.2.2.trans (by decide), hs _ (by omega), fun _ => rfl⟩, fun k hk => absurd hk (Nat.not_lt_zero _), fun c hc => ⟨0, by omega, (h5 c hc).2, hs _ (by omega)⟩, fun q hq => ⟨0, by omega, h6 q hq, hs _ (by omega), fun q => absurd q (Nat.lt_irrefl 0)⟩, ⟨fun _ => 0, fun c hc => ⟨Nat.zero_le _, hs _ (by omega)⟩, by rw [sumN_0 100 (fun _ _ => rfl)]; omega, by rw [sumN_0 100 (fun _ _ => rfl)]; exact h1 4 (by omega), by rw [sumN_0 100 (fun _ _ => rfl)]; exact hF 21 (by omega) (by omega)⟩, ⟨fun k hk => absurd hk (Nat.not_lt_zero _), fun k hk => absurd hk (Nat.not_lt_zero _), fun c hc e => ?_, fun c hc _ _ _ => (h5 c hc).1⟩, fun k hk => absurd hk (Nat.not_lt_zero _)⟩
  have e : s (271 + c) = 1 := e
  rw [hs _ (by omega)] at e
  exact absurd e (by decide)
theorem bank49 {X : XM} (hN : 2000 ≤ N) : ∃ Y, f_X11_bank_49 N N 0 X = cal (f_X11_next N Y) (fun _ X3 => (f_X11_bank_73 N N X3)) ∧ Y.2 = X.2 ∧ (∀ j, j ≠ 3 → Y.1 j = X.1 j) ∧ ∀ x, x < 371 → Y.1 3 x = 0 := by
  refine loop1 (fun m i (Y : XM) => f_X11_bank_49 N m i Y) (fun i Y => Y.2 = X.2 ∧ (∀ j, j ≠ 3 → Y.1 j = X.1 j) ∧ ∀ x, x < i → Y.1 3 x = 0) (fun y => ∃ Y, y = cal (f_X11_next N Y) (fun _ X3 => (f_X11_bank_73 N N X3)) ∧ Y.2 = X.2 ∧ (∀ j, j ≠ 3 → Y.1 j = X.1 j) ∧ ∀ x, x < 371 → Y.1 3 x = 0) 371 ?_ ?_ 371 0 N X (by omega) (by omega) ⟨rfl, fun _ _ => rfl, fun x hx => absurd hx (Nat.not_lt_zero _)⟩
  · rintro m i Y hi ⟨y1, y2, y3⟩
    left
    refine ⟨stX Y 3 i 0, ?_, y1, fun j hj => (stX_row hj).trans (y2 j hj), fun x hx => ?_⟩
    · rw [f_X11_bank_49]
      simp (disch := omega) only [le_ln, if_neg, sxA_nI, nI_al]
    · rw [stX_if]
      by_cases e : x = i
      · rw [if_pos e]
      · rw [if_neg e]
        exact y3 x (by omega)
  · rintro m Y ⟨y1, y2, y3⟩
    refine ⟨Y, ?_, y1, y2, y3⟩
    try dsimp only
    rw [f_X11_bank_49, if_pos (by decide)]
theorem bank118 {X : XM} (hN : 2000 ≤ N) : ∃ Y, f_X11_bank_118 N N 0 X = f_X11_bank_156 N N 0 Y ∧ Y.2 = X.2 ∧ (∀ j, j ≠ 2 → Y.1 j = X.1 j) ∧ ∀ x, x < 845 → Y.1 2 x = if x < 371 then X.1 3 x else 0 := by
  refine loop1 (fun m i (Y : XM) => f_X11_bank_118 N m i Y) (fun i Y => Y.2 = X.2 ∧ (∀ j, j ≠ 2 → Y.1 j = X.1 j) ∧ ∀ x, x < i → Y.1 2 x = if x < 371 then X.1 3 x else 0) (fun y => ∃ Y, y = f_X11_bank_156 N N 0 Y ∧ Y.2 = X.2 ∧ (∀ j, j ≠ 2 → Y.1 j = X.1 j) ∧ ∀ x, x < 845 → Y.1 2 x = if x < 371 then X.1 3 x else 0) 845 ?_ ?_ 845 0 N X (by omega) (by omega) ⟨rfl, fun _ _ => rfl, fun x hx => absurd hx (Nat.not_lt_zero _)⟩
  · rintro m i Y hi ⟨y1, y2, y3⟩
    left
    refine ⟨stX Y 2 i (if i < 371 then X.1 3 i else 0), ?_, y1, fun j hj => (stX_row hj).trans (y2 j hj), fun x hx => ?_⟩
    · rw [f_X11_bank_118, f_X11_bank_147]
      simp (disch := omega) only [le_ln, if_neg, sxA_nI, nI_al]
      by_cases e : i < 371
      · rw [if_neg (by omega), ldA_nI (by omega) (by omega), f_X11_bank_147, sxA_nI (by omega) (by omega), if_pos e, y2 3 (by omega), nI_al]
      · rw [if_pos (by show 371 ≤ i; omega), if_neg e]
    · rw [stX_if]
      by_cases e : x = i
      · rw [if_pos e, e]
      · rw [if_neg e]
        exact y3 x (by omega)
  · rintro m Y ⟨y1, y2, y3⟩
    refine ⟨Y, ?_, y1, y2, y3⟩
    try dsimp only
    rw [f_X11_bank_118, if_pos (by decide)]
theorem bank156 {X : XM} (hN : 2000 ≤ N) : ∃ Y, f_X11_bank_156 N N 0 X = cal (f_X11_begins N Y) (fun _ X3 => bnd (stX X3 0 33 0) (fun X4 => (rt (X4.1 0 19) X4))) ∧ Y.1 = X.1 ∧ (∀ j x, ¬ (j = 5 ∧ x < 8) → Y.2 j x = X.2 j x) ∧ ∀ x, x < 8 → Y.2 5 x = X.2 5 (8 + x) := by
  refine loop1 (fun m i (Y : XM) => f_X11_bank_156 N m i Y) (fun i Y => Y.1 = X.1 ∧ (∀ j x, ¬ (j = 5 ∧ x < 8) → Y.2 j x = X.2 j x) ∧ ∀ x, x < i → Y.2 5 x = X.2 5 (8 + x)) (fun y => ∃ Y, y = cal (f_X11_begins N Y) (fun _ X3 => bnd (stX X3 0 33 0) (fun X4 => (rt (X4.1 0 19) X4))) ∧ Y.1 = X.1 ∧ (∀ j x, ¬ (j = 5 ∧ x < 8) → Y.2 j x = X.2 j x) ∧ ∀ x, x < 8 → Y.2 5 x = X.2 5 (8 + x)) 8 ?_ ?_ 8 0 N X (by omega) (by omega) ⟨rfl, fun _ _ _ => rfl, fun x hx => absurd hx (Nat.not_lt_zero _)⟩
  · rintro m i Y hi ⟨y1, y2, y3⟩
    left
    refine ⟨stL Y 5 i (X.2 5 (8 + i)), ?_, y1, fun j x h => (stL_f (by omega)).trans (y2 j x h), fun x hx => ?_⟩
    · rw [f_X11_bank_156]
      simp (disch := omega) only [le_ln, if_neg, ldL_nI, slA_nI, nI_al, nI_la]
      rw [y2 5 (8 + i) (by omega)]
    · by_cases e : x = i
      · subst e
        exact stL_at
      · rw [stL_f (by omega)]
        exact y3 x (by omega)
  · rintro m Y ⟨y1, y2, y3⟩
    refine ⟨Y, ?_, y1, y2, y3⟩
    try dsimp only
    rw [f_X11_bank_156, if_pos (by decide)]
theorem bank_of_hb {B B' : Nat → Nat → Int32} {s F : Nat → Int32} {M : Nat → Int64} {W H V T : Nat} (h : HbR B s F M W H V T) (hB : ∀ j x, j ≠ 15 → B' j x = B j x) (ho : (∀ a b, a < V → b < V → rkS (B 10) V a = rkS (B 10) V b → a = b) → ∀ a, a < V → rkS (B 10) V a < 8 → B' 15 (rkS (B 10) V a) = nI a) : BankR B' s (W, H, V, T) := by
  obtain ⟨z_bd, z_w, z_h, z_o, z_t, z_yd, z_ln, z_g, z_rn, z_re, z_vb, z_ed, z_hm, z_gd, z_sh, z_sk, z_vn, z_pc, z_pl, z_tr, z_ey, z_gu, z_fe, z_th, z_nm⟩ := h
  have eB : ∀ j, j ≠ 15 → B' j = B j := fun j hj => funext fun x => hB j x hj
  obtain ⟨v, hv⟩ := Classical.skolem.mp (show ∀ k, ∃ v, k < V → (v ≤ 99 ∧ B 10 k = nI v ∧ s (23 + k) = nI v) from fun k => by
    by_cases hk : k < V
    · obtain ⟨v, v1, v2, v3, v4⟩ := z_sh k hk
      exact ⟨v, fun _ => ⟨v2, v3, v4⟩⟩
    · exact ⟨0, fun q => absurd q hk⟩)
  obtain ⟨r1, r2, r3⟩ := rk_ord (sh := B 10) (v := v) (V := V) (fun k hk => ⟨(hv k hk).1, (hv k hk).2.1⟩)
  obtain ⟨od, hod⟩ := Classical.skolem.mp (show ∀ i, ∃ a, i < V → (a < V ∧ rkS (B 10) V a = i) from fun i => by
    by_cases hi : i < V
    · obtain ⟨a, a1, a2⟩ := pigeon V (rkS (B 10) V) r1 r3 i hi
      exact ⟨a, fun _ => ⟨a1, a2⟩⟩
    · exact ⟨0, fun q => absurd q hi⟩)
  have ho' := ho r3
  unfold BankR
  rw [eB 0 (by omega), eB 1 (by omega), eB 2 (by omega), eB 3 (by omega), eB 4 (by omega), eB 5 (by omega), eB 6 (by omega), eB 8 (by omega), eB 9 (by omega), eB 10 (by omega), eB 11 (by omega), eB 12 (by omega), eB 13 (by omega), eB 14 (by omega)]
  refine ⟨z_bd, z_w, z_h, z_o, z_t, ⟨?_, z_re⟩, ?_, z_hm, z_gd, z_sh, z_sk, z_vn, fun k hk => ?_, fun k hk => ?_, z_tr, z_ey, z_gu, ?_, z_th, od, fun i hi => ?_, fun k hk => ?_, fun i j hij hj => ?_⟩
  · obtain ⟨g, g1, g2, g3⟩ := z_g
    exact g2.trans g3.symm
  · rcases z_rn with ⟨q, -⟩ | ⟨q, -⟩
    · rw [q]; rfl
    · rw [q]; rfl
  · have hk : k < V := hk
    obtain ⟨u, u1, u2, u3, u4⟩ := z_pc k (by omega)
    exact ⟨u, u1, u2, u3⟩
  · have hk : k < V := hk
    obtain ⟨u, u1, u2, u3, u4⟩ := z_pl k (by omega)
    exact ⟨u, u1, u2, u3⟩
  · obtain ⟨fe, f1, f2, f3, f4⟩ := z_fe
    exact ⟨fe, f1, f2, f3⟩
  · have hi : i < V := hi
    obtain ⟨q1, q2⟩ := hod i hi
    refine ⟨q1, ?_⟩
    have := ho' (od i) q1 (by omega)
    rw [q2] at this
    exact this
  · have hk : k < V := hk
    obtain ⟨q1, q2⟩ := hod (rkS (B 10) V k) (r1 k hk)
    exact ⟨rkS (B 10) V k, r1 k hk, r3 _ _ q1 hk q2⟩
  · have hj : j < V := hj
    obtain ⟨q1, q2⟩ := hod i (by omega)
    obtain ⟨q3, q4⟩ := hod j hj
    have w1 := hv (od i) q1
    have w2 := hv (od j) q3
    rw [w1.2.2, w2.2.2]
    simp (disch := omega) only [lt_nn, eq_nn]
    have m1 := r2 (od j) (od i) q3 q1
    by_cases e : od i = od j
    · rw [e] at q2
      omega
    · omega
end BK1
