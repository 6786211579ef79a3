/-! worth. -/
theorem by_and : ∀ u, u < 256 → byV u &&& 255 = nI u := by decide +kernel
theorem byV_lo {u : Nat} (h : u < 128) : byV u = nI u := by
  unfold byV
  rw [if_pos h]
theorem byV_neg : ∀ u, u < 256 → 128 ≤ u → byV u ≤ -1 := by decide +kernel
theorem byV_neg0 {u : Nat} (h1 : u < 256) (h2 : 128 ≤ u) : byV u < 0 := by
  have h := byV_neg u h1 h2
  rw [Int32.le_iff_toInt_le] at h
  rw [Int32.lt_iff_toInt_lt]
  have e1 : (-1 : Int32).toInt = -1 := by decide
  have e0 : (0 : Int32).toInt = 0 := by decide
  omega
section WOR
variable {N : Nat}
theorem taken_rel {C : CM} {X : XM} (a : Int32) (hR : Rel N C X) : ∃ L X1, L ≤ 940 ∧ C.1 0 0 0 1 = nI L ∧ f_X11_taken a X = some (0, X1) ∧ Rel N (stC C 0 0 0 1 0) X1 ∧ X1.1 0 3 = nI L ∧ X1.1 0 2 = 0 ∧ X1.1 0 4 = 0 ∧ X1.1 0 5 = a ∧ (∀ x, x ≠ 2 → x ≠ 3 → x ≠ 4 → x ≠ 5 → X1.1 0 x = X.1 0 x) ∧ (∀ j, j ≠ 0 → X1.1 j = X.1 j) ∧ X1.2 = X.2 ∧ ∃ u : Nat → Nat, ∀ x, x < 940 → u x < 256 ∧ C.1 0 0 1 x = byV (u x) ∧ X.1 1 x = byV (u x) := by
  obtain ⟨-, ⟨L, hL, l1, l2, l3⟩, -, -, -, hm, hp, hj, hf, -⟩ := id hR
  have e2 : X.1 0 2 = nI L := l2
  refine ⟨L, stX (stX (stX (stX X 0 3 (nI L)) 0 2 0) 0 4 0) 0 5 a, hL, l1, ?_, ?_, ?_, ?_, ?_, stX_at, ?_, ?_, rfl, ?_⟩
  · unfold f_X11_taken
    simp only [bnd_v, e2, rt]
  · refine rel_upd hR (same_st0 C) ((same_stX X (by omega)).trans ((same_stX _ (by omega)).trans ((same_stX _ (by omega)).trans (same_stX _ (by omega))))) ⟨0, by omega, stC_at, ?_, fun x hx => ?_⟩ ?_ ?_ ?_ ?_
    · rw [stX_ne (by omega), stX_ne (by omega), stX_at]
      rfl
    · rw [stC_row (by omega), stX_row (by omega), stX_row (by omega), stX_row (by omega), stX_row (by omega)]
      exact l3 x hx
    · unfold MoreR
      simp (disch := omega) only [stC_ne, stX_ne]
      exact hm
    · unfold PairR
      simp (disch := omega) only [stC_ne, stC_row, stX_ne, stX_row]
      exact hp
    · unfold JudR
      simp (disch := omega) only [stC_row, stX_ne, stX_row]
      exact hj
    · simp (disch := omega) only [stC_ne, stX_ne]
      exact hf
  · rw [stX_ne (by omega), stX_ne (by omega), stX_ne (by omega), stX_at]
  · rw [stX_ne (by omega), stX_ne (by omega), stX_at]
  · rw [stX_ne (by omega), stX_at]
  · intro x h2 h3 h4 h5
    rw [stX_ne h5, stX_ne h4, stX_ne h2, stX_ne h3]
  · intro j hj
    rw [stX_row hj, stX_row hj, stX_row hj, stX_row hj]
  · refine ⟨fun x => (X.1 1 x &&& 255).toNatClampNeg, fun x hx => ?_⟩
    obtain ⟨u, hu, h1, h2⟩ := l3 x hx
    have e : (X.1 1 x &&& 255).toNatClampNeg = u := by rw [h2, by_and u hu, nI_clamp (by omega)]
    dsimp only
    rw [e]
    exact ⟨hu, h1, h2⟩
theorem octet_eq {Y : XM} {u x : Nat} (hx : x < 940) (hu : u < 256) (h : Y.1 1 x = byV u) : f_X11_octet (nI x) Y = some (nI u, Y) := by
  unfold f_X11_octet
  rw [ldA_nI hx (by omega), h, by_and u hu]
  rfl
/-- the row of forecasts behind j pairs -/
def FcR (u : Nat → Nat) (j : Nat) (row : Nat → Int32) : Prop := (∀ a, a < j → u (2 * a) < 48 ∧ u (2 * a + 1) ≤ 7 ∧ row (u (2 * a)) = nI (u (2 * a + 1))) ∧ (∀ a c, a < c → c < j → u (2 * a) < u (2 * c)) ∧ ∀ q, q < 48 → (∀ a, a < j → u (2 * a) ≠ q) → row q = -1
theorem chk_rel {u : Nat → Nat} {p o : Nat} {X : XM} {C0 : CM} (hN : 2000 ≤ N) (hp : p ≤ 24) (hX : X.1 0 3 = nI (2 * p)) (hu : ∀ x, x < 940 → u x < 256 ∧ X.1 1 x = byV (u x)) : ∀ (d j fu fu' : Nat) (bf : Int32) (C : CM), j + d = p → d < fu → d < fu' → C.2 = C0.2 → (∀ k i j x, ¬ (k = 0 ∧ i = 0 ∧ j = 4) → C.1 k i j x = C0.1 k i j x) → (∀ x, x < 940 → C0.1 0 0 1 x = byV (u x)) → FcR u j (C.1 0 0 4) → ((j = 0 ∧ bf = -1) ∨ (1 ≤ j ∧ bf = nI (u (2 * (j - 1))))) →
    (∃ C', f_X10_readForecast_44 N (nI (2 * p)) fu bf (nI (2 * j)) C = some (0, C') ∧ f_X11_worth_50 N (nI o) fu' (nI (2 * j)) X = some (-10001, X) ∧ C'.2 = C0.2 ∧ ∀ k i j x, ¬ (k = 0 ∧ i = 0 ∧ j = 4) → C'.1 k i j x = C0.1 k i j x) ∨
    (∃ C', f_X10_readForecast_44 N (nI (2 * p)) fu bf (nI (2 * j)) C = some (1, C') ∧ f_X11_worth_50 N (nI o) fu' (nI (2 * j)) X = cal (f_X11_tries N X) (fun _ X3 => cal (f_X11_atLast N (nI o) X3) (fun v4 X5 => cal (f_X11_back N X5) (fun _ X7 => (f_X11_worth_123 N (nI o) v4 N X7)))) ∧ C'.2 = C0.2 ∧ (∀ k i j x, ¬ (k = 0 ∧ i = 0 ∧ j = 4) → C'.1 k i j x = C0.1 k i j x) ∧ FcR u p (C'.1 0 0 4)) := by
  intro d
  induction d with
  | zero =>
    intro j fu fu' bf C hj hf hf' h2 hfr ht hF hb
    obtain ⟨m, rfl⟩ : ∃ m, fu = m + 1 := ⟨fu - 1, by omega⟩
    obtain ⟨m', rfl⟩ : ∃ m', fu' = m' + 1 := ⟨fu' - 1, by omega⟩
    have : j = p := by omega
    subst this
    refine Or.inr ⟨C, ?_, ?_, h2, hfr, hF⟩
    · simp (disch := omega) only [f_X10_readForecast_44, nI_al, le_nn, if_pos, rt]
    · simp (disch := omega) only [f_X11_worth_50, hX, le_nn, if_pos]
  | succ d ih =>
    intro j fu fu' bf C hj hf hf' h2 hfr ht hF hb
    obtain ⟨m, rfl⟩ : ∃ m, fu = m + 1 := ⟨fu - 1, by omega⟩
    obtain ⟨m', rfl⟩ : ∃ m', fu' = m' + 1 := ⟨fu' - 1, by omega⟩
    obtain ⟨u0, x0⟩ := hu (2 * j) (by omega)
    obtain ⟨u1, x1⟩ := hu (2 * j + 1) (by omega)
    have c0 : C.1 0 0 1 (2 * j) = byV (u (2 * j)) := (hfr 0 0 1 _ (by omega)).trans (ht _ (by omega))
    have c1 : C.1 0 0 1 (2 * j + 1) = byV (u (2 * j + 1)) := (hfr 0 0 1 _ (by omega)).trans (ht _ (by omega))
    have o0 := octet_eq (Y := X) (by omega) u0 x0
    have o1 := octet_eq (Y := X) (by omega) u1 x1
    rw [f_X10_readForecast_44, f_X11_worth_50]
    simp (disch := omega) only [nI_al, le_nn, if_neg, ldA_nI, c0, c1, hX, o0, o1, cal_some, lt_ln]
    by_cases h48 : 47 < u (2 * j)
    · rw [if_pos h48]
      refine Or.inl ⟨C, ?_, rfl, h2, hfr⟩
      by_cases h128 : u (2 * j) < 128
      · rw [byV_lo h128]
        split
        · rfl
        · rw [if_pos (by simp (disch := omega) only [le_ln]; omega)]
          rfl
      · have hn := byV_neg _ u0 (by omega)
        rw [if_pos]
        · rfl
        · rcases hb with ⟨-, rfl⟩ | ⟨-, rfl⟩
          · exact hn
          · refine Int32.le_trans hn ?_
            have := nI_pos' (n := u (2 * (j - 1))) (by
              have := (hu (2 * (j - 1)) (by omega)).1
              omega)
            exact Int32.le_trans (by decide) this
    rw [if_neg h48, byV_lo (show u (2 * j) < 128 by omega)]
    have hc48 : ¬ ((48 : Int32) ≤ nI (u (2 * j))) := by simp (disch := omega) only [le_ln]; omega
    by_cases h7 : 7 < u (2 * j + 1)
    · rw [if_pos h7]
      refine Or.inl ⟨C, ?_, rfl, h2, hfr⟩
      rw [if_neg hc48]
      have e : (if byV (u (2 * j + 1)) < 0 then rt 0 C else if byV (u (2 * j + 1)) < 8 then stA C 0 0 4 48 (nI (u (2 * j))) (byV (u (2 * j + 1))) (fun C8 => f_X10_readForecast_44 N (nI (2 * p)) m (nI (u (2 * j))) (nI (2 * j + 2)) C8) else rt 0 C) = some (0, C) := by
        by_cases h128 : u (2 * j + 1) < 128
        · rw [byV_lo h128, if_neg (nI_nneg (by omega)), if_neg (by simp (disch := omega) only [lt_nl]; omega)]
          rfl
        · rw [if_pos (byV_neg0 u1 (by omega))]
          rfl
      rw [e]
      split <;> rfl
    rw [if_neg h7, byV_lo (show u (2 * j + 1) < 128 by omega), if_neg hc48, if_neg (nI_nneg (show u (2 * j + 1) < 2147483648 by omega)), if_pos (show nI (u (2 * j + 1)) < (8 : Int32) by simp (disch := omega) only [lt_nl]; omega)]
    simp (disch := omega) only [stA_nI]
    -- the pair is in order, or both refuse it
    have hord : (1 ≤ j ∧ u (2 * j) ≤ u (2 * (j - 1))) ∨ (∀ a, a < j → u (2 * a) < u (2 * j)) := by
      by_cases hj0 : j = 0
      · exact Or.inr (fun a ha => by omega)
      · by_cases hle : u (2 * j) ≤ u (2 * (j - 1))
        · exact Or.inl ⟨by omega, hle⟩
        · refine Or.inr (fun a ha => ?_)
          by_cases e : a = j - 1
          · rw [e]; omega
          · have := hF.2.1 a (j - 1) (by omega) (by omega)
            omega
    rcases hord with ⟨hj1, hle⟩ | hlt
    · have hbf : bf = nI (u (2 * (j - 1))) := by
        rcases hb with ⟨h, -⟩ | ⟨-, h⟩
        · omega
        · exact h
      have hprev := hF.1 (j - 1) (by omega)
      have o2 := octet_eq (Y := X) (u := u (2 * (j - 1))) (x := 2 * j - 2) (by omega) (by omega) (by rw [show 2 * j - 2 = 2 * (j - 1) by omega]; exact (hu _ (by omega)).2)
      refine Or.inl ⟨C, ?_, ?_, h2, hfr⟩
      · rw [hbf, if_pos (by simp (disch := omega) only [le_nn]; exact hle)]
        rfl
      · rw [nI_sl (n := 2) (show 2 ≤ 2 * j by omega)]
        simp (disch := omega) only [le_nl, if_neg, o2, cal_some, lt_nn]
        rfl
    · have hstepX : (if nI (2 * j) ≤ 0 then f_X11_worth_50 N (nI o) m' (nI (2 * j + 2)) X else cal (f_X11_octet (nI (2 * j) - 2) X) (fun v17 X18 => (if v17 < nI (u (2 * j)) then (f_X11_worth_50 N (nI o) m' (nI (2 * j + 2)) X18) else (rt (-10001) X18)))) = f_X11_worth_50 N (nI o) m' (nI (2 * (j + 1))) X := by
        by_cases hj0 : j = 0
        · subst hj0
          rw [if_pos (by decide)]
        · have hprev := hF.1 (j - 1) (by omega)
          have hl := hlt (j - 1) (by omega)
          have o2 := octet_eq (Y := X) (u := u (2 * (j - 1))) (x := 2 * j - 2) (by omega) (by omega) (by rw [show 2 * j - 2 = 2 * (j - 1) by omega]; exact (hu _ (by omega)).2)
          rw [nI_sl (n := 2) (show 2 ≤ 2 * j by omega)]
          simp (disch := omega) only [le_nl, if_neg, o2, cal_some, lt_nn, if_pos]
          rfl
      have hbfle : ¬ (nI (u (2 * j)) ≤ bf) := by
        rcases hb with ⟨-, rfl⟩ | ⟨h1, rfl⟩
        · intro h
          have := Int32.lt_of_le_of_lt h (show (-1 : Int32) < 0 by decide)
          exact nI_nneg (by omega) this
        · have := hlt (j - 1) (by omega)
          simp (disch := omega) only [le_nn]
          omega
      rw [if_neg hbfle, hstepX]
      have := ih (j + 1) m m' (nI (u (2 * j))) (stC C 0 0 4 (u (2 * j)) (nI (u (2 * j + 1)))) (by omega) (by omega) (by omega) h2 (fun k i j' x hn => by
        simp only [stC]
        rw [if_neg (by omega)]
        exact hfr k i j' x hn) ht ⟨fun a ha => ?_, fun a c hac hc => ?_, fun q hq hne => ?_⟩ (Or.inr ⟨by omega, by rw [show j + 1 - 1 = j by omega]⟩)
      · rw [show 2 * (j + 1) = 2 * j + 2 by omega] at this
        rw [show 2 * (j + 1) = 2 * j + 2 by omega]
        exact this
      · rw [stC_if]
        by_cases e : a = j
        · subst e
          rw [if_pos rfl]
          exact ⟨by omega, by omega, rfl⟩
        · have hl := hlt a (by omega)
          rw [if_neg (by omega)]
          exact hF.1 a (by omega)
      · by_cases e : c = j
        · subst e
          exact hlt a (by omega)
        · exact hF.2.1 a c hac (by omega)
      · rw [stC_if, if_neg (fun e => hne j (by omega) e.symm)]
        exact hF.2.2 q hq (fun a ha => hne a (by omega))
theorem fc_clear (C : CM) (a : Int32) (hN : 2000 ≤ N) : ∃ C1, f_X10_readForecast_21 N a N 0 C = f_X10_readForecast_44 N a N (-1) 0 C1 ∧ C1.2 = C.2 ∧ (∀ k i j x, ¬ (k = 0 ∧ i = 0 ∧ j = 4) → C1.1 k i j x = C.1 k i j x) ∧ ∀ q, q < 48 → C1.1 0 0 4 q = -1 := by
  refine loop1 (fun m i D => f_X10_readForecast_21 N a m i D) (fun k D => D.2 = C.2 ∧ (∀ k i j x, ¬ (k = 0 ∧ i = 0 ∧ j = 4) → D.1 k i j x = C.1 k i j x) ∧ ∀ q, q < k → D.1 0 0 4 q = -1)
    (fun y => ∃ C1, y = f_X10_readForecast_44 N a N (-1) 0 C1 ∧ C1.2 = C.2 ∧ (∀ k i j x, ¬ (k = 0 ∧ i = 0 ∧ j = 4) → C1.1 k i j x = C.1 k i j x) ∧ ∀ q, q < 48 → C1.1 0 0 4 q = -1) 48 ?_ ?_ 48 0 N C (by omega) (by omega) ⟨rfl, fun _ _ _ _ _ => rfl, fun q h => by omega⟩
  · rintro m k D hk ⟨h1, h2, h3⟩
    refine Or.inl ⟨stC D 0 0 4 k (-1), ?_, h1, fun k' i j x hn => ?_, fun q hq => ?_⟩
    · simp (disch := omega) only [f_X10_readForecast_21, le_ln, if_neg, stA_nI, nI_al]
    · simp only [stC]
      rw [if_neg (by omega)]
      exact h2 k' i j x hn
    · rw [stC_if]
      by_cases e : q = k
      · rw [if_pos e]
      · rw [if_neg e]
        exact h3 q (by omega)
  · rintro m D ⟨h1, h2, h3⟩
    refine ⟨D, ?_, h1, h2, h3⟩
    simp (disch := omega) only [f_X10_readForecast_21, le_ln, if_pos]
/-- a vane pointed by hand in the state of trial -/
theorem tq_pt {n : BN} {b : Nat} {B : Nat → Nat → Int32} {g q o d : Nat} {D : CM} {Y : XM} (h : TQ n b B g q D Y) (ho : o < n.2.2.1) (hd : d ≤ 7) : TQ n b B g q (stC D 4 3 4 o (nI d)) (stX Y 2 (397 + o) (nI d)) ∧ FT 3 D (stC D 4 3 4 o (nI d)) ∧ FY Y (stX Y 2 (397 + o) (nI d)) := by
  obtain ⟨hB, hT, hW, h2, h3, h4⟩ := h
  have bd := bk_bd hB
  have hcO := bk_cnt hB
  have w := wi_pair (j := 4) (o := o) (y := 397 + o) (v := nI d) hW (by omega) (by omega) (by omega) (by omega)
  refine ⟨tq_re hB hT ⟨w, ?_, ?_, ?_⟩, ft_st (FT.rf D) (by omega), fy_st (FY.rf Y) (by omega)⟩
  · intro o' ho'
    obtain ⟨r1, r2, r3, r4⟩ := h2 o' ho'
    rw [stC_row (j' := 1) (by omega), stC_row (j' := 3) (by omega), stC_row (j' := 5) (by omega), stC_if]
    refine ⟨r1, r2, ?_, r4⟩
    by_cases e : o' = o
    · rw [if_pos e]
      exact ⟨d, hd, rfl⟩
    · rw [if_neg e]
      exact r3
  · rw [stC_row (by omega)]
    exact h3
  · obtain ⟨l, l1, l2, l3⟩ := h4
    refine ⟨l, l1, ?_, ?_⟩
    · rw [stX_ne (by omega)]
      exact l2
    · rw [stC_row (by omega)]
      exact l3
theorem w138_eq {u : Nat → Nat} {p o k : Nat} {K : XM → Option (Int32 × XM)} {w : Int32} {Y : XM} {row : Nat → Int32} (hN : 2000 ≤ N) (hp : p ≤ 24) (ho : o < 8) (hY3 : Y.1 0 3 = nI (2 * p)) (hu : ∀ x, x < 940 → u x < 256 ∧ Y.1 1 x = byV (u x)) (hF : FcR u p row) (hk : k < 48) (hq : Y.1 2 371 = nI k) : f_X11_worth_138 N K (nI o) w N 0 Y = cal (f_X11_quarter N (if row k = -1 then Y else stX Y 2 (397 + o) (row k))) (fun _ X3 => K X3) := by
  have key : ∀ (d j fu : Nat) (Z : XM), j + d = p → d < fu → ((∀ a, a < j → u (2 * a) ≠ k) ∧ Z = Y ∨ ∃ a, a < j ∧ u (2 * a) = k ∧ Z = stX Y 2 (397 + o) (nI (u (2 * a + 1)))) → f_X11_worth_138 N K (nI o) w fu (nI (2 * j)) Z = cal (f_X11_quarter N (if row k = -1 then Y else stX Y 2 (397 + o) (row k))) (fun _ X3 => K X3) := by
    intro d
    induction d with
    | zero =>
      intro j fu Z hj hf hZ
      obtain ⟨m, rfl⟩ : ∃ m, fu = m + 1 := ⟨fu - 1, by omega⟩
      have : j = p := by omega
      subst this
      have z3 : Z.1 0 3 = nI (2 * j) := by
        rcases hZ with ⟨-, rfl⟩ | ⟨a, -, -, rfl⟩
        · exact hY3
        · rw [stX_row (by omega)]
          exact hY3
      rw [f_X11_worth_138, z3, if_pos (by simp (disch := omega) only [le_nn]; omega)]
      rcases hZ with ⟨h, rfl⟩ | ⟨a, ha, hak, rfl⟩
      · rw [if_pos (hF.2.2 k hk h)]
      · have := hF.1 a ha
        rw [hak] at this
        rw [this.2.2, if_neg (fun e => nI_nneg (show u (2 * a + 1) < 2147483648 by omega) (by rw [e]; decide))]
    | succ d ih =>
      intro j fu Z hj hf hZ
      obtain ⟨m, rfl⟩ : ∃ m, fu = m + 1 := ⟨fu - 1, by omega⟩
      have z3 : Z.1 0 3 = nI (2 * p) := by
        rcases hZ with ⟨-, rfl⟩ | ⟨a, -, -, rfl⟩
        · exact hY3
        · rw [stX_row (by omega)]
          exact hY3
      have z1 : Z.1 1 = Y.1 1 := by
        rcases hZ with ⟨-, rfl⟩ | ⟨a, -, -, rfl⟩
        · rfl
        · exact stX_row (by omega)
      have zq : Z.1 2 371 = nI k := by
        rcases hZ with ⟨-, rfl⟩ | ⟨a, -, -, rfl⟩
        · exact hq
        · rw [stX_ne (by omega)]
          exact hq
      obtain ⟨u0, x0⟩ := hu (2 * j) (by omega)
      obtain ⟨u1, x1⟩ := hu (2 * j + 1) (by omega)
      have o0 := octet_eq (Y := Z) (x := 2 * j) (by omega) u0 (by rw [z1]; exact x0)
      have o1 := octet_eq (Y := Z) (x := 2 * j + 1) (by omega) u1 (by rw [z1]; exact x1)
      rw [f_X11_worth_138, z3]
      simp (disch := omega) only [le_nn, if_neg, o0, cal_some, ldA_l, zq, eq_nn, nI_al, o1, nI_la, sxA_nI]
      have e2 : 2 * j + 2 = 2 * (j + 1) := by omega
      rw [e2]
      by_cases hjk : u (2 * j) = k
      · rw [if_pos hjk]
        refine ih (j + 1) m _ (by omega) (by omega) (Or.inr ⟨j, by omega, hjk, ?_⟩)
        rcases hZ with ⟨-, rfl⟩ | ⟨a, ha, hak, rfl⟩
        · rfl
        · rw [stX_stX]
      · rw [if_neg hjk]
        refine ih (j + 1) m Z (by omega) (by omega) ?_
        rcases hZ with ⟨h, rfl⟩ | ⟨a, ha, hak, rfl⟩
        · refine Or.inl ⟨fun a ha => ?_, rfl⟩
          by_cases e : a = j
          · rw [e]; exact hjk
          · exact h a (by omega)
        · exact Or.inr ⟨a, by omega, hak, rfl⟩
  exact key p 0 N Y (by omega) (by omega) (Or.inl ⟨fun a ha => by omega, rfl⟩)
theorem we_relF {n : BN} {o : Nat} {C D : CM} {X Y : XM} (hN : 2000 ≤ N) (hH : HereR C X n) (hb : C.2 2 0 1 < 4) (ho : o < 8) (hD : FT 3 C D) (hY : Y.1 2 = X.1 2) : ∃ v D' Y', f_X10_wealthAtEnd N (nI o) D = some (v, D') ∧ f_X11_atLast N (nI o) Y = some (v, Y') ∧ FT 3 C D' ∧ FY Y Y' := by
  obtain ⟨q, D1, hq, q1, e1, f1, t1, -, -⟩ := tq_start (hb_of hH) hD hY
  obtain ⟨v, j, D', Y', a1, a2, a3, a4, a5⟩ := atLast_rel hN (by omega) hq ho t1
  refine ⟨v, D', Y', ?_, a3, f1.trans a4, a5⟩
  unfold f_X10_wealthAtEnd
  rw [e1, cal_some, f1.1, ldR_lt hb, a1, cal_some, a2, cal_some]
  rfl
theorem op_worth (hN : 2000 ≤ N) (b1 : Int32) : OP (Rel N) (f_X10_worth N b1) (f_X11_worth N b1) := by
  intro C X hR
  have hR0 := rel_xe hR (xe_0 X 0)
  unfold f_X10_worth f_X11_worth
  simp only [bnd_v]
  generalize stX X 0 0 0 = X0 at hR0 ⊢
  obtain ⟨L, X1, hL, l1, t1, hR1, x3, x2, x4, x5, xf, xr, xn, u, hu⟩ := taken_rel 940 hR0
  rw [t1, cal_some, l1]
  have c01 : ∀ x, (stC C 0 0 0 1 0).1 0 0 1 x = C.1 0 0 1 x := fun x => by rw [stC_row (by omega)]
  generalize stC C 0 0 0 1 0 = C1 at hR1 c01
  obtain ⟨⟨n, hH, -⟩, -, -, hRs⟩ := id hR1
  have hb := (b_lt hRs.1).1
  have bd := bk_bd hH.1
  rw [ldR_lt hb]
  have huX : ∀ x, x < 940 → u x < 256 ∧ X1.1 1 x = byV (u x) := fun x hx => ⟨(hu x hx).1, by rw [xr 1 (by omega)]; exact (hu x hx).2.2⟩
  rcases isOwner_rel hH.1 rfl b1 with ⟨o, ho, rfl, e1, e2⟩ | ⟨e1, e2⟩
  rotate_left
  · rw [e1, e2]
    exact ⟨_, _, _, rfl, rfl, hR1⟩
  rw [e1, e2, cal_some, cal_some, if_neg i1n, if_neg i1n, x3]
  unfold f_X10_readForecast
  simp (disch := omega) only [lt_nl, lt_ln, nI_dl, nI_r21, eq_nl, isIn_eq, cal_some]
  by_cases hodd : L % 2 = 0
  rotate_left
  · rw [if_neg hodd, if_neg hodd, ite_self, ite_self]
    exact ⟨_, _, _, rfl, rfl, hR1⟩
  rw [if_pos hodd, if_pos hodd]
  by_cases h2 : L < 2
  · rw [if_pos h2, if_pos (show L / 2 < 1 by omega), if_pos rfl]
    exact ⟨_, _, _, rfl, rfl, hR1⟩
  rw [if_neg h2, if_neg (show ¬ L / 2 < 1 by omega)]
  by_cases h48 : 48 < L
  · rw [if_pos h48, if_pos (show 24 < L / 2 by omega), if_pos rfl]
    exact ⟨_, _, _, rfl, rfl, hR1⟩
  rw [if_neg h48, if_neg (show ¬ 24 < L / 2 by omega), if_neg i1n]
  obtain ⟨p, rfl⟩ : ∃ p, L = 2 * p := ⟨L / 2, by omega⟩
  obtain ⟨C2, f1, f2, f3, f4⟩ := fc_clear C1 (nI (2 * p)) hN
  have hch := chk_rel (o := o) (C0 := C1) hN (show p ≤ 24 by omega) x3 huX p 0 N N (-1) C2 (by omega) (by omega) (by omega) f2 f3 (fun x hx => (c01 x).trans (hu x hx).2.1) ⟨fun a ha => by omega, fun a c _ hc => by omega, fun q hq _ => f4 q hq⟩ (Or.inl ⟨rfl, rfl⟩)
  have ceC : ∀ E : CM, E.2 = C1.2 → (∀ k i j x, ¬ (k = 0 ∧ i = 0 ∧ j = 4) → E.1 k i j x = C1.1 k i j x) → CE C1 E := fun E a1 a2 => ⟨a1, fun k i j x hs => a2 k i j x (by rintro ⟨rfl, -, rfl⟩; simp [scrC] at hs)⟩
  rw [f1]
  rcases hch with ⟨C3, g1, g2, g3, g4⟩ | ⟨C3, g1, g2, g3, g4, g5⟩
  · have g1' : f_X10_readForecast_44 N (nI (2 * p)) N (-1) 0 C2 = some (0, C3) := g1
    have g2' : f_X11_worth_50 N (nI o) N 0 X1 = some (-10001, X1) := g2
    rw [g1', g2', cal_some, if_pos rfl]
    exact ⟨_, _, _, rfl, rfl, rel_ce hR1 (ceC C3 g3 g4)⟩
  have g1' : f_X10_readForecast_44 N (nI (2 * p)) N (-1) 0 C2 = some (1, C3) := g1
  have hR3 := rel_ce hR1 (ceC C3 g3 g4)
  rw [g1', cal_some, if_neg i1n]
  refine Exists.elim (⟨_, g2⟩ : ∃ z, f_X11_worth_50 N (nI o) N (nI (2 * 0)) X1 = z) (fun z hz => ?_)
  have g2' : f_X11_worth_50 N (nI o) N 0 X1 = cal (f_X11_tries N X1) (fun _ X3 => cal (f_X11_atLast N (nI o) X3) (fun v4 X5 => cal (f_X11_back N X5) (fun _ X7 => (f_X11_worth_123 N (nI o) v4 N X7)))) := g2
  rw [g2']
  clear hz
  have e3 : ∀ i, C3.1 3 i = C1.1 3 i := fun i => funext fun j => funext fun x => g4 3 i j x (by omega)
  have e5 : ∀ i, C3.1 5 i = C1.1 5 i := fun i => funext fun j => funext fun x => g4 5 i j x (by omega)
  have e6 : ∀ i, C3.1 6 i = C1.1 6 i := fun i => funext fun j => funext fun x => g4 6 i j x (by omega)
  have e4 : C3.1 4 0 = C1.1 4 0 := funext fun j => funext fun x => g4 4 0 j x (by omega)
  have hH3 : HereR C3 X1 n := by
    unfold HereR
    rw [g3, e3, e4, e5, e6]
    exact hH
  have hb3 : C3.2 2 0 1 < 4 := by rw [g3]; exact hb
  obtain ⟨Y, y1, y2, y3⟩ := xb_start N X1 hN
  obtain ⟨v, D1, Y1, w1, w2, w3, w4⟩ := we_relF hN hH3 hb3 (show o < 8 by omega) (FT.rf C3) y3
  obtain ⟨Z, z1, z2, z3, z4, z5⟩ := xb_back hN (xb_fy y2 w4)
  obtain ⟨q, D2, hq, q1, cp, h1, t2, -, -⟩ := tq_start (hb_of hH3) w3 z4
  rw [w1, y1, cal_some, cal_some, w2, cal_some, z1, cal_some, cp, cal_some]
  have hq2 : D2.1 4 0 0 0 = nI q := (h1.2 4 0 0 0 (by omega) (by omega)).trans q1
  have zY3 : Y.1 0 3 = nI (2 * p) := by
    have := tries_eq N X1 hN
    rw [y1] at this
    cases this
    rw [rwX_out (by omega)]
    exact x3
  rw [hq2]
  -- the size of what was told stays
  have hsz : Z.1 0 3 = nI (2 * p) ∧ ∀ x, x < 940 → Z.1 1 x = byV (u x) := by
    refine ⟨?_, fun x hx => by rw [z3.2.2.1 1 rfl (by omega)]; exact (huX x hx).2⟩
    rw [z5, w4.2 0 3 (by omega) (by omega) (by omega) (by omega)]
    exact zY3
  refine loop2 (fun m i D => f_X10_worth_68 N (nI o) v m i D) (fun m i Y => f_X11_worth_123 N (nI o) v m Y)
    (fun k D Y => TQ n (C3.2 2 0 1) (C3.1 3 (C3.2 2 0 1)) 1000 k D Y ∧ FT 3 C3 D ∧ XB X1 Y ∧ Y.1 0 3 = nI (2 * p))
    (fun y z => ∃ r C' X', y = some (r, C') ∧ z = some (r, X') ∧ Rel N C' X') 48 ?_ ?_ (48 - q) q N N D2 Z (by omega) (by omega) (by omega) ⟨t2, h1, z3, hsz.1⟩
  · rintro m m' k D Y hk ⟨t, hD, hXB, hY3⟩
    refine Or.inl ?_
    have hfc : D.1 0 0 4 k = C3.1 0 0 4 k := hD.2 0 0 4 k (by omega) (by omega)
    have x371 : Y.1 2 371 = nI k := (wi_S t.2.2.1).2.2.2.symm.trans t.2.2.2.2.1
    have huY : ∀ x, x < 940 → u x < 256 ∧ Y.1 1 x = byV (u x) := fun x hx => ⟨(hu x hx).1, by rw [hXB.2.2.1 1 rfl (by omega)]; exact (huX x hx).2⟩
    have hw := fun K => w138_eq (K := K) (w := v) (row := C3.1 0 0 4) hN (show p ≤ 24 by omega) (show o < 8 by omega) hY3 huY g5 hk x371
    have stp : ∀ (E : CM) (W : XM), TQ n (C3.2 2 0 1) (C3.1 3 (C3.2 2 0 1)) 1000 k E W → FT 3 C3 E → XB X1 W → W.1 0 3 = nI (2 * p) → ∃ E' W', f_X9_pass N (C3.2 2 0 1) 3 1 E = some (1, E') ∧ f_X11_quarter N W = some (0, W') ∧ TQ n (C3.2 2 0 1) (C3.1 3 (C3.2 2 0 1)) 1000 (k + 1) E' W' ∧ FT 3 C3 E' ∧ XB X1 W' ∧ W'.1 0 3 = nI (2 * p) := by
      intro E W tE hE hW hW3
      obtain ⟨hB, hT, hQ⟩ := tE
      obtain ⟨E', W', a1, a2, a3, -, -⟩ := quarter_rel hN hB hT (by omega) hk hQ
      have fW := fy_of a3.1.2.2.2.2.2
      refine ⟨E', W', ?_, a2, tq_re hB hT a3, hE.trans (ft_of a3.1.2.2.2.2.1), xb_fy hW fW, ?_⟩
      · unfold f_X9_pass
        obtain ⟨m2, hm2⟩ : ∃ m2, N = m2 + 2 := ⟨N - 2, by omega⟩
        have : ∀ m2, f_X9_pass_3 N (C3.2 2 0 1) 3 1 (m2 + 2) 0 E = some (1, E') := fun m2 => by
          rw [a1 (m2 + 1) 0 1 (by decide), f_X9_pass_3, if_pos (by decide)]
          rfl
        rw [hm2] at this ⊢
        exact this m2
      · rw [fW.2 0 3 (by omega) (by omega) (by omega) (by omega)]
        exact hW3
    show ∃ c c', f_X10_worth_68 N (nI o) v (m + 1) (nI k) D = f_X10_worth_68 N (nI o) v m (nI (k + 1)) c ∧ f_X11_worth_123 N (nI o) v (m' + 1) Y = f_X11_worth_123 N (nI o) v m' c' ∧ _
    rw [f_X10_worth_68, f_X11_worth_123]
    simp (disch := omega) only [le_ln, if_neg, ldA_nI, hfc, ldA_l, x371, lt_ln, hw, f_X10_worth_102, nI_al]
    by_cases hn1 : C3.1 0 0 4 k = -1
    · rw [if_pos hn1, if_pos hn1]
      obtain ⟨E', W', a1, a2, a3, a4, a5, a6⟩ := stp D Y t hD hXB hY3
      rw [hD.1, ldR_lt hb3, a1, a2, cal_some, cal_some]
      exact ⟨E', W', rfl, rfl, a3, a4, a5, a6⟩
    · rw [if_neg hn1, if_neg hn1]
      obtain ⟨d, hd, hdk⟩ : ∃ d, d ≤ 7 ∧ C3.1 0 0 4 k = nI d := by
        by_cases hex : ∃ a, a < p ∧ u (2 * a) = k
        · obtain ⟨a, ha, hak⟩ := hex
          have := g5.1 a ha
          rw [hak] at this
          exact ⟨_, this.2.1, this.2.2⟩
        · exact absurd (g5.2.2 k hk (fun a ha e => hex ⟨a, ha, e⟩)) hn1
      rw [hdk]
      obtain ⟨b1, b2, b3⟩ := tq_pt (d := d) t ho hd
      obtain ⟨E', W', a1, a2, a3, a4, a5, a6⟩ := stp _ _ b1 (hD.trans b2) (xb_fy hXB b3) (by rw [stX_row (by omega)]; exact hY3)
      simp (disch := omega) only [stA_nI]
      rw [b2.1, hD.1, ldR_lt hb3, a1, a2, cal_some, cal_some]
      exact ⟨E', W', rfl, rfl, a3, a4, a5, a6⟩
  · rintro m m' D Y ⟨t, hD, hXB, hY3⟩
    have x371 : Y.1 2 371 = nI 48 := (wi_S t.2.2.1).2.2.2.symm.trans t.2.2.2.2.1
    obtain ⟨v', v1, v2⟩ := tq_w t (show o < 8 by omega)
    obtain ⟨Z2, z6, z7, -, -, -⟩ := xb_back hN hXB
    refine ⟨v' - v, D, Z2, ?_, ?_, rel_xe (rel_ce hR3 (ce_ft hD)) z7⟩
    · simp (disch := omega) only [f_X10_worth_68, le_ln, if_pos, v1, cal_some, rt]
    · simp (disch := omega) only [f_X11_worth_123, ldA_l, x371, lt_ln, if_pos, v2, cal_some, z6, rt]
end WOR
