/-! Calls that ask. -/
theorem op_q {N : Nat} {f : CM → Option (Int32 × CM)} {g : XM → Option (Int32 × XM)} (h : ∀ C X, Rel N C X → ∃ r C' X', f C = some (r, C') ∧ g X = some (r, X') ∧ CE C C' ∧ XE X X') : OP (Rel N) f g := by
  intro C X hR
  obtain ⟨r, C', X', h1, h2, h3, h4⟩ := h C X hR
  exact ⟨r, C', X', h1, h2, rel_xe (rel_ce hR h3) h4⟩
theorem xe_0 (X : XM) (v : Int32) : XE X (stX X 0 0 v) := xe_stF rfl
theorem ltm1 {m k : Nat} (hm : m < 1000000) (hk : k < 2147483648) : (nI m - 1 < nI k) = (m ≤ k) := by
  by_cases h0 : m = 0
  · subst h0
    refine propext ⟨fun _ => Nat.zero_le _, fun _ => ?_⟩
    have e : nI 0 - 1 = (-1 : Int32) := by decide
    rw [e, Int32.lt_iff_toInt_lt, nI_toInt (by omega)]
    have : (-1 : Int32).toInt = -1 := by decide
    omega
  · rw [show nI m - 1 = nI (m - 1) from nI_sl (n := 1) (show 1 ≤ m by omega), lt_nn (by omega) hk]
    exact propext ⟨fun h => by omega, fun h => by omega⟩
theorem neg_ne {a : Int32} (h : a < 0) (k : Nat) (hk : k < 2147483648) : a ≠ nI k := fun e => nI_nneg hk (e ▸ h)
section HER
variable {n : BN} {s s' : Nat → Int32} {P : Nat → Nat → Int32}
theorem sh_row (h : StateR n s P (fun x => s' (371 + x))) : ∀ j o, 1 ≤ j → j ≤ 7 → o < 8 → P j o = s' (365 + 8 * j + o) := by
  intro j o h1 h2 h3
  have := h.1.1 j o h1 h2 h3
  dsimp only at this
  rw [show 371 + (8 * j + o - 6) = 365 + 8 * j + o by omega] at this
  exact this
theorem sh_tr (h : StateR n s P (fun x => s' (371 + x))) : P 0 1 = s' 372 := h.1.2.1
theorem sh_ru (h : StateR n s P (fun x => s' (371 + x))) : P 0 5 = s' 542 := h.1.2.2.1
theorem sh_q (h : StateR n s P (fun x => s' (371 + x))) : P 0 0 = s' 371 := h.1.2.2.2
theorem sh_qb (h : StateR n s P (fun x => s' (371 + x))) : ∃ q, q ≤ 48 ∧ P 0 0 = nI q ∧ s' 371 = nI q ∧ Rng (1000 + 100000 * q) P := by
  obtain ⟨q, h1, h2, h3⟩ := h.2.1
  exact ⟨q, h1, h2, (sh_q h).symm.trans h2, h3⟩
theorem sh_lt (h : StateR n s P (fun x => s' (371 + x))) : ∃ l, l ≤ 8 ∧ s' 541 = nI l ∧ P 0 4 = nI l - 1 := h.2.2.1
theorem sh_z (h : StateR n s P (fun x => s' (371 + x))) : ∀ j o, (j = 1 ∨ j = 2) → n.2.2.1 ≤ o → o < 8 → P j o = 0 := h.2.2.2.1
theorem sh_sd (h : StateR n s P (fun x => s' (371 + x))) : ∃ m, m < 4096 ∧ P 0 3 = nI m ∧ ∀ k, k < 12 → s' (429 + k) = nI (m.testBit k).toNat ∧ (n.2.2.2 ≤ k → m.testBit k = false) := by
  obtain ⟨m, h0, h1, h2⟩ := h.2.2.2.2.1
  refine ⟨m, h0, h1, fun k hk => ?_⟩
  have := h2 k hk
  dsimp only at this
  rw [show 371 + (58 + k) = 429 + k by omega] at this
  exact this
theorem sh_fe (h : StateR n s P (fun x => s' (371 + x))) : ∃ fe : Nat → Nat, (∀ c, c < 100 → fe c ≤ 1 ∧ s' (441 + c) = nI (fe c)) ∧ sumN fe 100 ≤ 12 ∧ P 0 2 = nI (sumN fe 100) := by
  obtain ⟨fe, h1, h2, h3⟩ := h.2.2.2.2.2.1
  refine ⟨fe, fun k hk => ?_, h2, h3⟩
  have := h1 k hk
  dsimp only at this
  rw [show 371 + (70 + k) = 441 + k by omega] at this
  exact this
theorem sh_th (h : StateR n s P (fun x => s' (371 + x))) : ThingR n s (fun k => s' (429 + k)) (fun c => s' (441 + c)) (P 8) := by
  have h1 := h.2.2.2.2.2.2
  have e1 : (fun k => (fun x => s' (371 + x)) (58 + k)) = (fun k => s' (429 + k)) := by
    funext k
    show s' (371 + (58 + k)) = s' (429 + k)
    congr 1
    omega
  have e2 : (fun k => (fun x => s' (371 + x)) (70 + k)) = (fun k => s' (441 + k)) := by
    funext k
    show s' (371 + (70 + k)) = s' (441 + k)
    congr 1
    omega
  rw [e1, e2] at h1
  exact h1
end HER
theorem b_lt {C : CM} (h : RefR C) : C.2 2 0 1 < 4 ∧ C.2 2 0 3 < 4 ∧ C.2 2 0 4 < 4 := by
  obtain ⟨h1, h2, h3, -⟩ := h
  omega
section OPA
variable {N : Nat}
theorem op_fault : OP (Rel N) f_X10_fault f_X11_fault := op_q fun C X hR => by
  obtain ⟨-, -, -, -, -, -, -, -, hf, -⟩ := hR
  refine ⟨C.1 0 0 0 3, C, stX X 0 0 0, rfl, ?_, CE.rf C, xe_0 X 0⟩
  unfold f_X11_fault
  rw [bnd_v, stX_ne (by omega), hf]
  rfl
theorem op_more : OP (Rel N) f_X10_more f_X11_more := op_q fun C X hR => by
  obtain ⟨-, -, -, -, -, hm, -⟩ := hR
  refine ⟨C.1 0 0 0 13, C, stX X 0 0 0, rfl, ?_, CE.rf C, xe_0 X 0⟩
  unfold f_X11_more
  rw [bnd_v, stX_ne (by omega), stX_ne (by omega)]
  rcases hm with ⟨h1, h2⟩ | ⟨h1, h2⟩
  · rw [h1, h2, if_pos rfl]
    rfl
  · rw [h1, h2, if_neg (by decide)]
    rfl
theorem op_oiledAt (b1 : Int32) : OP (Rel N) (f_X10_oiledAt b1) (f_X11_oiledAt b1) := op_q fun C X hR => by
  obtain ⟨-, -, -, -, -, -, ⟨m, hm, h1, h2, h3⟩, -⟩ := hR
  unfold f_X10_oiledAt f_X11_oiledAt
  rw [bnd_v, stX_ne (by omega), h1, h2]
  simp only [isIn_eq, cal_some, stX_row (show 12 ≠ 0 by omega)]
  rcases int_cases b1 with hb | ⟨k, hk, rfl⟩
  · rw [if_pos hb, if_pos hb, if_pos rfl]
    exact ⟨_, _, _, rfl, rfl, CE.rf C, xe_0 X 0⟩
  · simp (disch := omega) only [lt_nl, if_neg, le_nn, ltm1]
    by_cases hkm : m ≤ k
    · rw [if_pos hkm, if_pos hkm, if_pos rfl]
      exact ⟨_, _, _, rfl, rfl, CE.rf C, xe_0 X 0⟩
    · rw [if_neg hkm, if_neg hkm, if_neg (by decide)]
      simp (disch := omega) only [ldA_nI, h3 k (by omega)]
      exact ⟨_, _, _, rfl, rfl, CE.rf C, xe_0 X 0⟩
theorem op_judged (b1 : Int32) : OP (Rel N) (f_X10_judged b1) (f_X11_judged b1) := op_q fun C X hR => by
  obtain ⟨-, -, -, -, -, -, -, hj, -⟩ := hR
  unfold f_X10_judged f_X11_judged
  rw [bnd_v, stX_ne (by omega)]
  simp only [isIn_eq, cal_some, stX_row (show 13 ≠ 0 by omega)]
  rcases hj with ⟨h1, h2⟩ | ⟨h1, h2⟩
  · rw [h1, if_pos rfl]
    rcases int_cases b1 with hb | ⟨k, hk, rfl⟩
    · rw [if_pos hb]
      exact ⟨_, _, _, rfl, rfl, CE.rf C, xe_0 X 0⟩
    · simp (disch := omega) only [lt_nl, if_neg, le_ln]
      by_cases hkm : 5 ≤ k
      · rw [if_pos hkm]
        exact ⟨_, _, _, rfl, rfl, CE.rf C, xe_0 X 0⟩
      · rw [if_neg hkm]
        simp (disch := omega) only [ldA_nI, h2 k (by omega)]
        exact ⟨_, _, _, rfl, rfl, CE.rf C, xe_0 X 0⟩
  · rw [h1, if_neg (show ¬ ((1 : Int32) = 0) by decide)]
    rcases int_cases b1 with hb | ⟨k, hk, rfl⟩
    · rw [if_pos hb, if_pos hb, if_pos rfl]
      exact ⟨_, _, _, rfl, rfl, CE.rf C, xe_0 X 0⟩
    · simp (disch := omega) only [lt_nl, if_neg, le_ln, lt_ln]
      by_cases hkm : 5 ≤ k
      · rw [if_pos hkm, if_pos (show 4 < k by omega), if_pos rfl]
        exact ⟨_, _, _, rfl, rfl, CE.rf C, xe_0 X 0⟩
      · rw [if_neg hkm, if_neg (show ¬ 4 < k by omega), if_neg (show ¬ ((1 : Int32) = 0) by decide)]
        simp (disch := omega) only [ldA_nI, h2 k (by omega)]
        exact ⟨_, _, _, rfl, rfl, CE.rf C, xe_0 X 0⟩
theorem op_gust (b1 b2 : Int32) : OP (Rel N) (f_X10_gust b1 b2) (f_X11_gust b1 b2) := op_q fun C X hR => by
  obtain ⟨⟨n, ⟨hB, -⟩, -⟩, -, -, hRef, -⟩ := hR
  have hb := (b_lt hRef).1
  unfold f_X10_gust f_X11_gust f_X11_gust_54
  rw [bnd_v]
  simp (disch := omega) only [isIn_eq, cal_some, stX_row, ldR_lt]
  rcases int_cases b1 with hb1 | ⟨q, hq, rfl⟩
  · rw [if_pos hb1, if_pos hb1, if_pos rfl]
    exact ⟨_, _, _, rfl, rfl, CE.rf C, xe_0 X 0⟩
  simp (disch := omega) only [lt_nl, if_neg, le_ln, lt_ln]
  by_cases h48 : 48 ≤ q
  · rw [if_pos h48, if_pos (show 47 < q by omega), if_pos rfl]
    exact ⟨_, _, _, rfl, rfl, CE.rf C, xe_0 X 0⟩
  rw [if_neg h48, if_neg (show ¬ 47 < q by omega), if_neg (show ¬ ((1 : Int32) = 0) by decide)]
  obtain ⟨f, hf, f1, f2, f3⟩ := bk_gust hB q (by omega)
  simp (disch := omega) only [ldA_nI, f1, nI_la, f2, le_nl, eq_nl]
  by_cases hf0 : f = 0
  · rw [if_pos hf0]
    refine ⟨_, _, stX X 0 0 0, rfl, ?_, CE.rf C, xe_0 X 0⟩
    rw [if_pos (show f ≤ 0 by omega), ite_self]
    rfl
  · obtain ⟨d, hd, d1, d2⟩ := f3 (by omega)
    rw [if_neg hf0, if_neg (show ¬ f ≤ 0 by omega), d1, d2]
    by_cases a0 : b2 = 0
    · subst a0
      rw [if_pos rfl]
      exact ⟨_, _, _, rfl, rfl, CE.rf C, xe_0 X 0⟩
    by_cases a1 : b2 = 1
    · subst a1
      exact ⟨_, _, _, rfl, rfl, CE.rf C, xe_0 X 0⟩
    rw [if_neg a0, if_neg a1]
    refine ⟨_, _, stX X 0 0 0, rfl, ?_, CE.rf C, xe_0 X 0⟩
    rcases int_cases b2 with hb2 | ⟨k, hk, rfl⟩
    · rw [if_pos hb2, if_pos rfl]
      rfl
    · simp (disch := omega) only [eq_nl] at a0 a1
      simp (disch := omega) only [lt_nl, if_neg, lt_ln, if_pos, if_true]
      rfl
theorem op_count (b1 : Int32) : OP (Rel N) (f_X10_count b1) (f_X11_count b1) := op_q fun C X hR => by
  obtain ⟨⟨n, ⟨hB, -, hP, -⟩, -⟩, ⟨L, hL, l1, l2, -⟩, -, hRef, -⟩ := hR
  have hb := b_lt hRef
  obtain ⟨L', -, p1, p2, -⟩ := hP
  obtain ⟨g1, ⟨e, -, g2, g3⟩, ⟨c, -, g4, g5⟩⟩ := bk_run hB
  have w := bk_w hB
  have h := bk_h hB
  have o := bk_o hB
  have t := bk_t hB
  unfold f_X10_count f_X11_count
  rw [bnd_v]
  have r0 : (stX X 0 0 0).1 2 = X.1 2 := stX_row (by omega)
  have rl : (stX X 0 0 0).1 0 2 = X.1 0 2 := stX_ne (by omega)
  simp only [isIn_eq, cal_some, r0, rl, ldR_lt hb.1, ldR_lt hb.2.1]
  by_cases a0 : b1 = 0
  · subst a0
    exact ⟨_, C, stX X 0 0 0, rfl, (congrArg (fun z => some (z, stX X 0 0 0)) (w.2.trans w.1.symm)), CE.rf C, xe_0 X 0⟩
  by_cases a1 : b1 = 1
  · subst a1
    exact ⟨_, C, stX X 0 0 0, rfl, (congrArg (fun z => some (z, stX X 0 0 0)) (h.2.trans h.1.symm)), CE.rf C, xe_0 X 0⟩
  by_cases a2 : b1 = 2
  · subst a2
    exact ⟨_, C, stX X 0 0 0, rfl, (congrArg (fun z => some (z, stX X 0 0 0)) (o.2.trans o.1.symm)), CE.rf C, xe_0 X 0⟩
  by_cases a3 : b1 = 3
  · subst a3
    exact ⟨_, C, stX X 0 0 0, rfl, (congrArg (fun z => some (z, stX X 0 0 0)) (t.2.trans t.1.symm)), CE.rf C, xe_0 X 0⟩
  by_cases a4 : b1 = 4
  · subst a4
    exact ⟨_, C, stX X 0 0 0, rfl, (congrArg (fun z => some (z, stX X 0 0 0)) g1.symm), CE.rf C, xe_0 X 0⟩
  by_cases a5 : b1 = 5
  · subst a5
    exact ⟨_, C, stX X 0 0 0, rfl, (congrArg (fun z => some (z, stX X 0 0 0)) (g3.trans g2.symm)), CE.rf C, xe_0 X 0⟩
  by_cases a6 : b1 = 6
  · subst a6
    exact ⟨_, C, stX X 0 0 0, rfl, (congrArg (fun z => some (z, stX X 0 0 0)) (g5.trans g4.symm)), CE.rf C, xe_0 X 0⟩
  by_cases a7 : b1 = 7
  · subst a7
    exact ⟨_, C, stX X 0 0 0, rfl, (congrArg (fun z => some (z, stX X 0 0 0)) (p2.trans p1.symm)), CE.rf C, xe_0 X 0⟩
  by_cases a8 : b1 = 8
  · subst a8
    exact ⟨_, C, stX X 0 0 0, rfl, (congrArg (fun z => some (z, stX X 0 0 0)) (l2.trans l1.symm)), CE.rf C, xe_0 X 0⟩
  rw [if_neg a0, if_neg a1, if_neg a2, if_neg a3, if_neg a4, if_neg a5, if_neg a6, if_neg a7, if_neg a7, if_neg a8, if_neg a8]
  refine ⟨_, C, stX X 0 0 0, rfl, ?_, CE.rf C, xe_0 X 0⟩
  rcases int_cases b1 with hb2 | ⟨k, hk, rfl⟩
  · rw [if_pos hb2, if_pos rfl]
    rfl
  · simp (disch := omega) only [eq_nl] at a0 a1 a2 a3 a4 a5 a6
    simp (disch := omega) only [lt_nl, if_neg, lt_ln, if_pos, if_true]
    rfl
end OPA
