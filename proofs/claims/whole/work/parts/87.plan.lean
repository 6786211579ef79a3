/-! plan() -/
section PLAN5
variable {N : Nat}
theorem op_plan (hN : 2000 ≤ N) : OP (Rel N) (f_X10_plan N) (f_X11_plan N) := by
  intro C X hR
  have hR0 := rel_xe hR (xe_0 X 0)
  unfold f_X10_plan f_X11_plan
  rw [bnd_v]
  generalize stX X 0 0 0 = X0 at hR0 ⊢
  obtain ⟨C1, X1, s1, s2, hR1, -, -, -, nx⟩ := start_rel (lm := 400) hN (by omega) hR0
  have s1' : f_X10_splitTape N 400 C = some (0, C1) := s1
  have s2' : f_X11_taken 400 X0 = some (0, X1) := s2
  rw [s1', cal_some, s2', cal_some, bnd_v, bnd_v]
  obtain ⟨X7, a1, a2, a3⟩ := nx (stX (stX X1 0 15 0) 0 40 0) (by rw [stX_row (by omega), stX_row (by omega)]) (fun x hx => by rw [stX_ne (by omega), stX_ne (by omega)]) (by rw [stX_ne (by omega), stX_at])
  rw [a1, cal_some]
  obtain ⟨⟨n, hH, hP⟩, hT, -, hRf, -, -, -, -, -, hR6⟩ := id hR1
  have bd := bk_bd hH.1
  obtain ⟨r1, r2, r3, r4⟩ := id hRf
  have hb := b_lt hRf
  have h07 : C1.2 0 0 7 < 4 := by omega
  rw [ldR_lt h07, ldR_lt hb.1]
  unfold f_X3_read
  rw [bnd_v]
  have g7 : GPl X1 X7 := by
    have h1 := gl_nx (k := 0) a2
    refine ⟨fun x a b => ?_, fun j a => ?_, h1.2.2.1, h1.2.2.2.1, h1.2.2.2.2.1⟩
    · have := lf_no a
      rw [h1.1 x a b, stX_ne (by omega), stX_ne b]
    · have := lr_no a
      rw [h1.2.1 j a, stX_row (by omega), stX_row (by omega)]
  have f0 : FPl (C1.2 0 0 7) C1 (stC C1 5 (C1.2 0 0 7) 0 0 0) := by
    refine ⟨rfl, fun q i a b => ?_⟩
    funext j x
    simp only [stC]
    rw [if_neg (by omega)]
  have hI : PnI N (C1.2 2 0 1) (C1.2 0 0 7) n C1 X1 0 (stC C1 5 (C1.2 0 0 7) 0 0 0) X7 := by
    refine ⟨by omega, ⟨0, psR_c a3 (stC_ob (by omega)) (XP.rf X7)⟩, stC_at, ?_, fun l hl => absurd hl (Nat.not_lt_zero _), ?_, f0, g7⟩
    · rw [a2.2.1 40 (by omega) (by omega) (by omega) (by omega) (by omega), stX_at]
      rfl
    · unfold PcR
      rw [show (stC C1 5 (C1.2 0 0 7) 0 0 0).1 3 (C1.2 2 0 1) = C1.1 3 (C1.2 2 0 1) from stC_ob (by omega), g7.2.1 2 rfl, g7.2.2.1, g7.2.2.2.1]
      refine ⟨bd.1, bd.2.1, bd.2.2.1, (bk_w hH.1).1, (bk_h hH.1).1, (bk_o hH.1).1, (bk_w hH.1).2, (bk_h hH.1).2, (bk_o hH.1).2, fun k hk => ?_, hR6⟩
      rw [Nat.zero_add]
      exact hH.2.2.2.2 k hk
  -- frames of both ends
  have same : ∀ {C' : CM}, FPl (C1.2 0 0 7) C1 C' → (∀ q, q ≠ 1 → q ≠ 5 → C'.1 q = C1.1 q) := fun {C'} h q h1 h5 => funext fun i => h.2 q i h1 (by omega)
  rcases plan_loop hN hI with ⟨k, C', X', hk, y1, y2, y3, y4, y5, y6, y7, y8, y9⟩ | ⟨C', X', y1, y2, y3, y4, y5⟩
  · rw [y1, cal_some, bnd_v, y2, y6, sxA_l (by decide) (by decide)]
    have e40 : (stX X' 4 (OfNat.ofNat 0) (nI k)).1 0 40 = nI k := by rw [stX_row (by omega)]; exact y6
    obtain ⟨X2, z1, z2, z3, z4⟩ := plan81_eq hN hk e40
    have c3 : (stC C' 0 0 0 3 (C'.1 1 0 0 5)).1 0 0 0 3 = 0 := by rw [stC_at]; exact y3
    have c2 : (stC C' 0 0 0 3 (C'.1 1 0 0 5)).2 = C1.2 := y8.1
    rw [z1, if_pos c3, c2, ldR_lt hb.2.1, ldR_lt h07, bnd_v, bnd_v]
    generalize hCC : rfC (rfC (stC C' 0 0 0 3 (C'.1 1 0 0 5)) 2 0 3 (C1.2 0 0 7)) 0 0 7 (C1.2 2 0 3) = C2
    have d1 : C2.1 = (stC C' 0 0 0 3 (C'.1 1 0 0 5)).1 := by rw [← hCC]; rfl
    have d2 : ∀ k i f, C2.2 k i f = if k = 0 ∧ i = 0 ∧ f = 7 then C1.2 2 0 3 else if k = 2 ∧ i = 0 ∧ f = 3 then C1.2 0 0 7 else C1.2 k i f := by
      intro k i f
      rw [← hCC]
      simp only [rfC]
      rw [c2]
    have d203 : C2.2 2 0 3 = C1.2 0 0 7 := by rw [d2, if_neg (by omega), if_pos (by omega)]
    have d5 : ∀ q, q ≠ 0 → C2.1 q = C'.1 q := fun q hq => by
      rw [d1]
      exact funext fun i => stC_ob hq
    rw [d203, ldR_lt h07, d5 5 (by omega), y5]
    refine ⟨nI k, C2, X2, rfl, rfl, ?_⟩
    refine rel_new hN hR1 hH hP ?_ ?_ ?_ ?_ ?_ ?_ ?_ ?_ ?_ ?_ ?_ ?_ ?_ ?_ ?_ ?_ ?_ ?_ ?_
    · rw [d5 2 (by omega)]; exact same y8 2 (by omega) (by omega)
    · rw [d5 3 (by omega)]; exact same y8 3 (by omega) (by omega)
    · rw [d5 4 (by omega)]; exact same y8 4 (by omega) (by omega)
    · rw [d5 7 (by omega)]; exact same y8 7 (by omega) (by omega)
    · rw [d5 9 (by omega)]; exact same y8 9 (by omega) (by omega)
    · intro i hi
      rw [d5 5 (by omega)]
      exact y8.2 5 i (by omega) (by omega)
    · intro i hi
      rw [d5 6 (by omega), same y8 6 (by omega) (by omega)]
    · intro j x hjx
      rw [d1]
      have : (stC C' 0 0 0 3 (C'.1 1 0 0 5)).1 0 0 j x = C'.1 0 0 j x := by
        simp only [stC]
        rw [if_neg (by omega)]
      rw [this, same y8 0 (by omega) (by omega)]
    · refine ⟨?_, ?_, ?_, fun i f hi hf => ?_⟩
      · rw [d2, d2, if_neg (by omega), if_neg (by omega), if_neg (by omega), if_neg (by omega)]
        exact r1
      · rw [d203, d2, if_pos (by omega)]
        omega
      · rw [d2, d2, if_neg (by omega), if_neg (by omega), if_neg (by omega), if_neg (by omega)]
        exact r3
      · rw [d2, if_neg (by omega), if_neg (by omega)]
        exact r4 i f hi hf
    · rw [d2, if_neg (by omega), if_neg (by omega)]
    · intro x hx
      rw [z4, if_neg (by omega), stX_row (by omega), y9.2.1 2 rfl]
    · intro j hj h2
      have := lr_no hj
      rw [z3 j h2, stX_row (by omega)]
      exact y9.2.1 j hj
    · intro x hx h15
      rw [z3 0 (by omega), stX_row (by omega)]
      exact y9.1 x hx h15
    · intro x hx
      rw [z2]
      show X'.2 5 x = _
      rw [y9.2.2.1]
    · rw [z2]; exact y9.2.2.2.1
    · rw [z2]; exact y9.2.2.2.2
    · rw [d203, d5 5 (by omega)]
      refine ⟨k, hk, y5, ?_, fun i hi => ?_⟩
      · rw [z4, if_pos (by omega)]
        exact stX_at
      · have hl := y7 i hi
        have q : ∀ y, y ≠ 0 → (stX X' 4 (OfNat.ofNat 0) (nI k)).1 4 y = X'.1 4 y := fun y hy => stX_ne hy
        rw [z4, z4, z4, if_pos (by omega), if_pos (by omega), if_pos (by omega), show 544 + 4 * i - 543 = 1 + 4 * i by omega, show 545 + 4 * i - 543 = 2 + 4 * i by omega, show 546 + 4 * i - 543 = 3 + 4 * i by omega, q _ (by omega), q _ (by omega), q _ (by omega)]
        exact hl
    · rw [d2, if_neg (by omega), if_neg (by omega), d5 6 (by omega), same y8 6 (by omega) (by omega)]
      refine sentR_s hH.2.2.2.1 (fun x hx => ?_)
      rw [z4, if_neg (by omega), stX_row (by omega), y9.2.1 2 rfl]
    · rw [d1, c3, z3 0 (by omega), stX_row (by omega)]
      exact y4.symm
  · rw [y1, cal_some, bnd_v, y2]
    have c3 : (stC C' 0 0 0 3 (C'.1 1 0 0 5)).1 0 0 0 3 = C'.1 1 0 0 5 := stC_at
    have c6 : (stC C' 0 0 0 3 (C'.1 1 0 0 5)).1 1 0 0 6 = C'.1 1 0 0 6 := by rw [stC_ob (by omega)]
    rw [if_neg (by rw [c3]; exact y3.1.1), c6, ← y3.2.2]
    refine ⟨_, _, _, rfl, rfl, ?_⟩
    have d5 : ∀ q, q ≠ 0 → (stC C' 0 0 0 3 (C'.1 1 0 0 5)).1 q = C'.1 q := fun q hq => funext fun i => stC_ob hq
    have c2 : (stC C' 0 0 0 3 (C'.1 1 0 0 5)).2 = C1.2 := y4.1
    refine rel_new hN hR1 hH hP ?_ ?_ ?_ ?_ ?_ ?_ ?_ ?_ ?_ ?_ ?_ ?_ ?_ ?_ ?_ ?_ ?_ ?_ ?_
    · rw [d5 2 (by omega)]; exact same y4 2 (by omega) (by omega)
    · rw [d5 3 (by omega)]; exact same y4 3 (by omega) (by omega)
    · rw [d5 4 (by omega)]; exact same y4 4 (by omega) (by omega)
    · rw [d5 7 (by omega)]; exact same y4 7 (by omega) (by omega)
    · rw [d5 9 (by omega)]; exact same y4 9 (by omega) (by omega)
    · intro i hi
      rw [d5 5 (by omega)]
      exact y4.2 5 i (by omega) (by omega)
    · intro i hi
      rw [d5 6 (by omega), same y4 6 (by omega) (by omega)]
    · intro j x hjx
      have : (stC C' 0 0 0 3 (C'.1 1 0 0 5)).1 0 0 j x = C'.1 0 0 j x := by
        simp only [stC]
        rw [if_neg (by omega)]
      rw [this, same y4 0 (by omega) (by omega)]
    · unfold RefR
      rw [c2]
      exact hRf
    · rw [c2]
    · intro x hx
      rw [y5.2.1 2 rfl]
    · intro j hj h2
      exact y5.2.1 j hj
    · exact y5.1
    · intro x hx
      rw [y5.2.2.1]
    · exact y5.2.2.2.1
    · exact y5.2.2.2.2
    · rw [c2, d5 5 (by omega), y4.2 5 _ (by omega) (by omega), y5.2.1 2 rfl]
      exact hH.2.2.1
    · rw [c2, d5 6 (by omega), same y4 6 (by omega) (by omega), y5.2.1 2 rfl]
      exact hH.2.2.2.1
    · rw [c3]
      exact y3.2.1.symm
end PLAN5
