/-! sentence(): the relation behind it. -/
section SENT9
variable {N : Nat}
theorem op_sentence (hN : 2000 ≤ N) : OP (Rel N) (f_X10_sentence N) (f_X11_sentence N) := by
  intro C X hR
  have hR0 := rel_xe hR (xe_0 X 0)
  unfold f_X10_sentence f_X11_sentence
  rw [bnd_v]
  generalize stX X 0 0 0 = X0 at hR0 ⊢
  obtain ⟨C1, X1, s1, s2, hR1, -, -, -, nx⟩ := start_rel (lm := 200) hN (by omega) hR0
  have s1' : f_X10_splitTape N 200 C = some (0, C1) := s1
  have s2' : f_X11_taken 200 X0 = some (0, X1) := s2
  rw [s1', cal_some, s2', cal_some, bnd_v, bnd_v, bnd_v, bnd_v, bnd_v, bnd_v]
  obtain ⟨X7, a1, a2, a3⟩ := nx (stX (stX (stX (stX (stX (stX X1 0 15 0) 0 45 0) 0 46 0) 0 47 0) 0 48 1) 0 49 0) (by rw [stX_row (by omega), stX_row (by omega), stX_row (by omega), stX_row (by omega), stX_row (by omega), stX_row (by omega)]) (fun x hx => by rw [stX_ne (by omega), stX_ne (by omega), stX_ne (by omega), stX_ne (by omega), stX_ne (by omega), stX_ne (by omega)]) (by rw [stX_ne (by omega), stX_ne (by omega), stX_ne (by omega), stX_ne (by omega), stX_ne (by omega), stX_at])
  rw [a1, cal_some]
  obtain ⟨⟨n, hH, hP⟩, hT, -, hRf, -, -, -, -, -, hR6⟩ := id hR1
  obtain ⟨r1, r2, r3, r4⟩ := id hRf
  have hb := b_lt hRf
  have h08 : C1.2 0 0 8 < 4 := by omega
  rw [ldR_lt h08]
  unfold f_X5_read
  rw [bnd_v, bnd_v]
  have fx : ∀ x, x ≠ 4 → x ≠ 11 → x ≠ 12 → x ≠ 13 → x ≠ 14 → X7.1 0 x = (stX (stX (stX (stX (stX (stX X1 0 15 0) 0 45 0) 0 46 0) 0 47 0) 0 48 1) 0 49 0).1 0 x := a2.2.1
  have g7 : GS X1 X7 := (gs_f (Or.inr rfl)).trans ((gs_f (Or.inl rfl)).trans ((gs_f (Or.inl rfl)).trans ((gs_f (Or.inl rfl)).trans ((gs_f (Or.inl rfl)).trans ((gs_f (Or.inl rfl)).trans (gs_nx a2))))))
  have f0 : FS6 (C1.2 0 0 8) C1 (stC (stC C1 6 (C1.2 0 0 8) 0 0 0) 6 (C1.2 0 0 8) 0 1 0) := fs_st.trans fs_st
  have hI : SnI N (C1.2 0 0 8) (stC (stC C1 6 (C1.2 0 0 8) 0 0 0) 6 (C1.2 0 0 8) 0 1 0) X7 0 0 0 0 0 1 0 (fun _ => 0) := by
    refine ⟨psR_c a3 (by rw [stC_ob (by omega), stC_ob (by omega)]) (XP.rf X7), ⟨?_, by omega, stC_at, fun i hi => ?_, fun i hi => absurd hi (Nat.not_lt_zero _)⟩, ?_, ?_, ?_, ?_, ?_, fun i hi => absurd hi (Nat.not_lt_zero _), by omega, by omega⟩
    · rw [stC_ne (by omega), stC_at]; rfl
    · have : i = 0 := by omega
      subst this
      exact Nat.le_refl _
    · rw [fx 45 (by omega) (by omega) (by omega) (by omega) (by omega), stX_ne (by omega), stX_ne (by omega), stX_ne (by omega), stX_ne (by omega), stX_at]; rfl
    · rw [fx 46 (by omega) (by omega) (by omega) (by omega) (by omega), stX_ne (by omega), stX_ne (by omega), stX_ne (by omega), stX_at]; rfl
    · rw [fx 47 (by omega) (by omega) (by omega) (by omega) (by omega), stX_ne (by omega), stX_ne (by omega), stX_at]; rfl
    · rw [fx 48 (by omega) (by omega) (by omega) (by omega) (by omega), stX_ne (by omega), stX_at]; rfl
    · rw [fx 49 (by omega) (by omega) (by omega) (by omega) (by omega), stX_at]
  have same : ∀ {C' : CM}, FS6 (C1.2 0 0 8) C1 C' → (∀ q, q ≠ 1 → q ≠ 6 → C'.1 q = C1.1 q) := fun {C'} h q h1 h5 => funext fun i => h.2 q i h1 (by omega)
  rcases sent_read hN hI f0 g7 with ⟨K, o, cd, C', X', y1, y2, y3, y4, y5, y6, y7, y7', hK, ho, hdp, y8, y9⟩ | ⟨C', X', y1, y2, y3, y4, y5⟩
  · rw [y1, cal_some, bnd_v, y2, y7, sxA_l (by decide) (by decide)]
    have e45 : (stX X' 2 (OfNat.ofNat 664) (nI K)).1 0 45 = nI K := by rw [stX_row (by omega)]; exact y7
    have e46 : (stX X' 2 (OfNat.ofNat 664) (nI K)).1 0 46 = nI o := by rw [stX_row (by omega)]; exact y7'
    obtain ⟨X2, z1, z2, z3, z4⟩ := sent146_eq hN hK e45 e46
    have r2x : ∀ x, (stX X' 2 (OfNat.ofNat 664) (nI K)).1 2 x = if x = 664 then nI K else X1.1 2 x := fun x => by
      by_cases e : x = 664
      · rw [if_pos e, e]; exact stX_at
      · rw [if_neg e, stX_ne (show x ≠ (OfNat.ofNat 664 : Nat) from e), y9.2.1 2 rfl]
    have r4x : (stX X' 2 (OfNat.ofNat 664) (nI K)).1 4 = X'.1 4 := stX_row (by omega)
    have c3 : (stC C' 0 0 0 3 (C'.1 1 0 0 5)).1 0 0 0 3 = 0 := by rw [stC_at]; exact y3
    have c2 : (stC C' 0 0 0 3 (C'.1 1 0 0 5)).2 = C1.2 := y8.1
    rw [z1, if_pos c3, c2, ldR_lt hb.2.2, ldR_lt h08, bnd_v, bnd_v]
    generalize hCC : rfC (rfC (stC C' 0 0 0 3 (C'.1 1 0 0 5)) 2 0 4 (C1.2 0 0 8)) 0 0 8 (C1.2 2 0 4) = C2
    have d1 : C2.1 = (stC C' 0 0 0 3 (C'.1 1 0 0 5)).1 := by rw [← hCC]; rfl
    have d2 : ∀ k i f, C2.2 k i f = if k = 0 ∧ i = 0 ∧ f = 8 then C1.2 2 0 4 else if k = 2 ∧ i = 0 ∧ f = 4 then C1.2 0 0 8 else C1.2 k i f := by
      intro k i f
      rw [← hCC]
      simp only [rfC]
      rw [c2]
    have d204 : C2.2 2 0 4 = C1.2 0 0 8 := by rw [d2, if_neg (by omega), if_pos (by omega)]
    have d5 : ∀ q, q ≠ 0 → C2.1 q = C'.1 q := fun q hq => by
      rw [d1]
      exact funext fun i => stC_ob hq
    rw [d204, ldR_lt h08, d5 6 (by omega), y5.1]
    refine ⟨nI o, C2, X2, rfl, rfl, ?_⟩
    refine rel_new hN hR1 hH hP ?_ ?_ ?_ ?_ ?_ ?_ ?_ ?_ ?_ ?_ ?_ ?_ ?_ ?_ ?_ ?_ ?_ ?_ ?_
    · rw [d5 2 (by omega)]; exact same y8 2 (by omega) (by omega)
    · rw [d5 3 (by omega)]; exact same y8 3 (by omega) (by omega)
    · rw [d5 4 (by omega)]; exact same y8 4 (by omega) (by omega)
    · rw [d5 7 (by omega)]; exact same y8 7 (by omega) (by omega)
    · rw [d5 9 (by omega)]; exact same y8 9 (by omega) (by omega)
    · intro i hi
      rw [d5 5 (by omega), same y8 5 (by omega) (by omega)]
    · intro i hi
      rw [d5 6 (by omega)]
      exact y8.2 6 i (by omega) (by omega)
    · intro j x hjx
      rw [d1]
      have : (stC C' 0 0 0 3 (C'.1 1 0 0 5)).1 0 0 j x = C'.1 0 0 j x := by
        simp only [stC]
        rw [if_neg (by omega)]
      rw [this, same y8 0 (by omega) (by omega)]
    · refine ⟨?_, ?_, ?_, fun i f hi hf => ?_⟩
      · rw [d2, d2, if_neg (by omega), if_neg (by omega), if_neg (by omega), if_neg (by omega)]
        exact r1
      · rw [d2, d2, if_neg (by omega), if_neg (by omega), if_neg (by omega), if_neg (by omega)]
        exact r2
      · rw [d204, d2, if_pos (by omega)]
        omega
      · rw [d2, if_neg (by omega), if_neg (by omega)]
        exact r4 i f hi hf
    · rw [d2, if_neg (by omega), if_neg (by omega)]
    · intro x hx
      rw [z4, if_neg (by omega), r2x, if_neg (by omega)]
    · intro j hj h2
      have := lr_no hj
      rw [z3 j h2, stX_row (by omega)]
      exact y9.2.1 j hj
    · intro x hx h15
      rw [z3 0 (by omega), stX_row (by omega)]
      exact y9.1 x hx h15
    · intro x hx
      rw [z2]
      show X'.2 5 x = _
      rw [y9.2.2.1]
    · rw [z2]; exact y9.2.2.2.1
    · rw [z2]; exact y9.2.2.2.2
    · rw [d2, if_neg (by omega), if_neg (by omega), d5 5 (by omega), same y8 5 (by omega) (by omega)]
      refine planR_s hH.2.2.1 (fun x h1 h2 => ?_)
      rw [z4, if_neg (by omega), r2x, if_neg (by omega)]
    · rw [d204, d5 6 (by omega)]
      obtain ⟨b1, b2, b3, b4, b5⟩ := y5
      have hK0 : 0 < K := by
        by_cases e : K = 0
        · rw [e] at hdp
          have hz : dpS cd 0 = 0 := rfl
          omega
        · omega
      refine ⟨K, cd, hK, ?_, Or.inr ⟨hK0, ?_, b3, hdp, fun i hi => ?_⟩⟩
      · rw [z4, if_neg (by omega), r2x, if_pos rfl]
      · rw [b1]
        simp (disch := omega) only [ne_eq, eq_nl]
        omega
      · obtain ⟨w1, w2, w3, w4⟩ := b5 i hi
        obtain ⟨v1, v2⟩ := y6 i hi
        rw [z4, z4, z4, if_pos (by omega), if_pos (by omega), if_pos (by omega), show 665 + 3 * i - 665 = 3 * i by omega, show 666 + 3 * i - 665 = 3 * i + 1 by omega, show 667 + 3 * i - 665 = 3 * i + 2 by omega, r4x]
        refine ⟨w1, v1, w2, v2, w3, w4, ?_⟩
        have := b4 (i + 1) (by omega)
        omega
    · rw [d1, c3, z3 0 (by omega), stX_row (by omega)]
      exact y4.symm
  · rw [y1, cal_some, bnd_v, y2]
    have c3 : (stC C' 0 0 0 3 (C'.1 1 0 0 5)).1 0 0 0 3 = C'.1 1 0 0 5 := stC_at
    have c6 : (stC C' 0 0 0 3 (C'.1 1 0 0 5)).1 1 0 0 6 = C'.1 1 0 0 6 := by rw [stC_ob (by omega)]
    rw [if_neg (by rw [c3]; exact y3.1.1), c6, ← y3.2.2]
    refine ⟨_, _, _, rfl, rfl, ?_⟩
    have d5 : ∀ q, q ≠ 0 → (stC C' 0 0 0 3 (C'.1 1 0 0 5)).1 q = C'.1 q := fun q hq => funext fun i => stC_ob hq
    have c2 : (stC C' 0 0 0 3 (C'.1 1 0 0 5)).2 = C1.2 := y4.1
    refine rel_new hN hR1 hH hP ?_ ?_ ?_ ?_ ?_ ?_ ?_ ?_ ?_ ?_ ?_ ?_ ?_ ?_ ?_ ?_ ?_ ?_ ?_
    · rw [d5 2 (by omega)]; exact same y4 2 (by omega) (by omega)
    · rw [d5 3 (by omega)]; exact same y4 3 (by omega) (by omega)
    · rw [d5 4 (by omega)]; exact same y4 4 (by omega) (by omega)
    · rw [d5 7 (by omega)]; exact same y4 7 (by omega) (by omega)
    · rw [d5 9 (by omega)]; exact same y4 9 (by omega) (by omega)
    · intro i hi
      rw [d5 5 (by omega), same y4 5 (by omega) (by omega)]
    · intro i hi
      rw [d5 6 (by omega)]
      exact y4.2 6 i (by omega) (by omega)
    · intro j x hjx
      have : (stC C' 0 0 0 3 (C'.1 1 0 0 5)).1 0 0 j x = C'.1 0 0 j x := by
        simp only [stC]
        rw [if_neg (by omega)]
      rw [this, same y4 0 (by omega) (by omega)]
    · unfold RefR
      rw [c2]
      exact hRf
    · rw [c2]
    · intro x hx
      rw [y5.2.1 2 rfl]
    · intro j hj h2
      exact y5.2.1 j hj
    · exact y5.1
    · intro x hx
      rw [y5.2.2.1]
    · exact y5.2.2.2.1
    · exact y5.2.2.2.2
    · rw [c2, d5 5 (by omega), same y4 5 (by omega) (by omega), y5.2.1 2 rfl]
      exact hH.2.2.1
    · rw [c2, d5 6 (by omega), y4.2 6 _ (by omega) (by omega), y5.2.1 2 rfl]
      exact hH.2.2.2.1
    · rw [c3]
      exact y3.2.1.symm
end SENT9
