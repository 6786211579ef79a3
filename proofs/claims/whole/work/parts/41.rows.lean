theorem tries_eq (N : Nat) (X : XM) (hN : 2000 ≤ N) : f_X11_tries N X = rt 0 (rwX X 9 (fil (X.1 9) (fun x => X.1 2 (371 + x)) 0 172)) := by
  unfold f_X11_tries
  have h := loop_0st (fun m i Y => f_X11_tries_2 N m i Y) (fun k => rwX X 9 (fil (X.1 9) (fun x => X.1 2 (371 + x)) 0 k)) 172 (rt 0 (rwX X 9 (fil (X.1 9) (fun x => X.1 2 (371 + x)) 0 172)))
    (fun m k hk => by
      simp (disch := omega) only [f_X11_tries_2, le_ln, if_neg, nI_la, ldA_nI, sxA_nI, nI_al, stX_rwX, rwX_out]
      rw [← fil_s, Nat.zero_add])
    (fun m => by simp (disch := omega) only [f_X11_tries_2, le_ln, if_pos]) (fuel := N) (by omega)
  simpa [fil_0, rwX_self] using h
theorem back_eq (N : Nat) (X : XM) (hN : 2000 ≤ N) : f_X11_back N X = rt 0 (rwX X 2 (fil (X.1 2) (X.1 9) 371 172)) := by
  unfold f_X11_back
  have h := loop_0st (fun m i Y => f_X11_back_2 N m i Y) (fun k => rwX X 2 (fil (X.1 2) (X.1 9) 371 k)) 172 (rt 0 (rwX X 2 (fil (X.1 2) (X.1 9) 371 172)))
    (fun m k hk => by
      simp (disch := omega) only [f_X11_back_2, le_ln, if_neg, nI_la, ldA_nI, sxA_nI, nI_al, stX_rwX, rwX_out]
      rw [← fil_s])
    (fun m => by simp (disch := omega) only [f_X11_back_2, le_ln, if_pos]) (fuel := N) (by omega)
  simpa [fil_0, rwX_self] using h
theorem undo26_eq (N : Nat) (Z : XM) (m : Nat) (hm : m < 8) (hZ : Z.1 0 33 = nI m) (hN : 2000 ≤ N) : f_X11_undo_26 N N 0 Z = rt (nI m) (rwX Z 2 (fil (Z.1 2) (fun x => Z.1 10 (172 * m + x)) 371 172)) := by
  have h := loop_0st (fun n i Y => f_X11_undo_26 N n i Y) (fun k => rwX Z 2 (fil (Z.1 2) (fun x => Z.1 10 (172 * m + x)) 371 k)) 172 (rt (nI m) (rwX Z 2 (fil (Z.1 2) (fun x => Z.1 10 (172 * m + x)) 371 172)))
    (fun n k hk => by
      simp (disch := omega) only [f_X11_undo_26, le_ln, if_neg, rwX_out, hZ, nI_lm, nI_add, nI_la, nI_al, ldA_nI, sxA_nI, stX_rwX]
      rw [← fil_s])
    (fun n => by simp (disch := omega) only [f_X11_undo_26, le_ln, if_pos, rwX_out, hZ]) (fuel := N) (by omega)
  simpa [fil_0, rwX_self] using h
theorem keep48_eq (N : Nat) (Z : XM) (m : Nat) (hm : m < 8) (hZ : Z.1 0 33 = nI m) (hN : 2000 ≤ N) : f_X11_keep_48 N N 0 Z = rt 0 (stX (rwX Z 10 (fil (Z.1 10) (fun x => Z.1 2 (371 + x)) (172 * m) 172)) 0 33 (nI (m + 1))) := by
  have h := loop_0st (fun n i Y => f_X11_keep_48 N n i Y) (fun k => rwX Z 10 (fil (Z.1 10) (fun x => Z.1 2 (371 + x)) (172 * m) k)) 172 (rt 0 (stX (rwX Z 10 (fil (Z.1 10) (fun x => Z.1 2 (371 + x)) (172 * m) 172)) 0 33 (nI (m + 1))))
    (fun n k hk => by
      simp (disch := omega) only [f_X11_keep_48, le_ln, if_neg, rwX_out, hZ, nI_lm, nI_add, nI_la, nI_al, ldA_nI, sxA_nI, stX_rwX]
      rw [← fil_s])
    (fun n => by simp (disch := omega) only [f_X11_keep_48, le_ln, if_pos, rwX_out, hZ, nI_al, bnd_v]) (fuel := N) (by omega)
  simpa [fil_0, rwX_self] using h
theorem fil_ge {r g : Nat → Int32} {a n x : Nat} (h : a + n ≤ x) : fil r g a n x = r x := by
  unfold fil
  rw [if_neg (by omega)]
theorem fil_lt {r g : Nat → Int32} {a n x : Nat} (h : x < a) : fil r g a n x = r x := by
  unfold fil
  rw [if_neg (by omega)]
theorem fil_in {r g : Nat → Int32} {a n x : Nat} (h : x < n) : fil r g a n (a + x) = g x := by
  unfold fil
  rw [if_pos (by omega), Nat.add_sub_cancel_left]
theorem keep11_eq (N : Nat) (Z : XM) (hN : 2000 ≤ N) : f_X11_keep_11 N N 0 Z = f_X11_keep_46 N (stX (rwX Z 10 (fil (Z.1 10) (fun x => Z.1 10 (x + 172)) 0 1204)) 0 33 7) := by
  have h := loop_0st (fun n i Y => f_X11_keep_11 N n i Y) (fun k => rwX Z 10 (fil (Z.1 10) (fun x => Z.1 10 (x + 172)) 0 k)) 1204 (f_X11_keep_46 N (stX (rwX Z 10 (fil (Z.1 10) (fun x => Z.1 10 (x + 172)) 0 1204)) 0 33 7))
    (fun n k hk => by
      simp (disch := omega) only [f_X11_keep_11, le_ln, if_neg, rwX_in, nI_la, nI_al, ldA_nI, sxA_nI, stX_rwX, fil_ge]
      rw [← fil_s, Nat.zero_add])
    (fun n => by simp (disch := omega) only [f_X11_keep_11, le_ln, if_pos, bnd_v]) (fuel := N) (by omega)
  simpa [fil_0, rwX_self] using h
/-- one more state is kept: what the row holds then -/
theorem keep_eq (N : Nat) (X : XM) (m : Nat) (hm : m ≤ 8) (hX : X.1 0 33 = nI m) (hN : 2000 ≤ N) : ∃ X' : XM, f_X11_keep N X = some (0, X') ∧ X'.2 = X.2 ∧ (∀ j x, j ≠ 10 → ¬ (j = 0 ∧ x = 33) → X'.1 j x = X.1 j x) ∧ X'.1 0 33 = nI (min (m + 1) 8) ∧
    (∀ x, x < 172 → X'.1 10 (172 * (min (m + 1) 8 - 1) + x) = X.1 2 (371 + x)) ∧ ∀ i x, i < min (m + 1) 8 - 1 → x < 172 → X'.1 10 (172 * i + x) = X.1 10 (172 * (i + (m + 1 - min (m + 1) 8)) + x) := by
  unfold f_X11_keep
  by_cases h8 : m = 8
  · subst h8
    rw [if_pos (by rw [hX]; rfl), keep11_eq N X hN]
    unfold f_X11_keep_46
    rw [keep48_eq N _ 7 (by omega) (by simp [stX]; rfl) hN]
    refine ⟨_, rfl, rfl, ?_, ?_, ?_, ?_⟩
    · intro j x hj h0
      simp [stX, rwX, hj, h0]
    · simp [stX]
    · intro x hx
      simp only [stX, rwX, show ¬ ((10 : Nat) = 0 ∧ 172 * (min (8 + 1) 8 - 1) + x = 33) by omega, if_false, if_true]
      rw [show 172 * (min (8 + 1) 8 - 1) + x = 172 * 7 + x by omega, fil_in hx]
      simp
    · intro i x hi hx
      simp only [stX, rwX, show ¬ ((10 : Nat) = 0 ∧ 172 * i + x = 33) by omega, if_false, if_true]
      rw [fil_lt (by omega), show 172 * i + x = 0 + (172 * i + x) by omega]
      simp only [show ¬ ((10 : Nat) = 0 ∧ 0 + (172 * i + x) = 33) by omega, if_false]
      rw [fil_in (by omega)]
      refine congrArg (X.1 10) ?_
      omega
  · rw [if_neg (by rw [hX]; simp (disch := omega) only [eq_nl]; exact h8)]
    unfold f_X11_keep_46
    rw [keep48_eq N X m (by omega) hX hN]
    refine ⟨_, rfl, rfl, ?_, ?_, ?_, ?_⟩
    · intro j x hj h0
      simp [stX, rwX, hj, h0]
    · simp [stX]
      congr 1
      omega
    · intro x hx
      simp only [stX, rwX, show ¬ ((10 : Nat) = 0 ∧ 172 * (min (m + 1) 8 - 1) + x = 33) by omega, if_false, if_true]
      rw [show 172 * (min (m + 1) 8 - 1) + x = 172 * m + x by omega, fil_in hx]
    · intro i x hi hx
      simp only [stX, rwX, show ¬ ((10 : Nat) = 0 ∧ 172 * i + x = 33) by omega, if_false, if_true]
      rw [fil_lt (by omega)]
      refine congrArg (X.1 10) ?_
      omega
