theorem t2 (k : Nat) (hk : k < 172) : ((172 : Int32) ≤ nI k) = (172 ≤ k) := by simp (disch := omega) only [le_ln]
theorem t3 (k : Nat) (hk : k < 172) : (if (172 : Int32) ≤ nI k then 1 else 2) = 2 := by simp (disch := omega) only [le_ln, if_neg]
theorem tries_eq (N : Nat) (X : XM) (hN : 2000 ≤ N) : f_X11_tries N X = rt 0 (rwX X 9 (fil (X.1 9) (fun x => X.1 2 (371 + x)) 0 172)) := by
  unfold f_X11_tries
  have h := loop_0st (fun m i Y => f_X11_tries_2 N m i Y) (fun k => rwX X 9 (fil (X.1 9) (fun x => X.1 2 (371 + x)) 0 k)) 172 (rt 0 (rwX X 9 (fil (X.1 9) (fun x => X.1 2 (371 + x)) 0 172)))
    (fun m k hk => by
      simp (disch := omega) only [f_X11_tries_2, le_ln, if_neg, nI_la, ldA_nI, sxA_nI, nI_al, stX_rwX, rwX_out]
      rw [← fil_s, Nat.zero_add])
    (fun m => by simp (disch := omega) only [f_X11_tries_2, le_ln, if_pos]) (fuel := N) (by omega)
  simpa [fil_0, rwX_self] using h
theorem back_eq (N : Nat) (X : XM) (hN : 2000 ≤ N) : f_X11_back N X = rt 0 (rwX X 2 (fil (X.1 2) (X.1 9) 371 172)) := by
  unfold f_X11_back
  have h := loop_0st (fun m i Y => f_X11_back_2 N m i Y) (fun k => rwX X 2 (fil (X.1 2) (X.1 9) 371 k)) 172 (rt 0 (rwX X 2 (fil (X.1 2) (X.1 9) 371 172)))
    (fun m k hk => by
      simp (disch := omega) only [f_X11_back_2, le_ln, if_neg, nI_la, ldA_nI, sxA_nI, nI_al, stX_rwX, rwX_out]
      rw [← fil_s])
    (fun m => by simp (disch := omega) only [f_X11_back_2, le_ln, if_pos]) (fuel := N) (by omega)
  simpa [fil_0, rwX_self] using h
