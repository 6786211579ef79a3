theorem tries_eq (N : Nat) (X : XM) (hN : 2000 ≤ N) : f_X11_tries N X = rt 0 (rwX X 9 (fil (X.1 9) (fun x => X.1 2 (371 + x)) 0 172)) := by
  unfold f_X11_tries
  have h := loop_0st (fun m i Y => f_X11_tries_2 N m i Y) (fun k => rwX X 9 (fil (X.1 9) (fun x => X.1 2 (371 + x)) 0 k)) 172 (rt 0 (rwX X 9 (fil (X.1 9) (fun x => X.1 2 (371 + x)) 0 172)))
    (fun m k hk => by
      simp (disch := omega) only [f_X11_tries_2, le_ln, if_neg, nI_la, ldA_nI, sxA_nI, nI_al, stX_rwX, rwX_out]
      rw [← fil_s, Nat.zero_add])
    (fun m => by simp (disch := omega) only [f_X11_tries_2, le_ln, if_pos]) (fuel := N) (by omega)
  simpa [fil_0, rwX_self] using h
theorem back_eq (N : Nat) (X : XM) (hN : 2000 ≤ N) : f_X11_back N X = rt 0 (rwX X 2 (fil (X.1 2) (X.1 9) 371 172)) := by
  unfold f_X11_back
  have h := loop_0st (fun m i Y => f_X11_back_2 N m i Y) (fun k => rwX X 2 (fil (X.1 2) (X.1 9) 371 k)) 172 (rt 0 (rwX X 2 (fil (X.1 2) (X.1 9) 371 172)))
    (fun m k hk => by
      simp (disch := omega) only [f_X11_back_2, le_ln, if_neg, nI_la, ldA_nI, sxA_nI, nI_al, stX_rwX, rwX_out]
      rw [← fil_s])
    (fun m => by simp (disch := omega) only [f_X11_back_2, le_ln, if_pos]) (fuel := N) (by omega)
  simpa [fil_0, rwX_self] using h
theorem undo26_eq (N : Nat) (Z : XM) (m : Nat) (hm : m < 8) (hZ : Z.1 0 33 = nI m) (hN : 2000 ≤ N) : f_X11_undo_26 N N 0 Z = rt (nI m) (rwX Z 2 (fil (Z.1 2) (fun x => Z.1 10 (172 * m + x)) 371 172)) := by
  have h := loop_0st (fun n i Y => f_X11_undo_26 N n i Y) (fun k => rwX Z 2 (fil (Z.1 2) (fun x => Z.1 10 (172 * m + x)) 371 k)) 172 (rt (nI m) (rwX Z 2 (fil (Z.1 2) (fun x => Z.1 10 (172 * m + x)) 371 172)))
    (fun n k hk => by
      simp (disch := omega) only [f_X11_undo_26, le_ln, if_neg, rwX_out, hZ, nI_lm, nI_add, nI_la, nI_al, ldA_nI, sxA_nI, stX_rwX]
      rw [← fil_s])
    (fun n => by simp (disch := omega) only [f_X11_undo_26, le_ln, if_pos, rwX_out, hZ]) (fuel := N) (by omega)
  simpa [fil_0, rwX_self] using h
theorem keep48_eq (N : Nat) (Z : XM) (m : Nat) (hm : m < 8) (hZ : Z.1 0 33 = nI m) (hN : 2000 ≤ N) : f_X11_keep_48 N N 0 Z = rt 0 (stX (rwX Z 10 (fil (Z.1 10) (fun x => Z.1 2 (371 + x)) (172 * m) 172)) 0 33 (nI (m + 1))) := by
  have h := loop_0st (fun n i Y => f_X11_keep_48 N n i Y) (fun k => rwX Z 10 (fil (Z.1 10) (fun x => Z.1 2 (371 + x)) (172 * m) k)) 172 (rt 0 (stX (rwX Z 10 (fil (Z.1 10) (fun x => Z.1 2 (371 + x)) (172 * m) 172)) 0 33 (nI (m + 1))))
    (fun n k hk => by
      simp (disch := omega) only [f_X11_keep_48, le_ln, if_neg, rwX_out, hZ, nI_lm, nI_add, nI_la, nI_al, ldA_nI, sxA_nI, stX_rwX]
      rw [← fil_s])
    (fun n => by simp (disch := omega) only [f_X11_keep_48, le_ln, if_pos, rwX_out, hZ, nI_al, bnd_v]) (fuel := N) (by omega)
  simpa [fil_0, rwX_self] using h
