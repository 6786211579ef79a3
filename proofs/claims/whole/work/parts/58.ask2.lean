/-! cell, now; the tape. -/
theorem thV_own : ∀ k, k < 8 → nI (16 + k) >>> (4 &&& 31) = 1 ∧ nI (16 + k) ≠ 0 ∧ nI (16 + k) ≠ 48 ∧ nI (16 + k) &&& 15 = nI k := by decide +kernel
theorem thV_tree : ∀ k, k < 12 → nI (32 + k) >>> (4 &&& 31) = 2 ∧ nI (32 + k) ≠ 0 ∧ nI (32 + k) ≠ 48 ∧ nI (32 + k) &&& 15 = nI k := by decide +kernel
theorem look {N c : Nat} {X : XM} {n : BN} {th : Nat → Int32} (hN : 2000 ≤ N) (hO : n.2.2.1 ≤ 8) (hT : n.2.2.2 ≤ 12) (hX2 : X.1 2 2 = nI n.2.2.1) (hX3 : X.1 2 3 = nI n.2.2.2) (h : ThingR n (X.1 2) (fun k => X.1 2 (429 + k)) (fun c => X.1 2 (441 + c)) th) (hc : c < 100) :
    ∃ v4 v6, f_X11_ownerAt N (nI c) X = some (v4, X) ∧ f_X11_treeAt N (nI c) X = some (v6, X) ∧ ((∃ k, k < 8 ∧ v4 = nI k ∧ th c = nI (16 + k)) ∨ (v4 = -1 ∧ ∃ t, t < 12 ∧ v6 = nI t ∧ th c = nI (32 + t)) ∨ (v4 = -1 ∧ v6 = -1 ∧ X.1 2 (441 + c) = 1 ∧ th c = 48) ∨ (v4 = -1 ∧ v6 = -1 ∧ X.1 2 (441 + c) ≠ 1 ∧ th c = 0)) := by
  have h1 := ownerAt_go N X n.2.2.1 hX2 hO (nI c) n.2.2.1 0 N (by omega) (by omega)
  have h2 := treeAt_go N X n.2.2.2 hX3 hT (nI c) n.2.2.2 0 N (by omega) (by omega)
  rcases h1 with ⟨k, -, k2, k3, k4⟩ | ⟨k1, k2⟩
  · rcases h2 with ⟨t, -, t2, t3, t4, t5⟩ | ⟨t1, t2⟩
    · exact ⟨_, _, k4, t5, Or.inl ⟨k, by omega, rfl, h.1 k k2 c k3 hc⟩⟩
    · exact ⟨_, _, k4, t2, Or.inl ⟨k, by omega, rfl, h.1 k k2 c k3 hc⟩⟩
  · rcases h2 with ⟨t, -, t2, t3, t4, t5⟩ | ⟨t1, t2⟩
    · exact ⟨_, _, k2, t5, Or.inr (Or.inl ⟨rfl, t, by omega, rfl, h.2.1 t t2 t4 c t3 hc⟩)⟩
    · refine ⟨_, _, k2, t2, Or.inr (Or.inr ?_)⟩
      by_cases hf : X.1 2 (441 + c) = 1
      · exact Or.inl ⟨rfl, rfl, hf, h.2.2.1 c hc hf⟩
      · exact Or.inr ⟨rfl, rfl, hf, h.2.2.2 c hc (fun k hk => k1 k (Nat.zero_le _) hk) (fun t ht hs e => t1 t (Nat.zero_le _) ht e hs) hf⟩
theorem isBare_eq {N c : Nat} {X : XM} {n : BN} {th : Nat → Int32} (hN : 2000 ≤ N) (hO : n.2.2.1 ≤ 8) (hT : n.2.2.2 ≤ 12) (hX2 : X.1 2 2 = nI n.2.2.1) (hX3 : X.1 2 3 = nI n.2.2.2) (h : ThingR n (X.1 2) (fun k => X.1 2 (429 + k)) (fun c => X.1 2 (441 + c)) th) (hc : c < 100) (hf : X.1 2 (441 + c) = 0 ∨ X.1 2 (441 + c) = 1) : f_X11_isBare N (nI c) X = some (if th c = 0 then 1 else 0, X) := by
  obtain ⟨v4, v6, e1, e2, e3⟩ := look hN hO hT hX2 hX3 h hc
  unfold f_X11_isBare
  rw [e1, cal_some, e2, cal_some]
  simp (disch := omega) only [nI_la, ldA_nI]
  rcases e3 with ⟨k, hk, rfl, e⟩ | ⟨rfl, t, ht, rfl, e⟩ | ⟨rfl, rfl, h1, e⟩ | ⟨rfl, rfl, h1, e⟩
  · rw [if_pos (nI_pos' (by omega)), e, if_neg (thV_own k hk).2.1]
    rfl
  · rw [if_neg (by decide), if_pos (nI_pos' (by omega)), e, if_neg (thV_tree t ht).2.1]
    rfl
  · rw [if_neg (by decide), if_neg (by decide), h1, e, if_neg (by decide), if_neg (by decide)]
    rfl
  · have h0 : X.1 2 (441 + c) = 0 := by
      rcases hf with h | h
      · exact h
      · exact absurd h h1
    rw [if_neg (by decide), if_neg (by decide), h0, e, if_pos rfl, if_pos rfl]
    rfl
def celG (N : Nat) (a1 a2 : Int32) (X2 : XM) : Option (Int32 × XM) := cal (f_X11_ownerAt N a1 X2) (fun v4 X5 => cal (f_X11_treeAt N a1 X5) (fun v6 X7 => (if a2 = 0 then (if v4 < 0 then (if v6 < 0 then ldA (X7.1 2) 845 (441 + a1) (fun v14 => (if v14 = 1 then (rt 3 X7) else (rt 0 X7))) else (rt 2 X7)) else (rt 1 X7)) else (if a2 = 1 then (if v4 < 0 then (rt v6 X7) else (rt v4 X7)) else ldA (X7.1 2) 845 (75 + a1) (fun v10 => (rt v10 X7))))))
theorem cel23 (N : Nat) (b1 b2 as0 : Int32) (X : XM) : f_X11_cell_23 N b1 b2 as0 X = cal (f_X11_throwsIf as0 X) (fun v1 X2 => if v1 = 0 then celG N b1 b2 X2 else rt 0 X2) := rfl
section ASK2
variable {N : Nat}
theorem op_cell (hN : 2000 ≤ N) (b1 b2 : Int32) : OPX (Rel N) (f_X10_cell b1 b2) (f_X11_cell N b1 b2) := op_x fun C X hR => by
  obtain ⟨⟨n, ⟨hB, hS, -⟩, -⟩, -, -, hRef, -⟩ := hR
  obtain ⟨bw, bh, bO, bT⟩ := bk_bd hB
  have hb := (b_lt hRef).1
  unfold f_X10_cell f_X11_cell f_X11_cell_18 f_X10_cell_23
  rw [ldR_lt hb]
  have hY : ∀ Y : XM, Y.1 = X.1 → BankR (C.1 3 (C.2 2 0 1)) (Y.1 2) n := fun Y e => by rw [e]; exact hB
  have no : ∀ Y : XM, f_X11_cell_23 N b1 b2 1 Y = some (0, stX Y 0 0 1) := fun Y => by
    rw [cel23, throws_eq 1 (Or.inr rfl), cal_some, if_neg (by decide)]
    rfl
  rcases isCell_rel (X := X) hB rfl b1 with ⟨c, hc, rfl, e1, -⟩ | ⟨e1, e2⟩
  rotate_left
  · rw [e1, cal_some, if_pos rfl]
    refine ⟨0, true, rfl, fun Y e => ⟨0, ?_, fun h => by cases h⟩⟩
    rcases isCell_rel (hY Y e) rfl b1 with ⟨k, -, rfl, e3, -⟩ | ⟨-, e4⟩
    · rw [e1] at e3
      cases e3
    · rw [e4, cal_some, if_pos rfl]
      exact no Y
  rw [e1, cal_some, if_neg (show ¬ ((1 : Int32) = 0) by decide)]
  have e5 : ∀ Y : XM, Y.1 = X.1 → f_X11_isCell (nI c) Y = some (1, Y) := fun Y e => by
    rcases isCell_rel (hY Y e) rfl (nI c) with ⟨_, -, -, -, e4⟩ | ⟨e3, -⟩
    · exact e4
    · rw [e1] at e3
      cases e3
  by_cases h2 : b2 < 0
  · rw [if_pos h2]
    refine ⟨0, true, rfl, fun Y e => ⟨0, ?_, fun h => by cases h⟩⟩
    rw [e5 Y e, cal_some, if_neg (show ¬ ((1 : Int32) = 0) by decide), isIn_eq, cal_some, if_pos h2, if_pos rfl]
    exact no Y
  rw [if_neg h2]
  by_cases h3 : b2 ≤ 2
  rotate_left
  · rw [if_neg h3]
    refine ⟨0, true, rfl, fun Y e => ⟨0, ?_, fun h => by cases h⟩⟩
    rw [e5 Y e, cal_some, if_neg (show ¬ ((1 : Int32) = 0) by decide), isIn_eq, cal_some, if_neg h2, if_pos (Int32.not_le.mp h3), if_pos rfl]
    exact no Y
  obtain ⟨hc1, hc2, hc3⟩ := hc
  rw [if_pos h3, ldA_nI hc1 (by omega)]
  have fin : ∀ (v : Int32) (F : Option (Int32 × (CM × Bool))), F = some (v, (C, false)) → (∀ Y : XM, Y.1 2 = X.1 2 → celG N (nI c) b2 Y = some (v, Y)) → ∃ v t, F = some (v, (C, t)) ∧ ∀ Y : XM, Y.1 = X.1 → ∃ b, (cal (f_X11_isCell (nI c) Y) fun v1 X2 => if v1 = 0 then f_X11_cell_23 N (nI c) b2 1 X2 else cal (f_X11_isIn b2 0 2 X2) fun v4 X5 => if v4 = 0 then f_X11_cell_23 N (nI c) b2 1 X5 else f_X11_cell_23 N (nI c) b2 0 X5) = some (b, stX Y 0 0 (if t = true then 1 else 0)) ∧ (t = false → b = v) := by
    intro v F hF hG
    refine ⟨v, false, hF, fun Y e => ⟨v, ?_, fun _ => rfl⟩⟩
    rw [e5 Y e, cal_some, if_neg (show ¬ ((1 : Int32) = 0) by decide), isIn_eq, cal_some, if_neg h2, if_neg (Int32.not_lt.mpr h3), if_neg (show ¬ ((1 : Int32) = 0) by decide), cel23, throws_eq 0 (Or.inl rfl), cal_some, if_pos rfl]
    exact hG _ ((stX_row (by omega)).trans (by rw [e]))
  have hth := sh_th hS
  have lk : ∀ Y : XM, Y.1 2 = X.1 2 → _ := fun Y e => look (N := N) (X := Y) (c := c) (th := C.1 4 0 8) hN bO bT (by rw [e]; exact (bk_o hB).2) (by rw [e]; exact (bk_t hB).2) (by rw [e]; exact hth) hc1
  obtain ⟨ev, hev, hev1, hev2⟩ := bk_eddy hB c hc1
  by_cases a0 : b2 = 0
  · subst a0
    refine fin (C.1 4 0 8 c >>> (4 &&& 31)) _ rfl (fun Y e => ?_)
    obtain ⟨v4, v6, q1, q2, q3⟩ := lk Y e
    unfold celG
    rw [q1, cal_some, q2, cal_some, if_pos rfl]
    simp (disch := omega) only [nI_la, ldA_nI]
    rcases q3 with ⟨k, hk, rfl, e⟩ | ⟨rfl, t, ht, rfl, e⟩ | ⟨rfl, rfl, h1, e⟩ | ⟨rfl, rfl, h1, e⟩
    · rw [if_neg (nI_nneg (by omega)), e, (thV_own k hk).1]
      rfl
    · rw [if_pos (by decide), if_neg (nI_nneg (by omega)), e, (thV_tree t ht).1]
      rfl
    · rw [if_pos (by decide), if_pos (by decide), h1, if_pos rfl, e]
      rfl
    · rw [if_pos (by decide), if_pos (by decide), if_neg h1, e]
      rfl
  by_cases a1 : b2 = 1
  · subst a1
    refine fin (if C.1 4 0 8 c = 0 then -1 else if C.1 4 0 8 c = 48 then -1 else C.1 4 0 8 c &&& 15) _ ?_ (fun Y e => ?_)
    · show (if C.1 4 0 8 c = 0 then f_X10_cell_86 C else if C.1 4 0 8 c = 48 then f_X10_cell_86 C else rt (C.1 4 0 8 c &&& 15) (C, false)) = _
      split
      · rfl
      · split <;> rfl
    obtain ⟨v4, v6, q1, q2, q3⟩ := lk Y e
    unfold celG
    rw [q1, cal_some, q2, cal_some, if_neg (by decide), if_pos rfl]
    rcases q3 with ⟨k, hk, rfl, e⟩ | ⟨rfl, t, ht, rfl, e⟩ | ⟨rfl, rfl, h1, e⟩ | ⟨rfl, rfl, h1, e⟩
    · rw [if_neg (nI_nneg (by omega)), e, if_neg (thV_own k hk).2.1, if_neg (thV_own k hk).2.2.1, (thV_own k hk).2.2.2]
      rfl
    · rw [if_pos (by decide), e, if_neg (thV_tree t ht).2.1, if_neg (thV_tree t ht).2.2.1, (thV_tree t ht).2.2.2]
      rfl
    · rw [if_pos (by decide), e]
      rfl
    · rw [if_pos (by decide), e]
      rfl
  refine fin (nI ev) _ ?_ (fun Y e => ?_)
  · rw [if_neg a0, if_neg a1, ldR_lt hb, ldA_nI hc1 (by omega), hev1]
    rfl
  · obtain ⟨v4, v6, q1, q2, q3⟩ := lk Y e
    unfold celG
    rw [q1, cal_some, q2, cal_some, if_neg a0, if_neg a1]
    simp (disch := omega) only [nI_la, ldA_nI]
    rw [e, hev2]
    rfl
def sumW (f : Nat → Int32) : Nat → Int32
  | 0 => 0
  | k + 1 => sumW f k + f k
theorem sumW_z {f : Nat → Int32} {O : Nat} : ∀ d, (∀ o, O ≤ o → o < O + d → f o = 0) → sumW f (O + d) = sumW f O := by
  intro d
  induction d with
  | zero => intro _; rfl
  | succ d ih =>
    intro h
    show sumW f (O + d) + f (O + d) = sumW f O
    rw [ih (fun o h1 h2 => h o h1 (by omega)), h (O + d) (by omega) (by omega), Int32.add_zero]
theorem sumW_eq {f g : Nat → Int32} : ∀ k, (∀ o, o < k → f o = g o) → sumW f k = sumW g k := by
  intro k
  induction k with
  | zero => intro _; rfl
  | succ k ih =>
    intro h
    show sumW f k + f k = sumW g k + g k
    rw [ih (fun o ho => h o (by omega)), h k (by omega)]
theorem sumW_nI {f : Nat → Nat} : ∀ k, sumW (fun o => nI (f o)) k = nI (sumN f k) := by
  intro k
  induction k with
  | zero => rfl
  | succ k ih =>
    show sumW (fun o => nI (f o)) k + nI (f k) = nI (sumN f k + f k)
    rw [ih, nI_add]
theorem sum_g_eq (C : CM) (hN : 2000 ≤ N) : f_X10_sum_g N 0 C = some (sumW (C.1 4 0 1) 8, C) := by
  unfold f_X10_sum_g
  refine loop_0st (fun m i a => f_X10_sum_g_4 N 0 m a i C) (fun k => sumW (C.1 4 0 1) k) 8 _ (fun m k hk => ?_) (fun m => ?_) (by omega)
  · simp (disch := omega) only [f_X10_sum_g_4, le_ln, if_neg, ldA_nI, nI_al]
    rfl
  · simp (disch := omega) only [f_X10_sum_g_4, le_ln, if_pos, rt]
theorem sum_p_eq (C : CM) (hN : 2000 ≤ N) : f_X10_sum_p N 0 C = some (sumW (C.1 4 0 2) 8, C) := by
  unfold f_X10_sum_p
  refine loop_0st (fun m i a => f_X10_sum_p_4 N 0 m a i C) (fun k => sumW (C.1 4 0 2) k) 8 _ (fun m k hk => ?_) (fun m => ?_) (by omega)
  · simp (disch := omega) only [f_X10_sum_p_4, le_ln, if_neg, ldA_nI, nI_al]
    rfl
  · simp (disch := omega) only [f_X10_sum_p_4, le_ln, if_pos, rt]
theorem sumOf_eq {O : Nat} (X : XM) (hN : 2000 ≤ N) (hO : O ≤ 8) (hX : X.1 2 2 = nI O) (a : Nat) (ha : a < 800) : f_X11_sumOf N (nI a) X = some (sumW (fun o => X.1 2 (a + o)) O, X) := by
  unfold f_X11_sumOf
  refine loop_0st (fun m i v => f_X11_sumOf_4 N (nI a) m v i X) (fun k => sumW (fun o => X.1 2 (a + o)) k) O _ (fun m k hk => ?_) (fun m => ?_) (by omega)
  · simp (disch := omega) only [f_X11_sumOf_4, ldA_l, hX, le_nn, if_neg, nI_add, ldA_nI, nI_al]
    rfl
  · simp (disch := omega) only [f_X11_sumOf_4, ldA_l, hX, le_nn, if_pos, rt]
theorem fences_eq {fe : Nat → Nat} (X : XM) (hN : 2000 ≤ N) (hf : ∀ c, c < 100 → X.1 2 (441 + c) = nI (fe c)) : f_X11_fences N X = some (nI (sumN fe 100), X) := by
  unfold f_X11_fences
  refine loop_0st (fun m i v => f_X11_fences_4 N m v i X) (fun k => nI (sumN fe k)) 100 _ (fun m k hk => ?_) (fun m => ?_) (by omega)
  · have := hf k hk
    simp (disch := omega) only [f_X11_fences_4, le_ln, if_neg, nI_la, ldA_nI, this, nI_add, nI_al]
    rfl
  · simp (disch := omega) only [f_X11_fences_4, le_ln, if_pos, rt]
def bcV (a : Int32) : Int32 := match f_J6_bitCount_0f7a4 a C0m with
  | some (v, _) => v
  | none => 0
theorem bc_eq (a : Int32) (C : CM) : f_J6_bitCount_0f7a4 a C = some (bcV a, C) := rfl
def popT (m : Nat) : Nat → Nat := sumN (fun k => (m.testBit k).toNat)
theorem bc_64 : ∀ a, a < 64 → ∀ b, b < 64 → bcV (nI (64 * a + b)) = nI (popT (64 * a + b) 12) := by decide +kernel
theorem bc_pop {m : Nat} (h : m < 4096) : bcV (nI m) = nI (popT m 12) := by
  have := bc_64 (m / 64) (by omega) (m % 64) (by omega)
  rwa [Nat.div_add_mod] at this
theorem sh_64 : ∀ a, a < 64 → ∀ b, b < 64 → ∀ t, t < 12 → ((nI (64 * a + b)) >>> (nI t &&& 31)) &&& 1 = nI ((64 * a + b).testBit t).toNat := by decide +kernel
theorem sh_bit {m t : Nat} (h : m < 4096) (ht : t < 12) : ((nI m) >>> (nI t &&& 31)) &&& 1 = nI (m.testBit t).toNat := by
  have := sh_64 (m / 64) (by omega) (m % 64) (by omega) t ht
  rwa [Nat.div_add_mod] at this
theorem sumN_z {f : Nat → Nat} {O : Nat} : ∀ d, (∀ o, O ≤ o → o < O + d → f o = 0) → sumN f (O + d) = sumN f O := by
  intro d
  induction d with
  | zero => intro _; rfl
  | succ d ih =>
    intro h
    show sumN f (O + d) + f (O + d) = sumN f O
    rw [ih (fun o h1 h2 => h o h1 (by omega)), h (O + d) (by omega) (by omega), Nat.add_zero]
theorem op_now (hN : 2000 ≤ N) (b1 : Int32) : OP (Rel N) (f_X10_now N b1) (f_X11_now N b1) := op_q fun C X hR => by
  obtain ⟨⟨n, ⟨hB, hS, -⟩, -⟩, -, -, hRef, -⟩ := hR
  obtain ⟨bw, bh, bO, bT⟩ := bk_bd hB
  have r2 : (stX X 0 0 0).1 2 = X.1 2 := stX_row (by omega)
  obtain ⟨m, hm, m1, m2⟩ := sh_sd hS
  obtain ⟨fe, f1, f2, f3⟩ := sh_fe hS
  obtain ⟨l, l1, l2, l3⟩ := sh_lt hS
  have row := sh_row hS
  have hz := sh_z hS
  have x3 : (stX X 0 0 0).1 2 3 = nI n.2.2.2 := by rw [r2]; exact (bk_t hB).2
  have x2 : (stX X 0 0 0).1 2 2 = nI n.2.2.1 := by rw [r2]; exact (bk_o hB).2
  unfold f_X11_now
  rw [bnd_v]
  have hloop : f_X11_now_9 N b1 N 0 0 (stX X 0 0 0) = (if b1 = 0 then ldA ((stX X 0 0 0).1 2) 845 371 (fun v4 => (rt v4 (stX X 0 0 0))) else if b1 = 1 then ldA ((stX X 0 0 0).1 2) 845 372 (fun v6 => (rt v6 (stX X 0 0 0))) else if b1 = 2 then cal (f_X11_sumOf N 373 (stX X 0 0 0)) (fun v8 X9 => (rt v8 X9)) else if b1 = 3 then cal (f_X11_sumOf N 381 (stX X 0 0 0)) (fun v11 X12 => (rt v11 X12)) else if b1 = 4 then cal (f_X11_fences N (stX X 0 0 0)) (fun v14 X15 => (rt v14 X15)) else if b1 = 5 then (rt (nI (popT m 12)) (stX X 0 0 0)) else if b1 = 6 then ldA ((stX X 0 0 0).1 2) 845 541 (fun v18 => (rt (v18 - 1) (stX X 0 0 0))) else if b1 = 7 then ldA ((stX X 0 0 0).1 2) 845 542 (fun v20 => (rt v20 (stX X 0 0 0))) else (rt (-1) (stX X 0 0 0))) := by
    have e12 : popT m 12 = popT m n.2.2.2 := by
      have := sumN_z (f := fun k => (m.testBit k).toNat) (O := n.2.2.2) (12 - n.2.2.2) (fun o h1 h2 => by
        show (m.testBit o).toNat = 0
        rw [(m2 o (by omega)).2 h1]
        rfl)
      rwa [show n.2.2.2 + (12 - n.2.2.2) = 12 by omega] at this
    rw [e12]
    refine loop_0st (fun mm i v => f_X11_now_9 N b1 mm v i (stX X 0 0 0)) (fun k => nI (popT m k)) n.2.2.2 _ (fun mm k hk => ?_) (fun mm => ?_) (by omega)
    · have x4 : (stX X 0 0 0).1 2 (429 + k) = nI (m.testBit k).toNat := by rw [r2]; exact (m2 k (by omega)).1
      simp (disch := omega) only [f_X11_now_9, ldA_l, x3, le_nn, if_neg, nI_la, ldA_nI, x4, nI_add, nI_al]
      rfl
    · simp (disch := omega) only [f_X11_now_9, ldA_l, x3, le_nn, if_pos]
  rw [hloop]
  unfold f_X10_now
  by_cases a0 : b1 = 0
  · subst a0
    refine ⟨_, C, stX X 0 0 0, rfl, ?_, CE.rf C, xe_0 X 0⟩
    show ldA ((stX X 0 0 0).1 2) 845 371 (fun v4 => (rt v4 (stX X 0 0 0))) = _
    rw [ldA_l (by decide) (by decide), r2, sh_q hS]
    rfl
  by_cases a1 : b1 = 1
  · subst a1
    refine ⟨_, C, stX X 0 0 0, rfl, ?_, CE.rf C, xe_0 X 0⟩
    show ldA ((stX X 0 0 0).1 2) 845 372 (fun v4 => (rt v4 (stX X 0 0 0))) = _
    rw [ldA_l (by decide) (by decide), r2, sh_tr hS]
    rfl
  by_cases a2 : b1 = 2
  · subst a2
    refine ⟨sumW (C.1 4 0 1) 8, C, stX X 0 0 0, ?_, ?_, CE.rf C, xe_0 X 0⟩
    · show cal (f_X10_sum_g N 0 C) (fun v4 C5 => (rt v4 C5)) = _
      rw [sum_g_eq C hN]
      rfl
    · show cal (f_X11_sumOf N (nI 373) (stX X 0 0 0)) (fun v8 X9 => (rt v8 X9)) = _
      rw [sumOf_eq _ hN bO x2 373 (by omega), cal_some, r2]
      have e1 := sumW_z (f := C.1 4 0 1) (O := n.2.2.1) (8 - n.2.2.1) (fun o h1 h2 => hz 1 o (by omega) h1 (by omega))
      rw [show n.2.2.1 + (8 - n.2.2.1) = 8 by omega] at e1
      rw [e1, sumW_eq (g := fun o => X.1 2 (373 + o)) n.2.2.1 (fun o ho => row 1 o (by omega) (by omega) (by omega))]
      rfl
  by_cases a3 : b1 = 3
  · subst a3
    refine ⟨sumW (C.1 4 0 2) 8, C, stX X 0 0 0, ?_, ?_, CE.rf C, xe_0 X 0⟩
    · show cal (f_X10_sum_p N 0 C) (fun v4 C5 => (rt v4 C5)) = _
      rw [sum_p_eq C hN]
      rfl
    · show cal (f_X11_sumOf N (nI 381) (stX X 0 0 0)) (fun v8 X9 => (rt v8 X9)) = _
      rw [sumOf_eq _ hN bO x2 381 (by omega), cal_some, r2]
      have e1 := sumW_z (f := C.1 4 0 2) (O := n.2.2.1) (8 - n.2.2.1) (fun o h1 h2 => hz 2 o (by omega) h1 (by omega))
      rw [show n.2.2.1 + (8 - n.2.2.1) = 8 by omega] at e1
      rw [e1, sumW_eq (g := fun o => X.1 2 (381 + o)) n.2.2.1 (fun o ho => row 2 o (by omega) (by omega) (by omega))]
      rfl
  by_cases a4 : b1 = 4
  · subst a4
    refine ⟨_, C, stX X 0 0 0, rfl, ?_, CE.rf C, xe_0 X 0⟩
    show cal (f_X11_fences N (stX X 0 0 0)) (fun v14 X15 => (rt v14 X15)) = _
    rw [fences_eq (fe := fe) _ hN (fun c hc => by rw [r2]; exact (f1 c hc).2), f3]
    rfl
  by_cases a5 : b1 = 5
  · subst a5
    refine ⟨_, C, stX X 0 0 0, ?_, rfl, CE.rf C, xe_0 X 0⟩
    show cal (f_J6_bitCount_0f7a4 (C.1 4 0 0 3) C) (fun v11 C12 => (rt v11 C12)) = _
    rw [bc_eq, m1, bc_pop hm]
    rfl
  by_cases a6 : b1 = 6
  · subst a6
    refine ⟨_, C, stX X 0 0 0, rfl, ?_, CE.rf C, xe_0 X 0⟩
    show ldA ((stX X 0 0 0).1 2) 845 541 (fun v4 => (rt (v4 - 1) (stX X 0 0 0))) = _
    rw [ldA_l (by decide) (by decide), r2]
    show rt (X.1 2 541 - 1) _ = _
    rw [l2, l3]
    rfl
  by_cases a7 : b1 = 7
  · subst a7
    refine ⟨_, C, stX X 0 0 0, rfl, ?_, CE.rf C, xe_0 X 0⟩
    show ldA ((stX X 0 0 0).1 2) 845 542 (fun v4 => (rt v4 (stX X 0 0 0))) = _
    rw [ldA_l (by decide) (by decide), r2, sh_ru hS]
    rfl
  rw [if_neg a0, if_neg a1, if_neg a2, if_neg a3, if_neg a4, if_neg a5, if_neg a6, if_neg a7, if_neg a0, if_neg a1, if_neg a2, if_neg a3, if_neg a4, if_neg a5, if_neg a6, if_neg a7]
  exact ⟨_, C, stX X 0 0 0, rfl, rfl, CE.rf C, xe_0 X 0⟩
def SameC (C C' : CM) : Prop := C'.2 = C.2 ∧ ∀ k i j x, k ≠ 0 → scrC k i j = false → C'.1 k i j x = C.1 k i j x
def SameX (X X' : XM) : Prop := X'.1 2 = X.1 2 ∧ X'.1 10 = X.1 10 ∧ X'.1 17 = X.1 17 ∧ X'.1 19 = X.1 19 ∧ X'.1 0 33 = X.1 0 33 ∧ (∀ x, x < 8 → X'.2 5 x = X.2 5 x) ∧ X'.2 6 = X.2 6 ∧ X'.2 18 = X.2 18
theorem SameC.rf (C : CM) : SameC C C := ⟨rfl, fun _ _ _ _ _ _ => rfl⟩
theorem SameC.trans {A B C : CM} (h1 : SameC A B) (h2 : SameC B C) : SameC A C := ⟨h2.1.trans h1.1, fun k i j x a c => (h2.2 k i j x a c).trans (h1.2 k i j x a c)⟩
theorem SameX.rf (X : XM) : SameX X X := ⟨rfl, rfl, rfl, rfl, rfl, fun _ _ => rfl, rfl, rfl⟩
theorem SameX.trans {A B C : XM} (h1 : SameX A B) (h2 : SameX B C) : SameX A C := ⟨h2.1.trans h1.1, h2.2.1.trans h1.2.1, h2.2.2.1.trans h1.2.2.1, h2.2.2.2.1.trans h1.2.2.2.1, h2.2.2.2.2.1.trans h1.2.2.2.2.1, fun x hx => (h2.2.2.2.2.2.1 x hx).trans (h1.2.2.2.2.2.1 x hx), h2.2.2.2.2.2.2.1.trans h1.2.2.2.2.2.2.1, h2.2.2.2.2.2.2.2.trans h1.2.2.2.2.2.2.2⟩
theorem same_ce {C C' : CM} (h : CE C C') : SameC C C' := ⟨h.1, fun k i j x _ c => h.2 k i j x c⟩
theorem same_xe {X X' : XM} (h : XE X X') : SameX X X' := ⟨h.2.1 2 rfl, h.2.1 10 rfl, h.2.1 17 rfl, h.2.1 19 rfl, h.1 33 rfl, h.2.2.1, h.2.2.2.1, h.2.2.2.2⟩
theorem same_st0 (C : CM) {i j x : Nat} {v : Int32} : SameC C (stC C 0 i j x v) := by
  refine ⟨rfl, fun k i' j' x' h _ => ?_⟩
  simp only [stC]
  rw [if_neg (by omega)]
theorem same_stX (X : XM) {j x : Nat} {v : Int32} (h : (j = 0 ∧ x ≠ 33) ∨ (j ≠ 0 ∧ j ≠ 2 ∧ j ≠ 10 ∧ j ≠ 17 ∧ j ≠ 19)) : SameX X (stX X j x v) := by
  refine ⟨stX_row (by omega), stX_row (by omega), stX_row (by omega), stX_row (by omega), ?_, fun _ _ => rfl, rfl, rfl⟩
  simp only [stX]
  rw [if_neg (by omega)]
theorem rel_upd {C C' : CM} {X X' : XM} (h : Rel N C X) (hc : SameC C C') (hx : SameX X X') (ht : TapeR C' X') (hm : MoreR C' X') (hp : PairR C' X') (hj : JudR C' X') (hf : C'.1 0 0 0 3 = X'.1 0 15) : Rel N C' X' := by
  obtain ⟨⟨n, h1, h2⟩, h3, h4, h5, h6, h7, h8, h9, h10, h11⟩ := h
  obtain ⟨x2, x10, x17, x19, x33, n5, n6, n18⟩ := hx
  have e2 : C'.2 = C.2 := hc.1
  have row : ∀ k i j, k ≠ 0 → scrC k i j = false → C'.1 k i j = C.1 k i j := fun k i j h1 h2 => funext fun x => hc.2 k i j x h1 h2
  have e9 : C'.1 9 0 0 = C.1 9 0 0 := row _ _ _ (by omega) rfl
  have e91 : C'.1 9 0 1 = C.1 9 0 1 := row _ _ _ (by omega) rfl
  have e7 : C'.1 7 0 0 = C.1 7 0 0 := row _ _ _ (by omega) rfl
  have e4 : ∀ i, i ≠ 3 → C'.1 4 i = C.1 4 i := fun i hi => funext fun j => row _ _ _ (by omega) (by simp [scrC, hi])
  have e3 : ∀ i, C'.1 3 i = C.1 3 i := fun i => funext fun j => row _ _ _ (by omega) (by simp [scrC])
  have e5 : ∀ i, C'.1 5 i = C.1 5 i := fun i => funext fun j => row _ _ _ (by omega) (by simp [scrC])
  have e6 : ∀ i j, j ≤ 3 → C'.1 6 i j = C.1 6 i j := fun i j hj => row _ _ _ (by omega) (by simp [scrC]; omega)
  have e22 : ∀ i, C'.1 2 i = C.1 2 i := fun i => funext fun j => row _ _ _ (by omega) (by simp [scrC])
  refine ⟨⟨n, ?_, ?_⟩, ht, ?_, ?_, ?_, hm, hp, hj, hf, n6.trans h11⟩
  · unfold HereR
    rw [e2, e3, e5, e4 0 (by omega), x2]
    exact whR_congr h1 (fun j hj => e6 _ j hj) n5
  · obtain ⟨top, kp, a1, a2, a3, a4, a5, a6⟩ := h2
    refine ⟨top, kp, a1, a2, ?_, ?_, x33.trans a5, fun i hi => ?_⟩
    · rw [e7]; exact a3
    · rw [e7]; exact a4
    · rw [e4 _ (by omega), x10, x2]
      exact a6 i hi
  · rw [e9]
    intro hk
    obtain ⟨q1, q2⟩ := h4 hk
    refine ⟨by rw [e9]; exact q1, fun a Y hY hm' => ?_⟩
    rw [e9, e91]
    exact q2 a Y (hY.trans x2) (fun x hx => (hm' x hx).trans (n5 x hx))
  · unfold RefR
    rw [e2]
    exact h5
  · intro k hk
    unfold ImgR
    rw [e22, e3, e5, e4 _ (by omega), x17, x19, n18]
    rcases h6 k hk with h | ⟨q1, q2, m, q3⟩
    · exact Or.inl h
    · exact Or.inr ⟨q1, q2, m, whR_congr q3 (fun j hj => e6 _ j hj) (fun _ _ => rfl)⟩
theorem op_end (b1 : Int32) : OP (Rel N) (f_X10_end b1) (f_X11_end b1) := by
  intro C X hR
  obtain ⟨-, ⟨L, hL, l1, l2, l3⟩, -, -, -, hm, hp, hj, hf, -⟩ := id hR
  unfold f_X10_end f_X11_end
  simp only [bnd_v]
  rw [stX_ne (by omega), l1, l2]
  by_cases h1 : b1 < 0
  · rw [if_pos h1, if_pos h1]
    exact ⟨_, _, _, rfl, rfl, rel_xe hR (xe_0 X 0)⟩
  rw [if_neg h1, if_neg h1]
  by_cases h2 : b1 ≤ nI L
  · rw [if_pos h2, if_pos h2]
    rcases int_cases b1 with h | ⟨k, hk, rfl⟩
    · exact absurd h h1
    rw [le_nn hk (by omega)] at h2
    refine ⟨_, _, _, rfl, rfl, rel_upd hR (same_st0 C) ((same_xe (xe_0 X 0)).trans (same_stX _ (by omega))) ⟨k, by omega, stC_at, stX_at, fun x hx => ?_⟩ ?_ ?_ ?_ ?_⟩
    · rw [stC_row (by omega), stX_row (by omega), stX_row (by omega)]
      exact l3 x hx
    · unfold MoreR
      rw [stC_ne (by omega), stX_ne (by omega), stX_ne (by omega), stX_ne (by omega), stX_ne (by omega)]
      exact hm
    · unfold PairR
      rw [stC_ne (by omega), stC_row (by omega), stX_ne (by omega), stX_ne (by omega), stX_row (by omega), stX_row (by omega)]
      exact hp
    · unfold JudR
      rw [stC_row (by omega), stX_ne (by omega), stX_ne (by omega), stX_row (by omega), stX_row (by omega)]
      exact hj
    · rw [stC_ne (by omega), stX_ne (by omega), stX_ne (by omega)]
      exact hf
  · rw [if_neg h2, if_neg h2]
    exact ⟨_, _, _, rfl, rfl, rel_xe hR (xe_0 X 0)⟩
end ASK2
