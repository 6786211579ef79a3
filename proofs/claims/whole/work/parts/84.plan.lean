/-! A line of a plan on both sides. -/
section PLAN2
variable {N : Nat}
/-- what of the bank a plan reads -/
def PcR (b : Nat) (n : BN) (C : CM) (X : XM) : Prop := n.1 ≤ 10 ∧ n.2.1 ≤ 10 ∧ n.2.2.1 ≤ 8 ∧ C.1 3 b 0 1 = nI n.1 ∧ C.1 3 b 0 2 = nI n.2.1 ∧ C.1 3 b 6 0 = nI n.2.2.1 ∧ X.1 2 0 = nI n.1 ∧ X.1 2 1 = nI n.2.1 ∧ X.1 2 2 = nI n.2.2.1 ∧ (∀ k, k < n.2.2.1 → NmR (C.1 3 b 7 k) (X.2 5 (0 + k))) ∧ X.2 6 = X0m.2 6
theorem pcR_c {b r k : Nat} {n : BN} {C C' : CM} {X X' : XM} (h : PcR b n C X) (hc : FL r k C C') (hx : GL k X X') : PcR b n C' X' := by
  have e3 : C'.1 3 b = C.1 3 b := hc.2.1 3 b (by omega) (by omega)
  have e2 : X'.1 2 = X.1 2 := hx.2.1 2 rfl
  unfold PcR
  rw [e3, e2, hx.2.2.1, hx.2.2.2.1]
  exact h
def LnR (r : Nat) (n : BN) (C : CM) (X : XM) (l : Nat) : Prop := ∃ w v, w ≤ 4 ∧ C.1 5 r 1 l = nI (10 + w) ∧ X.1 4 (1 + 4 * l) = nI w ∧ C.1 5 r 2 l = nI v ∧ X.1 4 (2 + 4 * l) = nI v ∧ (w = 0 → inY n v) ∧ (w = 1 → v ≤ 999) ∧ (w = 2 ∨ w = 3 → v < n.2.2.1) ∧ (w = 3 → ∃ d, d ≤ 7 ∧ C.1 5 r 3 l = nI d ∧ X.1 4 (3 + 4 * l) = nI d) ∧ (w = 4 → 1 ≤ v ∧ v ≤ 48)
def z4X (X : XM) (a : Nat) : XM := stX (stX (stX (stX X 4 a 0) 4 (a + 1) 0) 4 (a + 2) 0) 4 (a + 3) 0
theorem plan_z {c a : Nat} {X : XM} (ha : a + 3 < 135) : ∀ z fu, z = fu + 5 → f_X11_planLine_108 N (nI c) (nI a) z 0 X = f_X11_planLine_108 N (nI c) (nI a) (fu + 1) 4 (z4X X a) := by
  intro z fu hz
  subst hz
  have s : ∀ (m j : Nat) (Y : XM), j < 4 → f_X11_planLine_108 N (nI c) (nI a) (m + 1) (nI j) Y = f_X11_planLine_108 N (nI c) (nI a) m (nI (j + 1)) (stX Y 4 (a + j) 0) := by
    intro m j Y hj
    rw [f_X11_planLine_108]
    have e : nI a + nI j = nI (a + j) := nI_add a j
    simp (disch := omega) only [le_ln, if_neg, e, sxA_nI, nI_al]
  have e1 := s (fu + 4) 0 X (by omega)
  have e2 := s (fu + 3) 1 (stX X 4 (a + 0) 0) (by omega)
  have e3 := s (fu + 2) 2 (stX (stX X 4 (a + 0) 0) 4 (a + 1) 0) (by omega)
  have e4 := s (fu + 1) 3 (stX (stX (stX X 4 (a + 0) 0) 4 (a + 1) 0) 4 (a + 2) 0) (by omega)
  exact ((e1.trans e2).trans e3).trans e4
theorem gl_z {k : Nat} {X : XM} : GL k X (z4X X (1 + 4 * k)) := (gl_4 (by omega)).trans ((gl_4 (by omega)).trans ((gl_4 (by omega)).trans (gl_4 (by omega))))
theorem xp_z {k : Nat} {X : XM} : XP X (z4X X (1 + 4 * k)) := (xp_row (by omega) (by omega)).trans ((xp_row (by omega) (by omega)).trans ((xp_row (by omega) (by omega)).trans (xp_row (by omega) (by omega))))
theorem nx_18 {X X' : XM} {v : Int32} (h : NxF (stX X 0 18 v) X') : X'.1 0 18 = v := by
  rw [h.2.1 18 (by omega) (by omega) (by omega) (by omega) (by omega), stX_at]
theorem plan_line {b r k i c : Nat} {n : BN} {C : CM} {X : XM} (hN : 2000 ≤ N) (hc : c ≤ 4) (hk : k < 30) (h : PsR N C X i) (hw : C.1 1 0 1 i = 2) (hP : PcR b n C X) (h0 : C.1 5 r 0 0 = nI k) :
    (∃ C' X' i', f_X3_readLine N r b (nI (10 + c)) (nxC C i) = some (0, C') ∧ f_X11_planLine_108 N (nI c) (nI (1 + 4 * k)) N 0 X = some (1, X') ∧ PsR N C' X' i' ∧ FL r k C C' ∧ GL k X X' ∧ LnR r n C' X' k) ∨
    (∃ C' X', f_X3_readLine N r b (nI (10 + c)) (nxC C i) = some (0, C') ∧ f_X11_planLine_108 N (nI c) (nI (1 + 4 * k)) N 0 X = some (0, X') ∧ FaR C' X' ∧ FL r k C C' ∧ GL k X X') := by
  obtain ⟨fu, hfu⟩ : ∃ fu, N = fu + 5 := ⟨N - 5, by omega⟩
  have pz := plan_z (N := N) (c := c) (a := 1 + 4 * k) (X := X) (by omega) N fu hfu
  rw [pz, f_X11_planLine_108, if_pos (by decide), sxA_nI (by omega) (by omega)]
  have hg0 : GL k X (stX (z4X X (1 + 4 * k)) 4 (1 + 4 * k) (nI c)) := gl_z.trans (gl_4 (by omega))
  have hx0 : XP X (stX (z4X X (1 + 4 * k)) 4 (1 + 4 * k) (nI c)) := xp_z.trans (xp_row (by omega) (by omega))
  have hat : (stX (z4X X (1 + 4 * k)) 4 (1 + 4 * k) (nI c)).1 4 (1 + 4 * k) = nI c := stX_at
  generalize hX0 : stX (z4X X (1 + 4 * k)) 4 (1 + 4 * k) (nI c) = X0 at hg0 hx0 hat ⊢
  obtain ⟨X4, a1, a2, a3⟩ := next_rel hN (psR_c h rfl hx0) (by rw [hw]; decide) (by rw [hw]; decide)
  rw [a1, cal_some]
  have hg4 : GL k X X4 := hg0.trans (gl_nx a2)
  have at4 : X4.1 4 (1 + 4 * k) = nI c := by rw [a2.1 4 (by omega)]; exact hat
  have hD0 : FL r k C (nxC C i) := fl_f1 nx_f1
  have e00 : (nxC C i).1 5 r 0 0 = nI k := by rw [hD0.2.2.1]; exact h0
  have hD1 : FL r k C (stC (stC (nxC C i) 5 r 1 k (nI (10 + c))) 5 r 3 k 0) := hD0.trans ((fl_st (by omega)).trans (fl_st (by omega)))
  have e1 : (stC (stC (nxC C i) 5 r 1 k (nI (10 + c))) 5 r 3 k 0).1 5 r 0 0 = nI k := by rw [hD1.2.2.1]; exact h0
  have w1 : (stC (stC (nxC C i) 5 r 1 k (nI (10 + c))) 5 r 3 k 0).1 5 r 1 k = nI (10 + c) := by rw [stC_row (by omega), stC_at]
  have p1 : PsR N (stC (stC (nxC C i) 5 r 1 k (nI (10 + c))) 5 r 3 k 0) X4 (i + 1) := psR_c a3 (by rw [stC_ob (by omega), stC_ob (by omega)]) (XP.rf X4)
  have q1 := pcR_c hP hD1 hg4
  have r1 : f_X3_readLine N r b (nI (10 + c)) (nxC C i) = (fun C6 : CM => (if nI (10 + c) = 10 then cal (f_X0_takeCell b C6) (fun v8 C9 => stA C9 5 r 2 30 (nI k) v8 (fun C10 => (rt 0 C10))) else if nI (10 + c) = 11 then cal (f_X7_takeNumber 0 999 C6) (fun v12 C13 => stA C13 5 r 2 30 (nI k) v12 (fun C14 => (rt 0 C14))) else if nI (10 + c) = 12 then cal (f_X1_take N b C6) (fun v16 C17 => stA C17 5 r 2 30 (nI k) v16 (fun C18 => (rt 0 C18))) else if nI (10 + c) = 13 then cal (f_X1_take N b C6) (fun v20 C21 => stA C21 5 r 2 30 (nI k) v20 (fun C22 => cal (f_X7_takeNumber 0 7 C22) (fun v23 C24 => stA C24 5 r 3 30 (C22.1 5 r 0 0) v23 (fun C25 => (rt 0 C25))))) else cal (f_X7_takeNumber 1 48 C6) (fun v26 C27 => stA C27 5 r 2 30 (nI k) v26 (fun C28 => (rt 0 C28))))) (stC (stC (nxC C i) 5 r 1 k (nI (10 + c))) 5 r 3 k 0) := by
    unfold f_X3_readLine
    have e10 : (stC (nxC C i) 5 r 1 k (nI (10 + c))).1 5 r 0 0 = nI k := by rw [stC_row (by omega)]; exact e00
    rw [ps_sound a3, cal_some, if_neg (show ¬ (1 : Int32) = 0 by decide), e00, if_pos (by simp (disch := omega) only [lt_nl]; omega), stA_nI (by omega) (by omega), e10, stA_nI (by omega) (by omega), e1]
  rw [r1]
  dsimp only
  generalize hDD : stC (stC (nxC C i) 5 r 1 k (nI (10 + c))) 5 r 3 k 0 = D at hD1 e1 w1 p1 q1 ⊢
  clear hDD r1
  -- ends
  have fin : ∀ {C' : CM} {X' : XM} {i' v : Nat}, PsR N C' X' i' → FL r k D C' → GL k X4 X' → C'.1 5 r 1 k = nI (10 + c) → C'.1 5 r 2 k = nI v → X'.1 4 (1 + 4 * k) = nI c → X'.1 4 (2 + 4 * k) = nI v → (c = 0 → inY n v) → (c = 1 → v ≤ 999) → (c = 2 ∨ c = 3 → v < n.2.2.1) → (c = 3 → ∃ d, d ≤ 7 ∧ C'.1 5 r 3 k = nI d ∧ X'.1 4 (3 + 4 * k) = nI d) → (c = 4 → 1 ≤ v ∧ v ≤ 48) → PsR N C' X' i' ∧ FL r k C C' ∧ GL k X X' ∧ LnR r n C' X' k :=
    fun {C' X' i' v} g1 g2 g3 g4 g5 g6 g7 g8 g9 g10 g11 g12 => ⟨g1, hD1.trans g2, hg4.trans g3, c, v, hc, g4, g6, g5, g7, g8, g9, g10, g11, g12⟩
  have ea : nI (1 + 4 * k) + 1 = nI (1 + 4 * k + 1) := nI_al 1 _
  have ea2 : nI (1 + 4 * k) + 2 = nI (1 + 4 * k + 2) := nI_al 2 _
  have i2 : 2 + 4 * k = 1 + 4 * k + 1 := by omega
  have i3 : 3 + 4 * k = 1 + 4 * k + 2 := by omega
  -- a fault, and a value stored behind it
  have bad : ∀ {C' : CM} {X' : XM} {v : Int32}, F1 D C' → FaR C' X' → GL k X4 X' → FaR (stC C' 5 r 2 k v) X' ∧ FL r k C (stC C' 5 r 2 k v) ∧ GL k X X' := by
    intro C' X' v g1 g2 g3
    refine ⟨⟨faC_c g2.1 (stC_ob (by omega)), ?_, ?_⟩, hD1.trans ((fl_f1 g1).trans (fl_st (by omega))), hg4.trans g3⟩
    · rw [stC_ob (by omega)]; exact g2.2.1
    · rw [stC_ob (by omega)]; exact g2.2.2
  -- a number alone
  have num : ∀ {lo hi : Nat}, lo < 2147483648 → hi < 2147483648 → (c = 1 ∧ hi ≤ 999 ∨ c = 4 ∧ 1 ≤ lo ∧ hi ≤ 48) →
      (∃ C' X' i', cal (f_X7_takeNumber (nI lo) (nI hi) D) (fun v12 C13 => stA C13 5 r 2 30 (nI k) v12 (fun C14 => (rt 0 C14))) = some (0, C') ∧ f_X11_planLine_237 N (nI (1 + 4 * k)) (nI hi) (nI lo) X4 = some (1, X') ∧ PsR N C' X' i' ∧ FL r k C C' ∧ GL k X X' ∧ LnR r n C' X' k) ∨
      (∃ C' X', cal (f_X7_takeNumber (nI lo) (nI hi) D) (fun v12 C13 => stA C13 5 r 2 30 (nI k) v12 (fun C14 => (rt 0 C14))) = some (0, C') ∧ f_X11_planLine_237 N (nI (1 + 4 * k)) (nI hi) (nI lo) X4 = some (0, X') ∧ FaR C' X' ∧ FL r k C C' ∧ GL k X X') := by
    intro lo hi h1 h2 h3
    unfold f_X11_planLine_237
    rcases number_rel hN p1 h1 h2 with ⟨z, X', z1, z2, z3, n1, n2, n3, n4⟩ | ⟨C', X', n1, n2, n3, n4, n5⟩
    · rw [n1, n2, cal_some, cal_some, if_neg (show ¬ (1 : Int32) = 0 by decide), stA_nI (by omega) (by omega), ea, sxA_nI (by omega) (by omega), nx_18 n3]
      refine Or.inl ⟨stC (nxC D (i + 1)) 5 r 2 k (nI z), stX X' 4 (1 + 4 * k + 1) (nI z), i + 1 + 1, rfl, rfl, fin (v := z) (psR_c n4 (stC_ob (by omega)) (xp_row (by omega) (by omega))) ((fl_f1 nx_f1).trans (fl_st (by omega))) (gl_18.trans ((gl_nx n3).trans (gl_4 (by omega)))) ?_ stC_at ?_ ?_ (by omega) (by omega) (by omega) (by omega) (by omega)⟩
      · rw [stC_row (by omega)]
        unfold nxC
        rw [stC_ob (by omega)]
        exact w1
      · rw [stX_ne (by omega), n3.1 4 (by omega), stX_row (by omega)]
        exact at4
      · rw [i2, stX_at]
    · rw [n1, n2, cal_some, cal_some, if_pos rfl, stA_nI (by omega) (by omega)]
      obtain ⟨b1, b2, b3⟩ := bad (v := -1) n3 n4 (gl_bd n5)
      exact Or.inr ⟨_, X', rfl, rfl, b1, b2, b3⟩
  have hcc : c = 0 ∨ c = 1 ∨ c = 4 ∨ c = 2 ∨ c = 3 := by omega
  rcases hcc with rfl | rfl | rfl | hcc
  · -- set
    rw [if_pos (show nI (10 + 0) = (10 : Int32) from rfl), if_pos (show nI 0 = (0 : Int32) from rfl)]
    unfold f_X0_takeCell
    obtain ⟨m1, m2, m3, m4, m5, m6, m7, m8, m9, m10, m11⟩ := id q1
    rw [ldA_l (by decide) (by decide)]
    show (_ ∨ _)
    have m7' : X4.1 2 (OfNat.ofNat 0) = nI n.1 := m7
    rw [m7', m4]
    rcases number_lt hN (W := n.1) (by omega) p1 with ⟨z, X5, z1, z3, n1, n2, n3, n4⟩ | ⟨C', X', n1, n2, n3, n4, n5⟩
    · rw [n1, n2, cal_some, cal_some, if_neg (show ¬ (1 : Int32) = 0 by decide)]
      have hD2 : FL r k D (nxC D (i + 1)) := fl_f1 nx_f1
      have hg5 : GL k X4 X5 := gl_18.trans (gl_nx n3)
      have q2 := pcR_c q1 hD2 hg5
      obtain ⟨-, -, -, -, m5', -, -, m8', -⟩ := q2
      rw [ldA_l (by decide) (by decide)]
      have m8'' : X5.1 2 (OfNat.ofNat 1) = nI n.2.1 := m8'
      rw [m8'', m5']
      rcases number_lt hN (W := n.2.1) (by omega) n4 with ⟨z', X6, z1', z3', n1', n2', n3', n4'⟩ | ⟨C', X', n1', n2', n3', n4', n5'⟩
      · rw [n1', n2', cal_some, cal_some, if_neg (show ¬ (1 : Int32) = 0 by decide), ps_sound n4', cal_some, if_neg (show ¬ (1 : Int32) = 0 by decide), cal_rt, stA_nI (by omega) (by omega), ea, sxA_nI (by omega) (by omega), nx_18 n3, nx_18 n3']
        have ev : nI z' * 10 + nI z = nI (z' * 10 + z) := by rw [nI_ml]; exact nI_add _ _
        have ev' : (10 : Int32) * nI z' + nI z = nI (z' * 10 + z) := by rw [nI_lm, Nat.mul_comm]; exact nI_add _ _
        rw [ev, ev']
        refine Or.inl ⟨stC (nxC (nxC D (i + 1)) (i + 1 + 1)) 5 r 2 k (nI (z' * 10 + z)), stX X6 4 (1 + 4 * k + 1) (nI (z' * 10 + z)), i + 1 + 1 + 1, rfl, rfl, fin (v := z' * 10 + z) (psR_c n4' (stC_ob (by omega)) (xp_row (by omega) (by omega))) (hD2.trans ((fl_f1 nx_f1).trans (fl_st (by omega)))) (hg5.trans (gl_18.trans ((gl_nx n3').trans (gl_4 (by omega))))) ?_ stC_at ?_ ?_ (fun _ => ⟨by omega, by omega, by omega⟩) (by omega) (by omega) (by omega) (by omega)⟩
        · rw [stC_row (by omega)]
          unfold nxC
          rw [stC_ob (by omega), stC_ob (by omega)]
          exact w1
        · rw [stX_ne (by omega), n3'.1 4 (by omega), stX_row (by omega), n3.1 4 (by omega), stX_row (by omega)]
          exact at4
        · rw [i2, stX_at]
      · rw [n1', n2', cal_some, cal_some, if_pos rfl, fa_sound n4'.1, cal_some, if_pos rfl, cal_rt, stA_nI (by omega) (by omega)]
        obtain ⟨b1, b2, b3⟩ := bad (v := -1) (nx_f1.trans n3') n4' (hg5.trans (gl_bd n5'))
        exact Or.inr ⟨_, X', rfl, rfl, b1, b2, b3⟩
    · rw [n1, n2, cal_some, cal_some, if_pos rfl, fa_number n4.1, cal_some, fa_sound n4.1, cal_some, if_pos rfl, cal_rt, stA_nI (by omega) (by omega)]
      obtain ⟨b1, b2, b3⟩ := bad (v := -1) n3 n4 (gl_bd n5)
      exact Or.inr ⟨_, X', rfl, rfl, b1, b2, b3⟩
  · rw [if_neg (show ¬ nI (10 + 1) = (10 : Int32) by decide), if_pos (show nI (10 + 1) = (11 : Int32) from rfl), if_neg (show ¬ nI 1 = (0 : Int32) by decide), if_pos (show nI 1 = (1 : Int32) from rfl)]
    unfold f_X11_planLine_213 f_X11_planLine_224
    rw [if_pos (show nI 1 = (1 : Int32) from rfl), if_pos (show nI 1 = (1 : Int32) from rfl)]
    exact num (lo := 0) (hi := 999) (by omega) (by omega) (by omega)
  · rw [if_neg (show ¬ nI (10 + 4) = (10 : Int32) by decide), if_neg (show ¬ nI (10 + 4) = (11 : Int32) by decide), if_neg (show ¬ nI (10 + 4) = (12 : Int32) by decide), if_neg (show ¬ nI (10 + 4) = (13 : Int32) by decide), if_neg (show ¬ nI 4 = (0 : Int32) by decide), if_neg (show ¬ nI 4 = (1 : Int32) by decide), if_pos (show nI 4 = (4 : Int32) from rfl)]
    unfold f_X11_planLine_213 f_X11_planLine_224
    rw [if_neg (show ¬ nI 4 = (1 : Int32) by decide), if_neg (show ¬ nI 4 = (1 : Int32) by decide)]
    exact num (lo := 1) (hi := 48) (by omega) (by omega) (by omega)
  · -- oil, point
    obtain ⟨m1, m2, m3, m4, m5, m6, m7, m8, m9, m10, m11⟩ := id q1
    have m9' : X4.1 2 (OfNat.ofNat 2) = nI n.2.2.1 := m9
    have hc0 : ¬ nI c = (0 : Int32) := by simp (disch := omega) only [eq_nl]; omega
    have hc1 : ¬ nI c = (1 : Int32) := by simp (disch := omega) only [eq_nl]; omega
    have hc4 : ¬ nI c = (4 : Int32) := by simp (disch := omega) only [eq_nl]; omega
    have hc10 : ¬ nI (10 + c) = (10 : Int32) := by simp (disch := omega) only [eq_nl]; omega
    have hc11 : ¬ nI (10 + c) = (11 : Int32) := by simp (disch := omega) only [eq_nl]; omega
    rw [if_neg hc10, if_neg hc11, if_neg hc0, if_neg hc1, if_neg hc4]
    have two : ∀ {C' : CM} {X' : XM} {v w : Int32}, F1 D C' → FaR C' X' → GL k X4 X' → f_X7_takeNumber 0 7 (stC C' 5 r 2 k v) = some (-1, stC C' 5 r 2 k v) ∧ (stC C' 5 r 2 k v).1 5 r 0 0 = nI k ∧ FaR (stC (stC C' 5 r 2 k v) 5 r 3 k w) X' ∧ FL r k C (stC (stC C' 5 r 2 k v) 5 r 3 k w) := by
      intro C' X' v w g1 g2 g3
      obtain ⟨b1, b2, b3⟩ := bad (v := v) g1 g2 g3
      refine ⟨fa_number b1.1 0 7, ?_, ⟨faC_c b1.1 (stC_ob (by omega)), ?_, ?_⟩, b2.trans (fl_st (by omega))⟩
      · rw [b2.2.2.1]; exact h0
      · rw [stC_ob (by omega)]; exact b1.2.1
      · rw [stC_ob (by omega)]; exact b1.2.2
    have nr := name_rel hN p1 m11 m3 (show 0 ≤ 8 by omega) m6 m10
    have hA : ∀ v, v < n.2.2.1 → C.1 1 0 1 0 = C.1 1 0 1 0 → D.1 1 0 1 (i + 1) = 3 → ∃ X5, f_X11_next N (stX X4 4 (1 + 4 * k + 1) (nI v)) = some (0, X5) ∧ GL k X4 X5 ∧ X5.1 4 (1 + 4 * k) = nI c ∧ X5.1 4 (2 + 4 * k) = nI v ∧ (stC (nxC D (i + 1)) 5 r 2 k (nI v)).1 5 r 1 k = nI (10 + c) ∧ PsR N (stC (nxC D (i + 1)) 5 r 2 k (nI v)) X5 (i + 1 + 1) ∧ FL r k D (stC (nxC D (i + 1)) 5 r 2 k (nI v)) := by
      intro v hv _ v4
      obtain ⟨X5, x1, x2, x3⟩ := next_rel hN (psR_c p1 rfl (xp_row (X := X4) (j := 4) (x := 1 + 4 * k + 1) (v := nI v) (by omega) (by omega))) (by rw [v4]; decide) (by rw [v4]; decide)
      refine ⟨X5, x1, (gl_4 (by omega)).trans (gl_nx x2), ?_, ?_, ?_, psR_c x3 (stC_ob (by omega)) (XP.rf X5), (fl_f1 nx_f1).trans (fl_st (by omega))⟩
      · rw [x2.1 4 (by omega), stX_ne (by omega)]; exact at4
      · rw [x2.1 4 (by omega), i2, stX_at]
      · rw [stC_row (by omega)]
        unfold nxC
        rw [stC_ob (by omega)]
        exact w1
    rcases hcc with rfl | rfl
    · rw [if_pos (show nI (10 + 2) = (12 : Int32) from rfl)]
      rcases nr with ⟨s1, v, v1, v2, v3, v4⟩ | ⟨s1, C', v2, v3, v5, v6⟩ | ⟨s1, C', v2, v5, v6⟩
      · have v3' : f_X11_find N 0 (nI n.2.2.1) X4 = some (nI v, X4) := v3
        obtain ⟨X5, x1, hg5, t5, u5, wd, pd, fd⟩ := hA v v1 rfl v4
        rw [v2, cal_some, stA_nI (by omega) (by omega), s1, cal_some, if_neg (show ¬ (1 : Int32) = 0 by decide), ldA_l (by decide) (by decide), m9', v3', cal_some, if_pos (nI_pos' (by omega)), ea, sxA_nI (by omega) (by omega), x1, cal_some, if_pos (show nI 2 = (2 : Int32) from rfl)]
        exact Or.inl ⟨_, X5, i + 1 + 1, rfl, rfl, fin (v := v) pd fd hg5 wd stC_at t5 u5 (by omega) (by omega) (by omega) (by omega) (by omega)⟩
      · have v3' : f_X11_find N 0 (nI n.2.2.1) X4 = some (-1, X4) := v3
        rw [v2, cal_some, stA_nI (by omega) (by omega), s1, cal_some, if_neg (show ¬ (1 : Int32) = 0 by decide), ldA_l (by decide) (by decide), m9', v3', cal_some, if_neg (show ¬ ((0 : Int32) ≤ -1) by decide), bad_eq, cal_some]
        obtain ⟨b1, b2, b3⟩ := bad (v := -1) v5 v6 (gl_bd bd_bdf)
        exact Or.inr ⟨_, bdX X4 3, rfl, rfl, b1, b2, b3⟩
      · rw [v2, cal_some, stA_nI (by omega) (by omega), s1, cal_some, if_pos rfl, bad_eq, cal_some]
        obtain ⟨b1, b2, b3⟩ := bad (v := -1) v5 v6 (gl_bd bd_bdf)
        exact Or.inr ⟨_, bdX X4 1, rfl, rfl, b1, b2, b3⟩
    · rw [if_neg (show ¬ nI (10 + 3) = (12 : Int32) by decide), if_pos (show nI (10 + 3) = (13 : Int32) from rfl)]
      rcases nr with ⟨s1, v, v1, v2, v3, v4⟩ | ⟨s1, C', v2, v3, v5, v6⟩ | ⟨s1, C', v2, v5, v6⟩
      · have v3' : f_X11_find N 0 (nI n.2.2.1) X4 = some (nI v, X4) := v3
        obtain ⟨X5, x1, hg5, t5, u5, wd, pd, fd⟩ := hA v v1 rfl v4
        rw [v2, cal_some, stA_nI (by omega) (by omega), s1, cal_some, if_neg (show ¬ (1 : Int32) = 0 by decide), ldA_l (by decide) (by decide), m9', v3', cal_some, if_pos (nI_pos' (by omega)), ea, sxA_nI (by omega) (by omega), x1, cal_some, if_neg (show ¬ nI 3 = (2 : Int32) by decide)]
        have ed : (stC (nxC D (i + 1)) 5 r 2 k (nI v)).1 5 r 0 0 = nI k := by rw [fd.2.2.1]; exact e1
        have vd : (stC (nxC D (i + 1)) 5 r 2 k (nI v)).1 5 r 2 k = nI v := stC_at
        rw [ed]
        generalize stC (nxC D (i + 1)) 5 r 2 k (nI v) = E at wd pd fd ed vd ⊢
        rcases number_rel hN pd (lo := 0) (hi := 7) (by omega) (by omega) with ⟨z, X6, z1, z2, z3, n1, n2, n3, n4⟩ | ⟨C', X', n1, n2, n3, n4, n5⟩
        · have n1' : f_X7_takeNumber 0 7 E = some (nI z, nxC E (i + 1 + 1)) := n1
          have n2' : f_X11_takes N 0 7 X5 = some (1, X6) := n2
          rw [n1', n2', cal_some, cal_some, if_neg (show ¬ (1 : Int32) = 0 by decide), stA_nI (by omega) (by omega), ea2, sxA_nI (by omega) (by omega), nx_18 n3]
          refine Or.inl ⟨stC (nxC E (i + 1 + 1)) 5 r 3 k (nI z), stX X6 4 (1 + 4 * k + 2) (nI z), i + 1 + 1 + 1, rfl, rfl, fin (v := v) (psR_c n4 (stC_ob (by omega)) (xp_row (by omega) (by omega))) (fd.trans ((fl_f1 nx_f1).trans (fl_st (by omega)))) (hg5.trans (gl_18.trans ((gl_nx n3).trans (gl_4 (by omega))))) ?_ ?_ ?_ ?_ (by omega) (by omega) (by omega) (fun _ => ⟨z, by omega, stC_at, by rw [i3, stX_at]⟩) (by omega)⟩
          · rw [stC_row (by omega)]
            unfold nxC
            rw [stC_ob (by omega)]
            exact wd
          · rw [stC_row (by omega)]
            unfold nxC
            rw [stC_ob (by omega)]
            exact vd
          · rw [stX_ne (by omega), n3.1 4 (by omega), stX_row (by omega)]
            exact t5
          · rw [stX_ne (by omega), n3.1 4 (by omega), stX_row (by omega)]
            exact u5
        · have n1' : f_X7_takeNumber 0 7 E = some (-1, C') := n1
          have n2' : f_X11_takes N 0 7 X5 = some (0, X') := n2
          rw [n1', n2', cal_some, cal_some, if_pos rfl, stA_nI (by omega) (by omega)]
          refine Or.inr ⟨stC C' 5 r 3 k (-1), X', rfl, rfl, ⟨faC_c n4.1 (stC_ob (by omega)), ?_, ?_⟩, hD1.trans (fd.trans ((fl_f1 n3).trans (fl_st (by omega)))), hg4.trans (hg5.trans (gl_bd n5))⟩
          · rw [stC_ob (by omega)]; exact n4.2.1
          · rw [stC_ob (by omega)]; exact n4.2.2
      · have v3' : f_X11_find N 0 (nI n.2.2.1) X4 = some (-1, X4) := v3
        obtain ⟨b1, b2, b3, b4⟩ := two (v := -1) (w := -1) v5 v6 (gl_bd bd_bdf)
        rw [v2, cal_some, stA_nI (by omega) (by omega), b1, cal_some, b2, stA_nI (by omega) (by omega), s1, cal_some, if_neg (show ¬ (1 : Int32) = 0 by decide), ldA_l (by decide) (by decide), m9', v3', cal_some, if_neg (show ¬ ((0 : Int32) ≤ -1) by decide), bad_eq, cal_some]
        exact Or.inr ⟨_, bdX X4 3, rfl, rfl, b3, b4, hg4.trans (gl_bd bd_bdf)⟩
      · obtain ⟨b1, b2, b3, b4⟩ := two (v := -1) (w := -1) v5 v6 (gl_bd bd_bdf)
        rw [v2, cal_some, stA_nI (by omega) (by omega), b1, cal_some, b2, stA_nI (by omega) (by omega), s1, cal_some, if_pos rfl, bad_eq, cal_some]
        exact Or.inr ⟨_, bdX X4 1, rfl, rfl, b3, b4, hg4.trans (gl_bd bd_bdf)⟩
end PLAN2
