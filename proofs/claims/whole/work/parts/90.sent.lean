/-! Sentences: one operand. -/
section SENT3
variable {N : Nat}
/-- what a reading leaves: sound, with m codes that wait (j nots on top), or faulted -/
def SPost (N r : Nat) (A : Nat → Nat → Nat → (Nat → Nat) → Prop) (W : CM → Nat → Prop) (C : CM) (X : XM) (o K h d : Nat) (cd : Nat → Nat) (fu : Nat) (y : Option (Int32 × CM)) : Prop :=
  (∃ (C' : CM) (X' : XM) (i' o' KX' m j : Nat) (cd' : Nat → Nat) (fu' : Nat), y = some (0, C') ∧ f_X11_sentence_48 N fu 1 X = f_X11_sentence_48 N fu' 1 X' ∧ 2000 ≤ fu' + i' ∧ SnI N r C' X' i' o' (KX' + m) KX' (h + m) (d + j) 1 cd' ∧ PdR X' h KX' m cd' ∧ (A KX' m j cd' ∧ W C' i') ∧ j ≤ m ∧ (∀ x, x < j → cd' (KX' + x) = 10) ∧ (∀ y, y < h → X'.1 15 y = X.1 15 y) ∧ KX' + m + 1 + 2 * o ≤ K + 2 * o' ∧ o + 1 ≤ o' ∧ dpS cd' (KX' + m) = dpS cd K + 1 ∧ h + m ≤ 40 ∧ d + j ≤ 9 ∧ FS6 r C C' ∧ GS X X') ∨
  (∃ (C' : CM) (X' : XM), y = some (0, C') ∧ f_X11_sentence_48 N fu 1 X = some (-1 - X'.1 0 16, X') ∧ FaR C' X' ∧ FsC r C' ∧ FS6 r C C' ∧ GS X X')
def A1 (KX m j : Nat) (cd : Nat → Nat) : Prop := m = j
def A2 (KX m j : Nat) (cd : Nat → Nat) : Prop := m ≤ j + 1 ∧ ∀ x, j ≤ x → x < m → cd (KX + x) = 11
def A3 (KX m j : Nat) (cd : Nat → Nat) : Prop := m ≤ j + 2 ∧ ∀ x, j ≤ x → x < m → cd (KX + x) = 11 ∨ cd (KX + x) = 12
def W1 (C : CM) (i : Nat) : Prop := True
def W2 (C : CM) (i : Nat) : Prop := ¬ (C.1 1 0 1 i = 2 ∧ C.1 1 0 2 i = nI 16)
def W3 (C : CM) (i : Nat) : Prop := W2 C i ∧ ¬ (C.1 1 0 1 i = 2 ∧ C.1 1 0 2 i = nI 15)
def OneP (N r : Nat) (F : Int32 → CM → Option (Int32 × CM)) (d : Nat) : Prop := ∀ (C : CM) (X : XM) (i o K h : Nat) (cd : Nat → Nat) (fu : Nat), SnI N r C X i o K K h d 0 cd → h + 1 ≤ 3 * d → K ≤ 2 * o → 2000 ≤ fu + i → SPost N r A1 W1 C X o K h d cd fu (F (nI d) C)
def AllP (N r : Nat) (F : Int32 → CM → Option (Int32 × CM)) (d : Nat) : Prop := ∀ (C : CM) (X : XM) (i o K h : Nat) (cd : Nat → Nat) (fu : Nat), SnI N r C X i o K K h d 0 cd → h + 2 ≤ 3 * d → K ≤ 2 * o → 2000 ≤ fu + i → (h = 0 ∨ (X.1 15 (h - 1) ≠ 10 ∧ X.1 15 (h - 1) ≠ 11)) → SPost N r A2 W2 C X o K h d cd fu (f_X5_readAll N r F (nI d) C)
def CondP (N r : Nat) (F : Int32 → CM → Option (Int32 × CM)) (d : Nat) : Prop := ∀ (C : CM) (X : XM) (i o K h : Nat) (cd : Nat → Nat) (fu : Nat), SnI N r C X i o K K h d 0 cd → h + 3 ≤ 3 * d → K ≤ 2 * o → 2000 ≤ fu + i → (h = 0 ∨ X.1 15 (h - 1) = 13) → SPost N r A3 W3 C X o K h d cd fu (f_X5_readCond N r F (nI d) C)
theorem ps_i {C : CM} {X : XM} {i : Nat} (h : PsR N C X i) : i ≤ 940 := by
  obtain ⟨u, L, lm, t, P, t1, t2, -⟩ := h
  omega
/-- the rest stays when a token goes by -/
theorem sn_nx {C : CM} {X X' : XM} {r i i' o K KX h d : Nat} {st : Int32} {cd : Nat → Nat} {C' : CM} (hS : SnI N r C X i o K KX h d st cd) (hp : PsR N C' X' i') (hx : NxF X X') (h6 : C'.1 6 r = C.1 6 r) : SnI N r C' X' i' o K KX h d st cd := by
  obtain ⟨s1, s2, s3, s4, s5, s6, s7, s8, s9, s10⟩ := hS
  refine ⟨hp, ?_, ?_, ?_, ?_, ?_, ?_, ?_, s9, s10⟩
  · unfold CoR
    rw [h6]
    exact s2
  · rw [hx.2.1 45 (by omega) (by omega) (by omega) (by omega) (by omega)]; exact s3
  · rw [hx.2.1 46 (by omega) (by omega) (by omega) (by omega) (by omega)]; exact s4
  · rw [hx.2.1 47 (by omega) (by omega) (by omega) (by omega) (by omega)]; exact s5
  · rw [hx.2.1 48 (by omega) (by omega) (by omega) (by omega) (by omega)]; exact s6
  · rw [hx.2.1 49 (by omega) (by omega) (by omega) (by omega) (by omega)]; exact s7
  · intro k hk
    rw [h6, hx.1 4 (by omega)]
    exact s8 k hk
theorem gs_nx {X X' : XM} (h : NxF X X') : GS X X' := gs_l (gl_nx (k := 0) h)
theorem gs_bd {X X' : XM} (h : BdF X X') : GS X X' := gs_l (gl_bd (k := 0) h)
/-- one operand more is counted, and its first token taken -/
theorem sn_one {C : CM} {X : XM} {r i o K h d : Nat} {cd : Nat → Nat} (hN : 2000 ≤ N) (hS : SnI N r C X i o K K h d 0 cd) (ho : o < 20) (k0 : C.1 1 0 1 i ≠ 0) (k1 : C.1 1 0 1 i ≠ 1) : ∃ X5, f_X11_next N (stX X 0 46 (nI (o + 1))) = some (0, X5) ∧ f_X7_take (stC C 6 r 0 0 (nI (o + 1))) = some (0, nxC (stC C 6 r 0 0 (nI (o + 1))) i) ∧ SnI N r (nxC (stC C 6 r 0 0 (nI (o + 1))) i) X5 (i + 1) (o + 1) K K h d 0 cd ∧ X5.1 15 = X.1 15 ∧ GS X X5 ∧ FS6 r C (nxC (stC C 6 r 0 0 (nI (o + 1))) i) := by
  obtain ⟨s1, s2, s3, s4, s5, s6, s7, s8, s9, s10⟩ := id hS
  have p0 : PsR N (stC C 6 r 0 0 (nI (o + 1))) (stX X 0 46 (nI (o + 1))) i := psR_c s1 (stC_ob (by omega)) (xp_f (by omega))
  have hS1 : SnI N r (stC C 6 r 0 0 (nI (o + 1))) (stX X 0 46 (nI (o + 1))) i (o + 1) K K h d 0 cd := by
    obtain ⟨a1, a2, a3, a4, a5⟩ := s2
    refine ⟨p0, ⟨stC_at, by omega, ?_, fun i hi => ?_, fun i hi => ?_⟩, ?_, stX_at, ?_, ?_, ?_, fun k hk => ?_, s9, s10⟩
    · rw [stC_ne (by omega)]; exact a3
    · have := a4 i hi; omega
    · rw [stC_row (by omega)]; exact a5 i hi
    · rw [stX_ne (by omega)]; exact s3
    · rw [stX_ne (by omega)]; exact s5
    · rw [stX_ne (by omega)]; exact s6
    · rw [stX_ne (by omega)]; exact s7
    · rw [stC_row (by omega), stC_row (by omega), stX_row (by omega)]
      exact s8 k hk
  have kk : (stC C 6 r 0 0 (nI (o + 1))).1 1 0 1 i = C.1 1 0 1 i := by rw [stC_ob (by omega)]
  obtain ⟨X5, a1, a2, a3⟩ := next_rel hN p0 (by rw [kk]; exact k0) (by rw [kk]; exact k1)
  refine ⟨X5, a1, ps_take p0, sn_nx hS1 a3 a2 (by unfold nxC; exact stC_ob (by omega)), ?_, (gs_f (Or.inl rfl)).trans (gs_nx a2), fs_st.trans (fs_f1 nx_f1)⟩
  rw [a2.1 15 (by omega), stX_row (by omega)]
theorem s_zero {X : XM} {f : Nat} (h : X.1 0 49 = 0) : f_X11_sentence_48 N (f + 1) 1 X = cal (f_X11_operand N X) (fun v2 X3 => if v2 = 0 then f_X11_sentence_125 N X3 else f_X11_sentence_48 N f 1 X3) := by
  rw [f_X11_sentence_48, if_neg (show ¬ (1 : Int32) = 0 by decide), if_pos h]
  unfold f_X11_sentence_101
  rw [if_pos h]
/-- a leaf -/
theorem leaf_step {C : CM} {X : XM} {r i o K h d c f : Nat} {cd : Nat → Nat} {F : Int32 → CM → Option (Int32 × CM)} (hN : 2000 ≤ N) (hS : SnI N r C X i o K K h d 0 cd) (hh : h + 1 ≤ 3 * d) (hK : K ≤ 2 * o) (hf : 2000 ≤ f + 1 + i) (ho : o < 20) (hd : d ≤ 8) (hc : c < 6) (k2 : C.1 1 0 1 i = 2) (hop : f_X11_operand N X = f_X11_operand_38 N 0 0 (nI c) X) : SPost N r A1 W1 C X o K h d cd (f + 1) (f_X5_readOne_60 N r F (nI d) 0 (nI (18 + c)) C) := by
  obtain ⟨X5, a1, a2, a3, a4, a5, a6⟩ := sn_one hN hS ho (by rw [k2]; decide) (by rw [k2]; decide)
  obtain ⟨s1, s2, s3, s4, s5, s6, s7, s8, s9, s10⟩ := id hS
  have hdp := s2.2.2.2.1 K (by omega)
  unfold SPost
  rw [s_zero s7, hop]
  unfold f_X11_operand_38 f_X5_readOne_60
  have n17 : ¬ nI (18 + c) = (17 : Int32) := by simp (disch := omega) only [eq_nl]; omega
  have o20 : ¬ nI o = (20 : Int32) := by simp (disch := omega) only [eq_nl]; omega
  have d8 : nI d ≤ (8 : Int32) := by simp (disch := omega) only [le_nl]; omega
  rw [ps_sound s1, cal_some, if_neg (show ¬ (1 : Int32) = 0 by decide), if_pos d8, s2.1, nI_al, bnd_v, a2, cal_some, if_pos (show (0 : Int32) = 0 from rfl), if_neg n17, s4, if_neg o20, s6, if_pos d8, nI_al, bnd_v, a1, cal_some, if_pos (show (0 : Int32) = 0 from rfl), if_pos (show (0 : Int32) = 0 from rfl), bnd_v]
  generalize hE : nxC (stC C 6 r 0 0 (nI (o + 1))) i = E at a3 a6 ⊢
  obtain ⟨t1, t2, t3, t4, t5, t6, t7, t8, t9, t10⟩ := id a3
  have p8 : PsR N E (stX X5 0 49 1) (i + 1) := psR_c t1 rfl (xp_f (by omega))
  have g8 : GS X (stX X5 0 49 1) := a5.trans (gs_f (Or.inl rfl))
  by_cases c0 : c = 0
  · subst c0
    rw [if_pos (show nI (18 + 0) = (18 : Int32) from rfl), if_pos (show nI 0 = (0 : Int32) from rfl)]
    rw [adS_eq 18 0 0 (by omega) t2.2.2.1, cal_some]
    have e45 : (stX X5 0 49 1).1 0 45 = nI K := by rw [stX_ne (by omega)]; exact t3
    rw [code_eq _ _ _ (by omega) e45, cal_some, cal_rt, if_neg (show ¬ (1 : Int32) = 0 by decide)]
    refine Or.inl ⟨adS E r K 18 0 0, coX (stX X5 0 49 1) K (nI 0) 0 0, i + 1, o + 1, K + 1, 0, 0, upC cd K 0, f, rfl, rfl, by omega, ⟨psR_c p8 ad_1 co_xp, co_add (c := 0) t2 (by omega) (by omega) (by omega) (by omega), ?_, ?_, ?_, ?_, ?_, ?_, by omega, by omega⟩, fun x hx => absurd hx (Nat.not_lt_zero _), ⟨rfl, trivial⟩, by omega, fun x hx => absurd hx (Nat.not_lt_zero _), fun y hy => ?_, by omega, by omega, ?_, by omega, by omega, a6.trans ad_fs, g8.trans co_gs⟩
    · unfold coX; exact stX_at
    · rw [co_f (by omega), stX_ne (by omega)]; exact t4
    · rw [co_f (by omega), stX_ne (by omega)]; exact t5
    · rw [co_f (by omega), stX_ne (by omega)]; exact t6
    · rw [co_f (by omega), stX_at]
    · intro k hk
      obtain ⟨b1, b2, b3, b4, b5⟩ := ad_rows6 (C := E) (r := r) (K := K) (w := 18) (s := 0) (z := 0)
      by_cases e : k = K
      · subst e
        rw [upC_at]
        exact ⟨co_r4.2.1, fun q => absurd q (Nat.lt_irrefl 0)⟩
      · rw [upC_lt (by omega), b4, b5, if_neg e, if_neg e, co_r4.1 _ (by omega), co_r4.1 _ (by omega), co_r4.1 _ (by omega), stX_row (by omega)]
        exact t8 k (by omega)
    · rw [co_15, stX_row (by omega), a4]
    · show dpS (upC cd K 0) (K + 1) = _
      rw [dpS_n, if_neg (by omega), if_neg (by omega)]
  · have n18 : ¬ nI (18 + c) = (18 : Int32) := by simp (disch := omega) only [eq_nl]; omega
    have nc0 : ¬ nI c = (0 : Int32) := by simp (disch := omega) only [eq_nl]; omega
    rw [if_neg n18, if_neg nc0]
    have fE : ∀ {C' : CM} {Y : XM}, F1 E C' → FaR C' Y → FsC r C' := fun {C' Y} g1 g2 => ⟨g2.1, K, by omega, by rw [g1.2 6 (by omega)]; exact t2.2.2.1⟩
    rcases takeSign_rel hN p8 with ⟨g, g1, g2, g3, g4, g5, g6⟩ | ⟨g4, g5⟩
    · rw [g4, cal_some, if_pos g5, g6]
      simp (disch := omega) only [lt_nl, le_nl]
      rw [if_neg (by omega), if_pos (by omega)]
      obtain ⟨X9, n1, n2, n3⟩ := next_rel hN p8 (by rw [g3]; decide) (by rw [g3]; decide)
      rw [n1, cal_some]
      rcases num999 n3 with ⟨z, z1, z2, z3, z4, z5⟩ | ⟨z3, z4⟩
      · rw [z3, cal_some, if_pos z4, z5]
        have e45 : X9.1 0 45 = nI K := by rw [n2.2.1 45 (by omega) (by omega) (by omega) (by omega) (by omega), stX_ne (by omega)]; exact t3
        have e6 : (nxC (nxC E (i + 1)) (i + 1 + 1)).1 6 r = E.1 6 r := by unfold nxC; rw [stC_ob (by omega), stC_ob (by omega)]
        have cE : CoR r (nxC (nxC E (i + 1)) (i + 1 + 1)) K cd (o + 1) := by unfold CoR; rw [e6]; exact t2
        rw [adS_eq (nI (18 + c)) (nI g) (nI z) (by omega) cE.2.2.1, cal_some, code_eq _ _ _ (by omega) e45, cal_some]
        have p10 : PsR N (nxC E (i + 1)) (coX X9 K (nI c) (nI g) (nI z)) (i + 1 + 1) := psR_c n3 rfl co_xp
        obtain ⟨X11, m1, m2, m3⟩ := next_rel hN p10 (by rw [z2]; decide) (by rw [z2]; decide)
        rw [m1, cal_some, cal_rt, if_neg (show ¬ (1 : Int32) = 0 by decide)]
        have fl : ∀ x, x ≠ 45 → x ≠ 49 → x ≠ 4 → x ≠ 11 → x ≠ 12 → x ≠ 13 → x ≠ 14 → X11.1 0 x = X5.1 0 x := fun x h1 h2 h3 h4 h5 h6 h7 => by
          rw [m2.2.1 x h3 h4 h5 h6 h7, co_f h1, n2.2.1 x h3 h4 h5 h6 h7, stX_ne h2]
        have r4 : ∀ y, X11.1 4 y = (coX X9 K (nI c) (nI g) (nI z)).1 4 y := fun y => by rw [m2.1 4 (by omega)]
        have r94 : X9.1 4 = X5.1 4 := by rw [n2.1 4 (by omega), stX_row (by omega)]
        have hw : nI (18 + c) = nI (cdW c) := by unfold cdW; rw [if_pos hc]
        refine Or.inl ⟨adS (nxC (nxC E (i + 1)) (i + 1 + 1)) r K (nI (18 + c)) (nI g) (nI z), X11, i + 1 + 1 + 1, o + 1, K + 1, 0, 0, upC cd K c, f, rfl, rfl, by omega, ⟨psR_c m3 ad_1 (XP.rf X11), ?_, ?_, ?_, ?_, ?_, ?_, ?_, by omega, by omega⟩, fun x hx => absurd hx (Nat.not_lt_zero _), ⟨rfl, trivial⟩, by omega, fun x hx => absurd hx (Nat.not_lt_zero _), fun y hy => ?_, by omega, by omega, ?_, by omega, by omega, (a6.trans (fs_f1 (nx_f1.trans nx_f1))).trans ad_fs, g8.trans ((gs_nx n2).trans (co_gs.trans (gs_nx m2)))⟩
        · rw [hw]
          exact co_add cE (by omega) (by omega) (by omega) (by omega)
        · rw [m2.2.1 45 (by omega) (by omega) (by omega) (by omega) (by omega)]
          unfold coX
          exact stX_at
        · rw [fl 46 (by omega) (by omega) (by omega) (by omega) (by omega) (by omega) (by omega)]; exact t4
        · rw [fl 47 (by omega) (by omega) (by omega) (by omega) (by omega) (by omega) (by omega)]; exact t5
        · rw [fl 48 (by omega) (by omega) (by omega) (by omega) (by omega) (by omega) (by omega)]; exact t6
        · rw [m2.2.1 49 (by omega) (by omega) (by omega) (by omega) (by omega), co_f (by omega), n2.2.1 49 (by omega) (by omega) (by omega) (by omega) (by omega), stX_at]
        · intro k hk
          obtain ⟨b1, b2, b3, b4, b5⟩ := ad_rows6 (C := nxC (nxC E (i + 1)) (i + 1 + 1)) (r := r) (K := K) (w := nI (18 + c)) (s := nI g) (z := nI z)
          rw [b4, b5, r4, r4, r4]
          by_cases e : k = K
          · subst e
            rw [upC_at, if_pos rfl, if_pos rfl]
            exact ⟨co_r4.2.1, fun _ _ => ⟨⟨g, g1, g2, rfl, co_r4.2.2.1⟩, co_r4.2.2.2.symm⟩⟩
          · rw [upC_lt (by omega), if_neg e, if_neg e, co_r4.1 _ (by omega), co_r4.1 _ (by omega), co_r4.1 _ (by omega), r94, e6]
            exact t8 k (by omega)
        · rw [m2.1 15 (by omega), co_15, n2.1 15 (by omega), stX_row (by omega), a4]
        · show dpS (upC cd K c) (K + 1) = _
          rw [dpS_n, if_neg (by omega), if_neg (by omega)]
      · have hfa := (bl_fa n3 (show (1 : Int32) ≠ 0 by decide)).1
        obtain ⟨C', q1, q2, q3, q4⟩ := fs_add (nI (18 + c)) (nI g) (-1) (fE (nx_f1.trans bl_f1) hfa)
        rw [z3, cal_some, if_neg z4, bad_eq, cal_some, q1, cal_some, show chk (isB 0) (rt 0 (bdX X9 1)) = some (0, bdX X9 1) from rfl, cal_some, if_pos rfl]
        exact Or.inr ⟨C', bdX X9 1, rfl, rfl, ⟨q2.1, by rw [q3]; exact hfa.2.1, by rw [q3]; exact hfa.2.2⟩, q2, (a6.trans (fs_f1 (nx_f1.trans bl_f1))).trans q4, g8.trans ((gs_nx n2).trans (gs_bd bd_bdf))⟩
    · have hfa := (bl_fa p8 (show (1 : Int32) ≠ 0 by decide)).1
      obtain ⟨C', q1, q2, q3, q4⟩ := fs_add (nI (18 + c)) (-1) (-1) (fE bl_f1 hfa)
      have hbad : (if (stX X5 0 49 1).1 0 11 = 3 then (if (stX X5 0 49 1).1 0 14 < 60 then f_X11_operand_170 N (stX X5 0 49 1) else (if (stX X5 0 49 1).1 0 14 ≤ 62 then cal (f_X11_next N (stX X5 0 49 1)) (fun v13 X14 => (if (X14.1 0 11) = 2 then cal (f_X11_code (nI c) ((stX X5 0 49 1).1 0 14) (X14.1 0 14) X14) (fun v16 X17 => cal (f_X11_next N X17) (fun v18 X19 => (rt 1 X19))) else cal (f_X11_bad 1 X14) (fun v20 X21 => (chk (isB v20) (rt v20 X21))))) else f_X11_operand_170 N (stX X5 0 49 1))) else f_X11_operand_170 N (stX X5 0 49 1)) = some (0, bdX (stX X5 0 49 1) 1) := by
        have h170 : f_X11_operand_170 N (stX X5 0 49 1) = some (0, bdX (stX X5 0 49 1) 1) := by
          unfold f_X11_operand_170
          rw [bad_eq, cal_some]
          rfl
        by_cases q : (stX X5 0 49 1).1 0 11 = 3
        · obtain ⟨g, w1, w2⟩ := g5 q
          rw [if_pos q, w1, if_pos (by simp (disch := omega) only [lt_nl]; omega)]
          exact h170
        · rw [if_neg q]
          exact h170
      rw [hbad, g4, cal_some, fa_number hfa.1, cal_some, q1, cal_some, cal_some, if_pos rfl]
      exact Or.inr ⟨C', bdX (stX X5 0 49 1) 1, rfl, rfl, ⟨q2.1, by rw [q3]; exact hfa.2.1, by rw [q3]; exact hfa.2.2⟩, q2, (a6.trans (fs_f1 bl_f1)).trans q4, g8.trans (gs_bd bd_bdf)⟩
end SENT3
