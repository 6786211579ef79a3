/-! Sentences: not, brackets, all operands. -/
section SENT7
variable {N : Nat}
theorem mk_41 {C : CM} {X : XM} {i : Nat} (h : PsR N C X i) : f_X11_isSign 41 X = some (if C.1 1 0 1 i = 5 ∧ C.1 1 0 2 i = 41 then 1 else 0, X) ∧ f_X7_sees 5 41 C = some (if C.1 1 0 1 i = 5 ∧ C.1 1 0 2 i = 41 then 1 else 0, C) := ⟨isSign_rel (ps_mt h) (c := 41) (by unfold isMk; omega), ps_sees h 5 41⟩
/-- behind an operand, and no word that joins: all that waits goes; then a bracket closes, or it is a fault -/
theorem behind_end {r i o KX m h d j : Nat} {C : CM} {X : XM} {cd : Nat → Nat} (hN : 2000 ≤ N) (hS : SnI N r C X i o (KX + m) KX (h + m) (d + j) 1 cd) (hP : PdR X h KX m cd) (hA : A3 KX m j cd) (hW : W3 C i) (hj : j ≤ m) (hx : ∀ x, x < j → cd (KX + x) = 10) (hb : h = 0 ∨ X.1 15 (h - 1) = 13) (hh : h + m ≤ 40) (hd : d + j ≤ 9) :
    ∃ X1 X2, f_X11_nots N X = some (0, X1) ∧ f_X11_joins N 12 X1 = some (0, X2) ∧ SnI N r C X2 i o (KX + m) (KX + m) h d 1 cd ∧ X2.1 15 = X.1 15 ∧ GS X X2 ∧ f_X11_behind N X = (if C.1 1 0 1 i = 5 ∧ C.1 1 0 2 i = 41 then (if nI h = 0 then some (0, bdX X2 1) else cal (f_X11_next N (stX (stX X2 0 47 (nI h - 1)) 0 48 (nI d - 1))) (fun v17 X18 => rt 1 X18)) else some (0, bdX X2 1)) := by
  obtain ⟨X1, X2, f1, f2, f3, f4, f5, f6⟩ := flush (a1 := 12) hN hS hP hj hx (fun x a b => by
    rcases hA.2 x a b with q | q
    · exact Or.inl q
    · exact Or.inr ⟨q, rfl⟩) (by
    rcases hb with q | q
    · exact Or.inl q
    · exact Or.inr ⟨by rw [q]; decide, by rw [q]; decide, fun z => absurd (q.symm.trans z) (by decide)⟩) hh hd
  refine ⟨X1, X2, f1, f2, f4, f5, f6, ?_⟩
  have w16a := isWord_rel (ps_mt f3) (w := 16) (by omega)
  have w15a := isWord_rel (ps_mt f3) (w := 15) (by omega)
  rw [if_neg hW.1] at w16a
  rw [if_neg hW.2] at w15a
  obtain ⟨s1, s2, s3, s4, s5, s6, s7, s8, s9, s10⟩ := id f4
  unfold f_X11_behind f_X11_behind_114
  rw [v16, v15, f1, cal_some, w16a, cal_some, if_pos rfl, w15a, cal_some, if_pos rfl, f2, cal_some, (mk_41 s1).1, cal_some, bad_eq, cal_some]
  by_cases e : C.1 1 0 1 i = 5 ∧ C.1 1 0 2 i = 41
  · have e48 : (stX X2 0 47 (nI h - 1)).1 0 48 = nI d := by rw [stX_ne (by omega)]; exact s6
    rw [if_pos e, if_pos e, if_neg (show ¬ (1 : Int32) = 0 by decide), s5, bnd_v, e48, bnd_v]
    rfl
  · rw [if_neg e, if_neg e, if_pos rfl]
    rfl
theorem push_sn {C : CM} {X : XM} {r i o K h d : Nat} {cd : Nat → Nat} {v : Int32} (hS : SnI N r C X i o K K h d 0 cd) (hh : h < 45) (hd : d < 100) : f_X11_operand_103 N v (nI h) X = some (1, stX (stX (stX X 15 h v) 0 47 (nI (h + 1))) 0 48 (nI (d + 1))) ∧ SnI N r C (stX (stX (stX X 15 h v) 0 47 (nI (h + 1))) 0 48 (nI (d + 1))) i o K K (h + 1) (d + 1) 0 cd ∧ (∀ y, y < h → (stX (stX (stX X 15 h v) 0 47 (nI (h + 1))) 0 48 (nI (d + 1))).1 15 y = X.1 15 y) ∧ (stX (stX (stX X 15 h v) 0 47 (nI (h + 1))) 0 48 (nI (d + 1))).1 15 h = v ∧ GS X (stX (stX (stX X 15 h v) 0 47 (nI (h + 1))) 0 48 (nI (d + 1))) := by
  obtain ⟨s1, s2, s3, s4, s5, s6, s7, s8, s9, s10⟩ := hS
  refine ⟨?_, ⟨psR_c s1 rfl ((xp_row (by omega) (by omega)).trans ((xp_f (by omega)).trans (xp_f (by omega)))), s2, ?_, ?_, ?_, stX_at, ?_, fun k hk => ?_, s9, s10⟩, fun y hy => ?_, ?_, (gs_r (by omega)).trans ((gs_f (Or.inl rfl)).trans (gs_f (Or.inl rfl)))⟩
  · unfold f_X11_operand_103
    have e47 : (stX X 15 h v).1 0 47 = nI h := by rw [stX_row (by omega)]; exact s5
    have e48 : (stX (stX X 15 h v) 0 47 (nI (h + 1))).1 0 48 = nI d := by rw [stX_ne (by omega), stX_row (by omega)]; exact s6
    rw [sxA_nI (by omega) (by omega), e47, nI_al, bnd_v, e48, nI_al, bnd_v]
    rfl
  · rw [stX_ne (by omega), stX_ne (by omega), stX_row (by omega)]; exact s3
  · rw [stX_ne (by omega), stX_ne (by omega), stX_row (by omega)]; exact s4
  · rw [stX_ne (by omega), stX_at]
  · rw [stX_ne (by omega), stX_ne (by omega), stX_row (by omega)]; exact s7
  · rw [stX_row (by omega), stX_row (by omega), stX_row (by omega)]
    exact s8 k hk
  · rw [stX_row (by omega), stX_row (by omega), stX_ne (by omega)]
  · rw [stX_row (by omega), stX_row (by omega), stX_at]
theorem one_step {F : Int32 → CM → Option (Int32 × CM)} {r d : Nat} (hN : 2000 ≤ N) (hd1 : 1 ≤ d) (hd9 : d ≤ 9) (hF : d ≤ 8 → OneP N r F (d + 1)) : OneP N r (f_X5_readOne N r F) d := by
  intro C X i o K h cd fu hS hh hK hf
  have i940 := ps_i hS.1
  obtain ⟨f, rfl⟩ : ∃ f, fu = f + 1 := ⟨fu - 1, by omega⟩
  obtain ⟨s1, s2, s3, s4, s5, s6, s7, s8, s9, s10⟩ := id hS
  have o20 := s2.2.1
  have fsb : ∀ e : Int32, e ≠ 0 → FsC r (blC C e (C.1 1 0 3 i)) := fun e he => ⟨(bl_fa s1 he).1.1, K, by omega, by rw [(bl_f1 (C := C) (e := e) (pl := C.1 1 0 3 i)).2 6 (by omega)]; exact s2.2.2.1⟩
  -- at the limits
  have l40 : ∀ (a3 a4 b1 b2 b3 : Int32), f_X11_operand N X = f_X11_operand_38 N b1 b2 b3 X → ¬ (o < 20 ∧ d ≤ 8) → SPost N r A1 W1 C X o K h d cd (f + 1) (f_X5_readOne_40 N r F (nI d) a3 a4 C) := by
    intro a3 a4 b1 b2 b3 hop hl
    have hfa := bl_fa s1 (show (4 : Int32) ≠ 0 by decide)
    have c40 : f_X5_readOne_40 N r F (nI d) a3 a4 C = some (0, blC C 4 (C.1 1 0 3 i)) := by
      have c55 : f_X5_readOne_55 N r F (nI d) a3 a4 C = some (0, blC C 4 (C.1 1 0 3 i)) := by
        unfold f_X5_readOne_55 f_X5_readOne_60
        rw [ps_blame s1, cal_some, fa_sound hfa.1.1, cal_some, if_pos rfl]
        rfl
      unfold f_X5_readOne_40
      rw [s2.1]
      simp (disch := omega) only [le_ln, le_nl]
      by_cases q : 20 ≤ o
      · rw [if_pos q]; exact c55
      · rw [if_neg q, if_neg (by omega)]; exact c55
    have x38 : f_X11_operand_38 N b1 b2 b3 X = some (0, bdX X 4) := by
      have x56 : f_X11_operand_56 N X = some (0, bdX X 4) := by
        unfold f_X11_operand_56
        rw [bad_eq, cal_some]
        rfl
      unfold f_X11_operand_38
      rw [s4, s6]
      simp (disch := omega) only [eq_nl, le_nl]
      by_cases q : o = 20
      · rw [if_pos q]; exact x56
      · rw [if_neg q, if_neg (by omega)]; exact x56
    refine Or.inr ⟨blC C 4 (C.1 1 0 3 i), bdX X 4, c40, ?_, hfa.1, fsb 4 (by decide), fs_f1 bl_f1, gs_bd bd_bdf⟩
    rw [s_zero s7, hop, x38, cal_some, if_pos rfl]
    rfl
  have g40 : ∀ (a3 a4 : Int32), o < 20 ∧ d ≤ 8 → f_X5_readOne_40 N r F (nI d) a3 a4 C = f_X5_readOne_60 N r F (nI d) a3 a4 C := by
    intro a3 a4 hl
    unfold f_X5_readOne_40
    rw [s2.1]
    simp (disch := omega) only [le_ln, le_nl]
    rw [if_neg (by omega), if_pos hl.2]
  have o20n : o < 20 → ¬ nI o = (20 : Int32) := fun q => by simp (disch := omega) only [eq_nl]; omega
  have d8 : d ≤ 8 → nI d ≤ (8 : Int32) := fun q => by simp (disch := omega) only [le_nl]; omega
  unfold f_X5_readOne
  rcases opd_rel (N := N) s1 with ⟨k5, e1, e2, e3⟩ | ⟨k2, e1, e2, e3⟩ | ⟨c, hc, k2, e1, e2, e3⟩ | ⟨e1, ⟨w, e2, hw⟩, e3⟩
  · -- a bracket
    rw [e1, cal_some, e2, cal_some, if_neg (show ¬ (1 : Int32) = 0 by decide)]
    by_cases hl : o < 20 ∧ d ≤ 8
    rotate_left
    · exact l40 _ _ _ _ _ e3 hl
    rw [g40 _ _ hl]
    obtain ⟨X5, a1, a2, a3, a4, a5, a6⟩ := sn_one hN hS hl.1 (by rw [k5]; decide) (by rw [k5]; decide)
    obtain ⟨b1, b2, b3, b4, b5⟩ := push_sn (v := 13) a3 (by omega) (by omega)
    have hst : f_X11_sentence_48 N (f + 1) 1 X = f_X11_sentence_48 N f 1 (stX (stX (stX X5 15 h 13) 0 47 (nI (h + 1))) 0 48 (nI (d + 1))) := by
      rw [s_zero s7, e3]
      unfold f_X11_operand_38 f_X11_operand_84
      rw [s4, if_neg (o20n hl.1), s6, if_pos (d8 hl.2), nI_al, bnd_v, a1, cal_some, if_pos (show (0 : Int32) = 0 from rfl), if_neg (show ¬ (1 : Int32) = 0 by decide), if_pos (show (0 : Int32) = 0 from rfl), a3.2.2.2.2.1, b1, cal_some, if_neg (show ¬ (1 : Int32) = 0 by decide)]
    unfold f_X5_readOne_60
    rw [ps_sound s1, cal_some, if_neg (show ¬ (1 : Int32) = 0 by decide), if_pos (d8 hl.2), s2.1, nI_al, bnd_v, a2, cal_some, if_neg (show ¬ (1 : Int32) = 0 by decide), nI_al]
    rcases cond_of hN (all_of hN (hF hl.2)) _ _ (i + 1) (o + 1) K (h + 1) cd f b2 (by omega) (by omega) (by omega) (Or.inr b4) with ⟨C3, X3, i3, o3, KX3, m3, j3, cd3, fu3, p1, p2, p3, p4, p5, p6, p7, p8, p9, p10, p11, p12, p13, p14, p15, p16⟩ | ⟨C3, X3, p1, p2, p3, p4, p5, p6⟩
    · have i3' := ps_i p4.1
      have o20' := p4.2.1.2.1
      obtain ⟨f3, rfl⟩ : ∃ f3, fu3 = f3 + 1 := ⟨fu3 - 1, by omega⟩
      have t15 : X3.1 15 h = 13 := by rw [p9 h (by omega)]; exact b4
      obtain ⟨Y1, Y2, q1, q2, q3, q4, q5, q6⟩ := behind_end hN p4 p5 p6.1 p6.2 p7 p8 (Or.inr t15) p13 p14
      obtain ⟨t1, t2, t3, t4, t5, t6, t7, t8, t9, t10⟩ := id q3
      have hfa := bl_fa t1 (show (1 : Int32) ≠ 0 by decide)
      have fs1 : FsC r (blC C3 1 (C3.1 1 0 3 i3)) := ⟨hfa.1.1, KX3 + m3, by omega, by rw [(bl_f1 (C := C3) (e := 1) (pl := C3.1 1 0 3 i3)).2 6 (by omega)]; exact t2.2.2.1⟩
      have hn : ¬ nI (h + 1) = (0 : Int32) := by simp (disch := omega) only [eq_nl]; omega
      rw [p1, cal_some]
      by_cases ec : C3.1 1 0 1 i3 = 5 ∧ C3.1 1 0 2 i3 = 41
      · -- it closes
        have h11 : X3.1 0 11 ≠ 0 := by
          obtain ⟨-, q⟩ := ps_mt p4.1
          rw [ec.1] at q
          rcases q with ⟨h1, -⟩ | ⟨h1, -⟩ | ⟨w', h0, h1, -⟩ | ⟨h1, -⟩ | ⟨z, -, h1, -⟩ | ⟨c', -, h1, -, h4, -⟩
          · exact absurd h1 (by decide)
          · exact absurd h1 (by decide)
          · exact absurd h1 (by decide)
          · exact absurd h1 (by decide)
          · exact absurd h1 (by decide)
          · rw [h4]; decide
        have z1 : nI (h + 1) - 1 = nI h := nI_sl (by show 1 ≤ h + 1; omega)
        have z2 : nI (d + 1) - 1 = nI d := nI_sl (by show 1 ≤ d + 1; omega)
        have p7' : PsR N C3 (stX (stX Y2 0 47 (nI h)) 0 48 (nI d)) i3 := psR_c t1 rfl ((xp_f (by omega)).trans (xp_f (by omega)))
        have hS7 : SnI N r C3 (stX (stX Y2 0 47 (nI h)) 0 48 (nI d)) i3 o3 (KX3 + m3) (KX3 + m3) h d 1 cd3 := by
          refine ⟨p7', t2, ?_, ?_, ?_, stX_at, ?_, fun k hk => ?_, t9, t10⟩
          · rw [stX_ne (by omega), stX_ne (by omega)]; exact t3
          · rw [stX_ne (by omega), stX_ne (by omega)]; exact t4
          · rw [stX_ne (by omega), stX_at]
          · rw [stX_ne (by omega), stX_ne (by omega)]; exact t7
          · rw [stX_row (by omega), stX_row (by omega)]; exact t8 k hk
        obtain ⟨Y3, n1, n2, n3⟩ := next_rel hN p7' (by rw [ec.1]; decide) (by rw [ec.1]; decide)
        have hmk : f_X7_takeMark 41 C3 = some (0, nxC C3 i3) := by
          unfold f_X7_takeMark
          rw [(mk_41 p4.1).2, cal_some, if_pos ec, if_neg (show ¬ (1 : Int32) = 0 by decide), ps_take p4.1, cal_some]
          rfl
        have hs3 : f_X11_sentence_48 N (f3 + 1) 1 X3 = f_X11_sentence_48 N f3 1 Y3 := by
          rw [s_one p4.2.2.2.2.2.2.1 h11, q6, if_pos ec, if_neg hn, z1, z2, n1, cal_some, cal_rt, if_neg (show ¬ (1 : Int32) = 0 by decide)]
        rw [hmk, cal_some]
        refine Or.inl ⟨nxC C3 i3, Y3, i3 + 1, o3, KX3 + m3, 0, 0, cd3, f3, rfl, (hst.trans p2).trans hs3, by omega, sn_nx hS7 n3 n2 (by unfold nxC; exact stC_ob (by omega)), fun x hx => absurd hx (Nat.not_lt_zero _), ⟨rfl, trivial⟩, by omega, fun x hx => absurd hx (Nat.not_lt_zero _), fun y hy => ?_, by omega, by omega, p12, by omega, by omega, (a6.trans p15).trans (fs_f1 nx_f1), (((a5.trans b5).trans p16).trans q5).trans ((gs_f (Or.inl rfl)).trans ((gs_f (Or.inl rfl)).trans (gs_nx n2)))⟩
        rw [n2.1 15 (by omega), stX_row (by omega), stX_row (by omega), q4, p9 y (by omega), b3 y hy, a4]
      · have hmk : f_X7_takeMark 41 C3 = some (0, blC C3 1 (C3.1 1 0 3 i3)) := by
          unfold f_X7_takeMark
          rw [(mk_41 p4.1).2, cal_some, if_neg ec, if_pos rfl, ps_blame p4.1, cal_some]
          rfl
        have hs3 : f_X11_sentence_48 N (f3 + 1) 1 X3 = some (-1 - (bdX Y2 1).1 0 16, bdX Y2 1) := by
          by_cases h11 : X3.1 0 11 = 0
          · have h49 : ¬ X3.1 0 49 = 0 := by rw [p4.2.2.2.2.2.2.1]; decide
            rw [f_X11_sentence_48, if_neg (show ¬ (1 : Int32) = 0 by decide), if_neg h49, if_pos h11, q1, cal_some, q2, cal_some, t5, if_neg (by simp (disch := omega) only [le_nl]; omega), bad_eq, cal_some]
            rfl
          · rw [s_one p4.2.2.2.2.2.2.1 h11, q6, if_neg ec, cal_some, if_pos rfl]
            rfl
        rw [hmk, cal_some]
        exact Or.inr ⟨_, bdX Y2 1, rfl, (hst.trans p2).trans hs3, hfa.1, fs1, (a6.trans p15).trans (fs_f1 bl_f1), (((a5.trans b5).trans p16).trans q5).trans (gs_bd bd_bdf)⟩
    · obtain ⟨C4, c1, c2⟩ := fa_mark p4.1 41
      rw [p1, cal_some, c1, cal_some]
      obtain ⟨k, k1, k2⟩ := p4.2
      exact Or.inr ⟨C4, X3, rfl, hst.trans p2, faR_k p3 c2, ⟨c2.1, k, k1, by rw [c2.2.2.2.2 6 (by omega)]; exact k2⟩, (a6.trans p5).trans (fs_f1 c2.2.2.2), (a5.trans b5).trans p6⟩
  · -- not
    rw [e1, cal_some, e2, cal_some, if_pos rfl, if_neg (by decide), if_pos (by decide)]
    by_cases hl : o < 20 ∧ d ≤ 8
    rotate_left
    · exact l40 _ _ _ _ _ e3 hl
    rw [g40 _ _ hl]
    obtain ⟨X5, a1, a2, a3, a4, a5, a6⟩ := sn_one hN hS hl.1 (by rw [k2]; decide) (by rw [k2]; decide)
    obtain ⟨b1, b2, b3, b4, b5⟩ := push_sn (v := 10) a3 (by omega) (by omega)
    have hst : f_X11_sentence_48 N (f + 1) 1 X = f_X11_sentence_48 N f 1 (stX (stX (stX X5 15 h 10) 0 47 (nI (h + 1))) 0 48 (nI (d + 1))) := by
      rw [s_zero s7, e3]
      unfold f_X11_operand_38 f_X11_operand_84
      rw [s4, if_neg (o20n hl.1), s6, if_pos (d8 hl.2), nI_al, bnd_v, a1, cal_some, if_neg (show ¬ (1 : Int32) = 0 by decide), if_neg (show ¬ (1 : Int32) = 0 by decide), a3.2.2.2.2.1, b1, cal_some, if_neg (show ¬ (1 : Int32) = 0 by decide)]
    unfold f_X5_readOne_60
    rw [ps_sound s1, cal_some, if_neg (show ¬ (1 : Int32) = 0 by decide), if_pos (d8 hl.2), s2.1, nI_al, bnd_v, a2, cal_some, if_pos (show (0 : Int32) = 0 from rfl), if_pos (show (17 : Int32) = 17 from rfl), nI_al]
    rcases hF hl.2 _ _ (i + 1) (o + 1) K (h + 1) cd f b2 (by omega) (by omega) (by omega) with ⟨C3, X3, i3, o3, KX3, m3, j3, cd3, fu3, p1, p2, p3, p4, p5, p6, p7, p8, p9, p10, p11, p12, p13, p14, p15, p16⟩ | ⟨C3, X3, p1, p2, p3, p4, p5, p6⟩
    · have hmj : m3 = j3 := p6.1
      subst hmj
      have o20' := p4.2.1.2.1
      rw [p1, cal_some]
      obtain ⟨c1, c2⟩ := sn_add (c := 10) p4 (by omega) (by omega) (by omega) (by omega)
      have c1' : f_X5_add r 17 0 0 C3 = some (0, adS C3 r (KX3 + m3) (nI (cdW 10)) 0 0) := c1
      rw [c1', cal_some]
      have t15 : X3.1 15 h = nI 10 := by rw [p9 h (by omega)]; exact b4
      refine Or.inl ⟨_, X3, i3, o3, KX3, m3 + 1, m3 + 1, upC cd3 (KX3 + m3) 10, fu3, rfl, hst.trans p2, p3, ?_, pd_add p5 t15, ⟨rfl, trivial⟩, by omega, fun x hx => ?_, fun y hy => ?_, by omega, by omega, ?_, by omega, by omega, (a6.trans p15).trans ad_fs, (a5.trans b5).trans p16⟩
      · rw [show h + (m3 + 1) = h + 1 + m3 by omega, show d + (m3 + 1) = d + 1 + m3 by omega]
        exact c2
      · by_cases q : x = m3
        · subst q
          exact upC_at
        · rw [upC_lt (by omega)]
          exact p8 x (by omega)
      · rw [p9 y (by omega), b3 y hy, a4]
      · show dpS (upC cd3 (KX3 + m3) 10) (KX3 + m3 + 1) = _
        rw [dpS_n, if_pos rfl, p12]
    · obtain ⟨C4, c1, c2, c3, c4⟩ := fs_add 17 0 0 p4
      rw [p1, cal_some, c1, cal_some]
      exact Or.inr ⟨C4, X3, rfl, hst.trans p2, fs_fa p3 c3 c2, c2, (a6.trans p5).trans c4, (a5.trans b5).trans p6⟩
  · rw [e1, cal_some, e2, cal_some, if_pos rfl]
    simp (disch := omega) only [lt_nl, le_nl]
    rw [if_neg (by omega), if_pos (by omega)]
    by_cases hl : o < 20 ∧ d ≤ 8
    · rw [g40 _ _ hl]
      exact leaf_step hN hS hh hK hf hl.1 hl.2 hc k2 e3
    · exact l40 _ _ _ _ _ e3 hl
  · have hfa := bl_fa s1 (show (1 : Int32) ≠ 0 by decide)
    rw [e1, cal_some, e2, cal_some, if_pos rfl, if_pos hw]
    unfold f_X5_readOne_32 f_X5_readOne_60
    rw [ps_blame s1, cal_some, fa_sound hfa.1.1, cal_some, if_pos rfl]
    refine Or.inr ⟨blC C 1 (C.1 1 0 3 i), bdX X 1, rfl, ?_, hfa.1, fsb 1 (by decide), fs_f1 bl_f1, gs_bd bd_bdf⟩
    rw [s_zero s7, e3, cal_some, if_pos rfl]
    rfl
end SENT7
