/-! Sentences: and, or. -/
section SENT4
variable {N : Nat}
theorem flush {r i o KX m h d j : Nat} {st a1 : Int32} {C : CM} {X : XM} {cd : Nat → Nat} (hN : 2000 ≤ N) (hS : SnI N r C X i o (KX + m) KX (h + m) (d + j) st cd) (hP : PdR X h KX m cd) (hj : j ≤ m) (hx : ∀ x, x < j → cd (KX + x) = 10) (hr : ∀ x, j ≤ x → x < m → cd (KX + x) = 11 ∨ (cd (KX + x) = 12 ∧ a1 = 12)) (hb : h = 0 ∨ (X.1 15 (h - 1) ≠ 10 ∧ X.1 15 (h - 1) ≠ 11 ∧ (X.1 15 (h - 1) = 12 → a1 ≠ 12))) (hh : h + m ≤ 40) (hd : d + j ≤ 9) :
    ∃ X1 X2, f_X11_nots N X = some (0, X1) ∧ f_X11_joins N a1 X1 = some (0, X2) ∧ PsR N C X1 i ∧ SnI N r C X2 i o (KX + m) (KX + m) h d st cd ∧ X2.1 15 = X.1 15 ∧ GS X X2 := by
  have s1 : h + (m - j) = 0 ∨ X.1 15 (h + (m - j) - 1) ≠ 10 := by
    by_cases e : m = j
    · rcases hb with q | q
      · left; omega
      · by_cases e0 : h = 0
        · left; omega
        · right
          rw [show h + (m - j) - 1 = h - 1 by omega]
          exact q.1
    · right
      have := hP j (by omega)
      rw [show h + m - 1 - j = h + (m - j) - 1 by omega] at this
      rw [this]
      rcases hr j (Nat.le_refl _) (by omega) with q | ⟨q, -⟩
      · rw [q]; decide
      · rw [q]; decide
  obtain ⟨X1, a1', a2, a3, a4, a5⟩ := nots_rel (N := N) j KX m X N (by omega) hj hS rfl hP hx s1 (by omega) (by omega)
  have hS1 : SnI N r C X1 i o (KX + j + (m - j)) (KX + j) (h + (m - j)) d st cd := by
    rw [show KX + j + (m - j) = KX + m by omega]
    exact a2
  obtain ⟨X2, b1, b2, b3, b4, b5⟩ := joins_rel (N := N) (a1 := a1) (m - j) (KX + j) (m - j) X1 N (by omega) (by omega) hS1 rfl a3 (fun x hx' => by
    rw [show KX + j + x = KX + (j + x) by omega]
    exact hr (j + x) (by omega) (by omega)) (by
    rw [a4, show h + (m - j - (m - j)) = h by omega]
    rcases hb with q | q
    · exact Or.inl q
    · exact Or.inr q.2) (by omega)
  refine ⟨X1, X2, a1', b1, a2.1, ?_, b4.trans a4, a5.trans b5⟩
  rw [show KX + j + (m - j) = KX + m by omega, show h + (m - j - (m - j)) = h by omega] at b2
  exact b2
theorem s_one {X : XM} {f : Nat} (h : X.1 0 49 = 1) (h11 : X.1 0 11 ≠ 0) : f_X11_sentence_48 N (f + 1) 1 X = cal (f_X11_behind N X) (fun v2 X3 => if v2 = 0 then f_X11_sentence_125 N X3 else f_X11_sentence_48 N f 1 X3) := by
  have h49 : ¬ X.1 0 49 = 0 := by rw [h]; decide
  rw [f_X11_sentence_48, if_neg (show ¬ (1 : Int32) = 0 by decide), if_neg h49, if_neg h11]
  unfold f_X11_sentence_101
  rw [if_neg h49]
theorem v16 : (6385252 : Int64) = resV 16 := by decide
theorem v15 : (28530 : Int64) = resV 15 := by decide
/-- behind an operand: and, or -/
theorem join_step {r i o KX m h d j c f : Nat} {C : CM} {X : XM} {cd : Nat → Nat} (hN : 2000 ≤ N) (hc : c = 11 ∨ c = 12) (hS : SnI N r C X i o (KX + m) KX (h + m) (d + j) 1 cd) (hP : PdR X h KX m cd) (hj : j ≤ m) (hx : ∀ x, x < j → cd (KX + x) = 10) (hr : ∀ x, j ≤ x → x < m → cd (KX + x) = 11 ∨ (cd (KX + x) = 12 ∧ nI c = 12)) (hb : h = 0 ∨ (X.1 15 (h - 1) ≠ 10 ∧ X.1 15 (h - 1) ≠ 11 ∧ (X.1 15 (h - 1) = 12 → nI c ≠ 12))) (hh : h + m ≤ 40) (hd : d + j ≤ 9) (k2 : C.1 1 0 1 i = 2) (kv : C.1 1 0 2 i = nI (27 - c)) :
    ∃ X', f_X11_sentence_48 N (f + 1) 1 X = f_X11_sentence_48 N f 1 X' ∧ SnI N r (nxC C i) X' (i + 1) o (KX + m) (KX + m) (h + 1) d 0 cd ∧ (∀ y, y < h → X'.1 15 y = X.1 15 y) ∧ X'.1 15 h = nI c ∧ GS X X' := by
  obtain ⟨X1, X2, f1, f2, f3, f4, f5, f6⟩ := flush (a1 := nI c) hN hS hP hj hx hr hb hh hd
  have h11 : X.1 0 11 ≠ 0 := by
    obtain ⟨-, q⟩ := ps_mt hS.1
    rw [k2] at q
    rcases q with ⟨h1, -⟩ | ⟨h1, -⟩ | ⟨w', h0, h1, h2, h3, -⟩ | ⟨h1, -⟩ | ⟨z, -, h1, -⟩ | ⟨c', -, h1, -⟩
    · exact absurd h1 (by decide)
    · exact absurd h1 (by decide)
    · rw [h3]; decide
    · exact absurd h1 (by decide)
    · exact absurd h1 (by decide)
    · exact absurd h1 (by decide)
  rw [s_one hS.2.2.2.2.2.2.1 h11]
  obtain ⟨s1, s2, s3, s4, s5, s6, s7, s8, s9, s10⟩ := id f4
  -- what lies on the stack now
  have hp3 : PsR N C (stX (stX (stX X2 15 h (nI c)) 0 47 (nI (h + 1))) 0 49 0) i := psR_c s1 rfl ((xp_row (by omega) (by omega)).trans ((xp_f (by omega)).trans (xp_f (by omega))))
  obtain ⟨X5, n1, n2, n3⟩ := next_rel hN hp3 (by rw [k2]; decide) (by rw [k2]; decide)
  have h70 : f_X11_behind_70 N (nI c) (nI h) X2 = some (1, X5) := by
    unfold f_X11_behind_70
    have e47 : (stX X2 15 h (nI c)).1 0 47 = nI h := by rw [stX_row (by omega)]; exact s5
    rw [sxA_nI (by omega) (by omega), e47, nI_al, bnd_v, bnd_v, n1, cal_some]
    rfl
  have hbe : f_X11_behind N X = some (1, X5) := by
    have w16a := isWord_rel (ps_mt f3) (w := 16) (by omega)
    have w15a := isWord_rel (ps_mt f3) (w := 15) (by omega)
    have w16b := isWord_rel (ps_mt s1) (w := 16) (by omega)
    unfold f_X11_behind f_X11_behind_24 f_X11_behind_42
    rw [v16, v15, f1, cal_some, w16a, cal_some]
    rcases hc with rfl | rfl
    · have e16 : C.1 1 0 1 i = 2 ∧ C.1 1 0 2 i = nI 16 := ⟨k2, kv⟩
      have f2' : f_X11_joins N 11 X1 = some (0, X2) := f2
      rw [if_pos e16] at w16a w16b
      rw [if_pos e16, if_neg (show ¬ (1 : Int32) = 0 by decide), w16a, cal_some, if_neg (show ¬ (1 : Int32) = 0 by decide), f2', cal_some, w16b, cal_some, if_neg (show ¬ (1 : Int32) = 0 by decide), s5]
      exact h70
    · have e15 : C.1 1 0 1 i = 2 ∧ C.1 1 0 2 i = nI 15 := ⟨k2, kv⟩
      have e16 : ¬ (C.1 1 0 1 i = 2 ∧ C.1 1 0 2 i = nI 16) := fun q => absurd (kv.symm.trans q.2) (by decide)
      have f2' : f_X11_joins N 12 X1 = some (0, X2) := f2
      rw [if_neg e16] at w16a w16b
      rw [if_pos e15] at w15a
      rw [if_neg e16, if_pos rfl, w15a, cal_some, if_neg (show ¬ (1 : Int32) = 0 by decide), w16a, cal_some, if_pos rfl, f2', cal_some, w16b, cal_some, if_pos rfl, s5]
      exact h70
  rw [hbe, cal_some, if_neg (show ¬ (1 : Int32) = 0 by decide)]
  have hS3 : SnI N r C (stX (stX (stX X2 15 h (nI c)) 0 47 (nI (h + 1))) 0 49 0) i o (KX + m) (KX + m) (h + 1) d 0 cd := by
    refine ⟨hp3, s2, ?_, ?_, ?_, ?_, stX_at, fun k hk => ?_, s9, s10⟩
    · rw [stX_ne (by omega), stX_ne (by omega), stX_row (by omega)]; exact s3
    · rw [stX_ne (by omega), stX_ne (by omega), stX_row (by omega)]; exact s4
    · rw [stX_ne (by omega), stX_at]
    · rw [stX_ne (by omega), stX_ne (by omega), stX_row (by omega)]; exact s6
    · rw [stX_row (by omega), stX_row (by omega), stX_row (by omega)]
      exact s8 k hk
  refine ⟨X5, rfl, sn_nx hS3 n3 n2 (by unfold nxC; exact stC_ob (by omega)), fun y hy => ?_, ?_, f6.trans ((gs_r (by omega)).trans ((gs_f (Or.inl rfl)).trans ((gs_f (Or.inl rfl)).trans (gs_nx n2))))⟩
  · rw [n2.1 15 (by omega), stX_row (by omega), stX_row (by omega), stX_ne (by omega), f5]
  · rw [n2.1 15 (by omega), stX_row (by omega), stX_row (by omega), stX_at]
end SENT4
