/-! Reading tokens side by side. -/
/-- sound, and at token i -/
def PsR (N : Nat) (C : CM) (X : XM) (i : Nat) : Prop := ∃ (u : Nat → Nat) (L lm t : Nat) (P : Nat → Nat), t ≤ 940 ∧ i ≤ t ∧ C.1 1 0 0 3 = nI (t + 1) ∧ C.1 1 0 0 4 = nI i ∧ C.1 1 0 0 5 = 0 ∧ (∀ j, j ≤ t → TokAt N u L lm (P j) (P (j + 1)) (C.1 1 0 1 j) (C.1 1 0 2 j) (C.1 1 0 3 j)) ∧ (C.1 1 0 1 t = 0 ∨ C.1 1 0 1 t = 1) ∧ TpX u L lm X ∧ X.1 0 4 = nI (P (i + 1)) ∧ X.1 0 15 = 0 ∧ MtR (C.1 1 0 1 i) (C.1 1 0 2 i) (C.1 1 0 3 i) X
/-- faulted: the class reads on, and nothing comes of it -/
def FaC (C : CM) : Prop := C.1 1 0 0 5 ≠ 0 ∧ ∃ i t, i ≤ t + 1 ∧ t ≤ 940 ∧ C.1 1 0 0 3 = nI (t + 1) ∧ C.1 1 0 0 4 = nI i
def FaK (C C' : CM) : Prop := FaC C' ∧ C'.1 1 0 0 5 = C.1 1 0 0 5 ∧ C'.1 1 0 0 6 = C.1 1 0 0 6 ∧ F1 C C'
def FaR (C : CM) (X : XM) : Prop := FaC C ∧ X.1 0 15 = C.1 1 0 0 5 ∧ X.1 0 16 = C.1 1 0 0 6
theorem FaK.rf {C : CM} (h : FaC C) : FaK C C := ⟨h, rfl, rfl, F1.rf C⟩
theorem FaK.trans {A B C : CM} (h1 : FaK A B) (h2 : FaK B C) : FaK A C := ⟨h2.1, h2.2.1.trans h1.2.1, h2.2.2.1.trans h1.2.2.1, h1.2.2.2.trans h2.2.2.2⟩
theorem faR_k {C C' : CM} {X : XM} (h : FaR C X) (hk : FaK C C') : FaR C' X := ⟨hk.1, by rw [hk.2.1]; exact h.2.1, by rw [hk.2.2.1]; exact h.2.2⟩
/-- the fields of the token that is read -/
def XP (X X' : XM) : Prop := X'.1 1 = X.1 1 ∧ X'.2 0 17 = X.2 0 17 ∧ ∀ x, x = 3 ∨ x = 4 ∨ x = 5 ∨ x = 11 ∨ x = 12 ∨ x = 14 ∨ x = 15 → X'.1 0 x = X.1 0 x
theorem XP.rf (X : XM) : XP X X := ⟨rfl, rfl, fun _ _ => rfl⟩
theorem XP.trans {A B C : XM} (h1 : XP A B) (h2 : XP B C) : XP A C := ⟨h2.1.trans h1.1, h2.2.1.trans h1.2.1, fun x h => (h2.2.2 x h).trans (h1.2.2 x h)⟩
theorem xp_row {X : XM} {j x : Nat} {v : Int32} (h0 : j ≠ 0) (h1 : j ≠ 1) : XP X (stX X j x v) := ⟨stX_row (by omega), rfl, fun y _ => by rw [stX_row (by omega)]⟩
theorem xp_f {X : XM} {x : Nat} {v : Int32} (h : x ≠ 3 ∧ x ≠ 4 ∧ x ≠ 5 ∧ x ≠ 11 ∧ x ≠ 12 ∧ x ≠ 14 ∧ x ≠ 15) : XP X (stX X 0 x v) := ⟨stX_row (by omega), rfl, fun y hy => stX_ne (by omega)⟩
theorem tpx_p {u : Nat → Nat} {L lm : Nat} {X X' : XM} (h : TpX u L lm X) (hx : XP X X') : TpX u L lm X' := by
  refine ⟨?_, ?_, ?_⟩
  · rw [hx.2.2 3 (by omega)]; exact h.1
  · rw [hx.2.2 5 (by omega)]; exact h.2.1
  · rw [hx.1]; exact h.2.2
theorem mt_p {k v pl : Int32} {X X' : XM} (h : MtR k v pl X) (hx : XP X X') : MtR k v pl X' := by
  unfold MtR at h ⊢
  rw [hx.2.2 12 (by omega), hx.2.2 11 (by omega), hx.2.2 14 (by omega), hx.2.1]
  exact h
theorem psR_c {N : Nat} {C C' : CM} {X X' : XM} {i : Nat} (h : PsR N C X i) (hc : C'.1 1 0 = C.1 1 0) (hx : XP X X') : PsR N C' X' i := by
  obtain ⟨u, L, lm, t, P, h1, h2, h3, h4, h5, h6, h7, h8, h9, h10⟩ := h
  refine ⟨u, L, lm, t, P, h1, h2, ?_, ?_, ?_, ?_, ?_, tpx_p h8 hx, ?_, ?_⟩
  · rw [hc]; exact h3
  · rw [hc]; exact h4
  · rw [hc]; exact h5
  · rw [hc]; exact h6
  · rw [hc]; exact h7
  · rw [hx.2.2 4 (by omega)]; exact h9
  · rw [hc, hx.2.2 15 (by omega)]; exact ⟨h10.1, mt_p h10.2 hx⟩
theorem faC_c {C C' : CM} (h : FaC C) (hc : C'.1 1 0 = C.1 1 0) : FaC C' := by
  unfold FaC
  rw [hc]
  exact h
section PARSE
variable {N : Nat} {C : CM} {X : XM} {i : Nat}
def nxC (C : CM) (i : Nat) : CM := stC C 1 0 0 4 (nI (i + 1))
def blC (C : CM) (e pl : Int32) : CM := stC (stC C 1 0 0 5 e) 1 0 0 6 pl
def bdX (X : XM) (e : Int32) : XM := stX (stX X 0 15 e) 0 16 (X.1 0 12)
theorem bad_eq (e : Int32) (X : XM) : f_X11_bad e X = some (0, bdX X e) := by
  unfold f_X11_bad bdX
  rw [bnd_v, stX_ne (by omega)]
  rfl
theorem nx_f1 : F1 C (nxC C i) := f1_st (F1.rf C)
theorem bl_f1 {e pl : Int32} : F1 C (blC C e pl) := f1_st (f1_st (F1.rf C))
/-- one token on, on both sides -/
theorem next_rel (hN : 2000 ≤ N) (h : PsR N C X i) (h0 : C.1 1 0 1 i ≠ 0) (h1 : C.1 1 0 1 i ≠ 1) : ∃ X', f_X11_next N X = some (0, X') ∧ NxF X X' ∧ PsR N (nxC C i) X' (i + 1) := by
  obtain ⟨u, L, lm, t, P, t1, t2, h3, h4, h5, h6, h7, h8, h9, h10⟩ := h
  have hit : i ≠ t := fun e => by
    subst e
    rcases h7 with h | h
    · exact h0 h
    · exact h1 h
  obtain ⟨X', a1, a2, a3, a4⟩ := h6 (i + 1) (by omega) X N h8 h9 (by omega)
  refine ⟨X', a1, a2, u, L, lm, t, P, t1, by omega, ?_, stC_at, ?_, ?_, ?_, tpx_nx h8 a2, a3, ?_⟩
  · unfold nxC; rw [stC_ne (by omega)]; exact h3
  · unfold nxC; rw [stC_ne (by omega)]; exact h5
  · unfold nxC
    rw [stC_row (by omega), stC_row (by omega), stC_row (by omega)]
    exact h6
  · unfold nxC
    rw [stC_row (by omega)]
    exact h7
  · unfold nxC
    rw [stC_row (by omega), stC_row (by omega), stC_row (by omega), a2.2.1 15 (by omega) (by omega) (by omega) (by omega) (by omega)]
    exact ⟨h10.1, a4⟩
/-- a fault at this token -/
theorem bl_fa (h : PsR N C X i) {e : Int32} (he : e ≠ 0) : FaR (blC C e (C.1 1 0 3 i)) (bdX X e) ∧ FaR (blC (nxC C i) e (C.1 1 0 3 i)) (bdX X e) := by
  obtain ⟨u, L, lm, t, P, t1, t2, h3, h4, h5, h6, h7, h8, h9, h10⟩ := h
  have r1 : (bdX X e).1 0 15 = e := by unfold bdX; rw [stX_ne (by omega), stX_at]
  have r2 : (bdX X e).1 0 16 = X.1 0 12 := stX_at
  have f : ∀ D : CM, ∀ pl, (blC D e pl).1 1 0 0 5 = e ∧ (blC D e pl).1 1 0 0 6 = pl := fun D pl => by
    unfold blC
    exact ⟨by rw [stC_ne (by omega), stC_at], stC_at⟩
  refine ⟨⟨⟨?_, i, t, by omega, t1, ?_, ?_⟩, ?_, ?_⟩, ⟨⟨?_, i + 1, t, by omega, t1, ?_, ?_⟩, ?_, ?_⟩⟩
  · rw [(f _ _).1]; exact he
  · unfold blC; rw [stC_ne (by omega), stC_ne (by omega)]; exact h3
  · unfold blC; rw [stC_ne (by omega), stC_ne (by omega)]; exact h4
  · rw [(f _ _).1, r1]
  · rw [(f _ _).2, r2]; exact h10.2.1
  · rw [(f _ _).1]; exact he
  · unfold blC nxC; rw [stC_ne (by omega), stC_ne (by omega), stC_ne (by omega)]; exact h3
  · unfold blC nxC; rw [stC_ne (by omega), stC_ne (by omega), stC_at]
  · rw [(f _ _).1, r1]
  · rw [(f _ _).2, r2]; exact h10.2.1
theorem ps_take (h : PsR N C X i) : f_X7_take C = some (0, nxC C i) := by
  obtain ⟨u, L, lm, t, P, t1, t2, h3, h4, h5, h6, h7, h8, h9, h10⟩ := h
  unfold f_X7_take
  rw [h3, h4, if_neg (by simp (disch := omega) only [le_nn]; omega), nI_al]
  rfl
theorem ps_sees (h : PsR N C X i) (k v : Int32) : f_X7_sees k v C = some (if C.1 1 0 1 i = k ∧ C.1 1 0 2 i = v then 1 else 0, C) := by
  obtain ⟨u, L, lm, t, P, t1, t2, h3, h4, h5, h6, h7, h8, h9, h10⟩ := h
  unfold f_X7_sees
  rw [h3, h4, if_neg (by simp (disch := omega) only [le_nn]; omega), ldA_nI (by omega) (by omega), ldA_nI (by omega) (by omega)]
  by_cases a : C.1 1 0 1 i = k
  · rw [if_pos a]
    by_cases b : C.1 1 0 2 i = v
    · rw [if_pos b, if_pos ⟨a, b⟩]; rfl
    · rw [if_neg b, if_neg (fun q => b q.2)]; rfl
  · rw [if_neg a, if_neg (fun q => a q.1)]; rfl
theorem ps_word (h : PsR N C X i) : f_X7_nextWord C = some (if C.1 1 0 1 i = 2 then C.1 1 0 2 i else -1, C) := by
  obtain ⟨u, L, lm, t, P, t1, t2, h3, h4, h5, h6, h7, h8, h9, h10⟩ := h
  unfold f_X7_nextWord
  rw [h3, h4, if_neg (by simp (disch := omega) only [le_nn]; omega), ldA_nI (by omega) (by omega), ldA_nI (by omega) (by omega)]
  by_cases a : C.1 1 0 1 i = 2
  · rw [if_pos a, if_pos a]; rfl
  · rw [if_neg a, if_neg a]; rfl
theorem ps_sound (h : PsR N C X i) : f_X7_isSound C = some (1, C) := by
  obtain ⟨u, L, lm, t, P, t1, t2, h3, h4, h5, -⟩ := h
  unfold f_X7_isSound
  rw [if_pos h5]
  rfl
theorem ps_blame (h : PsR N C X i) (e : Int32) : f_X7_blameNext e C = some (0, blC C e (C.1 1 0 3 i)) := by
  obtain ⟨u, L, lm, t, P, t1, t2, h3, h4, h5, h6, h7, h8, h9, h10⟩ := h
  unfold f_X7_blameNext
  have e4 : (stC C 1 0 0 5 e).1 1 0 0 4 = nI i := by rw [stC_ne (by omega)]; exact h4
  rw [if_pos h5, h3, h4, if_neg (by simp (disch := omega) only [le_nn]; omega), bnd_v, e4, ldA_nI (by omega) (by omega), stC_row (by omega)]
  rfl
theorem ps_taken (h : PsR N C X i) (e : Int32) : f_X7_blameTaken e (nxC C i) = some (0, blC (nxC C i) e (C.1 1 0 3 i)) := by
  obtain ⟨u, L, lm, t, P, t1, t2, h3, h4, h5, h6, h7, h8, h9, h10⟩ := h
  unfold f_X7_blameTaken
  have e5 : (nxC C i).1 1 0 0 5 = 0 := by unfold nxC; rw [stC_ne (by omega)]; exact h5
  have e3 : (nxC C i).1 1 0 0 3 = nI (t + 1) := by unfold nxC; rw [stC_ne (by omega)]; exact h3
  have e4 : (nxC C i).1 1 0 0 4 = nI (i + 1) := stC_at
  have e4' : (stC (nxC C i) 1 0 0 5 e).1 1 0 0 4 = nI (i + 1) := by rw [stC_ne (by omega)]; exact e4
  rw [if_pos e5, e4, e3, if_neg (by simp (disch := omega) only [le_nl]; omega), if_neg (by simp (disch := omega) only [lt_nn]; omega), bnd_v, e4', nI_sl (by show 1 ≤ i + 1; omega)]
  rw [show i + 1 - (OfNat.ofNat 1 : Nat) = i from rfl, ldA_nI (by omega) (by omega), stC_row (by omega)]
  unfold nxC
  rw [stC_row (by omega)]
  rfl
theorem ps_kind (h : PsR N C X i) (k : Int32) : f_X7_takeKind k C = if C.1 1 0 1 i = k then some (C.1 1 0 2 i, nxC C i) else some (-1, blC C 1 (C.1 1 0 3 i)) := by
  obtain ⟨u, L, lm, t, P, t1, t2, h3, h4, h5, h6, h7, h8, h9, h10⟩ := h
  unfold f_X7_takeKind
  have e4 : (stC C 1 0 0 5 1).1 1 0 0 4 = nI i := by rw [stC_ne (by omega)]; exact h4
  rw [if_pos h5, h3, h4, if_pos (by simp (disch := omega) only [lt_nn]; omega), ldA_nI (by omega) (by omega), ldA_nI (by omega) (by omega), bnd_v, bnd_v, e4, ldA_nI (by omega) (by omega), stC_row (by omega), nI_al]
  rfl
theorem fa_kind (h : FaC C) (k : Int32) : f_X7_takeKind k C = some (-1, C) := by
  unfold f_X7_takeKind
  rw [if_neg h.1]
  rfl
theorem fa_number (h : FaC C) (a b : Int32) : f_X7_takeNumber a b C = some (-1, C) := by
  unfold f_X7_takeNumber f_X7_takeNumber_28
  rw [fa_kind h, cal_some, if_neg h.1, if_neg h.1]
  rfl
theorem fa_blame (h : FaC C) (e : Int32) : f_X7_blameNext e C = some (0, C) ∧ f_X7_blameTaken e C = some (0, C) := by
  unfold f_X7_blameNext f_X7_blameTaken
  rw [if_neg h.1, if_neg h.1]
  exact ⟨rfl, rfl⟩
theorem fa_sound (h : FaC C) : f_X7_isSound C = some (0, C) := by
  unfold f_X7_isSound
  rw [if_neg h.1]
  rfl
theorem fa_goes (h : FaC C) : f_X7_goesOn C = some (0, C) := by
  unfold f_X7_goesOn
  rw [if_neg h.1]
  rfl
theorem fa_sees (h : FaC C) (k v : Int32) : ∃ w, f_X7_sees k v C = some (w, C) := by
  obtain ⟨-, i, t, h1, h2, h3, h4⟩ := h
  unfold f_X7_sees
  rw [h3, h4]
  simp (disch := omega) only [le_nn]
  by_cases c : t + 1 ≤ i
  · rw [if_pos c]; exact ⟨0, rfl⟩
  · rw [if_neg c, ldA_nI (by omega) (by omega), ldA_nI (by omega) (by omega)]
    by_cases a : C.1 1 0 1 i = k
    · rw [if_pos a]
      by_cases b : C.1 1 0 2 i = v
      · rw [if_pos b]; exact ⟨1, rfl⟩
      · rw [if_neg b]; exact ⟨0, rfl⟩
    · rw [if_neg a]; exact ⟨0, rfl⟩
theorem fa_word (h : FaC C) : ∃ w, f_X7_nextWord C = some (w, C) := by
  obtain ⟨-, i, t, h1, h2, h3, h4⟩ := h
  unfold f_X7_nextWord
  rw [h3, h4]
  simp (disch := omega) only [le_nn]
  by_cases c : t + 1 ≤ i
  · rw [if_pos c]; exact ⟨-1, rfl⟩
  · rw [if_neg c, ldA_nI (by omega) (by omega), ldA_nI (by omega) (by omega)]
    by_cases a : C.1 1 0 1 i = 2
    · rw [if_pos a]; exact ⟨_, rfl⟩
    · rw [if_neg a]; exact ⟨-1, rfl⟩
theorem fa_take (h : FaC C) : ∃ C', f_X7_take C = some (0, C') ∧ FaK C C' := by
  obtain ⟨h0, i, t, h1, h2, h3, h4⟩ := id h
  unfold f_X7_take
  rw [h3, h4]
  simp (disch := omega) only [le_nn]
  by_cases c : t + 1 ≤ i
  · rw [if_pos c]; exact ⟨C, rfl, FaK.rf h⟩
  · rw [if_neg c, nI_al, bnd_v]
    refine ⟨_, rfl, ⟨?_, i + 1, t, by omega, h2, ?_, stC_at⟩, stC_ne (by omega), stC_ne (by omega), f1_st (F1.rf C)⟩
    · rw [stC_ne (by omega)]; exact h0
    · rw [stC_ne (by omega)]; exact h3
theorem fa_mark (h : FaC C) (m : Int32) : ∃ C', f_X7_takeMark m C = some (0, C') ∧ FaK C C' := by
  unfold f_X7_takeMark
  obtain ⟨w, hw⟩ := fa_sees h 5 m
  rw [hw, cal_some]
  by_cases c : w = 0
  · rw [if_pos c, (fa_blame h 1).1, cal_some]
    exact ⟨C, rfl, FaK.rf h⟩
  · rw [if_neg c]
    obtain ⟨C', h1, h2⟩ := fa_take h
    rw [h1, cal_some]
    exact ⟨C', rfl, h2⟩
theorem fa_takeWord (h : FaC C) (a b : Int32) : ∃ w, f_X7_takeWord a b C = some (w, C) := by
  unfold f_X7_takeWord f_X7_takeWord_15
  obtain ⟨w, hw⟩ := fa_word h
  rw [hw, cal_some, (fa_blame h 1).1, cal_some, fa_kind h, cal_some]
  by_cases c : w < a
  · rw [if_pos c]; exact ⟨_, rfl⟩
  · rw [if_neg c]
    by_cases d : w ≤ b
    · rw [if_pos d]; exact ⟨_, rfl⟩
    · rw [if_neg d]; exact ⟨_, rfl⟩
theorem fa_name (h : FaC C) : f_X7_takeName C = some (-1, C) := by
  unfold f_X7_takeName
  rw [fa_kind h, cal_some]
  rfl
end PARSE
