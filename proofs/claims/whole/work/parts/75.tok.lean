/-! Tokens: what the reference reads on demand. -/
theorem lN_j {a b : Nat} (ha : a < 2 ^ 63) (hb : b < 2 ^ 63) (h : lN a = lN b) : a = b := by
  have h1 : (BitVec.ofNat 64 a).toNat = (BitVec.ofNat 64 b).toNat := congrArg (fun x : Int64 => x.toBitVec.toNat) h
  rw [BitVec.toNat_ofNat, BitVec.toNat_ofNat, Nat.mod_eq_of_lt (by omega), Nat.mod_eq_of_lt (by omega)] at h1
  exact h1
theorem wd_step {x c : Nat} (hx : x < 2 ^ 40) (hc : c < 256) : ((lN x <<< (Int32.toInt64 8 &&& 63)) ||| Int32.toInt64 (nI c)) = lN (x * 256 + c) := by
  have e1 : Int32.toInt64 (nI c) = lN c := nI_l (by omega)
  have e2 : lN x <<< (Int32.toInt64 8 &&& 63) = lN (x * 256) := by
    apply Int64.toBitVec_inj.mp
    rw [Int64.toBitVec_shiftLeft, show ((Int32.toInt64 8 &&& 63).toBitVec.smod 64) = BitVec.ofNat 64 8 by decide]
    apply BitVec.eq_of_toNat_eq
    have hb : (lN x).toBitVec.toNat = x := Nat.mod_eq_of_lt (by omega)
    have h : ((lN x).toBitVec <<< BitVec.ofNat 64 8).toNat = (x * 256) % 2 ^ 64 := by
      rw [BitVec.shiftLeft_eq', BitVec.toNat_shiftLeft, hb, show (BitVec.ofNat 64 8).toNat = 8 from rfl, Nat.shiftLeft_eq]
    exact h
  rw [e1, e2]
  apply Int64.toBitVec_inj.mp
  show BitVec.ofNat 64 (x * 256) ||| BitVec.ofNat 64 c = BitVec.ofNat 64 (x * 256 + c)
  apply BitVec.eq_of_toNat_eq
  rw [BitVec.toNat_or, BitVec.toNat_ofNat, BitVec.toNat_ofNat, BitVec.toNat_ofNat, Nat.mod_eq_of_lt (by omega), Nat.mod_eq_of_lt (by omega), Nat.mod_eq_of_lt (by omega)]
  have := Nat.shiftLeft_add_eq_or_of_lt (show c < 2 ^ 8 by omega) x
  rw [Nat.shiftLeft_eq] at this
  exact this.symm
def smB (c : Nat) : Bool := decide (97 ≤ c ∧ c ≤ 122)
def dgB (c : Nat) : Bool := decide (48 ≤ c ∧ c ≤ 57)
theorem isSmall_eq {c : Nat} (hc : c < 256) (X : XM) : f_X11_isSmall (nI c) X = some (bI (smB c), X) := by
  unfold f_X11_isSmall smB
  simp (disch := omega) only [lt_nl, lt_ln]
  by_cases h1 : c < 97
  · rw [if_pos h1, decide_eq_false (by omega)]
    rfl
  · rw [if_neg h1]
    by_cases h2 : 122 < c
    · rw [if_pos h2, decide_eq_false (by omega)]
      rfl
    · rw [if_neg h2, decide_eq_true (by omega)]
      rfl
theorem isDigit_eq {c : Nat} (hc : c < 256) (X : XM) : f_X11_isDigit (nI c) X = some (bI (dgB c), X) := by
  unfold f_X11_isDigit dgB
  simp (disch := omega) only [lt_nl, lt_ln]
  by_cases h1 : c < 48
  · rw [if_pos h1, decide_eq_false (by omega)]
    rfl
  · rw [if_neg h1]
    by_cases h2 : 57 < c
    · rw [if_pos h2, decide_eq_false (by omega)]
      rfl
    · rw [if_neg h2, decide_eq_true (by omega)]
      rfl
theorem isLetterC {c : Nat} (hc : c < 256) (C : CM) : f_X7_isLetter (byV c) C = some (bI (smB c), C) := by
  unfold f_X7_isLetter smB
  by_cases h : c < 128
  · rw [byV_lo h]
    simp (disch := omega) only [lt_nl, lt_ln]
    by_cases h1 : c < 97
    · rw [if_pos h1, decide_eq_false (by omega)]
      rfl
    · rw [if_neg h1]
      by_cases h2 : 122 < c
      · rw [if_pos h2, decide_eq_false (by omega)]
        rfl
      · rw [if_neg h2, decide_eq_true (by omega)]
        rfl
  · rw [if_pos (Int32.lt_trans (byV_neg0 hc (by omega)) (by decide)), decide_eq_false (by omega)]
    rfl
theorem isDigitC {c : Nat} (hc : c < 256) (C : CM) : f_X7_isDigit (byV c) C = some (bI (dgB c), C) := by
  unfold f_X7_isDigit dgB
  by_cases h : c < 128
  · rw [byV_lo h]
    simp (disch := omega) only [lt_nl, lt_ln]
    by_cases h1 : c < 48
    · rw [if_pos h1, decide_eq_false (by omega)]
      rfl
    · rw [if_neg h1]
      by_cases h2 : 57 < c
      · rw [if_pos h2, decide_eq_false (by omega)]
        rfl
      · rw [if_neg h2, decide_eq_true (by omega)]
        rfl
  · rw [if_pos (Int32.lt_trans (byV_neg0 hc (by omega)) (by decide)), decide_eq_false (by omega)]
    rfl
/-- what is read: bytes, size, limit -/
def TpX (u : Nat → Nat) (L lm : Nat) (X : XM) : Prop := X.1 0 3 = nI L ∧ X.1 0 5 = nI lm ∧ ∀ x, x < 940 → u x < 256 ∧ X.1 1 x = byV (u x)
/-- next touches its own fields alone -/
def NxF (X X' : XM) : Prop := (∀ j, j ≠ 0 → X'.1 j = X.1 j) ∧ (∀ x, x ≠ 4 → x ≠ 11 → x ≠ 12 → x ≠ 13 → x ≠ 14 → X'.1 0 x = X.1 0 x) ∧ ∀ j x, ¬ (j = 0 ∧ x = 17) → X'.2 j x = X.2 j x
theorem NxF.rf (X : XM) : NxF X X := ⟨fun _ _ => rfl, fun _ _ _ _ _ _ => rfl, fun _ _ _ => rfl⟩
theorem NxF.trans {A B C : XM} (h1 : NxF A B) (h2 : NxF B C) : NxF A C := ⟨fun j hj => (h2.1 j hj).trans (h1.1 j hj), fun x a b c d e => (h2.2.1 x a b c d e).trans (h1.2.1 x a b c d e), fun j x h => (h2.2.2 j x h).trans (h1.2.2 j x h)⟩
theorem nxf_st {X Y : XM} {x : Nat} {v : Int32} (h : NxF X Y) (hx : x = 4 ∨ x = 11 ∨ x = 12 ∨ x = 13 ∨ x = 14) : NxF X (stX Y 0 x v) := by
  refine ⟨fun j hj => (stX_row hj).trans (h.1 j hj), fun y a b c d e => ?_, h.2.2⟩
  rw [stX_ne (by omega)]
  exact h.2.1 y a b c d e
theorem nxf_L {X Y : XM} {v : Int64} (h : NxF X Y) : NxF X (stL Y 0 17 v) := by
  refine ⟨h.1, h.2.1, fun j x hn => ?_⟩
  simp only [stL]
  rw [if_neg hn]
  exact h.2.2 j x hn
theorem tpx_nx {u : Nat → Nat} {L lm : Nat} {X Y : XM} (h : TpX u L lm X) (hn : NxF X Y) : TpX u L lm Y := by
  refine ⟨?_, ?_, fun x hx => ?_⟩
  · rw [hn.2.1 3 (by omega) (by omega) (by omega) (by omega) (by omega)]; exact h.1
  · rw [hn.2.1 5 (by omega) (by omega) (by omega) (by omega) (by omega)]; exact h.2.1
  · rw [hn.1 1 (by omega)]; exact h.2.2 x hx
theorem peek_eq {u : Nat → Nat} {L lm p : Nat} {X : XM} (h : TpX u L lm X) (hL : L ≤ 940) (hp : p ≤ 940) (h4 : X.1 0 4 = nI p) : f_X11_peek X = some (if p < L then nI (u p) else -1, X) := by
  unfold f_X11_peek
  rw [h.1, h4]
  simp (disch := omega) only [le_nn]
  by_cases hpL : L ≤ p
  · rw [if_pos hpL, if_neg (by omega)]
    rfl
  · obtain ⟨a1, a2⟩ := h.2.2 p (by omega)
    rw [if_neg hpL, if_pos (by omega), ldA_nI (by omega) (by omega), a2, by_and _ a1]
    rfl
def resV (w : Nat) : Int64 := resW.getD w 0
def isMk (c : Nat) : Prop := c = 59 ∨ c = 60 ∨ c = 61 ∨ c = 62 ∨ c = 40 ∨ c = 41
/-- the reference's token is this one -/
def MtR (k v pl : Int32) (X : XM) : Prop := X.1 0 12 = pl ∧ ((k = 0 ∧ v = 0 ∧ X.1 0 11 = 0) ∨ (k = 1 ∧ X.1 0 11 = 4) ∨ (∃ w, w < 24 ∧ k = 2 ∧ v = nI w ∧ X.1 0 11 = 1 ∧ X.2 0 17 = resV w) ∨ (k = 3 ∧ X.1 0 11 = 1 ∧ NmR v (X.2 0 17) ∧ ∀ w, w < 24 → X.2 0 17 ≠ resV w) ∨ (∃ z, z ≤ 999 ∧ k = 4 ∧ v = nI z ∧ X.1 0 11 = 2 ∧ X.1 0 14 = nI z) ∨ (∃ c, isMk c ∧ k = 5 ∧ v = nI c ∧ X.1 0 11 = 3 ∧ X.1 0 14 = nI c))
section TOK
variable {N : Nat} {u : Nat → Nat} {L lm : Nat}
def TokAt (N : Nat) (u : Nat → Nat) (L lm p p' : Nat) (k v pl : Int32) : Prop := ∀ (X : XM) (fu : Nat), TpX u L lm X → X.1 0 4 = nI p → 2000 ≤ fu + p → ∃ X', f_X11_next_0 N fu X = some (0, X') ∧ NxF X X' ∧ X'.1 0 4 = nI p' ∧ MtR k v pl X'
theorem tok_sp {p p' : Nat} {k v pl : Int32} (hL : L ≤ 940) (hp : p < L) (hs : u p = 32 ∨ u p = 10) (h : TokAt N u L lm (p + 1) p' k v pl) : TokAt N u L lm p p' k v pl := by
  intro X fu hT h4 hf
  obtain ⟨m, rfl⟩ : ∃ m, fu = m + 1 := ⟨fu - 1, by omega⟩
  have pk := peek_eq hT hL (by omega) h4
  rw [if_pos hp] at pk
  obtain ⟨X', a1, a2, a3, a4⟩ := h (stX X 0 4 (nI (p + 1))) m (tpx_nx hT (nxf_st (NxF.rf X) (by omega))) stX_at (by omega)
  refine ⟨X', ?_, (nxf_st (NxF.rf X) (by omega)).trans a2, a3, a4⟩
  rw [f_X11_next_0, pk, cal_some]
  unfold f_X11_next_18
  rcases hs with hs | hs
  · rw [hs, if_pos (show nI 32 = (32 : Int32) from rfl), bnd_v, h4, nI_al]
    exact a1
  · rw [hs, if_neg (show ¬ nI 10 = (32 : Int32) by decide), pk, cal_some, hs, if_pos (show nI 10 = (10 : Int32) from rfl), bnd_v, h4, nI_al]
    exact a1
/-- at the first sign behind the spaces -/
theorem tok_hd {p m : Nat} {X : XM} (hL : L ≤ 940) (hp : p ≤ L) (hs : p = L ∨ (u p ≠ 32 ∧ u p ≠ 10)) (hT : TpX u L lm X) (h4 : X.1 0 4 = nI p) : f_X11_next_0 N (m + 1) X = (if nI L ≤ nI lm then f_X11_next_80 N (stX (stX X 0 12 (nI p)) 0 13 0) else if nI p < nI lm then f_X11_next_80 N (stX (stX X 0 12 (nI p)) 0 13 0) else some (0, stX (stX (stX (stX X 0 12 (nI p)) 0 13 0) 0 12 (nI lm)) 0 11 4)) := by
  have pk := peek_eq hT hL (by omega) h4
  have hne : (if p < L then nI (u p) else (-1 : Int32)) ≠ 32 ∧ (if p < L then nI (u p) else (-1 : Int32)) ≠ 10 := by
    by_cases hpL : p < L
    · have := (hT.2.2 p (by omega)).1
      rw [if_pos hpL]
      have h2 : u p ≠ 32 ∧ u p ≠ 10 := by
        rcases hs with h | h
        · omega
        · exact h
      constructor
      · simp (disch := omega) only [ne_eq, eq_nl]; exact h2.1
      · simp (disch := omega) only [ne_eq, eq_nl]; exact h2.2
    · rw [if_neg hpL]
      exact ⟨by decide, by decide⟩
  rw [f_X11_next_0, pk, cal_some, if_neg hne.1, pk, cal_some, if_neg hne.2]
  have e3 : (stX (stX X 0 12 (nI p)) 0 13 0).1 0 3 = nI L := by rw [stX_ne (by omega), stX_ne (by omega)]; exact hT.1
  have e5 : (stX (stX X 0 12 (nI p)) 0 13 0).1 0 5 = nI lm := by rw [stX_ne (by omega), stX_ne (by omega)]; exact hT.2.1
  have e4 : (stX (stX X 0 12 (nI p)) 0 13 0).1 0 4 = nI p := by rw [stX_ne (by omega), stX_ne (by omega)]; exact h4
  simp only [bnd_v, h4, e3, e5, e4, rt]
theorem tok_end {p : Nat} (hL : L ≤ 940) (hlm : L ≤ lm) (hlm2 : lm ≤ 940) (hp : p = L) : TokAt N u L lm p p 0 0 (nI L) := by
  intro X fu hT h4 hf
  obtain ⟨m, rfl⟩ : ∃ m, fu = m + 1 := ⟨fu - 1, by omega⟩
  rw [tok_hd hL (by omega) (Or.inl hp) hT h4]
  have hn : NxF X (stX (stX X 0 12 (nI p)) 0 13 0) := nxf_st (nxf_st (NxF.rf X) (by omega)) (by omega)
  have pk := peek_eq (p := p) (tpx_nx hT hn) hL (by omega) (by rw [stX_ne (by omega), stX_ne (by omega)]; exact h4)
  rw [if_neg (by omega)] at pk
  refine ⟨stX (stX (stX X 0 12 (nI p)) 0 13 0) 0 11 0, ?_, nxf_st hn (by omega), ?_, ?_, Or.inl ⟨rfl, rfl, stX_at⟩⟩
  · rw [if_pos (by simp (disch := omega) only [le_nn]; omega)]
    unfold f_X11_next_80
    rw [pk, cal_some, if_neg (by decide)]
    rfl
  · rw [stX_ne (by omega), stX_ne (by omega), stX_ne (by omega)]
    exact h4
  · rw [stX_ne (by omega), stX_ne (by omega), stX_at, hp]
theorem tok_ex (hL : L ≤ 940) (hlm : lm < L) : ∀ d p, p + d = L → lm ≤ p → ∃ p', TokAt N u L lm p p' 1 0 (nI lm) := by
  intro d
  induction d with
  | zero =>
    intro p hp hpl
    refine ⟨p, fun X fu hT h4 hf => ?_⟩
    obtain ⟨m, rfl⟩ : ∃ m, fu = m + 1 := ⟨fu - 1, by omega⟩
    rw [tok_hd hL (by omega) (Or.inl (by omega)) hT h4, if_neg (by simp (disch := omega) only [le_nn]; omega), if_neg (by simp (disch := omega) only [lt_nn]; omega)]
    refine ⟨_, rfl, nxf_st (nxf_st (nxf_st (nxf_st (NxF.rf X) (by omega)) (by omega)) (by omega)) (by omega), ?_, ?_, Or.inr (Or.inl ⟨rfl, stX_at⟩)⟩
    · rw [stX_ne (by omega), stX_ne (by omega), stX_ne (by omega), stX_ne (by omega)]
      exact h4
    · rw [stX_ne (by omega), stX_at]
  | succ d ih =>
    intro p hp hpl
    by_cases hs : u p = 32 ∨ u p = 10
    · obtain ⟨p', h⟩ := ih (p + 1) (by omega) (by omega)
      exact ⟨p', tok_sp hL (by omega) hs h⟩
    · refine ⟨p, fun X fu hT h4 hf => ?_⟩
      obtain ⟨m, rfl⟩ : ∃ m, fu = m + 1 := ⟨fu - 1, by omega⟩
      rw [tok_hd hL (by omega) (Or.inr ⟨fun e => hs (Or.inl e), fun e => hs (Or.inr e)⟩) hT h4, if_neg (by simp (disch := omega) only [le_nn]; omega), if_neg (by simp (disch := omega) only [lt_nn]; omega)]
      refine ⟨_, rfl, nxf_st (nxf_st (nxf_st (nxf_st (NxF.rf X) (by omega)) (by omega)) (by omega)) (by omega), ?_, ?_, Or.inr (Or.inl ⟨rfl, stX_at⟩)⟩
      · rw [stX_ne (by omega), stX_ne (by omega), stX_ne (by omega), stX_ne (by omega)]
        exact h4
      · rw [stX_ne (by omega), stX_at]
theorem tok_mk {p : Nat} (hL : L ≤ 940) (hlm : lm ≤ 940) (hp : p < L) (hpl : L ≤ lm ∨ p < lm) (hs : u p ≠ 32 ∧ u p ≠ 10) (h1 : smB (u p) = false) (h2 : dgB (u p) = false) (v : Int32) : (isMk (u p) → TokAt N u L lm p (p + 1) 5 (nI (u p)) (nI p)) ∧ (¬ isMk (u p) → TokAt N u L lm p (p + 1) 1 v (nI p)) := by
  have core : ∀ (X : XM) (fu : Nat), TpX u L lm X → X.1 0 4 = nI p → 2000 ≤ fu + p → ∃ t : Int32, ((isMk (u p) → t = 3) ∧ (¬ isMk (u p) → t = 4)) ∧ f_X11_next_0 N fu X = some (0, stX (stX (stX (stX (stX X 0 12 (nI p)) 0 13 0) 0 11 t) 0 14 (nI (u p))) 0 4 (nI (p + 1))) := by
    intro X fu hT h4 hf
    obtain ⟨m, rfl⟩ : ∃ m, fu = m + 1 := ⟨fu - 1, by omega⟩
    have hu := (hT.2.2 p (by omega)).1
    have hn : NxF X (stX (stX X 0 12 (nI p)) 0 13 0) := nxf_st (nxf_st (NxF.rf X) (by omega)) (by omega)
    have e4 : (stX (stX X 0 12 (nI p)) 0 13 0).1 0 4 = nI p := by rw [stX_ne (by omega), stX_ne (by omega)]; exact h4
    have pk := peek_eq (p := p) (tpx_nx hT hn) hL (by omega) e4
    rw [if_pos hp] at pk
    have h80 : f_X11_next_0 N (m + 1) X = f_X11_next_80 N (stX (stX X 0 12 (nI p)) 0 13 0) := by
      rw [tok_hd hL (by omega) (Or.inr hs) hT h4]
      simp (disch := omega) only [le_nn, lt_nn]
      by_cases h : L ≤ lm
      · rw [if_pos h]
      · rw [if_neg h, if_pos (by omega)]
    rw [h80]
    unfold f_X11_next_80 f_X11_next_140 f_X11_next_144 f_X11_next_145
    rw [pk, cal_some, if_pos (nI_pos' (by omega)), isSmall_eq hu, h1, cal_some, if_pos (show bI false = (0 : Int32) from rfl), isDigit_eq hu, h2, cal_some, if_pos (show bI false = (0 : Int32) from rfl)]
    have e4' : ∀ t, (stX (stX (stX (stX X 0 12 (nI p)) 0 13 0) 0 11 t) 0 14 (nI (u p))).1 0 4 = nI p := fun t => by rw [stX_ne (by omega), stX_ne (by omega)]; exact e4
    simp (disch := omega) only [bnd_v, e4', nI_al, rt, eq_nl, lt_nl, lt_ln]
    unfold isMk
    by_cases c1 : u p = 59
    · rw [if_pos c1]
      exact ⟨3, ⟨fun _ => rfl, fun h => absurd (Or.inl c1) h⟩, rfl⟩
    rw [if_neg c1]
    by_cases c2 : u p = 40
    · rw [if_pos c2]
      exact ⟨3, ⟨fun _ => rfl, fun h => absurd (by omega) h⟩, rfl⟩
    rw [if_neg c2]
    by_cases c3 : u p = 41
    · rw [if_pos c3]
      exact ⟨3, ⟨fun _ => rfl, fun h => absurd (by omega) h⟩, rfl⟩
    rw [if_neg c3]
    by_cases c4 : u p < 60
    · rw [if_pos c4]
      exact ⟨4, ⟨fun h => by omega, fun _ => rfl⟩, rfl⟩
    rw [if_neg c4]
    by_cases c5 : 62 < u p
    · rw [if_pos c5]
      exact ⟨4, ⟨fun h => by omega, fun _ => rfl⟩, rfl⟩
    rw [if_neg c5]
    exact ⟨3, ⟨fun _ => rfl, fun h => absurd (by omega) h⟩, rfl⟩
  have fr : ∀ (X : XM) (t : Int32), NxF X (stX (stX (stX (stX (stX X 0 12 (nI p)) 0 13 0) 0 11 t) 0 14 (nI (u p))) 0 4 (nI (p + 1))) := fun X t => nxf_st (nxf_st (nxf_st (nxf_st (nxf_st (NxF.rf X) (by omega)) (by omega)) (by omega)) (by omega)) (by omega)
  constructor
  · intro hm X fu hT h4 hf
    obtain ⟨t, ⟨ht, -⟩, e⟩ := core X fu hT h4 hf
    refine ⟨_, e, fr X t, stX_at, ?_, Or.inr (Or.inr (Or.inr (Or.inr (Or.inr ⟨u p, hm, rfl, rfl, ?_, ?_⟩))))⟩
    · rw [stX_ne (by omega), stX_ne (by omega), stX_ne (by omega), stX_ne (by omega), stX_at]
    · rw [stX_ne (by omega), stX_ne (by omega), stX_at]
      exact ht hm
    · rw [stX_ne (by omega), stX_at]
  · intro hm X fu hT h4 hf
    obtain ⟨t, ⟨-, ht⟩, e⟩ := core X fu hT h4 hf
    refine ⟨_, e, fr X t, stX_at, ?_, Or.inr (Or.inl ⟨rfl, ?_⟩)⟩
    · rw [stX_ne (by omega), stX_ne (by omega), stX_ne (by omega), stX_ne (by omega), stX_at]
    · rw [stX_ne (by omega), stX_ne (by omega), stX_at]
      exact ht hm
end TOK
