/-! rests: all sets of plots. -/
noncomputable def tB (P : Prop) : Bool := @decide P (Classical.propDecidable P)
theorem tB_t {P : Prop} (h : P) : tB P = true := by
  unfold tB
  exact @decide_eq_true P (Classical.propDecidable P) h
theorem tB_f {P : Prop} (h : ¬ P) : tB P = false := by
  unfold tB
  exact @decide_eq_false P (Classical.propDecidable P) h
theorem tB_p {P : Prop} (h : tB P = true) : P := by
  unfold tB at h
  exact @of_decide_eq_true P (Classical.propDecidable P) h
def okS (m s : Nat) : Prop := nI s &&& (nI m ^^^ (-1)) = 0
theorem xor_t : ∀ s, s < 256 → ∀ o, o < 8 → (nI s ^^^ ((1 : Int32) <<< (nI o &&& 31))) = nI (s ^^^ 2 ^ o) ∧ s ^^^ 2 ^ o < 256 := by decide +kernel
theorem one_bb : ∀ o, o < 8 → ∀ k, k < 32 → ((1 : Int32) <<< (nI o &&& 31)).toBitVec.getLsbD k = decide (k = o) := by decide +kernel
theorem ok_xor {m s o : Nat} (hs : s < 256) (ho : o < 8) (h : okS m s) (hb : bt (nI m) o = 1) : okS m (s ^^^ 2 ^ o) := by
  unfold okS
  rw [← (xor_t s hs o ho).1]
  have hmo : (nI m).toBitVec.getLsbD o = true := by
    rw [bt_lsb _ o ho] at hb
    by_cases h1 : (nI m).toBitVec.getLsbD o = true
    · exact h1
    · rw [if_neg h1] at hb
      exact absurd hb (by decide)
  apply Int32.toBitVec_inj.1
  refine BitVec.eq_of_getLsbD_eq (fun k hk => ?_)
  have e1 : ((nI s ^^^ ((1 : Int32) <<< (nI o &&& 31))) &&& (nI m ^^^ (-1))).toBitVec = ((nI s).toBitVec ^^^ ((1 : Int32) <<< (nI o &&& 31)).toBitVec) &&& ((nI m).toBitVec ^^^ BitVec.allOnes 32) := rfl
  have e0 : (0 : Int32).toBitVec.getLsbD k = false := by
    show (0#32).getLsbD k = false
    simp
  rw [e1, e0, BitVec.getLsbD_and, BitVec.getLsbD_xor, BitVec.getLsbD_xor, BitVec.getLsbD_allOnes, one_bb o ho k hk]
  by_cases hko : k = o
  · subst hko
    rw [hmo]
    simp [hk]
  · cases hsk : (nI s).toBitVec.getLsbD k
    · simp [hko]
    · have := sub_lsb h hk hsk
      rw [this]
      simp [hko, hk]
theorem ok_le {m s : Nat} (hm : m < 256) (hs : s < 256) (h : okS m s) : s ≤ m := by
  have e : s &&& m = s := by
    apply Nat.eq_of_testBit_eq
    intro k
    rw [Nat.testBit_and]
    by_cases hk : k < 8
    · rw [← bb_tb hs hk, ← bb_tb hm hk]
      cases hb : bb (nI s) k
      · rfl
      · have : bb (nI m) k = true := sub_lsb h (by omega) hb
        rw [this]
        rfl
    · have : s.testBit k = false := Nat.testBit_lt_two_pow (Nat.lt_of_lt_of_le hs (by
        have := Nat.pow_le_pow_right (show 0 < 2 by omega) (show 8 ≤ k by omega)
        exact this))
      rw [this]
      rfl
  rw [← e]
  exact Nat.and_le_right
section RST
variable {N : Nat}
def FG (C D : CM) : Prop := D.2 = C.2 ∧ ∀ k i j x, k ≠ 8 → ¬ (k = 4 ∧ i = 3) → k ≠ 9 → D.1 k i j x = C.1 k i j x
theorem fg_ft {C D E : CM} (h : FG C D) (hf : FT 3 D E) : FG C E := ⟨hf.1.trans h.1, fun k i j x a1 a2 a3 => (hf.2 k i j x a1 a2).trans (h.2 k i j x a1 a2 a3)⟩
theorem fg_9 {C D : CM} {j x : Nat} {v : Int32} (h : FG C D) : FG C (stC D 9 0 j x v) := ⟨h.1, fun k i j' x' a1 a2 a3 => by
  simp only [stC]
  rw [if_neg (by omega)]
  exact h.2 k i j' x' a1 a2 a3⟩
theorem here_fg {n : BN} {C D : CM} {X : XM} (hH : HereR C X n) (h : FG C D) : HereR D X n := by
  have e3 : ∀ i, D.1 3 i = C.1 3 i := fun i => funext fun j => funext fun x => h.2 3 i j x (by omega) (by omega) (by omega)
  have e5 : ∀ i, D.1 5 i = C.1 5 i := fun i => funext fun j => funext fun x => h.2 5 i j x (by omega) (by omega) (by omega)
  have e6 : ∀ i, D.1 6 i = C.1 6 i := fun i => funext fun j => funext fun x => h.2 6 i j x (by omega) (by omega) (by omega)
  have e4 : D.1 4 0 = C.1 4 0 := funext fun j => funext fun x => h.2 4 0 j x (by omega) (by omega) (by omega)
  unfold HereR
  rw [h.1, e3, e4, e5, e6]
  exact hH
theorem here_fgB {n : BN} {C D : CM} {X : XM} (hH : HereB C X n) (h : FG C D) : HereB D X n := by
  have e3 : ∀ i, D.1 3 i = C.1 3 i := fun i => funext fun j => funext fun x => h.2 3 i j x (by omega) (by omega) (by omega)
  have e4 : D.1 4 0 = C.1 4 0 := funext fun j => funext fun x => h.2 4 0 j x (by omega) (by omega) (by omega)
  unfold HereB
  rw [h.1, e3, e4]
  exact hH
def PlR (n : BN) (C : CM) (X : XM) (m : Nat) : Prop := ∀ o, o < 8 → bt (nI m) o = 1 → o < n.2.2.1 ∧ ∃ c, c < 100 ∧ C.1 3 (C.2 2 0 1) 14 o = nI c ∧ X.1 2 (55 + o) = nI (c + 1) ∧ C.1 4 0 8 c = 0
theorem pl_fg {n : BN} {C D : CM} {X : XM} {m : Nat} (hP : PlR n C X m) (h : FG C D) : PlR n D X m := by
  intro o ho hb
  obtain ⟨a1, c, a2, a3, a4, a5⟩ := hP o ho hb
  refine ⟨a1, c, a2, ?_, a4, ?_⟩
  · rw [h.1, h.2 3 _ 14 o (by omega) (by omega) (by omega)]
    exact a3
  · rw [h.2 4 0 8 c (by omega) (by omega) (by omega)]
    exact a5
/-- what each set would bring, whoever asks -/
def wvC (N : Nat) (C : CM) (s o : Nat) : Int32 := match f_X10_tryPlots N (nI s) C with
  | some (_, D) => D.1 4 3 1 o + D.1 4 3 2 o
  | none => 0
def SvR (N : Nat) (n : BN) (C : CM) (X : XM) (m : Nat) : Prop := ∀ s, okS m s → ∀ D Y, FG C D → Y.1 2 = X.1 2 → XB X Y → ∃ D' Y1 j Y', f_X10_tryPlots N (nI s) D = some (0, D') ∧ f_X11_fenced N (nI s) Y = some (0, Y1) ∧ f_X11_goes N 48 Y1 = some (j, Y') ∧ (∀ o, o < 8 → f_X6_wealth 3 (nI o) D' = some (wvC N C s o, D')) ∧ (∀ o, o < 8 → f_X11_wealth (nI o) Y' = some (wvC N C s o, Y')) ∧ FT 3 D D' ∧ XB X Y' ∧ FY Y Y'
theorem set_val {n : BN} {C : CM} {X : XM} {m : Nat} (hN : 2000 ≤ N) (hH : HereB C X n) (hb : C.2 2 0 1 < 4) (hP : PlR n C X m) : SvR N n C X m := by
  have hD0 : ∀ D, FG C D → HereB D X n ∧ D.2 2 0 1 < 4 ∧ PlR n D X m := fun D h => ⟨here_fgB hH h, by rw [h.1]; exact hb, pl_fg hP h⟩
  intro s hs D Y hD hY hXB
  obtain ⟨h1, h2, h3⟩ := hD0 D hD
  obtain ⟨q', D', Y1, j, Y', p1, p2, p3, p4, p5, p6, p7⟩ := plots_rel (D := D) hN h1 h2 h3 hs (FT.rf D) hY hXB
  obtain ⟨q2, D2, Y2, j2, Y2', r1, r2, r3, r4, r5, r6, -⟩ := plots_rel (D := C) hN hH hb hP hs (FT.rf C) hY hXB
  have e1 : Y2 = Y1 := by
    rw [p2] at r2
    exact ((Prod.mk.inj (Option.some.inj r2)).2).symm
  subst e1
  have e2 : Y2' = Y' := by
    rw [p3] at r3
    exact ((Prod.mk.inj (Option.some.inj r3)).2).symm
  subst e2
  have hS := wi_S p4.2.2.1
  have hS2 := wi_S r4.2.2.1
  refine ⟨D', Y2, j, Y2', p1, p2, p3, fun o ho => ?_, fun o ho => ?_, p5, p6, p7⟩
  · unfold wvC
    rw [r1]
    have a1 : D'.1 4 3 1 o = D2.1 4 3 1 o := (hS.1 1 o (by omega) (by omega) ho).trans (hS2.1 1 o (by omega) (by omega) ho).symm
    have a2 : D'.1 4 3 2 o = D2.1 4 3 2 o := (hS.1 2 o (by omega) (by omega) ho).trans (hS2.1 2 o (by omega) (by omega) ho).symm
    simp (disch := omega) only [f_X6_wealth, ldA_nI, rt, a1, a2]
  · unfold wvC
    rw [r1]
    have a1 : D2.1 4 3 1 o = Y2'.1 2 (373 + o) := hS2.1 1 o (by omega) (by omega) ho
    have a2 : D2.1 4 3 2 o = Y2'.1 2 (381 + o) := hS2.1 2 o (by omega) (by omega) ho
    simp (disch := omega) only [f_X11_wealth, nI_la, ldA_nI, rt, a1, a2]
theorem note_eq {s : Nat} {w : Nat → Int32} {D : CM} (hN : 2000 ≤ N) (hs : s < 256) (hw : ∀ o, o < 8 → f_X6_wealth 3 (nI o) D = some (w o, D)) : ∃ E, f_X4_note N (nI s) 3 D = some (0, E) ∧ E.2 = D.2 ∧ (∀ k i j x, ¬ (k = 9 ∧ i = 0 ∧ j = 2 ∧ 8 * s ≤ x ∧ x < 8 * s + 8) → E.1 k i j x = D.1 k i j x) ∧ ∀ o, o < 8 → E.1 9 0 2 (8 * s + o) = w o := by
  unfold f_X4_note
  refine loop1 (fun mm i E => f_X4_note_2 N (nI s) 3 mm i E) (fun o E => E.2 = D.2 ∧ (∀ k i j x, ¬ (k = 9 ∧ i = 0 ∧ j = 2 ∧ 8 * s ≤ x ∧ x < 8 * s + 8) → E.1 k i j x = D.1 k i j x) ∧ ∀ o', o' < o → E.1 9 0 2 (8 * s + o') = w o')
    (fun y => ∃ E, y = some (0, E) ∧ E.2 = D.2 ∧ (∀ k i j x, ¬ (k = 9 ∧ i = 0 ∧ j = 2 ∧ 8 * s ≤ x ∧ x < 8 * s + 8) → E.1 k i j x = D.1 k i j x) ∧ ∀ o, o < 8 → E.1 9 0 2 (8 * s + o) = w o) 8 ?_ ?_ 8 0 N D (by omega) (by omega) ⟨rfl, fun _ _ _ _ _ => rfl, fun o h => by omega⟩
  · rintro mm o E ho ⟨h2, hf, hv⟩
    have hwE : f_X6_wealth 3 (nI o) E = some (w o, E) := by
      have := hw o ho
      unfold f_X6_wealth at this ⊢
      rw [ldA_nI ho (by omega), ldA_nI ho (by omega)] at this ⊢
      rw [hf 4 3 1 o (by omega), hf 4 3 2 o (by omega)]
      have e := (Prod.mk.inj (Option.some.inj this)).1
      rw [e]
      rfl
    refine Or.inl ⟨stC E 9 0 2 (8 * s + o) (w o), ?_, h2, fun k i j x hn => ?_, fun o' ho' => ?_⟩
    · simp (disch := omega) only [f_X4_note_2, le_ln, if_neg, hwE, cal_some, nI_ml, nI_add, stA_nI, nI_al]
      rw [Nat.mul_comm s 8]
    · simp only [stC]
      rw [if_neg (by omega)]
      exact hf k i j x hn
    · rw [stC_if]
      by_cases e : o' = o
      · rw [if_pos (by omega), e]
      · rw [if_neg (by omega)]
        exact hv o' (by omega)
  · rintro mm E ⟨h2, hf, hv⟩
    refine ⟨E, ?_, h2, hf, hv⟩
    simp (disch := omega) only [f_X4_note_2, le_ln, if_pos, rt]
/-- a set at rest -/
def RsP (m : Nat) (wv : Nat → Nat → Int32) (s : Nat) : Prop := okS m s ∧ ∀ o, o < 8 → bt (nI m) o = 1 → wv (s ^^^ 2 ^ o) o ≤ wv s o
noncomputable def cnR (m : Nat) (wv : Nat → Nat → Int32) : Nat → Nat := sumN (fun s => (tB (RsP m wv s)).toNat)
theorem cnR_le (m : Nat) (wv : Nat → Nat → Int32) (k : Nat) : cnR m wv k ≤ k := sumN_bd k
theorem cnR_s (m : Nat) (wv : Nat → Nat → Int32) (k : Nat) : cnR m wv (k + 1) = cnR m wv k + (tB (RsP m wv k)).toNat := rfl
theorem isRest_eq {m s : Nat} {wv : Nat → Nat → Int32} {D : CM} (hN : 2000 ≤ N) (hm : m < 256) (hs : s < 256) (hok : okS m s) (hr : ∀ t, t < 256 → okS m t → ∀ o, o < 8 → D.1 9 0 2 (8 * t + o) = wv t o) : f_X4_isRest N (nI s) (nI m) D = some (bI (tB (RsP m wv s)), D) := by
  unfold f_X4_isRest
  refine loop1 (fun mm i (_ : Unit) => f_X4_isRest_2 N (nI s) (nI m) mm i D) (fun o _ => ∀ o', o' < o → bt (nI m) o' = 1 → wv (s ^^^ 2 ^ o') o' ≤ wv s o') (fun y => y = some (bI (tB (RsP m wv s)), D)) 8 ?_ ?_ 8 0 N () (by omega) (by omega) (fun o h => by omega)
  · rintro mm o - ho hpr
    obtain ⟨x1, x2⟩ := xor_t s hs o ho
    have eb : (nI m >>> (nI o &&& 31) &&& 1) = bt (nI m) o := rfl
    rw [f_X4_isRest_2]
    simp (disch := omega) only [le_ln, if_neg, eb, x1, nI_ml, nI_add, nI_al]
    by_cases hb : bt (nI m) o = 1
    · have v1 := hr _ x2 (ok_xor hs ho hok hb) o ho
      have v2 := hr s hs hok o ho
      rw [if_pos hb]
      simp (disch := omega) only [ldA_nI]
      rw [Nat.mul_comm (s ^^^ 2 ^ o) 8, Nat.mul_comm s 8, v1, v2]
      by_cases hle : wv (s ^^^ 2 ^ o) o ≤ wv s o
      · rw [if_pos hle]
        refine Or.inl ⟨(), rfl, fun o' ho' hb' => ?_⟩
        by_cases e : o' = o
        · rw [e]; exact hle
        · exact hpr o' (by omega) hb'
      · rw [if_neg hle]
        refine Or.inr ?_
        rw [tB_f (fun h => hle (h.2 o ho hb))]
        rfl
    · rw [if_neg hb]
      refine Or.inl ⟨(), rfl, fun o' ho' hb' => ?_⟩
      by_cases e : o' = o
      · rw [e] at hb'
        exact absurd hb' hb
      · exact hpr o' (by omega) hb'
  · rintro mm - hpr
    rw [tB_t ⟨hok, hpr⟩]
    simp (disch := omega) only [f_X4_isRest_2, le_ln, if_pos, rt]
    rfl
end RST
