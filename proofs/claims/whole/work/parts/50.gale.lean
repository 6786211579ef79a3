/-! A gale, both sides in step. -/
theorem and1 (x : Int32) : x &&& 1 = 0 ∨ x &&& 1 = 1 := by
  have h : (x &&& 1).toBitVec = x.toBitVec &&& 1#32 := rfl
  rw [BitVec.and_one_eq_setWidth_ofBool_getLsbD] at h
  cases hb : x.toBitVec.getLsbD 0
  · refine Or.inl (Int32.toBitVec_inj.1 ?_)
    rw [h, hb]
    rfl
  · refine Or.inr (Int32.toBitVec_inj.1 ?_)
    rw [h, hb]
    rfl
def bt (m : Int32) (o : Nat) : Int32 := (m >>> (nI o &&& 31)) &&& 1
theorem bt01 (m : Int32) (o : Nat) : bt m o = 0 ∨ bt m o = 1 := and1 _
theorem bitOf_eq (m : Int32) (o : Nat) (X : XM) : f_X11_bitOf m (nI o) X = some (bt m o, X) := by
  unfold f_X11_bitOf
  have e : ((m >>> (nI o &&& 31)) &&& 1) = bt m o := rfl
  rw [e]
  rcases bt01 m o with h | h
  · rw [h, if_neg (by decide)]
    rfl
  · rw [h, if_pos rfl]
    rfl
theorem imin_nn {a b : Nat} (ha : a < 2147483648) (hb : b < 2147483648) : imin (nI a) (nI b) = nI (min a b) := by
  unfold imin
  simp (disch := omega) only [lt_nn]
  by_cases h : b < a
  · rw [if_pos h, Nat.min_eq_right (by omega)]
  · rw [if_neg h, Nat.min_eq_left (by omega)]
/-- an owner's share, the shares of those who face the wind -/
def sv (B : Nat → Nat → Int32) (o : Nat) : Nat := (B 10 o).toNatClampNeg
theorem sv_ok {B : Nat → Nat → Int32} {s : Nat → Int32} {n : BN} (hB : BankR B s n) {o : Nat} (ho : o < n.2.2.1) : B 10 o = nI (sv B o) ∧ s (23 + o) = nI (sv B o) ∧ 1 ≤ sv B o ∧ sv B o ≤ 99 := by
  obtain ⟨v, h1, h2, h3, h4⟩ := bk_share hB o ho
  have e : sv B o = v := by
    unfold sv
    rw [h3, nI_clamp (by omega)]
  rw [e]
  exact ⟨h3, h4, h1, h2⟩
def shN (m : Int32) (v : Nat → Nat) : Nat → Nat
  | 0 => 0
  | k + 1 => shN m v k + (if bt m k = 1 then v k else 0)
theorem shN_le {m : Int32} {v : Nat → Nat} {O : Nat} (h : ∀ o, o < O → v o ≤ 99) : ∀ k, k ≤ O → shN m v k ≤ 99 * k := by
  intro k
  induction k with
  | zero => intro _; exact Nat.le_refl _
  | succ k ih =>
    intro hk
    have h1 := ih (by omega)
    have h2 := h k (by omega)
    show shN m v k + (if bt m k = 1 then v k else 0) ≤ _
    split <;> omega
theorem shN_ge {m : Int32} {v : Nat → Nat} {o : Nat} (hb : bt m o = 1) : ∀ k, o < k → v o ≤ shN m v k := by
  intro k
  induction k with
  | zero => intro h; omega
  | succ k ih =>
    intro hk
    show v o ≤ shN m v k + (if bt m k = 1 then v k else 0)
    by_cases e : o = k
    · subst e
      rw [if_pos hb]
      omega
    · have := ih (by omega)
      omega
section GAL
variable {N b r G : Nat} {B : Nat → Nat → Int32} {s th : Nat → Int32} {n : BN} {C0 : CM} {X0 : XM}
def WC (b r : Nat) (B : Nat → Nat → Int32) (th : Nat → Int32) (C0 C : CM) : Prop := C.1 3 b = B ∧ C.1 4 r 8 = th ∧ FrC (cO B) r C0 C
def WX (s : Nat → Int32) (X0 X : XM) : Prop := (∀ x, x < 371 ∨ (429 ≤ x ∧ x < 541) → X.1 2 x = s x) ∧ FrX X0 X
theorem wi_mk {C : CM} {X : XM} (h1 : WC b r B th C0 C) (h2 : WX s X0 X) (h3 : StR r C X) : WI b r B s th C0 X0 C X := ⟨h1.1, h2.1, h1.2.1, h3, h1.2.2, h2.2⟩
theorem wi_C {C : CM} {X : XM} (h : WI b r B s th C0 X0 C X) : WC b r B th C0 C := ⟨h.1, h.2.2.1, h.2.2.2.2.1⟩
theorem wi_X {C : CM} {X : XM} (h : WI b r B s th C0 X0 C X) : WX s X0 X := ⟨h.2.1, h.2.2.2.2.2⟩
theorem wi_S {C : CM} {X : XM} (h : WI b r B s th C0 X0 C X) : StR r C X := h.2.2.2.1
theorem wc_st {C : CM} {k i j x : Nat} {v : Int32} (h : WC b r B th C0 C) (hw : (k = 8 ∧ j ≠ 0) ∨ (k = 4 ∧ i = r ∧ ((1 ≤ j ∧ j ≤ 7 ∧ x < cO B) ∨ (j = 0 ∧ x ≠ 2 ∧ x ≠ 3)))) : WC b r B th C0 (stC C k i j x v) := by
  refine ⟨(stC_ob (by omega)).trans h.1, Eq.trans ?_ h.2.1, frC_st h.2.2 hw⟩
  funext y
  simp only [stC]
  rw [if_neg (by omega)]
theorem wx_st {X : XM} {j x : Nat} {v : Int32} (h : WX s X0 X) (hw : (j = 0 ∧ (x = 26 ∨ x = 27 ∨ x = 28)) ∨ j = 7 ∨ j = 8 ∨ (j = 2 ∧ ((371 ≤ x ∧ x < 429) ∨ x = 541 ∨ x = 542))) : WX s X0 (stX X j x v) := by
  refine ⟨fun y hy => ?_, frX_st h.2 hw⟩
  simp only [stX]
  rw [if_neg (by omega)]
  exact h.1 y hy
/-- what a gale leaves: purse, sticks, vanes, all but the trust -/
def KpR (r : Nat) (C C' : CM) (X X' : XM) : Prop := (∀ j, 2 ≤ j → j ≤ 5 → C'.1 4 r j = C.1 4 r j) ∧ (∀ x, x ≠ 1 → C'.1 4 r 0 x = C.1 4 r 0 x) ∧ X'.1 2 541 = X.1 2 541
theorem KpR.rf (C : CM) (X : XM) : KpR r C C X X := ⟨fun _ _ _ => rfl, fun _ _ => rfl, rfl⟩
theorem KpR.trans {C1 C2 C3 : CM} {X1 X2 X3 : XM} (h1 : KpR r C1 C2 X1 X2) (h2 : KpR r C2 C3 X2 X3) : KpR r C1 C3 X1 X3 := ⟨fun j a c => (h2.1 j a c).trans (h1.1 j a c), fun x a => (h2.2.1 x a).trans (h1.2.1 x a), h2.2.2.trans h1.2.2⟩
theorem kp_c {C C' : CM} {X X' : XM} {k i j x : Nat} {v : Int32} (h : KpR r C C' X X') (hj : k ≠ 4 ∨ j = 1 ∨ j = 6 ∨ j = 7 ∨ (j = 0 ∧ x = 1)) : KpR r C (stC C' k i j x v) X X' := by
  refine ⟨fun j' a c => ?_, fun x' a => ?_, h.2.2⟩
  · rw [← h.1 j' a c]
    funext y
    simp only [stC]
    rw [if_neg (by omega)]
  · rw [← h.2.1 x' a]
    simp only [stC]
    rw [if_neg (by omega)]
theorem kp_x {C C' : CM} {X X' : XM} {j x : Nat} {v : Int32} (h : KpR r C C' X X') (hj : j ≠ 2 ∨ x ≠ 541) : KpR r C C' X (stX X' j x v) := by
  refine ⟨h.1, h.2.1, ?_⟩
  rw [← h.2.2]
  simp only [stX]
  rw [if_neg (by omega)]
theorem rng_c {C : CM} {k i j x : Nat} {v : Int32} (h : Rng G (C.1 4 r)) (hj : k ≠ 4 ∨ j = 0 ∨ j = 2 ∨ 6 ≤ j) : Rng G ((stC C k i j x v).1 4 r) := by
  intro o ho
  have e : ∀ j', (j' = 1 ∨ j' = 3 ∨ j' = 4 ∨ j' = 5) → (stC C k i j x v).1 4 r j' o = C.1 4 r j' o := by
    intro j' h'
    simp only [stC]
    rw [if_neg (by omega)]
  rw [e 1 (by omega), e 3 (by omega), e 4 (by omega), e 5 (by omega)]
  exact h o ho
theorem rng_g {C : CM} {o v : Nat} (h : Rng G (C.1 4 r)) (hv : v ≤ G) : Rng G ((stC C 4 r 1 o (nI v)).1 4 r) := by
  intro o' ho
  rw [stC_row (j' := 3) (by omega), stC_row (j' := 4) (by omega), stC_row (j' := 5) (by omega), stC_if]
  refine ⟨?_, (h o' ho).2⟩
  by_cases e : o' = o
  · rw [if_pos e]
    exact ⟨v, hv, rfl⟩
  · rw [if_neg e]
    exact (h o' ho).1
/-- the end of a gale, from what the facing get on -/
def GaleQ (b r : Nat) (B : Nat → Nat → Int32) (s th : Nat → Int32) (C0 : CM) (X0 : XM) (G : Nat) (C : CM) (X : XM) (y : Option (Int32 × CM)) (z : Option (Int32 × XM)) : Prop :=
  ∃ C' X', y = some (0, C') ∧ z = some (0, X') ∧ WI b r B s th C0 X0 C' X' ∧ Rng (G + 100000) (C'.1 4 r) ∧ KpR r C C' X X'
theorem GaleQ.wk {C C1 : CM} {X X1 : XM} {y : Option (Int32 × CM)} {z : Option (Int32 × XM)} (hk : KpR r C C1 X X1) (h : GaleQ b r B s th C0 X0 G C1 X1 y z) : GaleQ b r B s th C0 X0 G C X y z := by
  obtain ⟨C', X', h1, h2, h3, h4, h5⟩ := h
  exact ⟨C', X', h1, h2, h3, h4, hk.trans h5⟩
/-- the payment: by owner, part and pact -/
def pt3 (pt pc : Nat → Nat) (k : Nat) : Nat := if 0 < pc k then pt k / 3 else 0
def gN (pt pc : Nat → Nat) : Nat → Nat → Nat
  | 0, _ => 0
  | k + 1, o => gN pt pc k o + (if o = k then pt k - pt3 pt pc k else 0) + (if pc k = o + 1 then pt3 pt pc k else 0)
theorem gN_s (pt pc : Nat → Nat) (k o : Nat) : gN pt pc (k + 1) o = gN pt pc k o + (if o = k then pt k - pt3 pt pc k else 0) + (if pc k = o + 1 then pt3 pt pc k else 0) := rfl
theorem pt3_le (pt pc : Nat → Nat) (k : Nat) : pt3 pt pc k ≤ pt k := by
  unfold pt3
  split <;> omega
theorem gN_le {pt pc : Nat → Nat} {O : Nat} (h : ∀ k, k < O → pt k ≤ 7300) : ∀ k, k ≤ O → ∀ o, gN pt pc k o ≤ 10000 * k := by
  intro k
  induction k with
  | zero => intro _ o; exact Nat.le_refl _
  | succ k ih =>
    intro hk o
    have h1 := ih (by omega) o
    have h2 := h k (by omega)
    have h3 : pt3 pt pc k ≤ 2434 := by
      unfold pt3
      split <;> omega
    rw [gN_s]
    split <;> split <;> omega
theorem gN_out {pt pc : Nat → Nat} {O o : Nat} (h : ∀ k, k < O → pc k ≤ O) (ho : O ≤ o) : ∀ k, k ≤ O → gN pt pc k o = 0 := by
  intro k
  induction k with
  | zero => intro _; rfl
  | succ k ih =>
    intro hk
    have h1 := ih (by omega)
    have h2 := h k (by omega)
    rw [gN_s, h1, if_neg (by omega), if_neg (by omega)]
theorem pay2_eq {C : CM} {pt : Nat → Nat} (hN : 2000 ≤ N) (hB : BankR B s n) (hW : WC b r B th C0 C) (hp : ∀ o, o < n.2.2.1 → C.1 8 0 1 o = nI (pt o)) :
    ∃ C', f_X9_payPacts_2 N b N 0 C = f_X9_payPacts_30 N b N 0 C' ∧ WC b r B th C0 C' ∧ C'.1 4 = C.1 4 ∧ C'.1 8 0 1 = C.1 8 0 1 ∧ ∀ o, o < n.2.2.1 → C'.1 8 0 3 o = nI (pt o) := by
  obtain ⟨bw, bh, bO, bT⟩ := bk_bd hB
  refine loop1 (fun m i D => f_X9_payPacts_2 N b m i D) (fun k D => WC b r B th C0 D ∧ D.1 4 = C.1 4 ∧ D.1 8 0 1 = C.1 8 0 1 ∧ ∀ o, o < k → D.1 8 0 3 o = nI (pt o))
    (fun y => ∃ C', y = f_X9_payPacts_30 N b N 0 C' ∧ WC b r B th C0 C' ∧ C'.1 4 = C.1 4 ∧ C'.1 8 0 1 = C.1 8 0 1 ∧ ∀ o, o < n.2.2.1 → C'.1 8 0 3 o = nI (pt o)) n.2.2.1 ?_ ?_ n.2.2.1 0 N C (by omega) (by omega) ⟨hW, rfl, rfl, fun o h => by omega⟩
  · rintro m k D hk ⟨w, e4, e1, e3⟩
    refine Or.inl ⟨stC D 8 0 3 k (nI (pt k)), ?_, wc_st w (by omega), ?_, (stC_row (by omega)).trans e1, ?_⟩
    · have c1 : D.1 3 b 6 0 = nI n.2.2.1 := (congrFun (congrFun w.1 6) 0).trans (bk_o hB).1
      have c2 : D.1 8 0 1 k = nI (pt k) := (congrFun e1 k).trans (hp k hk)
      simp (disch := omega) only [f_X9_payPacts_2, c1, le_nn, if_neg, ldA_nI, stA_nI, nI_al, c2]
    · rw [← e4]
      funext i
      exact stC_ob (by omega)
    · intro o ho
      rw [stC_if]
      by_cases h : o = k
      · rw [if_pos h, h]
      · rw [if_neg h]
        exact e3 o (by omega)
  · rintro m D ⟨w, e4, e1, e3⟩
    have c1 : D.1 3 b 6 0 = nI n.2.2.1 := (congrFun (congrFun w.1 6) 0).trans (bk_o hB).1
    refine ⟨D, ?_, w, e4, e1, e3⟩
    simp (disch := omega) only [f_X9_payPacts_2, c1, le_nn, if_pos]
theorem pay30_eq {C : CM} {pt pc : Nat → Nat} (hN : 2000 ≤ N) (hB : BankR B s n) (hW : WC b r B th C0 C) (hp : ∀ o, o < n.2.2.1 → C.1 8 0 1 o = nI (pt o)) (hpt : ∀ o, o < n.2.2.1 → pt o ≤ 7300) (hpc : ∀ o, o < n.2.2.1 → pc o ≤ n.2.2.1 ∧ B 13 o = nI (pc o) - 1) (hg : ∀ o, o < n.2.2.1 → C.1 8 0 3 o = nI (pt o)) :
    ∃ C', f_X9_payPacts_30 N b N 0 C = some (0, C') ∧ WC b r B th C0 C' ∧ C'.1 4 = C.1 4 ∧ ∀ o, o < n.2.2.1 → C'.1 8 0 3 o = nI (gN pt pc n.2.2.1 o) := by
  obtain ⟨bw, bh, bO, bT⟩ := bk_bd hB
  refine loop1 (fun m i D => f_X9_payPacts_30 N b m i D) (fun k D => k ≤ n.2.2.1 ∧ WC b r B th C0 D ∧ D.1 4 = C.1 4 ∧ D.1 8 0 1 = C.1 8 0 1 ∧ ∀ o, o < n.2.2.1 → D.1 8 0 3 o = nI (gN pt pc k o + (if k ≤ o then pt o else 0)))
    (fun y => ∃ C', y = some (0, C') ∧ WC b r B th C0 C' ∧ C'.1 4 = C.1 4 ∧ ∀ o, o < n.2.2.1 → C'.1 8 0 3 o = nI (gN pt pc n.2.2.1 o)) n.2.2.1 ?_ ?_ n.2.2.1 0 N C (by omega) (by omega) ⟨by omega, hW, rfl, rfl, fun o h => by rw [hg o h, if_pos (by omega)]; exact congrArg nI (Nat.zero_add _).symm⟩
  · rintro m k D hk ⟨hkO, w, e4, e1, e3⟩
    refine Or.inl ?_
    have c1 : D.1 3 b 6 0 = nI n.2.2.1 := (congrFun (congrFun w.1 6) 0).trans (bk_o hB).1
    have c2 : D.1 8 0 1 k = nI (pt k) := (congrFun e1 k).trans (hp k hk)
    have c3 : D.1 3 b 13 k = nI (pc k) - 1 := (congrFun (congrFun w.1 13) k).trans (hpc k hk).2
    have hpk := (hpc k hk).1
    have hptk := hpt k hk
    by_cases h0 : pc k = 0
    · refine ⟨D, ?_, by omega, w, e4, e1, ?_⟩
      · have c4 : nI (pc k) - 1 < (0 : Int32) := by rw [h0]; decide
        simp (disch := omega) only [f_X9_payPacts_30, c1, le_nn, if_neg, ldA_nI, c3, nI_al]
        rw [if_pos c4]
      · intro o ho
        rw [e3 o ho]
        refine congrArg nI ?_
        rw [gN_s]
        have : pt3 pt pc k = 0 := by unfold pt3; rw [if_neg (by omega)]
        rw [this, h0]
        by_cases h : o = k
        · subst h
          rw [if_pos (by omega), if_pos rfl, if_neg (by omega), if_neg (by omega)]
          omega
        · rw [if_neg h]
          split <;> split <;> split <;> omega
    · have c4 : D.1 8 0 3 k = nI (gN pt pc k k + pt k) := by
        rw [e3 k hk, if_pos (Nat.le_refl _)]
      have hb1 := gN_le (pc := pc) hpt k (by omega) k
      have c5 : nI (pc k) - 1 = nI (pc k - 1) := nI_sl (by omega)
      have t3 : pt3 pt pc k = pt k / 3 := by unfold pt3; rw [if_pos (by omega)]
      refine ⟨stC (stC D 8 0 3 k (nI (gN pt pc k k + pt k - pt k / 3))) 8 0 3 (pc k - 1) (nI ((if pc k - 1 = k then gN pt pc k k + pt k - pt k / 3 else gN pt pc k (pc k - 1) + (if k ≤ pc k - 1 then pt (pc k - 1) else 0)) + pt k / 3)), ?_, by omega, wc_st (wc_st w (by omega)) (by omega), ?_, ?_, ?_⟩
      · simp (disch := omega) only [f_X9_payPacts_30, c1, le_nn, if_neg, ldA_nI, c3, nI_al, c5, lt_nl, c2, c4, stA_nI, nI_dl, pk_sub, stC_if, stC_row]
        have e5 : (if pc k - 1 = k then nI (gN pt pc k k + pt k - pt k / 3) else D.1 8 0 3 (pc k - 1)) = nI (if pc k - 1 = k then gN pt pc k k + pt k - pt k / 3 else gN pt pc k (pc k - 1) + (if k ≤ pc k - 1 then pt (pc k - 1) else 0)) := by
          by_cases h : pc k - 1 = k
          · rw [if_pos h, if_pos h]
          · rw [if_neg h, if_neg h]
            exact e3 _ (by omega)
        rw [e5, nI_add]
      · rw [← e4]
        funext i
        rw [stC_ob (by omega), stC_ob (by omega)]
      · rw [stC_row (by omega), stC_row (by omega)]
        exact e1
      · intro o ho
        rw [stC_if, stC_if, gN_s, t3, e3 o ho]
        by_cases h1 : o = pc k - 1
        · rw [if_pos h1]
          refine congrArg nI ?_
          by_cases h2 : o = k
          · rw [if_pos (by omega), if_pos h2, if_pos (by omega), if_neg (by omega), h2]
            omega
          · rw [← h1, if_neg h2, if_neg h2, if_pos (show pc k = o + 1 by omega)]
            split <;> split <;> omega
        · rw [if_neg h1]
          by_cases h2 : o = k
          · rw [if_pos h2]
            refine congrArg nI ?_
            rw [if_pos h2, if_neg (by omega), if_neg (by omega), h2]
            omega
          · rw [if_neg h2]
            refine congrArg nI ?_
            rw [if_neg h2, if_neg (show ¬ (pc k = o + 1) by omega)]
            split <;> split <;> omega
  · rintro m D ⟨hkO, w, e4, e1, e3⟩
    have c1 : D.1 3 b 6 0 = nI n.2.2.1 := (congrFun (congrFun w.1 6) 0).trans (bk_o hB).1
    refine ⟨D, ?_, w, e4, ?_⟩
    · simp (disch := omega) only [f_X9_payPacts_30, c1, le_nn, if_pos, rt]
    · intro o ho
      rw [e3 o ho, if_neg (by omega)]
      rfl
end GAL
