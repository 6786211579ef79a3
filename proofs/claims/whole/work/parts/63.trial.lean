/-! What is tried: the state of trial on both sides. -/
/-- the reference is in a trial that began at X -/
def XB (X Y : XM) : Prop := Y.2 = X.2 ∧ (∀ x, lastF x = true → Y.1 0 x = X.1 0 x) ∧ (∀ j, lastR j = true → j ≠ 2 → Y.1 j = X.1 j) ∧ (∀ x, x < 172 → Y.1 9 x = X.1 2 (371 + x)) ∧ (∀ x, ¬ (371 ≤ x ∧ x < 543) → Y.1 2 x = X.1 2 x)
theorem xb_fy {X Y Z : XM} (h : XB X Y) (hf : FY Y Z) : XB X Z := by
  obtain ⟨h1, h2, h3, h4, h5⟩ := h
  refine ⟨hf.1.trans h1, fun x hx => ?_, fun j hj h2' => ?_, fun x hx => ?_, fun x hx => ?_⟩
  · rw [hf.2 0 x ?_ (by omega) (by omega) (by omega)]
    · exact h2 x hx
    · rintro ⟨-, rfl | rfl | rfl | rfl⟩ <;> cases hx
  · have : j ≠ 0 ∧ j ≠ 7 ∧ j ≠ 8 := by
      refine ⟨?_, ?_, ?_⟩ <;> (rintro rfl; cases hj)
    refine (funext fun x => ?_ : Z.1 j = Y.1 j).trans (h3 j hj h2')
    exact hf.2 j x (by omega) this.2.1 this.2.2 (by omega)
  · rw [hf.2 9 x (by omega) (by omega) (by omega) (by omega)]
    exact h4 x hx
  · rw [hf.2 2 x (by omega) (by omega) (by omega) (by omega)]
    exact h5 x hx
theorem xb_start (N : Nat) (X : XM) (hN : 2000 ≤ N) : ∃ Y, f_X11_tries N X = some (0, Y) ∧ XB X Y ∧ Y.1 2 = X.1 2 := by
  refine ⟨_, tries_eq N X hN, ⟨rfl, fun x hx => ?_, fun j hj h2 => ?_, fun x hx => ?_, fun x hx => ?_⟩, rwX_out (by omega)⟩
  · rw [rwX_out (by omega)]
  · exact rwX_out (fun e => by subst e; cases hj)
  · rw [rwX_in]
    have := fil_in (r := X.1 9) (g := fun x => X.1 2 (371 + x)) (a := 0) (n := 172) hx
    rwa [Nat.zero_add] at this
  · rw [rwX_out (by omega)]
theorem xb_back {N : Nat} {X Y : XM} (hN : 2000 ≤ N) (h : XB X Y) : ∃ Z, f_X11_back N Y = some (0, Z) ∧ XE X Z ∧ XB X Z ∧ Z.1 2 = X.1 2 ∧ Z.1 0 = Y.1 0 := by
  obtain ⟨h1, h2, h3, h4, h5⟩ := h
  have e2 : (rwX Y 2 (fil (Y.1 2) (Y.1 9) 371 172)).1 2 = X.1 2 := by
    rw [rwX_in]
    funext x
    unfold fil
    by_cases h : 371 ≤ x ∧ x < 371 + 172
    · rw [if_pos h, h4 _ (by omega), show 371 + (x - 371) = x by omega]
    · rw [if_neg h]
      exact h5 x (by omega)
  refine ⟨_, back_eq N Y hN, ⟨fun x hx => ?_, fun j hj => ?_, fun x _ => ?_, ?_, ?_⟩, ⟨h1, fun x hx => ?_, fun j hj hj2 => ?_, fun x hx => ?_, fun x hx => ?_⟩, e2, rwX_out (by omega)⟩
  · rw [rwX_out (by omega)]
    exact h2 x hx
  · by_cases e : j = 2
    · subst e
      exact e2
    · rw [rwX_out e]
      exact h3 j hj e
  · show Y.2 5 x = X.2 5 x
    rw [h1]
  · show Y.2 6 = X.2 6
    rw [h1]
  · show Y.2 18 = X.2 18
    rw [h1]
  · rw [rwX_out (by omega)]
    exact h2 x hx
  · rw [rwX_out hj2]
    exact h3 j hj hj2
  · rw [rwX_out (by omega)]
    exact h4 x hx
  · rw [e2]
theorem ce_ft {C C' : CM} (h : FT 3 C C') : CE C C' := by
  refine ⟨h.1, fun k i j x hs => h.2 k i j x ?_ ?_⟩
  · rintro rfl
    simp [scrC] at hs
  · rintro ⟨rfl, rfl⟩
    simp [scrC] at hs
section TRI
variable {N : Nat} {n : BN} {b : Nat} {B : Nat → Nat → Int32}
/-- both sides hold the same in the state of trial -/
def TQ (n : BN) (b : Nat) (B : Nat → Nat → Int32) (g q : Nat) (D : CM) (Y : XM) : Prop := BankR B (Y.1 2) n ∧ ThingR n (Y.1 2) (fun k => Y.1 2 (429 + k)) (fun c => Y.1 2 (441 + c)) (D.1 4 3 8) ∧ QI b 3 B (Y.1 2) (D.1 4 3 8) D Y g q D Y
theorem tq_re {g q : Nat} {s : Nat → Int32} {th : Nat → Int32} {C0 D : CM} {X0 Y : XM} (hB : BankR B s n) (hT : ThingR n s (fun k => s (429 + k)) (fun c => s (441 + c)) th) (h : QI b 3 B s th C0 X0 g q D Y) : TQ n b B g q D Y := by
  have bd := bk_bd hB
  obtain ⟨⟨w1, w2, w3, w4, w5, w6⟩, h2, h3, h4⟩ := h
  refine ⟨bankR_congr hB (fun x hx => w2 x (Or.inl hx)), ?_, ⟨w1, fun _ _ => rfl, rfl, w4, FrC.rf _ _ _, FrX.rf _⟩, h2, h3, h4⟩
  rw [w3]
  exact thing_congr w2 ⟨bd.2.2.1, bd.2.2.2⟩ hT
/-- bank and state alone -/
def HereB (C : CM) (X : XM) (n : BN) : Prop := BankR (C.1 3 (C.2 2 0 1)) (X.1 2) n ∧ StateR n (X.1 2) (C.1 4 0) (fun x => X.1 2 (371 + x)) ∧ True
theorem hb_of {C : CM} {X : XM} {n : BN} (h : HereR C X n) : HereB C X n := ⟨h.1, h.2.1, trivial⟩
theorem tq_start {C D : CM} {X Y : XM} (hH : HereB C X n) (hD : FT 3 C D) (hY : Y.1 2 = X.1 2) :
    ∃ q D1, q ≤ 48 ∧ C.1 4 0 0 0 = nI q ∧ f_X6_copy 3 0 D = some (0, D1) ∧ FT 3 C D1 ∧ TQ n (C.2 2 0 1) (C.1 3 (C.2 2 0 1)) 1000 q D1 Y ∧ StateR n (Y.1 2) (D1.1 4 3) (fun x => Y.1 2 (371 + x)) ∧ ∀ j x, dX6 j x → D1.1 4 3 j x = C.1 4 0 j x := by
  obtain ⟨hB, hS, -⟩ := hH
  have bd := bk_bd hB
  obtain ⟨q, hq, q1, q2, q3⟩ := sh_qb hS
  have hd : ∀ j x, D.1 4 0 j x = C.1 4 0 j x := fun j x => hD.2 4 0 j x (by omega) (by omega)
  have hcp : ∀ j x, dX6 j x → (cpK D 4 3 0 dX6).1 4 3 j x = C.1 4 0 j x := fun j x hj => by
    simp only [cpK]
    rw [if_pos ⟨trivial, trivial, hj⟩]
    exact hd j x
  have hft : FT 3 C (cpK D 4 3 0 dX6) := by
    refine ⟨hD.1, fun k i j x h1 h2 => ?_⟩
    simp only [cpK]
    rw [if_neg (by omega)]
    exact hD.2 k i j x h1 h2
  have hS1 : StateR n (Y.1 2) ((cpK D 4 3 0 dX6).1 4 3) (fun x => Y.1 2 (371 + x)) := by
    rw [hY]
    exact stateR_congr ⟨bd.2.2.1, bd.2.2.2⟩ hS (fun _ _ => rfl) hcp (fun _ _ => rfl)
  have hB1 : BankR (C.1 3 (C.2 2 0 1)) (Y.1 2) n := by rw [hY]; exact hB
  refine ⟨q, _, hq, q1, copy_X6 D (show 0 ≠ 3 by omega), hft, ?_, hS1, hcp⟩
  have hc3 : (cpK D 4 3 0 dX6).1 3 (C.2 2 0 1) = C.1 3 (C.2 2 0 1) := funext fun j => funext fun x => hft.2 3 _ j x (by omega) (by omega)
  exact ⟨hB1, sh_th hS1, qi_of hc3 hS1 ((hcp 0 0 (by unfold dX6; omega)).trans q1) hq⟩
theorem tq_pass {g q k : Nat} {D : CM} {Y : XM} (hN : 2000 ≤ N) (hg : g ≤ 50000000) (hk : k ≤ 48) (hq : q ≤ 48) (h : TQ n b B g q D Y) : ∃ j D' Y', j = min k (48 - q) ∧ f_X9_pass N b 3 (nI k) D = some (nI j, D') ∧ f_X11_goes N (nI k) Y = some (nI j, Y') ∧ TQ n b B g (q + j) D' Y' ∧ FT 3 D D' ∧ FY Y Y' := by
  obtain ⟨hB, hT, hQ⟩ := h
  obtain ⟨j, D', Y', e1, e2, e3, e4⟩ := pass_rel hN hB hT hg hk hq hQ
  exact ⟨j, D', Y', e1, e2, e3, tq_re hB hT e4, ft_of e4.1.2.2.2.2.1, fy_of e4.1.2.2.2.2.2⟩
theorem tq_w {g q o : Nat} {D : CM} {Y : XM} (h : TQ n b B g q D Y) (ho : o < 8) : ∃ v, f_X6_wealth 3 (nI o) D = some (v, D) ∧ f_X11_wealth (nI o) Y = some (v, Y) := by
  have hS := wi_S h.2.2.1
  have x1 : D.1 4 3 1 o = Y.1 2 (373 + o) := hS.1 1 o (by omega) (by omega) ho
  have x2 : D.1 4 3 2 o = Y.1 2 (381 + o) := hS.1 2 o (by omega) (by omega) ho
  refine ⟨D.1 4 3 1 o + D.1 4 3 2 o, ?_, ?_⟩
  · simp (disch := omega) only [f_X6_wealth, ldA_nI, rt]
  · simp (disch := omega) only [f_X11_wealth, nI_la, ldA_nI, rt, x1, x2]
theorem th_48 {s std fen th : Nat → Int32} {c : Nat} (hn : n.2.2.1 ≤ 8 ∧ n.2.2.2 ≤ 12) (h : ThingR n s std fen th) (hc : c < 100) (h48 : th c = 48) : fen c = 1 := by
  rcases thing_cases h hc with ⟨k, hk, -, e⟩ | ⟨t, ht, -, -, e⟩ | ⟨h3, -⟩ | ⟨-, -, -, e⟩
  · rw [h48] at e
    exact absurd e.symm (thV_own k (by omega)).2.2.1
  · rw [h48] at e
    exact absurd e.symm (thV_tree t (by omega)).2.2.1
  · exact h3
  · rw [h48] at e
    exact absurd e (by decide)
theorem tq_set {g q c : Nat} {w : Int32} {D : CM} {Y : XM} (h : TQ n b B g q D Y) (hc : c < 100) (h0 : D.1 4 3 8 c = 0 ∨ D.1 4 3 8 c = 48) : TQ n b B g q (stC (stC D 4 3 8 c 48) 4 3 0 2 w) (stX Y 2 (441 + c) 1) ∧ FT 3 D (stC (stC D 4 3 8 c 48) 4 3 0 2 w) ∧ FY Y (stX Y 2 (441 + c) 1) := by
  obtain ⟨hB, hT, ⟨w1, w2, w3, w4, w5, w6⟩, h2, h3, h4⟩ := h
  have bd := bk_bd hB
  have e8 : ∀ x, (stC (stC D 4 3 8 c 48) 4 3 0 2 w).1 4 3 8 x = if x = c then 48 else D.1 4 3 8 x := fun x => by rw [stC_row (by omega), stC_if]
  refine ⟨⟨bankR_congr hB (fun x hx => stX_ne (by omega)), ?_, ⟨?_, fun _ _ => rfl, rfl, ?_, FrC.rf _ _ _, FrX.rf _⟩, ?_, ?_, ?_⟩, ft_st (ft_st (FT.rf D) (by omega)) (by omega), fy_st (FY.rf Y) (by omega)⟩
  · have hT2 : ThingR n ((stX Y 2 (441 + c) 1).1 2) (fun k => (stX Y 2 (441 + c) 1).1 2 (429 + k)) (fun c => Y.1 2 (441 + c)) (D.1 4 3 8) := thing_sub ⟨bd.2.2.1, bd.2.2.2⟩ hT (fun x hx => stX_ne (by omega)) (fun k hk => stX_ne (by omega)) (fun _ _ => rfl) (fun _ _ => rfl)
    rcases h0 with h0 | h0
    · refine thing_set ⟨bd.2.2.1, bd.2.2.2⟩ hT2 hc h0 (fun x hx => ?_) (fun x _ => e8 x)
      rw [stX_if]
      by_cases e : x = c
      · rw [if_pos e, if_pos (by omega)]
      · rw [if_neg e, if_neg (by omega)]
    · have hf := th_48 ⟨bd.2.2.1, bd.2.2.2⟩ hT hc h0
      refine thing_sub ⟨bd.2.2.1, bd.2.2.2⟩ hT2 (fun _ _ => rfl) (fun _ _ => rfl) (fun x hx => ?_) (fun x hx => ?_)
      · rw [stX_if]
        by_cases e : 441 + x = 441 + c
        · rw [if_pos e, e]
          exact hf.symm
        · rw [if_neg e]
      · rw [e8]
        by_cases e : x = c
        · rw [if_pos e, e, h0]
        · rw [if_neg e]
  · rw [stC_ob (by omega), stC_ob (by omega)]
    exact w1
  · exact stR_x (stR_c (stR_c w4 (by omega)) (by omega)) (by omega)
  · exact rng_c (rng_c h2 (by omega)) (by omega)
  · rw [stC_ne (by omega), stC_row (by omega)]
    exact h3
  · obtain ⟨l, l1, l2, l3⟩ := h4
    refine ⟨l, l1, ?_, ?_⟩
    · rw [stX_ne (by omega)]
      exact l2
    · rw [stC_ne (by omega), stC_row (by omega)]
      exact l3
theorem tq_fell {g q c u : Nat} {w : Int32} {D : CM} {Y : XM} (h : TQ n b B g q D Y) (hu : u < n.2.2.2) (hc : c < 100) (hsc : Y.1 2 (63 + u) = nI c) (hst : Y.1 2 (429 + u) = 1) : TQ n b B g q (stC (stC D 4 3 8 c 0) 4 3 0 3 w) (stX Y 2 (429 + u) 0) ∧ FT 3 D (stC (stC D 4 3 8 c 0) 4 3 0 3 w) ∧ FY Y (stX Y 2 (429 + u) 0) := by
  obtain ⟨hB, hT, ⟨w1, w2, w3, w4, w5, w6⟩, h2, h3, h4⟩ := h
  have bd := bk_bd hB
  have e8 : ∀ x, (stC (stC D 4 3 8 c 0) 4 3 0 3 w).1 4 3 8 x = if x = c then 0 else D.1 4 3 8 x := fun x => by rw [stC_row (by omega), stC_if]
  refine ⟨⟨bankR_congr hB (fun x hx => stX_ne (by omega)), ?_, ⟨?_, fun _ _ => rfl, rfl, ?_, FrC.rf _ _ _, FrX.rf _⟩, ?_, ?_, ?_⟩, ft_st (ft_st (FT.rf D) (by omega)) (by omega), fy_st (FY.rf Y) (by omega)⟩
  · have hT2 : ThingR n ((stX Y 2 (429 + u) 0).1 2) (fun k => Y.1 2 (429 + k)) (fun c => (stX Y 2 (429 + u) 0).1 2 (441 + c)) (D.1 4 3 8) := thing_sub ⟨bd.2.2.1, bd.2.2.2⟩ hT (fun x hx => stX_ne (by omega)) (fun _ _ => rfl) (fun k hk => stX_ne (by omega)) (fun _ _ => rfl)
    refine thing_fell (t := u) (c := c) ⟨bd.2.2.1, bd.2.2.2⟩ hT2 hc hu hst ?_ (fun k hk => ?_) (fun x _ => e8 x)
    · rw [stX_ne (by omega)]
      exact hsc
    · rw [stX_if]
      by_cases e : k = u
      · rw [if_pos e, if_pos (by omega)]
      · rw [if_neg e, if_neg (by omega)]
  · rw [stC_ob (by omega), stC_ob (by omega)]
    exact w1
  · exact stR_x (stR_c (stR_c w4 (by omega)) (by omega)) (by omega)
  · exact rng_c (rng_c h2 (by omega)) (by omega)
  · rw [stC_ne (by omega), stC_row (by omega)]
    exact h3
  · obtain ⟨l, l1, l2, l3⟩ := h4
    refine ⟨l, l1, ?_, ?_⟩
    · rw [stX_ne (by omega)]
      exact l2
    · rw [stC_ne (by omega), stC_row (by omega)]
      exact l3
/-- what one has behind the last quarter -/
theorem atLast_rel {g q o : Nat} {D : CM} {Y : XM} (hN : 2000 ≤ N) (hg : g ≤ 50000000) (hq : q ≤ 48) (ho : o < 8) (h : TQ n b B g q D Y) : ∃ v j D' Y', f_X9_pass N b 3 48 D = some (j, D') ∧ f_X6_wealth 3 (nI o) D' = some (v, D') ∧ f_X11_atLast N (nI o) Y = some (v, Y') ∧ FT 3 D D' ∧ FY Y Y' := by
  obtain ⟨j, D', Y', e1, e2, e3, e4, e5, e6⟩ := tq_pass (k := 48) hN hg (by omega) hq h
  obtain ⟨v, v1, v2⟩ := tq_w e4 ho
  refine ⟨v, nI j, D', Y', e2, v1, ?_, e5, e6⟩
  unfold f_X11_atLast
  have e3' : f_X11_goes N 48 Y = some (nI j, Y') := e3
  rw [e3', cal_some, v2]
  rfl
theorem we_rel {o : Nat} {C D : CM} {X Y : XM} (hN : 2000 ≤ N) (hH : HereR C X n) (hb : C.2 2 0 1 < 4) (ho : o < 8) (hD : FT 3 C D) (hY : Y.1 2 = X.1 2) (hXB : XB X Y) : ∃ v D' Y', f_X10_wealthAtEnd N (nI o) D = some (v, D') ∧ f_X11_atLast N (nI o) Y = some (v, Y') ∧ FT 3 C D' ∧ XB X Y' := by
  obtain ⟨q, D1, hq, q1, e1, f1, t1, -, -⟩ := tq_start (hb_of hH) hD hY
  obtain ⟨v, j, D', Y', a1, a2, a3, a4, a5⟩ := atLast_rel hN (by omega) hq ho t1
  refine ⟨v, D', Y', ?_, a3, f1.trans a4, xb_fy hXB a5⟩
  unfold f_X10_wealthAtEnd
  rw [e1, cal_some, f1.1, ldR_lt hb, a1, cal_some, a2, cal_some]
  rfl
end TRI
