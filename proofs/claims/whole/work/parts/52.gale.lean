/-! A gale: the parts, and the whole of it. -/
theorem pk_r2 {a d : Nat} (ha : a < 2147483648) (h0 : 0 < d) (hd : d < 2147483648) : nI a - nI (a / d) * nI d = nI (a % d) := by
  rw [← pk_div ha h0 hd]
  exact pk_rem ha h0 hd
theorem pk_r3 {a d : Nat} (ha : a < 2147483648) (h0 : 0 < d) (hd : d < 2147483648) : nI a - nI (a / d * d) = nI (a % d) := by
  rw [← pk_mul]
  exact pk_r2 ha h0 hd
section GAL2
variable {N b r G : Nat} {B : Nat → Nat → Int32} {s th : Nat → Int32} {n : BN} {C0 : CM} {X0 : XM}
theorem give_rel {O : Nat} {C : CM} {X : XM} {K : Int32 → XM → Option (Int32 × XM)} {a5 : Int32} (hN : 2000 ≤ N) (hO : 1 ≤ O) (hO8 : O ≤ 8) (hX : X.1 2 2 = nI O) (hr : ∀ o, o < O → C.1 8 0 2 o = X.1 8 o) :
    ∃ g, g < O ∧ f_X9_giveToGreatestRest N (nI O) C = some (0, stC (stC C 8 0 1 g (C.1 8 0 1 g + 1)) 8 0 2 g (-1)) ∧ f_X11_blows_269 N K a5 N 0 1 X = K (a5 - 1) (stX (stX X 7 g (X.1 7 g + 1)) 8 g (-1)) := by
  unfold f_X9_giveToGreatestRest
  refine loop2 (fun m i q => f_X9_giveToGreatestRest_4 N (nI O) m q i C) (fun m i q => f_X11_blows_269 N K a5 m q i X) (fun k q q' => ∃ g, g < O ∧ q = nI g ∧ q' = nI g) (fun y z => ∃ g, g < O ∧ y = some (0, stC (stC C 8 0 1 g (C.1 8 0 1 g + 1)) 8 0 2 g (-1)) ∧ z = K (a5 - 1) (stX (stX X 7 g (X.1 7 g + 1)) 8 g (-1))) O ?_ ?_ (O - 1) 1 N N 0 0 (by omega) (by omega) (by omega) ⟨0, by omega, rfl, rfl⟩
  · rintro m m' k q q' hk ⟨g, hg, rfl, rfl⟩
    refine Or.inl ?_
    have c1 := hr k hk
    have c2 := hr g hg
    rw [f_X9_giveToGreatestRest_4, f_X11_blows_269]
    simp (disch := omega) only [le_nn, if_neg, ldA_l, hX, ldA_nI, c1, c2, nI_al]
    by_cases h : X.1 8 k ≤ X.1 8 g
    · rw [if_pos h, if_pos h]
      exact ⟨nI g, nI g, rfl, rfl, g, hg, rfl, rfl⟩
    · rw [if_neg h, if_neg h]
      exact ⟨nI k, nI k, rfl, rfl, k, hk, rfl, rfl⟩
  · rintro m m' q q' ⟨g, hg, rfl, rfl⟩
    refine ⟨g, hg, ?_, ?_⟩
    · simp (disch := omega) only [f_X9_giveToGreatestRest_4, le_nn, if_pos, ldA_nI, stA_nI, rt]
    · simp (disch := omega) only [f_X11_blows_269, le_nn, if_pos, ldA_nI, ldA_l, hX, sxA_nI]
/-- parts and rests on both sides -/
def PRI (b r : Nat) (B : Nat → Nat → Int32) (s th : Nat → Int32) (C0 : CM) (X0 : XM) (G O : Nat) (C1 : CM) (X1 : XM) (i : Nat) (C : CM) (X : XM) : Prop :=
  WI b r B s th C0 X0 C X ∧ Rng G (C.1 4 r) ∧ KpR r C1 C X1 X ∧ ∀ o, o < O → (∃ v, v ≤ 7200 + i ∧ C.1 8 0 1 o = nI v ∧ X.1 7 o = nI v) ∧ C.1 8 0 2 o = X.1 8 o
theorem rest_rel {C1 : CM} {X1 : XM} {q : Nat} (hN : 2000 ≤ N) (hB : BankR B s n) (hO : 1 ≤ n.2.2.1) (hq : q ≤ 72) : ∀ (e i fu fu' : Nat) (C : CM) (X : XM), i + e = q → e < fu → e < fu' → PRI b r B s th C0 X0 G n.2.2.1 C1 X1 i C X →
    ∃ C' X', f_X9_share_145 N b (nI q) fu (nI i) C = some (0, C') ∧ f_X11_blows_258 N fu' (nI e) X = f_X11_blows_335 N N 0 X' ∧ PRI b r B s th C0 X0 G n.2.2.1 C1 X1 q C' X' := by
  obtain ⟨bw, bh, bO, bT⟩ := bk_bd hB
  intro e
  induction e with
  | zero =>
    intro i fu fu' C X h1 h2 h3 hP
    obtain ⟨m, rfl⟩ : ∃ m, fu = m + 1 := ⟨fu - 1, by omega⟩
    obtain ⟨m', rfl⟩ : ∃ m', fu' = m' + 1 := ⟨fu' - 1, by omega⟩
    have : i = q := by omega
    subst this
    refine ⟨C, X, ?_, ?_, hP⟩
    · simp (disch := omega) only [f_X9_share_145, le_nn, if_pos, rt]
    · rw [f_X11_blows_258, if_pos (by decide)]
  | succ e ih =>
    intro i fu fu' C X h1 h2 h3 hP
    obtain ⟨m, rfl⟩ : ∃ m, fu = m + 1 := ⟨fu - 1, by omega⟩
    obtain ⟨m', rfl⟩ : ∃ m', fu' = m' + 1 := ⟨fu' - 1, by omega⟩
    obtain ⟨hW, hR, hK, hp⟩ := hP
    have c1 : C.1 3 b 6 0 = nI n.2.2.1 := (congrFun (congrFun hW.1 6) 0).trans (bk_o hB).1
    have x1 : X.1 2 2 = nI n.2.2.1 := (hW.2.1 2 (by omega)).trans (bk_o hB).2
    obtain ⟨g, hg, g1, g2⟩ := give_rel (K := fun z5 c => f_X11_blows_258 N m' z5 c) (a5 := nI (e + 1)) hN hO bO x1 (fun o ho => (hp o ho).2)
    obtain ⟨⟨v, hv, v1, v2⟩, -⟩ := hp g hg
    rw [v1, nI_al] at g1
    rw [v2, nI_al, nI_sl (by omega)] at g2
    have hP' : PRI b r B s th C0 X0 G n.2.2.1 C1 X1 (i + 1) (stC (stC C 8 0 1 g (nI (v + 1))) 8 0 2 g (-1)) (stX (stX X 7 g (nI (v + 1))) 8 g (-1)) := by
      refine ⟨wi_x (wi_x (wi_c8 (wi_c8 hW)) (by omega)) (by omega), rng_c (rng_c hR (by omega)) (by omega), kp_x (kp_x (kp_c (kp_c hK (by omega)) (by omega)) (by omega)) (by omega), ?_⟩
      intro o ho
      obtain ⟨⟨u, hu, u1, u2⟩, u3⟩ := hp o ho
      rw [stC_row (j' := 1) (by omega), stC_if, stC_if, stX_row (j' := 7) (by omega), stX_if, stX_if, stC_row (by omega), stX_row (by omega)]
      by_cases h : o = g
      · rw [if_pos h, if_pos h, if_pos h, if_pos h]
        exact ⟨⟨v + 1, by omega, rfl, rfl⟩, rfl⟩
      · rw [if_neg h, if_neg h, if_neg h, if_neg h]
        exact ⟨⟨u, by omega, u1, u2⟩, u3⟩
    obtain ⟨C', X', a1, a2, a3⟩ := ih (i + 1) m m' _ _ (by omega) (by omega) (by omega) hP'
    refine ⟨C', X', ?_, ?_, a3⟩
    · simp (disch := omega) only [f_X9_share_145, le_nn, if_neg, c1, g1, cal_some, nI_al, a1]
    · rw [f_X11_blows_258, if_neg (by simp (disch := omega) only [le_nl]; omega), g2]
      exact a2
theorem parts_rel {C : CM} {X : XM} {p : Nat} {fac : Int32} (hN : 2000 ≤ N) (hB : BankR B s n) (hG : G ≤ 1000000000) (hO : 1 ≤ n.2.2.1) (hp : p ≤ 72) (hW : WI b r B s th C0 X0 C X) (hR : Rng G (C.1 4 r)) (hfac : X.1 0 28 = fac) :
    GaleQ b r B s th C0 X0 G C X (cal (f_X9_share_46 N b fac (nI p) (nI (shN fac (sv B) n.2.2.1)) N (nI p) 0 C) (fun _ C4 => cal (f_X9_payPacts N b C4) (fun _ C6 => f_X9_gale_137 N b r N 0 C6))) (f_X11_blows_156 N (nI p) (nI (shN fac (sv B) n.2.2.1)) N (nI p) 0 X) := by
  obtain ⟨bw, bh, bO, bT⟩ := bk_bd hB
  have hS8 := shN_le (m := fac) (v := sv B) (O := n.2.2.1) (fun o ho => (sv_ok hB ho).2.2.2) n.2.2.1 (Nat.le_refl _)
  generalize hS : shN fac (sv B) n.2.2.1 = S at hS8 ⊢
  refine loop2 (fun m i (q : Int32 × CM) => f_X9_share_46 N b fac (nI p) (nI S) m q.1 i q.2) (fun m i (q : Int32 × XM) => f_X11_blows_156 N (nI p) (nI S) m q.1 i q.2)
    (fun k q q' => WI b r B s th C0 X0 q.2 q'.2 ∧ Rng G (q.2.1 4 r) ∧ KpR r C q.2 X q'.2 ∧ q'.2.1 0 28 = fac ∧ (∃ t, t ≤ 7200 * k ∧ q.1 = nI p - nI t ∧ q'.1 = nI p - nI t) ∧ ∀ o, o < k → (∃ v, v ≤ 7200 ∧ q.2.1 8 0 1 o = nI v ∧ q'.2.1 7 o = nI v) ∧ q.2.1 8 0 2 o = q'.2.1 8 o)
    (fun y z => GaleQ b r B s th C0 X0 G C X (cal y (fun _ C4 => cal (f_X9_payPacts N b C4) (fun _ C6 => f_X9_gale_137 N b r N 0 C6))) z) n.2.2.1 ?_ ?_ n.2.2.1 0 N N (nI p, C) (nI p, X) (by omega) (by omega) (by omega)
    ⟨hW, hR, KpR.rf C X, hfac, ⟨0, by omega, (Int32.sub_zero _).symm, (Int32.sub_zero _).symm⟩, fun o ho => by omega⟩
  · rintro m m' k ⟨a, D⟩ ⟨a', Y⟩ hk ⟨w, hr, hK, h28, ⟨t, ht, ha, ha'⟩, hpr⟩
    refine Or.inl ?_
    dsimp only at w hr hK h28 ha ha' hpr ⊢
    subst ha ha'
    obtain ⟨s1, s2, s3, s4⟩ := sv_ok hB hk
    have c1 : D.1 3 b 6 0 = nI n.2.2.1 := (congrFun (congrFun w.1 6) 0).trans (bk_o hB).1
    have c2 : D.1 3 b 10 k = nI (sv B k) := (congrFun (congrFun w.1 10) k).trans s1
    have x1 : Y.1 2 2 = nI n.2.2.1 := (w.2.1 2 (by omega)).trans (bk_o hB).2
    have x2 : Y.1 2 (23 + k) = nI (sv B k) := (w.2.1 _ (by omega)).trans s2
    rw [f_X9_share_46, f_X11_blows_156]
    have eb : (fac >>> (nI k &&& 31) &&& 1) = bt fac k := rfl
    rcases bt01 fac k with hb | hb
    · simp (disch := omega) only [c1, le_nn, if_neg, stA_nI, ldA_l, x1, h28, bitOf_eq, cal_some, nI_al, hb, eb, i01, if_false, if_true, f_X11_blows_208, f_X11_blows_239, sxA_nI, ldA_nI, stX_row, stX_at, Int32.sub_zero]
      refine ⟨(nI p - nI t, stC (stC D 8 0 1 k 0) 8 0 2 k (-1)), (nI p - nI t, stX (stX Y 7 k 0) 8 k (-1)), rfl, rfl, wi_x (wi_x (wi_c8 (wi_c8 w)) (by omega)) (by omega), rng_c (rng_c hr (by omega)) (by omega), kp_x (kp_x (kp_c (kp_c hK (by omega)) (by omega)) (by omega)) (by omega), ?_, ⟨t, by omega, rfl, rfl⟩, ?_⟩
      · rw [stX_row (by omega), stX_row (by omega)]
        exact h28
      · intro o ho
        dsimp only
        rw [stC_row (j' := 1) (by omega), stC_if, stC_if, stX_row (j' := 7) (by omega), stX_if, stX_if, stC_row (by omega), stX_row (by omega)]
        by_cases h : o = k
        · rw [if_pos h, if_pos h, if_pos h, if_pos h]
          exact ⟨⟨0, by omega, rfl, rfl⟩, rfl⟩
        · rw [if_neg h, if_neg h, if_neg h, if_neg h]
          exact hpr o (by omega)
    · have hS1 : 1 ≤ S := by
        have := shN_ge (v := sv B) hb n.2.2.1 hk
        omega
      have hps : p * sv B k ≤ 72 * 99 := Nat.mul_le_mul hp s4
      have hdv : p * sv B k / S ≤ p * sv B k := Nat.div_le_self _ _
      have hS0 : decide (nI S ≠ 0) = true := by
        rw [decide_eq_true_eq]
        simp (disch := omega) only [ne_eq, eq_nl]
        omega
      simp (disch := omega) only [c1, le_nn, if_neg, if_pos, stA_nI, ldA_l, x1, h28, bitOf_eq, cal_some, nI_al, hb, eb, i10, if_false, if_true, f_X11_blows_208, f_X11_blows_239, sxA_nI, ldA_nI, stX_row, stX_at, le_nl, nI_la, x2, stC_ob, c2, hS0, chk_t, pk_mul, pk_div, pk_r2, pk_r3, stC_row, stC_at, Int32.sub_sub, nI_add]
      refine ⟨(nI p - nI (t + p * sv B k / S), stC (stC (stC (stC D 8 0 1 k 0) 8 0 2 k (-1)) 8 0 1 k (nI (p * sv B k / S))) 8 0 2 k (nI (p * sv B k % S))), (nI p - nI (t + p * sv B k / S), stX (stX Y 7 k (nI (p * sv B k / S))) 8 k (nI (p * sv B k % S))), rfl, rfl, wi_x (wi_x (wi_c8 (wi_c8 (wi_c8 (wi_c8 w)))) (by omega)) (by omega), rng_c (rng_c (rng_c (rng_c hr (by omega)) (by omega)) (by omega)) (by omega), kp_x (kp_x (kp_c (kp_c (kp_c (kp_c hK (by omega)) (by omega)) (by omega)) (by omega)) (by omega)) (by omega), ?_, ⟨t + p * sv B k / S, by omega, rfl, rfl⟩, ?_⟩
      · rw [stX_row (by omega), stX_row (by omega)]
        exact h28
      · intro o ho
        dsimp only
        simp (disch := omega) only [stC_row, stC_if, stX_row, stX_if]
        by_cases h : o = k
        · simp only [if_pos h]
          exact ⟨⟨_, by omega, rfl, rfl⟩, trivial⟩
        · simp only [if_neg h]
          exact hpr o (by omega)
  · rintro m m' ⟨a, D⟩ ⟨a', Y⟩ ⟨w, hr, hK, h28, ⟨t, ht, ha, ha'⟩, hpr⟩
    dsimp only at w hr hK h28 ha ha' hpr ⊢
    subst ha ha'
    have c1 : D.1 3 b 6 0 = nI n.2.2.1 := (congrFun (congrFun w.1 6) 0).trans (bk_o hB).1
    have x1 : Y.1 2 2 = nI n.2.2.1 := (w.2.1 2 (by omega)).trans (bk_o hB).2
    rw [f_X9_share_46, f_X11_blows_156]
    simp (disch := omega) only [c1, le_nn, if_pos, ldA_l, x1]
    have hP : PRI b r B s th C0 X0 G n.2.2.1 C X 0 D Y := ⟨w, hr, hK, hpr⟩
    have fin : ∀ C' X', PRI b r B s th C0 X0 G n.2.2.1 C X 72 C' X' → GaleQ b r B s th C0 X0 G C X (cal (f_X9_payPacts N b C') (fun _ C6 => f_X9_gale_137 N b r N 0 C6)) (f_X11_blows_335 N N 0 X') := by
      rintro C' X' ⟨w', hr', hK', hpr'⟩
      refine GaleQ.wk hK' (pay_rel (pt := fun o => (C'.1 8 0 1 o).toNatClampNeg) hN hB hG w' hr' (fun o ho => ?_))
      obtain ⟨⟨v, v1, v2, v3⟩, -⟩ := hpr' o ho
      rw [v2, nI_clamp (by omega)]
      exact ⟨by omega, rfl, v3⟩
    by_cases htp : t ≤ p
    · rw [pk_sub htp]
      obtain ⟨C', X', a1, a2, a3⟩ := rest_rel hN hB hO (show p - t ≤ 72 by omega) (p - t) 0 N N D Y (by omega) (by omega) (by omega) hP
      have a1' : f_X9_share_145 N b (nI (p - t)) N 0 D = some (0, C') := a1
      rw [a1', a2, cal_some]
      refine fin C' X' ⟨a3.1, a3.2.1, a3.2.2.1, fun o ho => ?_⟩
      obtain ⟨⟨v, v1, v2, v3⟩, v4⟩ := a3.2.2.2 o ho
      exact ⟨⟨v, by omega, v2, v3⟩, v4⟩
    · have hneg : nI p - nI t ≤ 0 := by
        rw [Int32.le_iff_toInt_le, pk_sub_toInt (by omega) (by omega)]
        have : (0 : Int32).toInt = 0 := by decide
        omega
      obtain ⟨m1, hm1⟩ : ∃ m1, N = m1 + 1 := ⟨N - 1, by omega⟩
      have a1 : f_X9_share_145 N b (nI p - nI t) N 0 D = some (0, D) := by
        have : ∀ m1, f_X9_share_145 N b (nI p - nI t) (m1 + 1) 0 D = some (0, D) := fun m1 => by rw [f_X9_share_145, if_pos hneg]; rfl
        rw [hm1] at this ⊢
        exact this m1
      have a2 : f_X11_blows_258 N N (nI p - nI t) Y = f_X11_blows_335 N N 0 Y := by
        have : ∀ m1, f_X11_blows_258 N (m1 + 1) (nI p - nI t) Y = f_X11_blows_335 N N 0 Y := fun m1 => by rw [f_X11_blows_258, if_pos hneg]
        rw [hm1] at this ⊢
        exact this m1
      rw [a1, a2, cal_some]
      refine fin D Y ⟨w, hr, hK, fun o ho => ?_⟩
      obtain ⟨⟨v, v1, v2, v3⟩, v4⟩ := hpr o ho
      exact ⟨⟨v, by omega, v2, v3⟩, v4⟩
theorem share_eq {C : CM} {fac P : Int32} (hN : 2000 ≤ N) (hB : BankR B s n) (hC : C.1 3 b = B) : f_X9_share N b fac P C = f_X9_share_46 N b fac P (nI (shN fac (sv B) n.2.2.1)) N P 0 C := by
  obtain ⟨bw, bh, bO, bT⟩ := bk_bd hB
  unfold f_X9_share
  have c1 : C.1 3 b 6 0 = nI n.2.2.1 := (congrFun (congrFun hC 6) 0).trans (bk_o hB).1
  refine loop_0st (fun m i a => f_X9_share_6 N b fac P m a i C) (fun k => nI (shN fac (sv B) k)) n.2.2.1 _ (fun m k hk => ?_) (fun m => ?_) (by omega)
  · obtain ⟨s1, s2, s3, s4⟩ := sv_ok hB hk
    have c2 : C.1 3 b 10 k = nI (sv B k) := (congrFun (congrFun hC 10) k).trans s1
    have eb : (fac >>> (nI k &&& 31) &&& 1) = bt fac k := rfl
    simp (disch := omega) only [f_X9_share_6, c1, le_nn, if_neg, ldA_nI, c2, nI_al, eb]
    have e : nI (shN fac (sv B) k) + bt fac k * nI (sv B k) = nI (shN fac (sv B) (k + 1)) := by
      show _ = nI (shN fac (sv B) k + (if bt fac k = 1 then sv B k else 0))
      rcases bt01 fac k with hb | hb
      · rw [hb, if_neg (by decide), Int32.zero_mul, Int32.add_zero]
        rfl
      · rw [hb, if_pos rfl, Int32.one_mul, nI_add]
    rw [e]
  · simp (disch := omega) only [f_X9_share_6, c1, le_nn, if_pos]
theorem gale_rel {d f : Nat} {C : CM} {X : XM} (hN : 2000 ≤ N) (hB : BankR B s n) (hT : ThingR n s (fun k => s (429 + k)) (fun c => s (441 + c)) th) (hd : d < 8) (hf : f < 10) (hG : G ≤ 1000000000) (hW : WI b r B s th C0 X0 C X) (hR : Rng G (C.1 4 r)) :
    ∃ C' X', f_X9_gale N b r (nI d) (nI f) C = some (0, C') ∧ f_X11_blows N (nI d) (nI f) X = some (0, X') ∧ WI b r B s th C0 X0 C' X' ∧ Rng (G + 100000) (C'.1 4 r) ∧ C'.1 4 r 0 4 = nI d ∧ X'.1 2 541 = nI (d + 1) ∧ C'.1 4 r 0 0 = C.1 4 r 0 0 ∧ (∀ j, (j = 2 ∨ j = 3 ∨ j = 5) → C'.1 4 r j = C.1 4 r j) ∧ (∀ o, o < 8 → C'.1 4 r 4 o = ptN n B th (C.1 4 r) d f o) := by
  obtain ⟨bw, bh, bO, bT⟩ := bk_bd hB
  have hcO := bk_cnt hB
  obtain ⟨fac, D0, Y0, e1, e2, h28, w0, r0, l0, j0, p0, z0⟩ := turn_rel hN hB hT hd hf hW hR
  unfold f_X9_gale f_X11_blows
  rw [e1, e2, cal_some, cal_some, bnd_v]
  have w1 := wi_lC (v := nI d) w0
  have r1 : Rng G ((stC D0 4 r 0 4 (nI d)).1 4 r) := rng_c r0 (by omega)
  have Q : GaleQ b r B s th C0 X0 G (stC D0 4 r 0 4 (nI d)) Y0 (f_X9_gale_22 N b r (nI f) fac N 0 0 (stC D0 4 r 0 4 (nI d))) (f_X11_blows_14 N (nI f) N 0 0 0 Y0) := by
    generalize stC D0 4 r 0 4 (nI d) = D1 at w1 r1 ⊢
    refine loop2 (fun m i (q : Int32 × CM) => f_X9_gale_22 N b r (nI f) fac m q.1 i q.2) (fun m i (q : Int32 × Int32 × XM) => f_X11_blows_14 N (nI f) m q.1 q.2.1 i q.2.2)
      (fun k q q' => WI b r B s th C0 X0 q.2 q'.2.2 ∧ Rng G (q.2.1 4 r) ∧ KpR r D1 q.2 Y0 q'.2.2 ∧ q'.2.2.1 0 28 = fac ∧ (∃ t, t ≤ 9 * k ∧ q.1 = nI t ∧ q'.1 = nI t) ∧ q'.2.1 = nI (shN fac (sv B) k))
      (fun y z => GaleQ b r B s th C0 X0 G D1 Y0 y z) n.2.2.1 ?_ ?_ n.2.2.1 0 N N (0, D1) (0, 0, Y0) (by omega) (by omega) (by omega) ⟨w1, r1, KpR.rf _ _, h28, ⟨0, by omega, rfl, rfl⟩, rfl⟩
    · rintro m m' k ⟨a, D⟩ ⟨a3, a4, Y⟩ hk ⟨w, hr, hK, h28, ⟨t, ht, ha, ha'⟩, h4⟩
      refine Or.inl ?_
      dsimp only at w hr hK h28 ha ha' h4 ⊢
      subst ha ha' h4
      obtain ⟨s1, s2, s3, s4⟩ := sv_ok hB hk
      obtain ⟨⟨g, hg, hg1⟩, -⟩ := hr k (by omega)
      have hS := wi_S w
      have c1 : D.1 3 b 6 0 = nI n.2.2.1 := (congrFun (congrFun w.1 6) 0).trans (bk_o hB).1
      have x1 : Y.1 2 2 = nI n.2.2.1 := (w.2.1 2 (by omega)).trans (bk_o hB).2
      have x2 : Y.1 2 (23 + k) = nI (sv B k) := (w.2.1 _ (by omega)).trans s2
      have x3 : Y.1 2 (373 + k) = nI g := (hS.1 1 k (by omega) (by omega) (by omega)).symm.trans hg1
      have x4 : D.1 4 r 6 k = Y.1 2 (413 + k) := hS.1 6 k (by omega) (by omega) (by omega)
      have eb : (fac >>> (nI k &&& 31) &&& 1) = bt fac k := rfl
      rw [f_X9_gale_22, f_X11_blows_14]
      rcases bt01 fac k with hb | hb
      · have hmin : min f g ≤ f := Nat.min_le_left _ _
        have hmin2 : min f g ≤ g := Nat.min_le_right _ _
        simp (disch := omega) only [c1, le_nn, if_neg, ldA_l, x1, h28, bitOf_eq, cal_some, hb, eb, if_true, ldA_nI, hg1, imin_nn, pk_sub, stA_nI, stC_row, x4, nI_add, nI_al, nI_la, x3, f_X11_blows_85, sxA_nI, stX_ne]
        refine ⟨(nI (t + min f g), stC (stC D 4 r 1 k (nI (g - min f g))) 4 r 6 k (Y.1 2 (413 + k) + nI (min f g))), (nI (t + min f g), nI (shN fac (sv B) k), stX (stX Y 2 (373 + k) (nI (g - min f g))) 2 (413 + k) (Y.1 2 (413 + k) + nI (min f g))), rfl, ?_, wi_pair (wi_pair w (by omega) (by omega) (by omega) (by omega)) (by omega) (by omega) (by omega) (by omega), rng_c (rng_g hr (by omega)) (by omega), kp_x (kp_x (kp_c (kp_c hK (by omega)) (by omega)) (by omega)) (by omega), ?_, ⟨_, by omega, rfl, rfl⟩, ?_⟩
        · dsimp only
          by_cases h : f ≤ g
          · rw [if_pos h, Nat.min_eq_left h]
          · rw [if_neg h, Nat.min_eq_right (by omega)]
        · rw [stX_row (by omega), stX_row (by omega)]
          exact h28
        · show _ = nI (shN fac (sv B) k + (if bt fac k = 1 then sv B k else 0))
          rw [hb, if_neg (by decide)]
          rfl
      · simp (disch := omega) only [c1, le_nn, if_neg, ldA_l, x1, h28, bitOf_eq, cal_some, hb, eb, i10, if_false, ldA_nI, nI_al, nI_la, x2, nI_add]
        refine ⟨(nI t, D), (nI t, nI (shN fac (sv B) k + sv B k), Y), rfl, rfl, w, hr, hK, h28, ⟨t, by omega, rfl, rfl⟩, ?_⟩
        show _ = nI (shN fac (sv B) k + (if bt fac k = 1 then sv B k else 0))
        rw [if_pos hb]
    · rintro m m' ⟨a, D⟩ ⟨a3, a4, Y⟩ ⟨w, hr, hK, h28, ⟨t, ht, ha, ha'⟩, h4⟩
      dsimp only at w hr hK h28 ha ha' h4 ⊢
      subst ha ha' h4
      have c1 : D.1 3 b 6 0 = nI n.2.2.1 := (congrFun (congrFun w.1 6) 0).trans (bk_o hB).1
      have x1 : Y.1 2 2 = nI n.2.2.1 := (w.2.1 2 (by omega)).trans (bk_o hB).2
      rw [f_X9_gale_22, f_X11_blows_14]
      simp (disch := omega) only [c1, le_nn, if_pos, ldA_l, x1, h28]
      by_cases hf0 : fac = 0
      · rw [if_pos hf0, if_pos hf0]
        have x5 : D.1 4 r 0 1 = Y.1 2 372 := (wi_S w).2.1
        simp (disch := omega) only [bnd_v, rt, sxA_l, x5]
        refine ⟨_, _, rfl, rfl, wi_sc w (by omega), ?_, kp_x (kp_c hK (by omega)) (by omega)⟩
        intro o ho
        obtain ⟨⟨v, v1, v2⟩, h⟩ := (rng_c (k := 4) (i := r) (j := 0) (x := 1) (v := Y.1 2 372 + nI t) hr (by omega) : Rng G _) o ho
        exact ⟨⟨v, by omega, v2⟩, h⟩
      · rw [if_neg hf0, if_neg hf0, share_eq hN hB w.1]
        have hO : 1 ≤ n.2.2.1 := by
          by_cases h : n.2.2.1 = 0
          · exact absurd (z0 h) hf0
          · omega
        exact GaleQ.wk hK (parts_rel hN hB hG hO (by omega) w hr h28)
  obtain ⟨C', X', q1, q2, q3, q4, q5⟩ := Q
  refine ⟨C', X', q1, q2, q3, q4, ?_, q5.2.2.trans l0, ?_, fun j hj => ?_, fun o ho => ?_⟩
  · rw [q5.2.1 4 (by omega)]
    exact stC_at
  · rw [q5.2.1 0 (by omega), stC_ne (by omega), j0 0 (by omega)]
  · rw [q5.1 j (by omega) (by omega), stC_row (by omega), j0 j (by omega)]
  · rw [q5.1 4 (by omega) (by omega), stC_row (by omega)]
    exact p0 o ho
end GAL2
