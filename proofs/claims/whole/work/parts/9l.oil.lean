/-! The reference's trial of an oiling. -/
section OIL2
variable {N : Nat} {n : BN} {B : Nat → Nat → Int32} {b : Nat}
/-- an oiling in the state of trial -/
theorem tq_oil {g q o : Nat} {D : CM} {Y : XM} (h : TQ n b B g q D Y) (ho : o < n.2.2.1) : TQ n b B g q (stC (stC D 4 3 5 o 0) 4 3 3 o 0) (stX (stX Y 2 (405 + o) 0) 2 (389 + o) 0) ∧ FY Y (stX (stX Y 2 (405 + o) 0) 2 (389 + o) 0) := by
  obtain ⟨hB, hT, hW, h2, h3, h4⟩ := h
  have bd := bk_bd hB
  have hcO := bk_cnt hB
  have w := wi_pair (j := 5) (o := o) (y := 405 + o) (v := 0) hW (by omega) (by omega) (by omega) (by omega)
  have w' := wi_pair (j := 3) (o := o) (y := 389 + o) (v := 0) w (by omega) (by omega) (by omega) (by omega)
  refine ⟨tq_re hB hT ⟨w', ?_, ?_, ?_⟩, fy_st (fy_st (FY.rf Y) (by omega)) (by omega)⟩
  · intro o' ho'
    obtain ⟨r1, r2, r3, r4⟩ := h2 o' ho'
    have e1 : (stC (stC D 4 3 5 o 0) 4 3 3 o 0).1 4 3 1 o' = D.1 4 3 1 o' := by rw [stC_row (by omega), stC_row (by omega)]
    have e3 : (stC (stC D 4 3 5 o 0) 4 3 3 o 0).1 4 3 3 o' = if o' = o then 0 else D.1 4 3 3 o' := by rw [stC_if, stC_row (by omega)]
    have e4 : (stC (stC D 4 3 5 o 0) 4 3 3 o 0).1 4 3 4 o' = D.1 4 3 4 o' := by rw [stC_row (by omega), stC_row (by omega)]
    have e5 : (stC (stC D 4 3 5 o 0) 4 3 3 o 0).1 4 3 5 o' = if o' = o then 0 else D.1 4 3 5 o' := by rw [stC_row (by omega), stC_if]
    rw [e1, e3, e4, e5]
    by_cases e : o' = o
    · rw [if_pos e, if_pos e]
      exact ⟨r1, ⟨0, by omega, rfl⟩, r3, ⟨0, by omega, rfl⟩⟩
    · rw [if_neg e, if_neg e]
      exact ⟨r1, r2, r3, r4⟩
  · rw [stC_row (by omega), stC_row (by omega)]
    exact h3
  · obtain ⟨l, l1, l2, l3⟩ := h4
    refine ⟨l, l1, ?_, ?_⟩
    · rw [stX_ne (by omega), stX_ne (by omega)]
      exact l2
    · rw [stC_row (by omega), stC_row (by omega)]
      exact l3
theorem fy_bg {X Y : XM} (h : BgF X Y) : FY X Y := by
  refine ⟨h.1, fun j x _ _ _ a => ?_⟩
  by_cases e : j = 2
  · subst e
    exact h.2.2 x (by omega)
  · rw [h.2.1 j e]
theorem tq_begin {X : XM} (hN : 2000 ≤ N) (C : CM) (hb : C.1 3 b = B) (hB : BankR B (X.1 2) n) : ∃ D Y, f_X11_begins N X = some (0, Y) ∧ FY X Y ∧ TQ n b B 1000 0 D Y ∧ D.1 4 3 8 = B 1 ∧ ∀ o, o < 8 → D.1 4 3 3 o = B 11 o ∧ D.1 4 3 4 o = B 12 o ∧ D.1 4 3 5 o = 0 := by
  have bd := bk_bd hB
  obtain ⟨Y, y1, y2, y3⟩ := begins_eq (X := X) hN bd.2.2.1 bd.2.2.2 (bk_o hB).2 (bk_t hB).2
  obtain ⟨D, -, d2, d3, d4⟩ := beginC_eq (N := N) (r := 3) (b := b) C hN
  rw [hb] at d4
  have hS := begin_st hB d4
  have hBY : BankR B (Y.1 2) n := bankR_congr hB (fun x hx => y2.2.2 x (by omega))
  have hSY : StateR n (Y.1 2) (D.1 4 3) (fun x => Y.1 2 (371 + x)) := stateR_congr ⟨bd.2.2.1, bd.2.2.2⟩ hS (fun x hx => y2.2.2 x (by omega)) (fun _ _ _ => rfl) (fun x hx => y3 x hx)
  have hD : D.1 3 b = B := (d3 3 b (by omega)).trans hb
  obtain ⟨p1, p2, p3, p4, p5, p6, p7, p8⟩ := d4
  refine ⟨D, Y, y1, fy_bg y2, ⟨hBY, sh_th hSY, qi_of hD hSY p1 (by omega)⟩, p8, fun o ho => ?_⟩
  obtain ⟨q1, q2, q3, q4, q5, -⟩ := p7 o ho
  exact ⟨q3, q4, q5⟩
/-- behind i quarters of the trial -/
def OJ (n : BN) (b : Nat) (B : Nat → Nat → Int32) (o t i : Nat) (X Y : XM) : Prop := ∃ D, TQ n b B 1000 i D Y ∧ D.1 4 3 8 = B 1 ∧ (∀ p, p < 8 → D.1 4 3 5 p = 0 ∧ D.1 4 3 3 p = if p = o ∧ t < i then 0 else B 11 p) ∧ (∀ p, p < n.2.2.1 → D.1 4 3 4 p = pbV n B p (if p = o then t else 1000) i) ∧ FY X Y
theorem oj_step {o t i : Nat} {X Y : XM} (hN : 2000 ≤ N) (ho : o < n.2.2.1) (hi : i < 48) (h : OJ n b B o t i X Y) : ∃ Z Y', (if i = t then f_X11_oils (nI o) Y else some (0, Y)) = some (0, Z) ∧ f_X11_quarter N Z = some (0, Y') ∧ OJ n b B o t (i + 1) X Y' := by
  obtain ⟨D, hQ, h8, h5, h4, hF⟩ := h
  have bd := bk_bd hQ.1
  -- the oil
  obtain ⟨E, Z, z1, z2, z3, z4, z5, z6⟩ : ∃ E Z, (if i = t then f_X11_oils (nI o) Y else some (0, Y)) = some (0, Z) ∧ TQ n b B 1000 i E Z ∧ E.1 4 3 8 = B 1 ∧ (∀ p, p < 8 → E.1 4 3 5 p = 0 ∧ E.1 4 3 3 p = if p = o ∧ t ≤ i then 0 else B 11 p) ∧ (∀ p, p < n.2.2.1 → E.1 4 3 4 p = D.1 4 3 4 p) ∧ FY X Z := by
    by_cases e : i = t
    · obtain ⟨q1, q2⟩ := tq_oil hQ ho
      refine ⟨_, _, ?_, q1, ?_, fun p hp => ⟨?_, ?_⟩, fun p hp => ?_, hF.trans q2⟩
      · rw [if_pos e]
        unfold f_X11_oils
        simp (disch := omega) only [nI_la, sxA_nI, rt]
      · rw [stC_row (by omega), stC_row (by omega)]
        exact h8
      · rw [stC_row (by omega), stC_if]
        by_cases q : p = o
        · rw [if_pos q]
        · rw [if_neg q]; exact (h5 p hp).1
      · rw [stC_if, stC_row (by omega)]
        by_cases q : p = o
        · rw [if_pos q, if_pos ⟨q, by omega⟩]
        · rw [if_neg q, if_neg (fun w => q w.1), (h5 p hp).2, if_neg (fun w => q w.1)]
      · rw [stC_row (by omega), stC_row (by omega)]
    · refine ⟨D, Y, by rw [if_neg e], hQ, h8, fun p hp => ⟨(h5 p hp).1, ?_⟩, fun p _ => rfl, hF⟩
      rw [(h5 p hp).2]
      by_cases q : p = o ∧ t < i
      · rw [if_pos q, if_pos ⟨q.1, by omega⟩]
      · rw [if_neg q, if_neg (fun w => q ⟨w.1, by omega⟩)]
  obtain ⟨hB, hT, hQQ⟩ := z2
  obtain ⟨E', Y', -, a2, a3, a4, a5⟩ := quarter_rel hN hB hT (by omega) hi hQQ
  refine ⟨Z, Y', z1, a2, E', tq_re hB hT a3, ?_, fun p hp => ⟨?_, ?_⟩, fun p hp => ?_, z6.trans (fy_of a3.1.2.2.2.2.2)⟩
  · rw [a3.1.2.2.1]
    exact z3
  · rw [a4 5 (by omega)]
    exact (z4 p hp).1
  · rw [a4 3 (by omega), (z4 p hp).2]
    by_cases q : p = o ∧ t ≤ i
    · rw [if_pos q, if_pos ⟨q.1, by omega⟩]
    · rw [if_neg q, if_neg (fun w => q ⟨w.1, by omega⟩)]
  · rw [a5 p (by omega)]
    have en : pbV n B p (if p = o then t else 1000) (i + 1) = if 0 < (B 5 i).toNatClampNeg then trn (pbV n B p (if p = o then t else 1000) i).toNatClampNeg (((B 4 i).toNatClampNeg + (B 2 (B 8 p).toNatClampNeg).toNatClampNeg) % 8) (frc (B 1) n.1 n.2.1 (B 8 p).toNatClampNeg (B 4 i).toNatClampNeg (nI (B 5 i).toNatClampNeg)).toNatClampNeg (if (if p = o then t else 1000) ≤ i then 0 else (B 11 p).toNatClampNeg) else pbV n B p (if p = o then t else 1000) i := rfl
    rw [en]
    unfold ptQ ptN
    rw [z5 p hp, h4 p hp, (z4 p (by omega)).1, (z4 p (by omega)).2, z3]
    by_cases z : 0 < (B 5 i).toNatClampNeg
    · rw [if_pos z, if_pos z, if_pos ⟨hp, rfl⟩]
      congr 1
      by_cases q : p = o
      · rw [if_pos q]
        by_cases w : t ≤ i
        · rw [if_pos ⟨q, w⟩, if_pos w]; rfl
        · rw [if_neg (fun x => w x.2), if_neg w]
      · rw [if_neg (fun x => q x.1), if_neg q, if_neg (by omega)]
    · rw [if_neg z, if_neg z]
theorem are40 {u : Nat → Nat} {V : Nat} {Y : XM} (hN : 2000 ≤ N) (hV : V ≤ 8) (h2 : Y.1 2 2 = nI V) (hu : ∀ x, x < 940 → u x < 256 ∧ Y.1 1 x = byV (u x)) : ∃ f : Bool, f_X11_areOiled_40 N N 1 0 Y = some (bI f, Y) ∧ (f = true ↔ ∀ p, p < V → Y.1 2 (397 + p) = nI (u p)) := by
  have h2' : Y.1 2 (OfNat.ofNat 2) = nI V := h2
  refine loop1 (fun m i (q : Int32) => f_X11_areOiled_40 N m q i Y) (fun i q => ∃ f : Bool, q = bI f ∧ (f = true ↔ ∀ p, p < i → Y.1 2 (397 + p) = nI (u p))) (fun y => ∃ f : Bool, y = some (bI f, Y) ∧ (f = true ↔ ∀ p, p < V → Y.1 2 (397 + p) = nI (u p))) V ?_ ?_ V 0 N 1 (by omega) (by omega) ⟨true, rfl, ⟨fun _ p hp => absurd hp (Nat.not_lt_zero _), fun _ => rfl⟩⟩
  · rintro m i q hi ⟨f, rfl, hf⟩
    left
    obtain ⟨u1, u2⟩ := hu i (by omega)
    have oc := octet_eq (Y := Y) (show i < 940 by omega) u1 u2
    refine ⟨bI (f && decide (Y.1 2 (397 + i) = nI (u i))), ?_, _, rfl, ?_⟩
    · rw [f_X11_areOiled_40]
      rw [ldA_l (by decide) (by decide), h2']
      simp (disch := omega) only [f_X11_areOiled_80, f_X11_areOiled_81, le_nn, if_neg, ldA_nI, nI_al, nI_la, oc, cal_some]
      cases f
      · rw [if_pos (show bI false = (0 : Int32) from rfl)]; rfl
      · rw [if_neg (show ¬ bI true = (0 : Int32) by decide)]
        by_cases e : Y.1 2 (397 + i) = nI (u i)
        · rw [if_pos e, decide_eq_true e]; rfl
        · rw [if_neg e, decide_eq_false e]; rfl
    · rw [Bool.and_eq_true, decide_eq_true_iff, hf]
      constructor
      · intro ⟨a1, a2⟩ p hp
        by_cases e : p = i
        · rw [e]; exact a2
        · exact a1 p (by omega)
      · intro a
        exact ⟨fun p hp => a p (by omega), a i (by omega)⟩
  · rintro m q ⟨f, rfl, hf⟩
    refine ⟨f, ?_, hf⟩
    try dsimp only
    rw [f_X11_areOiled_40, ldA_l (by decide) (by decide), h2', if_pos (by rw [le_nn (by omega) (by omega)]; exact Nat.le_refl _)]
    cases f <;> rfl
theorem are_eq {u : Nat → Nat} {o t q : Nat} {X : XM} (hN : 2000 ≤ N) (C : CM) (hb : C.1 3 b = B) (hB : BankR B (X.1 2) n) (ho : o < n.2.2.1) (ht : t < 48) (hq : q ≤ 48) (hu : ∀ x, x < 940 → u x < 256 ∧ X.1 1 x = byV (u x)) : ∃ (f : Bool) (Y : XM), f_X11_areOiled N (nI o) (nI t) (nI q) X = some (bI f, Y) ∧ FY X Y ∧ (f = true ↔ ∀ p, p < n.2.2.1 → pbV n B p (if p = o then t else 1000) q = nI (u p)) := by
  have bd := bk_bd hB
  obtain ⟨D, Y0, y1, y2, y3, y4, y5⟩ := tq_begin hN C hb hB
  unfold f_X11_areOiled
  rw [y1, cal_some]
  have h0 : OJ n b B o t 0 X Y0 := ⟨D, y3, y4, fun p hp => ⟨(y5 p hp).2.2, by rw [if_neg (by omega)]; exact (y5 p hp).1⟩, fun p hp => (y5 p (by omega)).2.1, y2⟩
  refine loop1 (fun m i (Y : XM) => f_X11_areOiled_7 N (nI o) (nI t) (nI q) m i Y) (fun i Y => OJ n b B o t i X Y) (fun y => ∃ (f : Bool) (Y : XM), y = some (bI f, Y) ∧ FY X Y ∧ (f = true ↔ ∀ p, p < n.2.2.1 → pbV n B p (if p = o then t else 1000) q = nI (u p))) q ?_ ?_ q 0 N Y0 (by omega) (by omega) h0
  · rintro m i Y hi hJ
    left
    obtain ⟨Z, Y', z1, z2, z3⟩ := oj_step hN ho (show i < 48 by omega) hJ
    refine ⟨Y', ?_, z3⟩
    rw [f_X11_areOiled_7, if_neg (by rw [le_nn (by omega) (by omega)]; omega)]
    unfold f_X11_areOiled_24
    simp (disch := omega) only [eq_nn, nI_al]
    by_cases e : i = t
    · rw [if_pos e] at z1
      rw [if_pos e, z1, cal_some, z2, cal_some]
    · rw [if_neg e] at z1
      injection z1 with z1
      injection z1 with _ z1
      rw [if_neg e, z1, z2, cal_some]
  · rintro m Y ⟨E, e1, e2, e3, e4, e5⟩
    have s2 : Y.1 2 2 = nI n.2.2.1 := (bk_o e1.1).2
    obtain ⟨f, f1, f2⟩ := are40 (u := u) (Y := Y) hN bd.2.2.1 s2 (fun x hx => ⟨(hu x hx).1, by rw [e5.2 1 x (by omega) (by omega) (by omega) (by omega)]; exact (hu x hx).2⟩)
    refine ⟨f, Y, ?_, e5, ?_⟩
    · rw [f_X11_areOiled_7, if_pos (by rw [le_nn (by omega) (by omega)]; exact Nat.le_refl _)]
      exact f1
    · rw [f2]
      have hS := wi_S e1.2.2.1
      have key : ∀ p, p < n.2.2.1 → Y.1 2 (397 + p) = pbV n B p (if p = o then t else 1000) q := fun p hp => by
        rw [← e4 p hp]
        exact (hS.1 4 p (by omega) (by omega) (by omega)).symm
      exact ⟨fun a p hp => by rw [← key p hp]; exact a p hp, fun a p hp => by rw [key p hp]; exact a p hp⟩
end OIL2
