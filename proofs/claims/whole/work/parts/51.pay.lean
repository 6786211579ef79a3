/-! A gale: what the owners get. -/
section PAY
variable {N b r G : Nat} {B : Nat → Nat → Int32} {s th : Nat → Int32} {n : BN} {C0 : CM} {X0 : XM}
theorem g137_eq {C : CM} {gv gn : Nat → Nat} (hN : 2000 ≤ N) (hB : BankR B s n) (hW : WC b r B th C0 C) (hg : ∀ o, o < 8 → C.1 4 r 1 o = nI (gv o)) (h8 : ∀ o, o < n.2.2.1 → C.1 8 0 3 o = nI (gn o)) :
    ∃ C', f_X9_gale_137 N b r N 0 C = some (0, C') ∧ WC b r B th C0 C' ∧ (∀ j x, j ≠ 1 → j ≠ 7 → C'.1 4 r j x = C.1 4 r j x) ∧ (∀ o, o < 8 → C'.1 4 r 1 o = nI (gv o + if o < n.2.2.1 then gn o else 0)) ∧ (∀ o, o < 8 → C'.1 4 r 7 o = C.1 4 r 7 o + nI (if o < n.2.2.1 then gn o else 0)) := by
  obtain ⟨bw, bh, bO, bT⟩ := bk_bd hB
  have hcO := bk_cnt hB
  refine loop1 (fun m i D => f_X9_gale_137 N b r m i D) (fun k D => WC b r B th C0 D ∧ D.1 8 0 3 = C.1 8 0 3 ∧ (∀ j x, j ≠ 1 → j ≠ 7 → D.1 4 r j x = C.1 4 r j x) ∧ (∀ o, o < 8 → D.1 4 r 1 o = nI (gv o + if o < k then gn o else 0)) ∧ (∀ o, o < 8 → D.1 4 r 7 o = C.1 4 r 7 o + nI (if o < k then gn o else 0)))
    (fun y => ∃ C', y = some (0, C') ∧ WC b r B th C0 C' ∧ (∀ j x, j ≠ 1 → j ≠ 7 → C'.1 4 r j x = C.1 4 r j x) ∧ (∀ o, o < 8 → C'.1 4 r 1 o = nI (gv o + if o < n.2.2.1 then gn o else 0)) ∧ (∀ o, o < 8 → C'.1 4 r 7 o = C.1 4 r 7 o + nI (if o < n.2.2.1 then gn o else 0))) n.2.2.1 ?_ ?_ n.2.2.1 0 N C (by omega) (by omega) ⟨hW, rfl, fun _ _ _ _ => rfl, fun o ho => by rw [if_neg (by omega)]; exact hg o ho, fun o ho => by rw [if_neg (by omega)]; exact (Int32.add_zero _).symm⟩
  · rintro m k D hk ⟨w, e8, ej, e1, e7⟩
    have c1 : D.1 3 b 6 0 = nI n.2.2.1 := (congrFun (congrFun w.1 6) 0).trans (bk_o hB).1
    have c2 : D.1 8 0 3 k = nI (gn k) := (congrFun e8 k).trans (h8 k hk)
    have c3 : D.1 4 r 1 k = nI (gv k) := by rw [e1 k (by omega), if_neg (by omega)]; rfl
    have c4 : D.1 4 r 7 k = C.1 4 r 7 k := by rw [e7 k (by omega), if_neg (by omega)]; exact Int32.add_zero _
    refine Or.inl ⟨stC (stC D 4 r 1 k (nI (gv k + gn k))) 4 r 7 k (C.1 4 r 7 k + nI (gn k)), ?_, wc_st (wc_st w (by omega)) (by omega), ?_, ?_, ?_, ?_⟩
    · simp (disch := omega) only [f_X9_gale_137, c1, le_nn, if_neg, ldA_nI, stA_nI, nI_al, c2, c3, stC_row, stC_ob, nI_add, c4]
    · rw [stC_ob (by omega), stC_ob (by omega)]
      exact e8
    · intro j x h1 h7
      rw [stC_row h7, stC_row h1]
      exact ej j x h1 h7
    · intro o ho
      rw [stC_row (by omega), stC_if]
      by_cases h : o = k
      · rw [if_pos h, if_pos (by omega), h]
      · rw [if_neg h, e1 o ho]
        refine congrArg nI ?_
        split <;> split <;> omega
    · intro o ho
      rw [stC_if]
      by_cases h : o = k
      · rw [if_pos h, if_pos (by omega), h]
      · rw [if_neg h, stC_row (by omega), e7 o ho]
        refine congrArg (fun z => C.1 4 r 7 o + nI z) ?_
        split <;> split <;> omega
  · rintro m D ⟨w, e8, ej, e1, e7⟩
    have c1 : D.1 3 b 6 0 = nI n.2.2.1 := (congrFun (congrFun w.1 6) 0).trans (bk_o hB).1
    refine ⟨D, ?_, w, ej, e1, e7⟩
    simp (disch := omega) only [f_X9_gale_137, c1, le_nn, if_pos, rt]
def GI (s : Nat → Int32) (X0 X : XM) (gv : Nat → Nat) (Y : XM) (a : Nat → Nat) : Prop := WX s X0 Y ∧ (∀ x, ¬ (373 ≤ x ∧ x < 381) → ¬ (421 ≤ x ∧ x < 429) → Y.1 2 x = X.1 2 x) ∧ Y.1 7 = X.1 7 ∧ (∀ o, o < 8 → Y.1 2 (373 + o) = nI (gv o + a o)) ∧ (∀ o, o < 8 → Y.1 2 (421 + o) = X.1 2 (421 + o) + nI (a o))
theorem gets_GI {X Y : XM} {gv a : Nat → Nat} {o v : Nat} (h : GI s X0 X gv Y a) (ho : o < 8) : ∃ Y', f_X11_gets (nI o) (nI v) Y = some (0, Y') ∧ GI s X0 X gv Y' (fun x => a x + if x = o then v else 0) := by
  obtain ⟨w, eo, e7, eg, eh⟩ := h
  refine ⟨stX (stX Y 2 (373 + o) (nI (gv o + a o + v))) 2 (421 + o) (X.1 2 (421 + o) + nI (a o) + nI v), ?_, wx_st (wx_st w (by omega)) (by omega), ?_, ?_, ?_, ?_⟩
  · have c1 := eg o ho
    have c2 := eh o ho
    unfold f_X11_gets
    simp (disch := omega) only [nI_la, ldA_nI, sxA_nI, c1, nI_add, stX_ne, c2, rt]
  · intro x h1 h2
    rw [stX_ne (by omega), stX_ne (by omega)]
    exact eo x h1 h2
  · rw [stX_row (by omega), stX_row (by omega)]
    exact e7
  · intro p hp
    dsimp only
    rw [stX_ne (by omega), stX_if]
    by_cases h : p = o
    · rw [if_pos (by omega), h, if_pos rfl, Nat.add_assoc]
    · rw [if_neg (by omega), if_neg h, eg p hp]
      rfl
  · intro p hp
    dsimp only
    rw [stX_if]
    by_cases h : p = o
    · rw [if_pos (by omega), h, if_pos rfl, Int32.add_assoc, nI_add]
    · rw [if_neg (by omega), if_neg h, stX_ne (by omega), eh p hp]
      rfl
theorem gi_eq {X Y : XM} {gv a a' : Nat → Nat} (h : GI s X0 X gv Y a) (e : ∀ o, o < 8 → a o = a' o) : GI s X0 X gv Y a' := by
  obtain ⟨w, eo, e7, eg, eh⟩ := h
  exact ⟨w, eo, e7, fun o ho => by rw [← e o ho]; exact eg o ho, fun o ho => by rw [← e o ho]; exact eh o ho⟩
theorem x335_eq {X : XM} {gv pt pc : Nat → Nat} (hN : 2000 ≤ N) (hB : BankR B s n) (hW : WX s X0 X) (hp : ∀ o, o < n.2.2.1 → X.1 7 o = nI (pt o)) (hpt : ∀ o, o < n.2.2.1 → pt o ≤ 7300) (hpc : ∀ o, o < n.2.2.1 → pc o ≤ n.2.2.1 ∧ s (47 + o) = nI (pc o)) (hg : ∀ o, o < 8 → X.1 2 (373 + o) = nI (gv o)) :
    ∃ X', f_X11_blows_335 N N 0 X = some (0, X') ∧ GI s X0 X gv X' (gN pt pc n.2.2.1) := by
  obtain ⟨bw, bh, bO, bT⟩ := bk_bd hB
  refine loop1 (fun m i D => f_X11_blows_335 N m i D) (fun k D => GI s X0 X gv D (gN pt pc k)) (fun y => ∃ X', y = some (0, X') ∧ GI s X0 X gv X' (gN pt pc n.2.2.1)) n.2.2.1 ?_ ?_ n.2.2.1 0 N X (by omega) (by omega) ⟨hW, fun _ _ _ => rfl, rfl, fun o ho => by rw [hg o ho]; rfl, fun o ho => (Int32.add_zero _).symm⟩
  · intro m k D hk hD
    refine Or.inl ?_
    obtain ⟨w, eo, e7, eg, eh⟩ := hD
    have c1 : D.1 2 2 = nI n.2.2.1 := (w.1 2 (by omega)).trans (bk_o hB).2
    have c2 : D.1 2 (47 + k) = nI (pc k) := (w.1 (47 + k) (by omega)).trans (hpc k hk).2
    have c3 : D.1 7 k = nI (pt k) := (congrFun e7 k).trans (hp k hk)
    have hpk := (hpc k hk).1
    have hptk := hpt k hk
    have hle := pt3_le pt pc k
    obtain ⟨Y, y1, y2⟩ := gets_GI (v := pt k - pt3 pt pc k) (⟨w, eo, e7, eg, eh⟩ : GI s X0 X gv D (gN pt pc k)) (show k < 8 by omega)
    have hstep : ∀ K : Int32 → XM → Option (Int32 × XM), f_X11_blows_372 N K (nI k) (nI (pt3 pt pc k)) D = (if nI (pt3 pt pc k) ≤ 0 then K (nI (k + 1)) Y else ldA (Y.1 2) 845 (nI (47 + k)) (fun v5 => cal (f_X11_gets (v5 - 1) (nI (pt3 pt pc k)) Y) (fun v6 X7 => K (nI (k + 1)) X7))) := by
      intro K
      unfold f_X11_blows_372
      simp (disch := omega) only [ldA_nI, c3, pk_sub, y1, cal_some, nI_al, nI_la]
    have hcall : f_X11_blows_335 N (m + 1) (nI k) D = f_X11_blows_372 N (fun z6 c => f_X11_blows_335 N m z6 c) (nI k) (nI (pt3 pt pc k)) D := by
      rw [f_X11_blows_335]
      simp (disch := omega) only [ldA_l, c1, le_nn, if_neg, nI_la, ldA_nI, c2, c3, le_nl, nI_dl]
      unfold pt3
      by_cases h0 : pc k ≤ 0
      · rw [if_pos h0, if_neg (by omega)]
        rfl
      · rw [if_neg h0, if_pos (by omega)]
    by_cases h3 : pt3 pt pc k = 0
    · refine ⟨Y, ?_, ?_⟩
      · show f_X11_blows_335 N (m + 1) (nI k) D = f_X11_blows_335 N m (nI (k + 1)) Y
        rw [hcall, hstep, if_pos (by rw [h3]; decide)]
      · refine gi_eq y2 (fun o ho => ?_)
        rw [gN_s, h3]
        split <;> split <;> rfl
    · have hp0 : 0 < pc k := by
        unfold pt3 at h3
        by_cases h0 : 0 < pc k
        · exact h0
        · rw [if_neg h0] at h3
          exact absurd rfl h3
      have h3l : pt3 pt pc k ≤ 7300 := by omega
      obtain ⟨Z, z1, z2⟩ := gets_GI (v := pt3 pt pc k) (o := pc k - 1) y2 (by omega)
      have c4 : Y.1 2 (47 + k) = nI (pc k) := (y2.1.1 (47 + k) (by omega)).trans (hpc k hk).2
      refine ⟨Z, ?_, ?_⟩
      · show f_X11_blows_335 N (m + 1) (nI k) D = f_X11_blows_335 N m (nI (k + 1)) Z
        rw [hcall, hstep]
        simp (disch := omega) only [le_nl, if_neg, ldA_nI, c4, nI_sl, z1, cal_some]
      · refine gi_eq z2 (fun o ho => ?_)
        rw [gN_s]
        by_cases h : o = pc k - 1
        · rw [if_pos h, if_pos (show pc k = o + 1 by omega)]
        · rw [if_neg h, if_neg (show ¬ pc k = o + 1 by omega)]
  · intro m D hD
    have c1 : D.1 2 2 = nI n.2.2.1 := (hD.1.1 2 (by omega)).trans (bk_o hB).2
    refine ⟨D, ?_, hD⟩
    show f_X11_blows_335 N (m + 1) (nI n.2.2.1) D = some (0, D)
    rw [f_X11_blows_335]
    simp (disch := omega) only [ldA_l, c1, le_nn, if_pos, rt]
theorem pay_rel {C : CM} {X : XM} {pt : Nat → Nat} (hN : 2000 ≤ N) (hB : BankR B s n) (hG : G ≤ 1000000000) (hW : WI b r B s th C0 X0 C X) (hR : Rng G (C.1 4 r)) (hpt : ∀ o, o < n.2.2.1 → pt o ≤ 7300 ∧ C.1 8 0 1 o = nI (pt o) ∧ X.1 7 o = nI (pt o)) :
    GaleQ b r B s th C0 X0 G C X (cal (f_X9_payPacts N b C) (fun _ C6 => f_X9_gale_137 N b r N 0 C6)) (f_X11_blows_335 N N 0 X) := by
  obtain ⟨bw, bh, bO, bT⟩ := bk_bd hB
  have hpc : ∀ o, o < n.2.2.1 → (s (47 + o)).toNatClampNeg ≤ n.2.2.1 ∧ B 13 o = nI (s (47 + o)).toNatClampNeg - 1 ∧ s (47 + o) = nI (s (47 + o)).toNatClampNeg := by
    intro o ho
    obtain ⟨v, h1, h2, h3⟩ := bk_pact hB o ho
    rw [h3, nI_clamp (by omega)]
    exact ⟨h1, h2, rfl⟩
  have hgv : ∀ o, o < 8 → C.1 4 r 1 o = nI (C.1 4 r 1 o).toNatClampNeg ∧ (C.1 4 r 1 o).toNatClampNeg ≤ G := by
    intro o ho
    obtain ⟨⟨v, h1, h2⟩, -⟩ := hR o ho
    rw [h2, nI_clamp (by omega)]
    exact ⟨rfl, h1⟩
  obtain ⟨C1, p1, p2, p3, p4, p5⟩ := pay2_eq (pt := pt) hN hB (wi_C hW) (fun o ho => (hpt o ho).2.1)
  obtain ⟨C2, q1, q2, q3, q4⟩ := pay30_eq (pt := pt) (pc := fun o => (s (47 + o)).toNatClampNeg) hN hB p2 (fun o ho => (congrFun p4 o).trans (hpt o ho).2.1) (fun o ho => (hpt o ho).1) (fun o ho => ⟨(hpc o ho).1, (hpc o ho).2.1⟩) p5
  have e4 : C2.1 4 = C.1 4 := q3.trans p3
  obtain ⟨C3, r1, r2, r3, r4, r5⟩ := g137_eq (gv := fun o => (C.1 4 r 1 o).toNatClampNeg) (gn := fun o => gN pt (fun o => (s (47 + o)).toNatClampNeg) n.2.2.1 o) hN hB q2 (fun o ho => by rw [e4]; exact (hgv o ho).1) q4
  have hS := wi_S hW
  obtain ⟨X1, x1, x2⟩ := x335_eq (pt := pt) (pc := fun o => (s (47 + o)).toNatClampNeg) (gv := fun o => (C.1 4 r 1 o).toNatClampNeg) hN hB (wi_X hW) (fun o ho => (hpt o ho).2.2) (fun o ho => (hpt o ho).1) (fun o ho => ⟨(hpc o ho).1, (hpc o ho).2.2⟩) (fun o ho => by
    have := hS.1 1 o (by omega) (by omega) ho
    rw [show 365 + 8 * 1 + o = 373 + o by omega] at this
    rw [← this]
    exact (hgv o ho).1)
  obtain ⟨w, eo, e7, eg, eh⟩ := x2
  have hrow : ∀ j x, j ≠ 1 → j ≠ 7 → C3.1 4 r j x = C.1 4 r j x := fun j x h1 h7 => (r3 j x h1 h7).trans (by rw [e4])
  have hz : ∀ o, o < 8 → (if o < n.2.2.1 then gN pt (fun o => (s (47 + o)).toNatClampNeg) n.2.2.1 o else 0) = gN pt (fun o => (s (47 + o)).toNatClampNeg) n.2.2.1 o := by
    intro o ho
    by_cases h : o < n.2.2.1
    · rw [if_pos h]
    · rw [if_neg h, gN_out (O := n.2.2.1) (fun k hk => (hpc k hk).1) (by omega) _ (Nat.le_refl _)]
  refine ⟨C3, X1, ?_, x1, wi_mk r2 w ⟨fun j o h1 h2 ho => ?_, ?_, ?_, ?_⟩, ?_, ⟨fun j h1 h2 => ?_, fun x hx => ?_, ?_⟩⟩
  · unfold f_X9_payPacts
    rw [p1, q1, cal_some]
    exact r1
  · by_cases hj1 : j = 1
    · subst hj1
      rw [r4 o ho, show 365 + 8 * 1 + o = 373 + o by omega, eg o ho, hz o ho]
    · by_cases hj7 : j = 7
      · subst hj7
        rw [r5 o ho, show 365 + 8 * 7 + o = 421 + o by omega, eh o ho, hz o ho, e4]
        have := hS.1 7 o (by omega) (by omega) ho
        rw [show 365 + 8 * 7 + o = 421 + o by omega] at this
        rw [this]
      · rw [hrow j o hj1 hj7, eo _ (by omega) (by omega)]
        exact hS.1 j o h1 h2 ho
  · rw [hrow 0 1 (by omega) (by omega), eo _ (by omega) (by omega)]
    exact hS.2.1
  · rw [hrow 0 5 (by omega) (by omega), eo _ (by omega) (by omega)]
    exact hS.2.2.1
  · rw [hrow 0 0 (by omega) (by omega), eo _ (by omega) (by omega)]
    exact hS.2.2.2
  · intro o ho
    rw [hrow 3 o (by omega) (by omega), hrow 4 o (by omega) (by omega), hrow 5 o (by omega) (by omega)]
    refine ⟨⟨_, ?_, r4 o ho⟩, (hR o ho).2⟩
    have h1 := (hgv o ho).2
    have h2 := gN_le (pt := pt) (pc := fun o => (s (47 + o)).toNatClampNeg) (fun k hk => (hpt k hk).1) n.2.2.1 (Nat.le_refl _) o
    rw [hz o ho]
    omega
  · funext x
    exact hrow j x (by omega) (by omega)
  · exact hrow 0 x (by omega) (by omega)
  · exact eo 541 (by omega) (by omega)
end PAY
