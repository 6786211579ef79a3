def OPS (N : Nat) (Rel : CM → XM → Prop) : Prop :=
  (∀ (b1 b2 b3 b4 b5 : Int32), OP Rel (f_X10_feed N b1 b2 b3 b4 b5) (f_X11_feed N b1 b2 b3 b4 b5)) ∧
  (∀ (b1 : Int32), OP Rel (f_X10_end b1) (f_X11_end b1)) ∧
  (OP Rel (f_X10_bank N) (f_X11_bank N)) ∧
  (OP Rel (f_X10_fault) (f_X11_fault)) ∧
  (∀ (b1 b2 : Int32), OPX Rel (f_X10_cell b1 b2) (f_X11_cell N b1 b2)) ∧
  (∀ (b1 b2 : Int32), OPX Rel (f_X10_owner b1 b2) (f_X11_owner b1 b2)) ∧
  (∀ (b1 b2 : Int32), OP Rel (f_X10_gust b1 b2) (f_X11_gust b1 b2)) ∧
  (∀ (b1 b2 b3 b4 : Int32), OP Rel (f_X10_comes N b1 b2 b3 b4) (f_X11_comes N b1 b2 b3 b4)) ∧
  (∀ (b1 b2 : Int32), OP Rel (f_X10_faces N b1 b2) (f_X11_faces N b1 b2)) ∧
  (∀ (b1 b2 b3 : Int32), OP Rel (f_X10_gains N b1 b2 b3) (f_X11_gains N b1 b2 b3)) ∧
  (∀ (b1 : Int32), OP Rel (f_X10_blow N b1) (f_X11_blow N b1)) ∧
  (∀ (b1 : Int32), OP Rel (f_X10_set b1) (f_X11_set N b1)) ∧
  (∀ (b1 : Int32), OP Rel (f_X10_fell b1) (f_X11_fell N b1)) ∧
  (∀ (b1 : Int32), OP Rel (f_X10_oil b1) (f_X11_oil N b1)) ∧
  (∀ (b1 b2 : Int32), OP Rel (f_X10_point b1 b2) (f_X11_point N b1 b2)) ∧
  (OP Rel (f_X10_undo) (f_X11_undo N)) ∧
  (∀ (b1 : Int32), OP Rel (f_X10_now N b1) (f_X11_now N b1)) ∧
  (∀ (b1 : Int32), OP Rel (f_X10_fence N b1) (f_X11_fence N b1)) ∧
  (OP Rel (f_X10_more) (f_X11_more)) ∧
  (∀ (b1 b2 : Int32), OP Rel (f_X10_has N b1 b2) (f_X11_has N b1 b2)) ∧
  (∀ (b1 : Int32), OP Rel (f_X10_rests N b1) (f_X11_rests N b1)) ∧
  (OP Rel (f_X10_oiled N) (f_X11_oiled N)) ∧
  (∀ (b1 : Int32), OP Rel (f_X10_oiledAt b1) (f_X11_oiledAt b1)) ∧
  (∀ (b1 b2 : Int32), OP Rel (f_X10_suit N b1 b2) (f_X11_suit N b1 b2)) ∧
  (∀ (b1 : Int32), OP Rel (f_X10_worth N b1) (f_X11_worth N b1)) ∧
  (∀ (b1 b2 b3 : Int32), OP Rel (f_X10_drawn N b1 b2 b3) (f_X11_drawn N b1 b2 b3)) ∧
  (∀ (b1 b2 b3 : Int32), OP Rel (f_X10_odds N b1 b2 b3) (f_X11_odds N b1 b2 b3)) ∧
  (OP Rel (f_X10_richest N) (f_X11_richest N)) ∧
  (∀ (b1 b2 : Int32), OP Rel (f_X10_best N b1 b2) (f_X11_best N b1 b2)) ∧
  (OP Rel (f_X10_plan N) (f_X11_plan N)) ∧
  (∀ (b1 : Int32), OP Rel (f_X10_judge N b1) (f_X11_judge N b1)) ∧
  (∀ (b1 : Int32), OP Rel (f_X10_judged b1) (f_X11_judged b1)) ∧
  (OP Rel (f_X10_sentence N) (f_X11_sentence N)) ∧
  (∀ (b1 : Int32), OP Rel (f_X10_said N b1) (f_X11_said N b1)) ∧
  (∀ (b1 : Int32), OP Rel (f_X10_image b1) (f_X11_image N b1)) ∧
  (∀ (b1 : Int32), OP Rel (f_X10_restore b1) (f_X11_restore N b1)) ∧
  (∀ (b1 : Int32), OP Rel (f_X10_count b1) (f_X11_count b1))
theorem lp_le {i L : Nat} (hi : i ≤ 3072) (hL : L ≤ 3072) (h : ¬ (Int32.ofNat L - 6 < nI i)) : i + 6 ≤ L := by
  have h := Int32.not_lt.mp h
  rw [Int32.le_iff_toInt_le, Int32.toInt_sub] at h
  have e1 : (nI i).toInt = i := Int32.toInt_ofNat_of_lt (by omega)
  have e2 : (Int32.ofNat L).toInt = L := Int32.toInt_ofNat_of_lt (by omega)
  have e3 : (6 : Int32).toInt = 6 := by decide
  rw [e1, e2, e3, Int.bmod_eq_of_le (by omega) (by omega)] at h
  omega
theorem lp_k {x : Int32} (h : ¬ (x.toInt < 0 ∨ 36 < x.toInt)) : ∃ k : Nat, k ≤ 36 ∧ x = nI k := by
  refine ⟨x.toInt.toNat, by omega, ?_⟩
  have e : x = Int32.ofInt x.toInt := (Int32.ofInt_toInt x).symm
  have e2 : x.toInt = ((x.toInt.toNat : Nat) : Int) := by omega
  rw [e2] at e
  exact e.trans rfl
set_option maxRecDepth 8000 in
theorem law_loop {l : Launch} (hfl : l.stackTraces = false) {G : GX} {N : Nat} {Rel : CM → XM → Prop} (hL : gL G ≤ 3072) (H : OPS N Rel) : ∀ (n i cs sl : Nat) (C : CM) (X : XM), gL G ≤ i + 6 * n + 5 → i ≤ gL G → cs + n ≤ 601024 → sl + 6 * n ≤ 7293034 → Rel C X → AB l G room_1 cs sl mt_law (ZL G) 23 [(0, .ref (gF G 2)), (1, .ref (gA G 0 0 0)), (2, .ref (gA G 10 0 0)), (3, .ref (gA G 11 0 0)), (4, .int (nI i))] [] (C, X) := by
  obtain ⟨o0, o1, o2, o3, o4, o5, o6, o7, o8, o9, o10, o11, o12, o13, o14, o15, o16, o17, o18, o19, o20, o21, o22, o23, o24, o25, o26, o27, o28, o29, o30, o31, o32, o33, o34, o35, o36⟩ := H
  intro n
  induction n with
  | zero =>
    intro i cs sl C X h1 h2 h3 h4 hR
    refine ab_iload 4 dL_law_23 rfl ?_
    refine ab_aloadn 0 dL_law_25 rfl ?_
    refine ab_slen dL_law_26 ?_
    refine ab_bipush (v := 6) dL_law_27 (by decide) ?_
    refine ab_isub dL_law_29 ?_
    refine ab_icmp_gt (tgt := 1353) dL_law_30 (by decide) (fun _ => ?_) (fun hc => ?_)
    · refine ab_iconst (v := 1) dL_law_1353 (by decide) ?_
      exact ab_lret (by omega) (by omega) dL_law_1354
    have hi : i + 6 ≤ gL G := lp_le (by omega) hL hc
    omega
  | succ n ih =>
    intro i cs sl C X h1 h2 h3 h4 hR
    refine ab_iload 4 dL_law_23 rfl ?_
    refine ab_aloadn 0 dL_law_25 rfl ?_
    refine ab_slen dL_law_26 ?_
    refine ab_bipush (v := 6) dL_law_27 (by decide) ?_
    refine ab_isub dL_law_29 ?_
    refine ab_icmp_gt (tgt := 1353) dL_law_30 (by decide) (fun _ => ?_) (fun hc => ?_)
    · refine ab_iconst (v := 1) dL_law_1353 (by decide) ?_
      exact ab_lret (by omega) (by omega) dL_law_1354
    have hi : i + 6 ≤ gL G := lp_le (by omega) hL hc
    have hk : ∀ (cs' sl' : Nat) (C' : CM) (X' : XM), cs' ≤ cs + 1 → sl' ≤ sl + 6 → Rel C' X' → AB l G room_1 cs' sl' mt_law (ZL G) 1347 [(0, .ref (gF G 2)), (1, .ref (gA G 0 0 0)), (2, .ref (gA G 10 0 0)), (3, .ref (gA G 11 0 0)), (4, .int (nI i))] [] (C', X') := by
      intro cs' sl' C' X' q1 q2 hR'
      refine ab_iinc (q := 4) (v := nI (i + 6)) (lv' := [(0, .ref (gF G 2)), (1, .ref (gA G 0 0 0)), (2, .ref (gA G 10 0 0)), (3, .ref (gA G 11 0 0)), (4, .int (nI (i + 6)))]) dL_law_1347 rfl (nI_add i 6) rfl (Nat.le_of_ble_eq_true rfl) rfl ?_
      refine ab_goto (tgt := 23) dL_law_1350 (by decide) ?_
      exact ab_widen q1 q2 (ih (i + 6) (cs + 1) (sl + 6) C' X' (by omega) (by omega) (by omega) (by omega) hR')
    refine ab_aloadn 0 dL_law_33 rfl ?_
    refine ab_iload 4 dL_law_34 rfl ?_
    refine ab_sldn (j := i) rfl ⟨by omega, hL⟩ dL_law_36 ?_
    refine ab_bipush (v := 63) dL_law_37 (by decide) ?_
    refine ab_iand dL_law_39 ?_
    have hcs : cs ≤ room_1.cells ∧ sl ≤ room_1.slots := ⟨by show cs ≤ 601024; omega, by show sl ≤ 7293034; omega⟩
    have hcx : cs + 1 ≤ room_1.cells ∧ sl + 6 ≤ room_1.slots := ⟨by show cs + 1 ≤ 601024; omega, by show sl + 6 ≤ 7293034; omega⟩
    by_cases hx : (gX G i &&& 63).toInt < 0 ∨ 36 < (gX G i &&& 63).toInt
    · exact ab_tout (tgt := 1347) hx (by decide) dL_law_40 (hk cs sl C X (by omega) (by omega) hR)
    obtain ⟨k, hk36, hxk⟩ := lp_k hx
    rcases (by omega : k = 0 ∨ k = 1 ∨ k = 2 ∨ k = 3 ∨ k = 4 ∨ k = 5 ∨ k = 6 ∨ k = 7 ∨ k = 8 ∨ k = 9 ∨ k = 10 ∨ k = 11 ∨ k = 12 ∨ k = 13 ∨ k = 14 ∨ k = 15 ∨ k = 16 ∨ k = 17 ∨ k = 18 ∨ k = 19 ∨ k = 20 ∨ k = 21 ∨ k = 22 ∨ k = 23 ∨ k = 24 ∨ k = 25 ∨ k = 26 ∨ k = 27 ∨ k = 28 ∨ k = 29 ∨ k = 30 ∨ k = 31 ∨ k = 32 ∨ k = 33 ∨ k = 34 ∨ k = 35 ∨ k = 36) with rfl | rfl | rfl | rfl | rfl | rfl | rfl | rfl | rfl | rfl | rfl | rfl | rfl | rfl | rfl | rfl | rfl | rfl | rfl | rfl | rfl | rfl | rfl | rfl | rfl | rfl | rfl | rfl | rfl | rfl | rfl | rfl | rfl | rfl | rfl | rfl | rfl
    · exact ab_tin (c0 := 0) (off := 164) (tgt := 204) hxk (by decide) (by decide) (by decide) (by decide) dL_law_40 (law_0 (N := N) hi hL hcs o0 hR (fun C' X' h => hk cs sl C' X' (by omega) (by omega) h))
    · exact ab_tin (c0 := 1) (off := 237) (tgt := 277) hxk (by decide) (by decide) (by decide) (by decide) dL_law_40 (law_1 (N := N) hi hL hcs o1 hR (fun C' X' h => hk cs sl C' X' (by omega) (by omega) h))
    · exact ab_tin (c0 := 2) (off := 262) (tgt := 302) hxk (by decide) (by decide) (by decide) (by decide) dL_law_40 (law_2 (N := N) hi hL hcs o2 hR (fun C' X' h => hk cs sl C' X' (by omega) (by omega) h))
    · exact ab_tin (c0 := 3) (off := 275) (tgt := 315) hxk (by decide) (by decide) (by decide) (by decide) dL_law_40 (law_3 (N := N) hi hL hcs o3 hR (fun C' X' h => hk cs sl C' X' (by omega) (by omega) h))
    · exact ab_tin (c0 := 4) (off := 288) (tgt := 328) hxk (by decide) (by decide) (by decide) (by decide) dL_law_40 (law_4 hfl (N := N) hi hL hcx o4 hR (fun C' X' h => hk (cs + 1) (sl + 6) C' X' (by omega) (by omega) h))
    · exact ab_tin (c0 := 5) (off := 356) (tgt := 396) hxk (by decide) (by decide) (by decide) (by decide) dL_law_40 (law_5 hfl (N := N) hi hL hcx o5 hR (fun C' X' h => hk (cs + 1) (sl + 6) C' X' (by omega) (by omega) h))
    · exact ab_tin (c0 := 6) (off := 424) (tgt := 464) hxk (by decide) (by decide) (by decide) (by decide) dL_law_40 (law_6 (N := N) hi hL hcs o6 hR (fun C' X' h => hk cs sl C' X' (by omega) (by omega) h))
    · exact ab_tin (c0 := 7) (off := 461) (tgt := 501) hxk (by decide) (by decide) (by decide) (by decide) dL_law_40 (law_7 (N := N) hi hL hcs o7 hR (fun C' X' h => hk cs sl C' X' (by omega) (by omega) h))
    · exact ab_tin (c0 := 8) (off := 522) (tgt := 562) hxk (by decide) (by decide) (by decide) (by decide) dL_law_40 (law_8 (N := N) hi hL hcs o8 hR (fun C' X' h => hk cs sl C' X' (by omega) (by omega) h))
    · exact ab_tin (c0 := 9) (off := 559) (tgt := 599) hxk (by decide) (by decide) (by decide) (by decide) dL_law_40 (law_9 (N := N) hi hL hcs o9 hR (fun C' X' h => hk cs sl C' X' (by omega) (by omega) h))
    · exact ab_tin (c0 := 10) (off := 608) (tgt := 648) hxk (by decide) (by decide) (by decide) (by decide) dL_law_40 (law_10 (N := N) hi hL hcs o10 hR (fun C' X' h => hk cs sl C' X' (by omega) (by omega) h))
    · exact ab_tin (c0 := 11) (off := 633) (tgt := 673) hxk (by decide) (by decide) (by decide) (by decide) dL_law_40 (law_11 (N := N) hi hL hcs o11 hR (fun C' X' h => hk cs sl C' X' (by omega) (by omega) h))
    · exact ab_tin (c0 := 12) (off := 658) (tgt := 698) hxk (by decide) (by decide) (by decide) (by decide) dL_law_40 (law_12 (N := N) hi hL hcs o12 hR (fun C' X' h => hk cs sl C' X' (by omega) (by omega) h))
    · exact ab_tin (c0 := 13) (off := 683) (tgt := 723) hxk (by decide) (by decide) (by decide) (by decide) dL_law_40 (law_13 (N := N) hi hL hcs o13 hR (fun C' X' h => hk cs sl C' X' (by omega) (by omega) h))
    · exact ab_tin (c0 := 14) (off := 708) (tgt := 748) hxk (by decide) (by decide) (by decide) (by decide) dL_law_40 (law_14 (N := N) hi hL hcs o14 hR (fun C' X' h => hk cs sl C' X' (by omega) (by omega) h))
    · exact ab_tin (c0 := 15) (off := 745) (tgt := 785) hxk (by decide) (by decide) (by decide) (by decide) dL_law_40 (law_15 (N := N) hi hL hcs o15 hR (fun C' X' h => hk cs sl C' X' (by omega) (by omega) h))
    · exact ab_tin (c0 := 16) (off := 758) (tgt := 798) hxk (by decide) (by decide) (by decide) (by decide) dL_law_40 (law_16 (N := N) hi hL hcs o16 hR (fun C' X' h => hk cs sl C' X' (by omega) (by omega) h))
    · exact ab_tin (c0 := 17) (off := 783) (tgt := 823) hxk (by decide) (by decide) (by decide) (by decide) dL_law_40 (law_17 (N := N) hi hL hcs o17 hR (fun C' X' h => hk cs sl C' X' (by omega) (by omega) h))
    · exact ab_tin (c0 := 18) (off := 808) (tgt := 848) hxk (by decide) (by decide) (by decide) (by decide) dL_law_40 (law_18 (N := N) hi hL hcs o18 hR (fun C' X' h => hk cs sl C' X' (by omega) (by omega) h))
    · exact ab_tin (c0 := 19) (off := 821) (tgt := 861) hxk (by decide) (by decide) (by decide) (by decide) dL_law_40 (law_19 (N := N) hi hL hcs o19 hR (fun C' X' h => hk cs sl C' X' (by omega) (by omega) h))
    · exact ab_tin (c0 := 20) (off := 858) (tgt := 898) hxk (by decide) (by decide) (by decide) (by decide) dL_law_40 (law_20 (N := N) hi hL hcs o20 hR (fun C' X' h => hk cs sl C' X' (by omega) (by omega) h))
    · exact ab_tin (c0 := 21) (off := 883) (tgt := 923) hxk (by decide) (by decide) (by decide) (by decide) dL_law_40 (law_21 (N := N) hi hL hcs o21 hR (fun C' X' h => hk cs sl C' X' (by omega) (by omega) h))
    · exact ab_tin (c0 := 22) (off := 896) (tgt := 936) hxk (by decide) (by decide) (by decide) (by decide) dL_law_40 (law_22 (N := N) hi hL hcs o22 hR (fun C' X' h => hk cs sl C' X' (by omega) (by omega) h))
    · exact ab_tin (c0 := 23) (off := 921) (tgt := 961) hxk (by decide) (by decide) (by decide) (by decide) dL_law_40 (law_23 (N := N) hi hL hcs o23 hR (fun C' X' h => hk cs sl C' X' (by omega) (by omega) h))
    · exact ab_tin (c0 := 24) (off := 958) (tgt := 998) hxk (by decide) (by decide) (by decide) (by decide) dL_law_40 (law_24 (N := N) hi hL hcs o24 hR (fun C' X' h => hk cs sl C' X' (by omega) (by omega) h))
    · exact ab_tin (c0 := 25) (off := 983) (tgt := 1023) hxk (by decide) (by decide) (by decide) (by decide) dL_law_40 (law_25 (N := N) hi hL hcs o25 hR (fun C' X' h => hk cs sl C' X' (by omega) (by omega) h))
    · exact ab_tin (c0 := 26) (off := 1032) (tgt := 1072) hxk (by decide) (by decide) (by decide) (by decide) dL_law_40 (law_26 (N := N) hi hL hcs o26 hR (fun C' X' h => hk cs sl C' X' (by omega) (by omega) h))
    · exact ab_tin (c0 := 27) (off := 1081) (tgt := 1121) hxk (by decide) (by decide) (by decide) (by decide) dL_law_40 (law_27 (N := N) hi hL hcs o27 hR (fun C' X' h => hk cs sl C' X' (by omega) (by omega) h))
    · exact ab_tin (c0 := 28) (off := 1094) (tgt := 1134) hxk (by decide) (by decide) (by decide) (by decide) dL_law_40 (law_28 (N := N) hi hL hcs o28 hR (fun C' X' h => hk cs sl C' X' (by omega) (by omega) h))
    · exact ab_tin (c0 := 29) (off := 1131) (tgt := 1171) hxk (by decide) (by decide) (by decide) (by decide) dL_law_40 (law_29 (N := N) hi hL hcs o29 hR (fun C' X' h => hk cs sl C' X' (by omega) (by omega) h))
    · exact ab_tin (c0 := 30) (off := 1144) (tgt := 1184) hxk (by decide) (by decide) (by decide) (by decide) dL_law_40 (law_30 (N := N) hi hL hcs o30 hR (fun C' X' h => hk cs sl C' X' (by omega) (by omega) h))
    · exact ab_tin (c0 := 31) (off := 1169) (tgt := 1209) hxk (by decide) (by decide) (by decide) (by decide) dL_law_40 (law_31 (N := N) hi hL hcs o31 hR (fun C' X' h => hk cs sl C' X' (by omega) (by omega) h))
    · exact ab_tin (c0 := 32) (off := 1194) (tgt := 1234) hxk (by decide) (by decide) (by decide) (by decide) dL_law_40 (law_32 (N := N) hi hL hcs o32 hR (fun C' X' h => hk cs sl C' X' (by omega) (by omega) h))
    · exact ab_tin (c0 := 33) (off := 1207) (tgt := 1247) hxk (by decide) (by decide) (by decide) (by decide) dL_law_40 (law_33 (N := N) hi hL hcs o33 hR (fun C' X' h => hk cs sl C' X' (by omega) (by omega) h))
    · exact ab_tin (c0 := 34) (off := 1232) (tgt := 1272) hxk (by decide) (by decide) (by decide) (by decide) dL_law_40 (law_34 (N := N) hi hL hcs o34 hR (fun C' X' h => hk cs sl C' X' (by omega) (by omega) h))
    · exact ab_tin (c0 := 35) (off := 1257) (tgt := 1297) hxk (by decide) (by decide) (by decide) (by decide) dL_law_40 (law_35 (N := N) hi hL hcs o35 hR (fun C' X' h => hk cs sl C' X' (by omega) (by omega) h))
    · exact ab_tin (c0 := 36) (off := 1282) (tgt := 1322) hxk (by decide) (by decide) (by decide) (by decide) dL_law_40 (law_36 (N := N) hi hL hcs o36 hR (fun C' X' h => hk cs sl C' X' (by omega) (by omega) h))
