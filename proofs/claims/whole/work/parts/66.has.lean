/-! has: the plots of a set. -/
theorem bt_lsb0 (y : Int32) : y &&& 1 = if y.toBitVec.getLsbD 0 = true then 1 else 0 := by
  have h : (y &&& 1).toBitVec = y.toBitVec &&& 1#32 := rfl
  rw [BitVec.and_one_eq_setWidth_ofBool_getLsbD] at h
  apply Int32.toBitVec_inj.1
  rw [h]
  cases hb : y.toBitVec.getLsbD 0
  · rfl
  · rfl
theorem bt_lsb (x : Int32) : ∀ o, o < 8 → bt x o = if x.toBitVec.getLsbD o = true then 1 else 0 := by
  have key : ∀ o : Nat, o < 32 → ∀ y : Int32, y.toBitVec = x.toBitVec.sshiftRight o → y &&& 1 = if x.toBitVec.getLsbD o = true then 1 else 0 := by
    intro o ho y hy
    rw [bt_lsb0, hy, BitVec.getLsbD_sshiftRight]
    simp [ho]
  intro o ho
  unfold bt
  match o, ho with
  | 0, _ => exact key 0 (by omega) _ rfl
  | 1, _ => exact key 1 (by omega) _ rfl
  | 2, _ => exact key 2 (by omega) _ rfl
  | 3, _ => exact key 3 (by omega) _ rfl
  | 4, _ => exact key 4 (by omega) _ rfl
  | 5, _ => exact key 5 (by omega) _ rfl
  | 6, _ => exact key 6 (by omega) _ rfl
  | 7, _ => exact key 7 (by omega) _ rfl
theorem sub_lsb {a f : Int32} (h : a &&& (f ^^^ (-1)) = 0) {o : Nat} (ho : o < 32) (ha : a.toBitVec.getLsbD o = true) : f.toBitVec.getLsbD o = true := by
  have h1 : (a &&& (f ^^^ (-1))).toBitVec.getLsbD o = (0 : Int32).toBitVec.getLsbD o := by rw [h]
  have h2 : (a &&& (f ^^^ (-1))).toBitVec = a.toBitVec &&& (f.toBitVec ^^^ BitVec.allOnes 32) := rfl
  rw [h2, BitVec.getLsbD_and, BitVec.getLsbD_xor, ha, BitVec.getLsbD_allOnes] at h1
  have h3 : (0 : Int32).toBitVec.getLsbD o = false := by
    show (0#32).getLsbD o = false
    simp
  rw [h3] at h1
  simpa [ho] using h1
theorem sub_bt {a f : Int32} (h : a &&& (f ^^^ (-1)) = 0) {o : Nat} (ho : o < 8) (ha : bt a o = 1) : bt f o = 1 := by
  rw [bt_lsb a o ho] at ha
  rw [bt_lsb f o ho]
  by_cases hb : a.toBitVec.getLsbD o = true
  · rw [if_pos (sub_lsb h (by omega) hb)]
  · rw [if_neg hb] at ha
    exact absurd ha (by decide)
theorem n31 : ∀ m, m < 256 → (nI m).toBitVec.getLsbD 31 = false := by decide +kernel
theorem sub_neg {a : Int32} {m : Nat} (hm : m < 256) (h : a &&& (nI m ^^^ (-1)) = 0) : ¬ a < 0 := by
  intro hn
  rw [Int32.lt_iff_toInt_lt] at hn
  have h0 : (0 : Int32).toInt = 0 := by decide
  rw [h0] at hn
  have h1 : a.toBitVec.msb = true := by
    rw [BitVec.msb_eq_toInt, decide_eq_true_eq]
    exact hn
  rw [BitVec.msb_eq_getLsbD_last] at h1
  have := sub_lsb h (by omega) h1
  rw [n31 m hm] at this
  cases this
section HAS
variable {N : Nat}
theorem plots_rel {n : BN} {m : Nat} {a2 : Int32} {C D : CM} {X Y : XM} (hN : 2000 ≤ N) (hH : HereB C X n) (hb : C.2 2 0 1 < 4) (hm : ∀ o, o < 8 → bt (nI m) o = 1 → o < n.2.2.1 ∧ ∃ c, c < 100 ∧ C.1 3 (C.2 2 0 1) 14 o = nI c ∧ X.1 2 (55 + o) = nI (c + 1) ∧ C.1 4 0 8 c = 0) (ha : a2 &&& (nI m ^^^ (-1)) = 0) (hD : FT 3 C D) (hY : Y.1 2 = X.1 2) (hXB : XB X Y) :
    ∃ q' D' Y1 j Y', f_X10_tryPlots N a2 D = some (0, D') ∧ f_X11_fenced N a2 Y = some (0, Y1) ∧ f_X11_goes N 48 Y1 = some (j, Y') ∧ TQ n (C.2 2 0 1) (C.1 3 (C.2 2 0 1)) 1000 q' D' Y' ∧ FT 3 C D' ∧ XB X Y' ∧ FY Y Y' := by
  have bd := bk_bd hH.1
  obtain ⟨q, D1, hq, q1, cp, f1, t1, -, hcp⟩ := tq_start hH hD hY
  have L : ∃ D2 Y1, f_X10_tryPlots_16 N a2 N 0 D1 = cal (f_X9_pass N (C.2 2 0 1) 3 48 D2) (fun _ C7 => rt 0 C7) ∧ f_X11_fenced_2 N a2 N 0 Y = some (0, Y1) ∧ TQ n (C.2 2 0 1) (C.1 3 (C.2 2 0 1)) 1000 q D2 Y1 ∧ FT 3 C D2 ∧ XB X Y1 ∧ FY Y Y1 := by
    refine loop2 (fun mm i E => f_X10_tryPlots_16 N a2 mm i E) (fun mm i Z => f_X11_fenced_2 N a2 mm i Z)
      (fun k E Z => TQ n (C.2 2 0 1) (C.1 3 (C.2 2 0 1)) 1000 q E Z ∧ FT 3 C E ∧ XB X Z ∧ FY Y Z ∧ ∀ c, c < 100 → C.1 4 0 8 c = 0 → E.1 4 3 8 c = 0 ∨ E.1 4 3 8 c = 48)
      (fun y z => ∃ D2 Y1, y = cal (f_X9_pass N (C.2 2 0 1) 3 48 D2) (fun _ C7 => rt 0 C7) ∧ z = some (0, Y1) ∧ TQ n (C.2 2 0 1) (C.1 3 (C.2 2 0 1)) 1000 q D2 Y1 ∧ FT 3 C D2 ∧ XB X Y1 ∧ FY Y Y1) n.2.2.1 ?_ ?_ n.2.2.1 0 N N D1 Y (by omega) (by omega) (by omega) ⟨t1, f1, hXB, FY.rf Y, fun c hc h0 => Or.inl ((hcp 8 c (by unfold dX6; omega)).trans h0)⟩
    · rintro mm mm' k E Z hk ⟨t, hE, hZ, hZf, hth⟩
      refine Or.inl ?_
      have c1 : E.1 3 (C.2 2 0 1) = C.1 3 (C.2 2 0 1) := t.2.2.1.1
      have c6 : E.1 3 (C.2 2 0 1) 6 0 = nI n.2.2.1 := by rw [c1]; exact (bk_o hH.1).1
      have x2 : Z.1 2 2 = nI n.2.2.1 := (bk_o t.1).2
      obtain ⟨p, p0, p1, p2⟩ := bk_plot hH.1 k hk
      have c14 : E.1 3 (C.2 2 0 1) 14 k = nI p - 1 := by rw [c1]; exact p1
      have eb : (a2 >>> (nI k &&& 31) &&& 1) = bt a2 k := rfl
      rw [f_X10_tryPlots_16, f_X11_fenced_2]
      simp (disch := omega) only [hE.1, ldR_lt hb, c6, le_nn, if_neg, ldA_nI, c14, ldA_l, x2, bitOf_eq, cal_some, eb, nI_al, nI_la]
      rcases bt01 a2 k with h | h
      · rw [h, if_neg (by decide), if_pos rfl]
        exact ⟨E, Z, rfl, rfl, t, hE, hZ, hZf, hth⟩
      · obtain ⟨-, c, hc, g1, g2, g3⟩ := hm k (by omega) (sub_bt ha (by omega) h)
        have ep : nI p - 1 = nI c := p1.symm.trans g1
        have xz : Z.1 2 (55 + k) = nI (c + 1) := by
          rw [hZ.2.2.2.2 _ (by omega)]
          exact g2
        have ei : nI (441 + (c + 1)) - 1 = nI (441 + c) := pk_sub (a := 441 + (c + 1)) (b := 1) (by omega)
        rw [h, if_pos rfl, if_neg i1n, ep, putF_eq E hc, cal_some, xz, nI_la, ei]
        simp (disch := omega) only [sxA_nI]
        obtain ⟨t2, g4, g5⟩ := tq_set (c := c) (w := E.1 4 3 0 2 + 1) t hc (hth c hc g3)
        refine ⟨_, _, rfl, rfl, t2, hE.trans g4, xb_fy hZ g5, hZf.trans g5, fun c' hc' h0 => ?_⟩
        rw [stC_row (by omega), stC_if]
        by_cases e : c' = c
        · rw [if_pos e]
          exact Or.inr rfl
        · rw [if_neg e]
          exact hth c' hc' h0
    · rintro mm mm' E Z ⟨t, hE, hZ, hZf, hth⟩
      have c1 : E.1 3 (C.2 2 0 1) = C.1 3 (C.2 2 0 1) := t.2.2.1.1
      have c6 : E.1 3 (C.2 2 0 1) 6 0 = nI n.2.2.1 := by rw [c1]; exact (bk_o hH.1).1
      have x2 : Z.1 2 2 = nI n.2.2.1 := (bk_o t.1).2
      refine ⟨E, Z, ?_, ?_, t, hE, hZ, hZf⟩
      · simp (disch := omega) only [f_X10_tryPlots_16, hE.1, ldR_lt hb, c6, le_nn, if_pos]
      · simp (disch := omega) only [f_X11_fenced_2, ldA_l, x2, le_nn, if_pos, rt]
  obtain ⟨D2, Y1, l1, l2, l3, l4, l5, l6⟩ := L
  obtain ⟨j, D', Y', -, e2, e3, t2, f2, f3⟩ := tq_pass (k := 48) hN (by omega) (by omega) hq l3
  have e2' : f_X9_pass N (C.2 2 0 1) 3 48 D2 = some (nI j, D') := e2
  refine ⟨q + j, D', Y1, nI j, Y', ?_, l2, e3, t2, l4.trans f2, xb_fy l5 f3, l6.trans f3⟩
  unfold f_X10_tryPlots
  rw [cp, cal_some, l1, e2', cal_some]
  rfl
theorem op_has (hN : 2000 ≤ N) (b1 b2 : Int32) : OP (Rel N) (f_X10_has N b1 b2) (f_X11_has N b1 b2) := op_q fun C X hR => by
  have hR0 := rel_xe hR (xe_0 X 0)
  have hx0 := xe_0 X 0
  unfold f_X10_has f_X11_has
  rw [bnd_v]
  generalize stX X 0 0 0 = X0 at hR0 hx0 ⊢
  obtain ⟨⟨n, hH, -⟩, -, -, hRs⟩ := hR0
  have hb := (b_lt hRs.1).1
  have bd := bk_bd hH.1
  rw [ldR_lt hb]
  rcases isOwner_rel hH.1 rfl b1 with ⟨o, ho, rfl, e1, e2⟩ | ⟨e1, e2⟩
  rotate_left
  · rw [e1, e2]
    exact ⟨_, _, _, rfl, rfl, CE.rf C, hx0⟩
  rw [e1, e2, cal_some, cal_some, if_neg i1n, if_neg i1n]
  obtain ⟨m, hm, hm1, hm2⟩ := plots_bits (D := C) (Y := X0) hN (hb_of hH) hb
  obtain ⟨g1, g2⟩ := hm2 C X0 (FT.rf C) rfl
  rw [g1, g2, cal_some, cal_some]
  by_cases ha : b2 &&& (nI m ^^^ (-1)) = 0
  rotate_left
  · rw [if_neg ha, if_neg ha, ite_self]
    exact ⟨_, _, _, rfl, rfl, CE.rf C, hx0⟩
  rw [if_pos ha, if_pos ha, if_neg (sub_neg hm ha)]
  obtain ⟨Y, y1, y2, y3⟩ := xb_start N X0 hN
  obtain ⟨q', D', Y1, j, Y', p1, p2, p3, p4, p5, p6, -⟩ := plots_rel (D := C) hN (hb_of hH) hb hm1 ha (FT.rf C) y3 y2
  obtain ⟨v, v1, v2⟩ := tq_w p4 (show o < 8 by omega)
  obtain ⟨Z, z1, z2, -, -, -⟩ := xb_back hN p6
  unfold f_X11_atLast
  simp only [p1, cal_some, v1, y1, p2, p3, v2, z1, rt]
  exact ⟨_, _, _, rfl, rfl, ce_ft p5, hx0.trans z2⟩
end HAS
