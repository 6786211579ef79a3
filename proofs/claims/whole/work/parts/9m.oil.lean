/-! oiled() -/
section OIL3
variable {N : Nat} {n : BN} {B : Nat → Nat → Int32} {s : Nat → Int32} {b : Nat}
/-- the reference in a trial that began at X, its row of pairs aside -/
def OB (X Y : XM) : Prop := Y.2 = X.2 ∧ (∀ x, lastF x = true → Y.1 0 x = X.1 0 x) ∧ (∀ j, lastR j = true → j ≠ 2 → j ≠ 12 → Y.1 j = X.1 j) ∧ (∀ x, x < 172 → Y.1 9 x = X.1 2 (371 + x)) ∧ (∀ x, ¬ (371 ≤ x ∧ x < 543) → Y.1 2 x = X.1 2 x)
theorem ob_xb {X Y : XM} (h : OB X Y) : XB (rwX X 12 (Y.1 12)) Y := by
  obtain ⟨h1, h2, h3, h4, h5⟩ := h
  refine ⟨h1, fun x hx => ?_, fun j hj h2' => ?_, fun x hx => ?_, fun x hx => ?_⟩
  · rw [rwX_out (by omega)]; exact h2 x hx
  · by_cases e : j = 12
    · subst e
      rw [rwX_in]
    · rw [rwX_out e]; exact h3 j hj h2' e
  · rw [rwX_out (by omega)]; exact h4 x hx
  · rw [rwX_out (by omega)]; exact h5 x hx
theorem xb_ob {X Y : XM} (h : XB X Y) : OB X Y := ⟨h.1, h.2.1, fun j a c _ => h.2.2.1 j a c, h.2.2.2.1, h.2.2.2.2⟩
theorem ob_fy {X Y Z : XM} (h : OB X Y) (hf : FY Y Z) : OB X Z ∧ Z.1 12 = Y.1 12 := by
  have hx := xb_fy (ob_xb h) hf
  obtain ⟨x1, x2, x3, x4, x5⟩ := hx
  refine ⟨⟨x1, fun x hx => ?_, fun j hj h2' h12 => ?_, fun x hx => ?_, fun x hx => ?_⟩, ?_⟩
  · rw [x2 x hx, rwX_out (by omega)]
  · rw [x3 j hj h2', rwX_out h12]
  · rw [x4 x hx, rwX_out (by omega)]
  · rw [x5 x hx, rwX_out (by omega)]
  · rw [x3 12 rfl (by omega), rwX_in]
theorem ob_12 {X Y : XM} {k : Nat} {v : Int32} (h : OB X Y) : OB X (stX Y 12 k v) := by
  obtain ⟨h1, h2, h3, h4, h5⟩ := h
  refine ⟨h1, fun x hx => ?_, fun j hj h2' h12 => ?_, fun x hx => ?_, fun x hx => ?_⟩
  · rw [stX_row (by omega)]; exact h2 x hx
  · rw [stX_row h12]; exact h3 j hj h2' h12
  · rw [stX_row (by omega)]; exact h4 x hx
  · rw [stX_row (by omega)]; exact h5 x hx
/-- the class, its pairs aside -/
def FO (C C' : CM) : Prop := C'.2 = C.2 ∧ ∀ k i j x, ¬ (k = 0 ∧ i = 0 ∧ ((j = 0 ∧ x = 15) ∨ j = 3)) → C'.1 k i j x = C.1 k i j x
theorem FO.trans {A C D : CM} (h1 : FO A C) (h2 : FO C D) : FO A D := ⟨h2.1.trans h1.1, fun k i j x h => (h2.2 k i j x h).trans (h1.2 k i j x h)⟩
theorem FO.rf (C : CM) : FO C C := ⟨rfl, fun _ _ _ _ _ => rfl⟩
def PrS (c : Nat) (C : CM) (X : XM) : Prop := C.1 0 0 0 15 = nI c ∧ ∀ k, k < c → C.1 0 0 3 k = X.1 12 k
theorem bit_like : ∀ m, m < 256 → ∀ o, o < 8 → ((nI m &&& (((1 : Int32) <<< (nI o &&& 31)) ^^^ (-1))) = 0 ↔ ∀ j, j < 8 → j ≠ o → bt (nI m) j = 0) := by decide +kernel
theorem unlike_eq {u : Nat → Nat} {q : Nat} {C : CM} (hN : 2000 ≤ N) (hB : BankR B s n) (hb : C.1 3 (C.2 2 0 1) = B) (hr : C.2 2 0 1 < 4) (hq : q ≤ 48) (h0 : C.1 4 0 0 0 = nI q) (hu : ∀ p, p < n.2.2.1 → C.1 0 0 1 p = nI (u p)) : ∃ m, m < 256 ∧ f_X10_unlikeWithoutOil N (nI n.2.2.1) C = some (nI m, C) ∧ ∀ k, k < 8 → (bt (nI m) k = 0 ↔ (k < n.2.2.1 → pbV n B k 1000 q = nI (u k))) := by
  have bd := bk_bd hB
  unfold f_X10_unlikeWithoutOil
  refine loop1 (fun m i (w : Int32) => f_X10_unlikeWithoutOil_4 N (nI n.2.2.1) m w i C) (fun i w => ∃ m, m < 256 ∧ w = nI m ∧ ∀ k, k < 8 → bt w k = if k < i ∧ ¬ pbV n B k 1000 q = nI (u k) then 1 else 0) (fun y => ∃ m, m < 256 ∧ y = some (nI m, C) ∧ ∀ k, k < 8 → (bt (nI m) k = 0 ↔ (k < n.2.2.1 → pbV n B k 1000 q = nI (u k)))) n.2.2.1 ?_ ?_ n.2.2.1 0 N 0 (by omega) (by omega) ⟨0, by omega, rfl, fun k hk => by rw [bt_0 k hk, if_neg (by omega)]⟩
  · rintro m i w hi ⟨x, x1, rfl, x3⟩
    left
    have bh := behind_eq (o := i) (t := 1000) (q := q) (a3 := -1) (C := C) hN hB hb hi hq (fun j hj => ⟨fun e => absurd e (m1_nI (by omega)), fun e => by omega⟩)
    by_cases z : pbV n B i 1000 q = nI (u i)
    · refine ⟨nI x, ?_, x, x1, rfl, fun k hk => ?_⟩
      · rw [f_X10_unlikeWithoutOil_4, if_neg (by rw [le_nn (by omega) (by omega)]; omega), ldR_lt hr, h0, bh, cal_some, ldA_nI (by omega) (by omega), hu i hi, if_pos z, nI_al]
      · rw [x3 k hk]
        by_cases e : k = i
        · subst e
          rw [if_neg (by omega), if_neg (fun q => q.2 z)]
        · by_cases e2 : k < i ∧ ¬ pbV n B k 1000 q = nI (u k)
          · rw [if_pos e2, if_pos ⟨by omega, e2.2⟩]
          · rw [if_neg e2, if_neg (fun q => e2 ⟨by omega, q.2⟩)]
    · obtain ⟨⟨w1, w2⟩, w3⟩ := bt_or x x1 i (by omega)
      refine ⟨nI x ||| ((1 : Int32) <<< (nI i &&& 31)), ?_, _, w1, w2, fun k hk => ?_⟩
      · rw [f_X10_unlikeWithoutOil_4, if_neg (by rw [le_nn (by omega) (by omega)]; omega), ldR_lt hr, h0, bh, cal_some, ldA_nI (by omega) (by omega), hu i hi, if_neg z, nI_al]
      · rw [w3 k hk]
        by_cases e : k = i
        · subst e
          rw [if_pos rfl, if_pos ⟨by omega, z⟩]
        · rw [if_neg e, x3 k hk]
          by_cases e2 : k < i ∧ ¬ pbV n B k 1000 q = nI (u k)
          · rw [if_pos e2, if_pos ⟨by omega, e2.2⟩]
          · rw [if_neg e2, if_neg (fun q => e2 ⟨by omega, q.2⟩)]
  · rintro m w ⟨x, x1, rfl, x3⟩
    refine ⟨x, x1, ?_, fun k hk => ?_⟩
    · rw [f_X10_unlikeWithoutOil_4, if_pos (by rw [le_nn (by omega) (by omega)]; exact Nat.le_refl _)]
      rfl
    · rw [x3 k hk]
      by_cases e2 : k < n.2.2.1 ∧ ¬ pbV n B k 1000 q = nI (u k)
      · rw [if_pos e2]
        exact ⟨fun e => absurd e (by decide), fun e => absurd (e e2.1) e2.2⟩
      · rw [if_neg e2]
        refine ⟨fun _ hk' => ?_, fun _ => rfl⟩
        exact Decidable.byContradiction fun q => e2 ⟨hk', q⟩
/-- what stays the same through all of it -/
def OSt (n : BN) (u : Nat → Nat) (q : Nat) (C1 C : CM) (X1 X : XM) : Prop := FO C1 C ∧ OB X1 X
theorem owner_step {u : Nat → Nat} {q o c m : Nat} {C1 C : CM} {X1 X : XM} (hN : 2000 ≤ N) (hB : BankR B (X1.1 2) n) (hb : C1.1 3 (C1.2 2 0 1) = B) (hr : C1.2 2 0 1 < 4) (hq : q ≤ 48) (h0 : C1.1 4 0 0 0 = nI q) (huC : ∀ p, p < n.2.2.1 → C1.1 0 0 1 p = nI (u p)) (huX : ∀ x, x < 940 → u x < 256 ∧ X1.1 1 x = byV (u x)) (hm : m < 256) (hbt : ∀ k, k < 8 → (bt (nI m) k = 0 ↔ (k < n.2.2.1 → pbV n B k 1000 q = nI (u k)))) (ho : o < n.2.2.1) (hc : c ≤ 48 * o) (hF : FO C1 C) (hO : OB X1 X) (hP : PrS c C X) (k81 : Int32 → Int32 → XM → Option (Int32 × XM)) :
    ∃ c' C' X', c' ≤ 48 * (o + 1) ∧ (if (nI m &&& (((1 : Int32) <<< (nI o &&& 31)) ^^^ (-1))) = 0 then f_X10_findPairs N (nI o) C else some (0, C)) = some (0, C') ∧ f_X11_oiled_94 N k81 (nI q) (nI o) N (nI c) 0 X = k81 (nI c') (nI (o + 1)) X' ∧ FO C1 C' ∧ OB X1 X' ∧ PrS c' C' X' := by
  have bd := bk_bd hB
  have row2 : ∀ {Y : XM}, OB X1 Y → BankR B (Y.1 2) n := fun {Y} h => bankR_congr hB (fun x hx => h.2.2.2.2 x (by omega))
  have row1 : ∀ {Y : XM}, OB X1 Y → ∀ x, x < 940 → u x < 256 ∧ Y.1 1 x = byV (u x) := fun {Y} h x hx => by
    rw [h.2.2.1 1 rfl (by omega) (by omega)]; exact huX x hx
  have hit : ∀ {t : Nat}, ((∀ p, p < n.2.2.1 → pbV n B p (if p = o then t else 1000) q = nI (u p)) ↔ ((∀ p, p < n.2.2.1 → p ≠ o → pbV n B p 1000 q = nI (u p)) ∧ pbV n B o t q = nI (u o))) := fun {t} => by
    constructor
    · intro a
      refine ⟨fun p hp hne => ?_, ?_⟩
      · have := a p hp
        rw [if_neg hne] at this
        exact this
      · have := a o ho
        rw [if_pos rfl] at this
        exact this
    · intro ⟨a1, a2⟩ p hp
      by_cases e : p = o
      · rw [if_pos e, e]; exact a2
      · rw [if_neg e]; exact a1 p hp e
  have elig : (nI m &&& (((1 : Int32) <<< (nI o &&& 31)) ^^^ (-1))) = 0 ↔ ∀ p, p < n.2.2.1 → p ≠ o → pbV n B p 1000 q = nI (u p) := by
    rw [bit_like m hm o (by omega)]
    constructor
    · intro a p hp hne
      exact (hbt p (by omega)).mp (a p (by omega) hne) hp
    · intro a j hj hne
      exact (hbt j hj).mpr (fun hp => a j hp hne)
  by_cases hE : (nI m &&& (((1 : Int32) <<< (nI o &&& 31)) ^^^ (-1))) = 0
  · rw [if_pos hE]
    have hEl := elig.mp hE
    unfold f_X10_findPairs
    have h0' : C.1 4 0 0 0 = nI q := by rw [hF.2 4 0 0 0 (by omega)]; exact h0
    rw [h0']
    have L := loop2 (fun k i D => f_X10_findPairs_13 N (nI o) (nI q) k i D) (fun k i (Z : Int32 × XM) => f_X11_oiled_94 N k81 (nI q) (nI o) k Z.1 i Z.2)
      (fun t D Z => ∃ c', c' ≤ 48 * o + t ∧ Z.1 = nI c' ∧ FO C1 D ∧ OB X1 Z.2 ∧ PrS c' D Z.2)
      (fun y z => ∃ c' C' X', c' ≤ 48 * (o + 1) ∧ y = some (0, C') ∧ z = k81 (nI c') (nI (o + 1)) X' ∧ FO C1 C' ∧ OB X1 X' ∧ PrS c' C' X') q ?_ ?_ q 0 N N C (nI c, X) (by omega) (by omega) (by omega) ⟨c, by omega, rfl, hF, hO, hP⟩
    · exact L
    · rintro k k' t D ⟨a2, Y⟩ ht ⟨c', hc', e1, fD, oY, pr⟩
      have e1 : a2 = nI c' := e1
      have oY : OB X1 Y := oY
      have pr : PrS c' D Y := pr
      left
      have hbD : D.1 3 (C1.2 2 0 1) = B := by
        rw [← hb]
        funext j x
        exact fD.2 3 _ j x (by omega)
      have bh := behind_eq (o := o) (t := t) (q := q) (a3 := nI t) (C := D) hN hB hbD ho hq (fun j hj => by rw [eq_nn (by omega) (by omega)])
      obtain ⟨f, Y1, f1, f2, f3⟩ := are_eq (u := u) (o := o) (t := t) (q := q) (X := Y) hN D hbD (row2 oY) ho (by omega) hq (row1 oY)
      obtain ⟨oY1, r12⟩ := ob_fy oY f2
      have hbyte : D.1 0 0 1 o = nI (u o) := by rw [fD.2 0 0 1 o (by omega)]; exact huC o ho
      rw [hit] at f3
      have exC : f_X10_findPairs_13 N (nI o) (nI q) (k + 1) (nI t) D = f_X10_findPairs_49 N (fun z3 c => f_X10_findPairs_13 N (nI o) (nI q) k z3 c) (nI o) (nI q) (nI t) (bI f) D := by
        rw [f_X10_findPairs_13, if_neg (by rw [le_nn (by omega) (by omega)]; omega), fD.1, ldR_lt hr, bh, cal_some, ldA_nI (by omega) (by omega), hbyte]
        cases f
        · rw [if_neg (fun e => absurd (f3.mpr ⟨hEl, e⟩) (by decide))]; rfl
        · rw [if_pos (f3.mp rfl).2]; rfl
      show ∃ (D' : CM) (Z' : Int32 × XM), f_X10_findPairs_13 N (nI o) (nI q) (k + 1) (nI t) D = f_X10_findPairs_13 N (nI o) (nI q) k (nI (t + 1)) D' ∧ f_X11_oiled_94 N k81 (nI q) (nI o) (k' + 1) a2 (nI t) Y = f_X11_oiled_94 N k81 (nI q) (nI o) k' Z'.1 (nI (t + 1)) Z'.2 ∧ ∃ c', c' ≤ 48 * o + (t + 1) ∧ Z'.1 = nI c' ∧ FO C1 D' ∧ OB X1 Z'.2 ∧ PrS c' D' Z'.2
      rw [exC, f_X11_oiled_94, if_neg (by rw [le_nn (by omega) (by omega)]; omega), f1, cal_some, e1]
      unfold f_X10_findPairs_49
      cases f
      · rw [if_pos (show bI false = (0 : Int32) from rfl), if_pos (show bI false = (0 : Int32) from rfl), nI_al]
        refine ⟨D, (nI c', Y1), rfl, rfl, c', by omega, rfl, fD, oY1, pr.1, fun k hk => ?_⟩
        show D.1 0 0 3 k = Y1.1 12 k
        rw [r12]
        exact pr.2 k hk
      · rw [if_neg (show ¬ bI true = (0 : Int32) by decide), if_neg (show ¬ bI true = (0 : Int32) by decide), pr.1, if_neg (by simp (disch := omega) only [le_ln]; omega), nI_lm, nI_add, stA_nI (by omega) (by omega), bnd_v, sxA_nI (by omega) (by omega), nI_al, nI_al]
        have p15 : ∀ v : Int32, (stC D 0 0 3 c' v).1 0 0 0 15 = nI c' := fun v => by rw [stC_row (by omega)]; exact pr.1
        rw [p15, nI_al]
        refine ⟨_, (nI (c' + 1), stX Y1 12 c' (nI (100 * o + t))), rfl, rfl, c' + 1, by omega, rfl, ⟨fD.1, fun k i j x h => ?_⟩, ob_12 oY1, stC_at, fun k hk => ?_⟩
        · simp only [stC]
          rw [if_neg (by omega), if_neg (by omega)]
          exact fD.2 k i j x h
        · rw [stC_row (by omega), stC_if]
          show _ = (stX Y1 12 c' (nI (100 * o + t))).1 12 k
          rw [stX_if]
          by_cases e : k = c'
          · rw [if_pos e, if_pos e]
          · rw [if_neg e, if_neg e, r12]
            exact pr.2 k (by omega)
    · rintro k k' D ⟨a2, Y⟩ ⟨c', hc', e1, fD, oY, pr⟩
      have e1 : a2 = nI c' := e1
      refine ⟨c', D, Y, by omega, ?_, ?_, fD, oY, pr⟩
      · rw [f_X10_findPairs_13, if_pos (by rw [le_nn (by omega) (by omega)]; exact Nat.le_refl _)]
        rfl
      · show f_X11_oiled_94 N k81 (nI q) (nI o) (k' + 1) a2 (nI q) Y = _
        rw [f_X11_oiled_94, if_pos (by rw [le_nn (by omega) (by omega)]; exact Nat.le_refl _), e1, nI_al]
  · rw [if_neg hE]
    have hEl : ¬ ∀ p, p < n.2.2.1 → p ≠ o → pbV n B p 1000 q = nI (u p) := fun a => hE (elig.mpr a)
    have L := loop1 (fun k i (Y : XM) => f_X11_oiled_94 N k81 (nI q) (nI o) k (nI c) i Y) (fun t Y => OB X1 Y ∧ PrS c C Y)
      (fun z => ∃ X', z = k81 (nI c) (nI (o + 1)) X' ∧ OB X1 X' ∧ PrS c C X') q ?_ ?_ q 0 N X (by omega) (by omega) ⟨hO, hP⟩
    · obtain ⟨X', x1, x2, x3⟩ := L
      exact ⟨c, C, X', by omega, rfl, x1, hF, x2, x3⟩
    · rintro k t Y ht ⟨oY, pr⟩
      left
      have hbD : C.1 3 (C1.2 2 0 1) = B := by
        rw [← hb]
        funext j x
        exact hF.2 3 _ j x (by omega)
      obtain ⟨f, Y1, f1, f2, f3⟩ := are_eq (u := u) (o := o) (t := t) (q := q) (X := Y) hN C hbD (row2 oY) ho (by omega) hq (row1 oY)
      obtain ⟨oY1, r12⟩ := ob_fy oY f2
      rw [hit] at f3
      have ff : f = false := by
        cases f
        · rfl
        · exact absurd (f3.mp rfl).1 hEl
      refine ⟨Y1, ?_, oY1, pr.1, fun k hk => by rw [r12]; exact pr.2 k hk⟩
      rw [f_X11_oiled_94, if_neg (by rw [le_nn (by omega) (by omega)]; omega), f1, cal_some, ff, if_pos (show bI false = (0 : Int32) from rfl), nI_al]
    · rintro k Y ⟨oY, pr⟩
      refine ⟨Y, ?_, oY, pr⟩
      rw [f_X11_oiled_94, if_pos (by rw [le_nn (by omega) (by omega)]; exact Nat.le_refl _), nI_al]
theorem op_oiled (hN : 2000 ≤ N) : OP (Rel N) (f_X10_oiled N) (f_X11_oiled N) := by
  intro C X hR
  have hR0 := rel_xe hR (xe_0 X 0)
  unfold f_X10_oiled f_X11_oiled
  simp only [bnd_v]
  generalize stX X 0 0 0 = X0 at hR0 ⊢
  obtain ⟨L, X1, hL, l1, t1, hR1, x3, x2, x4, x5, xf, xr, xn, u, hu⟩ := taken_rel 940 hR0
  rw [t1, cal_some, l1]
  have c01 : ∀ x, (stC C 0 0 0 1 0).1 0 0 1 x = C.1 0 0 1 x := fun x => by rw [stC_row (by omega)]
  generalize stC C 0 0 0 1 0 = C1 at hR1 c01
  obtain ⟨⟨n, hH, -⟩, hT, -, hRf, -, hM, hPr, hJ, hFl, -⟩ := id hR1
  have hb := (b_lt hRf).1
  have bd := bk_bd hH.1
  have huX : ∀ x, x < 940 → u x < 256 ∧ X1.1 1 x = byV (u x) := fun x hx => ⟨(hu x hx).1, by rw [xr 1 (by omega)]; exact (hu x hx).2.2⟩
  have huC : ∀ x, x < 940 → C1.1 0 0 1 x = byV (u x) := fun x hx => (c01 x).trans (hu x hx).2.1
  have s2 : X1.1 2 (OfNat.ofNat 2) = nI n.2.2.1 := (bk_o hH.1).2
  rw [ldR_lt hb, (bk_o hH.1).1, ldA_l (by decide) (by decide), s2, x3]
  by_cases hV : n.2.2.1 = 0
  · rw [if_pos (by rw [hV]; rfl), if_pos (by rw [hV]; rfl)]
    exact ⟨_, _, _, rfl, rfl, hR1⟩
  have hV0 : ¬ nI n.2.2.1 = (0 : Int32) := by
    rw [show (0 : Int32) = nI 0 from rfl, eq_nn (by omega) (by omega)]; exact hV
  rw [if_neg hV0, if_neg hV0, ldA_l (by decide) (by decide), s2]
  simp (disch := omega) only [eq_nn]
  by_cases hLV : L = n.2.2.1
  rotate_left
  · rw [if_neg hLV, if_neg hLV]
    exact ⟨_, _, _, rfl, rfl, hR1⟩
  rw [if_pos hLV, if_pos hLV]
  subst hLV
  refine loop2 (fun m i (_ : Unit) => f_X10_oiled_37 N (nI n.2.2.1) m i C1) (fun m i (_ : Unit) => f_X11_oiled_38 N m i X1) (fun k _ _ => ∀ p, p < k → u p ≤ 7) (fun y z => ∃ v C' X', y = some (v, C') ∧ z = some (v, X') ∧ Rel N C' X') n.2.2.1 ?_ ?_ n.2.2.1 0 N N () () (by omega) (by omega) (by omega) (fun p hp => absurd hp (Nat.not_lt_zero _))
  · rintro m m' i ⟨⟩ ⟨⟩ hi hI
    obtain ⟨u1, u2⟩ := huX i (by omega)
    have oc := octet_eq (Y := X1) (show i < 940 by omega) u1 u2
    rw [f_X10_oiled_37, f_X11_oiled_38, x3]
    simp (disch := omega) only [le_nn, if_neg, ldA_nI, huC i (by omega), oc, cal_some, le_nl, nI_al]
    by_cases h7 : u i ≤ 7
    · rw [if_pos h7, byV_lo (by omega), if_neg (nI_nneg (by omega)), if_pos (by simp (disch := omega) only [lt_nl]; omega)]
      refine Or.inl ⟨(), (), rfl, rfl, fun p hp => ?_⟩
      by_cases e : p = i
      · rw [e]; exact h7
      · exact hI p (by omega)
    · rw [if_neg h7]
      refine Or.inr ⟨-1, C1, X1, ?_, rfl, hR1⟩
      by_cases h128 : u i < 128
      · rw [byV_lo h128, if_neg (nI_nneg (by omega)), if_neg (by simp (disch := omega) only [lt_nl]; omega)]
        rfl
      · rw [if_pos (byV_neg0 u1 (by omega))]
        rfl
  · rintro m m' ⟨⟩ ⟨⟩ hI
    obtain ⟨q, hq, q1, -, -⟩ := sh_qb hH.2.1
    obtain ⟨Y, y1, y2, y3⟩ := xb_start N X1 hN
    have s371 : Y.1 2 (OfNat.ofNat 371) = nI q := by
      show Y.1 2 371 = nI q
      rw [y3]
      exact hH.2.1.1.2.2.2.symm.trans q1
    rw [f_X10_oiled_37, f_X11_oiled_38, x3, if_pos (by rw [le_nn (by omega) (by omega)]; exact Nat.le_refl _), if_pos (by rw [le_nn (by omega) (by omega)]; exact Nat.le_refl _), bnd_v, y1, cal_some, ldA_l (by decide) (by decide), s371]
    have hB : BankR (C1.1 3 (C1.2 2 0 1)) (X1.1 2) n := hH.1
    have huB : ∀ p, p < n.2.2.1 → C1.1 0 0 1 p = nI (u p) := fun p hp => by
      rw [huC p (by omega), byV_lo (by have := hI p hp; omega)]
    have f2 : FO C1 (stC C1 0 0 0 15 0) := ⟨rfl, fun k i j x h => by
      simp only [stC]
      rw [if_neg (by omega)]⟩
    obtain ⟨mm, m1, m2, m3⟩ := unlike_eq (u := u) (q := q) (C := stC C1 0 0 0 15 0) hN hB (funext fun j => funext fun x => f2.2 3 _ j x (by omega)) hb hq (by rw [stC_ob (by omega)]; exact q1) (fun p hp => by rw [stC_row (by omega)]; exact huB p hp)
    rw [m2, cal_some]
    -- owner by owner
    refine loop2 (fun k i D => f_X10_oiled_84 N (nI n.2.2.1) (nI mm) k i D) (fun k i (Z : Int32 × XM) => f_X11_oiled_81 N (nI q) k Z.1 i Z.2)
      (fun o D Z => ∃ c, c ≤ 48 * o ∧ Z.1 = nI c ∧ FO C1 D ∧ OB X1 Z.2 ∧ PrS c D Z.2)
      (fun y z => ∃ v C' X', y = some (v, C') ∧ z = some (v, X') ∧ Rel N C' X') n.2.2.1 ?_ ?_ n.2.2.1 0 N N (stC C1 0 0 0 15 0) (0, Y) (by omega) (by omega) (by omega) ⟨0, by omega, rfl, f2, xb_ob y2, stC_at, fun k hk => absurd hk (Nat.not_lt_zero _)⟩
    · rintro k k' o D ⟨a2, Z⟩ ho ⟨c, hc, e1, fD, oZ, pr⟩
      have e1 : a2 = nI c := e1
      have oZ : OB X1 Z := oZ
      have pr : PrS c D Z := pr
      left
      obtain ⟨c', D', Z', w1, w2, w3, w4, w5, w6⟩ := owner_step (u := u) (q := q) (o := o) (c := c) (m := mm) hN hB rfl hb hq q1 huB huX m1 m3 ho hc fD oZ pr (fun z2 z3 c => f_X11_oiled_81 N (nI q) k' z2 z3 c)
      show ∃ (D'' : CM) (Z'' : Int32 × XM), f_X10_oiled_84 N (nI n.2.2.1) (nI mm) (k + 1) (nI o) D = f_X10_oiled_84 N (nI n.2.2.1) (nI mm) k (nI (o + 1)) D'' ∧ f_X11_oiled_81 N (nI q) (k' + 1) a2 (nI o) Z = f_X11_oiled_81 N (nI q) k' Z''.1 (nI (o + 1)) Z''.2 ∧ ∃ c, c ≤ 48 * (o + 1) ∧ Z''.1 = nI c ∧ FO C1 D'' ∧ OB X1 Z''.2 ∧ PrS c D'' Z''.2
      have sZ : Z.1 2 (OfNat.ofNat 2) = nI n.2.2.1 := by
        show Z.1 2 2 = _
        rw [oZ.2.2.2.2 2 (by omega)]
        exact (bk_o hH.1).2
      refine ⟨D', (nI c', Z'), ?_, ?_, c', w1, rfl, w4, w5, w6⟩
      · rw [f_X10_oiled_84, if_neg (by rw [le_nn (by omega) (by omega)]; omega), nI_al]
        by_cases z : (nI mm &&& (((1 : Int32) <<< (nI o &&& 31)) ^^^ (-1))) = 0
        · rw [if_pos z] at w2
          rw [if_pos z, w2, cal_some]
        · rw [if_neg z] at w2
          injection w2 with w2
          injection w2 with _ w2
          rw [if_neg z, w2]
      · rw [f_X11_oiled_81, ldA_l (by decide) (by decide), sZ, if_neg (by rw [le_nn (by omega) (by omega)]; omega), e1]
        exact w3
    · rintro k k' D ⟨a2, Z⟩ ⟨c, hc, e1, fD, oZ, pr⟩
      have e1 : a2 = nI c := e1
      have oZ : OB X1 Z := oZ
      have pr : PrS c D Z := pr
      have sZ : Z.1 2 (OfNat.ofNat 2) = nI n.2.2.1 := by
        show Z.1 2 2 = _
        rw [oZ.2.2.2.2 2 (by omega)]
        exact (bk_o hH.1).2
      obtain ⟨Y5, b1, b2, -, -, -⟩ := xb_back hN (ob_xb oZ)
      have yF : ∀ x, lastF x = true → Y5.1 0 x = X1.1 0 x := fun x hx => by rw [b2.1 x hx, rwX_out (by omega)]
      have yR : ∀ j, lastR j = true → j ≠ 12 → Y5.1 j = X1.1 j := fun j hj h12 => by rw [b2.2.1 j hj, rwX_out h12]
      have y12 : Y5.1 12 = Z.1 12 := by rw [b2.2.1 12 rfl, rwX_in]
      refine ⟨nI c, D, stX Y5 0 38 (nI c), ?_, ?_, ?_⟩
      · rw [f_X10_oiled_84, if_pos (by rw [le_nn (by omega) (by omega)]; exact Nat.le_refl _), pr.1]
        rfl
      · show f_X11_oiled_81 N (nI q) (k' + 1) a2 (nI n.2.2.1) Z = _
        rw [f_X11_oiled_81, ldA_l (by decide) (by decide), sZ, if_pos (by rw [le_nn (by omega) (by omega)]; exact Nat.le_refl _), b1, cal_some, e1]
        rfl
      · refine rel_upd hR1 ⟨fD.1, fun k i j x h1 _ => fD.2 k i j x (by omega)⟩ ⟨?_, ?_, ?_, ?_, ?_, fun x hx => ?_, ?_, ?_⟩ ?_ ?_ ?_ ?_ ?_
        · rw [stX_row (by omega)]; exact yR 2 rfl (by omega)
        · rw [stX_row (by omega)]; exact yR 10 rfl (by omega)
        · rw [stX_row (by omega)]; exact yR 17 rfl (by omega)
        · rw [stX_row (by omega)]; exact yR 19 rfl (by omega)
        · rw [stX_ne (by omega)]; exact yF 33 rfl
        · exact b2.2.2.1 x hx
        · exact b2.2.2.2.1
        · exact b2.2.2.2.2
        · obtain ⟨L, l1, l2, l3, l4⟩ := hT
          refine ⟨L, l1, ?_, ?_, fun x hx => ?_⟩
          · rw [fD.2 0 0 0 1 (by omega)]; exact l2
          · rw [stX_ne (by omega), yF 2 rfl]; exact l3
          · rw [fD.2 0 0 1 x (by omega), stX_row (by omega), yR 1 rfl (by omega)]; exact l4 x hx
        · unfold MoreR
          rw [fD.2 0 0 0 13 (by omega), stX_ne (by omega), stX_ne (by omega), yF 35 rfl, yF 34 rfl]
          exact hM
        · refine ⟨c, by omega, pr.1, stX_at, fun k hk => ?_⟩
          rw [stX_row (by omega), y12]
          exact pr.2 k hk
        · unfold JudR
          rw [stX_ne (by omega), stX_row (by omega), yF 43 rfl, yR 13 rfl (by omega)]
          rcases hJ with ⟨j1, j2⟩ | ⟨j1, j2⟩
          · exact Or.inl ⟨j1, fun i hi => by rw [fD.2 0 0 5 i (by omega)]; exact j2 i hi⟩
          · exact Or.inr ⟨j1, fun i hi => by rw [fD.2 0 0 5 i (by omega)]; exact j2 i hi⟩
        · rw [fD.2 0 0 0 3 (by omega), stX_ne (by omega), yF 15 rfl]
          exact hFl
end OIL3
