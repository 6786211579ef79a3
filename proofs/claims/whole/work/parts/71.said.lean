/-! said. -/
def bb (x : Int32) (k : Nat) : Bool := x.toBitVec.getLsbD k
theorem bb_and (x y : Int32) (k : Nat) : bb (x &&& y) k = (bb x k && bb y k) := by
  show (x.toBitVec &&& y.toBitVec).getLsbD k = _
  rw [BitVec.getLsbD_and]
  rfl
theorem bb_or (x y : Int32) (k : Nat) : bb (x ||| y) k = (bb x k || bb y k) := by
  show (x.toBitVec ||| y.toBitVec).getLsbD k = _
  rw [BitVec.getLsbD_or]
  rfl
theorem bb_not (x : Int32) (k : Nat) (hk : k < 32) : bb (x ^^^ (-1)) k = !bb x k := by
  show (x.toBitVec ^^^ BitVec.allOnes 32).getLsbD k = _
  rw [BitVec.getLsbD_xor, BitVec.getLsbD_allOnes]
  simp [hk, bb]
theorem bt_bb (x : Int32) {k : Nat} (hk : k < 8) : bt x k = if bb x k = true then 1 else 0 := bt_lsb x k hk
theorem bb_of {x : Int32} {k : Nat} (hk : k < 8) {p : Bool} (h : bt x k = if p = true then 1 else 0) : bb x k = p := by
  rw [bt_bb x hk] at h
  cases p <;> cases hb : bb x k <;> rw [hb] at h <;> first | rfl | exact absurd h (by decide)
theorem mask_bb : ∀ O, O < 9 → ∀ k, k < 8 → bb (((1 : Int32) <<< (nI O &&& 31)) - 1) k = decide (k < O) := by decide +kernel
theorem mask_lt : ∀ O, O < 9 → (((1 : Int32) <<< (nI O &&& 31)) - 1).toBitVec.toNat < 256 := by decide +kernel
theorem and_small (x y : Int32) (h : y.toBitVec.toNat < 256) : ∃ m, m < 256 ∧ x &&& y = nI m := by
  refine ⟨(x &&& y).toBitVec.toNat, ?_, ?_⟩
  · show (x.toBitVec &&& y.toBitVec).toNat < 256
    rw [BitVec.toNat_and]
    exact Nat.lt_of_le_of_lt Nat.and_le_right h
  · apply Int32.toBitVec_inj.1
    show _ = BitVec.ofNat 32 _
    simp
def stS (cd : Nat → Nat) (lf : Nat → Bool) : Nat → Nat → Bool
  | 0, _ => false
  | i + 1, t => if cd i = 10 then (if t = dpS cd i - 1 then !stS cd lf i t else stS cd lf i t) else if cd i = 11 then (if t = dpS cd i - 2 then stS cd lf i t && stS cd lf i (t + 1) else stS cd lf i t) else if cd i = 12 then (if t = dpS cd i - 2 then stS cd lf i t || stS cd lf i (t + 1) else stS cd lf i t) else (if t = dpS cd i then lf i else stS cd lf i t)
def bI (b : Bool) : Int32 := if b = true then 1 else 0
theorem bI0 {b : Bool} : (bI b = 0) = (b = false) := by cases b <;> simp [bI]
theorem nrZ_bI (b : Bool) : nrZ (bI b) = bI b := by cases b <;> rfl
theorem isB_bI (b : Bool) : isB (bI b) = true := by cases b <;> rfl
section SAI
variable {N : Nat}
/-- all but the sentence's stack -/
def FS (C D : CM) : Prop := D.2 = C.2 ∧ ∀ k i j x, ¬ (k = 6 ∧ j = 4) → D.1 k i j x = C.1 k i j x
theorem ce_fs {C D : CM} (h : FS C D) : CE C D := ⟨h.1, fun k i j x hs => h.2 k i j x (by rintro ⟨rfl, rfl⟩; simp [scrC] at hs)⟩
theorem cmp_rel {se i : Nat} {v w : Int32} {g : Nat} {D : CM} {Y : XM} (hi : i < 40) (hg : 60 ≤ g ∧ g ≤ 62) (h2 : D.1 6 se 2 i = nI g) (h3 : D.1 6 se 3 i = w) : ∃ p, f_X5_compare se v (nI i) D = some (bI p, D) ∧ f_X11_isLeaf_106 (nI g) w v Y = some (bI p, Y) := by
  unfold f_X5_compare f_X11_isLeaf_106
  rw [ldA_nI hi (by omega), h2, ldA_nI hi (by omega), ldA_nI hi (by omega), ldA_nI hi (by omega), h3]
  rcases (by omega : g = 60 ∨ g = 61 ∨ g = 62) with rfl | rfl | rfl
  · rw [if_pos (show nI 60 = (60 : Int32) from rfl), if_pos (show nI 60 = (60 : Int32) from rfl)]
    by_cases h : w ≤ v
    · rw [if_pos h, if_pos h]
      exact ⟨false, rfl, rfl⟩
    · rw [if_neg h, if_neg h]
      exact ⟨true, rfl, rfl⟩
  · rw [if_neg (show ¬ nI 61 = (60 : Int32) by decide), if_neg (show ¬ nI 61 = (60 : Int32) by decide), if_pos (show nI 61 = (61 : Int32) from rfl), if_pos (show nI 61 = (61 : Int32) from rfl)]
    by_cases h : v = w
    · rw [if_pos h, if_pos h]
      exact ⟨true, rfl, rfl⟩
    · rw [if_neg h, if_neg h]
      exact ⟨false, rfl, rfl⟩
  · rw [if_neg (show ¬ nI 62 = (60 : Int32) by decide), if_neg (show ¬ nI 62 = (60 : Int32) by decide), if_neg (show ¬ nI 62 = (61 : Int32) by decide), if_neg (show ¬ nI 62 = (61 : Int32) by decide)]
    by_cases h : v ≤ w
    · rw [if_pos h, if_pos h]
      exact ⟨false, rfl, rfl⟩
    · rw [if_neg h, if_neg h]
      exact ⟨true, rfl, rfl⟩
theorem leaf_rel {n : BN} {C D : CM} {X Y : XM} {k i c : Nat} (hH : HereR C X n) (hk : k < n.2.2.1) (hi : i < 40) (hc : c < 6) (hs0 : C.1 6 (C.2 2 0 4) 1 i = nI (cdW c)) (hs1 : 0 < c → (∃ g, 60 ≤ g ∧ g ≤ 62 ∧ C.1 6 (C.2 2 0 4) 2 i = nI g ∧ X.1 2 (666 + 3 * i) = nI g) ∧ C.1 6 (C.2 2 0 4) 3 i = X.1 2 (667 + 3 * i)) (hD : FS C D) (hY : Y.1 2 = X.1 2) :
    ∃ p, f_X5_isSo (C.2 2 0 4) 0 (nI k) (nI i) D = some (bI p, D) ∧ f_X11_isLeaf (nI k) (nI c) (X.1 2 (666 + 3 * i)) (X.1 2 (667 + 3 * i)) Y = some (bI p, Y) := by
  have bd := bk_bd hH.1
  have hk8 : k < 8 := by omega
  have hS := hH.2.1
  have row := sh_row hS
  have d6 : ∀ j x, j ≠ 4 → D.1 6 (C.2 2 0 4) j x = C.1 6 (C.2 2 0 4) j x := fun j x hj => hD.2 6 _ j x (by omega)
  have d4 : ∀ j x, D.1 4 0 j x = C.1 4 0 j x := fun j x => hD.2 4 0 j x (by omega)
  have e1 : D.1 6 (C.2 2 0 4) 1 i = nI (cdW c) := (d6 1 i (by omega)).trans hs0
  have hcd : cdW c = 18 + c := by unfold cdW; rw [if_pos hc]
  unfold f_X5_isSo f_X11_isLeaf
  rw [ldA_nI hi (by omega), e1, hcd]
  rcases (by omega : c = 0 ∨ 0 < c) with rfl | hc0
  · rw [if_pos (show nI (18 + 0) = (18 : Int32) from rfl), if_pos (show nI 0 = (0 : Int32) from rfl)]
    obtain ⟨l, l1, l2, l3⟩ := sh_lt hS
    obtain ⟨q, hq, -, -, q3⟩ := sh_qb hS
    obtain ⟨-, -, ⟨p, hp, hp1⟩, -⟩ := q3 k hk8
    have x397 : Y.1 2 (397 + k) = nI p := by
      rw [hY]
      exact (row 4 k (by omega) (by omega) hk8).symm.trans hp1
    have x541 : Y.1 2 541 = nI l := by rw [hY]; exact l2
    have c4 : D.1 4 0 4 k = nI p := (d4 4 k).trans hp1
    have c04 : D.1 4 0 0 4 = nI l - 1 := (d4 0 4).trans l3
    simp (disch := omega) only [ldA_nI, ldA_l, nI_la, x397, x541, c4, c04, nI_al, eq_nn]
    by_cases h : l = p + 1
    · subst h
      rw [nI_m1, if_pos rfl, if_pos rfl]
      exact ⟨true, rfl, rfl⟩
    · rw [if_neg h, if_neg]
      · exact ⟨false, rfl, rfl⟩
      · intro e
        have e2 : nI p + 1 = nI l := by rw [e, Int32.sub_add_cancel]
        rw [nI_al, eq_nn (by omega) (by omega)] at e2
        exact h e2.symm
  · obtain ⟨⟨g, g1, g2, g3, g4⟩, g5⟩ := hs1 hc0
    have h2 : D.1 6 (C.2 2 0 4) 2 i = nI g := (d6 2 i (by omega)).trans g3
    have h3 : D.1 6 (C.2 2 0 4) 3 i = X.1 2 (667 + 3 * i) := (d6 3 i (by omega)).trans g5
    rw [g4]
    rcases (by omega : c = 1 ∨ c = 2 ∨ c = 3 ∨ c = 4 ∨ c = 5) with rfl | rfl | rfl | rfl | rfl
    · obtain ⟨p, p1, p2⟩ := cmp_rel (v := X.1 2 (373 + k)) (Y := Y) hi ⟨g1, g2⟩ h2 h3
      have cv : D.1 4 0 1 k = X.1 2 (373 + k) := (d4 1 k).trans (row 1 k (by omega) (by omega) hk8)
      refine ⟨p, ?_, ?_⟩
      · rw [if_neg (by decide), if_pos (show nI (18 + 1) = (19 : Int32) from rfl), ldA_nI hk8 (by omega), cv, p1, cal_some, isB_bI]
        rfl
      · rw [if_neg (by decide), if_pos (show nI 1 = (1 : Int32) from rfl)]
        simp (disch := omega) only [nI_la, ldA_nI, hY]
        exact p2
    · obtain ⟨p, p1, p2⟩ := cmp_rel (v := X.1 2 (381 + k)) (Y := Y) hi ⟨g1, g2⟩ h2 h3
      have cv : D.1 4 0 2 k = X.1 2 (381 + k) := (d4 2 k).trans (row 2 k (by omega) (by omega) hk8)
      refine ⟨p, ?_, ?_⟩
      · rw [if_neg (by decide), if_neg (by decide), if_pos (show nI (18 + 2) = (20 : Int32) from rfl), ldA_nI hk8 (by omega), cv, p1, cal_some, isB_bI]
        rfl
      · rw [if_neg (by decide), if_neg (by decide), if_pos (show nI 2 = (2 : Int32) from rfl)]
        simp (disch := omega) only [nI_la, ldA_nI, hY]
        exact p2
    · obtain ⟨p, p1, p2⟩ := cmp_rel (v := X.1 2 (389 + k)) (Y := Y) hi ⟨g1, g2⟩ h2 h3
      have cv : D.1 4 0 3 k = X.1 2 (389 + k) := (d4 3 k).trans (row 3 k (by omega) (by omega) hk8)
      refine ⟨p, ?_, ?_⟩
      · rw [if_neg (by decide), if_neg (by decide), if_neg (by decide), if_pos (show nI (18 + 3) = (21 : Int32) from rfl), ldA_nI hk8 (by omega), cv, p1, cal_some, isB_bI]
        rfl
      · rw [if_neg (by decide), if_neg (by decide), if_neg (by decide), if_pos (show nI 3 = (3 : Int32) from rfl)]
        simp (disch := omega) only [nI_la, ldA_nI, hY]
        exact p2
    · obtain ⟨p, p1, p2⟩ := cmp_rel (v := X.1 2 (397 + k)) (Y := Y) hi ⟨g1, g2⟩ h2 h3
      have cv : D.1 4 0 4 k = X.1 2 (397 + k) := (d4 4 k).trans (row 4 k (by omega) (by omega) hk8)
      refine ⟨p, ?_, ?_⟩
      · rw [if_neg (by decide), if_neg (by decide), if_neg (by decide), if_neg (by decide), if_pos (show nI (18 + 4) = (22 : Int32) from rfl), ldA_nI hk8 (by omega), cv, p1, cal_some, isB_bI]
        rfl
      · rw [if_neg (by decide), if_neg (by decide), if_neg (by decide), if_neg (by decide), if_pos (show nI 4 = (4 : Int32) from rfl)]
        simp (disch := omega) only [nI_la, ldA_nI, hY]
        exact p2
    · obtain ⟨p, p1, p2⟩ := cmp_rel (v := nI k) (Y := Y) hi ⟨g1, g2⟩ h2 h3
      refine ⟨p, ?_, ?_⟩
      · rw [if_neg (by decide), if_neg (by decide), if_neg (by decide), if_neg (by decide), if_neg (by decide), p1, cal_some, isB_bI]
        rfl
      · rw [if_neg (by decide), if_neg (by decide), if_neg (by decide), if_neg (by decide), if_neg (by decide)]
        exact p2
end SAI
