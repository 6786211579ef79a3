/-- a cell with one place changed, all others as they were -/
theorem hold_put {G : GX} {M M' : Mem} {H H1 : Heap} {k i j x : Nat} {v : Value} (hG : GOK G) (hv : vd k i j) (hH : Hold G M H) (hc : celO G (updV (vl G M k i j) x v) k i j H1) (ho : ∀ q : Nat, q ≠ gA G k i j → H1[q]? = H[q]?)
    (hM : ∀ k' i' j' x', vd k' i' j' → vl G M' k' i' j' x' = if k' = k ∧ i' = i ∧ j' = j ∧ x' = x then v else vl G M k' i' j' x') : Hold G M' H1 := by
  intro k' i' j' hv'
  by_cases he : k' = k ∧ i' = i ∧ j' = j
  · obtain ⟨rfl, rfl, rfl⟩ := he
    have hf : vl G M' k' i' j' = updV (vl G M k' i' j') x v := by
      funext x'
      rw [hM k' i' j' x' hv']
      simp [updV]
    rw [hf]; exact hc
  · have hf : vl G M' k' i' j' = vl G M k' i' j' := by
      funext x'
      rw [hM k' i' j' x' hv', if_neg (fun z => he ⟨z.1, z.2.1, z.2.2.1⟩)]
    have hne : gA G k' i' j' ≠ gA G k i j := fun z => he (hG.1 _ _ _ _ _ _ hv' hv z)
    have h0 := hH k' i' j' hv'
    rw [hf]
    unfold celO at h0 ⊢
    split
    · rename_i t n hck
      rw [hck] at h0
      rw [ho _ hne]; exact h0
    · rename_i ci hck
      rw [hck] at h0
      obtain ⟨r, h1, h2⟩ := h0
      exact ⟨r, h1, h2.kept (ho _ hne)⟩
/-- the same, of a row -/
theorem hold_row {G : GX} {M M' : Mem} {H H1 : Heap} {k i j : Nat} {V : Nat → Value} (hG : GOK G) (hv : vd k i j) (hH : Hold G M H) (hc : celO G V k i j H1) (ho : ∀ q : Nat, q ≠ gA G k i j → H1[q]? = H[q]?)
    (hM : ∀ k' i' j' x', vd k' i' j' → vl G M' k' i' j' x' = if k' = k ∧ i' = i ∧ j' = j then V x' else vl G M k' i' j' x') : Hold G M' H1 := by
  intro k' i' j' hv'
  by_cases he : k' = k ∧ i' = i ∧ j' = j
  · obtain ⟨rfl, rfl, rfl⟩ := he
    have hf : vl G M' k' i' j' = V := by
      funext x'
      rw [hM k' i' j' x' hv']
      simp
    rw [hf]; exact hc
  · have hf : vl G M' k' i' j' = vl G M k' i' j' := by
      funext x'
      rw [hM k' i' j' x' hv', if_neg he]
    have hne : gA G k' i' j' ≠ gA G k i j := fun z => he (hG.1 _ _ _ _ _ _ hv' hv z)
    have h0 := hH k' i' j' hv'
    rw [hf]
    unfold celO at h0 ⊢
    split
    · rename_i t n hck
      rw [hck] at h0
      rw [ho _ hne]; exact h0
    · rename_i ci hck
      rw [hck] at h0
      obtain ⟨r, h1, h2⟩ := h0
      exact ⟨r, h1, h2.kept (ho _ hne)⟩
/-- how many places of a cell count -/
def lenO (k j : Nat) : Nat := match ck k j with
  | .inl (_, n) => n
  | .inr ci => match vwCl[ci]? with
    | some r => r.2.2
    | none => 0
/-- what lies behind a cell's end counts nothing -/
theorem hold_eqv {G : GX} {M M' : Mem} {H : Heap} (hH : Hold G M H) (hM : ∀ k i j x, vd k i j → x < lenO k j → vl G M' k i j x = vl G M k i j x) : Hold G M' H := by
  intro k i j hv
  have h0 := hH k i j hv
  have hm := fun x hx => hM k i j x hv hx
  unfold celO at h0 ⊢
  unfold lenO at hm
  split
  · rename_i t n hck
    rw [hck] at h0 hm
    rw [h0]
    have : arrV (G.2.1 t) n (vl G M k i j) = arrV (G.2.1 t) n (vl G M' k i j) := by
      unfold arrV
      congr 1
      apply congrArg
      funext z
      exact (hm z.val z.isLt).symm
    rw [this]
  · rename_i ci hck
    rw [hck] at h0 hm
    obtain ⟨r, h1, h2⟩ := h0
    dsimp only at hm
    rw [h1] at hm
    exact ⟨r, h1, h2.to (fun x hx => (hm x hx).symm)⟩
theorem vl_stC {G : GX} {C : CM} {X : XM} {k i j x : Nat} {v : Int32} (hk : k ≠ 10) (ht : tc k j x = 0) : ∀ k' i' j' x', vd k' i' j' → vl G (stC C k i j x v, X) k' i' j' x' = if k' = k ∧ i' = i ∧ j' = j ∧ x' = x then .int v else vl G (C, X) k' i' j' x' := by
  intro k' i' j' x' _
  by_cases he : k' = k ∧ i' = i ∧ j' = j ∧ x' = x
  · obtain ⟨rfl, rfl, rfl, rfl⟩ := he
    rw [if_pos ⟨rfl, rfl, rfl, rfl⟩]
    unfold vl vI
    rw [ht]
    simp [stC, hk]
  · rw [if_neg he]
    unfold vl vI vL vr stC
    simp only
    rw [if_neg he]
theorem vl_stX {G : GX} {C : CM} {X : XM} {j x : Nat} {v : Int32} (ht : tc 10 j x = 0) : ∀ k' i' j' x', vd k' i' j' → vl G (C, stX X j x v) k' i' j' x' = if k' = 10 ∧ i' = 0 ∧ j' = j ∧ x' = x then .int v else vl G (C, X) k' i' j' x' := by
  intro k' i' j' x' hv
  by_cases he : k' = 10 ∧ i' = 0 ∧ j' = j ∧ x' = x
  · obtain ⟨rfl, rfl, rfl, rfl⟩ := he
    rw [if_pos ⟨rfl, rfl, rfl, rfl⟩]
    unfold vl vI
    rw [ht]
    simp [stX]
  · rw [if_neg he]
    unfold vl vI vL vr stX
    simp only
    by_cases hk : k' = 10
    · subst hk
      have h0 : i' = 0 := by have := hv.1; simp [cntK] at this; omega
      rw [if_pos rfl, if_pos rfl, if_neg (fun z => he ⟨rfl, h0, z.1, z.2⟩)]
    · rw [if_neg hk, if_neg hk]
theorem vl_stL {G : GX} {C : CM} {X : XM} {j x : Nat} {v : Int64} (hj : j ≠ 20) (ht : tc 10 j x = 1) : ∀ k' i' j' x', vd k' i' j' → vl G (C, stL X j x v) k' i' j' x' = if k' = 10 ∧ i' = 0 ∧ j' = j ∧ x' = x then .long v else vl G (C, X) k' i' j' x' := by
  intro k' i' j' x' hv
  by_cases he : k' = 10 ∧ i' = 0 ∧ j' = j ∧ x' = x
  · obtain ⟨rfl, rfl, rfl, rfl⟩ := he
    rw [if_pos ⟨rfl, rfl, rfl, rfl⟩]
    unfold vl vL
    rw [ht]
    simp [stL]
  · rw [if_neg he]
    unfold vl
    split
    · rfl
    · rename_i ht'
      unfold vL stL
      simp only
      by_cases hk : k' = 11
      · rw [if_pos hk, if_neg (fun z => hj z.1.symm)]
      · rw [if_neg hk]
        by_cases h1 : j' = j ∧ x' = x
        · obtain ⟨rfl, rfl⟩ := h1
          exfalso
          by_cases h10 : k' = 10
          · subst h10
            have h0 : i' = 0 := by have := hv.1; simp [cntK] at this; omega
            exact he ⟨rfl, h0, rfl, rfl⟩
          · revert ht'
            unfold tc
            split <;> first | contradiction | (unfold tc_0 tc_0_0 <;> (repeat' split) <;> simp) | (unfold tc_1 tc_1_0 <;> (repeat' split) <;> simp) | (unfold tc_2 tc_2_0 <;> (repeat' split) <;> simp) | (unfold tc_3 tc_3_0 tc_3_6 <;> (repeat' split) <;> simp) | (unfold tc_4 tc_4_0 <;> (repeat' split) <;> simp) | (unfold tc_5 tc_5_0 <;> (repeat' split) <;> simp) | (unfold tc_6 tc_6_0 <;> (repeat' split) <;> simp) | (unfold tc_7 tc_7_0 <;> (repeat' split) <;> simp) | (unfold tc_8 tc_8_0 <;> (repeat' split) <;> simp) | (unfold tc_9 tc_9_0 <;> (repeat' split) <;> simp) | simp
        · rw [if_neg h1]
    · rfl
/-- the references of Whole and GaleBank that change -/
def dynR (k f : Nat) : Bool := (k == 0 && (f == 6 || f == 7 || f == 8)) || (k == 2 && (f == 1 || f == 3 || f == 4))
def dynK (k f : Nat) : Nat := match k, f with
  | 0, 6 => 3
  | 0, 7 => 5
  | 0, 8 => 6
  | 2, 1 => 3
  | 2, 3 => 5
  | _, _ => 6
theorem vl_rfC {G : GX} {C : CM} {X : XM} {k i f v : Nat} (hd : dynR k f = true) : ∀ k' i' j' x', vd k' i' j' → vl G (rfC C k i f v, X) k' i' j' x' = if k' = k ∧ i' = i ∧ j' = 0 ∧ x' = f then .ref (gA G (dynK k f) v 0) else vl G (C, X) k' i' j' x' := by
  intro k' i' j' x' _
  have hcase : (k = 0 ∧ (f = 6 ∨ f = 7 ∨ f = 8)) ∨ (k = 2 ∧ (f = 1 ∨ f = 3 ∨ f = 4)) := by simpa [dynR, or_assoc] using hd
  by_cases he : k' = k ∧ i' = i ∧ j' = 0 ∧ x' = f
  · obtain ⟨rfl, rfl, rfl, rfl⟩ := he
    rw [if_pos ⟨rfl, rfl, rfl, rfl⟩]
    rcases hcase with ⟨rfl, rfl | rfl | rfl⟩ | ⟨rfl, rfl | rfl | rfl⟩ <;> simp [vl, vr, tc, tc_0, tc_0_0, tc_2, tc_2_0, rf, rf_0, rf_0_0, rf_2, rf_2_0, rfC, dynK]
  · rw [if_neg he]
    have hrf : rf (rfC C k i f v).2 i' k' j' x' = rf C.2 i' k' j' x' := by
      unfold rf
      split <;> try rfl
      · unfold rf_0
        split <;> try rfl
        unfold rf_0_0 rfC
        simp only
        split <;> first | rfl | (rw [if_neg (fun z => he ⟨z.1, z.2.1, rfl, z.2.2⟩)])
      · unfold rf_2
        split <;> try rfl
        unfold rf_2_0 rfC
        simp only
        split <;> first | rfl | (rw [if_neg (fun z => he ⟨z.1, z.2.1, rfl, z.2.2⟩)])
    show vl G (rfC C k i f v, X) k' i' j' x' = _
    unfold vl vr
    show (match tc k' j' x' with | 0 => Value.int (vI (rfC C k i f v, X) k' i' j' x') | 1 => Value.long (vL (rfC C k i f v, X) k' j' x') | _ => Value.ref (gA G (rf (rfC C k i f v).2 i' k' j' x').1 (rf (rfC C k i f v).2 i' k' j' x').2.1 (rf (rfC C k i f v).2 i' k' j' x').2.2)) = _
    rw [hrf]
    rfl
