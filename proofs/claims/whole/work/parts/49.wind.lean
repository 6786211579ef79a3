/-! The wind: both sides in step. -/
theorem loop2 {β γ β' γ' : Type} (F : Nat → Int32 → β → Option γ) (G : Nat → Int32 → β' → Option γ') (Inv : Nat → β → β' → Prop) (Post : Option γ → Option γ' → Prop) (n : Nat)
    (hs : ∀ m m' k b b', k < n → Inv k b b' → (∃ c c', F (m + 1) (nI k) b = F m (nI (k + 1)) c ∧ G (m' + 1) (nI k) b' = G m' (nI (k + 1)) c' ∧ Inv (k + 1) c c') ∨ Post (F (m + 1) (nI k) b) (G (m' + 1) (nI k) b'))
    (he : ∀ m m' b b', Inv n b b' → Post (F (m + 1) (nI n) b) (G (m' + 1) (nI n) b')) :
    ∀ (d k fu fu' : Nat) b b', k + d = n → d < fu → d < fu' → Inv k b b' → Post (F fu (nI k) b) (G fu' (nI k) b') := by
  intro d
  induction d with
  | zero =>
    intro k fu fu' b b' hk hf hf' hi
    obtain ⟨m, rfl⟩ : ∃ m, fu = m + 1 := ⟨fu - 1, by omega⟩
    obtain ⟨m', rfl⟩ : ∃ m', fu' = m' + 1 := ⟨fu' - 1, by omega⟩
    have : k = n := by omega
    subst this
    exact he m m' b b' hi
  | succ d ih =>
    intro k fu fu' b b' hk hf hf' hi
    obtain ⟨m, rfl⟩ : ∃ m, fu = m + 1 := ⟨fu - 1, by omega⟩
    obtain ⟨m', rfl⟩ : ∃ m', fu' = m' + 1 := ⟨fu' - 1, by omega⟩
    rcases hs m m' k b b' (by omega) hi with ⟨c, c', h1, h2, h3⟩ | h
    · rw [h1, h2]
      exact ih (k + 1) m m' c c' (by omega) (by omega) (by omega) h3
    · exact h
theorem loop1 {β γ : Type} (F : Nat → Int32 → β → Option γ) (Inv : Nat → β → Prop) (Post : Option γ → Prop) (n : Nat)
    (hs : ∀ m k b, k < n → Inv k b → (∃ c, F (m + 1) (nI k) b = F m (nI (k + 1)) c ∧ Inv (k + 1) c) ∨ Post (F (m + 1) (nI k) b))
    (he : ∀ m b, Inv n b → Post (F (m + 1) (nI n) b)) :
    ∀ (d k fu : Nat) b, k + d = n → d < fu → Inv k b → Post (F fu (nI k) b) := by
  intro d
  induction d with
  | zero =>
    intro k fu b hk hf hi
    obtain ⟨m, rfl⟩ : ∃ m, fu = m + 1 := ⟨fu - 1, by omega⟩
    have : k = n := by omega
    subst this
    exact he m b hi
  | succ d ih =>
    intro k fu b hk hf hi
    obtain ⟨m, rfl⟩ : ∃ m, fu = m + 1 := ⟨fu - 1, by omega⟩
    rcases hs m k b (by omega) hi with ⟨c, h1, h3⟩ | h
    · rw [h1]
      exact ih (k + 1) m c (by omega) (by omega) h3
    · exact h
theorem stC_ob {C : CM} {k i j x k' i' : Nat} {v : Int32} (h : k' ≠ k) : (stC C k i j x v).1 k' i' = C.1 k' i' := by
  funext j' x'
  simp [stC, h]
theorem stC_row {C : CM} {k i j x j' : Nat} {v : Int32} (h : j' ≠ j) : (stC C k i j x v).1 k i j' = C.1 k i j' := by
  funext x'
  simp [stC, h]
theorem stC_at {C : CM} {k i j x : Nat} {v : Int32} : (stC C k i j x v).1 k i j x = v := by simp [stC]
theorem stC_ne {C : CM} {k i j x x' : Nat} {v : Int32} (h : x' ≠ x) : (stC C k i j x v).1 k i j x' = C.1 k i j x' := by simp [stC, h]
theorem stC_if {C : CM} {k i j x x' : Nat} {v : Int32} : (stC C k i j x v).1 k i j x' = if x' = x then v else C.1 k i j x' := by simp [stC]
theorem stX_if {X : XM} {j x x' : Nat} {v : Int32} : (stX X j x v).1 j x' = if x' = x then v else X.1 j x' := by simp [stX]
def cO (B : Nat → Nat → Int32) : Nat := (B 6 0).toNatClampNeg
def wrC (O r k i j x : Nat) : Prop := (k = 8 ∧ j ≠ 0) ∨ (k = 4 ∧ i = r ∧ ((1 ≤ j ∧ j ≤ 7 ∧ x < O) ∨ (j = 0 ∧ x ≠ 2 ∧ x ≠ 3)))
def wrX (j x : Nat) : Prop := (j = 0 ∧ (x = 26 ∨ x = 27 ∨ x = 28)) ∨ j = 7 ∨ j = 8 ∨ (j = 2 ∧ ((371 ≤ x ∧ x < 429) ∨ x = 541 ∨ x = 542))
def FrC (O r : Nat) (C C' : CM) : Prop := C'.2 = C.2 ∧ ∀ k i j x, ¬ wrC O r k i j x → C'.1 k i j x = C.1 k i j x
def FrX (X X' : XM) : Prop := X'.2 = X.2 ∧ ∀ j x, ¬ wrX j x → X'.1 j x = X.1 j x
theorem FrC.rf (O r : Nat) (C : CM) : FrC O r C C := ⟨rfl, fun _ _ _ _ _ => rfl⟩
theorem FrX.rf (X : XM) : FrX X X := ⟨rfl, fun _ _ _ => rfl⟩
theorem FrC.trans {O r : Nat} {A B C : CM} (h1 : FrC O r A B) (h2 : FrC O r B C) : FrC O r A C := ⟨h2.1.trans h1.1, fun k i j x h => (h2.2 k i j x h).trans (h1.2 k i j x h)⟩
theorem FrX.trans {A B C : XM} (h1 : FrX A B) (h2 : FrX B C) : FrX A C := ⟨h2.1.trans h1.1, fun j x h => (h2.2 j x h).trans (h1.2 j x h)⟩
theorem frC_st {O r k i j x : Nat} {C C' : CM} {v : Int32} (h : FrC O r C C') (hw : wrC O r k i j x) : FrC O r C (stC C' k i j x v) := by
  refine ⟨h.1, fun k' i' j' x' hn => ?_⟩
  simp only [stC]
  rw [if_neg (fun e => hn (by rw [e.1, e.2.1, e.2.2.1, e.2.2.2]; exact hw))]
  exact h.2 _ _ _ _ hn
theorem frX_st {j x : Nat} {X X' : XM} {v : Int32} (h : FrX X X') (hw : wrX j x) : FrX X (stX X' j x v) := by
  refine ⟨h.1, fun j' x' hn => ?_⟩
  simp only [stX]
  rw [if_neg (fun e => hn (by rw [e.1, e.2]; exact hw))]
  exact h.2 _ _ hn
def StR (r : Nat) (C : CM) (X : XM) : Prop := (∀ j o, 1 ≤ j → j ≤ 7 → o < 8 → C.1 4 r j o = X.1 2 (365 + 8 * j + o)) ∧ C.1 4 r 0 1 = X.1 2 372 ∧ C.1 4 r 0 5 = X.1 2 542 ∧ C.1 4 r 0 0 = X.1 2 371
/-- the numbers of a state stay small -/
def Rng (G : Nat) (P : Nat → Nat → Int32) : Prop := ∀ o, o < 8 → (∃ v, v ≤ G ∧ P 1 o = nI v) ∧ (∃ v, v ≤ 9 ∧ P 3 o = nI v) ∧ (∃ v, v ≤ 7 ∧ P 4 o = nI v) ∧ (∃ v, v ≤ 1 ∧ P 5 o = nI v)
def WI (b r : Nat) (B : Nat → Nat → Int32) (s th : Nat → Int32) (C0 : CM) (X0 : XM) (C : CM) (X : XM) : Prop :=
  C.1 3 b = B ∧ (∀ x, x < 371 ∨ (429 ≤ x ∧ x < 541) → X.1 2 x = s x) ∧ C.1 4 r 8 = th ∧ StR r C X ∧ FrC (cO B) r C0 C ∧ FrX X0 X
theorem stR_pair {r j o y : Nat} {C : CM} {X : XM} {v : Int32} (h : StR r C X) (h1 : 1 ≤ j) (h2 : j ≤ 7) (ho : o < 8) (hy : y = 365 + 8 * j + o) : StR r (stC C 4 r j o v) (stX X 2 y v) := by
  refine ⟨fun j' o' q1 q2 q3 => ?_, ?_, ?_, ?_⟩
  · simp only [stC, stX, true_and]
    by_cases e : j' = j ∧ o' = o
    · rw [if_pos e, if_pos (by omega)]
    · rw [if_neg e, if_neg (by omega)]
      exact h.1 j' o' q1 q2 q3
  · simp only [stC, stX, true_and]
    rw [if_neg (by omega), if_neg (by omega)]
    exact h.2.1
  · simp only [stC, stX, true_and]
    rw [if_neg (by omega), if_neg (by omega)]
    exact h.2.2.1
  · simp only [stC, stX, true_and]
    rw [if_neg (by omega), if_neg (by omega)]
    exact h.2.2.2
theorem stR_c {r k i j x : Nat} {C : CM} {X : XM} {v : Int32} (h : StR r C X) (hk : k ≠ 4 ∨ (j = 0 ∧ (x = 4 ∨ x = 2 ∨ x = 3)) ∨ j = 8) : StR r (stC C k i j x v) X := by
  have e : ∀ j' x', ((1 ≤ j' ∧ j' ≤ 7) ∨ (j' = 0 ∧ (x' = 0 ∨ x' = 1 ∨ x' = 5))) → (stC C k i j x v).1 4 r j' x' = C.1 4 r j' x' := by
    intro j' x' hq
    simp only [stC]
    rw [if_neg (by omega)]
  exact ⟨fun j' o' q1 q2 q3 => (e j' o' (by omega)).trans (h.1 j' o' q1 q2 q3), (e 0 1 (by omega)).trans h.2.1, (e 0 5 (by omega)).trans h.2.2.1, (e 0 0 (by omega)).trans h.2.2.2⟩
theorem stR_x {r j x : Nat} {C : CM} {X : XM} {v : Int32} (h : StR r C X) (hk : j ≠ 2 ∨ x < 371 ∨ x = 541 ∨ (429 ≤ x ∧ x < 542)) : StR r C (stX X j x v) := by
  have e : ∀ x', 371 ≤ x' → (x' < 429 ∨ x' = 542) → (stX X j x v).1 2 x' = X.1 2 x' := by
    intro x' h1 h2
    simp only [stX]
    rw [if_neg (by omega)]
  exact ⟨fun j' o' q1 q2 q3 => (h.1 j' o' q1 q2 q3).trans (e _ (by omega) (by omega)).symm, h.2.1.trans (e 372 (by omega) (by omega)).symm, h.2.2.1.trans (e 542 (by omega) (by omega)).symm, h.2.2.2.trans (e 371 (by omega) (by omega)).symm⟩
theorem stR_sc {r x y : Nat} {C : CM} {X : XM} {v : Int32} (h : StR r C X) (hy : (x = 1 ∧ y = 372) ∨ (x = 5 ∧ y = 542) ∨ (x = 0 ∧ y = 371)) : StR r (stC C 4 r 0 x v) (stX X 2 y v) := by
  refine ⟨fun j' o' q1 q2 q3 => ?_, ?_, ?_, ?_⟩
  · simp only [stC, stX, true_and]
    rw [if_neg (by omega), if_neg (by omega)]
    exact h.1 j' o' q1 q2 q3
  · simp only [stC, stX, true_and]
    by_cases e : 1 = x
    · rw [if_pos e, if_pos (by omega)]
    · rw [if_neg e, if_neg (by omega)]
      exact h.2.1
  · simp only [stC, stX, true_and]
    by_cases e : 5 = x
    · rw [if_pos e, if_pos (by omega)]
    · rw [if_neg e, if_neg (by omega)]
      exact h.2.2.1
  · simp only [stC, stX, true_and]
    by_cases e : 0 = x
    · rw [if_pos e, if_pos (by omega)]
    · rw [if_neg e, if_neg (by omega)]
      exact h.2.2.2
section WIS
variable {b r : Nat} {B : Nat → Nat → Int32} {s th : Nat → Int32} {C0 : CM} {X0 : XM} {C : CM} {X : XM}
theorem wi_pair {j o y : Nat} {v : Int32} (h : WI b r B s th C0 X0 C X) (h1 : 1 ≤ j) (h2 : j ≤ 7) (ho : o < 8) (hy : y = 365 + 8 * j + o) (ho' : o < cO B := by omega) : WI b r B s th C0 X0 (stC C 4 r j o v) (stX X 2 y v) := by
  obtain ⟨q1, q2, q3, q4, q5, q6⟩ := h
  refine ⟨(stC_ob (by omega)).trans q1, fun x hx => ?_, (stC_row (by omega)).trans q3, stR_pair q4 h1 h2 ho hy, frC_st q5 (by unfold wrC; omega), frX_st q6 (by unfold wrX; omega)⟩
  rw [stX_ne (by omega)]
  exact q2 x hx
theorem wi_sc {x y : Nat} {v : Int32} (h : WI b r B s th C0 X0 C X) (hy : (x = 1 ∧ y = 372) ∨ (x = 5 ∧ y = 542) ∨ (x = 0 ∧ y = 371)) : WI b r B s th C0 X0 (stC C 4 r 0 x v) (stX X 2 y v) := by
  obtain ⟨q1, q2, q3, q4, q5, q6⟩ := h
  refine ⟨(stC_ob (by omega)).trans q1, fun x hx => ?_, (stC_row (by omega)).trans q3, stR_sc q4 hy, frC_st q5 (by unfold wrC; omega), frX_st q6 (by unfold wrX; omega)⟩
  rw [stX_ne (by omega)]
  exact q2 x hx
theorem wi_c8 {i j x : Nat} {v : Int32} (h : WI b r B s th C0 X0 C X) (hj : j ≠ 0 := by omega) : WI b r B s th C0 X0 (stC C 8 i j x v) X := by
  obtain ⟨q1, q2, q3, q4, q5, q6⟩ := h
  exact ⟨(stC_ob (by omega)).trans q1, q2, (congrFun (stC_ob (i' := r) (by omega)) 8).trans q3, stR_c q4 (by omega), frC_st q5 (by unfold wrC; omega), q6⟩
theorem wi_lC {v : Int32} (h : WI b r B s th C0 X0 C X) : WI b r B s th C0 X0 (stC C 4 r 0 4 v) X := by
  obtain ⟨q1, q2, q3, q4, q5, q6⟩ := h
  exact ⟨(stC_ob (by omega)).trans q1, q2, (stC_row (by omega)).trans q3, stR_c q4 (by omega), frC_st q5 (by unfold wrC; omega), q6⟩
theorem wi_x {j x : Nat} {v : Int32} (h : WI b r B s th C0 X0 C X) (hj : (j = 0 ∧ (x = 26 ∨ x = 27 ∨ x = 28)) ∨ j = 7 ∨ j = 8 ∨ (j = 2 ∧ x = 541)) : WI b r B s th C0 X0 C (stX X j x v) := by
  obtain ⟨q1, q2, q3, q4, q5, q6⟩ := h
  refine ⟨q1, fun x' hx => ?_, q3, stR_x q4 (by omega), q5, frX_st q6 (by unfold wrX; omega)⟩
  simp only [stX]
  rw [if_neg (by omega)]
  exact q2 x' hx
theorem thing_congr {n : BN} {s s' th : Nat → Int32} (h : ∀ x, x < 371 ∨ (429 ≤ x ∧ x < 541) → s' x = s x) (hn : n.2.2.1 ≤ 8 ∧ n.2.2.2 ≤ 12) (hT : ThingR n s (fun k => s (429 + k)) (fun c => s (441 + c)) th) : ThingR n s' (fun k => s' (429 + k)) (fun c => s' (441 + c)) th := by
  obtain ⟨t1, t2, t3, t4⟩ := hT
  refine ⟨fun k hk c hc h1 => t1 k hk c ((h _ (by omega)).symm.trans hc) h1, fun t ht hd c hc h1 => t2 t ht ((h _ (by omega)).symm.trans hd) c ((h _ (by omega)).symm.trans hc) h1, fun c hc hf => t3 c hc ((h _ (by omega)).symm.trans hf), fun c hc h1 h2 h3 => t4 c hc (fun k hk e => h1 k hk ((h _ (by omega)).trans e)) (fun t ht hd e => h2 t ht ((h _ (by omega)).trans hd) ((h _ (by omega)).trans e)) (fun e => h3 ((h _ (by omega)).trans e))⟩
end WIS
section BKS
variable {B : Nat → Nat → Int32} {s : Nat → Int32} {n : BN}
theorem bk_bd (h : BankR B s n) : n.1 ≤ 10 ∧ n.2.1 ≤ 10 ∧ n.2.2.1 ≤ 8 ∧ n.2.2.2 ≤ 12 := h.1
theorem bk_w (h : BankR B s n) : B 0 1 = nI n.1 ∧ s 0 = nI n.1 := h.2.1
theorem bk_h (h : BankR B s n) : B 0 2 = nI n.2.1 ∧ s 1 = nI n.2.1 := h.2.2.1
theorem bk_o (h : BankR B s n) : B 6 0 = nI n.2.2.1 ∧ s 2 = nI n.2.2.1 := h.2.2.2.1
theorem bk_cnt (h : BankR B s n) : cO B = n.2.2.1 := by
  have h8 := (bk_bd h).2.2.1
  unfold cO
  rw [(bk_o h).1, nI_clamp (by omega)]
theorem bk_t (h : BankR B s n) : B 0 3 = nI n.2.2.2 ∧ s 3 = nI n.2.2.2 := h.2.2.2.2.1
theorem bk_run (h : BankR B s n) : B 0 6 = s 4 ∧ (∃ e, e ≤ 99 ∧ B 0 8 = nI e ∧ s 5 = nI e) ∧ ∃ c, c ≤ 999 ∧ B 0 9 = nI c ∧ s 6 = nI c := h.2.2.2.2.2.1
theorem bk_isB (h : BankR B s n) : isB (B 0 7) = true := h.2.2.2.2.2.2.1
theorem bk_home (h : BankR B s n) : ∀ k, k < n.2.2.1 → ∃ c, inY n c ∧ B 8 k = nI c ∧ s (7 + k) = nI c := h.2.2.2.2.2.2.2.1
theorem bk_gold (h : BankR B s n) : ∀ k, k < 8 → ∃ v, v ≤ 999 ∧ B 9 k = nI v ∧ s (15 + k) = nI v ∧ (n.2.2.1 ≤ k → v = 0) := h.2.2.2.2.2.2.2.2.1
theorem bk_share (h : BankR B s n) : ∀ k, k < n.2.2.1 → ∃ v, 1 ≤ v ∧ v ≤ 99 ∧ B 10 k = nI v ∧ s (23 + k) = nI v := h.2.2.2.2.2.2.2.2.2.1
theorem bk_stick (h : BankR B s n) : ∀ k, k < 8 → ∃ v, v ≤ 9 ∧ B 11 k = nI v ∧ s (31 + k) = nI v ∧ (n.2.2.1 ≤ k → v = 0) := h.2.2.2.2.2.2.2.2.2.2.1
theorem bk_vane (h : BankR B s n) : ∀ k, k < 8 → ∃ v, v ≤ 7 ∧ B 12 k = nI v ∧ s (39 + k) = nI v ∧ (n.2.2.1 ≤ k → v = 0) := h.2.2.2.2.2.2.2.2.2.2.2.1
theorem bk_pact (h : BankR B s n) : ∀ k, k < n.2.2.1 → ∃ v, v ≤ n.2.2.1 ∧ B 13 k = nI v - 1 ∧ s (47 + k) = nI v := h.2.2.2.2.2.2.2.2.2.2.2.2.1
theorem bk_plot (h : BankR B s n) : ∀ k, k < n.2.2.1 → ∃ v, (v = 0 ∨ inY n (v - 1)) ∧ B 14 k = nI v - 1 ∧ s (55 + k) = nI v := h.2.2.2.2.2.2.2.2.2.2.2.2.2.1
theorem bk_tree (h : BankR B s n) : ∀ t, t < n.2.2.2 → ∃ c, inY n c ∧ B 3 t = nI c ∧ s (63 + t) = nI c := h.2.2.2.2.2.2.2.2.2.2.2.2.2.2.1
theorem bk_eddy (h : BankR B s n) : ∀ c, c < 100 → ∃ v, v ≤ 7 ∧ B 2 c = nI v ∧ s (75 + c) = nI v := h.2.2.2.2.2.2.2.2.2.2.2.2.2.2.2.1
theorem bk_gust (h : BankR B s n) : ∀ q, q < 48 → ∃ f, f ≤ 9 ∧ B 5 q = nI f ∧ s (223 + q) = nI f ∧ (0 < f → ∃ d, d ≤ 7 ∧ B 4 q = nI d ∧ s (175 + q) = nI d) := h.2.2.2.2.2.2.2.2.2.2.2.2.2.2.2.2.1
theorem bk_fen (h : BankR B s n) : ∃ fe : Nat → Nat, (∀ c, c < 100 → fe c ≤ 1 ∧ s (271 + c) = nI (fe c)) ∧ sumN fe 100 ≤ 12 ∧ B 0 4 = nI (sumN fe 100) := h.2.2.2.2.2.2.2.2.2.2.2.2.2.2.2.2.2.1
theorem bk_thing (h : BankR B s n) : ThingR n s (fun _ => 1) (fun c => s (271 + c)) (B 1) := h.2.2.2.2.2.2.2.2.2.2.2.2.2.2.2.2.2.2.1
theorem bk_ord (h : BankR B s n) : ∃ od : Nat → Nat, (∀ i, i < n.2.2.1 → od i < n.2.2.1 ∧ B 15 i = nI (od i)) ∧ (∀ k, k < n.2.2.1 → ∃ i, i < n.2.2.1 ∧ od i = k) ∧ (∀ i j, i < j → j < n.2.2.1 → s (23 + od j) < s (23 + od i) ∨ (s (23 + od j) = s (23 + od i) ∧ od i < od j)) := h.2.2.2.2.2.2.2.2.2.2.2.2.2.2.2.2.2.2.2
end BKS
/-- where the vanes point behind a gust -/
def ptN (n : BN) (B : Nat → Nat → Int32) (th : Nat → Int32) (P : Nat → Nat → Int32) (d f o : Nat) : Int32 :=
  if o < n.2.2.1 ∧ P 5 o = 0 then trn (P 4 o).toNatClampNeg ((d + (B 2 (B 8 o).toNatClampNeg).toNatClampNeg) % 8) (frc th n.1 n.2.1 (B 8 o).toNatClampNeg d (nI f)).toNatClampNeg (P 3 o).toNatClampNeg else P 4 o
theorem tvT {N r1 r2 k t v : Nat} {K : Int32 → Int32 → CM → Option (Int32 × CM)} {a3 a4 a : Int32} {C : CM} (hk : k < 8) (hv : v < 10) : f_X9_turnVanes_93 N K r1 r2 a3 a4 a (nI k) (nI t) (nI v) C = K (if 0 < v ∧ C.1 4 r2 4 k = nI t then a ||| ((1 : Int32) <<< (nI k &&& 31)) else a) (nI (k + 1)) C := by
  unfold f_X9_turnVanes_93
  simp (disch := omega) only [le_nl, nI_al, ldA_nI]
  by_cases h1 : v ≤ 0
  · rw [if_pos h1, if_neg (by omega)]
  · rw [if_neg h1]
    by_cases h2 : C.1 4 r2 4 k = nI t
    · rw [if_pos h2, if_pos ⟨by omega, h2⟩]
    · rw [if_neg h2, if_neg (fun h => h2 h.2)]
theorem atT {k t v : Nat} {K : Int32 → XM → Option (Int32 × XM)} {X : XM} (hk : k < 8) (hv : v < 10) (h27 : X.1 0 27 = nI v) (h26 : X.1 0 26 = nI t) :
    (if (X.1 0 27) ≤ 0 then (K (nI k + 1) X) else (if X.1 2 (397 + k) = (X.1 0 26) then bnd (stX X 0 28 ((X.1 0 28) ||| ((1 : Int32) <<< (nI k &&& 31)))) (fun X12 => (K (nI k + 1) X12)) else (K (nI k + 1) X))) = K (nI (k + 1)) (if 0 < v ∧ X.1 2 (397 + k) = nI t then stX X 0 28 ((X.1 0 28) ||| ((1 : Int32) <<< (nI k &&& 31))) else X) := by
  rw [h27, h26]
  simp (disch := omega) only [le_nl, nI_al, bnd_v]
  by_cases h1 : v ≤ 0
  · rw [if_pos h1, if_neg (by omega)]
  · rw [if_neg h1]
    by_cases h2 : X.1 2 (397 + k) = nI t
    · rw [if_pos h2, if_pos ⟨by omega, h2⟩]
    · rw [if_neg h2, if_neg (fun h => h2 h.2)]
theorem turn_rel {N b r d f G : Nat} {B : Nat → Nat → Int32} {s th : Nat → Int32} {n : BN} {C0 : CM} {X0 : XM} (hN : 2000 ≤ N) (hB : BankR B s n) (hT : ThingR n s (fun k => s (429 + k)) (fun c => s (441 + c)) th) (hd : d < 8) (hf : f < 10) {C : CM} {X : XM} (hW : WI b r B s th C0 X0 C X) (hR : Rng G (C.1 4 r)) :
    ∃ v C' X', f_X9_turnVanes N b r (nI d) (nI f) C = some (v, C') ∧ f_X11_allTurn N (nI d) (nI f) X = some (0, X') ∧ X'.1 0 28 = v ∧ WI b r B s th C0 X0 C' X' ∧ Rng G (C'.1 4 r) ∧ X'.1 2 541 = nI (d + 1) ∧ (∀ j, j ≠ 4 → C'.1 4 r j = C.1 4 r j) ∧ (∀ o, o < 8 → C'.1 4 r 4 o = ptN n B th (C.1 4 r) d f o) ∧ (n.2.2.1 = 0 → v = 0) := by
  obtain ⟨bw, bh, bO, bT⟩ := bk_bd hB
  have hcO := bk_cnt hB
  unfold f_X9_turnVanes f_X11_allTurn
  rw [bnd_v]
  have H := loop2 (fun m i (q : Int32 × CM) => f_X9_turnVanes_6 N b r (nI d) (nI f) m q.1 i q.2) (fun m i Y => f_X11_allTurn_7 N (nI d) (nI f) m i Y)
    (fun k q Y => WI b r B s th C0 X0 q.2 Y ∧ Rng G (q.2.1 4 r) ∧ Y.1 0 28 = q.1 ∧ (∀ j, j ≠ 4 → q.2.1 4 r j = C.1 4 r j) ∧ (∀ o, o < 8 → q.2.1 4 r 4 o = if o < k then ptN n B th (C.1 4 r) d f o else C.1 4 r 4 o) ∧ (k = 0 → q.1 = 0))
    (fun y z => ∃ v C' X', y = some (v, C') ∧ z = some (0, X') ∧ X'.1 0 28 = v ∧ WI b r B s th C0 X0 C' X' ∧ Rng G (C'.1 4 r) ∧ X'.1 2 541 = nI (d + 1) ∧ (∀ j, j ≠ 4 → C'.1 4 r j = C.1 4 r j) ∧ (∀ o, o < 8 → C'.1 4 r 4 o = ptN n B th (C.1 4 r) d f o) ∧ (n.2.2.1 = 0 → v = 0)) n.2.2.1 ?_ ?_ n.2.2.1 0 N N (0, C) (stX X 0 28 0) (by omega) (by omega) (by omega) ?_
  · exact H
  · rintro m m' k ⟨a, C1⟩ Y hk ⟨hW1, hR1, ha, hj, hp, h0⟩
    refine Or.inl ?_
    dsimp only at hW1 hR1 ha hj hp h0 ⊢
    obtain ⟨w1, w2, w3, w4, w5, w6⟩ := hW1
    obtain ⟨c, hc, hc1, hc2⟩ := bk_home hB k hk
    obtain ⟨hc100, hcx, hcy⟩ := hc
    obtain ⟨e, he, he1, he2⟩ := bk_eddy hB c hc100
    obtain ⟨v, hv, hv1⟩ := frc_le th n.1 n.2.1 c d hf
    obtain ⟨⟨g, hg, hg1⟩, ⟨q, hq, hq1⟩, ⟨p, hp7, hp1⟩, ⟨u, hu, hu1⟩⟩ := hR1 k (by omega)
    have x1 : Y.1 2 2 = nI n.2.2.1 := (w2 2 (by omega)).trans (bk_o hB).2
    have x2 : Y.1 2 (7 + k) = nI c := (w2 _ (by omega)).trans hc2
    have x3 : Y.1 2 (397 + k) = nI p := by
      have := w4.1 4 k (by omega) (by omega) (by omega)
      rw [show 365 + 8 * 4 + k = 397 + k by omega] at this
      rw [← this]; exact hp1
    have x4 : Y.1 2 (389 + k) = nI q := by
      have := w4.1 3 k (by omega) (by omega) (by omega)
      rw [show 365 + 8 * 3 + k = 389 + k by omega] at this
      rw [← this]; exact hq1
    have x5 : Y.1 2 (405 + k) = nI u := by
      have := w4.1 5 k (by omega) (by omega) (by omega)
      rw [show 365 + 8 * 5 + k = 405 + k by omega] at this
      rw [← this]; exact hu1
    have ecT := comesTo_eq (f := nI f) hN ((w2 0 (by omega)).trans (bk_w hB).2) ((w2 1 (by omega)).trans (bk_h hB).2) bw bh bO bT ((w2 3 (by omega)).trans (bk_t hB).2) (thing_congr w2 ⟨bO, bT⟩ hT) hc100 hd ((w2 (75 + c) (by omega)).trans he2) (by omega)
    rw [hv1] at ecT
    have efs := forceAt_s_eq (r := r) (f := nI f) hN ((congrFun (congrFun w1 0) 1).trans (bk_w hB).1) ((congrFun (congrFun w1 0) 2).trans (bk_h hB).1) bw bh hc100 hcx hcy hd
    rw [w3, hv1] at efs
    have edr := dirAt_eq hc100 hd (by omega) ((congrFun (congrFun w1 2) c).trans he1)
    have c1 : C1.1 3 b 6 0 = nI n.2.2.1 := (congrFun (congrFun w1 6) 0).trans (bk_o hB).1
    have c2 : C1.1 3 b 8 k = nI c := (congrFun (congrFun w1 8) k).trans hc1
    have ept : ptN n B th (C.1 4 r) d f k = if u = 0 then trn p ((d + e) % 8) v q else nI p := by
      have p5 : C.1 4 r 5 k = nI u := (congrFun (hj 5 (by omega)) k).symm.trans hu1
      have p4 : C.1 4 r 4 k = nI p := by
        have := hp k (by omega)
        rw [if_neg (by omega)] at this
        exact this.symm.trans hp1
      have p3 : C.1 4 r 3 k = nI q := (congrFun (hj 3 (by omega)) k).symm.trans hq1
      unfold ptN
      simp (disch := omega) only [p5, p4, p3, hc1, he1, hv1, nI_clamp]
      by_cases hu0 : u = 0
      · rw [if_pos ⟨hk, by rw [hu0]; rfl⟩, if_pos hu0]
      · rw [if_neg (fun hh => hu0 ?_), if_neg hu0]
        have := hh.2
        simp (disch := omega) only [eq_nl] at this
        exact this
    rw [f_X9_turnVanes_6, f_X11_allTurn_7]
    simp (disch := omega) only [c1, le_nn, if_neg, ldA_nI, ldA_l, c2, edr, efs, cal_some, x1, nI_la, x2, ecT]
    have t8 : (d + e) % 8 < 8 := Nat.mod_lt _ (by omega)
    have eY := turns_eq (o := k) (X := stX (stX Y 0 27 (nI v)) 0 26 (nI ((d + e) % 8))) (by omega) (stX_at) (by rw [stX_ne (by omega), stX_at]) (by rw [stX_row (by omega), stX_row (by omega)]; exact x3) (by rw [stX_row (by omega), stX_row (by omega)]; exact x4) (by omega) t8 (by omega) (by omega)
    have e405 : (stX (stX Y 0 27 (nI v)) 0 26 (nI ((d + e) % 8))).1 2 (405 + k) = nI u := by rw [stX_row (by omega), stX_row (by omega)]; exact x5
    rw [e405] at eY
    rw [eY, cal_some, hu1]
    have hWY : WI b r B s th C0 X0 C1 (stX (stX Y 0 27 (nI v)) 0 26 (nI ((d + e) % 8))) := wi_x (wi_x ⟨w1, w2, w3, w4, w5, w6⟩ (by omega)) (by omega)
    by_cases hu0 : u = 0
    · subst hu0
      rw [if_pos rfl] at ept
      obtain ⟨z1, z2⟩ := trn_lt p (by omega) _ t8 v (by omega) q (by omega)
      rw [if_pos (show nI 0 = (0 : Int32) from rfl), if_neg (show ¬ (nI 0 = (1 : Int32)) by decide)]
      simp (disch := omega) only [hp1, hq1, turned_eq, cal_some, stA_nI]
      rw [tvT (by omega) (by omega)]
      have hW2 := wi_pair (j := 4) (o := k) (y := 397 + k) (v := trn p ((d + e) % 8) v q) hWY (by omega) (by omega) (by omega) (by omega)
      have q27 : (stX (stX (stX Y 0 27 (nI v)) 0 26 (nI ((d + e) % 8))) 2 (397 + k) (trn p ((d + e) % 8) v q)).1 0 27 = nI v := by rw [stX_row (by omega), stX_ne (by omega), stX_at]
      have q26 : (stX (stX (stX Y 0 27 (nI v)) 0 26 (nI ((d + e) % 8))) 2 (397 + k) (trn p ((d + e) % 8) v q)).1 0 26 = nI ((d + e) % 8) := by rw [stX_row (by omega), stX_at]
      have q28 : (stX (stX (stX Y 0 27 (nI v)) 0 26 (nI ((d + e) % 8))) 2 (397 + k) (trn p ((d + e) % 8) v q)).1 0 28 = a := by rw [stX_row (by omega), stX_ne (by omega), stX_ne (by omega)]; exact ha
      have hX2 := atT (k := k) (K := fun i Z => f_X11_allTurn_7 N (nI d) (nI f) m' i Z) (by omega) (by omega) q27 q26
      rw [stX_at, q28] at hX2
      rw [stC_at]
      refine ⟨(if 0 < v ∧ trn p ((d + e) % 8) v q = nI ((d + e) % 8) then a ||| ((1 : Int32) <<< (nI k &&& 31)) else a, stC C1 4 r 4 k (trn p ((d + e) % 8) v q)), _, rfl, Eq.trans (by rw [stX_at, q28]) hX2, ?_⟩
      show WI b r B s th C0 X0 (stC C1 4 r 4 k (trn p ((d + e) % 8) v q)) _ ∧ Rng G ((stC C1 4 r 4 k (trn p ((d + e) % 8) v q)).1 4 r) ∧ _ = (if 0 < v ∧ trn p ((d + e) % 8) v q = nI ((d + e) % 8) then a ||| ((1 : Int32) <<< (nI k &&& 31)) else a) ∧ (∀ j, j ≠ 4 → (stC C1 4 r 4 k (trn p ((d + e) % 8) v q)).1 4 r j = C.1 4 r j) ∧ (∀ o, o < 8 → (stC C1 4 r 4 k (trn p ((d + e) % 8) v q)).1 4 r 4 o = if o < k + 1 then ptN n B th (C.1 4 r) d f o else C.1 4 r 4 o) ∧ _
      refine ⟨?_, ?_, ?_, ?_, ?_, by omega⟩
      · by_cases hcd : 0 < v ∧ trn p ((d + e) % 8) v q = nI ((d + e) % 8)
        · rw [if_pos hcd]
          exact wi_x hW2 (by omega)
        · rw [if_neg hcd]
          exact hW2
      · intro o ho
        obtain ⟨r1, r2, r3, r4⟩ := hR1 o ho
        rw [stC_row (j' := 1) (by omega), stC_row (j' := 3) (by omega), stC_row (j' := 5) (by omega), stC_if]
        refine ⟨r1, r2, ?_, r4⟩
        by_cases hok : o = k
        · rw [if_pos hok]
          exact ⟨_, by omega, z2⟩
        · rw [if_neg hok]
          exact r3
      · by_cases hcd : 0 < v ∧ trn p ((d + e) % 8) v q = nI ((d + e) % 8)
        · rw [if_pos hcd, if_pos hcd, stX_at]
        · rw [if_neg hcd, if_neg hcd]
          exact q28
      · intro j hj4
        rw [stC_row hj4]
        exact hj j hj4
      · intro o ho
        rw [stC_if]
        by_cases hok : o = k
        · rw [if_pos hok, if_pos (by omega), hok, ept]
        · rw [if_neg hok, hp o ho]
          by_cases hok2 : o < k
          · rw [if_pos hok2, if_pos (by omega)]
          · rw [if_neg hok2, if_neg (by omega)]
    · have hu1' : u = 1 := by omega
      subst hu1'
      rw [if_neg (by omega)] at ept
      rw [if_neg (show ¬ (nI 1 = (0 : Int32)) by decide), if_pos (show nI 1 = (1 : Int32) from rfl)]
      rw [tvT (by omega) (by omega)]
      have q27 : (stX (stX Y 0 27 (nI v)) 0 26 (nI ((d + e) % 8))).1 0 27 = nI v := by rw [stX_ne (by omega), stX_at]
      have q28 : (stX (stX Y 0 27 (nI v)) 0 26 (nI ((d + e) % 8))).1 0 28 = a := by rw [stX_ne (by omega), stX_ne (by omega)]; exact ha
      have q3 : (stX (stX Y 0 27 (nI v)) 0 26 (nI ((d + e) % 8))).1 2 (397 + k) = nI p := by rw [stX_row (by omega), stX_row (by omega)]; exact x3
      have hX2 := atT (k := k) (K := fun i Z => f_X11_allTurn_7 N (nI d) (nI f) m' i Z) (by omega) (by omega) q27 stX_at
      rw [q3, q28] at hX2
      rw [hp1]
      refine ⟨(if 0 < v ∧ nI p = nI ((d + e) % 8) then a ||| ((1 : Int32) <<< (nI k &&& 31)) else a, C1), _, rfl, Eq.trans (by rw [q3, q28]) hX2, ?_⟩
      show WI b r B s th C0 X0 C1 _ ∧ Rng G (C1.1 4 r) ∧ _ = (if 0 < v ∧ nI p = nI ((d + e) % 8) then a ||| ((1 : Int32) <<< (nI k &&& 31)) else a) ∧ (∀ j, j ≠ 4 → C1.1 4 r j = C.1 4 r j) ∧ (∀ o, o < 8 → C1.1 4 r 4 o = if o < k + 1 then ptN n B th (C.1 4 r) d f o else C.1 4 r 4 o) ∧ _
      refine ⟨?_, hR1, ?_, hj, ?_, by omega⟩
      · by_cases hcd : 0 < v ∧ nI p = nI ((d + e) % 8)
        · rw [if_pos hcd]
          exact wi_x hWY (by omega)
        · rw [if_neg hcd]
          exact hWY
      · by_cases hcd : 0 < v ∧ nI p = nI ((d + e) % 8)
        · rw [if_pos hcd, if_pos hcd, stX_at]
        · rw [if_neg hcd, if_neg hcd]
          exact q28
      · intro o ho
        by_cases hok : o = k
        · rw [if_pos (by omega), hok, ept]
          exact hp1
        · rw [hp o ho]
          by_cases hok2 : o < k
          · rw [if_pos hok2, if_pos (by omega)]
          · rw [if_neg hok2, if_neg (by omega)]
  · rintro m m' ⟨a, C1⟩ Y ⟨hW1, hR1, ha, hj, hp, h0⟩
    dsimp only at hW1 hR1 ha hj hp h0 ⊢
    have c1 : C1.1 3 b 6 0 = nI n.2.2.1 := (congrFun (congrFun hW1.1 6) 0).trans (bk_o hB).1
    have x1 : Y.1 2 2 = nI n.2.2.1 := (hW1.2.1 2 (by omega)).trans (bk_o hB).2
    rw [f_X9_turnVanes_6, f_X11_allTurn_7]
    simp (disch := omega) only [c1, le_nn, if_pos, ldA_l, x1, sxA_l, nI_al, rt]
    refine ⟨_, _, _, rfl, rfl, ?_, wi_x hW1 (by omega), hR1, stX_at, hj, ?_, h0⟩
    · rw [stX_row (by omega)]
      exact ha
    · intro o ho
      rw [hp o ho]
      by_cases hok : o < n.2.2.1
      · rw [if_pos hok]
      · rw [if_neg hok]
        unfold ptN
        rw [if_neg (fun hh => hok hh.1)]
  · refine ⟨wi_x hW (by omega), hR, stX_at, fun _ _ => rfl, fun o ho => ?_, fun _ => rfl⟩
    rw [if_neg (by omega)]
