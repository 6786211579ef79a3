/-! The relation of both memories between calls. -/
def StP (P : Nat → Nat → Int32) (t : Nat → Int32) : Prop := (∀ j o, 1 ≤ j → j ≤ 7 → o < 8 → P j o = t (8 * j + o - 6)) ∧ P 0 1 = t 1 ∧ P 0 5 = t 171 ∧ P 0 0 = t 0
def StateR (n : BN) (s : Nat → Int32) (P : Nat → Nat → Int32) (t : Nat → Int32) : Prop :=
  StP P t ∧ (∃ q, q ≤ 48 ∧ P 0 0 = nI q ∧ Rng (1000 + 100000 * q) P) ∧ (∃ l, l ≤ 8 ∧ t 170 = nI l ∧ P 0 4 = nI l - 1) ∧
  (∀ j o, (j = 1 ∨ j = 2) → n.2.2.1 ≤ o → o < 8 → P j o = 0) ∧
  (∃ m, m < 4096 ∧ P 0 3 = nI m ∧ ∀ k, k < 12 → t (58 + k) = nI (m.testBit k).toNat ∧ (n.2.2.2 ≤ k → m.testBit k = false)) ∧
  (∃ fe : Nat → Nat, (∀ c, c < 100 → fe c ≤ 1 ∧ t (70 + c) = nI (fe c)) ∧ sumN fe 100 ≤ 12 ∧ P 0 2 = nI (sumN fe 100)) ∧
  ThingR n s (fun k => t (58 + k)) (fun c => t (70 + c)) (P 8)
def PlanR (n : BN) (Q : Nat → Nat → Int32) (s : Nat → Int32) : Prop := ∃ L, L ≤ 30 ∧ Q 0 0 = nI L ∧ s 543 = nI L ∧ ∀ i, i < L → ∃ w v, w ≤ 4 ∧ Q 1 i = nI (10 + w) ∧ s (544 + 4 * i) = nI w ∧ Q 2 i = nI v ∧ s (545 + 4 * i) = nI v ∧ (w = 0 → inY n v) ∧ (w = 1 → v ≤ 999) ∧ (w = 2 ∨ w = 3 → v < n.2.2.1) ∧ (w = 3 → ∃ d, d ≤ 7 ∧ Q 3 i = nI d ∧ s (546 + 4 * i) = nI d) ∧ (w = 4 → 1 ≤ v ∧ v ≤ 48)
/-- a sentence's codes: leaves 0 to 5, not 10, and 11, or 12; the class's words of them; how many values lie behind so many -/
def cdW (c : Nat) : Nat := if c < 6 then 18 + c else 27 - c
def dpS (cd : Nat → Nat) : Nat → Nat
  | 0 => 0
  | i + 1 => if cd i = 10 then dpS cd i else if cd i = 11 ∨ cd i = 12 then dpS cd i - 1 else dpS cd i + 1
def SentR (Q : Nat → Nat → Int32) (s : Nat → Int32) : Prop := ∃ (K : Nat) (cd : Nat → Nat), K ≤ 40 ∧ s 664 = nI K ∧ ((K = 0 ∧ Q 0 0 = 0) ∨ (0 < K ∧ Q 0 0 ≠ 0 ∧ Q 0 1 = nI K ∧ dpS cd K = 1 ∧ ∀ i, i < K → (cd i < 6 ∨ cd i = 10 ∨ cd i = 11 ∨ cd i = 12) ∧ s (665 + 3 * i) = nI (cd i) ∧ Q 1 i = nI (cdW (cd i)) ∧ (0 < cd i → cd i < 6 → (∃ g, 60 ≤ g ∧ g ≤ 62 ∧ Q 2 i = nI g ∧ s (666 + 3 * i) = nI g) ∧ Q 3 i = s (667 + 3 * i)) ∧ (cd i = 10 → 1 ≤ dpS cd i) ∧ (cd i = 11 ∨ cd i = 12 → 2 ≤ dpS cd i) ∧ dpS cd (i + 1) ≤ 20))
/-- names: letters 1 to 26 in base 32, and as bytes in base 256 -/
def e32 (l : List Nat) : Nat := l.foldl (fun a c => a * 32 + c) 0
def e256 (l : List Nat) : Nat := l.foldl (fun a c => a * 256 + (c + 96)) 0
def NmR (a : Int32) (w : Int64) : Prop := ∃ l : List Nat, l.length ≤ 6 ∧ (∀ c, c ∈ l → 1 ≤ c ∧ c ≤ 26) ∧ a = nI (e32 l) ∧ w = lN (e256 l)
def NameR (n : BN) (B : Nat → Nat → Int32) (nm : Nat → Int64) : Prop := ∀ k, k < n.2.2.1 → NmR (B 7 k) (nm k)
def WhR (B P Pl Se : Nat → Nat → Int32) (s : Nat → Int32) (nm : Nat → Int64) (n : BN) : Prop := BankR B s n ∧ StateR n s P (fun x => s (371 + x)) ∧ PlanR n Pl s ∧ SentR Se s ∧ NameR n B nm
def PastR (n : BN) (s : Nat → Int32) (C : CM) (X : XM) : Prop := ∃ top kp, top < 8 ∧ kp ≤ 8 ∧ C.1 7 0 0 1 = nI top ∧ C.1 7 0 0 2 = nI kp ∧ X.1 0 33 = nI kp ∧ ∀ i, i < kp → StateR n s (C.1 4 (4 + (top + 8 - kp + i) % 8)) (fun x => X.1 10 (172 * i + x))
def byV (u : Nat) : Int32 := if u < 128 then nI u else nI u - 256
def TapeR (C : CM) (X : XM) : Prop := ∃ L, L ≤ 940 ∧ C.1 0 0 0 1 = nI L ∧ X.1 0 2 = nI L ∧ ∀ x, x < 940 → ∃ u, u < 256 ∧ C.1 0 0 1 x = byV u ∧ X.1 1 x = byV u
def RefR (C : CM) : Prop := ((C.2 2 0 1 = 0 ∧ C.2 0 0 6 = 3) ∨ (C.2 2 0 1 = 3 ∧ C.2 0 0 6 = 0)) ∧ ((C.2 2 0 3 = 0 ∧ C.2 0 0 7 = 3) ∨ (C.2 2 0 3 = 3 ∧ C.2 0 0 7 = 0)) ∧ ((C.2 2 0 4 = 0 ∧ C.2 0 0 8 = 3) ∨ (C.2 2 0 4 = 3 ∧ C.2 0 0 8 = 0)) ∧ ∀ i f, (i = 1 ∨ i = 2) → (f = 1 ∨ f = 3 ∨ f = 4) → C.2 2 i f = i
def ImgR (k : Nat) (C : CM) (X : XM) : Prop := (C.1 2 (1 + k) 0 0 = 0 ∧ X.1 19 k = 0) ∨ (C.1 2 (1 + k) 0 0 = 1 ∧ X.1 19 k = 1 ∧ ∃ n, WhR (C.1 3 (1 + k)) (C.1 4 (1 + k)) (C.1 5 (1 + k)) (C.1 6 (1 + k)) (fun x => X.1 17 (845 * k + x)) (fun x => X.2 18 (8 * k + x)) n)
def restV (cnt : Int32) (row : Nat → Int32) (a : Int32) : Int32 := if a = -1 then cnt else if a < 0 then -1 else if cnt ≤ a then -1 else row a.toNatClampNeg
def GameR (N : Nat) (C : CM) (X : XM) : Prop := (∃ c, c ≤ 256 ∧ C.1 9 0 0 1 = nI c) ∧ ∀ (a : Int32) (Y : XM), Y.1 2 = X.1 2 → (∀ x, x < 8 → Y.2 5 x = X.2 5 x) → ∃ Y', f_X11_rests N a Y = some (restV (C.1 9 0 0 1) (C.1 9 0 1) a, Y') ∧ XE Y Y'
def MoreR (C : CM) (X : XM) : Prop := (X.1 0 35 = 0 ∧ C.1 0 0 0 13 = -1) ∨ (X.1 0 35 = 1 ∧ C.1 0 0 0 13 = X.1 0 34)
def PairR (C : CM) (X : XM) : Prop := ∃ m, m ≤ 384 ∧ C.1 0 0 0 15 = nI m ∧ X.1 0 38 = nI m ∧ ∀ k, k < m → C.1 0 0 3 k = X.1 12 k
def JudR (C : CM) (X : XM) : Prop := (X.1 0 43 = 0 ∧ ∀ i, i < 5 → C.1 0 0 5 i = -1) ∨ (X.1 0 43 = 1 ∧ ∀ i, i < 5 → C.1 0 0 5 i = X.1 13 i)
/-- bank, state, plan and sentence that are here -/
def HereR (C : CM) (X : XM) (n : BN) : Prop := WhR (C.1 3 (C.2 2 0 1)) (C.1 4 0) (C.1 5 (C.2 2 0 3)) (C.1 6 (C.2 2 0 4)) (X.1 2) (X.2 5) n
/-- the rest that no act on the state touches -/
def RestR (C : CM) (X : XM) : Prop := RefR C ∧ (∀ k, k < 2 → ImgR k C X) ∧ MoreR C X ∧ PairR C X ∧ JudR C X ∧ C.1 0 0 0 3 = X.1 0 15 ∧ X.2 6 = X0m.2 6
def Rel (N : Nat) (C : CM) (X : XM) : Prop := (∃ n, HereR C X n ∧ PastR n (X.1 2) C X) ∧ TapeR C X ∧ (C.1 9 0 0 0 ≠ 0 → GameR N C X) ∧ RestR C X
theorem sentR_congr {Q Q' : Nat → Nat → Int32} {s s' : Nat → Int32} (h : SentR Q s) (hq : ∀ j, j ≤ 3 → Q' j = Q j) (hs : ∀ x, s' x = s x) : SentR Q' s' := by
  obtain ⟨K, cd, h1, h2, h3⟩ := h
  refine ⟨K, cd, h1, (hs _).trans h2, ?_⟩
  rw [hq 0 (by omega), hq 1 (by omega), hq 2 (by omega), hq 3 (by omega)]
  simp only [hs]
  exact h3
theorem nameR_congr {n : BN} {B : Nat → Nat → Int32} {nm nm' : Nat → Int64} (hn : n.2.2.1 ≤ 8) (h : NameR n B nm) (he : ∀ x, x < 8 → nm' x = nm x) : NameR n B nm' := fun k hk => by
  rw [he k (by omega)]
  exact h k hk
theorem ce_row {C C' : CM} (h : CE C C') {k i j : Nat} (hs : scrC k i j = false) : C'.1 k i j = C.1 k i j := funext fun x => h.2 k i j x hs
theorem ce_ob {C C' : CM} (h : CE C C') {k i : Nat} (hs : ∀ j, scrC k i j = false) : C'.1 k i = C.1 k i := funext fun j => ce_row h (hs j)
theorem whR_congr {B P Pl Se Se' : Nat → Nat → Int32} {s : Nat → Int32} {nm nm' : Nat → Int64} {n : BN} (h : WhR B P Pl Se s nm n) (hq : ∀ j, j ≤ 3 → Se' j = Se j) (he : ∀ x, x < 8 → nm' x = nm x) : WhR B P Pl Se' s nm' n :=
  ⟨h.1, h.2.1, h.2.2.1, sentR_congr h.2.2.2.1 hq (fun _ => rfl), nameR_congr (bk_bd h.1).2.2.1 h.2.2.2.2 he⟩
theorem rel_ce {N : Nat} {C C' : CM} {X : XM} (h : Rel N C X) (hc : CE C C') : Rel N C' X := by
  obtain ⟨⟨n, h1, h2⟩, h3, h4, h5, h6, h7, h8, h9, h10, h11⟩ := h
  have e2 : C'.2 = C.2 := hc.1
  have e9 : C'.1 9 0 0 = C.1 9 0 0 := ce_row hc rfl
  have e91 : C'.1 9 0 1 = C.1 9 0 1 := ce_row hc rfl
  have e0 : C'.1 0 0 0 = C.1 0 0 0 := ce_row hc rfl
  have e01 : C'.1 0 0 1 = C.1 0 0 1 := ce_row hc rfl
  have e03 : C'.1 0 0 3 = C.1 0 0 3 := ce_row hc rfl
  have e05 : C'.1 0 0 5 = C.1 0 0 5 := ce_row hc rfl
  have e7 : C'.1 7 0 0 = C.1 7 0 0 := ce_row hc rfl
  have e4 : ∀ i, i ≠ 3 → C'.1 4 i = C.1 4 i := fun i hi => ce_ob hc (fun j => by simp [scrC, hi])
  have e3 : ∀ i, C'.1 3 i = C.1 3 i := fun i => ce_ob hc (fun j => by simp [scrC])
  have e5 : ∀ i, C'.1 5 i = C.1 5 i := fun i => ce_ob hc (fun j => by simp [scrC])
  have e6 : ∀ i j, j ≤ 3 → C'.1 6 i j = C.1 6 i j := fun i j hj => ce_row hc (by simp [scrC]; omega)
  have e22 : ∀ i, C'.1 2 i = C.1 2 i := fun i => ce_ob hc (fun j => by simp [scrC])
  refine ⟨⟨n, ?_, ?_⟩, ?_, ?_, ?_, ?_, ?_, ?_, ?_, ?_, h11⟩
  · unfold HereR
    rw [e2, e3, e5, e4 0 (by omega)]
    exact whR_congr h1 (fun j hj => e6 _ j hj) (fun _ _ => rfl)
  · obtain ⟨top, kp, a1, a2, a3, a4, a5, a6⟩ := h2
    refine ⟨top, kp, a1, a2, ?_, ?_, a5, fun i hi => ?_⟩
    · rw [e7]; exact a3
    · rw [e7]; exact a4
    · rw [e4 _ (by omega)]
      exact a6 i hi
  · unfold TapeR
    rw [e0, e01]
    exact h3
  · unfold GameR
    rw [e9, e91]
    exact h4
  · unfold RefR
    rw [e2]
    exact h5
  · intro k hk
    unfold ImgR
    rw [e22, e3, e5, e4 _ (by omega)]
    rcases h6 k hk with h | ⟨q1, q2, m, q3⟩
    · exact Or.inl h
    · exact Or.inr ⟨q1, q2, m, whR_congr q3 (fun j hj => e6 _ j hj) (fun _ _ => rfl)⟩
  · unfold MoreR
    rw [e0]
    exact h7
  · unfold PairR
    rw [e0, e03]
    exact h8
  · unfold JudR
    rw [e05]
    exact h9
  · rw [e0]
    exact h10
theorem rel_xe {N : Nat} {C : CM} {X X' : XM} (h : Rel N C X) (hx : XE X X') : Rel N C X' := by
  obtain ⟨⟨n, h1, h2⟩, h3, h4, h5, h6, h7, h8, h9, h10, h11⟩ := h
  have f : ∀ x, lastF x = true → X'.1 0 x = X.1 0 x := hx.1
  have g : ∀ j, lastR j = true → X'.1 j = X.1 j := hx.2.1
  refine ⟨⟨n, ?_, ?_⟩, ?_, fun hk => ?_, h5, ?_, ?_, ?_, ?_, ?_, ?_⟩
  · unfold HereR
    rw [g 2 rfl]
    exact whR_congr h1 (fun _ _ => rfl) (fun x hx8 => hx.2.2.1 x hx8)
  · unfold PastR
    rw [f 33 rfl, g 10 rfl, g 2 rfl]
    exact h2
  · unfold TapeR
    rw [f 2 rfl, g 1 rfl]
    exact h3
  · obtain ⟨q1, q2⟩ := h4 hk
    exact ⟨q1, fun a Y hY hm => q2 a Y (hY.trans (g 2 rfl)) (fun x hx8 => (hm x hx8).trans (hx.2.2.1 x hx8))⟩
  · intro k hk
    unfold ImgR
    rw [g 19 rfl, g 17 rfl, hx.2.2.2.2]
    exact h6 k hk
  · unfold MoreR
    rw [f 35 rfl, f 34 rfl]
    exact h7
  · unfold PairR
    rw [f 38 rfl, g 12 rfl]
    exact h8
  · unfold JudR
    rw [f 43 rfl, g 13 rfl]
    exact h9
  · rw [f 15 rfl]
    exact h10
  · rw [hx.2.2.2.1]
    exact h11
theorem stateR_0 : StateR (0, 0, 0, 0) (X0m.1 2) (C0m.1 4 0) (fun x => X0m.1 2 (371 + x)) := by
  refine ⟨⟨fun j o h1 h2 _ => ?_, rfl, rfl, rfl⟩, ⟨0, by omega, rfl, fun o ho => ⟨⟨0, by omega, rfl⟩, ⟨0, by omega, rfl⟩, ⟨0, by omega, rfl⟩, ⟨0, by omega, rfl⟩⟩⟩, ⟨0, by omega, rfl, rfl⟩, fun j o hj _ _ => ?_, ⟨0, by omega, rfl, fun k _ => ⟨by rw [Nat.zero_testBit]; rfl, fun _ => Nat.zero_testBit k⟩⟩, ⟨fun _ => 0, fun c _ => ⟨Nat.zero_le _, rfl⟩, by rw [sumN_0 100 (fun _ _ => rfl)]; omega, by rw [sumN_0 100 (fun _ _ => rfl)]; rfl⟩, ⟨fun k h => by simp at h, fun k h => by simp at h, fun c _ h => ?_, fun c _ _ _ _ => rfl⟩⟩
  · show (if (4 : Nat) = 4 ∧ j = 0 ∧ o = 4 then (-1 : Int32) else if (4 : Nat) = 0 ∧ j = 0 ∧ o = 13 then -1 else if (4 : Nat) = 0 ∧ j = 5 then -1 else 0) = 0
    rw [if_neg (by omega), if_neg (by omega), if_neg (by omega)]
  · show (if (4 : Nat) = 4 ∧ j = 0 ∧ o = 4 then (-1 : Int32) else if (4 : Nat) = 0 ∧ j = 0 ∧ o = 13 then -1 else if (4 : Nat) = 0 ∧ j = 5 then -1 else 0) = 0
    rw [if_neg (by omega), if_neg (by omega), if_neg (by omega)]
  · have h : (0 : Int32) = 1 := h
    exact absurd h (by decide)
theorem rel_0 (N : Nat) : Rel N C0m X0m := by
  refine ⟨⟨(0, 0, 0, 0), ⟨bankR_0 _, stateR_0, ⟨0, by omega, rfl, rfl, fun i hi => by omega⟩, ⟨0, fun _ => 0, by omega, rfl, Or.inl ⟨rfl, rfl⟩⟩, fun k hk => by simp at hk⟩, ⟨0, 0, by omega, by omega, rfl, rfl, rfl, fun i hi => by omega⟩⟩, ⟨0, by omega, rfl, rfl, fun x _ => ⟨0, by omega, rfl, rfl⟩⟩, fun h => absurd rfl h, ⟨Or.inl ⟨rfl, rfl⟩, Or.inl ⟨rfl, rfl⟩, Or.inl ⟨rfl, rfl⟩, fun i f _ _ => rfl⟩, fun k _ => Or.inl ⟨rfl, rfl⟩, Or.inl ⟨rfl, rfl⟩, ⟨0, by omega, rfl, rfl, fun k hk => by omega⟩, Or.inl ⟨rfl, fun i _ => rfl⟩, rfl, rfl⟩
