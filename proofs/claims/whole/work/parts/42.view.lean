/-! What of both memories lasts from call to call: all but the scratch. -/
/-- fields of the reference that last: length, fault, undoMany, moreBy, hasMore, oiledMany, hasJudged -/
def lastF (x : Nat) : Bool := x == 2 || x == 15 || x == 33 || x == 34 || x == 35 || x == 38 || x == 43
/-- rows of the reference that last: tape, s, undone, oiledRow, judgedAt, kept, isKept -/
def lastR (j : Nat) : Bool := j == 1 || j == 2 || j == 10 || j == 12 || j == 13 || j == 17 || j == 19
def XE (X X' : XM) : Prop := (∀ x, lastF x = true → X'.1 0 x = X.1 0 x) ∧ (∀ j, lastR j = true → X'.1 j = X.1 j) ∧ (∀ x, x < 8 → X'.2 5 x = X.2 5 x) ∧ X'.2 6 = X.2 6 ∧ X'.2 18 = X.2 18
theorem XE.rf (X : XM) : XE X X := ⟨fun _ _ => rfl, fun _ _ => rfl, fun _ _ => rfl, rfl, rfl⟩
theorem XE.trans {X Y Z : XM} (h1 : XE X Y) (h2 : XE Y Z) : XE X Z := ⟨fun x h => (h2.1 x h).trans (h1.1 x h), fun j h => (h2.2.1 j h).trans (h1.2.1 j h), fun x h => (h2.2.2.1 x h).trans (h1.2.2.1 x h), h2.2.2.2.1.trans h1.2.2.2.1, h2.2.2.2.2.trans h1.2.2.2.2⟩
theorem xe_stF {X : XM} {x : Nat} {v : Int32} (h : lastF x = false) : XE X (stX X 0 x v) := by
  refine ⟨fun y hy => ?_, fun j hj => ?_, fun _ _ => rfl, rfl, rfl⟩
  · have : y ≠ x := fun e => by rw [e, h] at hy; cases hy
    simp [stX, this]
  · have : j ≠ 0 := fun e => by rw [e] at hj; cases hj
    funext y
    simp [stX, this]
theorem xe_stR {X : XM} {j x : Nat} {v : Int32} (h0 : j ≠ 0) (h : lastR j = false) : XE X (stX X j x v) := by
  refine ⟨fun y _ => ?_, fun i hi => ?_, fun _ _ => rfl, rfl, rfl⟩
  · simp [stX, h0.symm]
  · have : i ≠ j := fun e => by rw [e, h] at hi; cases hi
    funext y
    simp [stX, this]
theorem xe_rwR {X : XM} {j : Nat} {r : Nat → Int32} (h0 : j ≠ 0) (h : lastR j = false) : XE X (rwX X j r) := by
  refine ⟨fun y _ => ?_, fun i hi => ?_, fun _ _ => rfl, rfl, rfl⟩
  · simp [rwX, h0.symm]
  · have : i ≠ j := fun e => by rw [e, h] at hi; cases hi
    funext y
    simp [rwX, this]
/-- the class's scratch: text, wind, the row of forecasts, the trial state, the wealth of the game -/
def scrC (k i j : Nat) : Bool := k == 1 || k == 8 || (k == 0 && j == 4) || (k == 4 && i == 3) || (k == 9 && j == 2) || (k == 6 && j == 4)
def CE (C C' : CM) : Prop := C'.2 = C.2 ∧ ∀ k i j x, scrC k i j = false → C'.1 k i j x = C.1 k i j x
theorem CE.rf (C : CM) : CE C C := ⟨rfl, fun _ _ _ _ _ => rfl⟩
theorem CE.trans {A B C : CM} (h1 : CE A B) (h2 : CE B C) : CE A C := ⟨h2.1.trans h1.1, fun k i j x h => (h2.2 k i j x h).trans (h1.2 k i j x h)⟩
theorem ce_st {C : CM} {k i j x : Nat} {v : Int32} (h : scrC k i j = true) : CE C (stC C k i j x v) := by
  refine ⟨rfl, fun k' i' j' x' h' => ?_⟩
  have : ¬ (k' = k ∧ i' = i ∧ j' = j ∧ x' = x) := fun e => by rw [e.1, e.2.1, e.2.2.1, h] at h'; cases h'
  simp only [stC, if_neg this]
theorem ce_copy (C : CM) {r : Nat} : CE C (cpK C 4 3 r dX6) := by
  refine ⟨rfl, fun k i j x h => ?_⟩
  simp only [cpK]
  rw [if_neg]
  rintro ⟨rfl, rfl, -⟩
  simp [scrC] at h
