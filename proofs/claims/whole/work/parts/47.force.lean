def vX (x i d : Nat) : Int32 := nI x + nI i * tbX d
def vY (y i d : Nat) : Int32 := nI y + nI i * tbY d
def outX (w x i d : Nat) : Bool := decide (vX x i d < 0) || decide (nI w ≤ vX x i d)
def outY (w y i d : Nat) : Bool := decide (vY y i d < 0) || decide (nI w ≤ vY y i d)
theorem outX_mono : ∀ w, w < 11 → ∀ x, x < 10 → ∀ d, d < 8 → ∀ i, i < 3 → (x < w ∧ outX w x i d = true → outX w x (i + 1) d = true) := by decide +kernel
theorem outY_mono : ∀ w, w < 11 → ∀ x, x < 10 → ∀ d, d < 8 → ∀ i, i < 3 → (x < w ∧ outY w x i d = true → outY w x (i + 1) d = true) := by decide +kernel
def noBX (w x i d : Nat) : Bool := outX w x i d || (decide ((vX x i d).toNatClampNeg < w) && decide (vX x i d = nI (vX x i d).toNatClampNeg))
theorem noBX_ok : ∀ w, w < 11 → ∀ x, x < 10 → ∀ d, d < 8 → ∀ i, i < 4 → noBX w x i d = true := by decide +kernel
theorem outX_no {w x i d : Nat} (hw : w < 11) (hx : x < 10) (hd : d < 8) (hi : i < 4) (h : outX w x i d = false) : ∃ x', x' < w ∧ vX x i d = nI x' := by
  have h1 := noBX_ok w hw x hx d hd i hi
  simp only [noBX, h, Bool.false_or, Bool.and_eq_true, decide_eq_true_eq] at h1
  exact ⟨_, h1.1, h1.2⟩
def noBY (w x i d : Nat) : Bool := outY w x i d || (decide ((vY x i d).toNatClampNeg < w) && decide (vY x i d = nI (vY x i d).toNatClampNeg))
theorem noBY_ok : ∀ w, w < 11 → ∀ x, x < 10 → ∀ d, d < 8 → ∀ i, i < 4 → noBY w x i d = true := by decide +kernel
theorem outY_no {w x i d : Nat} (hw : w < 11) (hx : x < 10) (hd : d < 8) (hi : i < 4) (h : outY w x i d = false) : ∃ x', x' < w ∧ vY x i d = nI x' := by
  have h1 := noBY_ok w hw x hx d hd i hi
  simp only [noBY, h, Bool.false_or, Bool.and_eq_true, decide_eq_true_eq] at h1
  exact ⟨_, h1.1, h1.2⟩
