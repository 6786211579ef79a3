def vX (x i d : Nat) : Int32 := nI x + nI i * tbX d
def vY (y i d : Nat) : Int32 := nI y + nI i * tbY d
def outX (w x i d : Nat) : Bool := decide (vX x i d < 0) || decide (nI w ≤ vX x i d)
def outY (w y i d : Nat) : Bool := decide (vY y i d < 0) || decide (nI w ≤ vY y i d)
theorem outX_mono : ∀ w, w < 11 → ∀ x, x < 10 → ∀ d, d < 8 → ∀ i, i < 3 → (x < w ∧ outX w x i d = true → outX w x (i + 1) d = true) := by decide +kernel
theorem outY_mono : ∀ w, w < 11 → ∀ x, x < 10 → ∀ d, d < 8 → ∀ i, i < 3 → (x < w ∧ outY w x i d = true → outY w x (i + 1) d = true) := by decide +kernel
theorem outX_no : ∀ w, w < 11 → ∀ x, x < 10 → ∀ d, d < 8 → ∀ i, i < 4 → (outX w x i d = false → (vX x i d).toNatClampNeg < w ∧ vX x i d = nI (vX x i d).toNatClampNeg) := by decide +kernel
theorem outY_no : ∀ w, w < 11 → ∀ x, x < 10 → ∀ d, d < 8 → ∀ i, i < 4 → (outY w x i d = false → (vY x i d).toNatClampNeg < w ∧ vY x i d = nI (vY x i d).toNatClampNeg) := by decide +kernel
