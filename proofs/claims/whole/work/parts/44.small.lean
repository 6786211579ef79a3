theorem int_cases (a : Int32) : a < 0 ∨ ∃ k, k < 2147483648 ∧ a = nI k := by
  by_cases h : a < 0
  · exact Or.inl h
  · have h := Int32.not_lt.mp h
    rw [Int32.le_iff_toInt_le] at h
    have h0 : (0 : Int32).toInt = 0 := by decide
    rw [h0] at h
    have h2 := a.toInt_lt
    refine Or.inr ⟨a.toInt.toNat, by omega, ?_⟩
    have e : a = Int32.ofInt a.toInt := (Int32.ofInt_toInt a).symm
    have e2 : a.toInt = ((a.toInt.toNat : Nat) : Int) := by omega
    rw [e2] at e
    exact e.trans rfl
theorem nI_nneg {k : Nat} (h : k < 2147483648) : ¬ (nI k < 0) := by
  exact nI_pos (by omega)
/-- an owner's number, on both sides -/
theorem isOwner_C {C : CM} {b O : Nat} (hB : C.1 3 b 6 0 = nI O) (hO : O ≤ 8) (a : Int32) : (∃ k, k < O ∧ a = nI k ∧ f_X0_isOwner b a C = some (1, C)) ∨ ((∀ k, k < O → a ≠ nI k) ∧ f_X0_isOwner b a C = some (0, C)) := by
  unfold f_X0_isOwner
  rcases int_cases a with h | ⟨k, hk, rfl⟩
  · exact Or.inr ⟨fun k hk e => nI_nneg (by omega) (e ▸ h), by rw [if_pos h]; rfl⟩
  · rw [if_neg (nI_nneg hk), hB]
    by_cases hkO : k < O
    · exact Or.inl ⟨k, hkO, rfl, by simp (disch := omega) only [le_nn, if_neg]; rfl⟩
    · exact Or.inr ⟨fun k' hk' e => by rw [eq_nn hk (by omega)] at e; omega, by simp (disch := omega) only [le_nn, if_pos]; rfl⟩
theorem isOwner_X {X : XM} {O : Nat} (hB : X.1 2 2 = nI O) (hO : O ≤ 8) (a : Int32) : (∃ k, k < O ∧ a = nI k ∧ f_X11_isOwner a X = some (1, X)) ∨ ((∀ k, k < O → a ≠ nI k) ∧ f_X11_isOwner a X = some (0, X)) := by
  unfold f_X11_isOwner f_X11_isIn
  rw [ldA_l (j := 2) (by decide) (by decide)]
  show (∃ k, k < O ∧ a = nI k ∧ cal (if a < 0 then rt 0 X else if X.1 2 2 - 1 < a then rt 0 X else rt 1 X) (fun v2 X3 => chk (isB v2) (rt v2 X3)) = some (1, X)) ∨ ((∀ k, k < O → a ≠ nI k) ∧ cal (if a < 0 then rt 0 X else if X.1 2 2 - 1 < a then rt 0 X else rt 1 X) (fun v2 X3 => chk (isB v2) (rt v2 X3)) = some (0, X))
  rw [hB]
  rcases int_cases a with h | ⟨k, hk, rfl⟩
  · exact Or.inr ⟨fun k hk e => nI_nneg (by omega) (e ▸ h), by rw [if_pos h]; rfl⟩
  · rw [if_neg (nI_nneg hk)]
    by_cases hkO : k < O
    · have h1 : ¬ (nI O - 1 < nI k) := by
        simp (disch := omega) only [nI_sl, lt_nn]
        omega
      exact Or.inl ⟨k, hkO, rfl, by rw [if_neg h1]; rfl⟩
    · have h1 : nI O - 1 < nI k := by
        by_cases h0 : O = 0
        · subst h0
          have e : nI 0 - 1 = (-1 : Int32) := by decide
          rw [e, Int32.lt_iff_toInt_lt, nI_toInt (by omega)]
          have : (-1 : Int32).toInt = -1 := by decide
          omega
        · simp (disch := omega) only [nI_sl, lt_nn]
          omega
      exact Or.inr ⟨fun k' hk' e => by rw [eq_nn hk (by omega)] at e; omega, by rw [if_pos h1]; rfl⟩
