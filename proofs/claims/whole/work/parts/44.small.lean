theorem int_cases (a : Int32) : a < 0 ∨ ∃ k, k < 2147483648 ∧ a = nI k := by
  by_cases h : a < 0
  · exact Or.inl h
  · have h := Int32.not_lt.mp h
    rw [Int32.le_iff_toInt_le] at h
    have h0 : (0 : Int32).toInt = 0 := by decide
    rw [h0] at h
    have h2 := a.toInt_lt
    refine Or.inr ⟨a.toInt.toNat, by omega, ?_⟩
    have e : a = Int32.ofInt a.toInt := (Int32.ofInt_toInt a).symm
    have e2 : a.toInt = ((a.toInt.toNat : Nat) : Int) := by omega
    rw [e2] at e
    exact e.trans rfl
theorem nI_nneg {k : Nat} (h : k < 2147483648) : ¬ (nI k < 0) := by
  exact nI_pos (by omega)
/-- an owner's number, on both sides -/
theorem isOwner_C {C : CM} {b O : Nat} (hB : C.1 3 b 6 0 = nI O) (hO : O ≤ 8) (a : Int32) : (∃ k, k < O ∧ a = nI k ∧ f_X0_isOwner b a C = some (1, C)) ∨ ((∀ k, k < O → a ≠ nI k) ∧ f_X0_isOwner b a C = some (0, C)) := by
  unfold f_X0_isOwner
  rcases int_cases a with h | ⟨k, hk, rfl⟩
  · exact Or.inr ⟨fun k hk e => nI_nneg (by omega) (e ▸ h), by rw [if_pos h]; rfl⟩
  · rw [if_neg (nI_nneg hk), hB]
    by_cases hkO : k < O
    · exact Or.inl ⟨k, hkO, rfl, by simp (disch := omega) only [le_nn, if_neg]; rfl⟩
    · exact Or.inr ⟨fun k' hk' e => by rw [eq_nn hk (by omega)] at e; omega, by simp (disch := omega) only [le_nn, if_pos]; rfl⟩
