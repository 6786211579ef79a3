/-! What lies on a cell, on both sides. -/
theorem thing_cases {n : BN} {s std fen th : Nat → Int32} (h : ThingR n s std fen th) {c : Nat} (hc : c < 100) :
    (∃ k, k < n.2.2.1 ∧ s (7 + k) = nI c ∧ th c = nI (16 + k)) ∨ (∃ t, t < n.2.2.2 ∧ std t = 1 ∧ s (63 + t) = nI c ∧ th c = nI (32 + t)) ∨ (fen c = 1 ∧ th c = 48) ∨
    ((∀ k, k < n.2.2.1 → s (7 + k) ≠ nI c) ∧ (∀ t, t < n.2.2.2 → std t = 1 → s (63 + t) ≠ nI c) ∧ fen c ≠ 1 ∧ th c = 0) := by
  by_cases h1 : ∃ k, k < n.2.2.1 ∧ s (7 + k) = nI c
  · obtain ⟨k, hk, hs⟩ := h1
    exact Or.inl ⟨k, hk, hs, h.1 k hk c hs hc⟩
  by_cases h2 : ∃ t, t < n.2.2.2 ∧ std t = 1 ∧ s (63 + t) = nI c
  · obtain ⟨t, ht, hd, hs⟩ := h2
    exact Or.inr (Or.inl ⟨t, ht, hd, hs, h.2.1 t ht hd c hs hc⟩)
  by_cases h3 : fen c = 1
  · exact Or.inr (Or.inr (Or.inl ⟨h3, h.2.2.1 c hc h3⟩))
  have h1' : ∀ k, k < n.2.2.1 → s (7 + k) ≠ nI c := fun k hk e => h1 ⟨k, hk, e⟩
  have h2' : ∀ t, t < n.2.2.2 → std t = 1 → s (63 + t) ≠ nI c := fun t ht hd e => h2 ⟨t, ht, hd, e⟩
  exact Or.inr (Or.inr (Or.inr ⟨h1', h2', h3, h.2.2.2 c hc h1' h2' h3⟩))
theorem treeAt_go (N : Nat) (X : XM) (T : Nat) (hX : X.1 2 3 = nI T) (hT : T ≤ 12) (a : Int32) : ∀ (d k fuel : Nat), k + d = T → d < fuel →
    (∃ t, k ≤ t ∧ t < T ∧ X.1 2 (63 + t) = a ∧ X.1 2 (429 + t) = 1 ∧ f_X11_treeAt_2 N a fuel (nI k) X = some (nI t, X)) ∨ ((∀ t, k ≤ t → t < T → X.1 2 (63 + t) = a → X.1 2 (429 + t) ≠ 1) ∧ f_X11_treeAt_2 N a fuel (nI k) X = some (-1, X)) := by
  intro d
  induction d with
  | zero =>
    intro k fuel hk hf
    obtain ⟨m, rfl⟩ : ∃ m, fuel = m + 1 := ⟨fuel - 1, by omega⟩
    refine Or.inr ⟨fun t h1 h2 => by omega, ?_⟩
    simp (disch := omega) only [f_X11_treeAt_2, ldA_l, hX, le_nn, if_pos]
    rfl
  | succ d ih =>
    intro k fuel hk hf
    obtain ⟨m, rfl⟩ : ∃ m, fuel = m + 1 := ⟨fuel - 1, by omega⟩
    have hstep : f_X11_treeAt_2 N a (m + 1) (nI k) X = (if X.1 2 (63 + k) = a then (if X.1 2 (429 + k) = 1 then rt (nI k) X else f_X11_treeAt_2 N a m (nI (k + 1)) X) else f_X11_treeAt_2 N a m (nI (k + 1)) X) := by
      simp (disch := omega) only [f_X11_treeAt_2, ldA_l, hX, le_nn, if_neg, nI_la, nI_al, ldA_nI]
    rw [hstep]
    by_cases h1 : X.1 2 (63 + k) = a ∧ X.1 2 (429 + k) = 1
    · exact Or.inl ⟨k, Nat.le_refl _, by omega, h1.1, h1.2, by rw [if_pos h1.1, if_pos h1.2]; rfl⟩
    · have e : (if X.1 2 (63 + k) = a then (if X.1 2 (429 + k) = 1 then rt (nI k) X else f_X11_treeAt_2 N a m (nI (k + 1)) X) else f_X11_treeAt_2 N a m (nI (k + 1)) X) = f_X11_treeAt_2 N a m (nI (k + 1)) X := by
        by_cases h2 : X.1 2 (63 + k) = a
        · rw [if_pos h2, if_neg (fun h3 => h1 ⟨h2, h3⟩)]
        · rw [if_neg h2]
      rw [e]
      rcases ih (k + 1) m (by omega) (by omega) with ⟨t, t1, t2, t3, t4, t5⟩ | ⟨t1, t2⟩
      · exact Or.inl ⟨t, by omega, t2, t3, t4, t5⟩
      · refine Or.inr ⟨fun t h2 h3 h4 h5 => ?_, t2⟩
        by_cases h6 : t = k
        · subst h6; exact h1 ⟨h4, h5⟩
        · exact t1 t (by omega) h3 h4 h5
theorem ownerAt_go (N : Nat) (X : XM) (O : Nat) (hX : X.1 2 2 = nI O) (hO : O ≤ 8) (a : Int32) : ∀ (d k fuel : Nat), k + d = O → d < fuel →
    (∃ t, k ≤ t ∧ t < O ∧ X.1 2 (7 + t) = a ∧ f_X11_ownerAt_2 N a fuel (nI k) X = some (nI t, X)) ∨ ((∀ t, k ≤ t → t < O → X.1 2 (7 + t) ≠ a) ∧ f_X11_ownerAt_2 N a fuel (nI k) X = some (-1, X)) := by
  intro d
  induction d with
  | zero =>
    intro k fuel hk hf
    obtain ⟨m, rfl⟩ : ∃ m, fuel = m + 1 := ⟨fuel - 1, by omega⟩
    refine Or.inr ⟨fun t h1 h2 => by omega, ?_⟩
    simp (disch := omega) only [f_X11_ownerAt_2, ldA_l, hX, le_nn, if_pos]
    rfl
  | succ d ih =>
    intro k fuel hk hf
    obtain ⟨m, rfl⟩ : ∃ m, fuel = m + 1 := ⟨fuel - 1, by omega⟩
    have hstep : f_X11_ownerAt_2 N a (m + 1) (nI k) X = (if X.1 2 (7 + k) = a then rt (nI k) X else f_X11_ownerAt_2 N a m (nI (k + 1)) X) := by
      simp (disch := omega) only [f_X11_ownerAt_2, ldA_l, hX, le_nn, if_neg, nI_la, nI_al, ldA_nI]
    rw [hstep]
    by_cases h1 : X.1 2 (7 + k) = a
    · exact Or.inl ⟨k, Nat.le_refl _, by omega, h1, by rw [if_pos h1]; rfl⟩
    · rw [if_neg h1]
      rcases ih (k + 1) m (by omega) (by omega) with ⟨t, t1, t2, t3, t5⟩ | ⟨t1, t2⟩
      · exact Or.inl ⟨t, by omega, t2, t3, t5⟩
      · refine Or.inr ⟨fun t h2 h3 h4 => ?_, t2⟩
        by_cases h6 : t = k
        · subst h6; exact h1 h4
        · exact t1 t (by omega) h3 h4
