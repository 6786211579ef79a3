/-- what a thing takes off the wind -/
def tkT (v : Int32) : Int32 := if ((v >>> (4 &&& 31)) <<< (4 &&& 31)) = 32 then 2 else if ((v >>> (4 &&& 31)) <<< (4 &&& 31)) = 48 then 3 else 0
theorem tk_own : ∀ k, k < 8 → tkT (nI (16 + k)) = 0 := by decide +kernel
theorem tk_tree : ∀ t, t < 12 → tkT (nI (32 + t)) = 2 := by decide +kernel
theorem tk_fen : tkT 48 = 3 := by decide +kernel
theorem tk_none : tkT 0 = 0 := by decide +kernel
/-- the reference's tests of a cell give what the thing takes -/
theorem takes_X {N : Nat} {X : XM} {n : BN} {th : Nat → Int32} (hN : 2000 ≤ N) (hO : n.2.2.1 ≤ 8) (hT : n.2.2.2 ≤ 12) (hX : X.1 2 3 = nI n.2.2.2) (h : ThingR n (X.1 2) (fun k => X.1 2 (429 + k)) (fun c => X.1 2 (441 + c)) th) {c : Nat} (hc : c < 100) :
    (∃ t, t < 12 ∧ f_X11_treeAt N (nI c) X = some (nI t, X) ∧ tkT (th c) = 2) ∨ (f_X11_treeAt N (nI c) X = some (-1, X) ∧ ((X.1 2 (441 + c) = 1 ∧ tkT (th c) = 3) ∨ (X.1 2 (441 + c) ≠ 1 ∧ tkT (th c) = 0))) := by
  have h0 := treeAt_go N X n.2.2.2 hX hT (nI c) n.2.2.2 0 N (by omega) (by omega)
  rcases h0 with ⟨t, -, t2, t3, t4, t5⟩ | ⟨t1, t2⟩
  · exact Or.inl ⟨t, by omega, t5, by rw [h.2.1 t t2 t4 c t3 hc]; exact tk_tree t (by omega)⟩
  · refine Or.inr ⟨t2, ?_⟩
    rcases thing_cases h hc with ⟨k, hk, hs, e⟩ | ⟨t, ht, hd, hs, e⟩ | ⟨h3, e⟩ | ⟨h1, h2, h3, e⟩
    · by_cases hf : X.1 2 (441 + c) = 1
      · have e2 : th c = 48 := h.2.2.1 c hc hf
        exact Or.inl ⟨hf, by rw [e2]; exact tk_fen⟩
      · exact Or.inr ⟨hf, by rw [e]; exact tk_own k (by omega)⟩
    · exact absurd hd (t1 t (Nat.zero_le _) ht hs)
    · exact Or.inl ⟨h3, by rw [e]; exact tk_fen⟩
    · exact Or.inr ⟨h3, by rw [e]; exact tk_none⟩
