/-! The state that a bank begins with: the class, and both. -/
section BEG2
variable {N : Nat}
theorem sh_all : ∀ T, T ≤ 12 → ((1 : Int32) <<< (nI T &&& 31)) - 1 = nI (2 ^ T - 1) := by
  intro T hT
  rcases (by omega : T = 0 ∨ T = 1 ∨ T = 2 ∨ T = 3 ∨ T = 4 ∨ T = 5 ∨ T = 6 ∨ T = 7 ∨ T = 8 ∨ T = 9 ∨ T = 10 ∨ T = 11 ∨ T = 12) with h | h | h | h | h | h | h | h | h | h | h | h | h <;> subst h <;> decide
/-- what the class's begin leaves in its state -/
def BgP (B P : Nat → Nat → Int32) : Prop := P 0 0 = 0 ∧ P 0 1 = 0 ∧ P 0 2 = B 0 4 ∧ P 0 3 = ((1 : Int32) <<< ((B 0 3) &&& 31)) - 1 ∧ P 0 4 = -1 ∧ P 0 5 = 0 ∧ (∀ o, o < 8 → P 1 o = B 9 o ∧ P 2 o = 0 ∧ P 3 o = B 11 o ∧ P 4 o = B 12 o ∧ P 5 o = 0 ∧ P 6 o = 0 ∧ P 7 o = 0) ∧ P 8 = B 1
theorem beginC_eq {r b : Nat} (C : CM) (hN : 2000 ≤ N) : ∃ C', f_X6_begin N r b C = some (0, C') ∧ C'.2 = C.2 ∧ (∀ k i, ¬ (k = 4 ∧ i = r) → C'.1 k i = C.1 k i) ∧ BgP (C.1 3 b) (C'.1 4 r) := by
  unfold f_X6_begin
  rw [bnd_v, bnd_v, bnd_v, bnd_v, bnd_v, bnd_v]
  have fr : ∀ (D : CM) (j x : Nat) (v : Int32) (k i : Nat), ¬ (k = 4 ∧ i = r) → (stC D 4 r j x v).1 k i = D.1 k i := fun D j x v k i h => by
    funext y z
    simp only [stC]
    rw [if_neg (by omega)]
  generalize hD0 : stC (stC (stC (stC (stC (stC C 4 r 0 0 0) 4 r 0 1 0) 4 r 0 2 ((stC (stC C 4 r 0 0 0) 4 r 0 1 0).1 3 b 0 4)) 4 r 0 3 (((1 : Int32) <<< (((stC (stC (stC C 4 r 0 0 0) 4 r 0 1 0) 4 r 0 2 ((stC (stC C 4 r 0 0 0) 4 r 0 1 0).1 3 b 0 4)).1 3 b 0 3) &&& 31)) - 1)) 4 r 0 4 (-1)) 4 r 0 5 0 = D0
  have e2 : D0.2 = C.2 := by rw [← hD0]; rfl
  have ef : ∀ k i, ¬ (k = 4 ∧ i = r) → D0.1 k i = C.1 k i := fun k i h => by
    rw [← hD0, fr _ _ _ _ _ _ h, fr _ _ _ _ _ _ h, fr _ _ _ _ _ _ h, fr _ _ _ _ _ _ h, fr _ _ _ _ _ _ h, fr _ _ _ _ _ _ h]
  have x0 : D0.1 4 r 0 0 = 0 ∧ D0.1 4 r 0 1 = 0 ∧ D0.1 4 r 0 2 = C.1 3 b 0 4 ∧ D0.1 4 r 0 3 = ((1 : Int32) <<< ((C.1 3 b 0 3) &&& 31)) - 1 ∧ D0.1 4 r 0 4 = -1 ∧ D0.1 4 r 0 5 = 0 := by
    rw [← hD0]
    refine ⟨?_, ?_, ?_, ?_, ?_, stC_at⟩
    · rw [stC_ne (by omega), stC_ne (by omega), stC_ne (by omega), stC_ne (by omega), stC_ne (by omega), stC_at]
    · rw [stC_ne (by omega), stC_ne (by omega), stC_ne (by omega), stC_ne (by omega), stC_at]
    · rw [stC_ne (by omega), stC_ne (by omega), stC_ne (by omega), stC_at, stC_ob (by omega), stC_ob (by omega)]
    · rw [stC_ne (by omega), stC_ne (by omega), stC_at, stC_ob (by omega), stC_ob (by omega), stC_ob (by omega)]
    · rw [stC_ne (by omega), stC_at]
  clear hD0
  refine loop1 (fun m i (D : CM) => f_X6_begin_42 N r b m i D) (fun k D => D.2 = C.2 ∧ (∀ q i, ¬ (q = 4 ∧ i = r) → D.1 q i = C.1 q i) ∧ D.1 4 r 0 = D0.1 4 r 0 ∧ ∀ o, o < k → D.1 4 r 1 o = C.1 3 b 9 o ∧ D.1 4 r 2 o = 0 ∧ D.1 4 r 3 o = C.1 3 b 11 o ∧ D.1 4 r 4 o = C.1 3 b 12 o ∧ D.1 4 r 5 o = 0 ∧ D.1 4 r 6 o = 0 ∧ D.1 4 r 7 o = 0)
    (fun y => ∃ C', y = some (0, C') ∧ C'.2 = C.2 ∧ (∀ k i, ¬ (k = 4 ∧ i = r) → C'.1 k i = C.1 k i) ∧ BgP (C.1 3 b) (C'.1 4 r)) 8 ?_ ?_ 8 0 N D0 (by omega) (by omega) ⟨e2, ef, rfl, fun o h => absurd h (Nat.not_lt_zero _)⟩
  · rintro m k D hk ⟨h1, h2, h3, h4⟩
    left
    have b3 : ∀ E : CM, (∀ j x, E.1 3 b j x = D.1 3 b j x) → ∀ j x, E.1 3 b j x = C.1 3 b j x := fun E hE j x => by rw [hE, h2 3 b (by omega)]
    have e3 : ∀ j, D.1 3 b j = C.1 3 b j := fun j => by rw [h2 3 b (by omega)]
    refine ⟨stC (stC (stC (stC (stC (stC (stC D 4 r 1 k (C.1 3 b 9 k)) 4 r 2 k 0) 4 r 3 k (C.1 3 b 11 k)) 4 r 4 k (C.1 3 b 12 k)) 4 r 5 k 0) 4 r 6 k 0) 4 r 7 k 0, ?_, h1, fun q i h => ?_, ?_, fun o ho => ?_⟩
    · rw [f_X6_begin_42]
      simp (disch := omega) only [le_ln, if_neg, ldA_nI, stA_nI, nI_al, stC_ob, e3]
    · rw [fr _ _ _ _ _ _ h, fr _ _ _ _ _ _ h, fr _ _ _ _ _ _ h, fr _ _ _ _ _ _ h, fr _ _ _ _ _ _ h, fr _ _ _ _ _ _ h, fr _ _ _ _ _ _ h]
      exact h2 q i h
    · rw [stC_row (by omega), stC_row (by omega), stC_row (by omega), stC_row (by omega), stC_row (by omega), stC_row (by omega), stC_row (by omega)]
      exact h3
    · by_cases e : o = k
      · subst e
        simp (disch := omega) only [stC_at, stC_row, and_self]
      · have hh := h4 o (by omega)
        simp (disch := omega) only [stC_ne, stC_row]
        exact hh
  · rintro m D ⟨h1, h2, h3, h4⟩
    refine ⟨rwC D 4 r 8 (D.1 3 b 1), ?_, h1, fun q i h => ?_, ?_⟩
    · rw [f_X6_begin_42, if_pos (by decide)]
      rfl
    · have : (rwC D 4 r 8 (D.1 3 b 1)).1 q i = D.1 q i := by
        funext y z
        simp only [rwC]
        rw [if_neg (by omega)]
      rw [this]
      exact h2 q i h
    · have hr : ∀ j, j ≠ 8 → (rwC D 4 r 8 (D.1 3 b 1)).1 4 r j = D.1 4 r j := fun j hj => by
        funext z
        simp only [rwC]
        rw [if_neg (by omega)]
      unfold BgP
      rw [hr 0 (by omega), hr 1 (by omega), hr 2 (by omega), hr 3 (by omega), hr 4 (by omega), hr 5 (by omega), hr 6 (by omega), hr 7 (by omega), h3]
      obtain ⟨c0, c1, c2, c3, c4, c5⟩ := x0
      refine ⟨c0, c1, c2, c3, c4, c5, h4, ?_⟩
      funext z
      simp only [rwC]
      rw [if_pos ⟨trivial, trivial, trivial⟩, h2 3 b (by omega)]
end BEG2
