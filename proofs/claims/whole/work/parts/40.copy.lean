/-! The pure layer: copies. -/
def cpK (C : CM) (k0 r0 r1 : Nat) (d : Nat → Nat → Prop) [∀ j x, Decidable (d j x)] : CM := (fun k i j x => if k = k0 ∧ i = r0 ∧ d j x then C.1 k0 r1 j x else C.1 k i j x, C.2)
abbrev dX6 (j x : Nat) : Prop := (j = 0 ∧ x < 6) ∨ (1 ≤ j ∧ j ≤ 8)
theorem copy_X6 (C : CM) {r0 r1 : Nat} (hne : r1 ≠ r0) : f_X6_copy r0 r1 C = some (0, cpK C 4 r0 r1 dX6) := by
  unfold f_X6_copy
  simp only [bnd_v, rt]
  congr 2
  refine Prod.ext ?_ rfl
  funext k i j x
  simp only [stC, rwC, cpK, dX6, hne, false_and, and_false, if_false]
  by_cases hk : k = 4
  · by_cases hi : i = r0
    · subst hk; subst hi
      simp only [true_and]
      match j with
      | 0 =>
        match x with
        | 0 => simp
        | 1 => simp
        | 2 => simp
        | 3 => simp
        | 4 => simp
        | 5 => simp
        | n + 6 => simp [show ¬ (n + 6 < 6) by omega]
      | 1 => simp
      | 2 => simp
      | 3 => simp
      | 4 => simp
      | 5 => simp
      | 6 => simp
      | 7 => simp
      | 8 => simp
      | n + 9 => simp
    · simp [hi]
  · simp [hk]
abbrev dX3 (j x : Nat) : Prop := (j = 0 ∧ x < 1) ∨ (1 ≤ j ∧ j ≤ 3)
theorem copy_X3 (C : CM) {r0 r1 : Nat} (hne : r1 ≠ r0) : f_X3_copy r0 r1 C = some (0, cpK C 5 r0 r1 dX3) := by
  unfold f_X3_copy
  simp only [bnd_v, rt]
  congr 2
  refine Prod.ext ?_ rfl
  funext k i j x
  simp only [stC, rwC, cpK, dX3, hne, false_and, and_false, if_false]
  by_cases hk : k = 5
  · by_cases hi : i = r0
    · subst hk; subst hi
      simp only [true_and]
      match j with
      | 0 =>
        match x with
        | 0 => simp
        | n + 1 => simp
      | 1 => simp
      | 2 => simp
      | 3 => simp
      | n + 4 => simp
    · simp [hi]
  · simp [hk]
abbrev dX5 (j x : Nat) : Prop := (j = 0 ∧ x < 2) ∨ (1 ≤ j ∧ j ≤ 3)
theorem copy_X5 (C : CM) {r0 r1 : Nat} (hne : r1 ≠ r0) : f_X5_copy r0 r1 C = some (0, cpK C 6 r0 r1 dX5) := by
  unfold f_X5_copy
  simp only [bnd_v, rt]
  congr 2
  refine Prod.ext ?_ rfl
  funext k i j x
  simp only [stC, rwC, cpK, dX5, hne, false_and, and_false, if_false]
  by_cases hk : k = 6
  · by_cases hi : i = r0
    · subst hk; subst hi
      simp only [true_and]
      match j with
      | 0 =>
        match x with
        | 0 => simp
        | 1 => simp
        | n + 2 => simp [show ¬ (n + 2 < 2) by omega]
      | 1 => simp
      | 2 => simp
      | 3 => simp
      | n + 4 => simp
    · simp [hi]
  · simp [hk]
abbrev dX0 (j x : Nat) : Prop := (j = 0 ∧ x < 10) ∨ (j = 6 ∧ x < 2) ∨ (1 ≤ j ∧ j ≤ 5) ∨ (7 ≤ j ∧ j ≤ 15)
theorem copy_X0 (C : CM) {r0 r1 : Nat} (hne : r1 ≠ r0) (hb : isB (C.1 3 r1 0 7) = true) : f_X0_copy r0 r1 C = some (0, cpK C 3 r0 r1 dX0) := by
  unfold f_X0_copy f_X1_copy
  simp only [bnd_v, rt, cal_some]
  simp only [stC, hne, false_and, and_false, if_false, hb, chk_t]
  congr 2
  refine Prod.ext ?_ rfl
  funext k i j x
  simp only [rwC, cpK, dX0, hne, false_and, and_false, if_false]
  by_cases hk : k = 3
  · by_cases hi : i = r0
    · subst hk; subst hi
      simp only [true_and]
      match j with
      | 0 =>
        match x with
        | 0 => simp
        | 1 => simp
        | 2 => simp
        | 3 => simp
        | 4 => simp
        | 5 => simp
        | 6 => simp
        | 7 => simp
        | 8 => simp
        | 9 => simp
        | n + 10 => simp [show ¬ (n + 10 < 10) by omega]
      | 1 => simp
      | 2 => simp
      | 3 => simp
      | 4 => simp
      | 5 => simp
      | 6 =>
        match x with
        | 0 => simp
        | 1 => simp
        | n + 2 => simp [show ¬ (n + 2 < 2) by omega]
      | 7 => simp
      | 8 => simp
      | 9 => simp
      | 10 => simp
      | 11 => simp
      | 12 => simp
      | 13 => simp
      | 14 => simp
      | 15 => simp
      | n + 16 => simp
    · simp [hi]
  · simp [hk]
