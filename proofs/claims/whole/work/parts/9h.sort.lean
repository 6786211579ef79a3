/-! The order of the owners by share. -/
section SORT
variable {N : Nat}
theorem pigeon : ∀ (n : Nat) (f : Nat → Nat), (∀ i, i < n → f i < n) → (∀ i j, i < n → j < n → f i = f j → i = j) → ∀ j, j < n → ∃ i, i < n ∧ f i = j := by
  intro n
  induction n with
  | zero => intro f _ _ j hj; omega
  | succ n ih =>
    intro f hb hi j hj
    have gb : ∀ i, i < n → (if f i = n then f n else f i) < n := by
      intro i hin
      have a1 := hb i (by omega)
      have a2 := hb n (by omega)
      by_cases e : f i = n
      · rw [if_pos e]
        have : f n ≠ n := fun q => by
          have := hi i n (by omega) (by omega) (e.trans q.symm)
          omega
        omega
      · rw [if_neg e]; omega
    have gi : ∀ i k, i < n → k < n → (if f i = n then f n else f i) = (if f k = n then f n else f k) → i = k := by
      intro i k h1 h2 e
      by_cases e1 : f i = n
      · by_cases e2 : f k = n
        · exact hi i k (by omega) (by omega) (e1.trans e2.symm)
        · rw [if_pos e1, if_neg e2] at e
          have := hi n k (by omega) (by omega) e
          omega
      · by_cases e2 : f k = n
        · rw [if_neg e1, if_pos e2] at e
          have := hi i n (by omega) (by omega) e
          omega
        · rw [if_neg e1, if_neg e2] at e
          exact hi i k (by omega) (by omega) e
    have key := ih (fun i => if f i = n then f n else f i) gb gi
    by_cases ej : j = f n
    · exact ⟨n, by omega, ej.symm⟩
    · by_cases en : j = n
      · have hm : f n < n := by
          have := hb n (by omega)
          omega
        obtain ⟨i, i1, i2⟩ := key (f n) hm
        have i2 : (if f i = n then f n else f i) = f n := i2
        by_cases e : f i = n
        · exact ⟨i, by omega, e.trans en.symm⟩
        · rw [if_neg e] at i2
          have := hi i n (by omega) (by omega) i2
          omega
      · obtain ⟨i, i1, i2⟩ := key j (by omega)
        have i2 : (if f i = n then f n else f i) = j := i2
        by_cases e : f i = n
        · rw [if_pos e] at i2
          exact absurd i2.symm ej
        · rw [if_neg e] at i2
          exact ⟨i, by omega, i2⟩
theorem sumN_le {f g : Nat → Nat} : ∀ n, (∀ i, i < n → f i ≤ g i) → sumN f n ≤ sumN g n := by
  intro n
  induction n with
  | zero => intro _; exact Nat.le_refl _
  | succ n ih =>
    intro h
    show sumN f n + f n ≤ sumN g n + g n
    have a1 := ih (fun i hi => h i (by omega))
    have a2 := h n (by omega)
    omega
theorem sumN_lt {f g : Nat → Nat} {a : Nat} : ∀ n, (∀ i, i < n → f i ≤ g i) → a < n → f a < g a → sumN f n < sumN g n := by
  intro n
  induction n with
  | zero => intro _ h; omega
  | succ n ih =>
    intro h ha hl
    show sumN f n + f n < sumN g n + g n
    by_cases e : a = n
    · subst e
      have a1 := sumN_le a (fun i hi => h i (by omega))
      omega
    · have a1 := ih (fun i hi => h i (by omega)) (by omega) hl
      have a2 := h n (by omega)
      omega
/-- a comes before b -/
def bfS (sh : Nat → Int32) (a b : Nat) : Bool := decide (sh b < sh a) || (decide (sh a = sh b) && decide (a < b))
def rkS (sh : Nat → Int32) (V b : Nat) : Nat := sumN (fun a => (bfS sh a b).toNat) V
theorem rkS_le (sh : Nat → Int32) (b : Nat) : ∀ V, rkS sh V b ≤ V := fun V => sumN_bd V
theorem sort14 {r V b : Nat} {C : CM} (hN : 2000 ≤ N) (hV : V ≤ 8) (hb : b < V) (hc : C.1 3 r 6 0 = nI V) (k2 : Int32 → CM → Option (Int32 × CM)) : f_X1_sortByShare_14 N k2 r (nI b) N 0 0 C = k2 (nI (b + 1)) (if rkS (C.1 3 r 10) V b < 8 then stC C 3 r 15 (rkS (C.1 3 r 10) V b) (nI b) else C) := by
  refine loop1 (fun m i (q : Int32) => f_X1_sortByShare_14 N k2 r (nI b) m q i C) (fun i q => q = nI (rkS (C.1 3 r 10) i b)) (fun y => y = k2 (nI (b + 1)) (if rkS (C.1 3 r 10) V b < 8 then stC C 3 r 15 (rkS (C.1 3 r 10) V b) (nI b) else C)) V ?_ ?_ V 0 N 0 (by omega) (by omega) rfl
  · rintro m i q hi rfl
    left
    refine ⟨nI (rkS (C.1 3 r 10) (i + 1) b), ?_, rfl⟩
    have hr : rkS (C.1 3 r 10) (i + 1) b = rkS (C.1 3 r 10) i b + (bfS (C.1 3 r 10) i b).toNat := rfl
    rw [f_X1_sortByShare_14, f_X1_sortByShare_57, hc]
    simp (disch := omega) only [le_nn, if_neg, ldA_nI, nI_al]
    rw [hr]
    unfold bfS
    by_cases z : C.1 3 r 10 b < C.1 3 r 10 i
    · rw [if_pos z, decide_eq_true z]; rfl
    · rw [if_neg z, decide_eq_false z]
      by_cases z2 : C.1 3 r 10 i = C.1 3 r 10 b
      · rw [if_pos z2, decide_eq_true z2]
        by_cases z3 : b ≤ i
        · rw [if_pos z3, decide_eq_false (by omega)]; rfl
        · rw [if_neg z3, decide_eq_true (by omega)]; rfl
      · rw [if_neg z2, decide_eq_false z2]; rfl
  · rintro m q rfl
    try dsimp only
    have hr := rkS_le (C.1 3 r 10) b V
    rw [f_X1_sortByShare_14, hc, if_pos (by rw [le_nn (by omega) (by omega)]; exact Nat.le_refl _), nI_al]
    by_cases z : rkS (C.1 3 r 10) V b < 8
    · rw [if_neg (by simp (disch := omega) only [le_ln]; omega), if_pos z, stA_nI z (by omega)]
    · rw [if_pos (by simp (disch := omega) only [le_ln]; omega), if_neg z]
def Fr15 (r : Nat) (C C' : CM) : Prop := C'.2 = C.2 ∧ ∀ k i j x, ¬ (k = 3 ∧ i = r ∧ j = 15) → C'.1 k i j x = C.1 k i j x
theorem sort_eq {r V : Nat} {C : CM} (hN : 2000 ≤ N) (hV : V ≤ 8) (hc : C.1 3 r 6 0 = nI V) : ∃ C', f_X1_sortByShare N r C = some (0, C') ∧ Fr15 r C C' ∧ ((∀ a b, a < V → b < V → rkS (C.1 3 r 10) V a = rkS (C.1 3 r 10) V b → a = b) → ∀ a, a < V → rkS (C.1 3 r 10) V a < 8 → C'.1 3 r 15 (rkS (C.1 3 r 10) V a) = nI a) := by
  unfold f_X1_sortByShare
  refine loop1 (fun m i (D : CM) => f_X1_sortByShare_2 N r m i D) (fun i D => Fr15 r C D ∧ ((∀ a b, a < V → b < V → rkS (C.1 3 r 10) V a = rkS (C.1 3 r 10) V b → a = b) → ∀ a, a < i → rkS (C.1 3 r 10) V a < 8 → D.1 3 r 15 (rkS (C.1 3 r 10) V a) = nI a)) (fun y => ∃ C', y = some (0, C') ∧ Fr15 r C C' ∧ ((∀ a b, a < V → b < V → rkS (C.1 3 r 10) V a = rkS (C.1 3 r 10) V b → a = b) → ∀ a, a < V → rkS (C.1 3 r 10) V a < 8 → C'.1 3 r 15 (rkS (C.1 3 r 10) V a) = nI a)) V ?_ ?_ V 0 N C (by omega) (by omega) ⟨⟨rfl, fun _ _ _ _ _ => rfl⟩, fun _ a ha => absurd ha (Nat.not_lt_zero _)⟩
  · rintro m i D hi ⟨⟨d1, d2⟩, d3⟩
    left
    have e10 : D.1 3 r 10 = C.1 3 r 10 := funext fun x => d2 3 r 10 x (by omega)
    have e6 : D.1 3 r 6 0 = nI V := by rw [d2 3 r 6 0 (by omega)]; exact hc
    have s := sort14 (C := D) hN hV hi e6 (fun z1 c => f_X1_sortByShare_2 N r m z1 c)
    rw [e10] at s
    refine ⟨(if rkS (C.1 3 r 10) V i < 8 then stC D 3 r 15 (rkS (C.1 3 r 10) V i) (nI i) else D), ?_, ?_, ?_⟩
    · rw [f_X1_sortByShare_2, e6, if_neg (by rw [le_nn (by omega) (by omega)]; omega)]
      exact s
    · by_cases z : rkS (C.1 3 r 10) V i < 8
      · rw [if_pos z]
        refine ⟨d1, fun k i' j x hne => ?_⟩
        simp only [stC]
        rw [if_neg (by omega)]
        exact d2 k i' j x hne
      · rw [if_neg z]
        exact ⟨d1, d2⟩
    · intro hinj a ha h8
      by_cases z : rkS (C.1 3 r 10) V i < 8
      · rw [if_pos z]
        by_cases e : a = i
        · subst e
          exact stC_at
        · rw [stC_ne (fun q => e (hinj a i (by omega) hi q))]
          exact d3 hinj a (by omega) h8
      · rw [if_neg z]
        by_cases e : a = i
        · subst e
          exact absurd h8 z
        · exact d3 hinj a (by omega) h8
  · rintro m D ⟨⟨d1, d2⟩, d3⟩
    refine ⟨D, ?_, ⟨d1, d2⟩, d3⟩
    have e6 : D.1 3 r 6 0 = nI V := by rw [d2 3 r 6 0 (by omega)]; exact hc
    try dsimp only
    rw [f_X1_sortByShare_2, e6, if_pos (by rw [le_nn (by omega) (by omega)]; exact Nat.le_refl _)]
    rfl
/-- the order that comes of it -/
theorem rk_ord {sh : Nat → Int32} {v : Nat → Nat} {V : Nat} (hv : ∀ k, k < V → v k ≤ 99 ∧ sh k = nI (v k)) : (∀ a, a < V → rkS sh V a < V) ∧ (∀ a b, a < V → b < V → (v b < v a ∨ (v a = v b ∧ a < b)) → rkS sh V a < rkS sh V b) ∧ ∀ a b, a < V → b < V → rkS sh V a = rkS sh V b → a = b := by
  have bf : ∀ a b, a < V → b < V → (bfS sh a b = true ↔ (v b < v a ∨ (v a = v b ∧ a < b))) := by
    intro a b ha hb
    unfold bfS
    have h1 := hv a ha
    have h2 := hv b hb
    rw [h1.2, h2.2]
    simp (disch := omega) only [lt_nn, eq_nn, Bool.or_eq_true, Bool.and_eq_true, decide_eq_true_eq]
  have nb : ∀ a b, a < V → b < V → ¬ (v b < v a ∨ (v a = v b ∧ a < b)) → bfS sh a b = false := fun a b ha hb hn => by
    cases q : bfS sh a b
    · rfl
    · exact absurd ((bf a b ha hb).mp q) hn
  have mono : ∀ a b, a < V → b < V → (v b < v a ∨ (v a = v b ∧ a < b)) → rkS sh V a < rkS sh V b := by
    intro a b ha hb hab
    refine sumN_lt (a := a) V (fun x hx => ?_) ha ?_
    · cases q : bfS sh x a
      · exact Nat.zero_le _
      · have q1 := (bf x a hx ha).mp q
        have : bfS sh x b = true := (bf x b hx hb).mpr (by omega)
        rw [this]
        exact Nat.le_refl _
    · rw [nb a a ha ha (by omega), (bf a b ha hb).mpr hab]
      decide
  refine ⟨fun a ha => ?_, mono, fun a b ha hb e => ?_⟩
  · have h1 : rkS sh V a < sumN (fun _ => 1) V := by
      refine sumN_lt (a := a) V (fun x _ => ?_) ha ?_
      · cases bfS sh x a <;> decide
      · rw [nb a a ha ha (by omega)]; decide
    have h2 : ∀ n, sumN (fun _ => 1) n = n := by
      intro n
      induction n with
      | zero => rfl
      | succ n ih => show sumN (fun _ => 1) n + 1 = n + 1; rw [ih]
    rw [h2] at h1
    exact h1
  · have h1 := mono a b ha hb
    have h2 := mono b a hb ha
    omega
end SORT
