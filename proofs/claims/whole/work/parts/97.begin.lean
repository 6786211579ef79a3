/-! The state that a bank begins with: the reference. -/
section BEG
variable {N : Nat}
/-- what begins writes behind 371 -/
def bgV (s : Nat → Int32) (V T y : Nat) : Int32 := if 70 ≤ y ∧ y < 170 then s (201 + y) else if 58 ≤ y ∧ y < 58 + T then 1 else if 26 ≤ y ∧ y < 26 + V then s (13 + y) else if 18 ≤ y ∧ y < 18 + V then s (13 + y) else if 2 ≤ y ∧ y < 2 + V then s (13 + y) else 0
/-- row 2 alone, and there 371 to 542 alone -/
def BgF (X Y : XM) : Prop := Y.2 = X.2 ∧ (∀ j, j ≠ 2 → Y.1 j = X.1 j) ∧ ∀ x, (x < 371 ∨ 543 ≤ x) → Y.1 2 x = X.1 2 x
theorem bgf_st {X Y : XM} {x : Nat} {v : Int32} (h : BgF X Y) (h1 : 371 ≤ x) (h2 : x < 543) : BgF X (stX Y 2 x v) := ⟨h.1, fun j hj => (stX_row hj).trans (h.2.1 j hj), fun y hy => (stX_ne (by omega)).trans (h.2.2 y hy)⟩
theorem begins_eq {X : XM} {V T : Nat} (hN : 2000 ≤ N) (hV : V ≤ 8) (hT : T ≤ 12) (v2 : X.1 2 2 = nI V) (v3 : X.1 2 3 = nI T) : ∃ Y, f_X11_begins N X = some (0, Y) ∧ BgF X Y ∧ ∀ y, y < 172 → Y.1 2 (371 + y) = bgV (X.1 2) V T y := by
  -- fences
  have p4 : ∀ Y : XM, BgF X Y → (∀ y, y < 172 → (¬ (70 ≤ y ∧ y < 170)) → Y.1 2 (371 + y) = bgV (X.1 2) V T y) → ∃ Z, f_X11_begins_132 N N 0 Y = some (0, Z) ∧ BgF X Z ∧ ∀ y, y < 172 → Z.1 2 (371 + y) = bgV (X.1 2) V T y := by
    intro Y0 hY0 hv0
    refine loop1 (fun m i (Y : XM) => f_X11_begins_132 N m i Y) (fun k Y => BgF X Y ∧ ∀ y, y < 172 → (¬ (70 + k ≤ y ∧ y < 170)) → Y.1 2 (371 + y) = bgV (X.1 2) V T y)
      (fun z => ∃ Z, z = some (0, Z) ∧ BgF X Z ∧ ∀ y, y < 172 → Z.1 2 (371 + y) = bgV (X.1 2) V T y) 100 ?_ ?_ 100 0 N Y0 (by omega) (by omega) ⟨hY0, hv0⟩
    · rintro m k Y hk ⟨h1, h2⟩
      left
      refine ⟨stX Y 2 (441 + k) (X.1 2 (271 + k)), ?_, bgf_st h1 (by omega) (by omega), fun y hy hn => ?_⟩
      · rw [f_X11_begins_132]
        simp (disch := omega) only [le_ln, if_neg, nI_la, ldA_nI, sxA_nI, nI_al]
        rw [h1.2.2 (271 + k) (by omega)]
      · by_cases e : y = 70 + k
        · subst e
          rw [show 371 + (70 + k) = 441 + k by omega, stX_at]
          unfold bgV
          rw [if_pos (by omega), show 201 + (70 + k) = 271 + k by omega]
        · rw [stX_ne (by omega)]
          exact h2 y hy (by omega)
    · rintro m Y ⟨h1, h2⟩
      refine ⟨Y, ?_, h1, fun y hy => h2 y hy (by omega)⟩
      rw [f_X11_begins_132, if_pos (by decide)]
      rfl
  -- trees
  have p3 : ∀ Y : XM, BgF X Y → (∀ y, y < 172 → (¬ (58 ≤ y ∧ y < 58 + T)) → (¬ (70 ≤ y ∧ y < 170)) → Y.1 2 (371 + y) = bgV (X.1 2) V T y) → ∃ Z, f_X11_begins_103 N N 0 Y = some (0, Z) ∧ BgF X Z ∧ ∀ y, y < 172 → Z.1 2 (371 + y) = bgV (X.1 2) V T y := by
    intro Y0 hY0 hv0
    refine loop1 (fun m i (Y : XM) => f_X11_begins_103 N m i Y) (fun k Y => BgF X Y ∧ ∀ y, y < 172 → (¬ (58 + k ≤ y ∧ y < 58 + T)) → (¬ (70 ≤ y ∧ y < 170)) → Y.1 2 (371 + y) = bgV (X.1 2) V T y)
      (fun z => ∃ Z, z = some (0, Z) ∧ BgF X Z ∧ ∀ y, y < 172 → Z.1 2 (371 + y) = bgV (X.1 2) V T y) T ?_ ?_ T 0 N Y0 (by omega) (by omega) ⟨hY0, hv0⟩
    · rintro m k Y hk ⟨h1, h2⟩
      left
      have e3 : Y.1 2 (OfNat.ofNat 3) = nI T := (h1.2.2 3 (by omega)).trans v3
      refine ⟨stX Y 2 (429 + k) 1, ?_, bgf_st h1 (by omega) (by omega), fun y hy hn hn' => ?_⟩
      · rw [f_X11_begins_103, ldA_l (by decide) (by decide), e3]
        simp (disch := omega) only [le_nn, if_neg, nI_la, sxA_nI, nI_al]
      · by_cases e : y = 58 + k
        · subst e
          rw [show 371 + (58 + k) = 429 + k by omega, stX_at]
          unfold bgV
          rw [if_neg (by omega), if_pos (by omega)]
        · rw [stX_ne (by omega)]
          exact h2 y hy (by omega) hn'
    · rintro m Y ⟨h1, h2⟩
      have e3 : Y.1 2 (OfNat.ofNat 3) = nI T := (h1.2.2 3 (by omega)).trans v3
      rw [f_X11_begins_103, ldA_l (by decide) (by decide), e3, if_pos (by simp (disch := omega) only [le_nn]; omega)]
      exact p4 Y h1 (fun y hy hn => h2 y hy (by omega) hn)
  -- owners
  have p2 : ∀ Y : XM, BgF X Y → (∀ y, y < 172 → Y.1 2 (371 + y) = 0) → ∃ Z, f_X11_begins_28 N N 0 Y = some (0, Z) ∧ BgF X Z ∧ ∀ y, y < 172 → Z.1 2 (371 + y) = bgV (X.1 2) V T y := by
    intro Y0 hY0 hv0
    refine loop1 (fun m i (Y : XM) => f_X11_begins_28 N m i Y) (fun k Y => BgF X Y ∧ ∀ y, y < 172 → Y.1 2 (371 + y) = if (26 ≤ y ∧ y < 26 + k) ∨ (18 ≤ y ∧ y < 18 + k) ∨ (2 ≤ y ∧ y < 2 + k) then X.1 2 (13 + y) else 0)
      (fun z => ∃ Z, z = some (0, Z) ∧ BgF X Z ∧ ∀ y, y < 172 → Z.1 2 (371 + y) = bgV (X.1 2) V T y) V ?_ ?_ V 0 N Y0 (by omega) (by omega) ⟨hY0, fun y hy => by rw [if_neg (by omega)]; exact hv0 y hy⟩
    · rintro m k Y hk ⟨h1, h2⟩
      left
      have e2 : Y.1 2 (OfNat.ofNat 2) = nI V := (h1.2.2 2 (by omega)).trans v2
      refine ⟨stX (stX (stX Y 2 (373 + k) (X.1 2 (15 + k))) 2 (389 + k) (X.1 2 (31 + k))) 2 (397 + k) (X.1 2 (39 + k)), ?_, bgf_st (bgf_st (bgf_st h1 (by omega) (by omega)) (by omega) (by omega)) (by omega) (by omega), fun y hy => ?_⟩
      · rw [f_X11_begins_28, ldA_l (by decide) (by decide), e2]
        simp (disch := omega) only [le_nn, if_neg, nI_la, ldA_nI, sxA_nI, nI_al, stX_ne]
        rw [h1.2.2 (15 + k) (by omega), h1.2.2 (31 + k) (by omega), h1.2.2 (39 + k) (by omega)]
      · by_cases a : y = 26 + k
        · subst a
          rw [show 371 + (26 + k) = 397 + k by omega, stX_at, if_pos (by omega), show 13 + (26 + k) = 39 + k by omega]
        · rw [stX_ne (by omega)]
          by_cases b : y = 18 + k
          · subst b
            rw [show 371 + (18 + k) = 389 + k by omega, stX_at, if_pos (by omega), show 13 + (18 + k) = 31 + k by omega]
          · rw [stX_ne (by omega)]
            by_cases c : y = 2 + k
            · subst c
              rw [show 371 + (2 + k) = 373 + k by omega, stX_at, if_pos (by omega), show 13 + (2 + k) = 15 + k by omega]
            · rw [stX_ne (by omega), h2 y hy]
              by_cases q : (26 ≤ y ∧ y < 26 + k) ∨ (18 ≤ y ∧ y < 18 + k) ∨ (2 ≤ y ∧ y < 2 + k)
              · rw [if_pos q, if_pos (by omega)]
              · rw [if_neg q, if_neg (by omega)]
    · rintro m Y ⟨h1, h2⟩
      have e2 : Y.1 2 (OfNat.ofNat 2) = nI V := (h1.2.2 2 (by omega)).trans v2
      rw [f_X11_begins_28, ldA_l (by decide) (by decide), e2, if_pos (by simp (disch := omega) only [le_nn]; omega)]
      refine p3 Y h1 (fun y hy hn hn' => ?_)
      rw [h2 y hy]
      unfold bgV
      rw [if_neg hn', if_neg hn]
      by_cases a : 26 ≤ y ∧ y < 26 + V
      · rw [if_pos (Or.inl a), if_pos a]
      · rw [if_neg a]
        by_cases b : 18 ≤ y ∧ y < 18 + V
        · rw [if_pos (Or.inr (Or.inl b)), if_pos b]
        · rw [if_neg b]
          by_cases c : 2 ≤ y ∧ y < 2 + V
          · rw [if_pos (Or.inr (Or.inr c)), if_pos c]
          · rw [if_neg c, if_neg (by omega)]
  unfold f_X11_begins
  refine loop1 (fun m i (Y : XM) => f_X11_begins_2 N m i Y) (fun k Y => BgF X Y ∧ ∀ y, y < k → Y.1 2 (371 + y) = 0)
    (fun z => ∃ Z, z = some (0, Z) ∧ BgF X Z ∧ ∀ y, y < 172 → Z.1 2 (371 + y) = bgV (X.1 2) V T y) 172 ?_ ?_ 172 0 N X (by omega) (by omega) ⟨⟨rfl, fun _ _ => rfl, fun _ _ => rfl⟩, fun y hy => absurd hy (Nat.not_lt_zero _)⟩
  · rintro m k Y hk ⟨h1, h2⟩
    left
    refine ⟨stX Y 2 (371 + k) 0, ?_, bgf_st h1 (by omega) (by omega), fun y hy => ?_⟩
    · rw [f_X11_begins_2]
      simp (disch := omega) only [le_ln, if_neg, nI_la, sxA_nI, nI_al]
    · by_cases e : y = k
      · subst e
        exact stX_at
      · rw [stX_ne (by omega)]
        exact h2 y (by omega)
  · rintro m Y ⟨h1, h2⟩
    rw [f_X11_begins_2, if_pos (by decide)]
    exact p2 Y h1 h2
end BEG
