/-! The class splits what was fed. -/
/-- the object of tokens alone -/
def F1 (C C' : CM) : Prop := C'.2 = C.2 ∧ ∀ k, k ≠ 1 → C'.1 k = C.1 k
theorem F1.rf (C : CM) : F1 C C := ⟨rfl, fun _ _ => rfl⟩
theorem F1.trans {A B C : CM} (h1 : F1 A B) (h2 : F1 B C) : F1 A C := ⟨h2.1.trans h1.1, fun k h => (h2.2 k h).trans (h1.2 k h)⟩
theorem f1_st {C D : CM} {i j x : Nat} {v : Int32} (h : F1 C D) : F1 C (stC D 1 i j x v) := ⟨h.1, fun k hk => (funext fun i' => stC_ob hk).trans (h.2 k hk)⟩
theorem F1.ce {C C' : CM} (h : F1 C C') : CE C C' := ⟨h.1, fun k i j x hs => by
  have : k ≠ 1 := fun e => by subst e; cases hs
  rw [h.2 k this]⟩
/-- a token more -/
def adC (C : CM) (t : Nat) (k v pl : Int32) : CM := stC (stC (stC (stC C 1 0 1 t k) 1 0 2 t v) 1 0 3 t pl) 1 0 0 3 (nI (t + 1))
theorem add_eq {C : CM} {t : Nat} (k v pl : Int32) (ht : t < 941) (h : C.1 1 0 0 3 = nI t) : f_X7_add k v pl C = some (0, adC C t k v pl) := by
  unfold f_X7_add
  have e2 : (stC C 1 0 1 t k).1 1 0 0 3 = nI t := by rw [stC_row (by omega)]; exact h
  have e3 : (stC (stC C 1 0 1 t k) 1 0 2 t v).1 1 0 0 3 = nI t := by rw [stC_row (by omega)]; exact e2
  have e4 : (stC (stC (stC C 1 0 1 t k) 1 0 2 t v) 1 0 3 t pl).1 1 0 0 3 = nI t := by rw [stC_row (by omega)]; exact e3
  simp (disch := omega) only [h, le_ln, if_neg, stA_nI, e2, e3, e4, bnd_v, nI_al, rt]
  rfl
theorem ad_f1 {C : CM} {t : Nat} {k v pl : Int32} : F1 C (adC C t k v pl) := f1_st (f1_st (f1_st (f1_st (F1.rf C))))
theorem ad_rows {C : CM} {t : Nat} {k v pl : Int32} : (adC C t k v pl).1 1 0 0 3 = nI (t + 1) ∧ (∀ x, (adC C t k v pl).1 1 0 1 x = if x = t then k else C.1 1 0 1 x) ∧ (∀ x, (adC C t k v pl).1 1 0 2 x = if x = t then v else C.1 1 0 2 x) ∧ (∀ x, (adC C t k v pl).1 1 0 3 x = if x = t then pl else C.1 1 0 3 x) ∧ ∀ x, x ≠ 3 → (adC C t k v pl).1 1 0 0 x = C.1 1 0 0 x := by
  unfold adC
  refine ⟨stC_at, fun x => ?_, fun x => ?_, fun x => ?_, fun x hx => ?_⟩
  · rw [stC_row (by omega), stC_row (by omega), stC_row (by omega), stC_if]
  · rw [stC_row (by omega), stC_row (by omega), stC_if, stC_row (by omega)]
  · rw [stC_row (by omega), stC_if, stC_row (by omega), stC_row (by omega)]
  · rw [stC_ne hx, stC_row (by omega), stC_row (by omega), stC_row (by omega)]
def ltC (u : Nat → Nat) (a : Nat) : Nat → Nat
  | 0 => 0
  | j + 1 => ltC u a j + (if smB (u (a + j)) = true then 1 else 0)
theorem ltC_le (u : Nat → Nat) (a : Nat) : ∀ j, ltC u a j ≤ j := by
  intro j
  induction j with
  | zero => exact Nat.le_refl _
  | succ j ih =>
    show ltC u a j + (if smB (u (a + j)) = true then 1 else 0) ≤ j + 1
    by_cases h : smB (u (a + j)) = true
    · rw [if_pos h]; omega
    · rw [if_neg h]; omega
theorem ltC_all (u : Nat → Nat) (a : Nat) : ∀ j, (ltC u a j = j) = (allB smB u a j = true) := by
  intro j
  induction j with
  | zero => exact propext ⟨fun _ => rfl, fun _ => rfl⟩
  | succ j ih =>
    show (ltC u a j + (if smB (u (a + j)) = true then 1 else 0) = j + 1) = ((allB smB u a j && smB (u (a + j))) = true)
    have := ltC_le u a j
    rw [Bool.and_eq_true, ← ih]
    by_cases h : smB (u (a + j)) = true
    · rw [if_pos h, h]
      apply propext
      constructor
      · intro h1; exact ⟨by omega, rfl⟩
      · intro h1; omega
    · rw [if_neg h]
      apply propext
      constructor
      · intro h1; omega
      · intro h1; exact absurd h1.2 h
theorem ltC_dg {u : Nat → Nat} {L a e : Nat} (hr : RunR u L a e) : ∀ j, a + j ≤ e → (ltC u a j = 0) = (allB dgB u a j = true) := by
  intro j
  induction j with
  | zero => intro _; exact propext ⟨fun _ => rfl, fun _ => rfl⟩
  | succ j ih =>
    intro hj
    show (ltC u a j + (if smB (u (a + j)) = true then 1 else 0) = 0) = ((allB dgB u a j && dgB (u (a + j))) = true)
    rw [Bool.and_eq_true, ← ih (by omega)]
    rcases hr.2.2.1 (a + j) (by omega) (by omega) with h | h
    · rw [if_pos h, sm_dg h]
      apply propext
      constructor
      · intro h1; omega
      · intro h1; exact absurd h1.2 (by decide)
    · have hs : ¬ smB (u (a + j)) = true := fun hs => by rw [sm_dg hs] at h; exact absurd h (by decide)
      rw [if_neg hs, h]
      apply propext
      constructor
      · intro h1; exact ⟨by omega, rfl⟩
      · intro h1; omega
/-- bytes of the tape in the class -/
def TpC (u : Nat → Nat) (C : CM) : Prop := ∀ x, x < 940 → u x < 256 ∧ C.1 0 0 1 x = byV (u x)
section SPL
variable {N : Nat} {u : Nat → Nat} {L lm : Nat}
theorem split_90 {C : CM} {a e : Nat} (hN : 2000 ≤ N) (hL : L ≤ 940) (hr : RunR u L a e) {a5 a6 a7 : Int32} (h5 : a5 = nI (ltC u a (e - a))) (h6 : allB smB u a (e - a) = true → a6 = nI (e32 (lsT u a (e - a)))) (h7 : allB dgB u a (e - a) = true → a7 = nI (dcT u a (e - a))) : ∃ k v, RecR u a e k v ∧ f_X7_splitRun_t_90 N (nI a) (nI e) a5 a6 a7 C = cal (f_X7_add k v (nI a) C) (fun _ C2 => rt (nI e) C2) := by
  have hae : a < e ∧ e ≤ L := ⟨hr.1, hr.2.1⟩
  have hle := ltC_le u a (e - a)
  have hal := ltC_all u a (e - a)
  have hdg := ltC_dg hr (e - a) (by omega)
  have es : nI e - nI a = nI (e - a) := pk_sub (by omega)
  subst h5
  unfold f_X7_splitRun_t_90
  rw [es]
  have h149 : ¬ (allB smB u a (e - a) = true ∧ e - a ≤ 6) → ∃ k v, RecR u a e k v ∧ f_X7_splitRun_t_149 N (nI a) (nI e) (nI (ltC u a (e - a))) a7 (nI (e - a)) C = cal (f_X7_add k v (nI a) C) (fun _ C2 => rt (nI e) C2) := by
    intro hns
    unfold f_X7_splitRun_t_149
    simp (disch := omega) only [eq_nl, lt_ln, hdg]
    by_cases hd : allB dgB u a (e - a) = true
    · rw [if_pos hd]
      by_cases h3 : 3 < e - a
      · rw [if_pos h3]
        exact ⟨1, 0, Or.inr (Or.inr ⟨hns, fun h => by omega, rfl⟩), rfl⟩
      · rw [if_neg h3, h7 hd]
        exact ⟨4, _, Or.inr (Or.inl ⟨hd, by omega, rfl, rfl⟩), rfl⟩
    · rw [if_neg hd]
      exact ⟨1, 0, Or.inr (Or.inr ⟨hns, fun h => hd h.1, rfl⟩), rfl⟩
  simp (disch := omega) only [eq_nn, lt_ln, hal]
  by_cases hs : allB smB u a (e - a) = true
  · rw [if_pos hs]
    by_cases h3 : 6 < e - a
    · rw [if_pos h3]
      exact h149 (fun h => by omega)
    · rw [if_neg h3, h6 hs]
      have hlen := lsT_len u a (e - a)
      rcases wordOf_eq C hN (l := lsT u a (e - a)) (by omega) (lsT_mem ((allB_iff _).mp hs)) with ⟨w, w1, w2, w3⟩ | ⟨w1, w3⟩
      · refine ⟨2, nI w, Or.inl ⟨hs, by omega, Or.inl ⟨w, w1, w2, rfl, rfl⟩⟩, ?_⟩
        have hw : ¬ nI w = (-1 : Int32) := fun h => by
          have := nI_pos' (n := w) (by omega)
          rw [h] at this
          exact absurd this (by decide)
        rw [w3, cal_some, if_neg hw]
        unfold f_X7_splitRun_t_129
        rw [if_neg hw]
        rfl
      · refine ⟨3, nI (e32 (lsT u a (e - a))), Or.inl ⟨hs, by omega, Or.inr ⟨w1, rfl, rfl⟩⟩, ?_⟩
        rw [w3, cal_some, if_pos rfl]
        unfold f_X7_splitRun_t_129
        rw [if_pos rfl]
        rfl
  · rw [if_neg hs]
    exact h149 (fun h => hs h.1)
theorem splitRun_eq {C : CM} {a e : Nat} (hN : 2000 ≤ N) (hL : L ≤ 940) (hT : TpC u C) (hr : RunR u L a e) : ∃ k v, RecR u a e k v ∧ f_X7_splitRun_t N (nI a) (nI L) C = cal (f_X7_add k v (nI a) C) (fun _ C2 => rt (nI e) C2) := by
  have hae : a < e ∧ e ≤ L := ⟨hr.1, hr.2.1⟩
  unfold f_X7_splitRun_t
  refine loop1 (fun m i (q : Int32 × Int32 × Int32) => f_X7_splitRun_t_12 N (nI a) (nI L) m i q.1 q.2.1 q.2.2 C) (fun x q => a ≤ x ∧ q.1 = nI (ltC u a (x - a)) ∧ (allB smB u a (x - a) = true → q.2.1 = nI (e32 (lsT u a (x - a)))) ∧ (allB dgB u a (x - a) = true → q.2.2 = nI (dcT u a (x - a))))
    (fun y => ∃ k v, RecR u a e k v ∧ y = cal (f_X7_add k v (nI a) C) (fun _ C2 => rt (nI e) C2)) e ?_ ?_ (e - a) a N (0, 0, 0) (by omega) (by omega) ⟨by omega, by rw [Nat.sub_self]; rfl, fun _ => by rw [Nat.sub_self]; rfl, fun _ => by rw [Nat.sub_self]; rfl⟩
  · rintro m x ⟨a5, a6, a7⟩ hx ⟨hax, h5, h6, h7⟩
    left
    dsimp only at h5 h6 h7 ⊢
    subst h5
    obtain ⟨hu, hb⟩ := hT x (by omega)
    have ex : a + (x - a) = x := by omega
    have ex1 : x + 1 - a = (x - a) + 1 := by omega
    have hcl := hr.2.2.1 x hax hx
    rw [f_X7_splitRun_t_12]
    simp (disch := omega) only [le_nn, if_neg, ldA_nI]
    rw [hb, isLetterC hu, cal_some]
    have h38 : ∀ k : Int32 → Int32 → Int32 → Int32 → CM → Option (Int32 × CM), f_X7_splitRun_t_38 N k (nI a) (nI L) (nI x) (nI (ltC u a (x - a))) a6 a7 C = if smB (u x) = true then k (nI (x + 1)) (nI (ltC u a (x - a) + 1)) (a6 * 32 + (byV (u x) - 96)) a7 C else k (nI (x + 1)) (nI (ltC u a (x - a))) a6 (a7 * 10 + (byV (u x) - 48)) C := by
      intro k
      unfold f_X7_splitRun_t_38
      rw [ldA_nI (by omega) (by omega), hb, isLetterC hu, cal_some]
      by_cases h : smB (u x) = true
      · rw [h, if_neg (show ¬ bI true = (0 : Int32) by decide), ldA_nI (by omega) (by omega), hb, if_pos rfl, nI_al, nI_al]
      · rw [if_neg h]
        cases h' : smB (u x)
        · rw [if_pos (show bI false = (0 : Int32) from rfl), ldA_nI (by omega) (by omega), hb, nI_al]
        · exact absurd h' h
    by_cases h : smB (u x) = true
    · have hs := sm_iff.mp h
      have hl1 : ltC u a (x + 1 - a) = ltC u a (x - a) + 1 := by
        rw [ex1]
        show ltC u a (x - a) + (if smB (u (a + (x - a))) = true then 1 else 0) = _
        rw [ex, if_pos h]
      refine ⟨(nI (ltC u a (x - a) + 1), a6 * 32 + (byV (u x) - 96), a7), ?_, by omega, by rw [hl1], fun hq => ?_, fun hq => ?_⟩
      · rw [h, if_neg (show ¬ bI true = (0 : Int32) by decide), h38, if_pos h]
      · rw [ex1] at hq ⊢
        have hq' : (allB smB u a (x - a) && smB (u (a + (x - a)))) = true := hq
        rw [Bool.and_eq_true] at hq'
        dsimp only
        rw [h6 hq'.1, lsT_s, e32_s, ex, byV_lo (by omega), nI_ml]
        have : nI (u x) - 96 = nI (u x - 96) := nI_sl (by show 96 ≤ u x; omega)
        rw [this, ← nI_add]
      · rw [ex1] at hq
        have hq' : (allB dgB u a (x - a) && dgB (u (a + (x - a)))) = true := hq
        rw [Bool.and_eq_true, ex, sm_dg h] at hq'
        exact absurd hq'.2 (by decide)
    · have hd : dgB (u x) = true := by
        rcases hcl with h' | h'
        · exact absurd h' h
        · exact h'
      have hs := dg_iff.mp hd
      have hsf : smB (u x) = false := by
        cases h' : smB (u x)
        · rfl
        · exact absurd h' h
      have hl1 : ltC u a (x + 1 - a) = ltC u a (x - a) := by
        rw [ex1]
        show ltC u a (x - a) + (if smB (u (a + (x - a))) = true then 1 else 0) = _
        rw [ex, if_neg h]
        rfl
      refine ⟨(nI (ltC u a (x - a)), a6, a7 * 10 + (byV (u x) - 48)), ?_, by omega, by rw [hl1], fun hq => ?_, fun hq => ?_⟩
      · rw [hsf, if_pos (show bI false = (0 : Int32) from rfl), hb, isDigitC hu, cal_some, hd, if_neg (show ¬ bI true = (0 : Int32) by decide), h38, if_neg h]
      · rw [ex1] at hq
        have hq' : (allB smB u a (x - a) && smB (u (a + (x - a)))) = true := hq
        rw [Bool.and_eq_true, ex] at hq'
        exact absurd hq'.2 h
      · rw [ex1] at hq ⊢
        have hq' : (allB dgB u a (x - a) && dgB (u (a + (x - a)))) = true := hq
        rw [Bool.and_eq_true] at hq'
        dsimp only
        rw [h7 hq'.1, byV_lo (by omega), nI_ml]
        have : nI (u x) - 48 = nI (u x - 48) := nI_sl (by show 48 ≤ u x; omega)
        rw [this]
        show _ = nI (dcT u a (x - a) * 10 + (u (a + (x - a)) - 48))
        rw [ex, ← nI_add]
  · rintro m ⟨a5, a6, a7⟩ ⟨hax, h5, h6, h7⟩
    have q := split_90 (C := C) hN hL hr h5 h6 h7
    dsimp only at q ⊢
    rw [f_X7_splitRun_t_12]
    by_cases hE : e = L
    · rw [if_pos (by simp (disch := omega) only [le_nn]; omega)]
      exact q
    · obtain ⟨z1, z2⟩ : smB (u e) = false ∧ dgB (u e) = false := by
        rcases hr.2.2.2 with h | h
        · omega
        · exact h
      obtain ⟨hu, hb⟩ := hT e (by omega)
      simp (disch := omega) only [le_nn, if_neg, ldA_nI]
      rw [hb, isLetterC hu, cal_some, z1, if_pos (show bI false = (0 : Int32) from rfl), hb, isDigitC hu, cal_some, z2, if_pos (show bI false = (0 : Int32) from rfl)]
      exact q
end SPL
