/-! Runs of letters and digits. -/
theorem e32_s (l : List Nat) (c : Nat) : e32 (l ++ [c]) = e32 l * 32 + c := by simp [e32]
theorem e256_s (l : List Nat) (c : Nat) : e256 (l ++ [c]) = e256 l * 256 + (c + 96) := by simp [e256]
/-- the letters of a run, the number of one -/
def lsT (u : Nat → Nat) (a j : Nat) : List Nat := (List.range j).map (fun i => u (a + i) - 96)
theorem lsT_s (u : Nat → Nat) (a j : Nat) : lsT u a (j + 1) = lsT u a j ++ [u (a + j) - 96] := by simp [lsT, List.range_succ]
def dcT (u : Nat → Nat) (a : Nat) : Nat → Nat
  | 0 => 0
  | j + 1 => dcT u a j * 10 + (u (a + j) - 48)
theorem sm_iff {c : Nat} : smB c = true ↔ 97 ≤ c ∧ c ≤ 122 := by simp [smB]
theorem dg_iff {c : Nat} : dgB c = true ↔ 48 ≤ c ∧ c ≤ 57 := by simp [dgB]
theorem e256_lt {l : List Nat} (h : ∀ c, c ∈ l → 1 ≤ c ∧ c ≤ 26) : e256 l < 256 ^ l.length := by
  have key : ∀ n (l : List Nat), l.length = n → (∀ c, c ∈ l → 1 ≤ c ∧ c ≤ 26) → e256 l < 256 ^ n := by
    intro n
    induction n with
    | zero =>
      intro l hl _
      have : l = [] := List.eq_nil_of_length_eq_zero hl
      subst this
      simp [e256]
    | succ n ih =>
      intro l hl h
      have hne : l ≠ [] := by
        intro e
        subst e
        simp at hl
      have hd := List.dropLast_concat_getLast hne
      rw [← hd, e256_s]
      have h1 := ih l.dropLast (by simp [hl]) (fun c hc => h c (List.dropLast_subset l hc))
      have h2 := h (l.getLast hne) (List.getLast_mem hne)
      rw [Nat.pow_succ]
      omega
  exact key l.length l rfl h
theorem e32_lt {l : List Nat} (h : ∀ c, c ∈ l → 1 ≤ c ∧ c ≤ 26) : e32 l < 32 ^ l.length := by
  have key : ∀ n (l : List Nat), l.length = n → (∀ c, c ∈ l → 1 ≤ c ∧ c ≤ 26) → e32 l < 32 ^ n := by
    intro n
    induction n with
    | zero =>
      intro l hl _
      have : l = [] := List.eq_nil_of_length_eq_zero hl
      subst this
      simp [e32]
    | succ n ih =>
      intro l hl h
      have hne : l ≠ [] := by
        intro e
        subst e
        simp at hl
      have hd := List.dropLast_concat_getLast hne
      rw [← hd, e32_s]
      have h1 := ih l.dropLast (by simp [hl]) (fun c hc => h c (List.dropLast_subset l hc))
      have h2 := h (l.getLast hne) (List.getLast_mem hne)
      rw [Nat.pow_succ]
      omega
  exact key l.length l rfl h
theorem e32_inj : ∀ n (l l' : List Nat), l.length = n → (∀ c, c ∈ l → 1 ≤ c ∧ c ≤ 26) → (∀ c, c ∈ l' → 1 ≤ c ∧ c ≤ 26) → e32 l = e32 l' → l = l' := by
  intro n
  induction n with
  | zero =>
    intro l l' hl _ h' he
    have : l = [] := List.eq_nil_of_length_eq_zero hl
    subst this
    by_cases hne : l' = []
    · exact hne.symm
    · have hd := List.dropLast_concat_getLast hne
      have h2 := h' (l'.getLast hne) (List.getLast_mem hne)
      rw [← hd, e32_s] at he
      have e0 : e32 [] = 0 := rfl
      omega
  | succ n ih =>
    intro l l' hl h h' he
    have hne : l ≠ [] := by
      intro e
      subst e
      simp at hl
    have hd := List.dropLast_concat_getLast hne
    have h2 := h (l.getLast hne) (List.getLast_mem hne)
    by_cases hne' : l' = []
    · subst hne'
      rw [← hd, e32_s] at he
      have e0 : e32 [] = 0 := rfl
      omega
    · have hd' := List.dropLast_concat_getLast hne'
      have h2' := h' (l'.getLast hne') (List.getLast_mem hne')
      rw [← hd, ← hd', e32_s, e32_s] at he
      have hr := ih l.dropLast l'.dropLast (by simp [hl]) (fun c hc => h c (List.dropLast_subset l hc)) (fun c hc => h' c (List.dropLast_subset l' hc)) (by omega)
      rw [← hd, ← hd', hr, show l.getLast hne = l'.getLast hne' by omega]
theorem e256_inj : ∀ n (l l' : List Nat), l.length = n → (∀ c, c ∈ l → 1 ≤ c ∧ c ≤ 26) → (∀ c, c ∈ l' → 1 ≤ c ∧ c ≤ 26) → e256 l = e256 l' → l = l' := by
  intro n
  induction n with
  | zero =>
    intro l l' hl _ h' he
    have : l = [] := List.eq_nil_of_length_eq_zero hl
    subst this
    by_cases hne : l' = []
    · exact hne.symm
    · have hd := List.dropLast_concat_getLast hne
      have h2 := h' (l'.getLast hne) (List.getLast_mem hne)
      rw [← hd, e256_s] at he
      have e0 : e256 [] = 0 := rfl
      omega
  | succ n ih =>
    intro l l' hl h h' he
    have hne : l ≠ [] := by
      intro e
      subst e
      simp at hl
    have hd := List.dropLast_concat_getLast hne
    have h2 := h (l.getLast hne) (List.getLast_mem hne)
    by_cases hne' : l' = []
    · subst hne'
      rw [← hd, e256_s] at he
      have e0 : e256 [] = 0 := rfl
      omega
    · have hd' := List.dropLast_concat_getLast hne'
      have h2' := h' (l'.getLast hne') (List.getLast_mem hne')
      rw [← hd, ← hd', e256_s, e256_s] at he
      have hr := ih l.dropLast l'.dropLast (by simp [hl]) (fun c hc => h c (List.dropLast_subset l hc)) (fun c hc => h' c (List.dropLast_subset l' hc)) (by omega)
      rw [← hd, ← hd', hr, show l.getLast hne = l'.getLast hne' by omega]
/-- the words by their letters -/
def wdL (w : Nat) : List Nat := ([[25, 1, 18, 4], [15, 23, 14, 5, 18], [22, 1, 14, 5], [20, 18, 5, 5], [6, 5, 14, 3, 5], [5, 4, 4, 25], [7, 21, 19, 20], [16, 1, 3, 20], [16, 12, 15, 20], [18, 21, 14], [19, 5, 20], [6, 5, 12, 12], [15, 9, 12], [16, 15, 9, 14, 20], [2, 12, 15, 23], [15, 18], [1, 14, 4], [14, 15, 20], [6, 1, 3, 5, 19], [7, 15, 12, 4], [16, 21, 18, 19, 5], [19, 20, 9, 3, 11], [4, 9, 18], [16, 12, 1, 3, 5]] : List (List Nat)).getD w []
theorem wdL_ok : ∀ w, w < 24 → (wdL w).length ≤ 6 ∧ (∀ c, c ∈ wdL w → 1 ≤ c ∧ c ≤ 26) ∧ resV w = lN (e256 (wdL w)) := by decide +kernel
theorem wdL_inj : ∀ w, w < 24 → ∀ w', w' < 24 → wdL w = wdL w' → w = w' := by decide +kernel
theorem pw6 {n : Nat} (h : n ≤ 6) : 256 ^ n ≤ 256 ^ 6 ∧ 32 ^ n ≤ 32 ^ 6 := ⟨Nat.pow_le_pow_right (by omega) h, Nat.pow_le_pow_right (by omega) h⟩
theorem nm_eq {l l' : List Nat} (h6 : l.length ≤ 6) (h6' : l'.length ≤ 6) (h : ∀ c, c ∈ l → 1 ≤ c ∧ c ≤ 26) (h' : ∀ c, c ∈ l' → 1 ≤ c ∧ c ≤ 26) : (nI (e32 l) = nI (e32 l') ↔ l = l') ∧ (lN (e256 l) = lN (e256 l') ↔ l = l') := by
  have a1 := e32_lt h
  have a2 := e32_lt h'
  have a3 := e256_lt h
  have a4 := e256_lt h'
  have b1 := pw6 h6
  have b2 := pw6 h6'
  refine ⟨⟨fun e => ?_, fun e => by rw [e]⟩, ⟨fun e => ?_, fun e => by rw [e]⟩⟩
  · rw [eq_nn (by omega) (by omega)] at e
    exact e32_inj _ l l' rfl h h' e
  · exact e256_inj _ l l' rfl h h' (lN_j (by omega) (by omega) e)
theorem nmR_eq {a a' : Int32} {w w' : Int64} (h : NmR a w) (h' : NmR a' w') : a = a' ↔ w = w' := by
  obtain ⟨l, l1, l2, rfl, rfl⟩ := h
  obtain ⟨l', l1', l2', rfl, rfl⟩ := h'
  obtain ⟨e1, e2⟩ := nm_eq l1 l1' l2 l2'
  rw [e1, e2]
/-- the row of words, sign by sign -/
def wnW : Nat → Nat
  | 0 => 0
  | i + 1 => if byC i = 32 then wnW i + 1 else wnW i
def wpW : Nat → Nat
  | 0 => 0
  | i + 1 => if byC i = 32 then 0 else wpW i * 32 + ((byC i).toNatClampNeg - 96)
theorem row_ok : ∀ i, i < 119 → (byC i = 32 ∧ wnW i < 24 ∧ wpW i = e32 (wdL (wnW i))) ∨ (byC i ≠ 32 ∧ nI (wpW i) * 32 + (byC i - 96) = nI (wpW (i + 1))) := by decide +kernel
theorem wn_end : wnW 119 = 24 := by decide +kernel
theorem wordOf_eq {N : Nat} {l : List Nat} (C : CM) (hN : 2000 ≤ N) (h6 : l.length ≤ 6) (hl : ∀ c, c ∈ l → 1 ≤ c ∧ c ≤ 26) : (∃ w, w < 24 ∧ l = wdL w ∧ f_X7_wordOf N (nI (e32 l)) C = some (nI w, C)) ∨ ((∀ w, w < 24 → l ≠ wdL w) ∧ f_X7_wordOf N (nI (e32 l)) C = some (-1, C)) := by
  unfold f_X7_wordOf
  refine loop1 (fun m i (q : Int32 × Int32) => f_X7_wordOf_6 N (nI (e32 l)) m q.1 q.2 i C) (fun i q => q.1 = nI (wnW i) ∧ q.2 = nI (wpW i) ∧ ∀ w, w < wnW i → l ≠ wdL w)
    (fun y => (∃ w, w < 24 ∧ l = wdL w ∧ y = some (nI w, C)) ∨ ((∀ w, w < 24 → l ≠ wdL w) ∧ y = some (-1, C))) 119 ?_ ?_ 119 0 N (0, 0) (by omega) (by omega) ⟨rfl, rfl, fun w h => absurd h (Nat.not_lt_zero _)⟩
  · rintro m i ⟨a, b⟩ hi ⟨ha, hb, hne⟩
    dsimp only at ha hb hne
    subst ha hb
    dsimp only
    rw [f_X7_wordOf_6]
    have hln : lnW = 119 := rfl
    simp (disch := omega) only [le_ln, if_neg, ldA_nI, hln, nI_al]
    rcases row_ok i hi with ⟨h1, h2, h3⟩ | ⟨h1, h2⟩
    · have hw1 : wnW (i + 1) = wnW i + 1 := by
        show (if byC i = 32 then _ else _) = _
        rw [if_pos h1]
      have hp1 : wpW (i + 1) = 0 := by
        show (if byC i = 32 then _ else _) = _
        rw [if_pos h1]
      obtain ⟨w1, w2, -⟩ := wdL_ok (wnW i) h2
      rw [if_pos h1, h3]
      by_cases he : nI (e32 (wdL (wnW i))) = nI (e32 l)
      · rw [if_pos he]
        refine Or.inr (Or.inl ⟨wnW i, h2, ?_, rfl⟩)
        exact ((nm_eq w1 h6 w2 hl).1.mp he).symm
      · rw [if_neg he]
        refine Or.inl ⟨(nI (wnW i + 1), 0), rfl, by rw [hw1], by rw [hp1]; rfl, fun w hw => ?_⟩
        rw [hw1] at hw
        by_cases e : w = wnW i
        · rw [e]
          intro el
          exact he (by rw [← el])
        · exact hne w (by omega)
    · have hw1 : wnW (i + 1) = wnW i := by
        show (if byC i = 32 then _ else _) = _
        rw [if_neg h1]
      rw [if_neg h1, h2]
      exact Or.inl ⟨(nI (wnW i), nI (wpW (i + 1))), rfl, by rw [hw1], rfl, by rw [hw1]; exact hne⟩
  · rintro m ⟨a, b⟩ ⟨ha, hb, hne⟩
    refine Or.inr ⟨fun w hw => hne w (by rw [wn_end]; exact hw), ?_⟩
    simp (disch := omega) only [f_X7_wordOf_6, le_ln, if_pos, rt]
/-- a run: from a to e -/
def RunR (u : Nat → Nat) (L a e : Nat) : Prop := a < e ∧ e ≤ L ∧ (∀ x, a ≤ x → x < e → smB (u x) = true ∨ dgB (u x) = true) ∧ (e = L ∨ (smB (u e) = false ∧ dgB (u e) = false))
theorem run_ex {u : Nat → Nat} {L : Nat} : ∀ d a, a + d = L → 0 < d → (smB (u a) = true ∨ dgB (u a) = true) → ∃ e, RunR u L a e := by
  intro d
  induction d with
  | zero => intro a _ h; omega
  | succ d ih =>
    intro a ha _ hc
    by_cases hd : d = 0
    · exact ⟨a + 1, by omega, by omega, fun x h1 h2 => by rw [show x = a by omega]; exact hc, Or.inl (by omega)⟩
    · by_cases hn : smB (u (a + 1)) = true ∨ dgB (u (a + 1)) = true
      · obtain ⟨e, h1, h2, h3, h4⟩ := ih (a + 1) (by omega) (by omega) hn
        refine ⟨e, by omega, h2, fun x q1 q2 => ?_, h4⟩
        by_cases e1 : x = a
        · rw [e1]; exact hc
        · exact h3 x (by omega) q2
      · refine ⟨a + 1, by omega, by omega, fun x h1 h2 => by rw [show x = a by omega]; exact hc, Or.inr ⟨?_, ?_⟩⟩
        · cases h : smB (u (a + 1))
          · rfl
          · exact absurd (Or.inl h) hn
        · cases h : dgB (u (a + 1))
          · rfl
          · exact absurd (Or.inr h) hn
theorem lsT_mem {u : Nat → Nat} {a j : Nat} (h : ∀ i, i < j → smB (u (a + i)) = true) : ∀ c, c ∈ lsT u a j → 1 ≤ c ∧ c ≤ 26 := by
  intro c hc
  simp only [lsT, List.mem_map, List.mem_range] at hc
  obtain ⟨i, hi, rfl⟩ := hc
  have := sm_iff.mp (h i hi)
  omega
theorem lsT_len (u : Nat → Nat) (a j : Nat) : (lsT u a j).length = j := by simp [lsT]
