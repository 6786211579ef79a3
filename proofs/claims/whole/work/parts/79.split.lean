/-! All tokens. -/
section SP2
variable {N : Nat} {u : Nat → Nat} {L lm : Nat}
theorem byV_eq {c n : Nat} (hc : c < 256) (hn : n < 128) : (byV c = nI n) = (c = n) := by
  by_cases h : c < 128
  · rw [byV_lo h, eq_nn (by omega) (by omega)]
  · apply propext
    constructor
    · intro e
      have h1 := byV_neg0 hc (by omega)
      rw [e] at h1
      have h2 := nI_pos' (n := n) (by omega)
      exact absurd (Int32.lt_of_le_of_lt h2 h1) (by decide)
    · intro e; omega
theorem isMarkC {c : Nat} (hc : c < 256) (C : CM) : (isMk c → f_X7_isMark (byV c) C = some (1, C)) ∧ (¬ isMk c → f_X7_isMark (byV c) C = some (0, C)) := by
  have e : ∀ n : Nat, n < 128 → (byV c = nI n) = (c = n) := fun n hn => byV_eq hc hn
  have e1 : (byV c = (59 : Int32)) = (c = 59) := e 59 (by omega)
  have e2 : (byV c = (60 : Int32)) = (c = 60) := e 60 (by omega)
  have e3 : (byV c = (61 : Int32)) = (c = 61) := e 61 (by omega)
  have e4 : (byV c = (62 : Int32)) = (c = 62) := e 62 (by omega)
  have e5 : (byV c = (40 : Int32)) = (c = 40) := e 40 (by omega)
  have e6 : (byV c = (41 : Int32)) = (c = 41) := e 41 (by omega)
  unfold f_X7_isMark f_X7_isMark_36 isMk
  simp only [e1, e2, e3, e4, e5, e6]
  constructor
  · intro h
    rcases h with h | h | h | h | h | h <;> subst h <;> simp [rt]
  · intro h
    rw [if_neg (fun q => h (by omega)), if_neg (fun q => h (by omega)), if_neg (fun q => h (by omega)), if_neg (fun q => h (by omega)), if_neg (fun q => h (by omega)), if_neg (fun q => h (by omega))]
    rfl
/-- so many tokens, and where each begins -/
def TksR (N : Nat) (u : Nat → Nat) (L lm : Nat) (C : CM) (t : Nat) (P : Nat → Nat) : Prop := C.1 1 0 0 3 = nI t ∧ P 0 = 0 ∧ ∀ j, j < t → TokAt N u L lm (P j) (P (j + 1)) (C.1 1 0 1 j) (C.1 1 0 2 j) (C.1 1 0 3 j)
theorem tks_add {C : CM} {t p' : Nat} {P : Nat → Nat} {k v pl : Int32} (h : TksR N u L lm C t P) (hk : TokAt N u L lm (P t) p' k v pl) : TksR N u L lm (adC C t k v pl) (t + 1) (fun j => if j = t + 1 then p' else P j) := by
  obtain ⟨h1, h2, h3⟩ := h
  obtain ⟨a1, a2, a3, a4, a5⟩ := ad_rows (C := C) (t := t) (k := k) (v := v) (pl := pl)
  refine ⟨a1, ?_, fun j hj => ?_⟩
  · show (if 0 = t + 1 then p' else P 0) = 0
    rw [if_neg (by omega)]
    exact h2
  · rw [a2, a3, a4]
    dsimp only
    by_cases e : j = t
    · subst e
      rw [if_pos rfl, if_pos rfl, if_pos rfl, if_neg (by omega), if_pos rfl]
      exact hk
    · rw [if_neg e, if_neg e, if_neg e, if_neg (by omega), if_neg (by omega)]
      exact h3 j (by omega)
theorem tpC_f1 {C C' : CM} (h : TpC u C) (hf : F1 C C') : TpC u C' := fun x hx => by
  rw [hf.2 0 (by omega)]
  exact h x hx
theorem split_loop (hN : 2000 ≤ N) (hL : L ≤ 940) (hlm : lm ≤ 940) : ∀ d p s t P C fu, L - p ≤ d → p ≤ L → s ≤ p → t ≤ p → d < fu → TpC u C → TksR N u L lm C t P → (∀ p' k v pl, TokAt N u L lm p p' k v pl → TokAt N u L lm (P t) p' k v pl) → ∃ C' t' P', f_X7_split_t_33 N (nI L) (nI lm) (nI (min L lm)) fu (nI p) (nI s) C = some (0, C') ∧ F1 C C' ∧ (∀ x, x ≠ 3 → C'.1 1 0 0 x = C.1 1 0 0 x) ∧ t' + 1 ≤ 941 ∧ TksR N u L lm C' (t' + 1) P' ∧ (C'.1 1 0 1 t' = 0 ∨ C'.1 1 0 1 t' = 1) := by
  intro d
  induction d with
  | zero =>
    intro p s t P C fu hd hp hs ht hf hT hK hP
    exact absurd hd (by omega)
  | succ d ih => sorry
end SP2
