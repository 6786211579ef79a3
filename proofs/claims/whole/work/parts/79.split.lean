/-! All tokens. -/
section SP2
variable {N : Nat} {u : Nat → Nat} {L lm : Nat}
theorem byV_eq {c n : Nat} (hc : c < 256) (hn : n < 128) : (byV c = nI n) = (c = n) := by
  by_cases h : c < 128
  · rw [byV_lo h, eq_nn (by omega) (by omega)]
  · apply propext
    constructor
    · intro e
      have h1 := byV_neg0 hc (by omega)
      rw [e] at h1
      have h2 := nI_pos' (n := n) (by omega)
      exact absurd (Int32.lt_of_le_of_lt h2 h1) (by decide)
    · intro e; omega
theorem isMarkC {c : Nat} (hc : c < 256) (C : CM) : (isMk c → f_X7_isMark (byV c) C = some (1, C)) ∧ (¬ isMk c → f_X7_isMark (byV c) C = some (0, C)) := by
  have e : ∀ n : Nat, n < 128 → (byV c = nI n) = (c = n) := fun n hn => byV_eq hc hn
  have e1 : (byV c = (59 : Int32)) = (c = 59) := e 59 (by omega)
  have e2 : (byV c = (60 : Int32)) = (c = 60) := e 60 (by omega)
  have e3 : (byV c = (61 : Int32)) = (c = 61) := e 61 (by omega)
  have e4 : (byV c = (62 : Int32)) = (c = 62) := e 62 (by omega)
  have e5 : (byV c = (40 : Int32)) = (c = 40) := e 40 (by omega)
  have e6 : (byV c = (41 : Int32)) = (c = 41) := e 41 (by omega)
  unfold f_X7_isMark f_X7_isMark_36 isMk
  simp only [e1, e2, e3, e4, e5, e6]
  constructor
  · intro h
    rcases h with h | h | h | h | h | h <;> subst h <;> simp [rt]
  · intro h
    rw [if_neg (fun q => h (by omega)), if_neg (fun q => h (by omega)), if_neg (fun q => h (by omega)), if_neg (fun q => h (by omega)), if_neg (fun q => h (by omega)), if_neg (fun q => h (by omega))]
    rfl
/-- so many tokens, and where each begins -/
def TksR (N : Nat) (u : Nat → Nat) (L lm : Nat) (C : CM) (t : Nat) (P : Nat → Nat) : Prop := C.1 1 0 0 3 = nI t ∧ P 0 = 0 ∧ ∀ j, j < t → TokAt N u L lm (P j) (P (j + 1)) (C.1 1 0 1 j) (C.1 1 0 2 j) (C.1 1 0 3 j)
theorem tks_add {C : CM} {t p' : Nat} {P : Nat → Nat} {k v pl : Int32} (h : TksR N u L lm C t P) (hk : TokAt N u L lm (P t) p' k v pl) : TksR N u L lm (adC C t k v pl) (t + 1) (fun j => if j = t + 1 then p' else P j) := by
  obtain ⟨h1, h2, h3⟩ := h
  obtain ⟨a1, a2, a3, a4, a5⟩ := ad_rows (C := C) (t := t) (k := k) (v := v) (pl := pl)
  refine ⟨a1, ?_, fun j hj => ?_⟩
  · show (if 0 = t + 1 then p' else P 0) = 0
    rw [if_neg (by omega)]
    exact h2
  · rw [a2, a3, a4]
    dsimp only
    by_cases e : j = t
    · subst e
      rw [if_pos rfl, if_pos rfl, if_pos rfl, if_neg (by omega), if_pos rfl]
      exact hk
    · rw [if_neg e, if_neg e, if_neg e, if_neg (by omega), if_neg (by omega)]
      exact h3 j (by omega)
theorem tpC_f1 {C C' : CM} (h : TpC u C) (hf : F1 C C') : TpC u C' := fun x hx => by
  rw [hf.2 0 (by omega)]
  exact h x hx
/-- what the splitting leaves -/
def SplR (N : Nat) (u : Nat → Nat) (L lm : Nat) (C : CM) (y : Option (Int32 × CM)) : Prop := ∃ C' t' P', y = some (0, C') ∧ F1 C C' ∧ (∀ x, x ≠ 3 → C'.1 1 0 0 x = C.1 1 0 0 x) ∧ t' + 1 ≤ 941 ∧ TksR N u L lm C' (t' + 1) P' ∧ (C'.1 1 0 1 t' = 0 ∨ C'.1 1 0 1 t' = 1)
theorem spl_back {C D : CM} {y : Option (Int32 × CM)} (h : SplR N u L lm D y) (hf : F1 C D) (hx : ∀ x, x ≠ 3 → D.1 1 0 0 x = C.1 1 0 0 x) : SplR N u L lm C y := by
  obtain ⟨C', t', P', h1, h2, h3, h4⟩ := h
  exact ⟨C', t', P', h1, hf.trans h2, fun x h => (h3 x h).trans (hx x h), h4⟩
theorem split_end (hL : L ≤ 940) (hlm : lm ≤ 940) {p t : Nat} {P : Nat → Nat} {C : CM} (hp : p ≤ L) (hm : min L lm ≤ p) (ht : t ≤ p) (hK : TksR N u L lm C t P) (hP : ∀ p' k v pl, TokAt N u L lm p p' k v pl → TokAt N u L lm (P t) p' k v pl) : SplR N u L lm C (f_X7_split_t_133 N (nI L) (nI lm) (nI (min L lm)) C) := by
  unfold f_X7_split_t_133 f_X7_split_t_144
  simp (disch := omega) only [le_nn]
  by_cases h : L ≤ lm
  · rw [if_pos h, add_eq _ _ _ (by omega) hK.1, cal_some]
    have e1 : min L lm = L := by omega
    rw [e1]
    refine ⟨adC C t 0 0 (nI L), t, _, rfl, ad_f1, ad_rows.2.2.2.2, by omega, tks_add hK (hP p 0 0 (nI L) (tok_end hL h hlm (by omega))), Or.inl ?_⟩
    rw [ad_rows.2.1, if_pos rfl]
  · rw [if_neg h, add_eq _ _ _ (by omega) hK.1, cal_some]
    have e1 : min L lm = lm := by omega
    rw [e1]
    obtain ⟨p', hp'⟩ := tok_ex (N := N) (u := u) hL (show lm < L by omega) (L - p) p (by omega) (by omega)
    refine ⟨adC C t 1 0 (nI lm), t, _, rfl, ad_f1, ad_rows.2.2.2.2, by omega, tks_add hK (hP p' 1 0 (nI lm) hp'), Or.inr ?_⟩
    rw [ad_rows.2.1, if_pos rfl]
theorem split_loop (hN : 2000 ≤ N) (hL : L ≤ 940) (hlm : lm ≤ 940) : ∀ d p s t P C fu, L - p ≤ d → p ≤ L → s ≤ p → t ≤ p → d < fu → TpC u C → TksR N u L lm C t P → (∀ p' k v pl, TokAt N u L lm p p' k v pl → TokAt N u L lm (P t) p' k v pl) → SplR N u L lm C (f_X7_split_t_33 N (nI L) (nI lm) (nI (min L lm)) fu (nI p) (nI s) C) := by
  intro d
  induction d with
  | zero =>
    intro p s t P C fu hd hp hs ht hf hT hK hP
    obtain ⟨m, rfl⟩ : ∃ m, fu = m + 1 := ⟨fu - 1, by omega⟩
    have q := split_end (N := N) (C := C) hL hlm hp (by omega) ht hK hP
    rw [f_X7_split_t_33]
    simp (disch := omega) only [le_nn, le_ln]
    by_cases h : 940 ≤ s
    · rw [if_pos h]; exact q
    · rw [if_neg h, if_pos (by omega)]; exact q
  | succ d ih =>
    intro p s t P C fu hd hp hs ht hf hT hK hP
    obtain ⟨m, rfl⟩ : ∃ m, fu = m + 1 := ⟨fu - 1, by omega⟩
    by_cases hpm : min L lm ≤ p
    · have q := split_end (N := N) (C := C) hL hlm hp (by omega) ht hK hP
      rw [f_X7_split_t_33]
      simp (disch := omega) only [le_nn, le_ln]
      by_cases h : 940 ≤ s
      · rw [if_pos h]; exact q
      · rw [if_neg h, if_pos (by omega)]; exact q
    obtain ⟨hu, hb⟩ := hT p (by omega)
    rw [f_X7_split_t_33]
    simp (disch := omega) only [le_nn, le_ln, if_neg, ldA_nI]
    rw [hb]
    have w32 : (byV (u p) = (32 : Int32)) = (u p = 32) := byV_eq (n := 32) hu (by omega)
    have w10 : (byV (u p) = (10 : Int32)) = (u p = 10) := byV_eq (n := 10) hu (by omega)
    simp only [w32, w10, nI_al]
    by_cases h32 : u p = 32
    · rw [if_pos h32]
      exact ih (p + 1) (s + 1) t P C m (by omega) (by omega) (by omega) (by omega) (by omega) hT hK (fun p' k v pl h => hP p' k v pl (tok_sp hL (by omega) (Or.inl h32) h))
    rw [if_neg h32]
    by_cases h10 : u p = 10
    · rw [if_pos h10]
      exact ih (p + 1) (s + 1) t P C m (by omega) (by omega) (by omega) (by omega) (by omega) hT hK (fun p' k v pl h => hP p' k v pl (tok_sp hL (by omega) (Or.inr h10) h))
    rw [if_neg h10, isLetterC hu, cal_some]
    have hpl : L ≤ lm ∨ p < lm := by omega
    -- behind a token
    have go : ∀ (p' : Nat) (k v : Int32), p < p' → p' ≤ L → TokAt N u L lm p p' k v (nI p) → SplR N u L lm C (cal (f_X7_add k v (nI p) C) (fun _ C2 => f_X7_split_t_33 N (nI L) (nI lm) (nI (min L lm)) m (nI p') (nI (s + 1)) C2)) := by
      intro p' k v h1 h2 hk
      rw [add_eq _ _ _ (by omega) hK.1, cal_some]
      refine spl_back (ih p' (s + 1) (t + 1) (fun j => if j = t + 1 then p' else P j) (adC C t k v (nI p)) m (by omega) h2 (by omega) (by omega) (by omega) (tpC_f1 hT ad_f1) (tks_add hK (hP p' k v (nI p) hk)) (fun q k v pl h => ?_)) ad_f1 ad_rows.2.2.2.2
      rw [if_pos rfl]
      exact h
    have run : (smB (u p) = true ∨ dgB (u p) = true) → SplR N u L lm C (f_X7_split_t_90 N (fun z5 z6 c => f_X7_split_t_33 N (nI L) (nI lm) (nI (min L lm)) m z5 z6 c) (nI L) (nI lm) (nI (min L lm)) (nI p) (nI s) C) := by
      intro hc
      obtain ⟨e, hr⟩ := run_ex (u := u) (L := L) (L - p) p (by omega) (by omega) hc
      have hpe : p < e ∧ e ≤ L := ⟨hr.1, hr.2.1⟩
      obtain ⟨k, v, hk, he⟩ := splitRun_eq hN hL hT hr
      have := go e k v hpe.1 hpe.2 (tok_run hN hL hlm hpl hr hk)
      unfold f_X7_split_t_90
      rw [he]
      rw [add_eq _ _ _ (by omega) hK.1, cal_some] at this ⊢
      simp only [cal_rt, nI_al]
      exact this
    by_cases h1 : smB (u p) = true
    · rw [h1, if_neg (show ¬ bI true = (0 : Int32) by decide)]
      exact run (Or.inl h1)
    have h1f : smB (u p) = false := by
      cases h : smB (u p)
      · rfl
      · exact absurd h h1
    rw [h1f, if_pos (show bI false = (0 : Int32) from rfl), isDigitC hu, cal_some]
    by_cases h2 : dgB (u p) = true
    · rw [h2, if_neg (show ¬ bI true = (0 : Int32) by decide)]
      exact run (Or.inr h2)
    have h2f : dgB (u p) = false := by
      cases h : dgB (u p)
      · rfl
      · exact absurd h h2
    rw [h2f, if_pos (show bI false = (0 : Int32) from rfl)]
    obtain ⟨m1, m2⟩ := tok_mk (N := N) (L := L) (lm := lm) hL hlm (show p < L by omega) hpl ⟨h32, h10⟩ h1f h2f (byV (u p))
    unfold f_X7_split_t_117
    simp only [nI_al]
    by_cases hm : isMk (u p)
    · have hlo : u p < 128 := by unfold isMk at hm; omega
      rw [(isMarkC hu C).1 hm, cal_some, if_neg (show ¬ (1 : Int32) = 0 by decide)]
      have := go (p + 1) 5 (nI (u p)) (by omega) (by omega) (m1 hm)
      rw [byV_lo hlo]
      exact this
    · rw [(isMarkC hu C).2 hm, cal_some, if_pos rfl]
      exact go (p + 1) 1 (byV (u p)) (by omega) (by omega) (m2 hm)
theorem split_eq {C : CM} (hN : 2000 ≤ N) (hL : L ≤ 940) (hlm : lm ≤ 940) (hT : TpC u C) : ∃ C' t' P', f_X7_split_t N (nI L) (nI lm) C = some (0, C') ∧ F1 C C' ∧ C'.1 1 0 0 4 = 0 ∧ C'.1 1 0 0 5 = 0 ∧ C'.1 1 0 0 6 = 0 ∧ t' + 1 ≤ 941 ∧ TksR N u L lm C' (t' + 1) P' ∧ (C'.1 1 0 1 t' = 0 ∨ C'.1 1 0 1 t' = 1) := by
  unfold f_X7_split_t
  rw [bnd_v, bnd_v, bnd_v, bnd_v, imin_nn (by omega) (by omega)]
  have f : F1 C (stC (stC (stC (stC C 1 0 0 3 0) 1 0 0 4 0) 1 0 0 5 0) 1 0 0 6 0) := f1_st (f1_st (f1_st (f1_st (F1.rf C))))
  have e3 : (stC (stC (stC (stC C 1 0 0 3 0) 1 0 0 4 0) 1 0 0 5 0) 1 0 0 6 0).1 1 0 0 3 = nI 0 := by
    rw [stC_ne (by omega), stC_ne (by omega), stC_ne (by omega), stC_at]; rfl
  obtain ⟨C', t', P', h1, h2, h3, h4⟩ := split_loop (N := N) (u := u) hN hL hlm L 0 0 0 (fun _ => 0) _ N (by omega) (by omega) (by omega) (by omega) (by omega) (tpC_f1 hT f) ⟨e3, rfl, fun j h => absurd h (Nat.not_lt_zero _)⟩ (fun _ _ _ _ h => h)
  refine ⟨C', t', P', h1, f.trans h2, ?_, ?_, ?_, h4⟩
  · rw [h3 4 (by omega), stC_ne (by omega), stC_ne (by omega), stC_at]
  · rw [h3 5 (by omega), stC_ne (by omega), stC_at]
  · rw [h3 6 (by omega), stC_at]
end SP2
