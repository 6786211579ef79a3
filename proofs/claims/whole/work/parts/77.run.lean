/-! A run as the reference reads it. -/
def allB (f : Nat → Bool) (u : Nat → Nat) (a : Nat) : Nat → Bool
  | 0 => true
  | j + 1 => allB f u a j && f (u (a + j))
theorem allB_iff {f : Nat → Bool} {u : Nat → Nat} {a : Nat} : ∀ j, allB f u a j = true ↔ ∀ i, i < j → f (u (a + i)) = true := by
  intro j
  induction j with
  | zero => exact ⟨fun _ i h => absurd h (Nat.not_lt_zero _), fun _ => rfl⟩
  | succ j ih =>
    show (allB f u a j && f (u (a + j))) = true ↔ _
    rw [Bool.and_eq_true, ih]
    constructor
    · rintro ⟨h1, h2⟩ i hi
      by_cases e : i = j
      · rw [e]; exact h2
      · exact h1 i (by omega)
    · exact fun h => ⟨fun i hi => h i (by omega), h j (by omega)⟩
/-- what a run is, as the class says it -/
def RecR (u : Nat → Nat) (a e : Nat) (k v : Int32) : Prop :=
  (allB smB u a (e - a) = true ∧ e - a ≤ 6 ∧ ((∃ w, w < 24 ∧ lsT u a (e - a) = wdL w ∧ k = 2 ∧ v = nI w) ∨ ((∀ w, w < 24 → lsT u a (e - a) ≠ wdL w) ∧ k = 3 ∧ v = nI (e32 (lsT u a (e - a)))))) ∨
  (allB dgB u a (e - a) = true ∧ e - a ≤ 3 ∧ k = 4 ∧ v = nI (dcT u a (e - a))) ∨
  (¬ (allB smB u a (e - a) = true ∧ e - a ≤ 6) ∧ ¬ (allB dgB u a (e - a) = true ∧ e - a ≤ 3) ∧ k = 1)
theorem sm_dg {c : Nat} (h : smB c = true) : dgB c = false := by
  have := sm_iff.mp h
  simp [dgB]
  omega
theorem lsT_lt6 {u : Nat → Nat} {a j : Nat} (h : allB smB u a j = true) (h6 : j ≤ 5) : e256 (lsT u a j) < 2 ^ 40 := by
  have := e256_lt (lsT_mem ((allB_iff j).mp h))
  rw [lsT_len] at this
  have h2 : 256 ^ j ≤ 256 ^ 5 := Nat.pow_le_pow_right (by omega) h6
  omega
theorem dcT_lt {u : Nat → Nat} {a : Nat} : ∀ j, allB dgB u a j = true → dcT u a j < 10 ^ j := by
  intro j
  induction j with
  | zero => intro _; exact Nat.one_pos
  | succ j ih =>
    intro h
    have h' : allB dgB u a j = true ∧ dgB (u (a + j)) = true := by
      have : (allB dgB u a j && dgB (u (a + j))) = true := h
      rwa [Bool.and_eq_true] at this
    have h1 := ih h'.1
    have h2 := dg_iff.mp h'.2
    show dcT u a j * 10 + (u (a + j) - 48) < 10 ^ (j + 1)
    rw [Nat.pow_succ]
    omega
section RUN
variable {N : Nat} {u : Nat → Nat} {L lm : Nat}
/-- behind j signs of the run -/
def RnI (u : Nat → Nat) (L lm a j : Nat) (X0 : XM) (a3 : Int32) (X : XM) : Prop :=
  NxF X0 X ∧ TpX u L lm X ∧ X.1 0 4 = nI (a + j) ∧ X.1 0 12 = nI a ∧ X.1 0 13 = nI j ∧ a3 = bI (allB (fun c => smB c == smB (u a)) u a j) ∧ (allB smB u a j = true → j ≤ 6 → X.2 0 17 = lN (e256 (lsT u a j))) ∧ (allB dgB u a j = true → j ≤ 3 → X.1 0 14 = nI (dcT u a j))
theorem stL_at {X : XM} {j x : Nat} {v : Int64} : (stL X j x v).2 j x = v := by simp [stL]
theorem run_step {a j : Nat} {X0 X : XM} {a3 : Int32} (k : Int32 → XM → Option (Int32 × XM)) (hL : L ≤ 940) (hj : a + j < L) (hI : RnI u L lm a j X0 a3 X) : ∃ b3 X', f_X11_next_201 N k (bI (smB (u a))) a3 X = k b3 X' ∧ RnI u L lm a (j + 1) X0 b3 X' := by
  obtain ⟨hn, hT, h4, h12, h13, h3, hw, hd⟩ := hI
  have hu := (hT.2.2 (a + j) (by omega)).1
  have pk : ∀ Y, NxF X Y → Y.1 0 4 = nI (a + j) → f_X11_peek Y = some (nI (u (a + j)), Y) := by
    intro Y hY h
    have := peek_eq (p := a + j) (tpx_nx hT hY) hL (by omega) h
    rwa [if_pos hj] at this
  have s1 : f_X11_next_201 N k (bI (smB (u a))) a3 X = f_X11_next_221 N k (bI (smB (u a))) (bI (allB (fun c => smB c == smB (u a)) u a (j + 1))) X := by
    have hb : allB (fun c => smB c == smB (u a)) u a (j + 1) = (allB (fun c => smB c == smB (u a)) u a j && (smB (u (a + j)) == smB (u a))) := rfl
    unfold f_X11_next_201 f_X11_next_220
    rw [h3, hb]
    cases hq : allB (fun c => smB c == smB (u a)) u a j
    · rw [if_pos (show bI false = (0 : Int32) from rfl), Bool.false_and]
      rfl
    · rw [if_neg (show ¬ bI true = (0 : Int32) by decide), pk X (NxF.rf X) h4, cal_some, isSmall_eq hu, cal_some, Bool.true_and]
      cases smB (u (a + j)) <;> cases smB (u a) <;> rfl
  rw [s1]
  generalize hb3 : bI (allB (fun c => smB c == smB (u a)) u a (j + 1)) = b3
  -- the word
  obtain ⟨X1, e1, n1, f4, f12, f13, f14, w1⟩ : ∃ X1, f_X11_next_221 N k (bI (smB (u a))) b3 X = f_X11_next_248 N k (bI (smB (u a))) b3 X1 ∧ NxF X X1 ∧ X1.1 0 4 = nI (a + j) ∧ X1.1 0 12 = nI a ∧ X1.1 0 13 = nI j ∧ X1.1 0 14 = X.1 0 14 ∧ (allB smB u a (j + 1) = true → j + 1 ≤ 6 → X1.2 0 17 = lN (e256 (lsT u a (j + 1)))) := by
    unfold f_X11_next_221
    rw [h13]
    simp (disch := omega) only [le_ln]
    by_cases h6 : 6 ≤ j
    · rw [if_pos h6]
      exact ⟨X, rfl, NxF.rf X, h4, h12, h13, rfl, fun _ h => by omega⟩
    · rw [if_neg h6, pk X (NxF.rf X) h4, cal_some, bnd_v]
      refine ⟨stL X 0 17 ((X.2 0 17 <<< (Int32.toInt64 8 &&& 63)) ||| Int32.toInt64 (nI (u (a + j)))), rfl, nxf_L (NxF.rf X), h4, h12, h13, rfl, fun h _ => ?_⟩
      have h' : allB smB u a j = true ∧ smB (u (a + j)) = true := by
        have : (allB smB u a j && smB (u (a + j))) = true := h
        rwa [Bool.and_eq_true] at this
      have hs := sm_iff.mp h'.2
      rw [stL_at, hw h'.1 (by omega), wd_step (lsT_lt6 h'.1 (by omega)) hu, lsT_s, e256_s, show u (a + j) - 96 + 96 = u (a + j) by omega]
  rw [e1]
  have n1' := hn.trans n1
  -- the number
  obtain ⟨X2, e2, n2, g4, g12, g13, g17, d2⟩ : ∃ X2, f_X11_next_248 N k (bI (smB (u a))) b3 X1 = f_X11_next_275 N k (bI (smB (u a))) b3 X2 ∧ NxF X1 X2 ∧ X2.1 0 4 = nI (a + j) ∧ X2.1 0 12 = nI a ∧ X2.1 0 13 = nI j ∧ X2.2 0 17 = X1.2 0 17 ∧ (allB dgB u a (j + 1) = true → j + 1 ≤ 3 → X2.1 0 14 = nI (dcT u a (j + 1))) := by
    unfold f_X11_next_248
    rw [f13]
    simp (disch := omega) only [le_ln]
    by_cases h3' : 3 ≤ j
    · rw [if_pos h3']
      exact ⟨X1, rfl, NxF.rf X1, f4, f12, f13, rfl, fun _ h => by omega⟩
    · rw [if_neg h3', pk X1 n1 f4, cal_some, bnd_v]
      refine ⟨stX X1 0 14 (10 * X1.1 0 14 + nI (u (a + j)) - 48), rfl, nxf_st (NxF.rf X1) (by omega), ?_, ?_, ?_, rfl, fun h _ => ?_⟩
      · rw [stX_ne (by omega)]; exact f4
      · rw [stX_ne (by omega)]; exact f12
      · rw [stX_ne (by omega)]; exact f13
      · have h' : allB dgB u a j = true ∧ dgB (u (a + j)) = true := by
          have : (allB dgB u a j && dgB (u (a + j))) = true := h
          rwa [Bool.and_eq_true] at this
        have hs := dg_iff.mp h'.2
        have hlt := dcT_lt j h'.1
        have hp : 10 ^ j ≤ 10 ^ 2 := Nat.pow_le_pow_right (by omega) (by omega)
        rw [stX_at, f14, hd h'.1 (by omega)]
        show (10 : Int32) * nI (dcT u a j) + nI (u (a + j)) - 48 = nI (dcT u a j * 10 + (u (a + j) - 48))
        have q1 : (10 : Int32) * nI (dcT u a j) = nI (10 * dcT u a j) := nI_lm 10 (dcT u a j)
        have q2 : nI (u (a + j)) = nI (u (a + j) - 48) + 48 := by
          rw [nI_al]
          congr 1
          show _ = u (a + j) - 48 + 48
          omega
        rw [q1, q2, ← Int32.add_assoc, Int32.add_sub_cancel, ← nI_add, Nat.mul_comm]
  rw [e2]
  have n2' := n1'.trans n2
  unfold f_X11_next_275
  have z4 : (stX X2 0 13 (nI (j + 1))).1 0 4 = nI (a + j) := by rw [stX_ne (by omega)]; exact g4
  rw [bnd_v, g13, nI_al, bnd_v, z4, nI_al]
  refine ⟨b3, stX (stX X2 0 13 (nI (j + 1))) 0 4 (nI (a + j + 1)), rfl, nxf_st (nxf_st n2' (by omega)) (by omega), tpx_nx hT (nxf_st (nxf_st (n1.trans n2) (by omega)) (by omega)), stX_at, ?_, ?_, hb3.symm, fun h h6 => ?_, fun h h3' => ?_⟩
  · rw [stX_ne (by omega), stX_ne (by omega)]; exact g12
  · rw [stX_ne (by omega), stX_at]
  · show X2.2 0 17 = _
    rw [g17]
    exact w1 h h6
  · rw [stX_ne (by omega), stX_ne (by omega)]
    exact d2 h h3'
theorem isSmall_m (X : XM) : f_X11_isSmall (-1) X = some (0, X) := by
  unfold f_X11_isSmall
  rw [if_pos (by decide)]
  rfl
theorem isDigit_m (X : XM) : f_X11_isDigit (-1) X = some (0, X) := by
  unfold f_X11_isDigit
  rw [if_pos (by decide)]
  rfl
end RUN
