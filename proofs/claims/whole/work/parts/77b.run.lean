section RUN2
variable {N : Nat} {u : Nat → Nat} {L lm : Nat}
theorem same_sm {a j : Nat} (h0 : smB (u a) = true) : allB (fun c => smB c == smB (u a)) u a j = allB smB u a j := by
  have : (fun c => smB c == smB (u a)) = smB := by
    funext c
    rw [h0]
    cases smB c <;> rfl
  rw [this]
theorem same_dg {a e : Nat} (h0 : smB (u a) = false) (hr : RunR u L a e) : ∀ j, a + j ≤ e → allB (fun c => smB c == smB (u a)) u a j = allB dgB u a j := by
  intro j
  induction j with
  | zero => intro _; rfl
  | succ j ih =>
    intro hj
    show (allB (fun c => smB c == smB (u a)) u a j && (smB (u (a + j)) == smB (u a))) = (allB dgB u a j && dgB (u (a + j)))
    rw [ih (by omega), h0]
    congr 1
    rcases hr.2.2.1 (a + j) (by omega) (by omega) with h | h
    · rw [h, sm_dg h]; rfl
    · rw [h]
      cases hs : smB (u (a + j))
      · rfl
      · rw [sm_dg hs] at h; exact absurd h (by decide)
theorem first_of {f : Nat → Bool} {a j : Nat} (hj : 0 < j) (h : allB f u a j = true) : f (u a) = true := by
  have := (allB_iff j).mp h 0 hj
  rwa [Nat.add_zero] at this
/-- the end of a run -/
theorem run_end {a e : Nat} {X0 X : XM} {a3 k v : Int32} {m : Nat} (hL : L ≤ 940) (hr : RunR u L a e) (hk : RecR u a e k v) (hI : RnI u L lm a (e - a) X0 a3 X) : ∃ X', f_X11_next_181 N (bI (smB (u a))) (m + 1) a3 X = some (0, X') ∧ NxF X0 X' ∧ X'.1 0 4 = nI e ∧ MtR k v (nI a) X' := by
  obtain ⟨hn, hT, h4, h12, h13, h3, hw, hd⟩ := hI
  have hae : a < e ∧ e ≤ L := ⟨hr.1, hr.2.1⟩
  rw [show a + (e - a) = e by omega] at h4
  have pk := peek_eq hT hL (by omega) h4
  have ends : ∀ {t : Int32}, f_X11_next_333 N t X = some (0, stX X 0 11 t) ∧ NxF X0 (stX X 0 11 t) ∧ (stX X 0 11 t).1 0 4 = nI e ∧ (stX X 0 11 t).1 0 12 = nI a := fun {t} => ⟨rfl, nxf_st hn (by omega), by rw [stX_ne (by omega)]; exact h4, by rw [stX_ne (by omega)]; exact h12⟩
  have s1 : f_X11_next_181 N (bI (smB (u a))) (m + 1) a3 X = if a3 = 0 then f_X11_next_333 N 4 X else if bI (smB (u a)) = 0 then f_X11_next_317 N (bI (smB (u a))) 3 (nI (e - a)) X else f_X11_next_317 N (bI (smB (u a))) 6 (nI (e - a)) X := by
    rw [f_X11_next_181]
    by_cases he : e < L
    · have hu := (hT.2.2 e (by omega)).1
      have hz : smB (u e) = false ∧ dgB (u e) = false := by
        rcases hr.2.2.2 with h | h
        · omega
        · exact h
      rw [if_pos he] at pk
      rw [pk, cal_some, isSmall_eq hu, cal_some, hz.1, if_pos (show bI false = (0 : Int32) from rfl), pk, cal_some, isDigit_eq hu, cal_some, hz.2, if_pos (show bI false = (0 : Int32) from rfl), h13]
      rfl
    · rw [if_neg he] at pk
      rw [pk, cal_some, isSmall_m, cal_some, if_pos rfl, pk, cal_some, isDigit_m, cal_some, if_pos rfl, h13]
      rfl
  rw [s1]
  have key : ∀ (t : Int32), (if a3 = 0 then f_X11_next_333 N 4 X else if bI (smB (u a)) = 0 then f_X11_next_317 N (bI (smB (u a))) 3 (nI (e - a)) X else f_X11_next_317 N (bI (smB (u a))) 6 (nI (e - a)) X) = f_X11_next_333 N t X → (((k = 1 ∧ t = 4) ∨ (∃ w, w < 24 ∧ k = 2 ∧ v = nI w ∧ t = 1 ∧ X.2 0 17 = resV w) ∨ (k = 3 ∧ t = 1 ∧ NmR v (X.2 0 17) ∧ ∀ w, w < 24 → X.2 0 17 ≠ resV w) ∨ (∃ z, z ≤ 999 ∧ k = 4 ∧ v = nI z ∧ t = 2 ∧ X.1 0 14 = nI z))) → ∃ X', (if a3 = 0 then f_X11_next_333 N 4 X else if bI (smB (u a)) = 0 then f_X11_next_317 N (bI (smB (u a))) 3 (nI (e - a)) X else f_X11_next_317 N (bI (smB (u a))) 6 (nI (e - a)) X) = some (0, X') ∧ NxF X0 X' ∧ X'.1 0 4 = nI e ∧ MtR k v (nI a) X' := by
    intro t ht hm
    obtain ⟨a1, a2, a3', a4⟩ := @ends t
    refine ⟨stX X 0 11 t, ht.trans a1, a2, a3', a4, ?_⟩
    have e14 : (stX X 0 11 t).1 0 14 = X.1 0 14 := stX_ne (by omega)
    rw [stX_at, e14]
    rcases hm with ⟨h1, h2⟩ | ⟨w, h1, h2, h3, h4, h5⟩ | ⟨h1, h2, h3, h4⟩ | ⟨z, h1, h2, h3, h4, h5⟩
    · exact Or.inr (Or.inl ⟨h1, h2⟩)
    · exact Or.inr (Or.inr (Or.inl ⟨w, h1, h2, h3, h4, h5⟩))
    · exact Or.inr (Or.inr (Or.inr (Or.inl ⟨h1, h2, h3, h4⟩)))
    · exact Or.inr (Or.inr (Or.inr (Or.inr (Or.inl ⟨z, h1, h2, h3, h4, h5⟩))))
  rcases hk with ⟨h1, h2, h5⟩ | ⟨h1, h2, h5, h6⟩ | ⟨h1, h2, h5⟩
  · have hf := first_of (f := smB) (by omega) h1
    rw [same_sm hf, h1] at h3
    have hx := hw h1 h2
    have hmem := lsT_mem ((allB_iff _).mp h1)
    have hlen := lsT_len u a (e - a)
    refine key 1 ?_ ?_
    · rw [h3, hf, if_neg (by decide), if_neg (by decide)]
      unfold f_X11_next_317
      simp (disch := omega) only [le_nl]
      rw [if_pos h2, if_neg (by decide)]
    · rcases h5 with ⟨w, w1, w2, w3, w4⟩ | ⟨w1, w2, w3⟩
      · exact Or.inr (Or.inl ⟨w, w1, w3, w4, rfl, by rw [hx, w2]; exact (wdL_ok w w1).2.2.symm⟩)
      · refine Or.inr (Or.inr (Or.inl ⟨w2, rfl, ⟨lsT u a (e - a), by omega, hmem, w3, hx⟩, fun w hw' he => ?_⟩))
        obtain ⟨q1, q2, q3⟩ := wdL_ok w hw'
        rw [hx, q3] at he
        exact w1 w hw' ((nm_eq (by omega) q1 hmem q2).2.mp he)
  · have hf0 := first_of (f := dgB) (by omega) h1
    have hf : smB (u a) = false := by
      cases h : smB (u a)
      · rfl
      · rw [sm_dg h] at hf0; exact absurd hf0 (by decide)
    rw [same_dg hf hr _ (by omega), h1] at h3
    have hlt := dcT_lt _ h1
    have hp : 10 ^ (e - a) ≤ 10 ^ 3 := Nat.pow_le_pow_right (by omega) h2
    refine key 2 ?_ (Or.inr (Or.inr (Or.inr ⟨dcT u a (e - a), by omega, h5, h6, rfl, hd h1 h2⟩)))
    rw [h3, hf, if_neg (by decide), if_pos (show bI false = (0 : Int32) from rfl)]
    unfold f_X11_next_317
    simp (disch := omega) only [le_nl]
    rw [if_pos h2, if_pos (show bI false = (0 : Int32) from rfl)]
  · refine key 4 ?_ (Or.inl ⟨h5, rfl⟩)
    cases hf : smB (u a)
    · rw [same_dg hf hr _ (by omega)] at h3
      rw [if_pos (show bI false = (0 : Int32) from rfl)]
      unfold f_X11_next_317 f_X11_next_320
      simp (disch := omega) only [le_nl]
      cases hq : allB dgB u a (e - a)
      · rw [h3, hq, if_pos (show bI false = (0 : Int32) from rfl)]
      · rw [h3, hq, if_neg (by decide), if_neg (fun h => h2 ⟨hq, h⟩)]
    · rw [same_sm hf] at h3
      rw [if_neg (show ¬ bI true = (0 : Int32) by decide)]
      unfold f_X11_next_317 f_X11_next_320
      simp (disch := omega) only [le_nl]
      cases hq : allB smB u a (e - a)
      · rw [h3, hq, if_pos (show bI false = (0 : Int32) from rfl)]
      · rw [h3, hq, if_neg (by decide), if_neg (fun h => h1 ⟨hq, h⟩)]
theorem tok_run {a e : Nat} {k v : Int32} (hN : 2000 ≤ N) (hL : L ≤ 940) (hlm : lm ≤ 940) (hpl : L ≤ lm ∨ a < lm) (hr : RunR u L a e) (hk : RecR u a e k v) : TokAt N u L lm a e k v (nI a) := by
  intro X fu hT h4 hf
  have hae : a < e ∧ e ≤ L := ⟨hr.1, hr.2.1⟩
  obtain ⟨m, rfl⟩ : ∃ m, fu = m + 1 := ⟨fu - 1, by omega⟩
  have hu := (hT.2.2 a (by omega)).1
  have hc := hr.2.2.1 a (by omega) (by omega)
  have hn : NxF X (stX (stX X 0 12 (nI a)) 0 13 0) := nxf_st (nxf_st (NxF.rf X) (by omega)) (by omega)
  have hs : u a ≠ 32 ∧ u a ≠ 10 := by
    rcases hc with h | h
    · have := sm_iff.mp h; omega
    · have := dg_iff.mp h; omega
  have e4 : (stX (stX X 0 12 (nI a)) 0 13 0).1 0 4 = nI a := by rw [stX_ne (by omega), stX_ne (by omega)]; exact h4
  have pk := peek_eq (p := a) (tpx_nx hT hn) hL (by omega) e4
  rw [if_pos (by omega)] at pk
  have h80 : f_X11_next_0 N (m + 1) X = f_X11_next_80 N (stX (stX X 0 12 (nI a)) 0 13 0) := by
    rw [tok_hd hL (by omega) (Or.inr hs) hT h4]
    simp (disch := omega) only [le_nn, lt_nn]
    by_cases h : L ≤ lm
    · rw [if_pos h]
    · rw [if_neg h, if_pos (by omega)]
  have h164 : f_X11_next_0 N (m + 1) X = f_X11_next_181 N (bI (smB (u a))) N 1 (stX (stL (stX (stX X 0 12 (nI a)) 0 13 0) 0 17 0) 0 14 0) := by
    rw [h80]
    have q : f_X11_next_164 N (nI (u a)) (stX (stX X 0 12 (nI a)) 0 13 0) = f_X11_next_181 N (bI (smB (u a))) N 1 (stX (stL (stX (stX X 0 12 (nI a)) 0 13 0) 0 17 0) 0 14 0) := by
      unfold f_X11_next_164
      rw [isSmall_eq hu, cal_some]
      rfl
    unfold f_X11_next_80
    rw [pk, cal_some, if_pos (nI_pos' (by omega)), isSmall_eq hu, cal_some]
    cases hb : smB (u a)
    · rw [if_pos (show bI false = (0 : Int32) from rfl), isDigit_eq hu, cal_some]
      rw [hb] at hc
      have hd : dgB (u a) = true := by
        rcases hc with h | h
        · exact absurd h (by decide)
        · exact h
      rw [hd, if_neg (show ¬ bI true = (0 : Int32) by decide), q, hb]
    · rw [if_neg (show ¬ bI true = (0 : Int32) by decide), q, hb]
  rw [h164]
  have hnB : NxF X (stX (stL (stX (stX X 0 12 (nI a)) 0 13 0) 0 17 0) 0 14 0) := nxf_st (nxf_L hn) (by omega)
  refine loop1 (fun m i (q : Int32 × XM) => f_X11_next_181 N (bI (smB (u a))) m q.1 q.2) (fun j q => RnI u L lm a j X q.1 q.2)
    (fun y => ∃ X', y = some (0, X') ∧ NxF X X' ∧ X'.1 0 4 = nI e ∧ MtR k v (nI a) X') (e - a) ?_ ?_ (e - a) 0 N (1, stX (stL (stX (stX X 0 12 (nI a)) 0 13 0) 0 17 0) 0 14 0) (by omega) (by omega) ?_
  · rintro m j ⟨a3, Y⟩ hj hI
    left
    dsimp only at hI ⊢
    have hx := hr.2.2.1 (a + j) (by omega) (by omega)
    have pkj := peek_eq (p := a + j) hI.2.1 hL (by omega) hI.2.2.1
    rw [if_pos (by omega)] at pkj
    have hu := (hI.2.1.2.2 (a + j) (by omega)).1
    obtain ⟨b3, X', e1, e2⟩ := run_step (N := N) (fun z3 c => f_X11_next_181 N (bI (smB (u a))) m z3 c) hL (by omega) hI
    refine ⟨(b3, X'), ?_, e2⟩
    dsimp only
    rw [f_X11_next_181, pkj, cal_some, isSmall_eq hu, cal_some]
    cases hb : smB (u (a + j))
    · rw [hb] at hx
      have hd : dgB (u (a + j)) = true := by
        rcases hx with h | h
        · exact absurd h (by decide)
        · exact h
      rw [if_pos (show bI false = (0 : Int32) from rfl), pkj, cal_some, isDigit_eq hu, cal_some, hd, if_neg (show ¬ bI true = (0 : Int32) by decide)]
      exact e1
    · rw [if_neg (show ¬ bI true = (0 : Int32) by decide)]
      exact e1
  · rintro m ⟨a3, Y⟩ hI
    exact run_end hL hr hk hI
  · refine ⟨hnB, tpx_nx hT hnB, ?_, ?_, ?_, rfl, fun _ _ => rfl, fun _ _ => stX_at⟩
    · rw [stX_ne (by omega)]; exact e4
    · rw [stX_ne (by omega)]
      show (stX (stX X 0 12 (nI a)) 0 13 0).1 0 12 = _
      rw [stX_ne (by omega), stX_at]
    · rw [stX_ne (by omega)]
      show (stX (stX X 0 12 (nI a)) 0 13 0).1 0 13 = _
      rw [stX_at]
      rfl
end RUN2
