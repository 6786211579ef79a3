/-! The game of fences does not see plan and sentence; how a reading begins. -/
section GAME
variable {N : Nat}
theorem cnR_lt {m : Nat} {wv : Nat → Nat → Int32} {s t : Nat} (h : s < t) (hs : RsP m wv s) : cnR m wv s < cnR m wv t := by
  have h1 : cnR m wv (s + 1) = cnR m wv s + 1 := by rw [cnR_s, tB_t hs]; rfl
  have h3 : ∀ d, cnR m wv (s + 1) ≤ cnR m wv (s + 1 + d) := by
    intro d
    induction d with
    | zero => exact Nat.le_refl _
    | succ d ih =>
      have := cnR_s m wv (s + 1 + d)
      have e3 : s + 1 + (d + 1) = s + 1 + d + 1 := rfl
      rw [e3]
      omega
  have := h3 (t - (s + 1))
  rw [show s + 1 + (t - (s + 1)) = t by omega] at this
  omega
theorem rests_same {n : BN} {C : CM} {X Y : XM} (hN : 2000 ≤ N) (hX : HereB C X n) (hY : HereB C Y n) (hb : C.2 2 0 1 < 4) (h55 : ∀ o, o < 8 → Y.1 2 (55 + o) = X.1 2 (55 + o)) (a : Int32) : ∃ r Z Z', f_X11_rests N a X = some (r, Z) ∧ f_X11_rests N a Y = some (r, Z') ∧ XE Y Z' := by
  obtain ⟨m, hm, hm1, hm2⟩ := plots_bits (D := C) (Y := X) hN hX hb
  obtain ⟨m', hm', hm1', hm2'⟩ := plots_bits (D := C) (Y := Y) hN hY hb
  have em : m = m' := by
    have e := (hm2 C X (FT.rf C) rfl).1.symm.trans (hm2' C Y (FT.rf C) rfl).1
    have e := (Prod.mk.inj (Option.some.inj e)).1
    rwa [eq_nn (by omega) (by omega)] at e
  subst em
  have hPX : PlR n C X m := hm1
  have hPY : PlR n C Y m := hm1'
  obtain ⟨Z, z1, z2⟩ := restsX hN hX hm hPX (fun W hW => (hm2 C W (FT.rf C) hW).2) (set_val hN hX hb hPX) a
  obtain ⟨Z', z1', z2'⟩ := restsX hN hY hm hPY (fun W hW => (hm2' C W (FT.rf C) hW).2) (set_val hN hY hb hPY) a
  have nn : ∀ k, k < 2147483648 → ¬ nI k < (-1 : Int32) := fun k hk h => nI_nneg hk (Int32.lt_trans h (by decide))
  have nm : ∀ k, k < 2147483648 → nI k ≠ (-1 : Int32) := fun k hk e => nI_nneg hk (by rw [e]; decide)
  rcases z2 with ⟨h1, h2⟩ | ⟨h1, h2⟩ | ⟨k, s, rfl, hk, hs, hRs, hks, h2⟩ | ⟨k, rfl, hk, hne, h2⟩ <;>
  rcases z2' with ⟨h1', h2'⟩ | ⟨h1', h2'⟩ | ⟨k', s', e', hk', hs', hRs', hks', h2'⟩ | ⟨k', e', hk', hne', h2'⟩
  · exact ⟨_, Z, Z', h2, h2', z1'⟩
  · rw [h1'] at h1; exact absurd h1 (by decide)
  · rw [e'] at h1; exact absurd h1 (nn k' hk')
  · rw [e'] at h1; exact absurd h1 (nn k' hk')
  · rw [h1] at h1'; exact absurd h1' (by decide)
  · exact ⟨_, Z, Z', h2, h2', z1'⟩
  · exact absurd (e'.symm.trans h1) (nm k' hk')
  · exact absurd (e'.symm.trans h1) (nm k' hk')
  · exact absurd h1' (nn k hk)
  · exact absurd h1' (nm k hk)
  · rw [eq_nn (by omega) (by omega)] at e'
    have es : s = s' := by
      by_cases h : s < s'
      · have := cnR_lt h hRs; omega
      · by_cases h' : s' < s
        · have := cnR_lt h' hRs'; omega
        · omega
    subst es
    exact ⟨_, Z, Z', h2, h2', z1'⟩
  · rw [eq_nn (by omega) (by omega)] at e'
    exact absurd (by rw [hks, e']) (hne' s hs hRs)
  · exact absurd h1' (nn k hk)
  · exact absurd h1' (nm k hk)
  · rw [eq_nn (by omega) (by omega)] at e'
    exact absurd (by rw [hks', ← e']) (hne s' hs' hRs')
  · exact ⟨_, Z, Z', h2, h2', z1'⟩
/-- a new plan or sentence: the game stays known -/
theorem game_new {n : BN} {C C' : CM} {X X' : XM} (hN : 2000 ≤ N) (hX : HereB C X n) (hX' : HereB C X' n) (hb : C.2 2 0 1 < 4) (h55 : ∀ o, o < 8 → X'.1 2 (55 + o) = X.1 2 (55 + o)) (hn : ∀ x, x < 8 → X'.2 5 x = X.2 5 x) (h9 : C'.1 9 = C.1 9) (hG : GameR N C X) : GameR N C' X' := by
  obtain ⟨hc, hg⟩ := hG
  refine ⟨by rw [h9]; exact hc, fun a Y hY hYn => ?_⟩
  have hHo : HereB C ((fun j => if j = 2 then X.1 2 else Y.1 j, Y.2) : XM) n := hX
  have hHn : HereB C Y n := by
    unfold HereB
    rw [hY]
    exact hX'
  obtain ⟨Y', y1, -⟩ := hg a ((fun j => if j = 2 then X.1 2 else Y.1 j, Y.2) : XM) rfl (fun x hx => (hYn x hx).trans (hn x hx))
  obtain ⟨r, Z, Z', q1, q2, q3⟩ := rests_same hN hHo hHn hb (fun o ho => by rw [hY]; exact h55 o ho) a
  rw [y1] at q1
  have e := (Prod.mk.inj (Option.some.inj q1)).1
  refine ⟨Z', ?_, q3⟩
  rw [q2, ← e, h9]
/-- split and taken -/
theorem start_rel {C : CM} {X : XM} {lm : Nat} (hN : 2000 ≤ N) (hlm : lm ≤ 940) (hR : Rel N C X) : ∃ C1 X1, f_X10_splitTape N (nI lm) C = some (0, C1) ∧ f_X11_taken (nI lm) X = some (0, X1) ∧ Rel N C1 X1 ∧ SameC C C1 ∧ X1.2 = X.2 ∧ (∀ j, j ≠ 0 → X1.1 j = X.1 j) ∧ (∀ Y, Y.1 1 = X1.1 1 → (∀ x, x = 3 ∨ x = 4 ∨ x = 5 → Y.1 0 x = X1.1 0 x) → Y.1 0 15 = 0 → ∃ Y', f_X11_next N Y = some (0, Y') ∧ NxF Y Y' ∧ PsR N C1 Y' 0) := by
  obtain ⟨L, X1, hL, l1, t1, hR1, x3, x2, x4, x5, xf, xr, xn, u, hu⟩ := taken_rel (nI lm) hR
  have hT : TpC u C := fun x hx => ⟨(hu x hx).1, (hu x hx).2.1⟩
  obtain ⟨C', t', P', s1, s2, s4, s5, s6, s7, ⟨s8, s9, s10⟩, s11⟩ := split_eq (lm := lm) hN hL hlm hT
  have hce : CE (stC C 0 0 0 1 0) (stC C' 0 0 0 1 0) := by
    refine ⟨s2.1, fun k i j x hs => ?_⟩
    have hk : k ≠ 1 := fun e => by subst e; cases hs
    simp only [stC]
    rw [s2.2 k hk]
  refine ⟨stC C' 0 0 0 1 0, X1, ?_, t1, rel_ce hR1 hce, ?_, xn, xr, fun Y y1 yf y15 => ?_⟩
  · unfold f_X10_splitTape
    rw [l1, s1, cal_some]
    rfl
  · refine ⟨s2.1, fun k i j x hk hs => ?_⟩
    have hk1 : k ≠ 1 := fun e => by subst e; cases hs
    rw [stC_ob hk, s2.2 k hk1]
  · have hTp : TpX u L lm Y := by
      refine ⟨?_, ?_, fun x hx => ?_⟩
      · rw [yf 3 (by omega)]; exact x3
      · rw [yf 5 (by omega)]; exact x5
      · rw [y1, xr 1 (by omega)]; exact ⟨(hu x hx).1, (hu x hx).2.2⟩
    obtain ⟨Y', a1, a2, a3, a4⟩ := s10 0 (by omega) Y N hTp (by rw [yf 4 (by omega), x4, s9]; rfl) (by omega)
    have e1 : (stC C' 0 0 0 1 0).1 1 0 = C'.1 1 0 := stC_ob (by omega)
    refine ⟨Y', a1, a2, u, L, lm, t', P', by omega, by omega, ?_, ?_, ?_, ?_, ?_, tpx_nx hTp a2, a3, ?_⟩
    · rw [e1]; exact s8
    · rw [e1]; exact s4
    · rw [e1]; exact s5
    · rw [e1]; exact fun j hj => s10 j (by omega)
    · rw [e1]; exact s11
    · rw [e1, a2.2.1 15 (by omega) (by omega) (by omega) (by omega) (by omega)]; exact ⟨y15, a4⟩
end GAME
