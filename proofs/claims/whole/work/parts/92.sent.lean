/-! Sentences: rows of and, rows of or. -/
section SENT5
variable {N : Nat}
/-- the next word, as the class asks it -/
theorem word_is {C : CM} {X : XM} {i w : Nat} (h : PsR N C X i) (hw : w < 24) : (∃ v, f_X7_nextWord C = some (v, C) ∧ (v = nI w ↔ (C.1 1 0 1 i = 2 ∧ C.1 1 0 2 i = nI w))) := by
  refine ⟨_, ps_word h, ?_⟩
  by_cases e : C.1 1 0 1 i = 2
  · rw [if_pos e]
    exact ⟨fun q => ⟨e, q⟩, fun q => q.2⟩
  · rw [if_neg e]
    refine ⟨fun q => ?_, fun q => absurd q.1 e⟩
    exact absurd (show nI w < (0 : Int32) by rw [← q]; decide) (nI_nneg (by omega))
theorem fs_fa {r : Nat} {C C' : CM} {X : XM} (h : FaR C X) (h1 : C'.1 1 0 = C.1 1 0) (hf : FsC r C') : FaR C' X := ⟨hf.1, by rw [h1]; exact h.2.1, by rw [h1]; exact h.2.2⟩
theorem all_loop {F : Int32 → CM → Option (Int32 × CM)} {r o K h d fu : Nat} {C : CM} {X : XM} {cd : Nat → Nat} (hN : 2000 ≤ N) (hF : OneP N r F d) (hh : h + 2 ≤ 3 * d) (hK : K ≤ 2 * o) (hb : h = 0 ∨ (X.1 15 (h - 1) ≠ 10 ∧ X.1 15 (h - 1) ≠ 11)) :
    ∀ (dd t : Nat), t + dd = 20 → ∀ (C1 : CM) (X1 : XM) (i1 o1 KX1 m1 j1 : Nat) (cd1 : Nat → Nat) (fu1 n : Nat), f_X11_sentence_48 N fu 1 X = f_X11_sentence_48 N fu1 1 X1 → 2000 ≤ fu1 + i1 → SnI N r C1 X1 i1 o1 (KX1 + m1) KX1 (h + m1) (d + j1) 1 cd1 → PdR X1 h KX1 m1 cd1 → A2 KX1 m1 j1 cd1 → j1 ≤ m1 → (∀ x, x < j1 → cd1 (KX1 + x) = 10) → (∀ y, y < h → X1.1 15 y = X.1 15 y) → KX1 + m1 + 1 + 2 * o ≤ K + 2 * o1 → o + 1 + t ≤ o1 → dpS cd1 (KX1 + m1) = dpS cd K + 1 → h + m1 ≤ 40 → d + j1 ≤ 9 → FS6 r C C1 → GS X X1 → dd < n → SPost N r A2 W2 C X o K h d cd fu (f_X5_readAll_8 N r F (nI d) n (nI t) C1) := by
  intro dd
  induction dd with
  | zero =>
    intro t ht C1 X1 i1 o1 KX1 m1 j1 cd1 fu1 n h1 h2 h3 h4 h5 h6 h7 h8 h9 h10 h11 h12 h13 h14 h15 hn
    have := h3.2.1.2.1
    omega
  | succ dd ih =>
    intro t ht C1 X1 i1 o1 KX1 m1 j1 cd1 fu1 n h1 h2 h3 h4 h5 h6 h7 h8 h9 h10 h11 h12 h13 h14 h15 hn
    have o20 := h3.2.1.2.1
    obtain ⟨n', rfl⟩ : ∃ n', n = n' + 1 := ⟨n - 1, by omega⟩
    have i940 := ps_i h3.1
    obtain ⟨f1, rfl⟩ : ∃ f1, fu1 = f1 + 1 := ⟨fu1 - 1, by omega⟩
    have hb1 : h = 0 ∨ (X1.1 15 (h - 1) ≠ 10 ∧ X1.1 15 (h - 1) ≠ 11) := by
      by_cases e : h = 0
      · exact Or.inl e
      · rw [h8 (h - 1) (by omega)]; exact hb
    rw [f_X5_readAll_8]
    simp (disch := omega) only [le_ln]
    rw [if_neg (by omega), ps_sound h3.1, cal_some, if_neg (show ¬ (1 : Int32) = 0 by decide)]
    obtain ⟨v, w1, w2⟩ := word_is (w := 16) h3.1 (by omega)
    rw [w1, cal_some]
    by_cases e : v = 16
    · have hv := w2.mp e
      rw [if_pos e, ps_take h3.1, cal_some]
      obtain ⟨X2, q1, q2, q3, q4, q5⟩ := join_step (f := f1) (c := 11) hN (Or.inl rfl) h3 h4 h6 h7 (fun x a b => Or.inl (h5.2 x a b)) (by
        rcases hb1 with q | q
        · exact Or.inl q
        · exact Or.inr ⟨q.1, q.2, fun _ => by decide⟩) h12 h13 hv.1 hv.2
      rcases hF (nxC C1 i1) X2 (i1 + 1) o1 (KX1 + m1) (h + 1) cd1 f1 q2 (by omega) (by omega) (by omega) with ⟨C3, X3, i3, o3, KX3, m3, j3, cd3, fu3, p1, p2, p3, p4, p5, p6, p7, p8, p9, p10, p11, p12, p13, p14, p15, p16⟩ | ⟨C3, X3, p1, p2, p3, p4, p5, p6⟩
      · have hmj : m3 = j3 := p6.1
        subst hmj
        have o20' := p4.2.1.2.1
        rw [p1, cal_some]
        obtain ⟨a1, a2⟩ := sn_add (c := 11) p4 (by omega) (by omega) (by omega) (by omega)
        have a1' : f_X5_add r 16 0 0 C3 = some (0, adS C3 r (KX3 + m3) (nI (cdW 11)) 0 0) := a1
        rw [a1', cal_some, nI_al]
        have t15 : X3.1 15 h = nI 11 := by rw [p9 h (by omega)]; exact q4
        have hcd : ∀ x, x < m3 → upC cd3 (KX3 + m3) 11 (KX3 + x) = cd3 (KX3 + x) := fun x hx => upC_lt (by omega)
        refine ih (t + 1) (by omega) _ X3 i3 o3 KX3 (m3 + 1) m3 (upC cd3 (KX3 + m3) 11) fu3 n' ((h1.trans q1).trans p2) p3 ?_ (pd_add p5 t15) ⟨by omega, fun x a b => ?_⟩ (by omega) (fun x hx => ?_) (fun y hy => ?_) (by omega) (by omega) ?_ (by omega) (by omega) ((h14.trans (fs_f1 nx_f1)).trans (p15.trans ad_fs)) ((h15.trans q5).trans p16) (by omega)
        · rw [show h + (m3 + 1) = h + 1 + m3 by omega]
          exact a2
        · have : x = m3 := by omega
          subst this
          exact upC_at
        · rw [hcd x hx]; exact p8 x hx
        · rw [p9 y (by omega), q3 y hy]; exact h8 y hy
        · show dpS (upC cd3 (KX3 + m3) 11) (KX3 + m3 + 1) = _
          rw [dpS_n, if_neg (by omega), if_pos (Or.inl rfl), p12, h11]
          omega
      · rw [p1, cal_some]
        obtain ⟨C4, c1, c2, c3, c4⟩ := fs_add 16 0 0 p4
        obtain ⟨n'', rfl⟩ : ∃ n'', n' = n'' + 1 := ⟨n' - 1, by omega⟩
        rw [c1, cal_some, nI_al, f_X5_readAll_8, fa_sound c2.1, cal_some, if_pos rfl]
        have : (if (20 : Int32) ≤ nI (t + 1) then rt 0 C4 else rt 0 C4) = some (0, C4) := by
          by_cases q : (20 : Int32) ≤ nI (t + 1)
          · rw [if_pos q]; rfl
          · rw [if_neg q]; rfl
        refine Or.inr ⟨C4, X3, this, (h1.trans q1).trans p2, fs_fa p3 c3 c2, c2, ((h14.trans (fs_f1 nx_f1)).trans p5).trans c4, (h15.trans q5).trans p6⟩
    · rw [if_neg e]
      exact Or.inl ⟨C1, X1, i1, o1, KX1, m1, j1, cd1, f1 + 1, rfl, h1, h2, h3, h4, ⟨h5, fun q => e (w2.mpr q)⟩, h6, h7, h8, h9, by omega, h11, h12, h13, h14, h15⟩
theorem all_of {F : Int32 → CM → Option (Int32 × CM)} {r d : Nat} (hN : 2000 ≤ N) (hF : OneP N r F d) : AllP N r F d := by
  intro C X i o K h cd fu hS hh hK hf hb
  unfold f_X5_readAll
  rcases hF C X i o K h cd fu hS (by omega) hK hf with ⟨C3, X3, i3, o3, KX3, m3, j3, cd3, fu3, p1, p2, p3, p4, p5, p6, p7, p8, p9, p10, p11, p12, p13, p14, p15, p16⟩ | ⟨C3, X3, p1, p2, p3, p4, p5, p6⟩
  · have hmj : m3 = j3 := p6.1
    rw [p1, cal_some]
    exact all_loop hN hF hh hK hb 20 0 (by omega) C3 X3 i3 o3 KX3 m3 j3 cd3 fu3 N p2 p3 p4 p5 ⟨by omega, fun x a b => by omega⟩ p7 p8 p9 p10 (by omega) p12 p13 p14 p15 p16 (by omega)
  · obtain ⟨n, hn⟩ : ∃ n, N = n + 1 := ⟨N - 1, by omega⟩
    have h8 : ∀ z, z = n + 1 → f_X5_readAll_8 N r F (nI d) z 0 C3 = some (0, C3) := fun z hz => by
      subst hz
      rw [f_X5_readAll_8, fa_sound p4.1, cal_some, if_pos rfl, if_neg (by decide)]
      rfl
    rw [p1, cal_some, h8 N hn]
    exact Or.inr ⟨C3, X3, rfl, p2, p3, p4, p5, p6⟩
end SENT5
