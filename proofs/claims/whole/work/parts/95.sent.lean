/-! sentence() -/
section SENT8
variable {N : Nat}
theorem one_all {r : Nat} (hN : 2000 ≤ N) : ∀ (n d : Nat), 1 ≤ d → d ≤ 9 → 10 ≤ n + d → OneP N r (f_X5_One N r n) d := by
  intro n
  induction n with
  | zero => intro d _ h9 h10; omega
  | succ n ih =>
    intro d h1 h9 h10
    have := one_step (F := f_X5_One N r n) (r := r) hN h1 h9 (fun h8 => ih (d + 1) (by omega) (by omega) (by omega))
    exact this
theorem sent146_eq {K o : Nat} {X : XM} (hN : 2000 ≤ N) (hK : K ≤ 40) (h : X.1 0 45 = nI K) (h46 : X.1 0 46 = nI o) : ∃ X', f_X11_sentence_146 N N 0 X = some (nI o, X') ∧ X'.2 = X.2 ∧ (∀ j, j ≠ 2 → X'.1 j = X.1 j) ∧ ∀ x, X'.1 2 x = if 665 ≤ x ∧ x < 665 + 3 * K then X.1 4 (x - 665) else X.1 2 x := by
  refine loop1 (fun m i (Y : XM) => f_X11_sentence_146 N m i Y) (fun y Y => Y.2 = X.2 ∧ (∀ j, j ≠ 2 → Y.1 j = X.1 j) ∧ ∀ x, Y.1 2 x = if 665 ≤ x ∧ x < 665 + y then X.1 4 (x - 665) else X.1 2 x)
    (fun z => ∃ X', z = some (nI o, X') ∧ X'.2 = X.2 ∧ (∀ j, j ≠ 2 → X'.1 j = X.1 j) ∧ ∀ x, X'.1 2 x = if 665 ≤ x ∧ x < 665 + 3 * K then X.1 4 (x - 665) else X.1 2 x) (3 * K) ?_ ?_ (3 * K) 0 N X (by omega) (by omega) ⟨rfl, fun _ _ => rfl, fun x => by rw [if_neg (by omega)]⟩
  · intro m y Y hy ⟨y1, y2, y3⟩
    left
    have e45 : Y.1 0 45 = nI K := by rw [y2 0 (by omega)]; exact h
    refine ⟨stX Y 2 (665 + y) (X.1 4 y), ?_, y1, fun j hj => (stX_row hj).trans (y2 j hj), fun x => ?_⟩
    · rw [f_X11_sentence_146, e45]
      simp (disch := omega) only [nI_lm, nI_la, le_nn, if_neg, ldA_nI, sxA_nI, nI_al]
      rw [y2 4 (by omega)]
    · by_cases e : x = 665 + y
      · subst e
        rw [stX_at, if_pos (by omega), show 665 + y - 665 = y by omega]
      · rw [stX_ne e, y3]
        by_cases q : 665 ≤ x ∧ x < 665 + y
        · rw [if_pos q, if_pos (by omega)]
        · rw [if_neg q, if_neg (by omega)]
  · intro m Y ⟨y1, y2, y3⟩
    have e45 : Y.1 0 45 = nI K := by rw [y2 0 (by omega)]; exact h
    have e46 : Y.1 0 46 = nI o := by rw [y2 0 (by omega)]; exact h46
    refine ⟨Y, ?_, y1, y2, y3⟩
    rw [f_X11_sentence_146, e45, e46]
    simp (disch := omega) only [nI_lm, le_nn, Nat.le_refl, if_true, rt]
/-- how the reading ends -/
def SnE (N r : Nat) (C0 : CM) (X0 : XM) (y : Option (Int32 × CM)) (y' : Option (Int32 × XM)) : Prop :=
  (∃ (K o : Nat) (cd : Nat → Nat) (C' : CM) (X' : XM), y = some (0, C') ∧ y' = sxA X' 2 845 664 (X'.1 0 45) (fun X2 => f_X11_sentence_146 N N 0 X2) ∧ C'.1 1 0 0 5 = 0 ∧ X'.1 0 15 = 0 ∧ CoR r C' K cd o ∧ CxR r C' X' K cd ∧ X'.1 0 45 = nI K ∧ X'.1 0 46 = nI o ∧ K ≤ 40 ∧ 1 ≤ o ∧ dpS cd K = 1 ∧ FS6 r C0 C' ∧ GS X0 X') ∨
  (∃ (C' : CM) (X' : XM), y = some (0, C') ∧ y' = some (-1 - X'.1 0 16, X') ∧ FaR C' X' ∧ FS6 r C0 C' ∧ GS X0 X')
theorem sent_read {r : Nat} {C0 C : CM} {X0 X : XM} {cd : Nat → Nat} (hN : 2000 ≤ N) (hS : SnI N r C X 0 0 0 0 0 1 0 cd) (hF : FS6 r C0 C) (hG : GS X0 X) : SnE N r C0 X0 (cal (f_X5_readCond N r (f_X5_One N r 10) 1 C) (fun v3 C4 => cal (f_X7_goesOn C4) (fun v5 C6 => (if v5 = 0 then (rt 0 C6) else cal (f_X7_blameNext 1 C6) (fun v8 C9 => (rt 0 C9)))))) (f_X11_sentence_48 N N 1 X) := by
  rcases cond_of hN (all_of hN (one_all (r := r) hN 10 1 (by omega) (by omega) (by omega))) C X 0 0 0 0 cd N hS (by omega) (by omega) (by omega) (Or.inl rfl) with ⟨C3, X3, i3, o3, KX3, m3, j3, cd3, fu3, p1, p2, p3, p4, p5, p6, p7, p8, p9, p10, p11, p12, p13, p14, p15, p16⟩ | ⟨C3, X3, p1, p2, p3, p4, p5, p6⟩
  · have p1' : f_X5_readCond N r (f_X5_One N r 10) 1 C = some (0, C3) := p1
    have i3' := ps_i p4.1
    obtain ⟨f3, rfl⟩ : ∃ f3, fu3 = f3 + 2 := ⟨fu3 - 2, by omega⟩
    obtain ⟨Y1, Y2, q1, q2, q3, q4, q5, q6⟩ := behind_end hN p4 p5 p6.1 p6.2 p7 p8 (Or.inl rfl) p13 p14
    obtain ⟨t1, t2, t3, t4, t5, t6, t7, t8, t9, t10⟩ := id q3
    rw [p1', cal_some, p2]
    rcases ps_goes p4.1 with ⟨g1, g2⟩ | ⟨g1, g2⟩
    · rw [g2, cal_some, if_pos rfl]
      have h49 : ¬ X3.1 0 49 = 0 := by rw [p4.2.2.2.2.2.2.1]; decide
      refine Or.inl ⟨KX3 + m3, o3, cd3, C3, Y2, rfl, ?_, ps_5 t1, ps_15 t1, t2, t8, t3, t4, t10, by omega, p12, hF.trans p15, (hG.trans p16).trans q5⟩
      rw [f_X11_sentence_48, if_neg (show ¬ (1 : Int32) = 0 by decide), if_neg h49, if_pos g1, q1, cal_some, q2, cal_some, t5, if_pos (by decide), f_X11_sentence_48, if_pos rfl]
    · have hfa := bl_fa t1 (show (1 : Int32) ≠ 0 by decide)
      rw [g2, cal_some, if_neg (show ¬ (1 : Int32) = 0 by decide), ps_blame p4.1, cal_some, s_one p4.2.2.2.2.2.2.1 g1, q6]
      have e : (if C3.1 1 0 1 i3 = 5 ∧ C3.1 1 0 2 i3 = 41 then (if nI 0 = (0 : Int32) then some ((0 : Int32), bdX Y2 1) else cal (f_X11_next N (stX (stX Y2 0 47 (nI 0 - 1)) 0 48 (nI 1 - 1))) (fun v17 X18 => rt 1 X18)) else some (0, bdX Y2 1)) = some (0, bdX Y2 1) := by
        by_cases ec : C3.1 1 0 1 i3 = 5 ∧ C3.1 1 0 2 i3 = 41
        · rw [if_pos ec, if_pos (show nI 0 = (0 : Int32) from rfl)]
        · rw [if_neg ec]
      rw [e, cal_some, if_pos rfl]
      exact Or.inr ⟨_, bdX Y2 1, rfl, rfl, hfa.1, (hF.trans p15).trans (fs_f1 bl_f1), ((hG.trans p16).trans q5).trans (gs_bd bd_bdf)⟩
  · have p1' : f_X5_readCond N r (f_X5_One N r 10) 1 C = some (0, C3) := p1
    rw [p1', cal_some, fa_goes p4.1, cal_some, if_pos rfl, p2]
    exact Or.inr ⟨C3, X3, rfl, rfl, p3, hF.trans p5, hG.trans p6⟩
end SENT8
