/-! Sentences: codes and the stack. -/
section SENT
variable {N : Nat}
theorem dpS_c {cd cd' : Nat → Nat} : ∀ {K : Nat}, (∀ x, x < K → cd' x = cd x) → dpS cd' K = dpS cd K := by
  intro K
  induction K with
  | zero => intro _; rfl
  | succ K ih =>
    intro h
    show (if cd' K = 10 then dpS cd' K else if cd' K = 11 ∨ cd' K = 12 then dpS cd' K - 1 else dpS cd' K + 1) = (if cd K = 10 then dpS cd K else if cd K = 11 ∨ cd K = 12 then dpS cd K - 1 else dpS cd K + 1)
    rw [ih (fun x hx => h x (by omega)), h K (by omega)]
/-- the class's codes -/
def CoR (r : Nat) (C : CM) (K : Nat) (cd : Nat → Nat) (o : Nat) : Prop := C.1 6 r 0 0 = nI o ∧ o ≤ 20 ∧ C.1 6 r 0 1 = nI K ∧ (∀ i, i ≤ K → dpS cd i ≤ o) ∧ ∀ i, i < K → (cd i < 6 ∨ cd i = 10 ∨ cd i = 11 ∨ cd i = 12) ∧ C.1 6 r 1 i = nI (cdW (cd i)) ∧ (cd i = 10 → 1 ≤ dpS cd i) ∧ (cd i = 11 ∨ cd i = 12 → 2 ≤ dpS cd i)
/-- the reference's codes beside them -/
def CxR (r : Nat) (C : CM) (X : XM) (KX : Nat) (cd : Nat → Nat) : Prop := ∀ i, i < KX → X.1 4 (3 * i) = nI (cd i) ∧ (0 < cd i → cd i < 6 → (∃ g, 60 ≤ g ∧ g ≤ 62 ∧ C.1 6 r 2 i = nI g ∧ X.1 4 (3 * i + 1) = nI g) ∧ C.1 6 r 3 i = X.1 4 (3 * i + 2))
/-- both at token i: ones, codes, codes of the reference, height, depth, what comes -/
def SnI (N r : Nat) (C : CM) (X : XM) (i o K KX h d : Nat) (st : Int32) (cd : Nat → Nat) : Prop := PsR N C X i ∧ CoR r C K cd o ∧ X.1 0 45 = nI KX ∧ X.1 0 46 = nI o ∧ X.1 0 47 = nI h ∧ X.1 0 48 = nI d ∧ X.1 0 49 = st ∧ CxR r C X KX cd ∧ KX ≤ K ∧ K ≤ 40
/-- what waits on the stack above h -/
def PdR (X : XM) (h KX m : Nat) (cd : Nat → Nat) : Prop := ∀ x, x < m → X.1 15 (h + m - 1 - x) = nI (cd (KX + x))
/-- frames -/
def GS (X X' : XM) : Prop := (∀ x, lastF x = true → x ≠ 15 → X'.1 0 x = X.1 0 x) ∧ (∀ j, lastR j = true → X'.1 j = X.1 j) ∧ X'.2 5 = X.2 5 ∧ X'.2 6 = X.2 6 ∧ X'.2 18 = X.2 18
theorem GS.rf (X : XM) : GS X X := ⟨fun _ _ _ => rfl, fun _ _ => rfl, rfl, rfl, rfl⟩
theorem GS.trans {A B C : XM} (h1 : GS A B) (h2 : GS B C) : GS A C := ⟨fun x a b => (h2.1 x a b).trans (h1.1 x a b), fun j a => (h2.2.1 j a).trans (h1.2.1 j a), h2.2.2.1.trans h1.2.2.1, h2.2.2.2.1.trans h1.2.2.2.1, h2.2.2.2.2.trans h1.2.2.2.2⟩
theorem gs_l {k : Nat} {X X' : XM} (h : GL k X X') : GS X X' := ⟨h.1, h.2.1, h.2.2.1, h.2.2.2.1, h.2.2.2.2.1⟩
theorem gs_f {X : XM} {x : Nat} {v : Int32} (h : lastF x = false ∨ x = 15) : GS X (stX X 0 x v) := by
  refine ⟨fun y a b => stX_ne (fun e => ?_), fun j hj => stX_row (by have := lr_no hj; omega), rfl, rfl, rfl⟩
  rcases h with h | h
  · rw [e, h] at a; cases a
  · exact b (by omega)
theorem gs_r {X : XM} {j x : Nat} {v : Int32} (h : j = 4 ∨ j = 15) : GS X (stX X j x v) := ⟨fun y a b => by rw [stX_row (by omega)], fun j' hj => stX_row (by have := lr_no hj; omega), rfl, rfl, rfl⟩
def FS6 (r : Nat) (C C' : CM) : Prop := C'.2 = C.2 ∧ ∀ q i, q ≠ 1 → ¬ (q = 6 ∧ i = r) → C'.1 q i = C.1 q i
theorem FS6.rf (r : Nat) (C : CM) : FS6 r C C := ⟨rfl, fun _ _ _ _ => rfl⟩
theorem FS6.trans {r : Nat} {A B C : CM} (h1 : FS6 r A B) (h2 : FS6 r B C) : FS6 r A C := ⟨h2.1.trans h1.1, fun q i a b => (h2.2 q i a b).trans (h1.2 q i a b)⟩
theorem fs_f1 {r : Nat} {C C' : CM} (h : F1 C C') : FS6 r C C' := ⟨h.1, fun q i a _ => by rw [h.2 q a]⟩
theorem fs_st {r j x : Nat} {C : CM} {v : Int32} : FS6 r C (stC C 6 r j x v) := ⟨rfl, fun q i a b => by
  funext y z
  simp only [stC]
  rw [if_neg (by omega)]⟩
/-- a code of the reference -/
def coX (X : XM) (K : Nat) (a b c : Int32) : XM := stX (stX (stX (stX X 4 (3 * K) a) 4 (3 * K + 1) b) 4 (3 * K + 2) c) 0 45 (nI (K + 1))
theorem code_eq {X : XM} {K : Nat} (a b c : Int32) (hK : K ≤ 40) (h : X.1 0 45 = nI K) : f_X11_code a b c X = some (0, coX X K a b c) := by
  unfold f_X11_code
  have e1 : (stX X 4 (3 * K) a).1 0 45 = nI K := by rw [stX_row (by omega)]; exact h
  have e2 : (stX (stX X 4 (3 * K) a) 4 (3 * K + 1) b).1 0 45 = nI K := by rw [stX_row (by omega)]; exact e1
  have e3 : (stX (stX (stX X 4 (3 * K) a) 4 (3 * K + 1) b) 4 (3 * K + 2) c).1 0 45 = nI K := by rw [stX_row (by omega)]; exact e2
  simp (disch := omega) only [h, e1, e2, e3, nI_lm, nI_al, sxA_nI, bnd_v, rt]
  rfl
theorem co_gs {X : XM} {K : Nat} {a b c : Int32} : GS X (coX X K a b c) := (gs_r (by omega)).trans ((gs_r (by omega)).trans ((gs_r (by omega)).trans (gs_f (Or.inl rfl))))
theorem co_xp {X : XM} {K : Nat} {a b c : Int32} : XP X (coX X K a b c) := (xp_row (by omega) (by omega)).trans ((xp_row (by omega) (by omega)).trans ((xp_row (by omega) (by omega)).trans (xp_f (by omega))))
theorem co_f {X : XM} {K x : Nat} {a b c : Int32} (hx : x ≠ 45) : (coX X K a b c).1 0 x = X.1 0 x := by
  unfold coX
  rw [stX_ne hx, stX_row (by omega), stX_row (by omega), stX_row (by omega)]
theorem co_15 {X : XM} {K : Nat} {a b c : Int32} : (coX X K a b c).1 15 = X.1 15 := by
  unfold coX
  rw [stX_row (by omega), stX_row (by omega), stX_row (by omega), stX_row (by omega)]
theorem co_r4 {X : XM} {K : Nat} {a b c : Int32} : (∀ y, y < 3 * K → (coX X K a b c).1 4 y = X.1 4 y) ∧ (coX X K a b c).1 4 (3 * K) = a ∧ (coX X K a b c).1 4 (3 * K + 1) = b ∧ (coX X K a b c).1 4 (3 * K + 2) = c := by
  unfold coX
  refine ⟨fun y hy => ?_, ?_, ?_, ?_⟩
  · rw [stX_row (by omega), stX_ne (by omega), stX_ne (by omega), stX_ne (by omega)]
  · rw [stX_row (by omega), stX_ne (by omega), stX_ne (by omega), stX_at]
  · rw [stX_row (by omega), stX_ne (by omega), stX_at]
  · rw [stX_row (by omega), stX_at]
/-- one code that waited moves -/
theorem cx_pop {r KX : Nat} {C : CM} {X : XM} {cd : Nat → Nat} {a : Int32} (h : CxR r C X KX cd) (ha : a = nI (cd KX)) (hc : 6 ≤ cd KX) : CxR r C (coX X KX a 0 0) (KX + 1) cd := by
  intro i hi
  by_cases e : i = KX
  · subst e
    refine ⟨co_r4.2.1.trans ha, fun _ h6 => by omega⟩
  · rw [co_r4.1 _ (by omega), co_r4.1 _ (by omega), co_r4.1 _ (by omega)]
    exact h i (by omega)
theorem pop_SnI {r i o K KX h1 d1 h2 d2 : Nat} {st : Int32} {C : CM} {X Y : XM} {cd : Nat → Nat} {a : Int32} (h : SnI N r C X i o K KX h1 d1 st cd) (hK : KX < K) (ha : a = nI (cd KX)) (hc : 6 ≤ cd KX) (yp : XP X Y) (y4 : Y.1 4 = X.1 4) (y45 : Y.1 0 45 = X.1 0 45) (y46 : Y.1 0 46 = X.1 0 46) (y49 : Y.1 0 49 = X.1 0 49) (y47 : Y.1 0 47 = nI h2) (y48 : Y.1 0 48 = nI d2) : f_X11_code a 0 0 Y = some (0, coX Y KX a 0 0) ∧ SnI N r C (coX Y KX a 0 0) i o K (KX + 1) h2 d2 st cd := by
  obtain ⟨s1, s2, s3, s4, s5, s6, s7, s8, s9, s10⟩ := h
  have hx : CxR r C Y KX cd := fun i hi => by rw [y4]; exact s8 i hi
  refine ⟨code_eq a 0 0 (by omega) (y45.trans s3), psR_c s1 rfl (yp.trans co_xp), s2, ?_, ?_, ?_, ?_, ?_, cx_pop hx ha hc, by omega, s10⟩
  · unfold coX; exact stX_at
  · rw [co_f (by omega), y46]; exact s4
  · rw [co_f (by omega)]; exact y47
  · rw [co_f (by omega)]; exact y48
  · rw [co_f (by omega), y49]; exact s7
/-- nots on top go -/
theorem nots_rel {r i o K h d : Nat} {st : Int32} {C : CM} {cd : Nat → Nat} : ∀ (j KX m : Nat) (X : XM) (fu : Nat), h + m ≤ 45 → j ≤ m → SnI N r C X i o K KX (h + m) (d + j) st cd → K = KX + m → PdR X h KX m cd → (∀ x, x < j → cd (KX + x) = 10) → (h + (m - j) = 0 ∨ X.1 15 (h + (m - j) - 1) ≠ 10) → j < fu → d + j < 100 → ∃ X', f_X11_nots_0 N fu X = some (0, X') ∧ SnI N r C X' i o K (KX + j) (h + (m - j)) d st cd ∧ PdR X' h (KX + j) (m - j) cd ∧ X'.1 15 = X.1 15 ∧ GS X X' := by
  intro j
  induction j with
  | zero =>
    intro KX m X fu hh hj hS hK hP hx hst hf hd
    obtain ⟨fu', rfl⟩ : ∃ f, fu = f + 1 := ⟨fu - 1, by omega⟩
    refine ⟨X, ?_, hS, hP, rfl, GS.rf X⟩
    rw [f_X11_nots_0, hS.2.2.2.2.1]
    simp (disch := omega) only [le_nl]
    by_cases e : h + m = 0
    · rw [if_pos (by omega)]; rfl
    · have e1 : nI (h + m) - 1 = nI (h + m - 1) := nI_sl (by show 1 ≤ h + m; omega)
      rw [if_neg (by omega), e1, ldA_nI (by omega) (by omega)]
      have : X.1 15 (h + m - 1) ≠ 10 := by
        rcases hst with q | q
        · omega
        · exact q
      rw [if_neg this]; rfl
  | succ j ih =>
    intro KX m X fu hh hj hS hK hP hx hst hf hd
    obtain ⟨fu', rfl⟩ : ∃ f, fu = f + 1 := ⟨fu - 1, by omega⟩
    have e1 : nI (h + m) - 1 = nI (h + m - 1) := nI_sl (by show 1 ≤ h + m; omega)
    have e2 : nI (d + (j + 1)) - 1 = nI (d + j) := nI_sl (by show 1 ≤ d + (j + 1); omega)
    have c0 := hx 0 (by omega)
    rw [Nat.add_zero] at c0
    have t0 := hP 0 (by omega)
    rw [Nat.sub_zero, Nat.add_zero, c0] at t0
    have y48 : (stX X 0 47 (nI (h + m - 1))).1 0 48 = nI (d + (j + 1)) := by rw [stX_ne (by omega)]; exact hS.2.2.2.2.2.1
    obtain ⟨p1, p2⟩ := pop_SnI (Y := stX (stX X 0 47 (nI (h + m - 1))) 0 48 (nI (d + j))) (h2 := h + (m - 1)) (d2 := d + j) (a := 10) hS (by omega) (by rw [c0]; rfl) (by omega) ((xp_f (by omega)).trans (xp_f (by omega))) (by rw [stX_row (by omega), stX_row (by omega)]) (by rw [stX_ne (by omega), stX_ne (by omega)]) (by rw [stX_ne (by omega), stX_ne (by omega)]) (by rw [stX_ne (by omega), stX_ne (by omega)]) (by rw [stX_ne (by omega), stX_at, show h + (m - 1) = h + m - 1 by omega]) stX_at
    have r15 : (coX (stX (stX X 0 47 (nI (h + m - 1))) 0 48 (nI (d + j))) KX 10 0 0).1 15 = X.1 15 := by
      rw [co_15, stX_row (by omega), stX_row (by omega)]
    obtain ⟨X', q1, q2, q3, q4, q5⟩ := ih (KX + 1) (m - 1) _ fu' (by omega) (by omega) p2 (by omega) (fun x hx' => by
      rw [r15, show h + (m - 1) - 1 - x = h + m - 1 - (x + 1) by omega, show KX + 1 + x = KX + (x + 1) by omega]
      exact hP (x + 1) (by omega)) (fun x hx' => by
      rw [show KX + 1 + x = KX + (x + 1) by omega]
      exact hx (x + 1) (by omega)) (by rw [r15, show m - 1 - j = m - (j + 1) by omega]; exact hst) (by omega) (by omega)
    refine ⟨X', ?_, ?_, ?_, q4.trans r15, ((gs_f (Or.inl rfl)).trans ((gs_f (Or.inl rfl)).trans co_gs)).trans q5⟩
    · rw [f_X11_nots_0, hS.2.2.2.2.1]
      simp (disch := omega) only [le_nl]
      rw [if_neg (by omega), e1, ldA_nI (by omega) (by omega), t0, if_pos (show nI 10 = (10 : Int32) from rfl), bnd_v, y48, e2, bnd_v, p1, cal_some]
      exact q1
    · rw [show KX + (j + 1) = KX + 1 + j by omega, show h + (m - (j + 1)) = h + (m - 1 - j) by omega]
      exact q2
    · rw [show KX + (j + 1) = KX + 1 + j by omega, show m - (j + 1) = m - 1 - j by omega]
      exact q3
/-- joins on top go -/
theorem joins_rel {r i o K h d : Nat} {st a1 : Int32} {C : CM} {cd : Nat → Nat} : ∀ (j KX m : Nat) (X : XM) (fu : Nat), h + m ≤ 45 → j ≤ m → SnI N r C X i o K KX (h + m) d st cd → K = KX + m → PdR X h KX m cd → (∀ x, x < j → cd (KX + x) = 11 ∨ (cd (KX + x) = 12 ∧ a1 = 12)) → (h + (m - j) = 0 ∨ (X.1 15 (h + (m - j) - 1) ≠ 11 ∧ (X.1 15 (h + (m - j) - 1) = 12 → a1 ≠ 12))) → j < fu → ∃ X', f_X11_joins_0 N a1 fu X = some (0, X') ∧ SnI N r C X' i o K (KX + j) (h + (m - j)) d st cd ∧ PdR X' h (KX + j) (m - j) cd ∧ X'.1 15 = X.1 15 ∧ GS X X' := by
  intro j
  induction j with
  | zero =>
    intro KX m X fu hh hj hS hK hP hx hst hf
    obtain ⟨fu', rfl⟩ : ∃ f, fu = f + 1 := ⟨fu - 1, by omega⟩
    refine ⟨X, ?_, hS, hP, rfl, GS.rf X⟩
    rw [f_X11_joins_0, hS.2.2.2.2.1]
    simp (disch := omega) only [le_nl]
    by_cases e : h + m = 0
    · rw [if_pos (by omega)]; rfl
    · have e1 : nI (h + m) - 1 = nI (h + m - 1) := nI_sl (by show 1 ≤ h + m; omega)
      rw [if_neg (by omega), e1, ldA_nI (by omega) (by omega), ldA_nI (by omega) (by omega)]
      have q : X.1 15 (h + m - 1) ≠ 11 ∧ (X.1 15 (h + m - 1) = 12 → a1 ≠ 12) := by
        rcases hst with q | q
        · omega
        · exact q
      rw [if_neg q.1]
      by_cases e12 : X.1 15 (h + m - 1) = 12
      · rw [if_pos e12, if_neg (q.2 e12)]; rfl
      · rw [if_neg e12]; rfl
  | succ j ih =>
    intro KX m X fu hh hj hS hK hP hx hst hf
    obtain ⟨fu', rfl⟩ : ∃ f, fu = f + 1 := ⟨fu - 1, by omega⟩
    have e1 : nI (h + m) - 1 = nI (h + m - 1) := nI_sl (by show 1 ≤ h + m; omega)
    have c0 := hx 0 (by omega)
    rw [Nat.add_zero] at c0
    have t0 := hP 0 (by omega)
    rw [Nat.sub_zero, Nat.add_zero] at t0
    have y47 : (stX X 0 47 (nI (h + m - 1))).1 0 47 = nI (h + m - 1) := stX_at
    have y15 : (stX X 0 47 (nI (h + m - 1))).1 15 = X.1 15 := stX_row (by omega)
    obtain ⟨p1, p2⟩ := pop_SnI (Y := stX X 0 47 (nI (h + m - 1))) (h2 := h + (m - 1)) (d2 := d) (a := nI (cd KX)) hS (by omega) rfl (by omega) (xp_f (by omega)) (stX_row (by omega)) (stX_ne (by omega)) (stX_ne (by omega)) (stX_ne (by omega)) (by rw [stX_at, show h + (m - 1) = h + m - 1 by omega]) (by rw [stX_ne (by omega)]; exact hS.2.2.2.2.2.1)
    have r15 : (coX (stX X 0 47 (nI (h + m - 1))) KX (nI (cd KX)) 0 0).1 15 = X.1 15 := by
      rw [co_15, stX_row (by omega)]
    obtain ⟨X', q1, q2, q3, q4, q5⟩ := ih (KX + 1) (m - 1) _ fu' (by omega) (by omega) p2 (by omega) (fun x hx' => by
      rw [r15, show h + (m - 1) - 1 - x = h + m - 1 - (x + 1) by omega, show KX + 1 + x = KX + (x + 1) by omega]
      exact hP (x + 1) (by omega)) (fun x hx' => by
      rw [show KX + 1 + x = KX + (x + 1) by omega]
      exact hx (x + 1) (by omega)) (by rw [r15, show m - 1 - j = m - (j + 1) by omega]; exact hst) (by omega)
    have h45 : f_X11_joins_45 N (fun c => f_X11_joins_0 N a1 fu' c) a1 X = some (0, X') := by
      unfold f_X11_joins_45
      rw [hS.2.2.2.2.1, e1, bnd_v, y47, ldA_nI (by omega) (by omega), y15, t0, p1, cal_some]
      exact q1
    refine ⟨X', ?_, ?_, ?_, q4.trans r15, ((gs_f (Or.inl rfl)).trans co_gs).trans q5⟩
    · rw [f_X11_joins_0, hS.2.2.2.2.1]
      simp (disch := omega) only [le_nl]
      rw [if_neg (by omega), e1, ldA_nI (by omega) (by omega), ldA_nI (by omega) (by omega), t0]
      rcases c0 with c0 | ⟨c0, ca⟩
      · rw [c0, if_pos (show nI 11 = (11 : Int32) from rfl)]
        exact h45
      · rw [c0, if_neg (show ¬ nI 12 = (11 : Int32) by decide), if_pos (show nI 12 = (12 : Int32) from rfl), if_pos ca]
        exact h45
    · rw [show KX + (j + 1) = KX + 1 + j by omega, show h + (m - (j + 1)) = h + (m - 1 - j) by omega]
      exact q2
    · rw [show KX + (j + 1) = KX + 1 + j by omega, show m - (j + 1) = m - 1 - j by omega]
      exact q3
end SENT
