/-! Sentences: what the class adds; leaves. -/
section SENT2
variable {N : Nat}
def upC (cd : Nat → Nat) (K c : Nat) : Nat → Nat := fun x => if x = K then c else cd x
theorem upC_lt {cd : Nat → Nat} {K c x : Nat} (h : x < K) : upC cd K c x = cd x := if_neg (by omega)
theorem upC_at {cd : Nat → Nat} {K c : Nat} : upC cd K c K = c := if_pos rfl
theorem dpS_up {cd : Nat → Nat} {K c i : Nat} (h : i ≤ K) : dpS (upC cd K c) i = dpS cd i := dpS_c (fun x hx => upC_lt (by omega))
theorem dpS_n {cd : Nat → Nat} {K c : Nat} : dpS (upC cd K c) (K + 1) = if c = 10 then dpS cd K else if c = 11 ∨ c = 12 then dpS cd K - 1 else dpS cd K + 1 := by
  show (if upC cd K c K = 10 then dpS (upC cd K c) K else if upC cd K c K = 11 ∨ upC cd K c K = 12 then dpS (upC cd K c) K - 1 else dpS (upC cd K c) K + 1) = _
  rw [upC_at, dpS_up (Nat.le_refl _)]
def adS (C : CM) (r K : Nat) (w s z : Int32) : CM := stC (stC (stC (stC C 6 r 1 K w) 6 r 2 K s) 6 r 3 K z) 6 r 0 1 (nI (K + 1))
theorem ad_fs {C : CM} {r K : Nat} {w s z : Int32} : FS6 r C (adS C r K w s z) := fs_st.trans (fs_st.trans (fs_st.trans fs_st))
theorem ad_1 {C : CM} {r K : Nat} {w s z : Int32} : (adS C r K w s z).1 1 0 = C.1 1 0 := by
  unfold adS
  rw [stC_ob (by omega), stC_ob (by omega), stC_ob (by omega), stC_ob (by omega)]
theorem adS_eq {C : CM} {r K : Nat} (w s z : Int32) (hK : K < 40) (h : C.1 6 r 0 1 = nI K) : f_X5_add r w s z C = some (0, adS C r K w s z) := by
  unfold f_X5_add
  have e1 : (stC C 6 r 1 K w).1 6 r 0 1 = nI K := by rw [stC_row (by omega)]; exact h
  have e2 : (stC (stC C 6 r 1 K w) 6 r 2 K s).1 6 r 0 1 = nI K := by rw [stC_row (by omega)]; exact e1
  have e3 : (stC (stC (stC C 6 r 1 K w) 6 r 2 K s) 6 r 3 K z).1 6 r 0 1 = nI K := by rw [stC_row (by omega)]; exact e2
  simp (disch := omega) only [h, e1, e2, e3, le_ln, if_neg, stA_nI, bnd_v, nI_al, rt]
  rfl
theorem ad_rows6 {C : CM} {r K : Nat} {w s z : Int32} : (adS C r K w s z).1 6 r 0 1 = nI (K + 1) ∧ (adS C r K w s z).1 6 r 0 0 = C.1 6 r 0 0 ∧ (∀ x, (adS C r K w s z).1 6 r 1 x = if x = K then w else C.1 6 r 1 x) ∧ (∀ x, (adS C r K w s z).1 6 r 2 x = if x = K then s else C.1 6 r 2 x) ∧ (∀ x, (adS C r K w s z).1 6 r 3 x = if x = K then z else C.1 6 r 3 x) := by
  unfold adS
  refine ⟨stC_at, ?_, fun x => ?_, fun x => ?_, fun x => ?_⟩
  · rw [stC_ne (by omega), stC_row (by omega), stC_row (by omega), stC_row (by omega)]
  · rw [stC_row (by omega), stC_row (by omega), stC_row (by omega), stC_if]
  · rw [stC_row (by omega), stC_row (by omega), stC_if, stC_row (by omega)]
  · rw [stC_row (by omega), stC_if, stC_row (by omega), stC_row (by omega)]
theorem co_add {C : CM} {r K c o : Nat} {cd : Nat → Nat} {s z : Int32} (h : CoR r C K cd o) (hc : c < 6 ∨ c = 10 ∨ c = 11 ∨ c = 12) (h6 : c < 6 → dpS cd K + 1 ≤ o) (h10 : c = 10 → 1 ≤ dpS cd K) (h11 : c = 11 ∨ c = 12 → 2 ≤ dpS cd K) : CoR r (adS C r K (nI (cdW c)) s z) (K + 1) (upC cd K c) o := by
  obtain ⟨a1, a2, a3, a4, a5⟩ := h
  obtain ⟨b1, b2, b3, b4, b5⟩ := ad_rows6 (C := C) (r := r) (K := K) (w := nI (cdW c)) (s := s) (z := z)
  refine ⟨b2.trans a1, a2, b1, fun i hi => ?_, fun i hi => ?_⟩
  · by_cases e : i = K + 1
    · subst e
      have := a4 K (by omega)
      rw [dpS_n]
      by_cases e1 : c = 10
      · rw [if_pos e1]; exact this
      · rw [if_neg e1]
        by_cases e2 : c = 11 ∨ c = 12
        · rw [if_pos e2]; omega
        · rw [if_neg e2]; exact h6 (by omega)
    · rw [dpS_up (by omega)]
      exact a4 i (by omega)
  · rw [b3, dpS_up (by omega)]
    by_cases e : i = K
    · subst e
      rw [upC_at, if_pos rfl]
      exact ⟨hc, rfl, h10, h11⟩
    · rw [upC_lt (by omega), if_neg e]
      exact a5 i (by omega)
/-- a code that the class adds while the reference lets it wait -/
theorem sn_add {C : CM} {X : XM} {r i o K KX h d c : Nat} {st : Int32} {cd : Nat → Nat} (hS : SnI N r C X i o K KX h d st cd) (hK : K < 40) (hc : c = 10 ∨ c = 11 ∨ c = 12) (h10 : c = 10 → 1 ≤ dpS cd K) (h11 : c = 11 ∨ c = 12 → 2 ≤ dpS cd K) : f_X5_add r (nI (cdW c)) 0 0 C = some (0, adS C r K (nI (cdW c)) 0 0) ∧ SnI N r (adS C r K (nI (cdW c)) 0 0) X i o (K + 1) KX h d st (upC cd K c) := by
  obtain ⟨s1, s2, s3, s4, s5, s6, s7, s8, s9, s10⟩ := hS
  obtain ⟨b1, b2, b3, b4, b5⟩ := ad_rows6 (C := C) (r := r) (K := K) (w := nI (cdW c)) (s := 0) (z := 0)
  refine ⟨adS_eq _ _ _ hK s2.2.2.1, psR_c s1 ad_1 (XP.rf X), co_add s2 (by omega) (by omega) h10 h11, s3, s4, s5, s6, s7, fun i hi => ?_, by omega, by omega⟩
  rw [b4, b5, upC_lt (by omega), if_neg (by omega), if_neg (by omega)]
  exact s8 i hi
theorem pd_add {X : XM} {h KX m c : Nat} {cd : Nat → Nat} (hP : PdR X (h + 1) KX m cd) (ht : X.1 15 h = nI c) : PdR X h KX (m + 1) (upC cd (KX + m) c) := by
  intro x hx
  by_cases e : x = m
  · subst e
    rw [show h + (x + 1) - 1 - x = h by omega, upC_at]
    exact ht
  · rw [upC_lt (by omega), show h + (m + 1) - 1 - x = h + 1 + m - 1 - x by omega]
    exact hP x (by omega)
/-- faulted, and the codes in bounds -/
def FsC (r : Nat) (C : CM) : Prop := FaC C ∧ ∃ k, k ≤ 40 ∧ C.1 6 r 0 1 = nI k
theorem fs_add {C : CM} {r : Nat} (w s z : Int32) (h : FsC r C) : ∃ C', f_X5_add r w s z C = some (0, C') ∧ FsC r C' ∧ C'.1 1 0 = C.1 1 0 ∧ FS6 r C C' := by
  obtain ⟨h1, k, h2, h3⟩ := id h
  by_cases e : k = 40
  · refine ⟨C, ?_, h, rfl, FS6.rf r C⟩
    unfold f_X5_add
    rw [h3, if_pos (by simp (disch := omega) only [le_ln]; omega)]
    rfl
  · exact ⟨adS C r k w s z, adS_eq w s z (by omega) h3, ⟨faC_c h1 ad_1, k + 1, by omega, ad_rows6.1⟩, ad_1, ad_fs⟩
theorem num999 {C : CM} {X : XM} {i : Nat} (h : PsR N C X i) : (∃ z, z ≤ 999 ∧ C.1 1 0 1 i = 4 ∧ f_X7_takeNumber 0 999 C = some (nI z, nxC C i) ∧ X.1 0 11 = 2 ∧ X.1 0 14 = nI z) ∨ (f_X7_takeNumber 0 999 C = some (-1, blC C 1 (C.1 1 0 3 i)) ∧ X.1 0 11 ≠ 2) := by
  obtain ⟨-, q⟩ := ps_mt h
  have e5 : (nxC C i).1 1 0 0 5 = 0 := by unfold nxC; rw [stC_ne (by omega)]; exact ps_5 h
  unfold f_X7_takeNumber f_X7_takeNumber_28
  rw [ps_kind h]
  by_cases e : C.1 1 0 1 i = 4
  · rw [e] at q
    obtain ⟨z, z1, z2, z3, z4, z5⟩ : ∃ z, z ≤ 999 ∧ (4 : Int32) = 4 ∧ C.1 1 0 2 i = nI z ∧ X.1 0 11 = 2 ∧ X.1 0 14 = nI z := by
      rcases q with ⟨h1, -⟩ | ⟨h1, -⟩ | ⟨w', -, h1, -⟩ | ⟨h1, -⟩ | q | ⟨c', -, h1, -⟩
      · exact absurd h1 (by decide)
      · exact absurd h1 (by decide)
      · exact absurd h1 (by decide)
      · exact absurd h1 (by decide)
      · exact q
      · exact absurd h1 (by decide)
    refine Or.inl ⟨z, z1, e, ?_, z4, z5⟩
    rw [if_pos e, cal_some, if_pos e5, z3, if_neg (nI_nneg (by omega)), if_pos (by simp (disch := omega) only [le_nl]; omega), if_pos e5]
    rfl
  · refine Or.inr ⟨?_, ?_⟩
    · have hf := (bl_fa h (show (1 : Int32) ≠ 0 by decide)).1
      rw [if_neg e, cal_some, if_neg hf.1.1, if_neg hf.1.1]
      rfl
    · rcases q with ⟨h1, h2, h3⟩ | ⟨h1, h3⟩ | ⟨w', h1, h2, h3, h4, h5⟩ | ⟨h1, h2, h3, h4⟩ | ⟨z, h1, h2, h3, h4, h5⟩ | ⟨c', h1, h2, h3, h4, h5⟩
      · rw [h3]; decide
      · rw [h3]; decide
      · rw [h4]; decide
      · rw [h2]; decide
      · exact absurd h2 e
      · rw [h4]; decide
theorem takeSign_rel {C : CM} {X : XM} {i : Nat} (hN : 2000 ≤ N) (h : PsR N C X i) : (∃ g, 60 ≤ g ∧ g ≤ 62 ∧ C.1 1 0 1 i = 5 ∧ f_X5_takeSign N C = some (nI g, nxC C i) ∧ X.1 0 11 = 3 ∧ X.1 0 14 = nI g) ∨ (f_X5_takeSign N C = some (-1, blC C 1 (C.1 1 0 3 i)) ∧ (X.1 0 11 = 3 → ∃ g, X.1 0 14 = nI g ∧ g < 60)) := by
  obtain ⟨n, rfl⟩ : ∃ n, N = n + 4 := ⟨N - 4, by omega⟩
  obtain ⟨-, q⟩ := ps_mt h
  unfold f_X5_takeSign
  have s : ∀ (m j : Nat), j ≤ 62 → f_X5_takeSign_3 (n + 4) (m + 1) (nI j) C = if C.1 1 0 1 i = 5 ∧ C.1 1 0 2 i = nI j then some (nI j, nxC C i) else f_X5_takeSign_3 (n + 4) m (nI (j + 1)) C := by
    intro m j hj
    rw [f_X5_takeSign_3, ps_sees h, cal_some]
    simp (disch := omega) only [lt_ln]
    rw [if_neg (by omega), nI_al]
    by_cases e : C.1 1 0 1 i = 5 ∧ C.1 1 0 2 i = nI j
    · rw [if_pos e, if_pos e, if_neg (show ¬ (1 : Int32) = 0 by decide), ps_take h, cal_some]; rfl
    · rw [if_neg e, if_neg e, if_pos rfl]
  have s0 := s (n + 3) 60 (by omega)
  have s1 := s (n + 2) 61 (by omega)
  have s2 := s (n + 1) 62 (by omega)
  have s3 : f_X5_takeSign_3 (n + 4) (n + 1) (nI 63) C = some (-1, blC C 1 (C.1 1 0 3 i)) := by
    rw [f_X5_takeSign_3, if_pos (by decide), ps_blame h, cal_some]
    rfl
  have s0' : f_X5_takeSign_3 (n + 4) (n + 4) 60 C = if C.1 1 0 1 i = 5 ∧ C.1 1 0 2 i = nI 60 then some (nI 60, nxC C i) else f_X5_takeSign_3 (n + 4) (n + 3) (nI 61) C := s0
  rw [s0', s1, s2, s3]
  by_cases e : C.1 1 0 1 i = 5
  · rw [e] at q
    obtain ⟨c, c1, c2, c3, c4, c5⟩ : ∃ c, isMk c ∧ (5 : Int32) = 5 ∧ C.1 1 0 2 i = nI c ∧ X.1 0 11 = 3 ∧ X.1 0 14 = nI c := by
      rcases q with ⟨h1, -⟩ | ⟨h1, -⟩ | ⟨w', -, h1, -⟩ | ⟨h1, -⟩ | ⟨z, -, h1, -⟩ | q
      · exact absurd h1 (by decide)
      · exact absurd h1 (by decide)
      · exact absurd h1 (by decide)
      · exact absurd h1 (by decide)
      · exact absurd h1 (by decide)
      · exact q
    unfold isMk at c1
    rcases c1 with rfl | rfl | rfl | rfl | rfl | rfl
    · rw [c3, if_neg (fun q => absurd q.2 (by decide)), if_neg (fun q => absurd q.2 (by decide)), if_neg (fun q => absurd q.2 (by decide))]
      exact Or.inr ⟨rfl, fun _ => ⟨59, c5, by omega⟩⟩
    · rw [c3, if_pos ⟨e, rfl⟩]
      exact Or.inl ⟨60, by omega, by omega, e, rfl, c4, c5⟩
    · rw [c3, if_neg (fun q => absurd q.2 (by decide)), if_pos ⟨e, rfl⟩]
      exact Or.inl ⟨61, by omega, by omega, e, rfl, c4, c5⟩
    · rw [c3, if_neg (fun q => absurd q.2 (by decide)), if_neg (fun q => absurd q.2 (by decide)), if_pos ⟨e, rfl⟩]
      exact Or.inl ⟨62, by omega, by omega, e, rfl, c4, c5⟩
    · rw [c3, if_neg (fun q => absurd q.2 (by decide)), if_neg (fun q => absurd q.2 (by decide)), if_neg (fun q => absurd q.2 (by decide))]
      exact Or.inr ⟨rfl, fun _ => ⟨40, c5, by omega⟩⟩
    · rw [c3, if_neg (fun q => absurd q.2 (by decide)), if_neg (fun q => absurd q.2 (by decide)), if_neg (fun q => absurd q.2 (by decide))]
      exact Or.inr ⟨rfl, fun _ => ⟨41, c5, by omega⟩⟩
  · rw [if_neg (fun q => e q.1), if_neg (fun q => e q.1), if_neg (fun q => e q.1)]
    refine Or.inr ⟨rfl, fun h3 => ?_⟩
    exfalso
    rcases q with ⟨h1, h2, h'⟩ | ⟨h1, h'⟩ | ⟨w', h1, h2, h', h4, h5⟩ | ⟨h1, h2, h', h4⟩ | ⟨z, h1, h2, h', h4, h5⟩ | ⟨c', h1, h2, h', h4, h5⟩
    · rw [h'] at h3; exact absurd h3 (by decide)
    · rw [h'] at h3; exact absurd h3 (by decide)
    · rw [h4] at h3; exact absurd h3 (by decide)
    · rw [h2] at h3; exact absurd h3 (by decide)
    · rw [h4] at h3; exact absurd h3 (by decide)
    · exact e h2
theorem leafOf_rel {k v pl : Int32} {X : XM} (hm : MtR k v pl X) : (∃ c, c < 6 ∧ k = 2 ∧ v = nI (18 + c) ∧ f_X11_leafOf X = some (nI c, X)) ∨ ((∀ c, c < 6 → ¬ (k = 2 ∧ v = nI (18 + c))) ∧ f_X11_leafOf X = some (-1, X)) := by
  unfold f_X11_leafOf
  rw [show (439720568179 : Int64) = resV 18 by decide, isWord_rel hm (w := 18) (by omega), cal_some]
  by_cases a18 : k = 2 ∧ v = nI 18
  · rw [if_pos a18, if_neg (show ¬ (1 : Int32) = 0 by decide)]
    exact Or.inl ⟨0, by omega, a18.1, a18.2, rfl⟩
  rw [if_neg a18, if_pos rfl]
  rw [show (1735355492 : Int64) = resV 19 by decide, isWord_rel hm (w := 19) (by omega), cal_some]
  by_cases a19 : k = 2 ∧ v = nI 19
  · rw [if_pos a19, if_neg (show ¬ (1 : Int32) = 0 by decide)]
    exact Or.inl ⟨1, by omega, a19.1, a19.2, rfl⟩
  rw [if_neg a19, if_pos rfl]
  rw [show (483006772069 : Int64) = resV 20 by decide, isWord_rel hm (w := 20) (by omega), cal_some]
  by_cases a20 : k = 2 ∧ v = nI 20
  · rw [if_pos a20, if_neg (show ¬ (1 : Int32) = 0 by decide)]
    exact Or.inl ⟨2, by omega, a20.1, a20.2, rfl⟩
  rw [if_neg a20, if_pos rfl]
  rw [show (495874302827 : Int64) = resV 21 by decide, isWord_rel hm (w := 21) (by omega), cal_some]
  by_cases a21 : k = 2 ∧ v = nI 21
  · rw [if_pos a21, if_neg (show ¬ (1 : Int32) = 0 by decide)]
    exact Or.inl ⟨3, by omega, a21.1, a21.2, rfl⟩
  rw [if_neg a21, if_pos rfl]
  rw [show (6580594 : Int64) = resV 22 by decide, isWord_rel hm (w := 22) (by omega), cal_some]
  by_cases a22 : k = 2 ∧ v = nI 22
  · rw [if_pos a22, if_neg (show ¬ (1 : Int32) = 0 by decide)]
    exact Or.inl ⟨4, by omega, a22.1, a22.2, rfl⟩
  rw [if_neg a22, if_pos rfl]
  rw [show (482854658917 : Int64) = resV 23 by decide, isWord_rel hm (w := 23) (by omega), cal_some]
  by_cases a23 : k = 2 ∧ v = nI 23
  · rw [if_pos a23, if_neg (show ¬ (1 : Int32) = 0 by decide)]
    exact Or.inl ⟨5, by omega, a23.1, a23.2, rfl⟩
  rw [if_neg a23, if_pos rfl]
  refine Or.inr ⟨fun c hc => ?_, rfl⟩
  rcases (by omega : c = 0 ∨ c = 1 ∨ c = 2 ∨ c = 3 ∨ c = 4 ∨ c = 5) with rfl | rfl | rfl | rfl | rfl | rfl
  · exact a18
  · exact a19
  · exact a20
  · exact a21
  · exact a22
  · exact a23
/-- what an operand begins with -/
theorem opd_rel {C : CM} {X : XM} {i : Nat} (h : PsR N C X i) :
    (C.1 1 0 1 i = 5 ∧ f_X7_sees 5 40 C = some (1, C) ∧ f_X7_nextWord C = some (-1, C) ∧ f_X11_operand N X = f_X11_operand_38 N 0 1 (-1) X) ∨
    (C.1 1 0 1 i = 2 ∧ f_X7_sees 5 40 C = some (0, C) ∧ f_X7_nextWord C = some (17, C) ∧ f_X11_operand N X = f_X11_operand_38 N 1 0 (-1) X) ∨
    (∃ c, c < 6 ∧ C.1 1 0 1 i = 2 ∧ f_X7_sees 5 40 C = some (0, C) ∧ f_X7_nextWord C = some (nI (18 + c), C) ∧ f_X11_operand N X = f_X11_operand_38 N 0 0 (nI c) X) ∨
    (f_X7_sees 5 40 C = some (0, C) ∧ (∃ w : Int32, f_X7_nextWord C = some (w, C) ∧ w < 17) ∧ f_X11_operand N X = some (0, bdX X 1)) := by
  have hm := ps_mt h
  have w17 := isWord_rel hm (w := 17) (by omega)
  have v17 : (7237492 : Int64) = resV 17 := by decide
  have sg : f_X11_isSign 40 X = some (if C.1 1 0 1 i = 5 ∧ C.1 1 0 2 i = nI 40 then 1 else 0, X) := isSign_rel hm (c := 40) (by unfold isMk; omega)
  have se : f_X7_sees 5 40 C = some (if C.1 1 0 1 i = 5 ∧ C.1 1 0 2 i = nI 40 then 1 else 0, C) := ps_sees h 5 40
  have sw := ps_word h
  have n1 : ¬ (0 : Int32) ≤ -1 := by decide
  unfold f_X11_operand
  rw [v17, w17, cal_some, sg, cal_some, se, sw]
  by_cases e5 : C.1 1 0 1 i = 5
  · have ne2 : ∀ w, ¬ (C.1 1 0 1 i = 2 ∧ C.1 1 0 2 i = nI w) := fun w q => absurd (e5.symm.trans q.1) (by decide)
    have nk2 : ¬ C.1 1 0 1 i = 2 := fun q => absurd (e5.symm.trans q) (by decide)
    rcases leafOf_rel hm with ⟨c, -, q, -⟩ | ⟨-, q⟩
    · exact absurd (e5.symm.trans q) (by decide)
    · rw [q, cal_some, if_neg (ne2 17), if_pos rfl, if_neg nk2]
      by_cases e40 : C.1 1 0 1 i = 5 ∧ C.1 1 0 2 i = nI 40
      · rw [if_pos e40, if_neg (show ¬ (1 : Int32) = 0 by decide)]
        exact Or.inl ⟨e5, rfl, rfl, rfl⟩
      · rw [if_neg e40, if_pos rfl, if_neg n1, bad_eq, cal_some]
        exact Or.inr (Or.inr (Or.inr ⟨rfl, ⟨-1, rfl, by decide⟩, rfl⟩))
  · have ne5 : ¬ (C.1 1 0 1 i = 5 ∧ C.1 1 0 2 i = nI 40) := fun q => e5 q.1
    rw [if_neg ne5]
    by_cases e2 : C.1 1 0 1 i = 2
    · obtain ⟨w, hw, hv⟩ : ∃ w, w < 24 ∧ C.1 1 0 2 i = nI w := by
        obtain ⟨-, q⟩ := hm
        rw [e2] at q
        rcases q with ⟨h1, -⟩ | ⟨h1, -⟩ | ⟨w', h0, h1, h2, -⟩ | ⟨h1, -⟩ | ⟨z, -, h1, -⟩ | ⟨c', -, h1, -⟩
        · exact absurd h1 (by decide)
        · exact absurd h1 (by decide)
        · exact ⟨w', h0, h2⟩
        · exact absurd h1 (by decide)
        · exact absurd h1 (by decide)
        · exact absurd h1 (by decide)
      rw [if_pos e2]
      rcases leafOf_rel hm with ⟨c, hc, -, q, q'⟩ | ⟨q, q'⟩
      · have n17 : ¬ (C.1 1 0 1 i = 2 ∧ C.1 1 0 2 i = nI 17) := fun z => by
          have := q.symm.trans z.2
          rw [eq_nn (by omega) (by omega)] at this
          omega
        rw [q', cal_some, if_neg n17, if_pos rfl, if_pos rfl, if_pos (nI_pos' (by omega)), q]
        exact Or.inr (Or.inr (Or.inl ⟨c, hc, e2, rfl, rfl, rfl⟩))
      · rw [q', cal_some]
        by_cases e17 : C.1 1 0 1 i = 2 ∧ C.1 1 0 2 i = nI 17
        · rw [if_pos e17, if_neg (show ¬ (1 : Int32) = 0 by decide), e17.2]
          exact Or.inr (Or.inl ⟨e2, rfl, rfl, rfl⟩)
        · rw [if_neg e17, if_pos rfl, if_pos rfl, if_neg n1, bad_eq, cal_some]
          refine Or.inr (Or.inr (Or.inr ⟨rfl, ⟨C.1 1 0 2 i, rfl, ?_⟩, rfl⟩))
          rw [hv]
          simp (disch := omega) only [lt_nl]
          by_cases hlt : w < 17
          · exact hlt
          · exfalso
            by_cases e : w = 17
            · exact e17 ⟨e2, by rw [hv, e]⟩
            · exact q (w - 18) (by omega) ⟨e2, by rw [hv, show 18 + (w - 18) = w by omega]⟩
    · have ne2 : ∀ w, ¬ (C.1 1 0 1 i = 2 ∧ C.1 1 0 2 i = nI w) := fun w q => e2 q.1
      rcases leafOf_rel hm with ⟨c, -, q, -⟩ | ⟨-, q⟩
      · exact absurd q e2
      · rw [q, cal_some, if_neg (ne2 17), if_pos rfl, if_pos rfl, if_neg n1, bad_eq, cal_some, if_neg e2]
        exact Or.inr (Or.inr (Or.inr ⟨rfl, ⟨-1, rfl, by decide⟩, rfl⟩))
end SENT2
