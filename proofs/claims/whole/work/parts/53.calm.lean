/-! A quarter without a gust: runs, both sides. -/
theorem bt_or : ∀ m, m < 256 → ∀ g, g < 8 → ((nI m ||| ((1 : Int32) <<< (nI g &&& 31))).toNatClampNeg < 256 ∧ (nI m ||| ((1 : Int32) <<< (nI g &&& 31))) = nI (nI m ||| ((1 : Int32) <<< (nI g &&& 31))).toNatClampNeg) ∧ ∀ k, k < 8 → bt (nI m ||| ((1 : Int32) <<< (nI g &&& 31))) k = if k = g then 1 else bt (nI m) k := by decide +kernel
theorem bt_0 : ∀ k, k < 8 → bt 0 k = 0 := by decide +kernel
theorem loop2f {β γ β' γ' : Type} (F : Nat → Int32 → β → Option γ) (G : Nat → Int32 → β' → Option γ') (Inv : Nat → β → β' → Prop) (Post : Option γ → Option γ' → Prop) (n : Nat)
    (hs : ∀ m m' k b b', k < n → n - k ≤ m → n - k ≤ m' → Inv k b b' → (∃ c c', F (m + 1) (nI k) b = F m (nI (k + 1)) c ∧ G (m' + 1) (nI k) b' = G m' (nI (k + 1)) c' ∧ Inv (k + 1) c c') ∨ Post (F (m + 1) (nI k) b) (G (m' + 1) (nI k) b'))
    (he : ∀ m m' b b', Inv n b b' → Post (F (m + 1) (nI n) b) (G (m' + 1) (nI n) b')) :
    ∀ (d k fu fu' : Nat) b b', k + d = n → d < fu → d < fu' → Inv k b b' → Post (F fu (nI k) b) (G fu' (nI k) b') := by
  intro d
  induction d with
  | zero =>
    intro k fu fu' b b' hk hf hf' hi
    obtain ⟨m, rfl⟩ : ∃ m, fu = m + 1 := ⟨fu - 1, by omega⟩
    obtain ⟨m', rfl⟩ : ∃ m', fu' = m' + 1 := ⟨fu' - 1, by omega⟩
    have : k = n := by omega
    subst this
    exact he m m' b b' hi
  | succ d ih =>
    intro k fu fu' b b' hk hf hf' hi
    obtain ⟨m, rfl⟩ : ∃ m, fu = m + 1 := ⟨fu - 1, by omega⟩
    obtain ⟨m', rfl⟩ : ∃ m', fu' = m' + 1 := ⟨fu' - 1, by omega⟩
    rcases hs m m' k b b' (by omega) (by omega) (by omega) hi with ⟨c, c', h1, h2, h3⟩ | h
    · rw [h1, h2]
      exact ih (k + 1) m m' c c' (by omega) (by omega) (by omega) h3
    · exact h
/-- what is done so far: the first i owners of the order -/
def DnR (od : Nat → Nat) (i : Nat) (dn : Int32) : Prop := (∃ D, D < 256 ∧ dn = nI D) ∧ (∀ j, j < i → bt dn (od j) = 1) ∧ (∀ k, k < 8 → (∀ j, j < i → od j ≠ k) → bt dn k = 0)
theorem dnR_0 (od : Nat → Nat) : DnR od 0 0 := ⟨⟨0, by omega, rfl⟩, fun j h => by omega, fun k hk _ => bt_0 k hk⟩
theorem dnR_s {od : Nat → Nat} {i : Nat} {dn : Int32} (h : DnR od i dn) (h8 : ∀ j, j ≤ i → od j < 8) : DnR od (i + 1) (dn ||| ((1 : Int32) <<< (nI (od i) &&& 31))) := by
  obtain ⟨⟨D, hD, rfl⟩, h1, h2⟩ := h
  obtain ⟨⟨q1, q2⟩, q3⟩ := bt_or D hD (od i) (h8 i (Nat.le_refl _))
  refine ⟨⟨_, q1, q2⟩, fun j hj => ?_, fun k hk hne => ?_⟩
  · rw [q3 (od j) (h8 j (by omega))]
    by_cases e : od j = od i
    · rw [if_pos e]
    · rw [if_neg e]
      refine h1 j ?_
      by_cases e2 : j = i
      · rw [e2] at e
        exact absurd rfl e
      · omega
  · rw [q3 k hk, if_neg (fun e => hne i (by omega) e.symm)]
    exact h2 k hk (fun j hj => hne j (by omega))
section CLM
variable {N b r G : Nat} {B : Nat → Nat → Int32} {s th : Nat → Int32} {n : BN} {C0 : CM} {X0 : XM}
theorem runs28_eq {X : XM} {K : Int32 → Int32 → Int32 → XM → Option (Int32 × XM)} {od : Nat → Nat} {i : Nat} {dn a1 a3 : Int32} (hN : 2000 ≤ N) (hB : BankR B s n) (hX : WX s X0 X)
    (ho1 : ∀ i, i < n.2.2.1 → od i < n.2.2.1) (ho2 : ∀ k, k < n.2.2.1 → ∃ i, i < n.2.2.1 ∧ od i = k) (ho3 : ∀ i j, i < j → j < n.2.2.1 → sv B (od j) < sv B (od i) ∨ (sv B (od j) = sv B (od i) ∧ od i < od j)) (hi : i < n.2.2.1) (hd : DnR od i dn) :
    f_X11_runs_28 N K a1 dn a3 N (-1) 0 X = ldA (X.1 2) 845 5 (fun v3 => ldA (X.1 2) 845 (373 + nI (od i)) (fun v4 => (if v4 ≤ v3 then ldA (X.1 2) 845 (373 + nI (od i)) (fun v6 => (f_X11_runs_133 N K a1 (dn ||| ((1 : Int32) <<< (nI (od i) &&& 31))) a3 (nI (od i)) v6 X)) else ldA (X.1 2) 845 5 (fun v7 => (f_X11_runs_133 N K a1 (dn ||| ((1 : Int32) <<< (nI (od i) &&& 31))) a3 (nI (od i)) v7 X))))) := by
  obtain ⟨bw, bh, bO, bT⟩ := bk_bd hB
  obtain ⟨hd0, hd1, hd2⟩ := hd
  have x1 : X.1 2 2 = nI n.2.2.1 := (hX.1 2 (by omega)).trans (bk_o hB).2
  have hund : bt dn (od i) = 0 := by
    refine hd2 _ (by have := ho1 i hi; omega) (fun j hj e => ?_)
    have := ho3 j i hj hi
    rw [e] at this
    omega
  refine loop1 (fun m k q => f_X11_runs_28 N K a1 dn a3 m q k X) (fun k q => (q = -1 ∧ ∀ k', k' < k → bt dn k' = 1) ∨ ∃ g, g < k ∧ q = nI g ∧ bt dn g = 0 ∧ ∀ k', k' < k → bt dn k' = 0 → sv B k' < sv B g ∨ (sv B k' = sv B g ∧ g ≤ k'))
    (fun y => y = _) n.2.2.1 ?_ ?_ n.2.2.1 0 N (-1) (by omega) (by omega) (Or.inl ⟨rfl, fun k' h => by omega⟩)
  · intro m k q hk hq
    refine Or.inl ?_
    rw [f_X11_runs_28]
    obtain ⟨-, s2, s3, s4⟩ := sv_ok hB hk
    have x2 : X.1 2 (23 + k) = nI (sv B k) := (hX.1 _ (by omega)).trans s2
    simp (disch := omega) only [ldA_l, x1, le_nn, if_neg, bitOf_eq, cal_some, f_X11_runs_76, nI_al]
    rcases bt01 dn k with hb | hb
    · rw [hb, if_pos rfl]
      rcases hq with ⟨rfl, hq⟩ | ⟨g, hg, rfl, hg0, hg1⟩
      · rw [if_pos (by decide)]
        refine ⟨nI k, rfl, Or.inr ⟨k, by omega, rfl, hb, fun k' h1 h2 => ?_⟩⟩
        by_cases e : k' = k
        · subst e
          omega
        · have := hq k' (by omega)
          rw [this] at h2
          exact absurd h2 (by decide)
      · obtain ⟨-, t2, t3, t4⟩ := sv_ok hB (show g < n.2.2.1 by omega)
        have x3 : X.1 2 (23 + g) = nI (sv B g) := (hX.1 _ (by omega)).trans t2
        rw [if_neg (nI_nneg (by omega))]
        simp (disch := omega) only [nI_la, ldA_nI, x2, x3, le_nn]
        by_cases h : sv B k ≤ sv B g
        · rw [if_pos h]
          refine ⟨nI g, rfl, Or.inr ⟨g, by omega, rfl, hg0, fun k' h1 h2 => ?_⟩⟩
          by_cases e : k' = k
          · subst e
            omega
          · exact hg1 k' (by omega) h2
        · rw [if_neg h]
          refine ⟨nI k, rfl, Or.inr ⟨k, by omega, rfl, hb, fun k' h1 h2 => ?_⟩⟩
          by_cases e : k' = k
          · subst e
            omega
          · have := hg1 k' (by omega) h2
            omega
    · rw [hb, if_neg (by decide)]
      refine ⟨q, rfl, ?_⟩
      rcases hq with ⟨rfl, hq⟩ | ⟨g, hg, rfl, hg0, hg1⟩
      · refine Or.inl ⟨rfl, fun k' h1 => ?_⟩
        by_cases e : k' = k
        · rw [e]
          exact hb
        · exact hq k' (by omega)
      · refine Or.inr ⟨g, by omega, rfl, hg0, fun k' h1 h2 => ?_⟩
        by_cases e : k' = k
        · rw [e, hb] at h2
          exact absurd h2 (by decide)
        · exact hg1 k' (by omega) h2
  · intro m q hq
    have hoi := ho1 i hi
    rcases hq with ⟨rfl, hq⟩ | ⟨g, hg, rfl, hg0, hg1⟩
    · have := hq (od i) hoi
      rw [hund] at this
      exact absurd this (by decide)
    · have hgi : g = od i := by
        obtain ⟨j, hj, ej⟩ := ho2 g hg
        have hge := hg1 (od i) hoi hund
        by_cases h1 : j < i
        · have := hd1 j h1
          rw [ej, hg0] at this
          exact absurd this (by decide)
        · by_cases h2 : j = i
          · rw [← ej, h2]
          · have := ho3 i j (by omega) hj
            rw [ej] at this
            omega
      subst hgi
      show f_X11_runs_28 N K a1 dn a3 (m + 1) (nI (od i)) (nI n.2.2.1) X = _
      rw [f_X11_runs_28]
      simp (disch := omega) only [ldA_l, x1, le_nn, if_pos]
/-- one owner's run, as the reference does it -/
theorem runs_step {X : XM} {od : Nat → Nat} {i l g e m : Nat} {dn : Int32} (hN : 2000 ≤ N) (hB : BankR B s n) (hX : WX s X0 X)
    (ho1 : ∀ i, i < n.2.2.1 → od i < n.2.2.1) (ho2 : ∀ k, k < n.2.2.1 → ∃ i, i < n.2.2.1 ∧ od i = k) (ho3 : ∀ i j, i < j → j < n.2.2.1 → sv B (od j) < sv B (od i) ∨ (sv B (od j) = sv B (od i) ∧ od i < od j)) (hi : i < n.2.2.1) (hd : DnR od i dn)
    (hl : l ≤ 999) (hg : g ≤ 1000000000) (he : e ≤ 99) (xe : s 5 = nI e) (xg : X.1 2 (373 + od i) = nI g) :
    f_X11_runs_12 N (m + 1) (nI l) dn (nI i) X = f_X11_runs_12 N m (nI (l - min l (min e g))) (dn ||| ((1 : Int32) <<< (nI (od i) &&& 31))) (nI (i + 1)) (stX (stX (stX X 2 (373 + od i) (nI (g - min l (min e g)))) 2 (381 + od i) (X.1 2 (381 + od i) + nI (min l (min e g)))) 2 542 (X.1 2 542 + nI (min l (min e g)))) := by
  obtain ⟨bw, bh, bO, bT⟩ := bk_bd hB
  have hoi := ho1 i hi
  have x1 : X.1 2 2 = nI n.2.2.1 := (hX.1 2 (by omega)).trans (bk_o hB).2
  have x5 : X.1 2 5 = nI e := (hX.1 5 (by omega)).trans xe
  rw [f_X11_runs_12]
  simp (disch := omega) only [ldA_l, x1, le_nn, if_neg]
  rw [runs28_eq hN hB hX ho1 ho2 ho3 hi hd]
  have key : ∀ v, v = min l (min e g) → f_X11_runs_147 N (fun z1 z2 z3 c => f_X11_runs_12 N m z1 z2 z3 c) (nI l) (dn ||| ((1 : Int32) <<< (nI (od i) &&& 31))) (nI i) (nI (od i)) (nI v) X = f_X11_runs_12 N m (nI (l - min l (min e g))) (dn ||| ((1 : Int32) <<< (nI (od i) &&& 31))) (nI (i + 1)) (stX (stX (stX X 2 (373 + od i) (nI (g - min l (min e g)))) 2 (381 + od i) (X.1 2 (381 + od i) + nI (min l (min e g)))) 2 542 (X.1 2 542 + nI (min l (min e g)))) := by
    intro v hv
    have h1 : v ≤ l := by omega
    have h2 : v ≤ g := by omega
    unfold f_X11_runs_147
    simp (disch := omega) only [nI_la, ldA_nI, sxA_nI, xg, pk_sub, stX_ne, ldA_l, sxA_l, nI_al]
    rw [hv]
  simp (disch := omega) only [ldA_l, x5, nI_la, ldA_nI, xg, le_nn, f_X11_runs_133]
  by_cases h1 : g ≤ e
  · rw [if_pos h1]
    by_cases h2 : l ≤ g
    · rw [if_pos h2]
      exact key l (by omega)
    · rw [if_neg h2]
      exact key g (by omega)
  · rw [if_neg h1]
    by_cases h2 : l ≤ e
    · rw [if_pos h2]
      exact key l (by omega)
    · rw [if_neg h2]
      exact key e (by omega)
/-- what a calm leaves -/
def KpQ (r : Nat) (C C' : CM) (X X' : XM) : Prop := (∀ j, 3 ≤ j → C'.1 4 r j = C.1 4 r j) ∧ (∀ x, x ≠ 5 → C'.1 4 r 0 x = C.1 4 r 0 x) ∧ X'.1 2 541 = X.1 2 541
theorem calm_rel {C : CM} {X : XM} (hN : 2000 ≤ N) (hB : BankR B s n) (hG : G ≤ 1000000000) (hW : WI b r B s th C0 X0 C X) (hR : Rng G (C.1 4 r)) :
    ∃ C' X', f_X9_calm N b r C = some (0, C') ∧ f_X11_runs N X = some (0, X') ∧ WI b r B s th C0 X0 C' X' ∧ Rng G (C'.1 4 r) ∧ KpQ r C C' X X' := by
  obtain ⟨bw, bh, bO, bT⟩ := bk_bd hB
  have hcO := bk_cnt hB
  obtain ⟨od, ho, ho2, ho3'⟩ := bk_ord hB
  obtain ⟨-, ⟨e, he, e1, e2⟩, ⟨c, hc, c1, c2⟩⟩ := bk_run hB
  have ho1 : ∀ i, i < n.2.2.1 → od i < n.2.2.1 := fun i hi => (ho i hi).1
  have ho3 : ∀ i j, i < j → j < n.2.2.1 → sv B (od j) < sv B (od i) ∨ (sv B (od j) = sv B (od i) ∧ od i < od j) := by
    intro i j h1 h2
    obtain ⟨-, a2, a3, a4⟩ := sv_ok hB (ho1 j h2)
    obtain ⟨-, b2, b3, b4⟩ := sv_ok hB (ho1 i (by omega))
    have := ho3' i j h1 h2
    rw [a2, b2] at this
    simp (disch := omega) only [lt_nn, eq_nn] at this
    exact this
  unfold f_X9_calm f_X11_runs
  have x6 : X.1 2 6 = nI c := (hW.2.1 6 (by omega)).trans c2
  have b9 : C.1 3 b 0 9 = nI c := (congrFun (congrFun hW.1 0) 9).trans c1
  simp (disch := omega) only [ldA_l, x6, b9]
  refine loop2f (fun m i (q : Int32 × CM) => f_X9_calm_8 N b r m q.1 i q.2) (fun m i (q : Int32 × Int32 × XM) => f_X11_runs_12 N m q.1 q.2.1 i q.2.2)
    (fun i q q' => WI b r B s th C0 X0 q.2 q'.2.2 ∧ Rng G (q.2.1 4 r) ∧ KpQ r C q.2 X q'.2.2 ∧ (∃ l, l ≤ 999 ∧ q.1 = nI l ∧ q'.1 = nI l) ∧ DnR od i q'.2.1)
    (fun y z => ∃ C' X', y = some (0, C') ∧ z = some (0, X') ∧ WI b r B s th C0 X0 C' X' ∧ Rng G (C'.1 4 r) ∧ KpQ r C C' X X') n.2.2.1 ?_ ?_ n.2.2.1 0 N N (nI c, C) (nI c, 0, X) (by omega) (by omega) (by omega) ⟨hW, hR, ⟨fun _ _ => rfl, fun _ _ => rfl, rfl⟩, ⟨c, by omega, rfl, rfl⟩, dnR_0 od⟩
  · rintro m m' i ⟨a, D⟩ ⟨a', dn, Y⟩ hi hfm hfm' ⟨w, hr, hK, ⟨l, hl, ha, ha'⟩, hd⟩
    dsimp only at w hr hK ha ha' hd ⊢
    subst ha ha'
    have hoi := ho1 i hi
    have hS := wi_S w
    obtain ⟨⟨g, hg, hg1⟩, -⟩ := hr (od i) (by omega)
    have x3 : Y.1 2 (373 + od i) = nI g := (hS.1 1 (od i) (by omega) (by omega) (by omega)).symm.trans hg1
    have x4 : D.1 4 r 2 (od i) = Y.1 2 (381 + od i) := hS.1 2 (od i) (by omega) (by omega) (by omega)
    have x5 : D.1 4 r 0 5 = Y.1 2 542 := hS.2.2.1
    have b1 : D.1 3 b 6 0 = nI n.2.2.1 := (congrFun (congrFun w.1 6) 0).trans (bk_o hB).1
    have b2 : D.1 3 b 15 i = nI (od i) := (congrFun (congrFun w.1 15) i).trans (ho i hi).2
    have b3 : D.1 3 b 0 8 = nI e := (congrFun (congrFun w.1 0) 8).trans e1
    have hst := fun m => runs_step (m := m) hN hB (wi_X w) ho1 ho2 ho3 hi hd hl (by omega) he e2 x3
    by_cases hl0 : l = 0
    · subst hl0
      refine Or.inr ⟨D, Y, ?_, ?_, w, hr, hK⟩
      · simp (disch := omega) only [f_X9_calm_8, b1, le_nn, if_neg, if_pos, le_nl, rt]
      · refine loop1 (fun m k q => f_X11_runs_12 N m (nI 0) q k Y) (fun k q => DnR od k q) (fun y => y = some (0, Y)) n.2.2.1 ?_ ?_ (n.2.2.1 - i) i (m' + 1) dn (by omega) (by omega) hd
        · intro m2 k q hk hq
          refine Or.inl ⟨q ||| ((1 : Int32) <<< (nI (od k) &&& 31)), ?_, dnR_s hq (fun j hj => by have := ho1 j (by omega); omega)⟩
          have hok := ho1 k hk
          obtain ⟨⟨g', hg', hg1'⟩, -⟩ := hr (od k) (by omega)
          have x3' : Y.1 2 (373 + od k) = nI g' := (hS.1 1 (od k) (by omega) (by omega) (by omega)).symm.trans hg1'
          have h := runs_step (m := m2) hN hB (wi_X w) ho1 ho2 ho3 hk hq (show 0 ≤ 999 by omega) (by omega) he e2 x3'
          have z : (nI 0 : Int32) = 0 := rfl
          rw [Nat.zero_min, Nat.sub_zero, Nat.sub_zero, ← x3', stX_self, z, Int32.add_zero, stX_self, Int32.add_zero, stX_self] at h
          exact h
        · intro m2 q hq
          have x1 : Y.1 2 2 = nI n.2.2.1 := (w.2.1 2 (by omega)).trans (bk_o hB).2
          simp (disch := omega) only [f_X11_runs_12, ldA_l, x1, le_nn, if_pos, rt]
    · refine Or.inl ⟨(nI (l - min l (min e g)), stC (stC (stC D 4 r 1 (od i) (nI (g - min l (min e g)))) 4 r 2 (od i) (Y.1 2 (381 + od i) + nI (min l (min e g)))) 4 r 0 5 (Y.1 2 542 + nI (min l (min e g)))), (nI (l - min l (min e g)), dn ||| ((1 : Int32) <<< (nI (od i) &&& 31)), stX (stX (stX Y 2 (373 + od i) (nI (g - min l (min e g)))) 2 (381 + od i) (Y.1 2 (381 + od i) + nI (min l (min e g)))) 2 542 (Y.1 2 542 + nI (min l (min e g)))), ?_, hst m', ?_⟩
      · have h1 : min e g ≤ g := Nat.min_le_right _ _
        have h2 : min l (min e g) ≤ l := Nat.min_le_left _ _
        have h3 : min l (min e g) ≤ min e g := Nat.min_le_right _ _
        simp (disch := omega) only [f_X9_calm_8, b1, le_nn, if_neg, le_nl, ldA_nI, b2, hg1, b3, imin_nn, pk_sub, stA_nI, stC_row, x4, nI_al, bnd_v, x5]
      · refine ⟨wi_sc (wi_pair (wi_pair w (by omega) (by omega) (by omega) (by omega)) (by omega) (by omega) (by omega) (by omega)) (by omega), rng_c (rng_c (rng_g hr (by omega)) (by omega)) (by omega), ⟨fun j hj => ?_, fun x hx => ?_, ?_⟩, ⟨_, by omega, rfl, rfl⟩, dnR_s hd (fun j hj => by have := ho1 j (by omega); omega)⟩
        · dsimp only
          rw [stC_row (by omega), stC_row (by omega), stC_row (by omega)]
          exact hK.1 j hj
        · dsimp only
          rw [stC_ne (by omega), stC_row (by omega), stC_row (by omega)]
          exact hK.2.1 x hx
        · dsimp only
          rw [stX_ne (by omega), stX_ne (by omega), stX_ne (by omega)]
          exact hK.2.2
  · rintro m m' ⟨a, D⟩ ⟨a', dn, Y⟩ ⟨w, hr, hK, ⟨l, hl, ha, ha'⟩, hd⟩
    dsimp only at w hr hK ha ha' hd ⊢
    have b1 : D.1 3 b 6 0 = nI n.2.2.1 := (congrFun (congrFun w.1 6) 0).trans (bk_o hB).1
    have x1 : Y.1 2 2 = nI n.2.2.1 := (w.2.1 2 (by omega)).trans (bk_o hB).2
    refine ⟨D, Y, ?_, ?_, w, hr, hK⟩
    · simp (disch := omega) only [f_X9_calm_8, b1, le_nn, if_pos, rt]
    · simp (disch := omega) only [f_X11_runs_12, ldA_l, x1, le_nn, if_pos, rt]
end CLM
