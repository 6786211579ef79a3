/-! The constructors: what is made lies in a row of cells, from the first address on, in the order of making. -/
abbrev VV : Type := Int32 ⊕ (Int64 ⊕ Option Nat)
abbrev CD : Type := (Nat × Nat × List VV) ⊕ (Nat × List VV)
def vvV (b : Nat) (v : VV) : Value := match v with
  | .inl x => .int x
  | .inr (.inl x) => .long x
  | .inr (.inr none) => .null
  | .inr (.inr (some n)) => .ref (b + n)
def dft (t : Nat) : VV := match t with
  | 3 => .inr (.inl 0)
  | 4 => .inr (.inr none)
  | 5 => .inr (.inr none)
  | _ => .inl 0
def cdO (G : GX) (n : Nat) (c : CD) (H : Heap) : Prop := match c with
  | .inl (t, len, pre) => H[gS G + n]? = some (arrV (G.2.1 t) len (fun x => vvV (gS G) (pre.getD x (dft t))))
  | .inr (ci, fs) => ∃ r : vw_C, vwCl[ci]? = some r ∧ t_OB (gS G + n) (G.1.1 ci) r.2.2 (G.1.2 ci) H (fun x => vvV (gS G) (fs.getD x (.inl 0)))
def HD (G : GX) (D : List CD) (H : Heap) : Prop := H.size = gS G + D.length ∧ ∀ n c, D[n]? = some c → cdO G n c H
def nestL : List (String × Nat × MethodName) := [("GaleBank", 19, ⟨"GaleBank$Text", "<init>", "()V"⟩), ("GaleBank", 29, ⟨"GaleBank$Whole", "<init>", "()V"⟩), ("GaleBank$Whole", 15, ⟨"GaleBank$Bank", "<init>", "()V"⟩), ("GaleBank$Bank", 45, ⟨"GaleBank$Owners", "<init>", "()V"⟩), ("GaleBank$Whole", 22, ⟨"GaleBank$State", "<init>", "()V"⟩), ("GaleBank$Whole", 29, ⟨"GaleBank$Plan", "<init>", "()V"⟩), ("GaleBank$Whole", 36, ⟨"GaleBank$Sentence", "<init>", "()V"⟩), ("GaleBank", 40, ⟨"GaleBank$Bank", "<init>", "()V"⟩), ("GaleBank", 47, ⟨"GaleBank$Plan", "<init>", "()V"⟩), ("GaleBank", 54, ⟨"GaleBank$Sentence", "<init>", "()V"⟩), ("GaleBank$Past", 24, ⟨"GaleBank$State", "<init>", "()V"⟩), ("GaleBank", 68, ⟨"GaleBank$Wind", "<init>", "()V"⟩), ("GaleBank", 75, ⟨"GaleBank$Plots", "<init>", "()V"⟩), ("GaleBank", 82, ⟨"GaleBank$State", "<init>", "()V"⟩)]
def Kn (U : State) : Prop := (∀ q ∈ nestL, va_Nw (.methodLinkNest q.1 q.2.1 q.2.2 "GaleBank") U) ∧ va_AO "GaleBank$State" U ∧ va_AO "GaleBank$Whole" U
theorem Kn.at {s U : State} (h : Kn s) (hW : s.WarmedH U.vm) : Kn U := ⟨fun q hq => (h.1 q hq).warmM hW, h.2.1.moved hW.alike, h.2.2.moved hW.alike⟩
theorem Kn.blind {U : State} (g : JFrame) (mk : MethodId) (a : Array Value) (h : Kn U) : Kn (U.calling g mk a) := ⟨fun q hq => (h.1 q hq).same rfl rfl, h.2.1.moved (Vm.Alike.refl U.vm), h.2.2.moved (Vm.Alike.refl U.vm)⟩
/-- from pc, with this row of cells, the constructor comes to Z -/
def AD (l : Launch) (G : GX) (R : Room) (cs sl : Nat) (mt : MT) (Z : State → Array Value → List Frame → State → Prop) (pc : Nat) (lv : List (Nat × Value)) (st : List Value) (D : List CD) : Prop :=
  ∀ (p : Program) (e : Env) (s : State) (m : MethodId) (args : Array Value) (below : List Frame) (meth : Method) (c : Code) (H : Heap) (locs : List Loc) (ls : Array Slot),
    CXt G mt p s m args meth c → (Kn s ∧ meth.name = mt.1.name) → HD G D H → va_S (gP G) s.heap H locs → lv_has ls mt.2.2.1 lv →
    W p l e R s m args below meth c H locs cs sl (Z s args below) (F0 m pc ls st)
def rmE (d mc ms : Nat) : Room := { frames := d, cells := mc, slots := ms, locals := 60 * d }
def Qd (G : GX) (Q : List CD → Prop) : Array Value → State → Outcome → State → Prop := fun _ st oc t => (∃ D : List CD, oc = .returned none ∧ Q D ∧ HD G D t.heap) ∧ va_F (gP G) st t
def ZD (G : GX) (Q : List CD → Prop) (mc ms : Nat) : State → Array Value → List Frame → State → Prop := fun s args below => MQ below (Qd G Q) args s mc ms (gP G)
def CTD (l : Launch) (G : GX) (d mc ms : Nat) (mt : MT) (av : List Value) (D : List CD) (Q : List CD → Prop) : Prop :=
  Met l mt.1 (Cond.code mt.1 mt.2.1 mt.2.2.1 mt.2.2.2 :: AT) (rmE d mc ms) (va_Pc av (fun U => HD G D U.heap ∧ Kx G U ∧ Kn U)) (Qd G Q) mc ms (gP G)
theorem ctd_blind {G : GX} {av : List Value} {D : List CD} : FrameBlind (va_Pc av (fun U => HD G D U.heap ∧ Kx G U ∧ Kn U)) := fun a U g mk h => ⟨h.1, h.2.1, h.2.2.1.blind g mk a, h.2.2.2.blind g mk a⟩
theorem ctd_of {l : Launch} {G : GX} {d mc ms : Nat} {mt : MT} {av : List Value} {D : List CD} {Q : List CD → Prop} (hy : plainName mt.1.cls = true) (hn : (lg_sl av).length ≤ mt.2.2.1)
    (k : AD l G (rmE d mc ms) 0 0 mt (ZD G Q mc ms) 0 (lv_args 0 av) [] D) : CTD l G d mc ms mt av D Q := by
  refine Met.ofW (cc := mt.2.1) (maxL := mt.2.2.1) (ret := mt.2.2.2) hy rfl ?_
  intro p e s m args below meth c s₁ B hml hv
  obtain ⟨rfl, hH, hK, hN⟩ := hv
  have hts := atoms_spec (ws := Cond.code mt.1 mt.2.1 mt.2.2.1 mt.2.2.2 :: AT) B.pre
  have htab : ∀ x ∈ c.exceptionTable.toList, False := by
    obtain ⟨meth9, c9, h1, h2, -, -, -, -, h7, -⟩ := Cond.code_spec B.named (hts _ List.mem_cons_self)
    cases Option.some.inj (h1.symm.trans B.method)
    cases Option.some.inj (h2.symm.trans (Stand.of_body B).code)
    intro x hx
    rw [Array.isEmpty_iff.mp h7] at hx
    cases hx
  have hl := lv_entry av (n := mt.2.2.1) hn
  rw [lg_entry_eq]
  exact k p e s m _ below meth c s.heap [] _ ⟨B.exec, B.bytes, B.returns, hml, ⟨B.notSynchronized, htab⟩, findClass_of_methodNamed B.named, fun w h => hts w (List.mem_cons_of_mem _ h), hK⟩ ⟨hN, (name_of_methodNamed B.named B.method).1⟩ hH va_S.rf hl
/-! what a constructor does to the row -/
def dflT (ty : FieldType) : VV := match ty with
  | .long => .inr (.inl 0)
  | .object _ => .inr (.inr none)
  | .array _ => .inr (.inr none)
  | _ => .inl 0
def okT (ty : FieldType) : Bool := match ty with
  | .float => false
  | .double => false
  | _ => true
theorem dflT_ok {b : Nat} {ty : FieldType} (h : okT ty = true) : vvV b (dflT ty) = defaultValue ty := by cases ty <;> first | rfl | cases h
def tyC (ci : Nat) : Nat → FieldType := match ci with
  | 0 => tyX0
  | 1 => tyX1
  | 2 => tyX2
  | 3 => tyX3
  | 4 => tyX4
  | 5 => tyX5
  | 6 => tyX6
  | 7 => tyX7
  | 8 => tyX8
  | 9 => tyX9
  | 10 => tyX10
  | _ => tyX11
def nC (ci : Nat) : Nat := match ci with
  | 0 => 16
  | 1 => 11
  | 2 => 3
  | 3 => 4
  | 4 => 4
  | 5 => 6
  | 6 => 14
  | 7 => 7
  | 8 => 5
  | 9 => 4
  | 10 => 18
  | _ => 54
def dfl (ci : Nat) : List VV := (List.range (nC ci)).map (fun k => dflT (tyC ci k))
def dnw {α : Type} (D : List CD) (ci : Nat) (f : List CD → Nat → Option α) : Option α := f (D ++ [.inr (ci, dfl ci)]) D.length
def dna {α : Type} (D : List CD) (t len : Nat) (f : List CD → Nat → Option α) : Option α := f (D ++ [.inl (t, len, [])]) D.length
def dpf {α : Type} (D : List CD) (n ci x : Nat) (v : VV) (f : List CD → Option α) : Option α := match D[n]? with
  | some (.inr (ci', fs)) => if ci' = ci ∧ x < fs.length then f (D.set n (.inr (ci, fs.set x v))) else none
  | _ => none
def das {α : Type} (D : List CD) (n t x : Nat) (v : VV) (f : List CD → Option α) : Option α := match D[n]? with
  | some (.inl (t', len, pre)) => if t' = t ∧ x = pre.length ∧ x < len then f (D.set n (.inl (t, len, pre ++ [v]))) else none
  | _ => none
def daq {α : Type} (D : List CD) (q ci n t x : Nat) (f : List CD → Option α) : Option α := match D[q]? with
  | some (.inr (c', _)) => if c' = ci then das D n t x (.inr (.inr (some q))) f else none
  | _ => none
def dgr {α : Type} (D : List CD) (n ci x : Nat) (f : Nat → Option α) : Option α := match D[n]? with
  | some (.inr (ci', fs)) => match fs[x]? with
    | some (.inr (.inr (some q))) => if ci' = ci then f q else none
    | _ => none
  | _ => none
def dcal {α : Type} (o : Option (Int32 × List CD)) (f : List CD → Option α) : Option α := match o with
  | some q => f q.2
  | none => none
theorem hd_put {G : GX} {D : List CD} {H H1 : Heap} {n : Nat} {c : CD} (hH : HD G D H) (hn : n < D.length) (hc : cdO G n c H1) (hz : H1.size = H.size) (ho : ∀ q : Nat, q ≠ gS G + n → H1[q]? = H[q]?) : HD G (D.set n c) H1 := by
  refine ⟨by rw [hz, List.length_set]; exact hH.1, fun k c' hk => ?_⟩
  by_cases he : k = n
  · subst he
    rw [List.getElem?_set_self hn] at hk
    cases hk
    exact hc
  · rw [List.getElem?_set_ne (Ne.symm he)] at hk
    have h0 := hH.2 k c' hk
    have hne : gS G + k ≠ gS G + n := by omega
    unfold cdO at h0 ⊢
    split at h0
    · rw [ho _ hne]; exact h0
    · obtain ⟨r, h1, h2⟩ := h0
      exact ⟨r, h1, h2.kept (ho _ hne)⟩
theorem hd_push {G : GX} {D : List CD} {H H1 : Heap} {c : CD} (hH : HD G D H) (hc : cdO G D.length c H1) (hz : H1.size = H.size + 1) (ho : ∀ q : Nat, q < H.size → H1[q]? = H[q]?) : HD G (D ++ [c]) H1 := by
  refine ⟨by rw [hz, hH.1, List.length_append]; rfl, fun k c' hk => ?_⟩
  by_cases he : k < D.length
  · rw [List.getElem?_append_left he] at hk
    have h0 := hH.2 k c' hk
    have hlt : gS G + k < H.size := by rw [hH.1]; omega
    unfold cdO at h0 ⊢
    split at h0
    · rw [ho _ hlt]; exact h0
    · obtain ⟨r, h1, h2⟩ := h0
      exact ⟨r, h1, h2.kept (ho _ hlt)⟩
  · rw [List.getElem?_append_right (by omega)] at hk
    have hz2 : k - D.length < 1 := (List.getElem?_eq_some_iff.mp hk).1
    rw [show k - D.length = 0 by omega] at hk
    cases hk
    rw [show k = D.length by omega]
    exact hc
theorem hd_S {G : GX} {H0 H H1 : Heap} {locs : List Loc} (hS : va_S (gP G) H0 H locs) (hz : H1.size = H.size + 1) (ho : ∀ q : Nat, q < H.size → H1[q]? = H[q]?) : va_S (gP G) H0 H1 locs :=
  ⟨Nat.le_trans hS.1 (by omega), fun x h1 h2 => (ho x (Nat.lt_of_lt_of_le h1 hS.1)).trans (hS.2.1 x h1 h2), hS.2.2⟩
section RULES
variable {l : Launch} {G : GX} {R : Room} {cs sl : Nat} {mt : MT} {Z : State → Array Value → List Frame → State → Prop} {pc : Nat} {lv : List (Nat × Value)} {st : List Value} {D : List CD}
theorem ad_iconst {n : Int} {v : Int32} (hd : decode mt.2.1 pc = .ok (.iconst n, 1)) (hv : Int32.ofInt n = v) (k : AD l G R cs sl mt Z (pc + 1) lv (.int v :: st) D) : AD l G R cs sl mt Z pc lv st D :=
  fun p e s m args below meth c H locs ls C hN hH hS hl => lv_iconst C.1 C.2.1 hd hv (k p e s m args below meth c H locs ls C hN hH hS hl)
theorem ad_bipush {n : Int} {v : Int32} (hd : decode mt.2.1 pc = .ok (.bipush n, 2)) (hv : (Int8.ofInt n).toInt32 = v) (k : AD l G R cs sl mt Z (pc + 2) lv (.int v :: st) D) : AD l G R cs sl mt Z pc lv st D :=
  fun p e s m args below meth c H locs ls C hN hH hS hl => lv_bipush C.1 C.2.1 hd hv (k p e s m args below meth c H locs ls C hN hH hS hl)
theorem ad_sipush {n : Int} {v : Int32} (hd : decode mt.2.1 pc = .ok (.sipush n, 3)) (hv : (Int16.ofInt n).toInt32 = v) (k : AD l G R cs sl mt Z (pc + 3) lv (.int v :: st) D) : AD l G R cs sl mt Z pc lv st D :=
  fun p e s m args below meth c H locs ls C hN hH hS hl => lv_sipush C.1 C.2.1 hd hv (k p e s m args below meth c H locs ls C hN hH hS hl)
theorem ad_lconst {n : Fin 2} {v : Int64} (hd : decode mt.2.1 pc = .ok (.lconst n, 1)) (hv : Int64.ofNat (n : Nat) = v) (k : AD l G R cs sl mt Z (pc + 1) lv (.long v :: st) D) : AD l G R cs sl mt Z pc lv st D :=
  fun p e s m args below meth c H locs ls C hN hH hS hl => lv_lconst C.1 C.2.1 hd hv (k p e s m args below meth c H locs ls C hN hH hS hl)
theorem ad_ldc2 {index : Nat} {v : Int64} (hw : Cond.constantLong mt.1.cls index v ∈ AT) (hd : decode mt.2.1 pc = .ok (.ldc2_w index, 3)) (k : AD l G R cs sl mt Z (pc + 3) lv (.long v :: st) D) : AD l G R cs sl mt Z pc lv st D :=
  fun p e s m args below meth c H locs ls C hN hH hS hl => lv_ldc2 C.1 C.2.1 C.2.2.2.2.2.1 (C.2.2.2.2.2.2.1 _ hw) hd (k p e s m args below meth c H locs ls C hN hH hS hl)
theorem ad_iloadn {n : Fin 4} {x : Int32} (q : Nat) (hd : decode mt.2.1 pc = .ok (.iload_n n, 1)) (hl0 : lv[q]? = some ((n : Nat), .int x)) (k : AD l G R cs sl mt Z (pc + 1) lv (.int x :: st) D) : AD l G R cs sl mt Z pc lv st D :=
  fun p e s m args below meth c H locs ls C hN hH hS hl => lv_iload_n C.1 C.2.1 hd rfl (lv_at hl q hl0) (k p e s m args below meth c H locs ls C hN hH hS hl)
theorem ad_iload {n : Nat} {x : Int32} (q : Nat) (hd : decode mt.2.1 pc = .ok (.iload n, 2)) (hl0 : lv[q]? = some (n, .int x)) (k : AD l G R cs sl mt Z (pc + 2) lv (.int x :: st) D) : AD l G R cs sl mt Z pc lv st D :=
  fun p e s m args below meth c H locs ls C hN hH hS hl => lv_iload C.1 C.2.1 hd (lv_at hl q hl0) (k p e s m args below meth c H locs ls C hN hH hS hl)
theorem ad_aloadn {n : Fin 4} {x : Nat} (q : Nat) (hd : decode mt.2.1 pc = .ok (.aload_n n, 1)) (hl0 : lv[q]? = some ((n : Nat), .ref x)) (k : AD l G R cs sl mt Z (pc + 1) lv (.ref x :: st) D) : AD l G R cs sl mt Z pc lv st D :=
  fun p e s m args below meth c H locs ls C hN hH hS hl => lv_aload_n C.1 C.2.1 hd rfl (lv_at hl q hl0) (k p e s m args below meth c H locs ls C hN hH hS hl)
theorem ad_aload {n : Nat} {x : Nat} (q : Nat) (hd : decode mt.2.1 pc = .ok (.aload n, 2)) (hl0 : lv[q]? = some (n, .ref x)) (k : AD l G R cs sl mt Z (pc + 2) lv (.ref x :: st) D) : AD l G R cs sl mt Z pc lv st D :=
  fun p e s m args below meth c H locs ls C hN hH hS hl => lv_aload C.1 C.2.1 hd (lv_at hl q hl0) (k p e s m args below meth c H locs ls C hN hH hS hl)
theorem ad_istoren {n : Fin 4} {x : Int32} {lv' : List (Nat × Value)} (hd : decode mt.2.1 pc = .ok (.istore_n n, 1)) (hc : lc1 lv n = true) (hn : (n : Nat) < mt.2.2.1) (hl0 : lset lv n (.int x) = lv') (k : AD l G R cs sl mt Z (pc + 1) lv' st D) : AD l G R cs sl mt Z pc lv (.int x :: st) D :=
  fun p e s m args below meth c H locs ls C hN hH hS hl => lv_istore_n C.1 C.2.1 hd rfl hl hn rfl (fun ls' hl' => k p e s m args below meth c H locs ls' C hN hH hS (hl0 ▸ lset_has hc hl'))
theorem ad_istore {n : Nat} {x : Int32} {lv' : List (Nat × Value)} (hd : decode mt.2.1 pc = .ok (.istore n, 2)) (hc : lc1 lv n = true) (hn : n < mt.2.2.1) (hl0 : lset lv n (.int x) = lv') (k : AD l G R cs sl mt Z (pc + 2) lv' st D) : AD l G R cs sl mt Z pc lv (.int x :: st) D :=
  fun p e s m args below meth c H locs ls C hN hH hS hl => lv_istore C.1 C.2.1 hd hl hn rfl (fun ls' hl' => k p e s m args below meth c H locs ls' C hN hH hS (hl0 ▸ lset_has hc hl'))
theorem ad_astoren {n : Fin 4} {x : Nat} {lv' : List (Nat × Value)} (hd : decode mt.2.1 pc = .ok (.astore_n n, 1)) (hc : lc1 lv n = true) (hn : (n : Nat) < mt.2.2.1) (hl0 : lset lv n (.ref x) = lv') (k : AD l G R cs sl mt Z (pc + 1) lv' st D) : AD l G R cs sl mt Z pc lv (.ref x :: st) D :=
  fun p e s m args below meth c H locs ls C hN hH hS hl => lv_astore_n C.1 C.2.1 hd rfl hl hn rfl (fun ls' hl' => k p e s m args below meth c H locs ls' C hN hH hS (hl0 ▸ lset_has hc hl'))
theorem ad_astore {n : Nat} {x : Nat} {lv' : List (Nat × Value)} (hd : decode mt.2.1 pc = .ok (.astore n, 2)) (hc : lc1 lv n = true) (hn : n < mt.2.2.1) (hl0 : lset lv n (.ref x) = lv') (k : AD l G R cs sl mt Z (pc + 2) lv' st D) : AD l G R cs sl mt Z pc lv (.ref x :: st) D :=
  fun p e s m args below meth c H locs ls C hN hH hS hl => lv_astore C.1 C.2.1 hd hl hn rfl (fun ls' hl' => k p e s m args below meth c H locs ls' C hN hH hS (hl0 ▸ lset_has hc hl'))
theorem ad_iinc {i q : Nat} {n : Int} {x v : Int32} {lv' : List (Nat × Value)} (hd : decode mt.2.1 pc = .ok (.iinc i n, 3)) (hq : lv[q]? = some (i, .int x)) (hv : x + Int32.ofInt n = v) (hc : lc1 lv i = true) (hn : i < mt.2.2.1) (hl0 : lset lv i (.int v) = lv') (k : AD l G R cs sl mt Z (pc + 3) lv' st D) : AD l G R cs sl mt Z pc lv st D :=
  fun p e s m args below meth c H locs ls C hN hH hS hl => lv_iinc C.1 C.2.1 hd hl hq hv hn rfl (fun ls' hl' => k p e s m args below meth c H locs ls' C hN hH hS (hl0 ▸ lset_has hc hl'))
theorem ad_dup {a : Value} (hd : decode mt.2.1 pc = .ok (.dup, 1)) (ha : a.category = 1) (k : AD l G R cs sl mt Z (pc + 1) lv (a :: a :: st) D) : AD l G R cs sl mt Z pc lv (a :: st) D :=
  fun p e s m args below meth c H locs ls C hN hH hS hl => lv_dup C.1 C.2.1 hd ha (k p e s m args below meth c H locs ls C hN hH hS hl)
theorem ad_pop {a : Value} (hd : decode mt.2.1 pc = .ok (.pop, 1)) (ha : a.category = 1) (k : AD l G R cs sl mt Z (pc + 1) lv st D) : AD l G R cs sl mt Z pc lv (a :: st) D :=
  fun p e s m args below meth c H locs ls C hN hH hS hl => lv_pop C.1 C.2.1 hd ha (k p e s m args below meth c H locs ls C hN hH hS hl)
theorem ad_goto {off : Int} {tgt : Nat} (hd : decode mt.2.1 pc = .ok (.goto off, 3)) (ht : (pc : Int) + off = (tgt : Int)) (k : AD l G R cs sl mt Z tgt lv st D) : AD l G R cs sl mt Z pc lv st D :=
  fun p e s m args below meth c H locs ls C hN hH hS hl => lv_goto C.1 C.2.1 hd ht (k p e s m args below meth c H locs ls C hN hH hS hl)
theorem ad_if_eq {x : Int32} {off : Int} {tgt : Nat} (hd : decode mt.2.1 pc = .ok (.ifCond .eq off, 3)) (ht : (pc : Int) + off = (tgt : Int)) (kt : x = 0 → AD l G R cs sl mt Z tgt lv st D) (kf : ¬ (x = 0) → AD l G R cs sl mt Z (pc + 3) lv st D) : AD l G R cs sl mt Z pc lv (.int x :: st) D :=
  fun p e s m args below meth c H locs ls C hN hH hS hl => lv_if_eq C.1 C.2.1 hd ht (fun h => kt h p e s m args below meth c H locs ls C hN hH hS hl) (fun h => kf h p e s m args below meth c H locs ls C hN hH hS hl)
theorem ad_if_ne {x : Int32} {off : Int} {tgt : Nat} (hd : decode mt.2.1 pc = .ok (.ifCond .ne off, 3)) (ht : (pc : Int) + off = (tgt : Int)) (kt : ¬ x = 0 → AD l G R cs sl mt Z tgt lv st D) (kf : x = 0 → AD l G R cs sl mt Z (pc + 3) lv st D) : AD l G R cs sl mt Z pc lv (.int x :: st) D :=
  fun p e s m args below meth c H locs ls C hN hH hS hl => lv_if_ne C.1 C.2.1 hd ht (fun h => kt h p e s m args below meth c H locs ls C hN hH hS hl) (fun h => kf h p e s m args below meth c H locs ls C hN hH hS hl)
theorem ad_icmp_lt {x y : Int32} {off : Int} {tgt : Nat} (hd : decode mt.2.1 pc = .ok (.if_icmp .lt off, 3)) (ht : (pc : Int) + off = (tgt : Int)) (kt : x < y → AD l G R cs sl mt Z tgt lv st D) (kf : ¬ (x < y) → AD l G R cs sl mt Z (pc + 3) lv st D) : AD l G R cs sl mt Z pc lv (.int y :: .int x :: st) D :=
  fun p e s m args below meth c H locs ls C hN hH hS hl => lv_icmp_lt C.1 C.2.1 hd ht (fun h => kt h p e s m args below meth c H locs ls C hN hH hS hl) (fun h => kf h p e s m args below meth c H locs ls C hN hH hS hl)
theorem ad_icmp_ge {x y : Int32} {off : Int} {tgt : Nat} (hd : decode mt.2.1 pc = .ok (.if_icmp .ge off, 3)) (ht : (pc : Int) + off = (tgt : Int)) (kt : y ≤ x → AD l G R cs sl mt Z tgt lv st D) (kf : ¬ (y ≤ x) → AD l G R cs sl mt Z (pc + 3) lv st D) : AD l G R cs sl mt Z pc lv (.int y :: .int x :: st) D :=
  fun p e s m args below meth c H locs ls C hN hH hS hl => lv_icmp_ge C.1 C.2.1 hd ht (fun h => kt h p e s m args below meth c H locs ls C hN hH hS hl) (fun h => kf h p e s m args below meth c H locs ls C hN hH hS hl)
theorem ad_new {K : Int32 → List CD → Prop} {ci index : Nat} {r : vw_C} {f : List CD → Nat → Option (Int32 × List CD)} (h : SAT (dnw D ci f) K) (hr : vwCl[ci]? = some r) (hty : ∀ k, k < r.2.2 → parseFieldDescriptor (r.2.1 k).2.2.1 = some (tyC ci k)) (hok : ∀ k, k < r.2.2 → okT (tyC ci k) = true) (hnc : nC ci = r.2.2)
    (h1 : Cond.classLink mt.1.cls index r.1 ∈ AT) (h2 : Cond.instantiable r.1 r.2.2 ∈ AT) (h3 : Cond.initialized r.1 ∈ AT) (hc1 : cs + 1 ≤ R.cells) (hc2 : sl + r.2.2 ≤ R.slots) (hd : decode mt.2.1 pc = .ok (.new index, 3))
    (kk : ∀ (D' : List CD) (q : Nat), SAT (f D' q) K → AD l G R (cs + 1) (sl + r.2.2) mt Z (pc + 3) lv (.ref (gS G + q) :: st) D') : AD l G R cs sl mt Z pc lv st D := by
  intro p e s m args below meth c H locs ls C hN hH hS hl
  obtain ⟨hx', hb, hret, hml, hlk, hown, hts, hK⟩ := id C
  have hKn := hK.2.1.1 ci _ hr
  refine W.newcK hx' hb hown (hts _ h1) (hts _ h2) (hts _ h3) rfl hd hc1 hc2 hKn.2.1 rfl fun H1 kC hkC e1 z1 o1 => ?_
  have e2 := hH.1
  rw [e2] at e1
  have hob := u_born (tyC ci) hts (clF_of hr).1 hKn hkC e1 hty
  show W p l e R s m args below meth c H1 locs (cs + 1) (sl + r.2.2) (Z s args below) (F0 m (pc + 3) ls (.ref H.size :: st))
  rw [e2]
  refine kk _ _ h p e s m args below meth c H1 locs ls C hN (hd_push hH ?_ z1 o1) (hd_S hS z1 o1) hl
  refine ⟨r, hr, hob.to (fun k hk => ?_)⟩
  rw [← dflT_ok (hok k hk)]
  have : (dfl ci).getD k (.inl 0) = dflT (tyC ci k) := by
    unfold dfl
    rw [List.getD_eq_getElem?_getD, List.getElem?_map, List.getElem?_range (by rw [hnc]; exact hk)]
    rfl
  rw [this]
theorem ad_newa {K : Int32 → List CD → Prop} {t len : Nat} {n : Int32} {atype : ArrayType} {f : List CD → Nat → Option (Int32 × List CD)} (h : SAT (dna D t len f) K) (ht : t < 4) (hty : newarray.typeOf atype = tyE t) (h1 : Cond.arrayClass (newarray.typeOf atype) ∈ AT) (hn : ¬ n < 0) (hlen : n.toNatClampNeg = len) (hb' : len * componentBytes (newarray.typeOf atype) ≤ 536870912) (hc1 : cs + 1 ≤ R.cells) (hc2 : sl + len ≤ R.slots) (hd : decode mt.2.1 pc = .ok (.newarray atype, 2))
    (kk : ∀ (D' : List CD) (q : Nat), SAT (f D' q) K → AD l G R (cs + 1) (sl + len) mt Z (pc + 2) lv (.ref (gS G + q) :: st) D') : AD l G R cs sl mt Z pc lv (.int n :: st) D := by
  intro p e s m args below meth c H locs ls C hN hH hS hl
  obtain ⟨hx', hb, hret, hml, hlk, hown, hts, hK⟩ := id C
  refine va_newaK hx' hb (hts _ h1) rfl hd rfl hn hlen hb' hc1 hc2 hH.1 fun H1 cA e1 z1 o1 hAr hfc => ?_
  have z2 : H1.size = H.size + 1 := by rw [z1, hH.1]
  have o2 : ∀ q : Nat, q < H.size → H1[q]? = H[q]? := fun q hq => o1 q (by rw [← hH.1]; exact hq)
  refine kk _ _ h p e s m args below meth c H1 locs ls C hN (hd_push hH ?_ z2 o2) (hd_S hS z2 o2) hl
  have hra := (hK.2.1.2 t _ (tysG_at (by omega))).2
  have hcA : cA = G.2.1 t := by
    rw [hty] at hfc
    have : s.vm.findClass ("[" ++ (tyE t).toString) = some (G.2.1 t) := by
      match t, ht, hra with
      | 0, _, h => exact h
      | 1, _, h => exact h
      | 2, _, h => exact h
      | 3, _, h => exact h
    exact Option.some.inj (hfc.symm.trans this)
  show H1[gS G + D.length]? = some (arrV (G.2.1 t) len (fun x => vvV (gS G) (([] : List VV).getD x (dft t))))
  rw [e1, hcA, hty]
  congr 2
  funext x
  match t, ht with
  | 0, _ => rfl
  | 1, _ => rfl
  | 2, _ => rfl
  | 3, _ => rfl
theorem ad_newq {K : Int32 → List CD → Prop} {t len index : Nat} {n : Int32} {CC : String} {f : List CD → Nat → Option (Int32 × List CD)} (h : SAT (dna D t len f) K) (ht : t = 4 ∨ t = 5) (hty : tyE t = .object CC) (h1 : Cond.classLink mt.1.cls index CC ∈ AT) (hn : ¬ n < 0) (hlen : n.toNatClampNeg = len) (hb' : len * 4 ≤ 536870912) (hc1 : cs + 1 ≤ R.cells) (hc2 : sl + len ≤ R.slots) (hd : decode mt.2.1 pc = .ok (.anewarray index, 3)) (hov : CC = "GaleBank$State" ∨ CC = "GaleBank$Whole")
    (kk : ∀ (D' : List CD) (q : Nat), SAT (f D' q) K → AD l G R (cs + 1) (sl + len) mt Z (pc + 3) lv (.ref (gS G + q) :: st) D') : AD l G R cs sl mt Z pc lv (.int n :: st) D := by
  intro p e s m args below meth c H locs ls C hN hH hS hl
  obtain ⟨hx', hb, hret, hml, hlk, hown, hts, hK⟩ := id C
  subst hlen
  have hao : va_AO CC s := by
    rcases hov with rfl | rfl
    · exact hN.1.2.1
    · exact hN.1.2.2
  refine W.anew hx' hb hown (hts _ h1) (va_AO.use hao) rfl hd rfl hn hb' hc1 hc2 fun cA kA comp f1 f2 f3 f4 => ?_
  generalize hH1 : H.push ({ cls := cA, slots := Array.replicate n.toNatClampNeg .null, vm := .none } : Cell) = H1
  have z1 : H1.size = H.size + 1 := by rw [← hH1, Array.size_push]
  have e1 : H1[H.size]? = some (arrV cA n.toNatClampNeg (fun _ => .null)) := by rw [← hH1, Array.getElem?_push_size, ← arrV_new]
  have o1 : ∀ q : Nat, q < H.size → H1[q]? = H[q]? := fun q hq => by rw [← hH1, Array.getElem?_push, if_neg (Nat.ne_of_lt hq)]
  show W p l e R s m args below meth c H1 locs (cs + 1) (sl + n.toNatClampNeg) (Z s args below) (F0 m (pc + 3) ls (.ref H.size :: st))
  have e2 := hH.1
  rw [e2] at e1 ⊢
  refine kk _ _ h p e s m args below meth c H1 locs ls C hN (hd_push hH ?_ z1 o1) (hd_S hS z1 o1) hl
  have hra := (hK.2.1.2 t _ (tysG_at (by omega))).2
  have hcA : cA = G.2.1 t := by
    dsimp only at hra
    rw [hty] at hra
    obtain ⟨kA2, comp2, g1, g2, g3, g4⟩ := hra
    exact Option.some.inj (f1.symm.trans g4)
  show H1[gS G + D.length]? = some (arrV (G.2.1 t) n.toNatClampNeg (fun x => vvV (gS G) (([] : List VV).getD x (dft t))))
  rw [e1, hcA]
  congr 2
  funext x
  rcases ht with rfl | rfl <;> rfl
theorem d_obj {n ci : Nat} {x : Nat} {v : VV} {K : Int32 → List CD → Prop} {f : List CD → Option (Int32 × List CD)} (h : SAT (dpf D n ci x v f) K) : ∃ fs, D[n]? = some (.inr (ci, fs)) ∧ x < fs.length ∧ SAT (f (D.set n (.inr (ci, fs.set x v)))) K := by
  unfold dpf at h
  split at h
  · rename_i ci' fs hD
    split at h
    · rename_i hc
      obtain ⟨rfl, hx⟩ := hc
      exact ⟨fs, hD, hx, h⟩
    · exact h.elim
  · exact h.elim
/-- putfield, final or not -/
theorem ad_pf {K : Int32 → List CD → Prop} {n ci x index : Nat} {r : vw_C} {v : VV} {w : Value} {ty : FieldType} {f : List CD → Option (Int32 × List CD)} (h : SAT (dpf D n ci x v f) K) (hr : vwCl[ci]? = some r) (hx : x < r.2.2) (hw : Cond.fieldLink mt.1.cls index r.1 (r.2.1 x).2.1 (r.2.1 x).2.2.1 ∈ AT) (hvw : vvV (gS G) v = w) (hty : parseFieldDescriptor (r.2.1 x).2.2.1 = some ty) (hn : narrow ty w = w) (hfit : fits ty w = true) (hini : mt.1.name = "<init>") (hown' : r.1 = mt.1.cls) (hd : decode mt.2.1 pc = .ok (.putfield index, 3))
    (kk : ∀ D' : List CD, SAT (f D') K → AD l G R cs sl mt Z (pc + 3) lv st D') : AD l G R cs sl mt Z pc lv (w :: .ref (gS G + n) :: st) D := by
  obtain ⟨fs, hD, hxl, h⟩ := d_obj h
  subst hvw
  intro p e s m args below meth c H locs ls C hN hH hS hl
  obtain ⟨hx', hb, hret, hml, hlk, hown, hts, hK⟩ := id C
  obtain ⟨r', hr', cell, q1, q2, q3, q4⟩ := hH.2 n _ hD
  cases Option.some.inj (hr.symm.trans hr')
  obtain ⟨hin, ⟨ty0, hty0⟩, hnm, hfo⟩ := clF_of hr
  have hap := va_apart (own := mt.1.cls) hts hin ty0 hty0 hnm hK.2.1 hr
  obtain ⟨hSl, hfc, kC, hkC, hkind⟩ := hK.2.1.1 ci _ hr
  obtain ⟨cf, kf, fi, fd, hi, hsl⟩ := hSl x hx
  have hlay := hts _ (hin _ (u_in_lay hx))
  unfold u_lay at hlay
  have hst := (u_facts hfc hkC (u_lays hts hin hx) hi).1
  have hnl : n < D.length := (List.getElem?_eq_some_iff.mp hD).1
  have fin : ∀ (H' : Heap) (locs' : List Loc), H'[gS G + n]? = some (cell.setSlot (G.1.2 ci x) (vvV (gS G) v)) → H'.size = H.size → (∀ q, q ≠ gS G + n → H'[q]? = H[q]?) → va_S (gP G) s.heap H' locs' → W p l e R s m args below meth c H' locs' cs sl (Z s args below) (F0 m (pc + 3) ls st) := by
    intro H' locs' e1 e2 e3 hS'
    refine kk _ h p e s m args below meth c H' locs' ls C hN (hd_put hH hnl ?_ e2 e3) hS' hl
    refine ⟨r, hr, t_OB.to (V := updV (fun x => vvV (gS G) (fs.getD x (.inl 0))) x (vvV (gS G) v)) ⟨_, e1, q2, q3, t_set q4 hap hx _⟩ (fun k _ => ?_)⟩
    unfold updV
    by_cases hk : k = x
    · subst hk
      rw [if_pos rfl, List.getD_eq_getElem?_getD, List.getElem?_set_self hxl]
      rfl
    · rw [if_neg hk]
      show vvV (gS G) (fs.getD k (.inl 0)) = _
      rw [List.getD_eq_getElem?_getD, List.getD_eq_getElem?_getD, List.getElem?_set_ne (Ne.symm hk)]
  by_cases hfin : (r.2.1 x).2.2.2 = true
  · rw [if_pos hfin] at hlay
    have hcf : m.cls = cf := by
      obtain ⟨_, _, c', _, _, _, -, -, hf', -, -, -, hown2, -⟩ := Cond.laysFinal_spec hlay
      have e1 : c' = cf := by have := hi.symm.trans hf'; simp at this; exact this.1.symm
      rw [hfo x hx, hown'] at hown2
      rw [← e1]; exact Option.some.inj (hown.symm.trans hown2)
    have h6 := u_fits hfc hkC hkind (Or.inr hlay) hi hty hn hfit
    refine W.putFinK hx' hb hown (hts _ hw) (by rw [← hfo x hx]; exact hi) hst hcf (hN.2.trans hini) (by rw [q2]; exact h6) q1 q3 (by rw [hsl]; exact k2_hasslot (q4 x hx)) rfl rfl hd fun H' e1 e2 e3 => ?_
    rw [hsl] at e1 ⊢
    exact fin H' _ e1 e2 e3 (hS.put e2 e3 (Nat.le_add_right _ _))
  · rw [if_neg hfin] at hlay
    have h6 := u_store hfc hkC hkind hlay hi hty hn hfit
    refine W.putK hx' hb (f := fd) ⟨hown, hts _ hw, ⟨_, _, _, by rw [← hfo x hx]; exact hi⟩, hst⟩ (by rw [q2]; exact h6) q1 q3 (by rw [hsl]; exact k2_hasslot (q4 x hx)) rfl rfl hd fun H' e1 e2 e3 => ?_
    rw [hsl] at e1 ⊢
    exact fin H' _ e1 e2 e3 (hS.put e2 e3 (Nat.le_add_right _ _))
theorem d_arr {n t : Nat} {x : Nat} {v : VV} {K : Int32 → List CD → Prop} {f : List CD → Option (Int32 × List CD)} (h : SAT (das D n t x v f) K) : ∃ len pre, D[n]? = some (.inl (t, len, pre)) ∧ x = pre.length ∧ x < len ∧ SAT (f (D.set n (.inl (t, len, pre ++ [v])))) K := by
  unfold das at h
  split at h
  · rename_i t' len pre hD
    split at h
    · rename_i hc
      obtain ⟨rfl, hx, hl⟩ := hc
      exact ⟨len, pre, hD, hx, hl, h⟩
    · exact h.elim
  · exact h.elim
theorem d_arrV {b t len : Nat} {pre : List VV} {v : VV} (cA : ClassId) : (arrV cA len (fun x => vvV b (pre.getD x (dft t)))).setSlot pre.length (vvV b v) = arrV cA len (fun x => vvV b ((pre ++ [v]).getD x (dft t))) := by
  rw [arrV_store]
  congr 1
  funext x
  unfold updV
  by_cases hx : x = pre.length
  · subst hx
    rw [if_pos rfl, List.getD_eq_getElem?_getD, List.getElem?_append_right (Nat.le_refl _), Nat.sub_self]
    rfl
  · rw [if_neg hx]
    show vvV b (pre.getD x (dft t)) = _
    rw [List.getD_eq_getElem?_getD, List.getD_eq_getElem?_getD]
    by_cases hl : x < pre.length
    · rw [List.getElem?_append_left hl]
    · rw [List.getElem?_eq_none (by omega), List.getElem?_eq_none (by rw [List.length_append]; simp; omega)]
theorem ad_iast {K : Int32 → List CD → Prop} {n x : Nat} {j v : Int32} {f : List CD → Option (Int32 × List CD)} (h : SAT (das D n 0 x (.inl v) f) K) (hj0 : ¬ j < 0) (hj : j.toNatClampNeg = x) (hd : decode mt.2.1 pc = .ok (.iastore, 1))
    (kk : ∀ D' : List CD, SAT (f D') K → AD l G R cs sl mt Z (pc + 1) lv st D') : AD l G R cs sl mt Z pc lv (.int v :: .int j :: .ref (gS G + n) :: st) D := by
  obtain ⟨len, pre, hD, hx, hlt, h⟩ := d_arr h
  intro p e s m args below meth c H locs ls C hN hH hS hl
  have hK := C.2.2.2.2.2.2.2
  have hc0 : H[gS G + n]? = some (arrV (G.2.1 0) len (fun x => vvV (gS G) (pre.getD x (dft 0)))) := hH.2 n _ hD
  refine W.iast C.1 C.2.1 hc0 (arr_of hK (t := 0) (by decide) len _) (fun q => by cases q) (by rw [arrV_size, hj]; exact fun q => q.elim hj0 (fun q => absurd q (by omega))) rfl rfl hd fun H1 e1 e2 e3 => ?_
  refine kk _ h p e s m args below meth c H1 _ ls C hN (hd_put hH (List.getElem?_eq_some_iff.mp hD).1 ?_ e2 e3) (hS.put e2 e3 (Nat.le_add_right _ _)) hl
  show H1[gS G + n]? = _
  rw [e1, hj, hx]
  exact congrArg some (d_arrV (v := .inl v) _)
theorem ad_last {K : Int32 → List CD → Prop} {n x : Nat} {j : Int32} {v : Int64} {f : List CD → Option (Int32 × List CD)} (h : SAT (das D n 3 x (.inr (.inl v)) f) K) (hj0 : ¬ j < 0) (hj : j.toNatClampNeg = x) (hd : decode mt.2.1 pc = .ok (.lastore, 1))
    (kk : ∀ D' : List CD, SAT (f D') K → AD l G R cs sl mt Z (pc + 1) lv st D') : AD l G R cs sl mt Z pc lv (.long v :: .int j :: .ref (gS G + n) :: st) D := by
  obtain ⟨len, pre, hD, hx, hlt, h⟩ := d_arr h
  intro p e s m args below meth c H locs ls C hN hH hS hl
  have hK := C.2.2.2.2.2.2.2
  have hc0 : H[gS G + n]? = some (arrV (G.2.1 3) len (fun x => vvV (gS G) (pre.getD x (dft 3)))) := hH.2 n _ hD
  refine W.last C.1 C.2.1 hc0 (arr_of hK (t := 3) (by decide) len _) (fun q => by cases q) (by rw [arrV_size, hj]; exact fun q => q.elim hj0 (fun q => absurd q (by omega))) rfl rfl hd fun H1 e1 e2 e3 => ?_
  refine kk _ h p e s m args below meth c H1 _ ls C hN (hd_put hH (List.getElem?_eq_some_iff.mp hD).1 ?_ e2 e3) (hS.put e2 e3 (Nat.le_add_right _ _)) hl
  show H1[gS G + n]? = _
  rw [e1, hj, hx]
  exact congrArg some (d_arrV (v := .inr (.inl v)) _)
/-- an object put into an array of references -/
theorem ad_aast {K : Int32 → List CD → Prop} {n x t q ci : Nat} {j : Int32} {r : vw_C} {fs : List VV} {f : List CD → Option (Int32 × List CD)} (h : SAT (daq D q ci n t x f) K) (ht : t = 4 ∨ t = 5) (hr : vwCl[ci]? = some r) (hty : tyE t = .object r.1) (hj0 : ¬ j < 0) (hj : j.toNatClampNeg = x) (hfs : fs = fs) (hd : decode mt.2.1 pc = .ok (.aastore, 1))
    (kk : ∀ D' : List CD, SAT (f D') K → AD l G R cs sl mt Z (pc + 1) lv st D') : AD l G R cs sl mt Z pc lv (.ref (gS G + q) :: .int j :: .ref (gS G + n) :: st) D := by
  unfold daq at h
  split at h
  · rename_i c' fq hq
    split at h
    · rename_i hcc
      subst hcc
      obtain ⟨len, pre, hD, hx, hlt, h⟩ := d_arr h
      intro p e s m args below meth c H locs ls C hN hH hS hl
      have hK := C.2.2.2.2.2.2.2
      have hc0 : H[gS G + n]? = some (arrV (G.2.1 t) len (fun x => vvV (gS G) (pre.getD x (dft t)))) := hH.2 n _ hD
      obtain ⟨r', hr', cellV, g1, g2, g3, -⟩ := hH.2 q _ hq
      have hcls := (hK.2.1.1 _ r hr).2
      have hra := (hK.2.1.2 t _ (tysG_at (by omega))).2
      dsimp only at hra
      rw [hty] at hra
      obtain ⟨kA, comp, k1, k2, k3, -⟩ := hra
      have hcomp : comp = G.1.1 c' := Option.some.inj (k3.symm.trans hcls.1)
      subst hcomp
      obtain ⟨kC, hkC, -⟩ := hcls.2
      refine W.aast C.1 C.2.1 hc0 (fun q h => by cases h) (fun h => by cases h) k1 k2 rfl hkC ⟨hj0, by rw [arrV_size, hj]; exact hlt⟩ g1 (fun q h => by rw [g3] at h; cases h) (by rw [g2]; exact hkC) (by rw [g2]; exact va_assign hcls) rfl rfl hd fun H1 e1 e2 e3 => ?_
      refine kk _ h p e s m args below meth c H1 _ ls C hN (hd_put hH (List.getElem?_eq_some_iff.mp hD).1 ?_ e2 e3) (hS.put e2 e3 (Nat.le_add_right _ _)) hl
      show H1[gS G + n]? = _
      rw [e1, hj, hx]
      exact congrArg some (d_arrV (v := .inr (.inr (some q))) _)
    · exact h.elim
  · exact h.elim
theorem ad_gr {K : Int32 → List CD → Prop} {n ci x index : Nat} {r : vw_C} {f : Nat → Option (Int32 × List CD)} (h : SAT (dgr D n ci x f) K) (hr : vwCl[ci]? = some r) (hx : x < r.2.2) (hw : Cond.fieldLink mt.1.cls index r.1 (r.2.1 x).2.1 (r.2.1 x).2.2.1 ∈ AT) (hd : decode mt.2.1 pc = .ok (.getfield index, 3))
    (kk : ∀ q : Nat, SAT (f q) K → AD l G R cs sl mt Z (pc + 3) lv (.ref (gS G + q) :: st) D) : AD l G R cs sl mt Z pc lv (.ref (gS G + n) :: st) D := by
  unfold dgr at h
  split at h
  · rename_i ci' fs hD
    split at h
    · rename_i q hq
      split at h
      · rename_i hcc
        subst hcc
        intro p e s m args below meth c H locs ls C hN hH hS hl
        obtain ⟨hx', hb, hret, hml, hlk, hown, hts, hK⟩ := id C
        obtain ⟨r', hr', cell, q1, q2, q3, q4⟩ := hH.2 n _ hD
        cases Option.some.inj (hr.symm.trans hr')
        obtain ⟨hin, -, -, hfo⟩ := clF_of hr
        obtain ⟨hSl, hfc, kC, hkC, hkind⟩ := hK.2.1.1 _ _ hr
        obtain ⟨cf, kf, fi, fd, hi, hsl⟩ := hSl x hx
        refine W.getf hx' hb hown (hts _ hw) (by rw [← hfo x hx]; exact hi) (u_facts hfc hkC (u_lays hts hin hx) hi).1 q1 (by rw [q3]; exact fun h => by cases h) (v := .ref (gS G + q)) ?_ rfl rfl hd (kk q h p e s m args below meth c H locs ls C hN hH hS hl)
        rw [hsl, q4 x hx]
        show some (vvV (gS G) (fs.getD x (.inl 0))) = _
        rw [List.getD_eq_getElem?_getD, hq]
        rfl
      · exact h.elim
    · exact h.elim
  · exact h.elim
theorem ad_oi {n index : Nat} (h1 : Cond.methodLink mt.1.cls index Lib.objectInit ∈ AT) (h2 : Cond.instanceMethod Lib.objectInit ∈ AT) (h3 : Cond.code Lib.objectInit ⟨#[0xb1]⟩ 1 none ∈ AT) (hR : 1 ≤ R.frames ∧ (st.map fun v => v.category).sum + 12 ≤ R.locals) (hd : decode mt.2.1 pc = .ok (.invokespecial index, 3))
    (kk : AD l G R cs sl mt Z (pc + 3) lv st D) : AD l G R cs sl mt Z pc lv (.ref n :: st) D := by
  intro p e s m args below meth c H locs ls C hN hH hS hl
  obtain ⟨hx', hb, hret, hml, hlk, hown, hts, hK⟩ := id C
  exact W.objInit hx' hb hown (hts _ h1) (hts _ h2) (hts _ h3) rfl (hl.1.trans hml.symm) rfl hd hR.1 (by show 2 * 0 + _ + 12 ≤ _; have := hR.2; omega) (kk p e s m args below meth c H locs ls C hN hH hS hl)
theorem ad_ret {d mc ms : Nat} {Q : List CD → Prop} (h : SAT (rt 0 D) (fun _ D' => Q D')) (hc1 : cs ≤ mc) (hc2 : sl ≤ ms) (hr : mt.2.2.2 = none) (hd : decode mt.2.1 pc = .ok (.return_, 1)) : AD l G (rmE d mc ms) cs sl mt (ZD G Q mc ms) pc lv [] D := by
  intro p e s m args below meth c H locs ls C hN hH hS hl
  obtain ⟨hx', hb, hret, hml, hlk, hown, hts, hK⟩ := C
  refine W.widen (k := mc) (n := ms) hc1 hc2 ?_
  exact W.vret hx' hb (hret.trans hr) (fun t ht hW => ⟨⟨D, rfl, h, by rw [ht]; exact hH⟩, hS.F ht⟩) hS.2.2 hd (hlocks := hlk.1)
theorem rund_go {p : Program} {e : Env} {s : State} {m : MethodId} {args : Array Value} {below : List Frame} {meth : Method} {c : Code} {H : Heap} {locs : List Loc} {Qf : State → Prop} {Q : List CD → Prop} {ls : Array Slot} {st0 rest : List Value} {a : Array Value} {mc ms : Nat}
    (hr : va_Run p l e R s m args below meth c H locs cs sl mc ms (F0 m pc ls st0) rest (Qd G Q a) (gP G)) (hS : va_S (gP G) s.heap H locs)
    (kk : ∀ (D' : List CD) (H1 : Heap) (locs1 : List Loc), Q D' → HD G D' H1 → va_S (gP G) s.heap H1 locs1 → W p l e R s m args below meth c H1 locs1 (cs + mc) (sl + ms) Qf (F0 m (pc + 3) ls rest)) : W p l e R s m args below meth c H locs cs sl Qf (F0 m pc ls st0) := by
  intro T hT X
  obtain ⟨v, st₀, t, T', L, h0, X', hL, e1, e2, ⟨⟨D', hv, hq, hM⟩, hz, hk⟩, stp⟩ := hr T hT X
  have hv := Outcome.returned.inj hv
  subst hv
  rw [h0] at hz hk
  obtain ⟨t2, a1, b1⟩ := kk D' T'.heap (locs ++ L) hq (by rw [e1]; exact hM)
    ⟨Nat.le_trans hS.1 (by rw [e1]; exact hz), fun q h1 h2 => by rw [e1, hk q (Nat.lt_of_lt_of_le h1 hS.1) h2]; exact hS.2.1 q h1 h2, fun q hq => by
      rcases List.mem_append.mp hq with h | h
      · exact hS.2.2 q h
      · exact hL q h⟩ T' rfl X'
  exact ⟨t2, stp t2 a1, b1⟩
theorem sat_dcal {K : Int32 → List CD → Prop} {o : Option (Int32 × List CD)} {f : List CD → Option (Int32 × List CD)} (h : SAT (dcal o f) K) : ∃ v c, o = some (v, c) ∧ SAT (f c) K := by
  unfold dcal at h
  split at h
  · rename_i q; exact ⟨q.1, q.2, rfl, h⟩
  · exact h.elim
/-- a constructor called, a nest mate's or not -/
theorem ad_init {K : Int32 → List CD → Prop} {mtc : MT} {d mc ms n index : Nat} {o : Option (Int32 × List CD)} {f : List CD → Option (Int32 × List CD)} (h : SAT (dcal o f) K) (hct : ∀ Q : List CD → Prop, SAT o (fun _ c => Q c) → CTD l G d mc ms mtc [.ref (gS G + n)] D Q) (hm : MWs mtc 0) (hi : Cond.instanceMethod mtc.1 ∈ AT) (hnm : mtc.1.name = "<init>") (hret : mtc.2.2.2 = none) (hlink : (mt.1.cls, index, mtc.1) ∈ nestL ∨ Cond.methodLink mt.1.cls index mtc.1 ∈ AT)
    (hR : d + 1 ≤ R.frames ∧ 8 + (mtc.2.2.1 + 11) + 60 * d ≤ R.locals) (hc1 : cs + mc ≤ R.cells) (hc2 : sl + ms ≤ R.slots) (hst : (st.map fun v => v.category).sum ≤ 8) (hd : decode mt.2.1 pc = .ok (.invokespecial index, 3))
    (kk : ∀ D' : List CD, SAT (f D') K → AD l G R (cs + mc) (sl + ms) mt Z (pc + 3) lv st D') : AD l G R cs sl mt Z pc lv (.ref (gS G + n) :: st) D := by
  obtain ⟨v, D', rfl, h⟩ := sat_dcal h
  have hct := hct (fun c => c = D') rfl
  intro p e s m args below meth c H locs ls C hN hH hS hl
  obtain ⟨hx', hb, hret', hml, hlk, hown, hts, hK⟩ := id C
  obtain ⟨hm3, hm4, hm5, hm6, hm7⟩ := hm
  have hG : GoodIn AT (Cond.code mtc.1 mtc.2.1 mtc.2.2.1 none :: AT) := good_all (by
    intro w hw
    rcases List.mem_cons.mp hw with h | h
    · rw [h, ← hret]; exact hm4
    · exact h)
  unfold CTD at hct
  rw [hret] at hct
  have pre : PreS s H (va_Pc [.ref (gS G + n)] (fun U => HD G D U.heap ∧ Kx G U ∧ Kn U)) [.ref (gS G + n)] := ⟨ctd_blind, fun U hU hW => ⟨rfl, by rw [hU]; exact hH, hK.at hS hU hW, hN.1.at hW⟩⟩
  have fin : ∀ (D'' : List CD) (H1 : Heap) (locs1 : List Loc), D'' = D' → HD G D'' H1 → va_S (gP G) s.heap H1 locs1 → W p l e R s m args below meth c H1 locs1 (cs + mc) (sl + ms) (Z s args below) (F0 m (pc + 3) ls st) := by
    rintro D'' H1 locs1 rfl hM hS1
    exact kk _ h p e s m args below meth c H1 locs1 ls C hN hM hS1 hl
  rcases hlink with hlink | hlink
  · exact rund_go (va_runIN (As := []) (rest := st) (b := gS G + n) (host := "GaleBank") ⟨hx', hb, hml, hown, hts⟩ hct ⟨va_cnB 0 hts hG rfl rfl rfl (hN.1.1 _ hlink) (hts _ hm3) ⟨hm5, hm6, hm7⟩ hR, hnm, hts _ hi⟩ pre rfl rfl hl.1 rfl (lv_room hst) hd ⟨hc1, hc2⟩) hS fin
  · exact rund_go (va_runI (As := []) (rest := st) (b := gS G + n) ⟨hx', hb, hml, hown, hts⟩ hct ⟨callB_of 0 hts hG rfl rfl rfl (hts _ hm3) (hts _ hlink) ⟨hm5, hm6, hm7⟩ hR, hnm, hts _ hi⟩ pre rfl rfl hl.1 rfl (lv_room hst) hd ⟨hc1, hc2⟩) hS fin
end RULES
