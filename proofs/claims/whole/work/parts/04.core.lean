/-- a method: its name, code, locals, answer -/
abbrev MT : Type := MethodName × ByteArray × Nat × Option FieldType
def rmD (d : Nat) : Room := { frames := d, cells := 0, slots := 0, locals := 60 * d }
def CXt (G : GX) (mt : MT) (p : Program) (s : State) (m : MethodId) (args : Array Value) (meth : Method) (c : Code) : Prop :=
  p.tables.exec = Jvm.exec ∧ c.code = mt.2.1 ∧ meth.sig.returnType = mt.2.2.2 ∧ c.maxLocals = mt.2.2.1 ∧ (meth.locks = false ∧ ∀ x ∈ c.exceptionTable.toList, False) ∧ s.vm.findClass mt.1.cls = some m.cls ∧ (∀ w ∈ AT, w.before args s = true) ∧ Kx G s
/-- from pc, with these locals, this stack and this memory, the method comes to Z -/
def AB (l : Launch) (G : GX) (R : Room) (cs sl : Nat) (mt : MT) (Z : State → Array Value → List Frame → State → Prop) (pc : Nat) (lv : List (Nat × Value)) (st : List Value) (M : Mem) : Prop :=
  ∀ (p : Program) (e : Env) (s : State) (m : MethodId) (args : Array Value) (below : List Frame) (meth : Method) (c : Code) (H : Heap) (locs : List Loc) (ls : Array Slot),
    CXt G mt p s m args meth c → Hold G M H → va_S (gP G) s.heap H locs → lv_has ls mt.2.2.1 lv →
    W p l e R s m args below meth c H locs cs sl (Z s args below) (F0 m pc ls st)
/-- a method's answer: an int, or none -/
def rv (mt : MT) (v : Int32) : Option Value := match mt.2.2.2 with
  | none => none
  | some _ => some (.int v)
/-- a method's end -/
def Qx (G : GX) (mt : MT) (Q : Int32 → Mem → Prop) : Array Value → State → Outcome → State → Prop := fun _ st oc t =>
  (∃ (v : Int32) (M : Mem), oc = .returned (rv mt v) ∧ Q v M ∧ Hold G M t.heap) ∧ va_F (gP G) st t
def ZQ (G : GX) (mt : MT) (Q : Int32 → Mem → Prop) : State → Array Value → List Frame → State → Prop := fun s args below => MQ below (Qx G mt Q) args s 0 0 (gP G)
/-- a method's contract at depth d -/
def CT (l : Launch) (G : GX) (d : Nat) (mt : MT) (av : List Value) (M : Mem) (Q : Int32 → Mem → Prop) : Prop :=
  Met l mt.1 (Cond.code mt.1 mt.2.1 mt.2.2.1 mt.2.2.2 :: AT) (rmD d) (va_Pc av (fun U => Hold G M U.heap ∧ Kx G U)) (Qx G mt Q) 0 0 (gP G)
theorem Kx.at {G : GX} {s U : State} {H : Heap} {locs : List Loc} (h : Kx G s) (hS : va_S (gP G) s.heap H locs) (hU : U.heap = H) (hW : s.WarmedH U.vm) : Kx G U := by
  obtain ⟨h1, h2, h3, ⟨n1, n2⟩, ⟨a1, a2⟩, ⟨b1, b2⟩, x1, x2, ⟨r1, r2⟩, ⟨c1, c2⟩, u1, u2, k1⟩ := h
  have hk : ∀ a : Nat, a < s.heap.size → ¬ gP G a → U.heap[a]? = s.heap[a]? := fun a g1 g2 => by rw [hU]; exact hS.2.1 a g1 g2
  have al := hW.alike
  have hb : gF G 2 < s.heap.size := Nat.lt_of_lt_of_le x2 h3
  exact ⟨h1, va_K.moved al h2, Nat.le_trans h3 (by rw [hU]; exact hS.1), ⟨n1.warmF hW, n2.warmF hW⟩, ⟨(a1.moved al).kept hk, (a2.moved al).kept hk⟩, ⟨(b1.moved al).kept hk, (b2.moved al).kept hk⟩, (x1.moved al).kept (hk _ hb (Nat.not_le.mpr x2)), x2,
    ⟨vk_R.warm hW r1, (vk_S.moved al r2).kept hk⟩, ⟨(c1.moved al).kept hk, (va_Zq.moved al c2).kept hk⟩, (vx_Zq.moved al u1).kept hk, (vx_Zq.moved al u2).kept hk, ⟨k1.1.warmC hW, k1.2.1.warmD hW, k1.2.2.1.warmD hW, k1.2.2.2.warmD hW⟩⟩
theorem Kx.blind {G : GX} {U : State} (g : JFrame) (mk : MethodId) (a : Array Value) (h : Kx G U) : Kx G (U.calling g mk a) := by
  have hv : (U.calling g mk a).vm = U.vm := rfl
  obtain ⟨h1, h2, h3, ⟨n1, n2⟩, ⟨a1, a2⟩, ⟨b1, b2⟩, x1, x2, ⟨r1, r2⟩, ⟨c1, c2⟩, u1, u2, k1⟩ := h
  have al : U.vm.Alike (U.calling g mk a).vm := Vm.Alike.refl U.vm
  exact ⟨h1, va_K.moved al h2, h3, ⟨n1.same rfl hv.symm, n2.same rfl hv.symm⟩, ⟨a1.moved al, a2.moved al⟩, ⟨b1.moved al, b2.moved al⟩, x1.moved al, x2, ⟨vk_R.same hv r1, vk_S.moved al r2⟩, ⟨c1.moved al, va_Zq.moved al c2⟩, vx_Zq.moved al u1, vx_Zq.moved al u2, ⟨k1.1.same rfl hv.symm, k1.2.1.same rfl hv.symm, k1.2.2.1.same rfl hv.symm, k1.2.2.2.same rfl hv.symm⟩⟩
theorem ct_blind {G : GX} {av : List Value} {M : Mem} : FrameBlind (va_Pc av (fun U => Hold G M U.heap ∧ Kx G U)) := fun a U g mk h => ⟨h.1, h.2.1, h.2.2.blind g mk a⟩
/-- a contract from its body -/
theorem ct_of {l : Launch} {G : GX} {d : Nat} {mt : MT} {av : List Value} {M : Mem} {Q : Int32 → Mem → Prop} (hy : plainName mt.1.cls = true) (hn : (lg_sl av).length ≤ mt.2.2.1)
    (k : AB l G (rmD d) 0 0 mt (ZQ G mt Q) 0 (lv_args 0 av) [] M) : CT l G d mt av M Q := by
  refine Met.ofW (cc := mt.2.1) (maxL := mt.2.2.1) (ret := mt.2.2.2) hy rfl ?_
  intro p e s m args below meth c s₁ B hml hv
  obtain ⟨rfl, hH, hK⟩ := hv
  have hts := atoms_spec (ws := Cond.code mt.1 mt.2.1 mt.2.2.1 mt.2.2.2 :: AT) B.pre
  have htab : ∀ x ∈ c.exceptionTable.toList, False := by
    obtain ⟨meth9, c9, h1, h2, -, -, -, -, h7, -⟩ := Cond.code_spec B.named (hts _ List.mem_cons_self)
    cases Option.some.inj (h1.symm.trans B.method)
    cases Option.some.inj (h2.symm.trans (Stand.of_body B).code)
    intro x hx
    rw [Array.isEmpty_iff.mp h7] at hx
    cases hx
  have hl := lv_entry av (n := mt.2.2.1) hn
  rw [lg_entry_eq]
  exact k p e s m _ below meth c s.heap [] _ ⟨B.exec, B.bytes, B.returns, hml, ⟨B.notSynchronized, htab⟩, findClass_of_methodNamed B.named, fun w h => hts w (List.mem_cons_of_mem _ h), hK⟩ hH va_S.rf hl
section RULES
variable {l : Launch} {G : GX} {R : Room} {cs sl : Nat} {mt : MT} {Z : State → Array Value → List Frame → State → Prop} {pc : Nat} {lv : List (Nat × Value)} {st : List Value} {M : Mem}
theorem ab_mem {M' : Mem} (h : M = M') (k : AB l G R cs sl mt Z pc lv st M') : AB l G R cs sl mt Z pc lv st M := h ▸ k
theorem ab_sub {lv' : List (Nat × Value)} (ks : List Nat) (h : lv_pick lv ks = lv') (k : AB l G R cs sl mt Z pc lv' st M) : AB l G R cs sl mt Z pc lv st M :=
  fun p e s m args below meth c H locs ls C hH hS hl => k p e s m args below meth c H locs ls C hH hS (lv_sub hl ks h)
theorem ab_iconst {n : Int} {v : Int32} (hd : decode mt.2.1 pc = .ok (.iconst n, 1)) (hv : Int32.ofInt n = v) (k : AB l G R cs sl mt Z (pc + 1) lv (.int v :: st) M) : AB l G R cs sl mt Z pc lv st M :=
  fun p e s m args below meth c H locs ls C hH hS hl => lv_iconst C.1 C.2.1 hd hv (k p e s m args below meth c H locs ls C hH hS hl)
theorem ab_bipush {n : Int} {v : Int32} (hd : decode mt.2.1 pc = .ok (.bipush n, 2)) (hv : (Int8.ofInt n).toInt32 = v) (k : AB l G R cs sl mt Z (pc + 2) lv (.int v :: st) M) : AB l G R cs sl mt Z pc lv st M :=
  fun p e s m args below meth c H locs ls C hH hS hl => lv_bipush C.1 C.2.1 hd hv (k p e s m args below meth c H locs ls C hH hS hl)
theorem ab_sipush {n : Int} {v : Int32} (hd : decode mt.2.1 pc = .ok (.sipush n, 3)) (hv : (Int16.ofInt n).toInt32 = v) (k : AB l G R cs sl mt Z (pc + 3) lv (.int v :: st) M) : AB l G R cs sl mt Z pc lv st M :=
  fun p e s m args below meth c H locs ls C hH hS hl => lv_sipush C.1 C.2.1 hd hv (k p e s m args below meth c H locs ls C hH hS hl)
theorem ab_lconst {n : Fin 2} {v : Int64} (hd : decode mt.2.1 pc = .ok (.lconst n, 1)) (hv : Int64.ofNat (n : Nat) = v) (k : AB l G R cs sl mt Z (pc + 1) lv (.long v :: st) M) : AB l G R cs sl mt Z pc lv st M :=
  fun p e s m args below meth c H locs ls C hH hS hl => lv_lconst C.1 C.2.1 hd hv (k p e s m args below meth c H locs ls C hH hS hl)
theorem ab_ldc {index : Nat} {v : Int32} (hw : Cond.constant mt.1.cls index v ∈ AT) (hd : decode mt.2.1 pc = .ok (.ldc index, 2)) (k : AB l G R cs sl mt Z (pc + 2) lv (.int v :: st) M) : AB l G R cs sl mt Z pc lv st M :=
  fun p e s m args below meth c H locs ls C hH hS hl => lv_ldc C.1 C.2.1 C.2.2.2.2.2.1 (C.2.2.2.2.2.2.1 _ hw) hd (k p e s m args below meth c H locs ls C hH hS hl)
theorem ab_ldc2 {index : Nat} {v : Int64} (hw : Cond.constantLong mt.1.cls index v ∈ AT) (hd : decode mt.2.1 pc = .ok (.ldc2_w index, 3)) (k : AB l G R cs sl mt Z (pc + 3) lv (.long v :: st) M) : AB l G R cs sl mt Z pc lv st M :=
  fun p e s m args below meth c H locs ls C hH hS hl => lv_ldc2 C.1 C.2.1 C.2.2.2.2.2.1 (C.2.2.2.2.2.2.1 _ hw) hd (k p e s m args below meth c H locs ls C hH hS hl)
theorem ab_iloadn {n : Fin 4} {x : Int32} (q : Nat) (hd : decode mt.2.1 pc = .ok (.iload_n n, 1)) (hl0 : lv[q]? = some ((n : Nat), .int x)) (k : AB l G R cs sl mt Z (pc + 1) lv (.int x :: st) M) : AB l G R cs sl mt Z pc lv st M :=
  fun p e s m args below meth c H locs ls C hH hS hl => lv_iload_n C.1 C.2.1 hd rfl (lv_at hl q hl0) (k p e s m args below meth c H locs ls C hH hS hl)
theorem ab_iload {n : Nat} {x : Int32} (q : Nat) (hd : decode mt.2.1 pc = .ok (.iload n, 2)) (hl0 : lv[q]? = some (n, .int x)) (k : AB l G R cs sl mt Z (pc + 2) lv (.int x :: st) M) : AB l G R cs sl mt Z pc lv st M :=
  fun p e s m args below meth c H locs ls C hH hS hl => lv_iload C.1 C.2.1 hd (lv_at hl q hl0) (k p e s m args below meth c H locs ls C hH hS hl)
theorem ab_lloadn {n : Fin 4} {x : Int64} (q : Nat) (hd : decode mt.2.1 pc = .ok (.lload_n n, 1)) (hl0 : lv[q]? = some ((n : Nat), .long x)) (k : AB l G R cs sl mt Z (pc + 1) lv (.long x :: st) M) : AB l G R cs sl mt Z pc lv st M :=
  fun p e s m args below meth c H locs ls C hH hS hl => lv_lload_n C.1 C.2.1 hd rfl (lv_at hl q hl0) (k p e s m args below meth c H locs ls C hH hS hl)
theorem ab_aloadn {n : Fin 4} {x : Nat} (q : Nat) (hd : decode mt.2.1 pc = .ok (.aload_n n, 1)) (hl0 : lv[q]? = some ((n : Nat), .ref x)) (k : AB l G R cs sl mt Z (pc + 1) lv (.ref x :: st) M) : AB l G R cs sl mt Z pc lv st M :=
  fun p e s m args below meth c H locs ls C hH hS hl => lv_aload_n C.1 C.2.1 hd rfl (lv_at hl q hl0) (k p e s m args below meth c H locs ls C hH hS hl)
theorem ab_aload {n : Nat} {x : Nat} (q : Nat) (hd : decode mt.2.1 pc = .ok (.aload n, 2)) (hl0 : lv[q]? = some (n, .ref x)) (k : AB l G R cs sl mt Z (pc + 2) lv (.ref x :: st) M) : AB l G R cs sl mt Z pc lv st M :=
  fun p e s m args below meth c H locs ls C hH hS hl => lv_aload C.1 C.2.1 hd (lv_at hl q hl0) (k p e s m args below meth c H locs ls C hH hS hl)
end RULES
/-- the locals with one of them set -/
def lset : List (Nat × Value) → Nat → Value → List (Nat × Value)
  | [], i, v => [(i, v)]
  | q :: r, i, v => if q.1 = i then (i, v) :: r else q :: lset r i v
def lc1 (lv : List (Nat × Value)) (i : Nat) : Bool := lv.all (fun q => q.2.category == 1) && va_nd (lv.map Prod.fst)
theorem lset_mem : ∀ (lv : List (Nat × Value)) (i : Nat) (v : Value), va_nd (lv.map Prod.fst) = true → ∀ q ∈ lset lv i v, q = (i, v) ∨ (q ∈ lv ∧ q.1 ≠ i)
  | [], i, v, _, q, h => by
    simp [lset] at h
    exact Or.inl h
  | a :: r, i, v, hn, q, h => by
    simp only [List.map_cons, va_nd, Bool.and_eq_true, decide_eq_true_eq] at hn
    simp only [lset] at h
    split at h
    · rename_i ha
      rcases List.mem_cons.mp h with h | h
      · exact Or.inl h
      · refine Or.inr ⟨List.mem_cons_of_mem _ h, fun e => hn.1 ?_⟩
        rw [ha, ← e]
        exact List.mem_map.mpr ⟨q, h, rfl⟩
    · rename_i ha
      rcases List.mem_cons.mp h with h | h
      · subst h
        exact Or.inr ⟨List.mem_cons_self, ha⟩
      · rcases lset_mem r i v hn.2 q h with h | h
        · exact Or.inl h
        · exact Or.inr ⟨List.mem_cons_of_mem _ h.1, h.2⟩
theorem lset_has {ls : Array Slot} {nL i : Nat} {lv : List (Nat × Value)} {v : Value} (hc : lc1 lv i = true) (h : lv_has ls nL ((i, v) :: lv.filter (fun q => !(q.1 == i) && !(q.1 + 1 == i && q.2.category == 2)))) : lv_has ls nL (lset lv i v) := by
  simp only [lc1, Bool.and_eq_true, List.all_eq_true] at hc
  refine ⟨h.1, h.2.1, fun q hq => h.2.2 q ?_⟩
  rcases lset_mem lv i v hc.2 q hq with e | ⟨e1, e2⟩
  · rw [e]; exact List.mem_cons_self
  · refine List.mem_cons_of_mem _ (List.mem_filter.mpr ⟨e1, ?_⟩)
    have h1 := hc.1 q e1
    have h2 : q.2.category = 1 := by simpa using h1
    simp [e2, h2]
section RULES
variable {l : Launch} {G : GX} {R : Room} {cs sl : Nat} {mt : MT} {Z : State → Array Value → List Frame → State → Prop} {pc : Nat} {lv : List (Nat × Value)} {st : List Value} {M : Mem}
theorem ab_istoren {n : Fin 4} {x : Int32} {lv' : List (Nat × Value)} (hd : decode mt.2.1 pc = .ok (.istore_n n, 1)) (hc : lc1 lv n = true) (hn : (n : Nat) < mt.2.2.1) (hl0 : lset lv n (.int x) = lv') (k : AB l G R cs sl mt Z (pc + 1) lv' st M) : AB l G R cs sl mt Z pc lv (.int x :: st) M :=
  fun p e s m args below meth c H locs ls C hH hS hl => lv_istore_n C.1 C.2.1 hd rfl hl hn rfl (fun ls' hl' => k p e s m args below meth c H locs ls' C hH hS (hl0 ▸ lset_has hc hl'))
theorem ab_istore {n : Nat} {x : Int32} {lv' : List (Nat × Value)} (hd : decode mt.2.1 pc = .ok (.istore n, 2)) (hc : lc1 lv n = true) (hn : n < mt.2.2.1) (hl0 : lset lv n (.int x) = lv') (k : AB l G R cs sl mt Z (pc + 2) lv' st M) : AB l G R cs sl mt Z pc lv (.int x :: st) M :=
  fun p e s m args below meth c H locs ls C hH hS hl => lv_istore C.1 C.2.1 hd hl hn rfl (fun ls' hl' => k p e s m args below meth c H locs ls' C hH hS (hl0 ▸ lset_has hc hl'))
theorem ab_astoren {n : Fin 4} {x : Nat} {lv' : List (Nat × Value)} (hd : decode mt.2.1 pc = .ok (.astore_n n, 1)) (hc : lc1 lv n = true) (hn : (n : Nat) < mt.2.2.1) (hl0 : lset lv n (.ref x) = lv') (k : AB l G R cs sl mt Z (pc + 1) lv' st M) : AB l G R cs sl mt Z pc lv (.ref x :: st) M :=
  fun p e s m args below meth c H locs ls C hH hS hl => lv_astore_n C.1 C.2.1 hd rfl hl hn rfl (fun ls' hl' => k p e s m args below meth c H locs ls' C hH hS (hl0 ▸ lset_has hc hl'))
theorem ab_astore {n : Nat} {x : Nat} {lv' : List (Nat × Value)} (hd : decode mt.2.1 pc = .ok (.astore n, 2)) (hc : lc1 lv n = true) (hn : n < mt.2.2.1) (hl0 : lset lv n (.ref x) = lv') (k : AB l G R cs sl mt Z (pc + 2) lv' st M) : AB l G R cs sl mt Z pc lv (.ref x :: st) M :=
  fun p e s m args below meth c H locs ls C hH hS hl => lv_astore C.1 C.2.1 hd hl hn rfl (fun ls' hl' => k p e s m args below meth c H locs ls' C hH hS (hl0 ▸ lset_has hc hl'))
theorem ab_iinc {i q : Nat} {n : Int} {x v : Int32} {lv' : List (Nat × Value)} (hd : decode mt.2.1 pc = .ok (.iinc i n, 3)) (hq : lv[q]? = some (i, .int x)) (hv : x + Int32.ofInt n = v) (hc : lc1 lv i = true) (hn : i < mt.2.2.1) (hl0 : lset lv i (.int v) = lv') (k : AB l G R cs sl mt Z (pc + 3) lv' st M) : AB l G R cs sl mt Z pc lv st M :=
  fun p e s m args below meth c H locs ls C hH hS hl => lv_iinc C.1 C.2.1 hd hl hq hv hn rfl (fun ls' hl' => k p e s m args below meth c H locs ls' C hH hS (hl0 ▸ lset_has hc hl'))
theorem ab_iadd {x y : Int32} (hd : decode mt.2.1 pc = .ok (.iadd, 1)) (k : AB l G R cs sl mt Z (pc + 1) lv (.int (x + y) :: st) M) : AB l G R cs sl mt Z pc lv (.int y :: .int x :: st) M :=
  fun p e s m args below meth c H locs ls C hH hS hl => lv_iadd C.1 C.2.1 hd (k p e s m args below meth c H locs ls C hH hS hl)
theorem ab_isub {x y : Int32} (hd : decode mt.2.1 pc = .ok (.isub, 1)) (k : AB l G R cs sl mt Z (pc + 1) lv (.int (x - y) :: st) M) : AB l G R cs sl mt Z pc lv (.int y :: .int x :: st) M :=
  fun p e s m args below meth c H locs ls C hH hS hl => lv_isub C.1 C.2.1 hd (k p e s m args below meth c H locs ls C hH hS hl)
theorem ab_imul {x y : Int32} (hd : decode mt.2.1 pc = .ok (.imul, 1)) (k : AB l G R cs sl mt Z (pc + 1) lv (.int (x * y) :: st) M) : AB l G R cs sl mt Z pc lv (.int y :: .int x :: st) M :=
  fun p e s m args below meth c H locs ls C hH hS hl => lv_imul C.1 C.2.1 hd (k p e s m args below meth c H locs ls C hH hS hl)
theorem ab_iand {x y : Int32} (hd : decode mt.2.1 pc = .ok (.iand, 1)) (k : AB l G R cs sl mt Z (pc + 1) lv (.int (x &&& y) :: st) M) : AB l G R cs sl mt Z pc lv (.int y :: .int x :: st) M :=
  fun p e s m args below meth c H locs ls C hH hS hl => lv_iand C.1 C.2.1 hd (k p e s m args below meth c H locs ls C hH hS hl)
theorem ab_ior {x y : Int32} (hd : decode mt.2.1 pc = .ok (.ior, 1)) (k : AB l G R cs sl mt Z (pc + 1) lv (.int (x ||| y) :: st) M) : AB l G R cs sl mt Z pc lv (.int y :: .int x :: st) M :=
  fun p e s m args below meth c H locs ls C hH hS hl => lv_ior C.1 C.2.1 hd (k p e s m args below meth c H locs ls C hH hS hl)
theorem ab_ixor {x y : Int32} (hd : decode mt.2.1 pc = .ok (.ixor, 1)) (k : AB l G R cs sl mt Z (pc + 1) lv (.int (x ^^^ y) :: st) M) : AB l G R cs sl mt Z pc lv (.int y :: .int x :: st) M :=
  fun p e s m args below meth c H locs ls C hH hS hl => lv_ixor C.1 C.2.1 hd (k p e s m args below meth c H locs ls C hH hS hl)
theorem ab_ishl {x y : Int32} (hd : decode mt.2.1 pc = .ok (.ishl, 1)) (k : AB l G R cs sl mt Z (pc + 1) lv (.int (x <<< (y &&& 31)) :: st) M) : AB l G R cs sl mt Z pc lv (.int y :: .int x :: st) M :=
  fun p e s m args below meth c H locs ls C hH hS hl => lv_ishl C.1 C.2.1 hd (k p e s m args below meth c H locs ls C hH hS hl)
theorem ab_ishr {x y : Int32} (hd : decode mt.2.1 pc = .ok (.ishr, 1)) (k : AB l G R cs sl mt Z (pc + 1) lv (.int (x >>> (y &&& 31)) :: st) M) : AB l G R cs sl mt Z pc lv (.int y :: .int x :: st) M :=
  fun p e s m args below meth c H locs ls C hH hS hl => lv_ishr C.1 C.2.1 hd (k p e s m args below meth c H locs ls C hH hS hl)
theorem ab_idiv {x y : Int32} (hd : decode mt.2.1 pc = .ok (.idiv, 1)) (hne : ¬ y = 0) (k : AB l G R cs sl mt Z (pc + 1) lv (.int (x / y) :: st) M) : AB l G R cs sl mt Z pc lv (.int y :: .int x :: st) M :=
  fun p e s m args below meth c H locs ls C hH hS hl => lv_idiv C.1 C.2.1 hd hne (k p e s m args below meth c H locs ls C hH hS hl)
theorem ab_irem {x y : Int32} (hd : decode mt.2.1 pc = .ok (.irem, 1)) (hne : ¬ y = 0) (k : AB l G R cs sl mt Z (pc + 1) lv (.int (x - x / y * y) :: st) M) : AB l G R cs sl mt Z pc lv (.int y :: .int x :: st) M :=
  fun p e s m args below meth c H locs ls C hH hS hl => lv_irem C.1 C.2.1 hd hne (k p e s m args below meth c H locs ls C hH hS hl)
theorem ab_iushr {x y : Int32} (hd : decode mt.2.1 pc = .ok (.iushr, 1)) (k : AB l G R cs sl mt Z (pc + 1) lv (.int ((x.toUInt32 >>> (y.toUInt32 &&& Int32.toUInt32 31)).toInt32) :: st) M) : AB l G R cs sl mt Z pc lv (.int y :: .int x :: st) M :=
  fun p e s m args below meth c H locs ls C hH hS hl => lv_iushr C.1 C.2.1 hd rfl (k p e s m args below meth c H locs ls C hH hS hl)
theorem ab_i2b {x : Int32} (hd : decode mt.2.1 pc = .ok (.i2b, 1)) (k : AB l G R cs sl mt Z (pc + 1) lv (.int (x.toInt8.toInt32) :: st) M) : AB l G R cs sl mt Z pc lv (.int x :: st) M :=
  fun p e s m args below meth c H locs ls C hH hS hl => lv_i2b C.1 C.2.1 hd rfl (k p e s m args below meth c H locs ls C hH hS hl)
theorem ab_i2l {x : Int32} (hd : decode mt.2.1 pc = .ok (.i2l, 1)) (k : AB l G R cs sl mt Z (pc + 1) lv (.long (x.toInt64) :: st) M) : AB l G R cs sl mt Z pc lv (.int x :: st) M :=
  fun p e s m args below meth c H locs ls C hH hS hl => lv_i2l C.1 C.2.1 hd rfl (k p e s m args below meth c H locs ls C hH hS hl)
theorem ab_lor {x y : Int64} (hd : decode mt.2.1 pc = .ok (.lor, 1)) (k : AB l G R cs sl mt Z (pc + 1) lv (.long (x ||| y) :: st) M) : AB l G R cs sl mt Z pc lv (.long y :: .long x :: st) M :=
  fun p e s m args below meth c H locs ls C hH hS hl => lv_lor C.1 C.2.1 hd (k p e s m args below meth c H locs ls C hH hS hl)
theorem ab_lshl {x : Int64} {y : Int32} (hd : decode mt.2.1 pc = .ok (.lshl, 1)) (k : AB l G R cs sl mt Z (pc + 1) lv (.long (x <<< (y.toInt64 &&& 63)) :: st) M) : AB l G R cs sl mt Z pc lv (.int y :: .long x :: st) M :=
  fun p e s m args below meth c H locs ls C hH hS hl => lv_lshl C.1 C.2.1 hd rfl (k p e s m args below meth c H locs ls C hH hS hl)
theorem ab_dup {a : Value} (hd : decode mt.2.1 pc = .ok (.dup, 1)) (ha : a.category = 1) (k : AB l G R cs sl mt Z (pc + 1) lv (a :: a :: st) M) : AB l G R cs sl mt Z pc lv (a :: st) M :=
  fun p e s m args below meth c H locs ls C hH hS hl => lv_dup C.1 C.2.1 hd ha (k p e s m args below meth c H locs ls C hH hS hl)
theorem ab_dup2 {a b : Value} (hd : decode mt.2.1 pc = .ok (.dup2, 1)) (ha : a.category = 1) (hb : b.category = 1) (k : AB l G R cs sl mt Z (pc + 1) lv (a :: b :: a :: b :: st) M) : AB l G R cs sl mt Z pc lv (a :: b :: st) M :=
  fun p e s m args below meth c H locs ls C hH hS hl => lv_dup2_11 C.1 C.2.1 hd ha hb (k p e s m args below meth c H locs ls C hH hS hl)
theorem ab_pop {a : Value} (hd : decode mt.2.1 pc = .ok (.pop, 1)) (ha : a.category = 1) (k : AB l G R cs sl mt Z (pc + 1) lv st M) : AB l G R cs sl mt Z pc lv (a :: st) M :=
  fun p e s m args below meth c H locs ls C hH hS hl => lv_pop C.1 C.2.1 hd ha (k p e s m args below meth c H locs ls C hH hS hl)
theorem ab_goto {off : Int} {tgt : Nat} (hd : decode mt.2.1 pc = .ok (.goto off, 3)) (ht : (pc : Int) + off = (tgt : Int)) (k : AB l G R cs sl mt Z tgt lv st M) : AB l G R cs sl mt Z pc lv st M :=
  fun p e s m args below meth c H locs ls C hH hS hl => lv_goto C.1 C.2.1 hd ht (k p e s m args below meth c H locs ls C hH hS hl)
theorem ab_if_eq {x : Int32} {off : Int} {tgt : Nat} (hd : decode mt.2.1 pc = .ok (.ifCond .eq off, 3)) (ht : (pc : Int) + off = (tgt : Int)) (kt : x = 0 → AB l G R cs sl mt Z tgt lv st M) (kf : ¬ (x = 0) → AB l G R cs sl mt Z (pc + 3) lv st M) : AB l G R cs sl mt Z pc lv (.int x :: st) M :=
  fun p e s m args below meth c H locs ls C hH hS hl => lv_if_eq C.1 C.2.1 hd ht (fun h => kt h p e s m args below meth c H locs ls C hH hS hl) (fun h => kf h p e s m args below meth c H locs ls C hH hS hl)
theorem ab_icmp_eq {x y : Int32} {off : Int} {tgt : Nat} (hd : decode mt.2.1 pc = .ok (.if_icmp .eq off, 3)) (ht : (pc : Int) + off = (tgt : Int)) (kt : x = y → AB l G R cs sl mt Z tgt lv st M) (kf : ¬ (x = y) → AB l G R cs sl mt Z (pc + 3) lv st M) : AB l G R cs sl mt Z pc lv (.int y :: .int x :: st) M :=
  fun p e s m args below meth c H locs ls C hH hS hl => lv_icmp_eq C.1 C.2.1 hd ht (fun h => kt h p e s m args below meth c H locs ls C hH hS hl) (fun h => kf h p e s m args below meth c H locs ls C hH hS hl)
theorem ab_if_ne {x : Int32} {off : Int} {tgt : Nat} (hd : decode mt.2.1 pc = .ok (.ifCond .ne off, 3)) (ht : (pc : Int) + off = (tgt : Int)) (kt : ¬ x = 0 → AB l G R cs sl mt Z tgt lv st M) (kf : x = 0 → AB l G R cs sl mt Z (pc + 3) lv st M) : AB l G R cs sl mt Z pc lv (.int x :: st) M :=
  fun p e s m args below meth c H locs ls C hH hS hl => lv_if_ne C.1 C.2.1 hd ht (fun h => kt h p e s m args below meth c H locs ls C hH hS hl) (fun h => kf h p e s m args below meth c H locs ls C hH hS hl)
theorem ab_icmp_ne {x y : Int32} {off : Int} {tgt : Nat} (hd : decode mt.2.1 pc = .ok (.if_icmp .ne off, 3)) (ht : (pc : Int) + off = (tgt : Int)) (kt : ¬ x = y → AB l G R cs sl mt Z tgt lv st M) (kf : x = y → AB l G R cs sl mt Z (pc + 3) lv st M) : AB l G R cs sl mt Z pc lv (.int y :: .int x :: st) M :=
  fun p e s m args below meth c H locs ls C hH hS hl => lv_icmp_ne C.1 C.2.1 hd ht (fun h => kt h p e s m args below meth c H locs ls C hH hS hl) (fun h => kf h p e s m args below meth c H locs ls C hH hS hl)
theorem ab_if_lt {x : Int32} {off : Int} {tgt : Nat} (hd : decode mt.2.1 pc = .ok (.ifCond .lt off, 3)) (ht : (pc : Int) + off = (tgt : Int)) (kt : x < 0 → AB l G R cs sl mt Z tgt lv st M) (kf : ¬ (x < 0) → AB l G R cs sl mt Z (pc + 3) lv st M) : AB l G R cs sl mt Z pc lv (.int x :: st) M :=
  fun p e s m args below meth c H locs ls C hH hS hl => lv_if_lt C.1 C.2.1 hd ht (fun h => kt h p e s m args below meth c H locs ls C hH hS hl) (fun h => kf h p e s m args below meth c H locs ls C hH hS hl)
theorem ab_icmp_lt {x y : Int32} {off : Int} {tgt : Nat} (hd : decode mt.2.1 pc = .ok (.if_icmp .lt off, 3)) (ht : (pc : Int) + off = (tgt : Int)) (kt : x < y → AB l G R cs sl mt Z tgt lv st M) (kf : ¬ (x < y) → AB l G R cs sl mt Z (pc + 3) lv st M) : AB l G R cs sl mt Z pc lv (.int y :: .int x :: st) M :=
  fun p e s m args below meth c H locs ls C hH hS hl => lv_icmp_lt C.1 C.2.1 hd ht (fun h => kt h p e s m args below meth c H locs ls C hH hS hl) (fun h => kf h p e s m args below meth c H locs ls C hH hS hl)
theorem ab_if_ge {x : Int32} {off : Int} {tgt : Nat} (hd : decode mt.2.1 pc = .ok (.ifCond .ge off, 3)) (ht : (pc : Int) + off = (tgt : Int)) (kt : 0 ≤ x → AB l G R cs sl mt Z tgt lv st M) (kf : ¬ (0 ≤ x) → AB l G R cs sl mt Z (pc + 3) lv st M) : AB l G R cs sl mt Z pc lv (.int x :: st) M :=
  fun p e s m args below meth c H locs ls C hH hS hl => lv_if_ge C.1 C.2.1 hd ht (fun h => kt h p e s m args below meth c H locs ls C hH hS hl) (fun h => kf h p e s m args below meth c H locs ls C hH hS hl)
theorem ab_icmp_ge {x y : Int32} {off : Int} {tgt : Nat} (hd : decode mt.2.1 pc = .ok (.if_icmp .ge off, 3)) (ht : (pc : Int) + off = (tgt : Int)) (kt : y ≤ x → AB l G R cs sl mt Z tgt lv st M) (kf : ¬ (y ≤ x) → AB l G R cs sl mt Z (pc + 3) lv st M) : AB l G R cs sl mt Z pc lv (.int y :: .int x :: st) M :=
  fun p e s m args below meth c H locs ls C hH hS hl => lv_icmp_ge C.1 C.2.1 hd ht (fun h => kt h p e s m args below meth c H locs ls C hH hS hl) (fun h => kf h p e s m args below meth c H locs ls C hH hS hl)
theorem ab_if_gt {x : Int32} {off : Int} {tgt : Nat} (hd : decode mt.2.1 pc = .ok (.ifCond .gt off, 3)) (ht : (pc : Int) + off = (tgt : Int)) (kt : 0 < x → AB l G R cs sl mt Z tgt lv st M) (kf : ¬ (0 < x) → AB l G R cs sl mt Z (pc + 3) lv st M) : AB l G R cs sl mt Z pc lv (.int x :: st) M :=
  fun p e s m args below meth c H locs ls C hH hS hl => lv_if_gt C.1 C.2.1 hd ht (fun h => kt h p e s m args below meth c H locs ls C hH hS hl) (fun h => kf h p e s m args below meth c H locs ls C hH hS hl)
theorem ab_icmp_gt {x y : Int32} {off : Int} {tgt : Nat} (hd : decode mt.2.1 pc = .ok (.if_icmp .gt off, 3)) (ht : (pc : Int) + off = (tgt : Int)) (kt : y < x → AB l G R cs sl mt Z tgt lv st M) (kf : ¬ (y < x) → AB l G R cs sl mt Z (pc + 3) lv st M) : AB l G R cs sl mt Z pc lv (.int y :: .int x :: st) M :=
  fun p e s m args below meth c H locs ls C hH hS hl => lv_icmp_gt C.1 C.2.1 hd ht (fun h => kt h p e s m args below meth c H locs ls C hH hS hl) (fun h => kf h p e s m args below meth c H locs ls C hH hS hl)
theorem ab_if_le {x : Int32} {off : Int} {tgt : Nat} (hd : decode mt.2.1 pc = .ok (.ifCond .le off, 3)) (ht : (pc : Int) + off = (tgt : Int)) (kt : x ≤ 0 → AB l G R cs sl mt Z tgt lv st M) (kf : ¬ (x ≤ 0) → AB l G R cs sl mt Z (pc + 3) lv st M) : AB l G R cs sl mt Z pc lv (.int x :: st) M :=
  fun p e s m args below meth c H locs ls C hH hS hl => lv_if_le C.1 C.2.1 hd ht (fun h => kt h p e s m args below meth c H locs ls C hH hS hl) (fun h => kf h p e s m args below meth c H locs ls C hH hS hl)
theorem ab_icmp_le {x y : Int32} {off : Int} {tgt : Nat} (hd : decode mt.2.1 pc = .ok (.if_icmp .le off, 3)) (ht : (pc : Int) + off = (tgt : Int)) (kt : x ≤ y → AB l G R cs sl mt Z tgt lv st M) (kf : ¬ (x ≤ y) → AB l G R cs sl mt Z (pc + 3) lv st M) : AB l G R cs sl mt Z pc lv (.int y :: .int x :: st) M :=
  fun p e s m args below meth c H locs ls C hH hS hl => lv_icmp_le C.1 C.2.1 hd ht (fun h => kt h p e s m args below meth c H locs ls C hH hS hl) (fun h => kf h p e s m args below meth c H locs ls C hH hS hl)
end RULES
