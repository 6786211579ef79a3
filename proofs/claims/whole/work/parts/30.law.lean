def R_law : String := "GaleBankLaw"
def lw_P (b : Addr) (xs : List Int32) (args : Array Value) (s : State) : Prop := args = #[.ref b] ∧ s.IntsAt b xs ∧ xs.length ≤ 3072 ∧ (Jvm.Cond.and given_1 narrow_1).before args s = true
def lw_Q (_ : Array Value) (s : State) (o : Outcome) (t : State) : Prop := o = .returned (some (.int 1)) ∧ Framed s o t [] 601024 7293034
def lw_Z (below : List Frame) (a : Array Value) (s : State) : State → Prop := fun t => ∃ o, t.status = .running ∧ Ended t below o ∧ lw_Q a s o t
/-- the law's own end, with 1 on the stack, nothing written that was there before, its room as the claim has it -/
theorem lw_ret {p : Program} {l : Launch} {e : Env} {s : State} {m : MethodId} {below : List Frame} {meth : Method} {c : Code} {b : Nat} (hx : p.tables.exec = Jvm.exec) (hb : c.code = code) (hr : meth.sig.returnType = ret) (hlocks : meth.locks = false) {pc : Nat} {H : Heap} {ls : Array Slot} (hdg : decode code pc = .ok (.ireturn, 1)) : W p l e room_1 s m #[Value.ref b] below meth c H [] 601024 7293034 (lw_Z below #[Value.ref b] s) (F0 m pc ls [.int 1]) := by
  intro T hT X
  obtain ⟨fs, hret, hrun, hended, hW, hframe⟩ := X.leave (v := some (.int 1)) (hlocks := hlocks) (fun h => by rw [hr] at h; cases h)
  have hmeth' : T.vm.method? m = some meth := X.method'
  refine ⟨T.setFrames fs, ?_, .returned (some (.int 1)), hrun, hended, rfl, ⟨_, rfl⟩, hW, hframe⟩
  jvm_step X.here [X.here.top, hx, hb, hdg, hmeth', hr, ret, narrow_b1]
  (try refine ⟨rfl, ?_⟩); (try refine ⟨rfl, ?_⟩)
  first | (intro acts; rw [hret _ acts rfl rfl rfl]) | rw [hret _ _ rfl rfl rfl]
  exact Steps.refl _
/-- what holds at the law's entry: the machine, the code, the tables' words (any of lw_tbl by 'hts w (by decide +kernel)'), the script of L ints xs at the cell b, what the Statement gives of the start (any of its parts by flat_of_before) -/
def lw_At (p : Program) (s : State) (m : MethodId) (meth : Method) (c : Code) (b L : Nat) (xs : Nat → Int32) : Prop :=
  p.tables.exec = Jvm.exec ∧ c.code = code ∧ meth.sig.returnType = ret ∧ c.maxLocals = 7 ∧ s.vm.findClass R_law = some m.cls ∧ (∀ w ∈ lw_tbl, w.before #[Value.ref b] s = true) ∧ va_X b L xs s s.heap ∧ b < s.heap.size ∧ meth.locks = false ∧ (Jvm.Cond.and given_1 narrow_1).before #[Value.ref b] s = true
/-- both sides answer alike, and stay related -/
def OP (Rel : CM → XM → Prop) (f : CM → Option (Int32 × CM)) (g : XM → Option (Int32 × XM)) : Prop := ∀ C X, Rel C X → ∃ r C' X', f C = some (r, C') ∧ g X = some (r, X') ∧ Rel C' X'
def mt_law : MT := (x, code, 7, some .boolean)
def ZL (G : GX) : State → Array Value → List Frame → State → Prop := fun s args below t => (args = #[Value.ref (gF G 2)] ∧ s.heap.size = gS G) → lw_Z below args s t
section RULES
variable {l : Launch} {G : GX} {R : Room} {cs sl : Nat} {mt : MT} {Z : State → Array Value → List Frame → State → Prop} {pc : Nat} {lv : List (Nat × Value)} {st : List Value} {M : Mem}
theorem ab_widen {cs' sl' : Nat} (h1 : cs ≤ cs') (h2 : sl ≤ sl') (k : AB l G R cs' sl' mt Z pc lv st M) : AB l G R cs sl mt Z pc lv st M :=
  fun p e s m args below meth c H locs ls C hH hS hl => W.widen h1 h2 (k p e s m args below meth c H locs ls C hH hS hl)
theorem ab_sldn {x : Int32} {j : Nat} (hx : x = nI j) (hj : j < gL G ∧ gL G ≤ 3072) (hd : decode mt.2.1 pc = .ok (.iaload, 1)) (kk : AB l G R cs sl mt Z (pc + 1) lv (.int (gX G j) :: st) M) : AB l G R cs sl mt Z pc lv (.int x :: .ref (gF G 2) :: st) M := by
  subst hx
  refine ab_sld (inB_nI hj.1 (by omega)) hd ?_
  rw [nI_clamp (by omega)]
  exact kk
theorem ab_lret (h1 : cs ≤ 601024) (h2 : sl ≤ 7293034) (hd : decode code pc = .ok (.ireturn, 1)) : AB l G room_1 cs sl mt_law (ZL G) pc lv [.int 1] M := by
  intro p e s m args below meth c H locs ls C hH hS hl
  obtain ⟨hx', hb, hret, hml, hlk, hown, hts, hK⟩ := C
  by_cases hc : args = #[Value.ref (gF G 2)] ∧ s.heap.size = gS G
  · obtain ⟨rfl, hsz⟩ := hc
    refine va_forget (fun q hq => by rw [hsz]; exact hS.2.2 q hq) ?_
    refine W.widen (k := 601024) (n := 7293034) h1 h2 ?_
    intro T hT S
    obtain ⟨t, a, b⟩ := lw_ret (l := l) (e := e) (s := s) (m := m) (below := below) (H := H) (ls := ls) (b := gF G 2) hx' hb hret hlk.1 hd T hT S
    exact ⟨t, a, fun _ => b⟩
  · intro T hT S
    exact ⟨_, Steps.refl _, fun h => absurd h hc⟩
end RULES
theorem wl_0 : Cond.methodLink "GaleBankLaw" 22 ⟨"GaleBank", "feed", "(IIIII)I"⟩ ∈ AT := at_3 5 rfl rfl
theorem wl_1 : Cond.methodLink "GaleBankLaw" 26 ⟨"GaleBankModel", "feed", "(IIIII)I"⟩ ∈ AT := at_6 11 rfl rfl
theorem wl_2 : Cond.methodLink "GaleBankLaw" 27 ⟨"GaleBank", "end", "(I)Z"⟩ ∈ AT := at_3 13 rfl rfl
theorem wl_3 : Cond.methodLink "GaleBankLaw" 31 ⟨"GaleBankModel", "end", "(I)Z"⟩ ∈ AT := at_6 20 rfl rfl
theorem wl_4 : Cond.methodLink "GaleBankLaw" 32 ⟨"GaleBank", "bank", "()I"⟩ ∈ AT := at_3 17 rfl rfl
theorem wl_5 : Cond.methodLink "GaleBankLaw" 36 ⟨"GaleBankModel", "bank", "()I"⟩ ∈ AT := at_6 218 rfl rfl
theorem wl_6 : Cond.methodLink "GaleBankLaw" 37 ⟨"GaleBank", "fault", "()I"⟩ ∈ AT := at_4 63 rfl rfl
theorem wl_7 : Cond.methodLink "GaleBankLaw" 40 ⟨"GaleBankModel", "fault", "()I"⟩ ∈ AT := at_7 74 rfl rfl
theorem wl_8 : Cond.methodLink "GaleBankLaw" 53 ⟨"GaleBank", "gust", "(II)I"⟩ ∈ AT := at_4 67 rfl rfl
theorem wl_9 : Cond.methodLink "GaleBankLaw" 56 ⟨"GaleBankModel", "gust", "(II)I"⟩ ∈ AT := at_7 106 rfl rfl
theorem wl_10 : Cond.methodLink "GaleBankLaw" 57 ⟨"GaleBank", "comes", "(IIII)I"⟩ ∈ AT := at_4 88 rfl rfl
theorem wl_11 : Cond.methodLink "GaleBankLaw" 61 ⟨"GaleBankModel", "comes", "(IIII)I"⟩ ∈ AT := at_7 110 rfl rfl
theorem wl_12 : Cond.methodLink "GaleBankLaw" 62 ⟨"GaleBank", "faces", "(II)I"⟩ ∈ AT := at_4 114 rfl rfl
theorem wl_13 : Cond.methodLink "GaleBankLaw" 65 ⟨"GaleBankModel", "faces", "(II)I"⟩ ∈ AT := at_7 127 rfl rfl
theorem wl_14 : Cond.methodLink "GaleBankLaw" 66 ⟨"GaleBank", "gains", "(III)I"⟩ ∈ AT := at_4 132 rfl rfl
theorem wl_15 : Cond.methodLink "GaleBankLaw" 70 ⟨"GaleBankModel", "gains", "(III)I"⟩ ∈ AT := at_7 147 rfl rfl
theorem wl_16 : Cond.methodLink "GaleBankLaw" 71 ⟨"GaleBank", "blow", "(I)I"⟩ ∈ AT := at_4 162 rfl rfl
theorem wl_17 : Cond.methodLink "GaleBankLaw" 75 ⟨"GaleBankModel", "blow", "(I)I"⟩ ∈ AT := at_7 167 rfl rfl
theorem wl_18 : Cond.methodLink "GaleBankLaw" 76 ⟨"GaleBank", "set", "(I)I"⟩ ∈ AT := at_4 185 rfl rfl
theorem wl_19 : Cond.methodLink "GaleBankLaw" 79 ⟨"GaleBankModel", "set", "(I)I"⟩ ∈ AT := at_7 187 rfl rfl
theorem wl_20 : Cond.methodLink "GaleBankLaw" 80 ⟨"GaleBank", "fell", "(I)I"⟩ ∈ AT := at_4 197 rfl rfl
theorem wl_21 : Cond.methodLink "GaleBankLaw" 83 ⟨"GaleBankModel", "fell", "(I)I"⟩ ∈ AT := at_7 203 rfl rfl
theorem wl_22 : Cond.methodLink "GaleBankLaw" 84 ⟨"GaleBank", "oil", "(I)Z"⟩ ∈ AT := at_4 209 rfl rfl
theorem wl_23 : Cond.methodLink "GaleBankLaw" 87 ⟨"GaleBankModel", "oil", "(I)Z"⟩ ∈ AT := at_7 211 rfl rfl
theorem wl_24 : Cond.methodLink "GaleBankLaw" 88 ⟨"GaleBank", "point", "(II)Z"⟩ ∈ AT := at_4 217 rfl rfl
theorem wl_25 : Cond.methodLink "GaleBankLaw" 92 ⟨"GaleBankModel", "point", "(II)Z"⟩ ∈ AT := at_7 219 rfl rfl
theorem wl_26 : Cond.methodLink "GaleBankLaw" 93 ⟨"GaleBank", "undo", "()I"⟩ ∈ AT := at_4 225 rfl rfl
theorem wl_27 : Cond.methodLink "GaleBankLaw" 96 ⟨"GaleBankModel", "undo", "()I"⟩ ∈ AT := at_7 163 rfl rfl
theorem wl_28 : Cond.methodLink "GaleBankLaw" 97 ⟨"GaleBank", "now", "(I)I"⟩ ∈ AT := at_4 71 rfl rfl
theorem wl_29 : Cond.methodLink "GaleBankLaw" 100 ⟨"GaleBankModel", "now", "(I)I"⟩ ∈ AT := at_7 227 rfl rfl
theorem wl_30 : Cond.methodLink "GaleBankLaw" 101 ⟨"GaleBank", "fence", "(I)I"⟩ ∈ AT := at_5 1 rfl rfl
theorem wl_31 : Cond.methodLink "GaleBankLaw" 104 ⟨"GaleBankModel", "fence", "(I)I"⟩ ∈ AT := at_7 235 rfl rfl
theorem wl_32 : Cond.methodLink "GaleBankLaw" 105 ⟨"GaleBank", "more", "()I"⟩ ∈ AT := at_5 9 rfl rfl
theorem wl_33 : Cond.methodLink "GaleBankLaw" 108 ⟨"GaleBankModel", "more", "()I"⟩ ∈ AT := at_8 7 rfl rfl
theorem wl_34 : Cond.methodLink "GaleBankLaw" 109 ⟨"GaleBank", "has", "(II)I"⟩ ∈ AT := at_5 17 rfl rfl
theorem wl_35 : Cond.methodLink "GaleBankLaw" 112 ⟨"GaleBankModel", "has", "(II)I"⟩ ∈ AT := at_8 11 rfl rfl
theorem wl_36 : Cond.methodLink "GaleBankLaw" 113 ⟨"GaleBank", "rests", "(I)I"⟩ ∈ AT := at_5 29 rfl rfl
theorem wl_37 : Cond.methodLink "GaleBankLaw" 116 ⟨"GaleBankModel", "rests", "(I)I"⟩ ∈ AT := at_8 23 rfl rfl
theorem wl_38 : Cond.methodLink "GaleBankLaw" 117 ⟨"GaleBank", "oiled", "()I"⟩ ∈ AT := at_5 50 rfl rfl
theorem wl_39 : Cond.methodLink "GaleBankLaw" 120 ⟨"GaleBankModel", "oiled", "()I"⟩ ∈ AT := at_8 27 rfl rfl
theorem wl_40 : Cond.methodLink "GaleBankLaw" 121 ⟨"GaleBank", "oiledAt", "(I)I"⟩ ∈ AT := at_5 66 rfl rfl
theorem wl_41 : Cond.methodLink "GaleBankLaw" 124 ⟨"GaleBankModel", "oiledAt", "(I)I"⟩ ∈ AT := at_8 39 rfl rfl
theorem wl_42 : Cond.methodLink "GaleBankLaw" 125 ⟨"GaleBank", "suit", "(II)I"⟩ ∈ AT := at_5 13 rfl rfl
theorem wl_43 : Cond.methodLink "GaleBankLaw" 128 ⟨"GaleBankModel", "suit", "(II)I"⟩ ∈ AT := at_8 43 rfl rfl
theorem wl_44 : Cond.methodLink "GaleBankLaw" 129 ⟨"GaleBank", "worth", "(I)I"⟩ ∈ AT := at_5 70 rfl rfl
theorem wl_45 : Cond.methodLink "GaleBankLaw" 132 ⟨"GaleBankModel", "worth", "(I)I"⟩ ∈ AT := at_8 47 rfl rfl
theorem wl_46 : Cond.methodLink "GaleBankLaw" 133 ⟨"GaleBank", "drawn", "(III)I"⟩ ∈ AT := at_5 78 rfl rfl
theorem wl_47 : Cond.methodLink "GaleBankLaw" 136 ⟨"GaleBankModel", "drawn", "(III)I"⟩ ∈ AT := at_8 51 rfl rfl
theorem wl_48 : Cond.methodLink "GaleBankLaw" 137 ⟨"GaleBank", "odds", "(III)I"⟩ ∈ AT := at_5 95 rfl rfl
theorem wl_49 : Cond.methodLink "GaleBankLaw" 140 ⟨"GaleBankModel", "odds", "(III)I"⟩ ∈ AT := at_8 64 rfl rfl
theorem wl_50 : Cond.methodLink "GaleBankLaw" 141 ⟨"GaleBank", "richest", "()I"⟩ ∈ AT := at_4 233 rfl rfl
theorem wl_51 : Cond.methodLink "GaleBankLaw" 144 ⟨"GaleBankModel", "richest", "()I"⟩ ∈ AT := at_8 68 rfl rfl
theorem wl_52 : Cond.methodLink "GaleBankLaw" 145 ⟨"GaleBank", "best", "(II)I"⟩ ∈ AT := at_4 158 rfl rfl
theorem wl_53 : Cond.methodLink "GaleBankLaw" 148 ⟨"GaleBankModel", "best", "(II)I"⟩ ∈ AT := at_8 72 rfl rfl
theorem wl_54 : Cond.methodLink "GaleBankLaw" 149 ⟨"GaleBank", "plan", "()I"⟩ ∈ AT := at_4 8 rfl rfl
theorem wl_55 : Cond.methodLink "GaleBankLaw" 152 ⟨"GaleBankModel", "plan", "()I"⟩ ∈ AT := at_8 76 rfl rfl
theorem wl_56 : Cond.methodLink "GaleBankLaw" 153 ⟨"GaleBank", "judge", "(I)I"⟩ ∈ AT := at_5 99 rfl rfl
theorem wl_57 : Cond.methodLink "GaleBankLaw" 156 ⟨"GaleBankModel", "judge", "(I)I"⟩ ∈ AT := at_8 84 rfl rfl
theorem wl_58 : Cond.methodLink "GaleBankLaw" 157 ⟨"GaleBank", "judged", "(I)I"⟩ ∈ AT := at_5 114 rfl rfl
theorem wl_59 : Cond.methodLink "GaleBankLaw" 160 ⟨"GaleBankModel", "judged", "(I)I"⟩ ∈ AT := at_8 92 rfl rfl
theorem wl_60 : Cond.methodLink "GaleBankLaw" 161 ⟨"GaleBank", "sentence", "()I"⟩ ∈ AT := at_4 28 rfl rfl
theorem wl_61 : Cond.methodLink "GaleBankLaw" 164 ⟨"GaleBankModel", "sentence", "()I"⟩ ∈ AT := at_8 96 rfl rfl
theorem wl_62 : Cond.methodLink "GaleBankLaw" 165 ⟨"GaleBank", "said", "(I)I"⟩ ∈ AT := at_5 118 rfl rfl
theorem wl_63 : Cond.methodLink "GaleBankLaw" 168 ⟨"GaleBankModel", "said", "(I)I"⟩ ∈ AT := at_8 124 rfl rfl
theorem wl_64 : Cond.methodLink "GaleBankLaw" 169 ⟨"GaleBank", "image", "(I)Z"⟩ ∈ AT := at_5 138 rfl rfl
theorem wl_65 : Cond.methodLink "GaleBankLaw" 172 ⟨"GaleBankModel", "image", "(I)Z"⟩ ∈ AT := at_8 136 rfl rfl
theorem wl_66 : Cond.methodLink "GaleBankLaw" 173 ⟨"GaleBank", "restore", "(I)Z"⟩ ∈ AT := at_5 167 rfl rfl
theorem wl_67 : Cond.methodLink "GaleBankLaw" 176 ⟨"GaleBankModel", "restore", "(I)Z"⟩ ∈ AT := at_8 140 rfl rfl
theorem wl_68 : Cond.methodLink "GaleBankLaw" 177 ⟨"GaleBank", "count", "(I)I"⟩ ∈ AT := at_4 84 rfl rfl
theorem wl_69 : Cond.methodLink "GaleBankLaw" 180 ⟨"GaleBankModel", "count", "(I)I"⟩ ∈ AT := at_8 144 rfl rfl
theorem wl_70 : Cond.methodLink "GaleBankLaw" 46 ⟨"GaleBankModel", "cell", "(II)I"⟩ ∈ AT := at_7 78 rfl rfl
theorem wl_71 : Cond.methodLink "GaleBankLaw" 47 ⟨"GaleBankModel", "thrown", "()I"⟩ ∈ AT := at_6 7 rfl rfl
theorem wl_72 : Cond.methodLink "GaleBankLaw" 52 ⟨"GaleBankModel", "owner", "(II)I"⟩ ∈ AT := at_7 98 rfl rfl
theorem law_0 {l : Launch} {G : GX} {N i cs sl : Nat} {Rel : CM → XM → Prop} {C : CM} {X : XM} (hi : i + 6 ≤ gL G) (hL : gL G ≤ 3072) (hcs : cs ≤ room_1.cells ∧ sl ≤ room_1.slots) (hop : ∀ (b1 b2 b3 b4 b5 : Int32), OP Rel (f_X10_feed N b1 b2 b3 b4 b5) (f_X11_feed N b1 b2 b3 b4 b5)) (hR : Rel C X) (hk : ∀ C' X', Rel C' X' → AB l G room_1 cs sl mt_law (ZL G) 1347 [(0, .ref (gF G 2)), (1, .ref (gA G 0 0 0)), (2, .ref (gA G 10 0 0)), (3, .ref (gA G 11 0 0)), (4, .int (nI i))] [] (C', X')) : AB l G room_1 cs sl mt_law (ZL G) 204 [(0, .ref (gF G 2)), (1, .ref (gA G 0 0 0)), (2, .ref (gA G 10 0 0)), (3, .ref (gA G 11 0 0)), (4, .int (nI i))] [] (C, X) := by
  obtain ⟨r, C1, X1, e1, e2, hR1⟩ := hop (gX G (i + 1)) (gX G (i + 2)) (gX G (i + 3)) (gX G (i + 4)) (gX G (i + 5)) C X hR
  refine ab_aloadn 1 dL_law_204 rfl ?_
  refine ab_aloadn 0 dL_law_205 rfl ?_
  refine ab_iload 4 dL_law_206 rfl ?_
  refine ab_iconst (v := 1) dL_law_208 (by decide) ?_
  refine ab_iadd dL_law_209 ?_
  refine ab_sldn (j := i + 1) (nI_add i 1) ⟨by omega, hL⟩ dL_law_210 ?_
  refine ab_aloadn 0 dL_law_211 rfl ?_
  refine ab_iload 4 dL_law_212 rfl ?_
  refine ab_iconst (v := 2) dL_law_214 (by decide) ?_
  refine ab_iadd dL_law_215 ?_
  refine ab_sldn (j := i + 2) (nI_add i 2) ⟨by omega, hL⟩ dL_law_216 ?_
  refine ab_aloadn 0 dL_law_217 rfl ?_
  refine ab_iload 4 dL_law_218 rfl ?_
  refine ab_iconst (v := 3) dL_law_220 (by decide) ?_
  refine ab_iadd dL_law_221 ?_
  refine ab_sldn (j := i + 3) (nI_add i 3) ⟨by omega, hL⟩ dL_law_222 ?_
  refine ab_aloadn 0 dL_law_223 rfl ?_
  refine ab_iload 4 dL_law_224 rfl ?_
  refine ab_iconst (v := 4) dL_law_226 (by decide) ?_
  refine ab_iadd dL_law_227 ?_
  refine ab_sldn (j := i + 4) (nI_add i 4) ⟨by omega, hL⟩ dL_law_228 ?_
  refine ab_aloadn 0 dL_law_229 rfl ?_
  refine ab_iload 4 dL_law_230 rfl ?_
  refine ab_iconst (v := 5) dL_law_232 (by decide) ?_
  refine ab_iadd dL_law_233 ?_
  refine ab_sldn (j := i + 5) (nI_add i 5) ⟨by omega, hL⟩ dL_law_234 ?_
  refine fC_Vi (mtc := mt_X10_feed) (As := [.int (gX G (i + 1)), .int (gX G (i + 2)), .int (gX G (i + 3)), .int (gX G (i + 4)), .int (gX G (i + 5))]) (st := []) (K := fun v c => v = r ∧ c = C1) (f := fun v c => some (v, c)) (o := f_X10_feed N (gX G (i + 1)) (gX G (i + 2)) (gX G (i + 3)) (gX G (i + 4)) (gX G (i + 5)) C) (by rw [e1]; exact ⟨rfl, rfl⟩) (fun Q h => ct_X10_feed N (gX G (i + 1)) (gX G (i + 2)) (gX G (i + 3)) (gX G (i + 4)) (gX G (i + 5)) C h) ⟨by decide, by decide⟩ rfl rfl rfl mw_X10_feed wl_0 rfl rfl ⟨(Nat.le_of_ble_eq_true rfl), (Nat.le_of_ble_eq_true rfl)⟩ hcs (Nat.le_of_ble_eq_true rfl) rfl dL_law_235 ?_
  rintro r9 c9 ⟨rfl, rfl⟩
  refine ab_aloadn 2 dL_law_238 rfl ?_
  refine ab_aloadn 0 dL_law_239 rfl ?_
  refine ab_iload 4 dL_law_240 rfl ?_
  refine ab_iconst (v := 1) dL_law_242 (by decide) ?_
  refine ab_iadd dL_law_243 ?_
  refine ab_sldn (j := i + 1) (nI_add i 1) ⟨by omega, hL⟩ dL_law_244 ?_
  refine ab_aloadn 0 dL_law_245 rfl ?_
  refine ab_iload 4 dL_law_246 rfl ?_
  refine ab_iconst (v := 2) dL_law_248 (by decide) ?_
  refine ab_iadd dL_law_249 ?_
  refine ab_sldn (j := i + 2) (nI_add i 2) ⟨by omega, hL⟩ dL_law_250 ?_
  refine ab_aloadn 0 dL_law_251 rfl ?_
  refine ab_iload 4 dL_law_252 rfl ?_
  refine ab_iconst (v := 3) dL_law_254 (by decide) ?_
  refine ab_iadd dL_law_255 ?_
  refine ab_sldn (j := i + 3) (nI_add i 3) ⟨by omega, hL⟩ dL_law_256 ?_
  refine ab_aloadn 0 dL_law_257 rfl ?_
  refine ab_iload 4 dL_law_258 rfl ?_
  refine ab_iconst (v := 4) dL_law_260 (by decide) ?_
  refine ab_iadd dL_law_261 ?_
  refine ab_sldn (j := i + 4) (nI_add i 4) ⟨by omega, hL⟩ dL_law_262 ?_
  refine ab_aloadn 0 dL_law_263 rfl ?_
  refine ab_iload 4 dL_law_264 rfl ?_
  refine ab_iconst (v := 5) dL_law_266 (by decide) ?_
  refine ab_iadd dL_law_267 ?_
  refine ab_sldn (j := i + 5) (nI_add i 5) ⟨by omega, hL⟩ dL_law_268 ?_
  refine fX_Vi (mtc := mt_X11_feed) (As := [.int (gX G (i + 1)), .int (gX G (i + 2)), .int (gX G (i + 3)), .int (gX G (i + 4)), .int (gX G (i + 5))]) (st := [.int r9]) (K := fun v c => v = r9 ∧ c = X1) (f := fun v c => some (v, c)) (o := f_X11_feed N (gX G (i + 1)) (gX G (i + 2)) (gX G (i + 3)) (gX G (i + 4)) (gX G (i + 5)) X) (by rw [e2]; exact ⟨rfl, rfl⟩) (fun Q h => ct_X11_feed N (gX G (i + 1)) (gX G (i + 2)) (gX G (i + 3)) (gX G (i + 4)) (gX G (i + 5)) X h) ⟨by decide, by decide⟩ rfl rfl rfl mw_X11_feed wl_1 rfl rfl ⟨(Nat.le_of_ble_eq_true rfl), (Nat.le_of_ble_eq_true rfl)⟩ hcs (Nat.le_of_ble_eq_true rfl) rfl dL_law_269 ?_
  rintro v c ⟨rfl, rfl⟩
  exact ab_icmp_eq (tgt := 1347) dL_law_272 (by decide) (fun _ => hk _ _ hR1) (fun h => absurd rfl h)
theorem law_1 {l : Launch} {G : GX} {N i cs sl : Nat} {Rel : CM → XM → Prop} {C : CM} {X : XM} (hi : i + 6 ≤ gL G) (hL : gL G ≤ 3072) (hcs : cs ≤ room_1.cells ∧ sl ≤ room_1.slots) (hop : ∀ (b1 : Int32), OP Rel (f_X10_end b1) (f_X11_end b1)) (hR : Rel C X) (hk : ∀ C' X', Rel C' X' → AB l G room_1 cs sl mt_law (ZL G) 1347 [(0, .ref (gF G 2)), (1, .ref (gA G 0 0 0)), (2, .ref (gA G 10 0 0)), (3, .ref (gA G 11 0 0)), (4, .int (nI i))] [] (C', X')) : AB l G room_1 cs sl mt_law (ZL G) 277 [(0, .ref (gF G 2)), (1, .ref (gA G 0 0 0)), (2, .ref (gA G 10 0 0)), (3, .ref (gA G 11 0 0)), (4, .int (nI i))] [] (C, X) := by
  obtain ⟨r, C1, X1, e1, e2, hR1⟩ := hop (gX G (i + 1)) C X hR
  refine ab_aloadn 1 dL_law_277 rfl ?_
  refine ab_aloadn 0 dL_law_278 rfl ?_
  refine ab_iload 4 dL_law_279 rfl ?_
  refine ab_iconst (v := 1) dL_law_281 (by decide) ?_
  refine ab_iadd dL_law_282 ?_
  refine ab_sldn (j := i + 1) (nI_add i 1) ⟨by omega, hL⟩ dL_law_283 ?_
  refine fC_Vi (mtc := mt_X10_end) (As := [.int (gX G (i + 1))]) (st := []) (K := fun v c => v = r ∧ c = C1) (f := fun v c => some (v, c)) (o := f_X10_end (gX G (i + 1)) C) (by rw [e1]; exact ⟨rfl, rfl⟩) (fun Q h => ct_X10_end (gX G (i + 1)) C h) ⟨by decide, by decide⟩ rfl rfl rfl mw_X10_end wl_2 rfl rfl ⟨(Nat.le_of_ble_eq_true rfl), (Nat.le_of_ble_eq_true rfl)⟩ hcs (Nat.le_of_ble_eq_true rfl) rfl dL_law_284 ?_
  rintro r9 c9 ⟨rfl, rfl⟩
  refine ab_aloadn 2 dL_law_287 rfl ?_
  refine ab_aloadn 0 dL_law_288 rfl ?_
  refine ab_iload 4 dL_law_289 rfl ?_
  refine ab_iconst (v := 1) dL_law_291 (by decide) ?_
  refine ab_iadd dL_law_292 ?_
  refine ab_sldn (j := i + 1) (nI_add i 1) ⟨by omega, hL⟩ dL_law_293 ?_
  refine fX_Vi (mtc := mt_X11_end) (As := [.int (gX G (i + 1))]) (st := [.int r9]) (K := fun v c => v = r9 ∧ c = X1) (f := fun v c => some (v, c)) (o := f_X11_end (gX G (i + 1)) X) (by rw [e2]; exact ⟨rfl, rfl⟩) (fun Q h => ct_X11_end (gX G (i + 1)) X h) ⟨by decide, by decide⟩ rfl rfl rfl mw_X11_end wl_3 rfl rfl ⟨(Nat.le_of_ble_eq_true rfl), (Nat.le_of_ble_eq_true rfl)⟩ hcs (Nat.le_of_ble_eq_true rfl) rfl dL_law_294 ?_
  rintro v c ⟨rfl, rfl⟩
  exact ab_icmp_eq (tgt := 1347) dL_law_297 (by decide) (fun _ => hk _ _ hR1) (fun h => absurd rfl h)
theorem law_2 {l : Launch} {G : GX} {N i cs sl : Nat} {Rel : CM → XM → Prop} {C : CM} {X : XM} (hi : i + 6 ≤ gL G) (hL : gL G ≤ 3072) (hcs : cs ≤ room_1.cells ∧ sl ≤ room_1.slots) (hop : OP Rel (f_X10_bank N) (f_X11_bank N)) (hR : Rel C X) (hk : ∀ C' X', Rel C' X' → AB l G room_1 cs sl mt_law (ZL G) 1347 [(0, .ref (gF G 2)), (1, .ref (gA G 0 0 0)), (2, .ref (gA G 10 0 0)), (3, .ref (gA G 11 0 0)), (4, .int (nI i))] [] (C', X')) : AB l G room_1 cs sl mt_law (ZL G) 302 [(0, .ref (gF G 2)), (1, .ref (gA G 0 0 0)), (2, .ref (gA G 10 0 0)), (3, .ref (gA G 11 0 0)), (4, .int (nI i))] [] (C, X) := by
  obtain ⟨r, C1, X1, e1, e2, hR1⟩ := hop C X hR
  refine ab_aloadn 1 dL_law_302 rfl ?_
  refine fC_Vi (mtc := mt_X10_bank) (As := []) (st := []) (K := fun v c => v = r ∧ c = C1) (f := fun v c => some (v, c)) (o := f_X10_bank N C) (by rw [e1]; exact ⟨rfl, rfl⟩) (fun Q h => ct_X10_bank N C h) ⟨by decide, by decide⟩ rfl rfl rfl mw_X10_bank wl_4 rfl rfl ⟨(Nat.le_of_ble_eq_true rfl), (Nat.le_of_ble_eq_true rfl)⟩ hcs (Nat.le_of_ble_eq_true rfl) rfl dL_law_303 ?_
  rintro r9 c9 ⟨rfl, rfl⟩
  refine ab_aloadn 2 dL_law_306 rfl ?_
  refine fX_Vi (mtc := mt_X11_bank) (As := []) (st := [.int r9]) (K := fun v c => v = r9 ∧ c = X1) (f := fun v c => some (v, c)) (o := f_X11_bank N X) (by rw [e2]; exact ⟨rfl, rfl⟩) (fun Q h => ct_X11_bank N X h) ⟨by decide, by decide⟩ rfl rfl rfl mw_X11_bank wl_5 rfl rfl ⟨(Nat.le_of_ble_eq_true rfl), (Nat.le_of_ble_eq_true rfl)⟩ hcs (Nat.le_of_ble_eq_true rfl) rfl dL_law_307 ?_
  rintro v c ⟨rfl, rfl⟩
  exact ab_icmp_eq (tgt := 1347) dL_law_310 (by decide) (fun _ => hk _ _ hR1) (fun h => absurd rfl h)
theorem law_3 {l : Launch} {G : GX} {N i cs sl : Nat} {Rel : CM → XM → Prop} {C : CM} {X : XM} (hi : i + 6 ≤ gL G) (hL : gL G ≤ 3072) (hcs : cs ≤ room_1.cells ∧ sl ≤ room_1.slots) (hop : OP Rel (f_X10_fault) (f_X11_fault)) (hR : Rel C X) (hk : ∀ C' X', Rel C' X' → AB l G room_1 cs sl mt_law (ZL G) 1347 [(0, .ref (gF G 2)), (1, .ref (gA G 0 0 0)), (2, .ref (gA G 10 0 0)), (3, .ref (gA G 11 0 0)), (4, .int (nI i))] [] (C', X')) : AB l G room_1 cs sl mt_law (ZL G) 315 [(0, .ref (gF G 2)), (1, .ref (gA G 0 0 0)), (2, .ref (gA G 10 0 0)), (3, .ref (gA G 11 0 0)), (4, .int (nI i))] [] (C, X) := by
  obtain ⟨r, C1, X1, e1, e2, hR1⟩ := hop C X hR
  refine ab_aloadn 1 dL_law_315 rfl ?_
  refine fC_Vi (mtc := mt_X10_fault) (As := []) (st := []) (K := fun v c => v = r ∧ c = C1) (f := fun v c => some (v, c)) (o := f_X10_fault C) (by rw [e1]; exact ⟨rfl, rfl⟩) (fun Q h => ct_X10_fault C h) ⟨by decide, by decide⟩ rfl rfl rfl mw_X10_fault wl_6 rfl rfl ⟨(Nat.le_of_ble_eq_true rfl), (Nat.le_of_ble_eq_true rfl)⟩ hcs (Nat.le_of_ble_eq_true rfl) rfl dL_law_316 ?_
  rintro r9 c9 ⟨rfl, rfl⟩
  refine ab_aloadn 2 dL_law_319 rfl ?_
  refine fX_Vi (mtc := mt_X11_fault) (As := []) (st := [.int r9]) (K := fun v c => v = r9 ∧ c = X1) (f := fun v c => some (v, c)) (o := f_X11_fault X) (by rw [e2]; exact ⟨rfl, rfl⟩) (fun Q h => ct_X11_fault X h) ⟨by decide, by decide⟩ rfl rfl rfl mw_X11_fault wl_7 rfl rfl ⟨(Nat.le_of_ble_eq_true rfl), (Nat.le_of_ble_eq_true rfl)⟩ hcs (Nat.le_of_ble_eq_true rfl) rfl dL_law_320 ?_
  rintro v c ⟨rfl, rfl⟩
  exact ab_icmp_eq (tgt := 1347) dL_law_323 (by decide) (fun _ => hk _ _ hR1) (fun h => absurd rfl h)
theorem law_6 {l : Launch} {G : GX} {N i cs sl : Nat} {Rel : CM → XM → Prop} {C : CM} {X : XM} (hi : i + 6 ≤ gL G) (hL : gL G ≤ 3072) (hcs : cs ≤ room_1.cells ∧ sl ≤ room_1.slots) (hop : ∀ (b1 b2 : Int32), OP Rel (f_X10_gust b1 b2) (f_X11_gust b1 b2)) (hR : Rel C X) (hk : ∀ C' X', Rel C' X' → AB l G room_1 cs sl mt_law (ZL G) 1347 [(0, .ref (gF G 2)), (1, .ref (gA G 0 0 0)), (2, .ref (gA G 10 0 0)), (3, .ref (gA G 11 0 0)), (4, .int (nI i))] [] (C', X')) : AB l G room_1 cs sl mt_law (ZL G) 464 [(0, .ref (gF G 2)), (1, .ref (gA G 0 0 0)), (2, .ref (gA G 10 0 0)), (3, .ref (gA G 11 0 0)), (4, .int (nI i))] [] (C, X) := by
  obtain ⟨r, C1, X1, e1, e2, hR1⟩ := hop (gX G (i + 1)) (gX G (i + 2)) C X hR
  refine ab_aloadn 1 dL_law_464 rfl ?_
  refine ab_aloadn 0 dL_law_465 rfl ?_
  refine ab_iload 4 dL_law_466 rfl ?_
  refine ab_iconst (v := 1) dL_law_468 (by decide) ?_
  refine ab_iadd dL_law_469 ?_
  refine ab_sldn (j := i + 1) (nI_add i 1) ⟨by omega, hL⟩ dL_law_470 ?_
  refine ab_aloadn 0 dL_law_471 rfl ?_
  refine ab_iload 4 dL_law_472 rfl ?_
  refine ab_iconst (v := 2) dL_law_474 (by decide) ?_
  refine ab_iadd dL_law_475 ?_
  refine ab_sldn (j := i + 2) (nI_add i 2) ⟨by omega, hL⟩ dL_law_476 ?_
  refine fC_Vi (mtc := mt_X10_gust) (As := [.int (gX G (i + 1)), .int (gX G (i + 2))]) (st := []) (K := fun v c => v = r ∧ c = C1) (f := fun v c => some (v, c)) (o := f_X10_gust (gX G (i + 1)) (gX G (i + 2)) C) (by rw [e1]; exact ⟨rfl, rfl⟩) (fun Q h => ct_X10_gust (gX G (i + 1)) (gX G (i + 2)) C h) ⟨by decide, by decide⟩ rfl rfl rfl mw_X10_gust wl_8 rfl rfl ⟨(Nat.le_of_ble_eq_true rfl), (Nat.le_of_ble_eq_true rfl)⟩ hcs (Nat.le_of_ble_eq_true rfl) rfl dL_law_477 ?_
  rintro r9 c9 ⟨rfl, rfl⟩
  refine ab_aloadn 2 dL_law_480 rfl ?_
  refine ab_aloadn 0 dL_law_481 rfl ?_
  refine ab_iload 4 dL_law_482 rfl ?_
  refine ab_iconst (v := 1) dL_law_484 (by decide) ?_
  refine ab_iadd dL_law_485 ?_
  refine ab_sldn (j := i + 1) (nI_add i 1) ⟨by omega, hL⟩ dL_law_486 ?_
  refine ab_aloadn 0 dL_law_487 rfl ?_
  refine ab_iload 4 dL_law_488 rfl ?_
  refine ab_iconst (v := 2) dL_law_490 (by decide) ?_
  refine ab_iadd dL_law_491 ?_
  refine ab_sldn (j := i + 2) (nI_add i 2) ⟨by omega, hL⟩ dL_law_492 ?_
  refine fX_Vi (mtc := mt_X11_gust) (As := [.int (gX G (i + 1)), .int (gX G (i + 2))]) (st := [.int r9]) (K := fun v c => v = r9 ∧ c = X1) (f := fun v c => some (v, c)) (o := f_X11_gust (gX G (i + 1)) (gX G (i + 2)) X) (by rw [e2]; exact ⟨rfl, rfl⟩) (fun Q h => ct_X11_gust (gX G (i + 1)) (gX G (i + 2)) X h) ⟨by decide, by decide⟩ rfl rfl rfl mw_X11_gust wl_9 rfl rfl ⟨(Nat.le_of_ble_eq_true rfl), (Nat.le_of_ble_eq_true rfl)⟩ hcs (Nat.le_of_ble_eq_true rfl) rfl dL_law_493 ?_
  rintro v c ⟨rfl, rfl⟩
  exact ab_icmp_eq (tgt := 1347) dL_law_496 (by decide) (fun _ => hk _ _ hR1) (fun h => absurd rfl h)
theorem law_7 {l : Launch} {G : GX} {N i cs sl : Nat} {Rel : CM → XM → Prop} {C : CM} {X : XM} (hi : i + 6 ≤ gL G) (hL : gL G ≤ 3072) (hcs : cs ≤ room_1.cells ∧ sl ≤ room_1.slots) (hop : ∀ (b1 b2 b3 b4 : Int32), OP Rel (f_X10_comes N b1 b2 b3 b4) (f_X11_comes N b1 b2 b3 b4)) (hR : Rel C X) (hk : ∀ C' X', Rel C' X' → AB l G room_1 cs sl mt_law (ZL G) 1347 [(0, .ref (gF G 2)), (1, .ref (gA G 0 0 0)), (2, .ref (gA G 10 0 0)), (3, .ref (gA G 11 0 0)), (4, .int (nI i))] [] (C', X')) : AB l G room_1 cs sl mt_law (ZL G) 501 [(0, .ref (gF G 2)), (1, .ref (gA G 0 0 0)), (2, .ref (gA G 10 0 0)), (3, .ref (gA G 11 0 0)), (4, .int (nI i))] [] (C, X) := by
  obtain ⟨r, C1, X1, e1, e2, hR1⟩ := hop (gX G (i + 1)) (gX G (i + 2)) (gX G (i + 3)) (gX G (i + 4)) C X hR
  refine ab_aloadn 1 dL_law_501 rfl ?_
  refine ab_aloadn 0 dL_law_502 rfl ?_
  refine ab_iload 4 dL_law_503 rfl ?_
  refine ab_iconst (v := 1) dL_law_505 (by decide) ?_
  refine ab_iadd dL_law_506 ?_
  refine ab_sldn (j := i + 1) (nI_add i 1) ⟨by omega, hL⟩ dL_law_507 ?_
  refine ab_aloadn 0 dL_law_508 rfl ?_
  refine ab_iload 4 dL_law_509 rfl ?_
  refine ab_iconst (v := 2) dL_law_511 (by decide) ?_
  refine ab_iadd dL_law_512 ?_
  refine ab_sldn (j := i + 2) (nI_add i 2) ⟨by omega, hL⟩ dL_law_513 ?_
  refine ab_aloadn 0 dL_law_514 rfl ?_
  refine ab_iload 4 dL_law_515 rfl ?_
  refine ab_iconst (v := 3) dL_law_517 (by decide) ?_
  refine ab_iadd dL_law_518 ?_
  refine ab_sldn (j := i + 3) (nI_add i 3) ⟨by omega, hL⟩ dL_law_519 ?_
  refine ab_aloadn 0 dL_law_520 rfl ?_
  refine ab_iload 4 dL_law_521 rfl ?_
  refine ab_iconst (v := 4) dL_law_523 (by decide) ?_
  refine ab_iadd dL_law_524 ?_
  refine ab_sldn (j := i + 4) (nI_add i 4) ⟨by omega, hL⟩ dL_law_525 ?_
  refine fC_Vi (mtc := mt_X10_comes) (As := [.int (gX G (i + 1)), .int (gX G (i + 2)), .int (gX G (i + 3)), .int (gX G (i + 4))]) (st := []) (K := fun v c => v = r ∧ c = C1) (f := fun v c => some (v, c)) (o := f_X10_comes N (gX G (i + 1)) (gX G (i + 2)) (gX G (i + 3)) (gX G (i + 4)) C) (by rw [e1]; exact ⟨rfl, rfl⟩) (fun Q h => ct_X10_comes N (gX G (i + 1)) (gX G (i + 2)) (gX G (i + 3)) (gX G (i + 4)) C h) ⟨by decide, by decide⟩ rfl rfl rfl mw_X10_comes wl_10 rfl rfl ⟨(Nat.le_of_ble_eq_true rfl), (Nat.le_of_ble_eq_true rfl)⟩ hcs (Nat.le_of_ble_eq_true rfl) rfl dL_law_526 ?_
  rintro r9 c9 ⟨rfl, rfl⟩
  refine ab_aloadn 2 dL_law_529 rfl ?_
  refine ab_aloadn 0 dL_law_530 rfl ?_
  refine ab_iload 4 dL_law_531 rfl ?_
  refine ab_iconst (v := 1) dL_law_533 (by decide) ?_
  refine ab_iadd dL_law_534 ?_
  refine ab_sldn (j := i + 1) (nI_add i 1) ⟨by omega, hL⟩ dL_law_535 ?_
  refine ab_aloadn 0 dL_law_536 rfl ?_
  refine ab_iload 4 dL_law_537 rfl ?_
  refine ab_iconst (v := 2) dL_law_539 (by decide) ?_
  refine ab_iadd dL_law_540 ?_
  refine ab_sldn (j := i + 2) (nI_add i 2) ⟨by omega, hL⟩ dL_law_541 ?_
  refine ab_aloadn 0 dL_law_542 rfl ?_
  refine ab_iload 4 dL_law_543 rfl ?_
  refine ab_iconst (v := 3) dL_law_545 (by decide) ?_
  refine ab_iadd dL_law_546 ?_
  refine ab_sldn (j := i + 3) (nI_add i 3) ⟨by omega, hL⟩ dL_law_547 ?_
  refine ab_aloadn 0 dL_law_548 rfl ?_
  refine ab_iload 4 dL_law_549 rfl ?_
  refine ab_iconst (v := 4) dL_law_551 (by decide) ?_
  refine ab_iadd dL_law_552 ?_
  refine ab_sldn (j := i + 4) (nI_add i 4) ⟨by omega, hL⟩ dL_law_553 ?_
  refine fX_Vi (mtc := mt_X11_comes) (As := [.int (gX G (i + 1)), .int (gX G (i + 2)), .int (gX G (i + 3)), .int (gX G (i + 4))]) (st := [.int r9]) (K := fun v c => v = r9 ∧ c = X1) (f := fun v c => some (v, c)) (o := f_X11_comes N (gX G (i + 1)) (gX G (i + 2)) (gX G (i + 3)) (gX G (i + 4)) X) (by rw [e2]; exact ⟨rfl, rfl⟩) (fun Q h => ct_X11_comes N (gX G (i + 1)) (gX G (i + 2)) (gX G (i + 3)) (gX G (i + 4)) X h) ⟨by decide, by decide⟩ rfl rfl rfl mw_X11_comes wl_11 rfl rfl ⟨(Nat.le_of_ble_eq_true rfl), (Nat.le_of_ble_eq_true rfl)⟩ hcs (Nat.le_of_ble_eq_true rfl) rfl dL_law_554 ?_
  rintro v c ⟨rfl, rfl⟩
  exact ab_icmp_eq (tgt := 1347) dL_law_557 (by decide) (fun _ => hk _ _ hR1) (fun h => absurd rfl h)
theorem law_8 {l : Launch} {G : GX} {N i cs sl : Nat} {Rel : CM → XM → Prop} {C : CM} {X : XM} (hi : i + 6 ≤ gL G) (hL : gL G ≤ 3072) (hcs : cs ≤ room_1.cells ∧ sl ≤ room_1.slots) (hop : ∀ (b1 b2 : Int32), OP Rel (f_X10_faces N b1 b2) (f_X11_faces N b1 b2)) (hR : Rel C X) (hk : ∀ C' X', Rel C' X' → AB l G room_1 cs sl mt_law (ZL G) 1347 [(0, .ref (gF G 2)), (1, .ref (gA G 0 0 0)), (2, .ref (gA G 10 0 0)), (3, .ref (gA G 11 0 0)), (4, .int (nI i))] [] (C', X')) : AB l G room_1 cs sl mt_law (ZL G) 562 [(0, .ref (gF G 2)), (1, .ref (gA G 0 0 0)), (2, .ref (gA G 10 0 0)), (3, .ref (gA G 11 0 0)), (4, .int (nI i))] [] (C, X) := by
  obtain ⟨r, C1, X1, e1, e2, hR1⟩ := hop (gX G (i + 1)) (gX G (i + 2)) C X hR
  refine ab_aloadn 1 dL_law_562 rfl ?_
  refine ab_aloadn 0 dL_law_563 rfl ?_
  refine ab_iload 4 dL_law_564 rfl ?_
  refine ab_iconst (v := 1) dL_law_566 (by decide) ?_
  refine ab_iadd dL_law_567 ?_
  refine ab_sldn (j := i + 1) (nI_add i 1) ⟨by omega, hL⟩ dL_law_568 ?_
  refine ab_aloadn 0 dL_law_569 rfl ?_
  refine ab_iload 4 dL_law_570 rfl ?_
  refine ab_iconst (v := 2) dL_law_572 (by decide) ?_
  refine ab_iadd dL_law_573 ?_
  refine ab_sldn (j := i + 2) (nI_add i 2) ⟨by omega, hL⟩ dL_law_574 ?_
  refine fC_Vi (mtc := mt_X10_faces) (As := [.int (gX G (i + 1)), .int (gX G (i + 2))]) (st := []) (K := fun v c => v = r ∧ c = C1) (f := fun v c => some (v, c)) (o := f_X10_faces N (gX G (i + 1)) (gX G (i + 2)) C) (by rw [e1]; exact ⟨rfl, rfl⟩) (fun Q h => ct_X10_faces N (gX G (i + 1)) (gX G (i + 2)) C h) ⟨by decide, by decide⟩ rfl rfl rfl mw_X10_faces wl_12 rfl rfl ⟨(Nat.le_of_ble_eq_true rfl), (Nat.le_of_ble_eq_true rfl)⟩ hcs (Nat.le_of_ble_eq_true rfl) rfl dL_law_575 ?_
  rintro r9 c9 ⟨rfl, rfl⟩
  refine ab_aloadn 2 dL_law_578 rfl ?_
  refine ab_aloadn 0 dL_law_579 rfl ?_
  refine ab_iload 4 dL_law_580 rfl ?_
  refine ab_iconst (v := 1) dL_law_582 (by decide) ?_
  refine ab_iadd dL_law_583 ?_
  refine ab_sldn (j := i + 1) (nI_add i 1) ⟨by omega, hL⟩ dL_law_584 ?_
  refine ab_aloadn 0 dL_law_585 rfl ?_
  refine ab_iload 4 dL_law_586 rfl ?_
  refine ab_iconst (v := 2) dL_law_588 (by decide) ?_
  refine ab_iadd dL_law_589 ?_
  refine ab_sldn (j := i + 2) (nI_add i 2) ⟨by omega, hL⟩ dL_law_590 ?_
  refine fX_Vi (mtc := mt_X11_faces) (As := [.int (gX G (i + 1)), .int (gX G (i + 2))]) (st := [.int r9]) (K := fun v c => v = r9 ∧ c = X1) (f := fun v c => some (v, c)) (o := f_X11_faces N (gX G (i + 1)) (gX G (i + 2)) X) (by rw [e2]; exact ⟨rfl, rfl⟩) (fun Q h => ct_X11_faces N (gX G (i + 1)) (gX G (i + 2)) X h) ⟨by decide, by decide⟩ rfl rfl rfl mw_X11_faces wl_13 rfl rfl ⟨(Nat.le_of_ble_eq_true rfl), (Nat.le_of_ble_eq_true rfl)⟩ hcs (Nat.le_of_ble_eq_true rfl) rfl dL_law_591 ?_
  rintro v c ⟨rfl, rfl⟩
  exact ab_icmp_eq (tgt := 1347) dL_law_594 (by decide) (fun _ => hk _ _ hR1) (fun h => absurd rfl h)
theorem law_9 {l : Launch} {G : GX} {N i cs sl : Nat} {Rel : CM → XM → Prop} {C : CM} {X : XM} (hi : i + 6 ≤ gL G) (hL : gL G ≤ 3072) (hcs : cs ≤ room_1.cells ∧ sl ≤ room_1.slots) (hop : ∀ (b1 b2 b3 : Int32), OP Rel (f_X10_gains N b1 b2 b3) (f_X11_gains N b1 b2 b3)) (hR : Rel C X) (hk : ∀ C' X', Rel C' X' → AB l G room_1 cs sl mt_law (ZL G) 1347 [(0, .ref (gF G 2)), (1, .ref (gA G 0 0 0)), (2, .ref (gA G 10 0 0)), (3, .ref (gA G 11 0 0)), (4, .int (nI i))] [] (C', X')) : AB l G room_1 cs sl mt_law (ZL G) 599 [(0, .ref (gF G 2)), (1, .ref (gA G 0 0 0)), (2, .ref (gA G 10 0 0)), (3, .ref (gA G 11 0 0)), (4, .int (nI i))] [] (C, X) := by
  obtain ⟨r, C1, X1, e1, e2, hR1⟩ := hop (gX G (i + 1)) (gX G (i + 2)) (gX G (i + 3)) C X hR
  refine ab_aloadn 1 dL_law_599 rfl ?_
  refine ab_aloadn 0 dL_law_600 rfl ?_
  refine ab_iload 4 dL_law_601 rfl ?_
  refine ab_iconst (v := 1) dL_law_603 (by decide) ?_
  refine ab_iadd dL_law_604 ?_
  refine ab_sldn (j := i + 1) (nI_add i 1) ⟨by omega, hL⟩ dL_law_605 ?_
  refine ab_aloadn 0 dL_law_606 rfl ?_
  refine ab_iload 4 dL_law_607 rfl ?_
  refine ab_iconst (v := 2) dL_law_609 (by decide) ?_
  refine ab_iadd dL_law_610 ?_
  refine ab_sldn (j := i + 2) (nI_add i 2) ⟨by omega, hL⟩ dL_law_611 ?_
  refine ab_aloadn 0 dL_law_612 rfl ?_
  refine ab_iload 4 dL_law_613 rfl ?_
  refine ab_iconst (v := 3) dL_law_615 (by decide) ?_
  refine ab_iadd dL_law_616 ?_
  refine ab_sldn (j := i + 3) (nI_add i 3) ⟨by omega, hL⟩ dL_law_617 ?_
  refine fC_Vi (mtc := mt_X10_gains) (As := [.int (gX G (i + 1)), .int (gX G (i + 2)), .int (gX G (i + 3))]) (st := []) (K := fun v c => v = r ∧ c = C1) (f := fun v c => some (v, c)) (o := f_X10_gains N (gX G (i + 1)) (gX G (i + 2)) (gX G (i + 3)) C) (by rw [e1]; exact ⟨rfl, rfl⟩) (fun Q h => ct_X10_gains N (gX G (i + 1)) (gX G (i + 2)) (gX G (i + 3)) C h) ⟨by decide, by decide⟩ rfl rfl rfl mw_X10_gains wl_14 rfl rfl ⟨(Nat.le_of_ble_eq_true rfl), (Nat.le_of_ble_eq_true rfl)⟩ hcs (Nat.le_of_ble_eq_true rfl) rfl dL_law_618 ?_
  rintro r9 c9 ⟨rfl, rfl⟩
  refine ab_aloadn 2 dL_law_621 rfl ?_
  refine ab_aloadn 0 dL_law_622 rfl ?_
  refine ab_iload 4 dL_law_623 rfl ?_
  refine ab_iconst (v := 1) dL_law_625 (by decide) ?_
  refine ab_iadd dL_law_626 ?_
  refine ab_sldn (j := i + 1) (nI_add i 1) ⟨by omega, hL⟩ dL_law_627 ?_
  refine ab_aloadn 0 dL_law_628 rfl ?_
  refine ab_iload 4 dL_law_629 rfl ?_
  refine ab_iconst (v := 2) dL_law_631 (by decide) ?_
  refine ab_iadd dL_law_632 ?_
  refine ab_sldn (j := i + 2) (nI_add i 2) ⟨by omega, hL⟩ dL_law_633 ?_
  refine ab_aloadn 0 dL_law_634 rfl ?_
  refine ab_iload 4 dL_law_635 rfl ?_
  refine ab_iconst (v := 3) dL_law_637 (by decide) ?_
  refine ab_iadd dL_law_638 ?_
  refine ab_sldn (j := i + 3) (nI_add i 3) ⟨by omega, hL⟩ dL_law_639 ?_
  refine fX_Vi (mtc := mt_X11_gains) (As := [.int (gX G (i + 1)), .int (gX G (i + 2)), .int (gX G (i + 3))]) (st := [.int r9]) (K := fun v c => v = r9 ∧ c = X1) (f := fun v c => some (v, c)) (o := f_X11_gains N (gX G (i + 1)) (gX G (i + 2)) (gX G (i + 3)) X) (by rw [e2]; exact ⟨rfl, rfl⟩) (fun Q h => ct_X11_gains N (gX G (i + 1)) (gX G (i + 2)) (gX G (i + 3)) X h) ⟨by decide, by decide⟩ rfl rfl rfl mw_X11_gains wl_15 rfl rfl ⟨(Nat.le_of_ble_eq_true rfl), (Nat.le_of_ble_eq_true rfl)⟩ hcs (Nat.le_of_ble_eq_true rfl) rfl dL_law_640 ?_
  rintro v c ⟨rfl, rfl⟩
  exact ab_icmp_eq (tgt := 1347) dL_law_643 (by decide) (fun _ => hk _ _ hR1) (fun h => absurd rfl h)
theorem law_10 {l : Launch} {G : GX} {N i cs sl : Nat} {Rel : CM → XM → Prop} {C : CM} {X : XM} (hi : i + 6 ≤ gL G) (hL : gL G ≤ 3072) (hcs : cs ≤ room_1.cells ∧ sl ≤ room_1.slots) (hop : ∀ (b1 : Int32), OP Rel (f_X10_blow N b1) (f_X11_blow N b1)) (hR : Rel C X) (hk : ∀ C' X', Rel C' X' → AB l G room_1 cs sl mt_law (ZL G) 1347 [(0, .ref (gF G 2)), (1, .ref (gA G 0 0 0)), (2, .ref (gA G 10 0 0)), (3, .ref (gA G 11 0 0)), (4, .int (nI i))] [] (C', X')) : AB l G room_1 cs sl mt_law (ZL G) 648 [(0, .ref (gF G 2)), (1, .ref (gA G 0 0 0)), (2, .ref (gA G 10 0 0)), (3, .ref (gA G 11 0 0)), (4, .int (nI i))] [] (C, X) := by
  obtain ⟨r, C1, X1, e1, e2, hR1⟩ := hop (gX G (i + 1)) C X hR
  refine ab_aloadn 1 dL_law_648 rfl ?_
  refine ab_aloadn 0 dL_law_649 rfl ?_
  refine ab_iload 4 dL_law_650 rfl ?_
  refine ab_iconst (v := 1) dL_law_652 (by decide) ?_
  refine ab_iadd dL_law_653 ?_
  refine ab_sldn (j := i + 1) (nI_add i 1) ⟨by omega, hL⟩ dL_law_654 ?_
  refine fC_Vi (mtc := mt_X10_blow) (As := [.int (gX G (i + 1))]) (st := []) (K := fun v c => v = r ∧ c = C1) (f := fun v c => some (v, c)) (o := f_X10_blow N (gX G (i + 1)) C) (by rw [e1]; exact ⟨rfl, rfl⟩) (fun Q h => ct_X10_blow N (gX G (i + 1)) C h) ⟨by decide, by decide⟩ rfl rfl rfl mw_X10_blow wl_16 rfl rfl ⟨(Nat.le_of_ble_eq_true rfl), (Nat.le_of_ble_eq_true rfl)⟩ hcs (Nat.le_of_ble_eq_true rfl) rfl dL_law_655 ?_
  rintro r9 c9 ⟨rfl, rfl⟩
  refine ab_aloadn 2 dL_law_658 rfl ?_
  refine ab_aloadn 0 dL_law_659 rfl ?_
  refine ab_iload 4 dL_law_660 rfl ?_
  refine ab_iconst (v := 1) dL_law_662 (by decide) ?_
  refine ab_iadd dL_law_663 ?_
  refine ab_sldn (j := i + 1) (nI_add i 1) ⟨by omega, hL⟩ dL_law_664 ?_
  refine fX_Vi (mtc := mt_X11_blow) (As := [.int (gX G (i + 1))]) (st := [.int r9]) (K := fun v c => v = r9 ∧ c = X1) (f := fun v c => some (v, c)) (o := f_X11_blow N (gX G (i + 1)) X) (by rw [e2]; exact ⟨rfl, rfl⟩) (fun Q h => ct_X11_blow N (gX G (i + 1)) X h) ⟨by decide, by decide⟩ rfl rfl rfl mw_X11_blow wl_17 rfl rfl ⟨(Nat.le_of_ble_eq_true rfl), (Nat.le_of_ble_eq_true rfl)⟩ hcs (Nat.le_of_ble_eq_true rfl) rfl dL_law_665 ?_
  rintro v c ⟨rfl, rfl⟩
  exact ab_icmp_eq (tgt := 1347) dL_law_668 (by decide) (fun _ => hk _ _ hR1) (fun h => absurd rfl h)
theorem law_11 {l : Launch} {G : GX} {N i cs sl : Nat} {Rel : CM → XM → Prop} {C : CM} {X : XM} (hi : i + 6 ≤ gL G) (hL : gL G ≤ 3072) (hcs : cs ≤ room_1.cells ∧ sl ≤ room_1.slots) (hop : ∀ (b1 : Int32), OP Rel (f_X10_set b1) (f_X11_set N b1)) (hR : Rel C X) (hk : ∀ C' X', Rel C' X' → AB l G room_1 cs sl mt_law (ZL G) 1347 [(0, .ref (gF G 2)), (1, .ref (gA G 0 0 0)), (2, .ref (gA G 10 0 0)), (3, .ref (gA G 11 0 0)), (4, .int (nI i))] [] (C', X')) : AB l G room_1 cs sl mt_law (ZL G) 673 [(0, .ref (gF G 2)), (1, .ref (gA G 0 0 0)), (2, .ref (gA G 10 0 0)), (3, .ref (gA G 11 0 0)), (4, .int (nI i))] [] (C, X) := by
  obtain ⟨r, C1, X1, e1, e2, hR1⟩ := hop (gX G (i + 1)) C X hR
  refine ab_aloadn 1 dL_law_673 rfl ?_
  refine ab_aloadn 0 dL_law_674 rfl ?_
  refine ab_iload 4 dL_law_675 rfl ?_
  refine ab_iconst (v := 1) dL_law_677 (by decide) ?_
  refine ab_iadd dL_law_678 ?_
  refine ab_sldn (j := i + 1) (nI_add i 1) ⟨by omega, hL⟩ dL_law_679 ?_
  refine fC_Vi (mtc := mt_X10_set) (As := [.int (gX G (i + 1))]) (st := []) (K := fun v c => v = r ∧ c = C1) (f := fun v c => some (v, c)) (o := f_X10_set (gX G (i + 1)) C) (by rw [e1]; exact ⟨rfl, rfl⟩) (fun Q h => ct_X10_set (gX G (i + 1)) C h) ⟨by decide, by decide⟩ rfl rfl rfl mw_X10_set wl_18 rfl rfl ⟨(Nat.le_of_ble_eq_true rfl), (Nat.le_of_ble_eq_true rfl)⟩ hcs (Nat.le_of_ble_eq_true rfl) rfl dL_law_680 ?_
  rintro r9 c9 ⟨rfl, rfl⟩
  refine ab_aloadn 2 dL_law_683 rfl ?_
  refine ab_aloadn 0 dL_law_684 rfl ?_
  refine ab_iload 4 dL_law_685 rfl ?_
  refine ab_iconst (v := 1) dL_law_687 (by decide) ?_
  refine ab_iadd dL_law_688 ?_
  refine ab_sldn (j := i + 1) (nI_add i 1) ⟨by omega, hL⟩ dL_law_689 ?_
  refine fX_Vi (mtc := mt_X11_set) (As := [.int (gX G (i + 1))]) (st := [.int r9]) (K := fun v c => v = r9 ∧ c = X1) (f := fun v c => some (v, c)) (o := f_X11_set N (gX G (i + 1)) X) (by rw [e2]; exact ⟨rfl, rfl⟩) (fun Q h => ct_X11_set N (gX G (i + 1)) X h) ⟨by decide, by decide⟩ rfl rfl rfl mw_X11_set wl_19 rfl rfl ⟨(Nat.le_of_ble_eq_true rfl), (Nat.le_of_ble_eq_true rfl)⟩ hcs (Nat.le_of_ble_eq_true rfl) rfl dL_law_690 ?_
  rintro v c ⟨rfl, rfl⟩
  exact ab_icmp_eq (tgt := 1347) dL_law_693 (by decide) (fun _ => hk _ _ hR1) (fun h => absurd rfl h)
theorem law_12 {l : Launch} {G : GX} {N i cs sl : Nat} {Rel : CM → XM → Prop} {C : CM} {X : XM} (hi : i + 6 ≤ gL G) (hL : gL G ≤ 3072) (hcs : cs ≤ room_1.cells ∧ sl ≤ room_1.slots) (hop : ∀ (b1 : Int32), OP Rel (f_X10_fell b1) (f_X11_fell N b1)) (hR : Rel C X) (hk : ∀ C' X', Rel C' X' → AB l G room_1 cs sl mt_law (ZL G) 1347 [(0, .ref (gF G 2)), (1, .ref (gA G 0 0 0)), (2, .ref (gA G 10 0 0)), (3, .ref (gA G 11 0 0)), (4, .int (nI i))] [] (C', X')) : AB l G room_1 cs sl mt_law (ZL G) 698 [(0, .ref (gF G 2)), (1, .ref (gA G 0 0 0)), (2, .ref (gA G 10 0 0)), (3, .ref (gA G 11 0 0)), (4, .int (nI i))] [] (C, X) := by
  obtain ⟨r, C1, X1, e1, e2, hR1⟩ := hop (gX G (i + 1)) C X hR
  refine ab_aloadn 1 dL_law_698 rfl ?_
  refine ab_aloadn 0 dL_law_699 rfl ?_
  refine ab_iload 4 dL_law_700 rfl ?_
  refine ab_iconst (v := 1) dL_law_702 (by decide) ?_
  refine ab_iadd dL_law_703 ?_
  refine ab_sldn (j := i + 1) (nI_add i 1) ⟨by omega, hL⟩ dL_law_704 ?_
  refine fC_Vi (mtc := mt_X10_fell) (As := [.int (gX G (i + 1))]) (st := []) (K := fun v c => v = r ∧ c = C1) (f := fun v c => some (v, c)) (o := f_X10_fell (gX G (i + 1)) C) (by rw [e1]; exact ⟨rfl, rfl⟩) (fun Q h => ct_X10_fell (gX G (i + 1)) C h) ⟨by decide, by decide⟩ rfl rfl rfl mw_X10_fell wl_20 rfl rfl ⟨(Nat.le_of_ble_eq_true rfl), (Nat.le_of_ble_eq_true rfl)⟩ hcs (Nat.le_of_ble_eq_true rfl) rfl dL_law_705 ?_
  rintro r9 c9 ⟨rfl, rfl⟩
  refine ab_aloadn 2 dL_law_708 rfl ?_
  refine ab_aloadn 0 dL_law_709 rfl ?_
  refine ab_iload 4 dL_law_710 rfl ?_
  refine ab_iconst (v := 1) dL_law_712 (by decide) ?_
  refine ab_iadd dL_law_713 ?_
  refine ab_sldn (j := i + 1) (nI_add i 1) ⟨by omega, hL⟩ dL_law_714 ?_
  refine fX_Vi (mtc := mt_X11_fell) (As := [.int (gX G (i + 1))]) (st := [.int r9]) (K := fun v c => v = r9 ∧ c = X1) (f := fun v c => some (v, c)) (o := f_X11_fell N (gX G (i + 1)) X) (by rw [e2]; exact ⟨rfl, rfl⟩) (fun Q h => ct_X11_fell N (gX G (i + 1)) X h) ⟨by decide, by decide⟩ rfl rfl rfl mw_X11_fell wl_21 rfl rfl ⟨(Nat.le_of_ble_eq_true rfl), (Nat.le_of_ble_eq_true rfl)⟩ hcs (Nat.le_of_ble_eq_true rfl) rfl dL_law_715 ?_
  rintro v c ⟨rfl, rfl⟩
  exact ab_icmp_eq (tgt := 1347) dL_law_718 (by decide) (fun _ => hk _ _ hR1) (fun h => absurd rfl h)
theorem law_13 {l : Launch} {G : GX} {N i cs sl : Nat} {Rel : CM → XM → Prop} {C : CM} {X : XM} (hi : i + 6 ≤ gL G) (hL : gL G ≤ 3072) (hcs : cs ≤ room_1.cells ∧ sl ≤ room_1.slots) (hop : ∀ (b1 : Int32), OP Rel (f_X10_oil b1) (f_X11_oil N b1)) (hR : Rel C X) (hk : ∀ C' X', Rel C' X' → AB l G room_1 cs sl mt_law (ZL G) 1347 [(0, .ref (gF G 2)), (1, .ref (gA G 0 0 0)), (2, .ref (gA G 10 0 0)), (3, .ref (gA G 11 0 0)), (4, .int (nI i))] [] (C', X')) : AB l G room_1 cs sl mt_law (ZL G) 723 [(0, .ref (gF G 2)), (1, .ref (gA G 0 0 0)), (2, .ref (gA G 10 0 0)), (3, .ref (gA G 11 0 0)), (4, .int (nI i))] [] (C, X) := by
  obtain ⟨r, C1, X1, e1, e2, hR1⟩ := hop (gX G (i + 1)) C X hR
  refine ab_aloadn 1 dL_law_723 rfl ?_
  refine ab_aloadn 0 dL_law_724 rfl ?_
  refine ab_iload 4 dL_law_725 rfl ?_
  refine ab_iconst (v := 1) dL_law_727 (by decide) ?_
  refine ab_iadd dL_law_728 ?_
  refine ab_sldn (j := i + 1) (nI_add i 1) ⟨by omega, hL⟩ dL_law_729 ?_
  refine fC_Vi (mtc := mt_X10_oil) (As := [.int (gX G (i + 1))]) (st := []) (K := fun v c => v = r ∧ c = C1) (f := fun v c => some (v, c)) (o := f_X10_oil (gX G (i + 1)) C) (by rw [e1]; exact ⟨rfl, rfl⟩) (fun Q h => ct_X10_oil (gX G (i + 1)) C h) ⟨by decide, by decide⟩ rfl rfl rfl mw_X10_oil wl_22 rfl rfl ⟨(Nat.le_of_ble_eq_true rfl), (Nat.le_of_ble_eq_true rfl)⟩ hcs (Nat.le_of_ble_eq_true rfl) rfl dL_law_730 ?_
  rintro r9 c9 ⟨rfl, rfl⟩
  refine ab_aloadn 2 dL_law_733 rfl ?_
  refine ab_aloadn 0 dL_law_734 rfl ?_
  refine ab_iload 4 dL_law_735 rfl ?_
  refine ab_iconst (v := 1) dL_law_737 (by decide) ?_
  refine ab_iadd dL_law_738 ?_
  refine ab_sldn (j := i + 1) (nI_add i 1) ⟨by omega, hL⟩ dL_law_739 ?_
  refine fX_Vi (mtc := mt_X11_oil) (As := [.int (gX G (i + 1))]) (st := [.int r9]) (K := fun v c => v = r9 ∧ c = X1) (f := fun v c => some (v, c)) (o := f_X11_oil N (gX G (i + 1)) X) (by rw [e2]; exact ⟨rfl, rfl⟩) (fun Q h => ct_X11_oil N (gX G (i + 1)) X h) ⟨by decide, by decide⟩ rfl rfl rfl mw_X11_oil wl_23 rfl rfl ⟨(Nat.le_of_ble_eq_true rfl), (Nat.le_of_ble_eq_true rfl)⟩ hcs (Nat.le_of_ble_eq_true rfl) rfl dL_law_740 ?_
  rintro v c ⟨rfl, rfl⟩
  exact ab_icmp_eq (tgt := 1347) dL_law_743 (by decide) (fun _ => hk _ _ hR1) (fun h => absurd rfl h)
theorem law_14 {l : Launch} {G : GX} {N i cs sl : Nat} {Rel : CM → XM → Prop} {C : CM} {X : XM} (hi : i + 6 ≤ gL G) (hL : gL G ≤ 3072) (hcs : cs ≤ room_1.cells ∧ sl ≤ room_1.slots) (hop : ∀ (b1 b2 : Int32), OP Rel (f_X10_point b1 b2) (f_X11_point N b1 b2)) (hR : Rel C X) (hk : ∀ C' X', Rel C' X' → AB l G room_1 cs sl mt_law (ZL G) 1347 [(0, .ref (gF G 2)), (1, .ref (gA G 0 0 0)), (2, .ref (gA G 10 0 0)), (3, .ref (gA G 11 0 0)), (4, .int (nI i))] [] (C', X')) : AB l G room_1 cs sl mt_law (ZL G) 748 [(0, .ref (gF G 2)), (1, .ref (gA G 0 0 0)), (2, .ref (gA G 10 0 0)), (3, .ref (gA G 11 0 0)), (4, .int (nI i))] [] (C, X) := by
  obtain ⟨r, C1, X1, e1, e2, hR1⟩ := hop (gX G (i + 1)) (gX G (i + 2)) C X hR
  refine ab_aloadn 1 dL_law_748 rfl ?_
  refine ab_aloadn 0 dL_law_749 rfl ?_
  refine ab_iload 4 dL_law_750 rfl ?_
  refine ab_iconst (v := 1) dL_law_752 (by decide) ?_
  refine ab_iadd dL_law_753 ?_
  refine ab_sldn (j := i + 1) (nI_add i 1) ⟨by omega, hL⟩ dL_law_754 ?_
  refine ab_aloadn 0 dL_law_755 rfl ?_
  refine ab_iload 4 dL_law_756 rfl ?_
  refine ab_iconst (v := 2) dL_law_758 (by decide) ?_
  refine ab_iadd dL_law_759 ?_
  refine ab_sldn (j := i + 2) (nI_add i 2) ⟨by omega, hL⟩ dL_law_760 ?_
  refine fC_Vi (mtc := mt_X10_point) (As := [.int (gX G (i + 1)), .int (gX G (i + 2))]) (st := []) (K := fun v c => v = r ∧ c = C1) (f := fun v c => some (v, c)) (o := f_X10_point (gX G (i + 1)) (gX G (i + 2)) C) (by rw [e1]; exact ⟨rfl, rfl⟩) (fun Q h => ct_X10_point (gX G (i + 1)) (gX G (i + 2)) C h) ⟨by decide, by decide⟩ rfl rfl rfl mw_X10_point wl_24 rfl rfl ⟨(Nat.le_of_ble_eq_true rfl), (Nat.le_of_ble_eq_true rfl)⟩ hcs (Nat.le_of_ble_eq_true rfl) rfl dL_law_761 ?_
  rintro r9 c9 ⟨rfl, rfl⟩
  refine ab_aloadn 2 dL_law_764 rfl ?_
  refine ab_aloadn 0 dL_law_765 rfl ?_
  refine ab_iload 4 dL_law_766 rfl ?_
  refine ab_iconst (v := 1) dL_law_768 (by decide) ?_
  refine ab_iadd dL_law_769 ?_
  refine ab_sldn (j := i + 1) (nI_add i 1) ⟨by omega, hL⟩ dL_law_770 ?_
  refine ab_aloadn 0 dL_law_771 rfl ?_
  refine ab_iload 4 dL_law_772 rfl ?_
  refine ab_iconst (v := 2) dL_law_774 (by decide) ?_
  refine ab_iadd dL_law_775 ?_
  refine ab_sldn (j := i + 2) (nI_add i 2) ⟨by omega, hL⟩ dL_law_776 ?_
  refine fX_Vi (mtc := mt_X11_point) (As := [.int (gX G (i + 1)), .int (gX G (i + 2))]) (st := [.int r9]) (K := fun v c => v = r9 ∧ c = X1) (f := fun v c => some (v, c)) (o := f_X11_point N (gX G (i + 1)) (gX G (i + 2)) X) (by rw [e2]; exact ⟨rfl, rfl⟩) (fun Q h => ct_X11_point N (gX G (i + 1)) (gX G (i + 2)) X h) ⟨by decide, by decide⟩ rfl rfl rfl mw_X11_point wl_25 rfl rfl ⟨(Nat.le_of_ble_eq_true rfl), (Nat.le_of_ble_eq_true rfl)⟩ hcs (Nat.le_of_ble_eq_true rfl) rfl dL_law_777 ?_
  rintro v c ⟨rfl, rfl⟩
  exact ab_icmp_eq (tgt := 1347) dL_law_780 (by decide) (fun _ => hk _ _ hR1) (fun h => absurd rfl h)
theorem law_15 {l : Launch} {G : GX} {N i cs sl : Nat} {Rel : CM → XM → Prop} {C : CM} {X : XM} (hi : i + 6 ≤ gL G) (hL : gL G ≤ 3072) (hcs : cs ≤ room_1.cells ∧ sl ≤ room_1.slots) (hop : OP Rel (f_X10_undo) (f_X11_undo N)) (hR : Rel C X) (hk : ∀ C' X', Rel C' X' → AB l G room_1 cs sl mt_law (ZL G) 1347 [(0, .ref (gF G 2)), (1, .ref (gA G 0 0 0)), (2, .ref (gA G 10 0 0)), (3, .ref (gA G 11 0 0)), (4, .int (nI i))] [] (C', X')) : AB l G room_1 cs sl mt_law (ZL G) 785 [(0, .ref (gF G 2)), (1, .ref (gA G 0 0 0)), (2, .ref (gA G 10 0 0)), (3, .ref (gA G 11 0 0)), (4, .int (nI i))] [] (C, X) := by
  obtain ⟨r, C1, X1, e1, e2, hR1⟩ := hop C X hR
  refine ab_aloadn 1 dL_law_785 rfl ?_
  refine fC_Vi (mtc := mt_X10_undo) (As := []) (st := []) (K := fun v c => v = r ∧ c = C1) (f := fun v c => some (v, c)) (o := f_X10_undo C) (by rw [e1]; exact ⟨rfl, rfl⟩) (fun Q h => ct_X10_undo C h) ⟨by decide, by decide⟩ rfl rfl rfl mw_X10_undo wl_26 rfl rfl ⟨(Nat.le_of_ble_eq_true rfl), (Nat.le_of_ble_eq_true rfl)⟩ hcs (Nat.le_of_ble_eq_true rfl) rfl dL_law_786 ?_
  rintro r9 c9 ⟨rfl, rfl⟩
  refine ab_aloadn 2 dL_law_789 rfl ?_
  refine fX_Vi (mtc := mt_X11_undo) (As := []) (st := [.int r9]) (K := fun v c => v = r9 ∧ c = X1) (f := fun v c => some (v, c)) (o := f_X11_undo N X) (by rw [e2]; exact ⟨rfl, rfl⟩) (fun Q h => ct_X11_undo N X h) ⟨by decide, by decide⟩ rfl rfl rfl mw_X11_undo wl_27 rfl rfl ⟨(Nat.le_of_ble_eq_true rfl), (Nat.le_of_ble_eq_true rfl)⟩ hcs (Nat.le_of_ble_eq_true rfl) rfl dL_law_790 ?_
  rintro v c ⟨rfl, rfl⟩
  exact ab_icmp_eq (tgt := 1347) dL_law_793 (by decide) (fun _ => hk _ _ hR1) (fun h => absurd rfl h)
theorem law_16 {l : Launch} {G : GX} {N i cs sl : Nat} {Rel : CM → XM → Prop} {C : CM} {X : XM} (hi : i + 6 ≤ gL G) (hL : gL G ≤ 3072) (hcs : cs ≤ room_1.cells ∧ sl ≤ room_1.slots) (hop : ∀ (b1 : Int32), OP Rel (f_X10_now N b1) (f_X11_now N b1)) (hR : Rel C X) (hk : ∀ C' X', Rel C' X' → AB l G room_1 cs sl mt_law (ZL G) 1347 [(0, .ref (gF G 2)), (1, .ref (gA G 0 0 0)), (2, .ref (gA G 10 0 0)), (3, .ref (gA G 11 0 0)), (4, .int (nI i))] [] (C', X')) : AB l G room_1 cs sl mt_law (ZL G) 798 [(0, .ref (gF G 2)), (1, .ref (gA G 0 0 0)), (2, .ref (gA G 10 0 0)), (3, .ref (gA G 11 0 0)), (4, .int (nI i))] [] (C, X) := by
  obtain ⟨r, C1, X1, e1, e2, hR1⟩ := hop (gX G (i + 1)) C X hR
  refine ab_aloadn 1 dL_law_798 rfl ?_
  refine ab_aloadn 0 dL_law_799 rfl ?_
  refine ab_iload 4 dL_law_800 rfl ?_
  refine ab_iconst (v := 1) dL_law_802 (by decide) ?_
  refine ab_iadd dL_law_803 ?_
  refine ab_sldn (j := i + 1) (nI_add i 1) ⟨by omega, hL⟩ dL_law_804 ?_
  refine fC_Vi (mtc := mt_X10_now) (As := [.int (gX G (i + 1))]) (st := []) (K := fun v c => v = r ∧ c = C1) (f := fun v c => some (v, c)) (o := f_X10_now N (gX G (i + 1)) C) (by rw [e1]; exact ⟨rfl, rfl⟩) (fun Q h => ct_X10_now N (gX G (i + 1)) C h) ⟨by decide, by decide⟩ rfl rfl rfl mw_X10_now wl_28 rfl rfl ⟨(Nat.le_of_ble_eq_true rfl), (Nat.le_of_ble_eq_true rfl)⟩ hcs (Nat.le_of_ble_eq_true rfl) rfl dL_law_805 ?_
  rintro r9 c9 ⟨rfl, rfl⟩
  refine ab_aloadn 2 dL_law_808 rfl ?_
  refine ab_aloadn 0 dL_law_809 rfl ?_
  refine ab_iload 4 dL_law_810 rfl ?_
  refine ab_iconst (v := 1) dL_law_812 (by decide) ?_
  refine ab_iadd dL_law_813 ?_
  refine ab_sldn (j := i + 1) (nI_add i 1) ⟨by omega, hL⟩ dL_law_814 ?_
  refine fX_Vi (mtc := mt_X11_now) (As := [.int (gX G (i + 1))]) (st := [.int r9]) (K := fun v c => v = r9 ∧ c = X1) (f := fun v c => some (v, c)) (o := f_X11_now N (gX G (i + 1)) X) (by rw [e2]; exact ⟨rfl, rfl⟩) (fun Q h => ct_X11_now N (gX G (i + 1)) X h) ⟨by decide, by decide⟩ rfl rfl rfl mw_X11_now wl_29 rfl rfl ⟨(Nat.le_of_ble_eq_true rfl), (Nat.le_of_ble_eq_true rfl)⟩ hcs (Nat.le_of_ble_eq_true rfl) rfl dL_law_815 ?_
  rintro v c ⟨rfl, rfl⟩
  exact ab_icmp_eq (tgt := 1347) dL_law_818 (by decide) (fun _ => hk _ _ hR1) (fun h => absurd rfl h)
theorem law_17 {l : Launch} {G : GX} {N i cs sl : Nat} {Rel : CM → XM → Prop} {C : CM} {X : XM} (hi : i + 6 ≤ gL G) (hL : gL G ≤ 3072) (hcs : cs ≤ room_1.cells ∧ sl ≤ room_1.slots) (hop : ∀ (b1 : Int32), OP Rel (f_X10_fence N b1) (f_X11_fence N b1)) (hR : Rel C X) (hk : ∀ C' X', Rel C' X' → AB l G room_1 cs sl mt_law (ZL G) 1347 [(0, .ref (gF G 2)), (1, .ref (gA G 0 0 0)), (2, .ref (gA G 10 0 0)), (3, .ref (gA G 11 0 0)), (4, .int (nI i))] [] (C', X')) : AB l G room_1 cs sl mt_law (ZL G) 823 [(0, .ref (gF G 2)), (1, .ref (gA G 0 0 0)), (2, .ref (gA G 10 0 0)), (3, .ref (gA G 11 0 0)), (4, .int (nI i))] [] (C, X) := by
  obtain ⟨r, C1, X1, e1, e2, hR1⟩ := hop (gX G (i + 1)) C X hR
  refine ab_aloadn 1 dL_law_823 rfl ?_
  refine ab_aloadn 0 dL_law_824 rfl ?_
  refine ab_iload 4 dL_law_825 rfl ?_
  refine ab_iconst (v := 1) dL_law_827 (by decide) ?_
  refine ab_iadd dL_law_828 ?_
  refine ab_sldn (j := i + 1) (nI_add i 1) ⟨by omega, hL⟩ dL_law_829 ?_
  refine fC_Vi (mtc := mt_X10_fence) (As := [.int (gX G (i + 1))]) (st := []) (K := fun v c => v = r ∧ c = C1) (f := fun v c => some (v, c)) (o := f_X10_fence N (gX G (i + 1)) C) (by rw [e1]; exact ⟨rfl, rfl⟩) (fun Q h => ct_X10_fence N (gX G (i + 1)) C h) ⟨by decide, by decide⟩ rfl rfl rfl mw_X10_fence wl_30 rfl rfl ⟨(Nat.le_of_ble_eq_true rfl), (Nat.le_of_ble_eq_true rfl)⟩ hcs (Nat.le_of_ble_eq_true rfl) rfl dL_law_830 ?_
  rintro r9 c9 ⟨rfl, rfl⟩
  refine ab_aloadn 2 dL_law_833 rfl ?_
  refine ab_aloadn 0 dL_law_834 rfl ?_
  refine ab_iload 4 dL_law_835 rfl ?_
  refine ab_iconst (v := 1) dL_law_837 (by decide) ?_
  refine ab_iadd dL_law_838 ?_
  refine ab_sldn (j := i + 1) (nI_add i 1) ⟨by omega, hL⟩ dL_law_839 ?_
  refine fX_Vi (mtc := mt_X11_fence) (As := [.int (gX G (i + 1))]) (st := [.int r9]) (K := fun v c => v = r9 ∧ c = X1) (f := fun v c => some (v, c)) (o := f_X11_fence N (gX G (i + 1)) X) (by rw [e2]; exact ⟨rfl, rfl⟩) (fun Q h => ct_X11_fence N (gX G (i + 1)) X h) ⟨by decide, by decide⟩ rfl rfl rfl mw_X11_fence wl_31 rfl rfl ⟨(Nat.le_of_ble_eq_true rfl), (Nat.le_of_ble_eq_true rfl)⟩ hcs (Nat.le_of_ble_eq_true rfl) rfl dL_law_840 ?_
  rintro v c ⟨rfl, rfl⟩
  exact ab_icmp_eq (tgt := 1347) dL_law_843 (by decide) (fun _ => hk _ _ hR1) (fun h => absurd rfl h)
theorem law_18 {l : Launch} {G : GX} {N i cs sl : Nat} {Rel : CM → XM → Prop} {C : CM} {X : XM} (hi : i + 6 ≤ gL G) (hL : gL G ≤ 3072) (hcs : cs ≤ room_1.cells ∧ sl ≤ room_1.slots) (hop : OP Rel (f_X10_more) (f_X11_more)) (hR : Rel C X) (hk : ∀ C' X', Rel C' X' → AB l G room_1 cs sl mt_law (ZL G) 1347 [(0, .ref (gF G 2)), (1, .ref (gA G 0 0 0)), (2, .ref (gA G 10 0 0)), (3, .ref (gA G 11 0 0)), (4, .int (nI i))] [] (C', X')) : AB l G room_1 cs sl mt_law (ZL G) 848 [(0, .ref (gF G 2)), (1, .ref (gA G 0 0 0)), (2, .ref (gA G 10 0 0)), (3, .ref (gA G 11 0 0)), (4, .int (nI i))] [] (C, X) := by
  obtain ⟨r, C1, X1, e1, e2, hR1⟩ := hop C X hR
  refine ab_aloadn 1 dL_law_848 rfl ?_
  refine fC_Vi (mtc := mt_X10_more) (As := []) (st := []) (K := fun v c => v = r ∧ c = C1) (f := fun v c => some (v, c)) (o := f_X10_more C) (by rw [e1]; exact ⟨rfl, rfl⟩) (fun Q h => ct_X10_more C h) ⟨by decide, by decide⟩ rfl rfl rfl mw_X10_more wl_32 rfl rfl ⟨(Nat.le_of_ble_eq_true rfl), (Nat.le_of_ble_eq_true rfl)⟩ hcs (Nat.le_of_ble_eq_true rfl) rfl dL_law_849 ?_
  rintro r9 c9 ⟨rfl, rfl⟩
  refine ab_aloadn 2 dL_law_852 rfl ?_
  refine fX_Vi (mtc := mt_X11_more) (As := []) (st := [.int r9]) (K := fun v c => v = r9 ∧ c = X1) (f := fun v c => some (v, c)) (o := f_X11_more X) (by rw [e2]; exact ⟨rfl, rfl⟩) (fun Q h => ct_X11_more X h) ⟨by decide, by decide⟩ rfl rfl rfl mw_X11_more wl_33 rfl rfl ⟨(Nat.le_of_ble_eq_true rfl), (Nat.le_of_ble_eq_true rfl)⟩ hcs (Nat.le_of_ble_eq_true rfl) rfl dL_law_853 ?_
  rintro v c ⟨rfl, rfl⟩
  exact ab_icmp_eq (tgt := 1347) dL_law_856 (by decide) (fun _ => hk _ _ hR1) (fun h => absurd rfl h)
theorem law_19 {l : Launch} {G : GX} {N i cs sl : Nat} {Rel : CM → XM → Prop} {C : CM} {X : XM} (hi : i + 6 ≤ gL G) (hL : gL G ≤ 3072) (hcs : cs ≤ room_1.cells ∧ sl ≤ room_1.slots) (hop : ∀ (b1 b2 : Int32), OP Rel (f_X10_has N b1 b2) (f_X11_has N b1 b2)) (hR : Rel C X) (hk : ∀ C' X', Rel C' X' → AB l G room_1 cs sl mt_law (ZL G) 1347 [(0, .ref (gF G 2)), (1, .ref (gA G 0 0 0)), (2, .ref (gA G 10 0 0)), (3, .ref (gA G 11 0 0)), (4, .int (nI i))] [] (C', X')) : AB l G room_1 cs sl mt_law (ZL G) 861 [(0, .ref (gF G 2)), (1, .ref (gA G 0 0 0)), (2, .ref (gA G 10 0 0)), (3, .ref (gA G 11 0 0)), (4, .int (nI i))] [] (C, X) := by
  obtain ⟨r, C1, X1, e1, e2, hR1⟩ := hop (gX G (i + 1)) (gX G (i + 2)) C X hR
  refine ab_aloadn 1 dL_law_861 rfl ?_
  refine ab_aloadn 0 dL_law_862 rfl ?_
  refine ab_iload 4 dL_law_863 rfl ?_
  refine ab_iconst (v := 1) dL_law_865 (by decide) ?_
  refine ab_iadd dL_law_866 ?_
  refine ab_sldn (j := i + 1) (nI_add i 1) ⟨by omega, hL⟩ dL_law_867 ?_
  refine ab_aloadn 0 dL_law_868 rfl ?_
  refine ab_iload 4 dL_law_869 rfl ?_
  refine ab_iconst (v := 2) dL_law_871 (by decide) ?_
  refine ab_iadd dL_law_872 ?_
  refine ab_sldn (j := i + 2) (nI_add i 2) ⟨by omega, hL⟩ dL_law_873 ?_
  refine fC_Vi (mtc := mt_X10_has) (As := [.int (gX G (i + 1)), .int (gX G (i + 2))]) (st := []) (K := fun v c => v = r ∧ c = C1) (f := fun v c => some (v, c)) (o := f_X10_has N (gX G (i + 1)) (gX G (i + 2)) C) (by rw [e1]; exact ⟨rfl, rfl⟩) (fun Q h => ct_X10_has N (gX G (i + 1)) (gX G (i + 2)) C h) ⟨by decide, by decide⟩ rfl rfl rfl mw_X10_has wl_34 rfl rfl ⟨(Nat.le_of_ble_eq_true rfl), (Nat.le_of_ble_eq_true rfl)⟩ hcs (Nat.le_of_ble_eq_true rfl) rfl dL_law_874 ?_
  rintro r9 c9 ⟨rfl, rfl⟩
  refine ab_aloadn 2 dL_law_877 rfl ?_
  refine ab_aloadn 0 dL_law_878 rfl ?_
  refine ab_iload 4 dL_law_879 rfl ?_
  refine ab_iconst (v := 1) dL_law_881 (by decide) ?_
  refine ab_iadd dL_law_882 ?_
  refine ab_sldn (j := i + 1) (nI_add i 1) ⟨by omega, hL⟩ dL_law_883 ?_
  refine ab_aloadn 0 dL_law_884 rfl ?_
  refine ab_iload 4 dL_law_885 rfl ?_
  refine ab_iconst (v := 2) dL_law_887 (by decide) ?_
  refine ab_iadd dL_law_888 ?_
  refine ab_sldn (j := i + 2) (nI_add i 2) ⟨by omega, hL⟩ dL_law_889 ?_
  refine fX_Vi (mtc := mt_X11_has) (As := [.int (gX G (i + 1)), .int (gX G (i + 2))]) (st := [.int r9]) (K := fun v c => v = r9 ∧ c = X1) (f := fun v c => some (v, c)) (o := f_X11_has N (gX G (i + 1)) (gX G (i + 2)) X) (by rw [e2]; exact ⟨rfl, rfl⟩) (fun Q h => ct_X11_has N (gX G (i + 1)) (gX G (i + 2)) X h) ⟨by decide, by decide⟩ rfl rfl rfl mw_X11_has wl_35 rfl rfl ⟨(Nat.le_of_ble_eq_true rfl), (Nat.le_of_ble_eq_true rfl)⟩ hcs (Nat.le_of_ble_eq_true rfl) rfl dL_law_890 ?_
  rintro v c ⟨rfl, rfl⟩
  exact ab_icmp_eq (tgt := 1347) dL_law_893 (by decide) (fun _ => hk _ _ hR1) (fun h => absurd rfl h)
theorem law_20 {l : Launch} {G : GX} {N i cs sl : Nat} {Rel : CM → XM → Prop} {C : CM} {X : XM} (hi : i + 6 ≤ gL G) (hL : gL G ≤ 3072) (hcs : cs ≤ room_1.cells ∧ sl ≤ room_1.slots) (hop : ∀ (b1 : Int32), OP Rel (f_X10_rests N b1) (f_X11_rests N b1)) (hR : Rel C X) (hk : ∀ C' X', Rel C' X' → AB l G room_1 cs sl mt_law (ZL G) 1347 [(0, .ref (gF G 2)), (1, .ref (gA G 0 0 0)), (2, .ref (gA G 10 0 0)), (3, .ref (gA G 11 0 0)), (4, .int (nI i))] [] (C', X')) : AB l G room_1 cs sl mt_law (ZL G) 898 [(0, .ref (gF G 2)), (1, .ref (gA G 0 0 0)), (2, .ref (gA G 10 0 0)), (3, .ref (gA G 11 0 0)), (4, .int (nI i))] [] (C, X) := by
  obtain ⟨r, C1, X1, e1, e2, hR1⟩ := hop (gX G (i + 1)) C X hR
  refine ab_aloadn 1 dL_law_898 rfl ?_
  refine ab_aloadn 0 dL_law_899 rfl ?_
  refine ab_iload 4 dL_law_900 rfl ?_
  refine ab_iconst (v := 1) dL_law_902 (by decide) ?_
  refine ab_iadd dL_law_903 ?_
  refine ab_sldn (j := i + 1) (nI_add i 1) ⟨by omega, hL⟩ dL_law_904 ?_
  refine fC_Vi (mtc := mt_X10_rests) (As := [.int (gX G (i + 1))]) (st := []) (K := fun v c => v = r ∧ c = C1) (f := fun v c => some (v, c)) (o := f_X10_rests N (gX G (i + 1)) C) (by rw [e1]; exact ⟨rfl, rfl⟩) (fun Q h => ct_X10_rests N (gX G (i + 1)) C h) ⟨by decide, by decide⟩ rfl rfl rfl mw_X10_rests wl_36 rfl rfl ⟨(Nat.le_of_ble_eq_true rfl), (Nat.le_of_ble_eq_true rfl)⟩ hcs (Nat.le_of_ble_eq_true rfl) rfl dL_law_905 ?_
  rintro r9 c9 ⟨rfl, rfl⟩
  refine ab_aloadn 2 dL_law_908 rfl ?_
  refine ab_aloadn 0 dL_law_909 rfl ?_
  refine ab_iload 4 dL_law_910 rfl ?_
  refine ab_iconst (v := 1) dL_law_912 (by decide) ?_
  refine ab_iadd dL_law_913 ?_
  refine ab_sldn (j := i + 1) (nI_add i 1) ⟨by omega, hL⟩ dL_law_914 ?_
  refine fX_Vi (mtc := mt_X11_rests) (As := [.int (gX G (i + 1))]) (st := [.int r9]) (K := fun v c => v = r9 ∧ c = X1) (f := fun v c => some (v, c)) (o := f_X11_rests N (gX G (i + 1)) X) (by rw [e2]; exact ⟨rfl, rfl⟩) (fun Q h => ct_X11_rests N (gX G (i + 1)) X h) ⟨by decide, by decide⟩ rfl rfl rfl mw_X11_rests wl_37 rfl rfl ⟨(Nat.le_of_ble_eq_true rfl), (Nat.le_of_ble_eq_true rfl)⟩ hcs (Nat.le_of_ble_eq_true rfl) rfl dL_law_915 ?_
  rintro v c ⟨rfl, rfl⟩
  exact ab_icmp_eq (tgt := 1347) dL_law_918 (by decide) (fun _ => hk _ _ hR1) (fun h => absurd rfl h)
theorem law_21 {l : Launch} {G : GX} {N i cs sl : Nat} {Rel : CM → XM → Prop} {C : CM} {X : XM} (hi : i + 6 ≤ gL G) (hL : gL G ≤ 3072) (hcs : cs ≤ room_1.cells ∧ sl ≤ room_1.slots) (hop : OP Rel (f_X10_oiled N) (f_X11_oiled N)) (hR : Rel C X) (hk : ∀ C' X', Rel C' X' → AB l G room_1 cs sl mt_law (ZL G) 1347 [(0, .ref (gF G 2)), (1, .ref (gA G 0 0 0)), (2, .ref (gA G 10 0 0)), (3, .ref (gA G 11 0 0)), (4, .int (nI i))] [] (C', X')) : AB l G room_1 cs sl mt_law (ZL G) 923 [(0, .ref (gF G 2)), (1, .ref (gA G 0 0 0)), (2, .ref (gA G 10 0 0)), (3, .ref (gA G 11 0 0)), (4, .int (nI i))] [] (C, X) := by
  obtain ⟨r, C1, X1, e1, e2, hR1⟩ := hop C X hR
  refine ab_aloadn 1 dL_law_923 rfl ?_
  refine fC_Vi (mtc := mt_X10_oiled) (As := []) (st := []) (K := fun v c => v = r ∧ c = C1) (f := fun v c => some (v, c)) (o := f_X10_oiled N C) (by rw [e1]; exact ⟨rfl, rfl⟩) (fun Q h => ct_X10_oiled N C h) ⟨by decide, by decide⟩ rfl rfl rfl mw_X10_oiled wl_38 rfl rfl ⟨(Nat.le_of_ble_eq_true rfl), (Nat.le_of_ble_eq_true rfl)⟩ hcs (Nat.le_of_ble_eq_true rfl) rfl dL_law_924 ?_
  rintro r9 c9 ⟨rfl, rfl⟩
  refine ab_aloadn 2 dL_law_927 rfl ?_
  refine fX_Vi (mtc := mt_X11_oiled) (As := []) (st := [.int r9]) (K := fun v c => v = r9 ∧ c = X1) (f := fun v c => some (v, c)) (o := f_X11_oiled N X) (by rw [e2]; exact ⟨rfl, rfl⟩) (fun Q h => ct_X11_oiled N X h) ⟨by decide, by decide⟩ rfl rfl rfl mw_X11_oiled wl_39 rfl rfl ⟨(Nat.le_of_ble_eq_true rfl), (Nat.le_of_ble_eq_true rfl)⟩ hcs (Nat.le_of_ble_eq_true rfl) rfl dL_law_928 ?_
  rintro v c ⟨rfl, rfl⟩
  exact ab_icmp_eq (tgt := 1347) dL_law_931 (by decide) (fun _ => hk _ _ hR1) (fun h => absurd rfl h)
theorem law_22 {l : Launch} {G : GX} {N i cs sl : Nat} {Rel : CM → XM → Prop} {C : CM} {X : XM} (hi : i + 6 ≤ gL G) (hL : gL G ≤ 3072) (hcs : cs ≤ room_1.cells ∧ sl ≤ room_1.slots) (hop : ∀ (b1 : Int32), OP Rel (f_X10_oiledAt b1) (f_X11_oiledAt b1)) (hR : Rel C X) (hk : ∀ C' X', Rel C' X' → AB l G room_1 cs sl mt_law (ZL G) 1347 [(0, .ref (gF G 2)), (1, .ref (gA G 0 0 0)), (2, .ref (gA G 10 0 0)), (3, .ref (gA G 11 0 0)), (4, .int (nI i))] [] (C', X')) : AB l G room_1 cs sl mt_law (ZL G) 936 [(0, .ref (gF G 2)), (1, .ref (gA G 0 0 0)), (2, .ref (gA G 10 0 0)), (3, .ref (gA G 11 0 0)), (4, .int (nI i))] [] (C, X) := by
  obtain ⟨r, C1, X1, e1, e2, hR1⟩ := hop (gX G (i + 1)) C X hR
  refine ab_aloadn 1 dL_law_936 rfl ?_
  refine ab_aloadn 0 dL_law_937 rfl ?_
  refine ab_iload 4 dL_law_938 rfl ?_
  refine ab_iconst (v := 1) dL_law_940 (by decide) ?_
  refine ab_iadd dL_law_941 ?_
  refine ab_sldn (j := i + 1) (nI_add i 1) ⟨by omega, hL⟩ dL_law_942 ?_
  refine fC_Vi (mtc := mt_X10_oiledAt) (As := [.int (gX G (i + 1))]) (st := []) (K := fun v c => v = r ∧ c = C1) (f := fun v c => some (v, c)) (o := f_X10_oiledAt (gX G (i + 1)) C) (by rw [e1]; exact ⟨rfl, rfl⟩) (fun Q h => ct_X10_oiledAt (gX G (i + 1)) C h) ⟨by decide, by decide⟩ rfl rfl rfl mw_X10_oiledAt wl_40 rfl rfl ⟨(Nat.le_of_ble_eq_true rfl), (Nat.le_of_ble_eq_true rfl)⟩ hcs (Nat.le_of_ble_eq_true rfl) rfl dL_law_943 ?_
  rintro r9 c9 ⟨rfl, rfl⟩
  refine ab_aloadn 2 dL_law_946 rfl ?_
  refine ab_aloadn 0 dL_law_947 rfl ?_
  refine ab_iload 4 dL_law_948 rfl ?_
  refine ab_iconst (v := 1) dL_law_950 (by decide) ?_
  refine ab_iadd dL_law_951 ?_
  refine ab_sldn (j := i + 1) (nI_add i 1) ⟨by omega, hL⟩ dL_law_952 ?_
  refine fX_Vi (mtc := mt_X11_oiledAt) (As := [.int (gX G (i + 1))]) (st := [.int r9]) (K := fun v c => v = r9 ∧ c = X1) (f := fun v c => some (v, c)) (o := f_X11_oiledAt (gX G (i + 1)) X) (by rw [e2]; exact ⟨rfl, rfl⟩) (fun Q h => ct_X11_oiledAt (gX G (i + 1)) X h) ⟨by decide, by decide⟩ rfl rfl rfl mw_X11_oiledAt wl_41 rfl rfl ⟨(Nat.le_of_ble_eq_true rfl), (Nat.le_of_ble_eq_true rfl)⟩ hcs (Nat.le_of_ble_eq_true rfl) rfl dL_law_953 ?_
  rintro v c ⟨rfl, rfl⟩
  exact ab_icmp_eq (tgt := 1347) dL_law_956 (by decide) (fun _ => hk _ _ hR1) (fun h => absurd rfl h)
theorem law_23 {l : Launch} {G : GX} {N i cs sl : Nat} {Rel : CM → XM → Prop} {C : CM} {X : XM} (hi : i + 6 ≤ gL G) (hL : gL G ≤ 3072) (hcs : cs ≤ room_1.cells ∧ sl ≤ room_1.slots) (hop : ∀ (b1 b2 : Int32), OP Rel (f_X10_suit N b1 b2) (f_X11_suit N b1 b2)) (hR : Rel C X) (hk : ∀ C' X', Rel C' X' → AB l G room_1 cs sl mt_law (ZL G) 1347 [(0, .ref (gF G 2)), (1, .ref (gA G 0 0 0)), (2, .ref (gA G 10 0 0)), (3, .ref (gA G 11 0 0)), (4, .int (nI i))] [] (C', X')) : AB l G room_1 cs sl mt_law (ZL G) 961 [(0, .ref (gF G 2)), (1, .ref (gA G 0 0 0)), (2, .ref (gA G 10 0 0)), (3, .ref (gA G 11 0 0)), (4, .int (nI i))] [] (C, X) := by
  obtain ⟨r, C1, X1, e1, e2, hR1⟩ := hop (gX G (i + 1)) (gX G (i + 2)) C X hR
  refine ab_aloadn 1 dL_law_961 rfl ?_
  refine ab_aloadn 0 dL_law_962 rfl ?_
  refine ab_iload 4 dL_law_963 rfl ?_
  refine ab_iconst (v := 1) dL_law_965 (by decide) ?_
  refine ab_iadd dL_law_966 ?_
  refine ab_sldn (j := i + 1) (nI_add i 1) ⟨by omega, hL⟩ dL_law_967 ?_
  refine ab_aloadn 0 dL_law_968 rfl ?_
  refine ab_iload 4 dL_law_969 rfl ?_
  refine ab_iconst (v := 2) dL_law_971 (by decide) ?_
  refine ab_iadd dL_law_972 ?_
  refine ab_sldn (j := i + 2) (nI_add i 2) ⟨by omega, hL⟩ dL_law_973 ?_
  refine fC_Vi (mtc := mt_X10_suit) (As := [.int (gX G (i + 1)), .int (gX G (i + 2))]) (st := []) (K := fun v c => v = r ∧ c = C1) (f := fun v c => some (v, c)) (o := f_X10_suit N (gX G (i + 1)) (gX G (i + 2)) C) (by rw [e1]; exact ⟨rfl, rfl⟩) (fun Q h => ct_X10_suit N (gX G (i + 1)) (gX G (i + 2)) C h) ⟨by decide, by decide⟩ rfl rfl rfl mw_X10_suit wl_42 rfl rfl ⟨(Nat.le_of_ble_eq_true rfl), (Nat.le_of_ble_eq_true rfl)⟩ hcs (Nat.le_of_ble_eq_true rfl) rfl dL_law_974 ?_
  rintro r9 c9 ⟨rfl, rfl⟩
  refine ab_aloadn 2 dL_law_977 rfl ?_
  refine ab_aloadn 0 dL_law_978 rfl ?_
  refine ab_iload 4 dL_law_979 rfl ?_
  refine ab_iconst (v := 1) dL_law_981 (by decide) ?_
  refine ab_iadd dL_law_982 ?_
  refine ab_sldn (j := i + 1) (nI_add i 1) ⟨by omega, hL⟩ dL_law_983 ?_
  refine ab_aloadn 0 dL_law_984 rfl ?_
  refine ab_iload 4 dL_law_985 rfl ?_
  refine ab_iconst (v := 2) dL_law_987 (by decide) ?_
  refine ab_iadd dL_law_988 ?_
  refine ab_sldn (j := i + 2) (nI_add i 2) ⟨by omega, hL⟩ dL_law_989 ?_
  refine fX_Vi (mtc := mt_X11_suit) (As := [.int (gX G (i + 1)), .int (gX G (i + 2))]) (st := [.int r9]) (K := fun v c => v = r9 ∧ c = X1) (f := fun v c => some (v, c)) (o := f_X11_suit N (gX G (i + 1)) (gX G (i + 2)) X) (by rw [e2]; exact ⟨rfl, rfl⟩) (fun Q h => ct_X11_suit N (gX G (i + 1)) (gX G (i + 2)) X h) ⟨by decide, by decide⟩ rfl rfl rfl mw_X11_suit wl_43 rfl rfl ⟨(Nat.le_of_ble_eq_true rfl), (Nat.le_of_ble_eq_true rfl)⟩ hcs (Nat.le_of_ble_eq_true rfl) rfl dL_law_990 ?_
  rintro v c ⟨rfl, rfl⟩
  exact ab_icmp_eq (tgt := 1347) dL_law_993 (by decide) (fun _ => hk _ _ hR1) (fun h => absurd rfl h)
theorem law_24 {l : Launch} {G : GX} {N i cs sl : Nat} {Rel : CM → XM → Prop} {C : CM} {X : XM} (hi : i + 6 ≤ gL G) (hL : gL G ≤ 3072) (hcs : cs ≤ room_1.cells ∧ sl ≤ room_1.slots) (hop : ∀ (b1 : Int32), OP Rel (f_X10_worth N b1) (f_X11_worth N b1)) (hR : Rel C X) (hk : ∀ C' X', Rel C' X' → AB l G room_1 cs sl mt_law (ZL G) 1347 [(0, .ref (gF G 2)), (1, .ref (gA G 0 0 0)), (2, .ref (gA G 10 0 0)), (3, .ref (gA G 11 0 0)), (4, .int (nI i))] [] (C', X')) : AB l G room_1 cs sl mt_law (ZL G) 998 [(0, .ref (gF G 2)), (1, .ref (gA G 0 0 0)), (2, .ref (gA G 10 0 0)), (3, .ref (gA G 11 0 0)), (4, .int (nI i))] [] (C, X) := by
  obtain ⟨r, C1, X1, e1, e2, hR1⟩ := hop (gX G (i + 1)) C X hR
  refine ab_aloadn 1 dL_law_998 rfl ?_
  refine ab_aloadn 0 dL_law_999 rfl ?_
  refine ab_iload 4 dL_law_1000 rfl ?_
  refine ab_iconst (v := 1) dL_law_1002 (by decide) ?_
  refine ab_iadd dL_law_1003 ?_
  refine ab_sldn (j := i + 1) (nI_add i 1) ⟨by omega, hL⟩ dL_law_1004 ?_
  refine fC_Vi (mtc := mt_X10_worth) (As := [.int (gX G (i + 1))]) (st := []) (K := fun v c => v = r ∧ c = C1) (f := fun v c => some (v, c)) (o := f_X10_worth N (gX G (i + 1)) C) (by rw [e1]; exact ⟨rfl, rfl⟩) (fun Q h => ct_X10_worth N (gX G (i + 1)) C h) ⟨by decide, by decide⟩ rfl rfl rfl mw_X10_worth wl_44 rfl rfl ⟨(Nat.le_of_ble_eq_true rfl), (Nat.le_of_ble_eq_true rfl)⟩ hcs (Nat.le_of_ble_eq_true rfl) rfl dL_law_1005 ?_
  rintro r9 c9 ⟨rfl, rfl⟩
  refine ab_aloadn 2 dL_law_1008 rfl ?_
  refine ab_aloadn 0 dL_law_1009 rfl ?_
  refine ab_iload 4 dL_law_1010 rfl ?_
  refine ab_iconst (v := 1) dL_law_1012 (by decide) ?_
  refine ab_iadd dL_law_1013 ?_
  refine ab_sldn (j := i + 1) (nI_add i 1) ⟨by omega, hL⟩ dL_law_1014 ?_
  refine fX_Vi (mtc := mt_X11_worth) (As := [.int (gX G (i + 1))]) (st := [.int r9]) (K := fun v c => v = r9 ∧ c = X1) (f := fun v c => some (v, c)) (o := f_X11_worth N (gX G (i + 1)) X) (by rw [e2]; exact ⟨rfl, rfl⟩) (fun Q h => ct_X11_worth N (gX G (i + 1)) X h) ⟨by decide, by decide⟩ rfl rfl rfl mw_X11_worth wl_45 rfl rfl ⟨(Nat.le_of_ble_eq_true rfl), (Nat.le_of_ble_eq_true rfl)⟩ hcs (Nat.le_of_ble_eq_true rfl) rfl dL_law_1015 ?_
  rintro v c ⟨rfl, rfl⟩
  exact ab_icmp_eq (tgt := 1347) dL_law_1018 (by decide) (fun _ => hk _ _ hR1) (fun h => absurd rfl h)
theorem law_25 {l : Launch} {G : GX} {N i cs sl : Nat} {Rel : CM → XM → Prop} {C : CM} {X : XM} (hi : i + 6 ≤ gL G) (hL : gL G ≤ 3072) (hcs : cs ≤ room_1.cells ∧ sl ≤ room_1.slots) (hop : ∀ (b1 b2 b3 : Int32), OP Rel (f_X10_drawn N b1 b2 b3) (f_X11_drawn N b1 b2 b3)) (hR : Rel C X) (hk : ∀ C' X', Rel C' X' → AB l G room_1 cs sl mt_law (ZL G) 1347 [(0, .ref (gF G 2)), (1, .ref (gA G 0 0 0)), (2, .ref (gA G 10 0 0)), (3, .ref (gA G 11 0 0)), (4, .int (nI i))] [] (C', X')) : AB l G room_1 cs sl mt_law (ZL G) 1023 [(0, .ref (gF G 2)), (1, .ref (gA G 0 0 0)), (2, .ref (gA G 10 0 0)), (3, .ref (gA G 11 0 0)), (4, .int (nI i))] [] (C, X) := by
  obtain ⟨r, C1, X1, e1, e2, hR1⟩ := hop (gX G (i + 1)) (gX G (i + 2)) (gX G (i + 3)) C X hR
  refine ab_aloadn 1 dL_law_1023 rfl ?_
  refine ab_aloadn 0 dL_law_1024 rfl ?_
  refine ab_iload 4 dL_law_1025 rfl ?_
  refine ab_iconst (v := 1) dL_law_1027 (by decide) ?_
  refine ab_iadd dL_law_1028 ?_
  refine ab_sldn (j := i + 1) (nI_add i 1) ⟨by omega, hL⟩ dL_law_1029 ?_
  refine ab_aloadn 0 dL_law_1030 rfl ?_
  refine ab_iload 4 dL_law_1031 rfl ?_
  refine ab_iconst (v := 2) dL_law_1033 (by decide) ?_
  refine ab_iadd dL_law_1034 ?_
  refine ab_sldn (j := i + 2) (nI_add i 2) ⟨by omega, hL⟩ dL_law_1035 ?_
  refine ab_aloadn 0 dL_law_1036 rfl ?_
  refine ab_iload 4 dL_law_1037 rfl ?_
  refine ab_iconst (v := 3) dL_law_1039 (by decide) ?_
  refine ab_iadd dL_law_1040 ?_
  refine ab_sldn (j := i + 3) (nI_add i 3) ⟨by omega, hL⟩ dL_law_1041 ?_
  refine fC_Vi (mtc := mt_X10_drawn) (As := [.int (gX G (i + 1)), .int (gX G (i + 2)), .int (gX G (i + 3))]) (st := []) (K := fun v c => v = r ∧ c = C1) (f := fun v c => some (v, c)) (o := f_X10_drawn N (gX G (i + 1)) (gX G (i + 2)) (gX G (i + 3)) C) (by rw [e1]; exact ⟨rfl, rfl⟩) (fun Q h => ct_X10_drawn N (gX G (i + 1)) (gX G (i + 2)) (gX G (i + 3)) C h) ⟨by decide, by decide⟩ rfl rfl rfl mw_X10_drawn wl_46 rfl rfl ⟨(Nat.le_of_ble_eq_true rfl), (Nat.le_of_ble_eq_true rfl)⟩ hcs (Nat.le_of_ble_eq_true rfl) rfl dL_law_1042 ?_
  rintro r9 c9 ⟨rfl, rfl⟩
  refine ab_aloadn 2 dL_law_1045 rfl ?_
  refine ab_aloadn 0 dL_law_1046 rfl ?_
  refine ab_iload 4 dL_law_1047 rfl ?_
  refine ab_iconst (v := 1) dL_law_1049 (by decide) ?_
  refine ab_iadd dL_law_1050 ?_
  refine ab_sldn (j := i + 1) (nI_add i 1) ⟨by omega, hL⟩ dL_law_1051 ?_
  refine ab_aloadn 0 dL_law_1052 rfl ?_
  refine ab_iload 4 dL_law_1053 rfl ?_
  refine ab_iconst (v := 2) dL_law_1055 (by decide) ?_
  refine ab_iadd dL_law_1056 ?_
  refine ab_sldn (j := i + 2) (nI_add i 2) ⟨by omega, hL⟩ dL_law_1057 ?_
  refine ab_aloadn 0 dL_law_1058 rfl ?_
  refine ab_iload 4 dL_law_1059 rfl ?_
  refine ab_iconst (v := 3) dL_law_1061 (by decide) ?_
  refine ab_iadd dL_law_1062 ?_
  refine ab_sldn (j := i + 3) (nI_add i 3) ⟨by omega, hL⟩ dL_law_1063 ?_
  refine fX_Vi (mtc := mt_X11_drawn) (As := [.int (gX G (i + 1)), .int (gX G (i + 2)), .int (gX G (i + 3))]) (st := [.int r9]) (K := fun v c => v = r9 ∧ c = X1) (f := fun v c => some (v, c)) (o := f_X11_drawn N (gX G (i + 1)) (gX G (i + 2)) (gX G (i + 3)) X) (by rw [e2]; exact ⟨rfl, rfl⟩) (fun Q h => ct_X11_drawn N (gX G (i + 1)) (gX G (i + 2)) (gX G (i + 3)) X h) ⟨by decide, by decide⟩ rfl rfl rfl mw_X11_drawn wl_47 rfl rfl ⟨(Nat.le_of_ble_eq_true rfl), (Nat.le_of_ble_eq_true rfl)⟩ hcs (Nat.le_of_ble_eq_true rfl) rfl dL_law_1064 ?_
  rintro v c ⟨rfl, rfl⟩
  exact ab_icmp_eq (tgt := 1347) dL_law_1067 (by decide) (fun _ => hk _ _ hR1) (fun h => absurd rfl h)
theorem law_26 {l : Launch} {G : GX} {N i cs sl : Nat} {Rel : CM → XM → Prop} {C : CM} {X : XM} (hi : i + 6 ≤ gL G) (hL : gL G ≤ 3072) (hcs : cs ≤ room_1.cells ∧ sl ≤ room_1.slots) (hop : ∀ (b1 b2 b3 : Int32), OP Rel (f_X10_odds N b1 b2 b3) (f_X11_odds N b1 b2 b3)) (hR : Rel C X) (hk : ∀ C' X', Rel C' X' → AB l G room_1 cs sl mt_law (ZL G) 1347 [(0, .ref (gF G 2)), (1, .ref (gA G 0 0 0)), (2, .ref (gA G 10 0 0)), (3, .ref (gA G 11 0 0)), (4, .int (nI i))] [] (C', X')) : AB l G room_1 cs sl mt_law (ZL G) 1072 [(0, .ref (gF G 2)), (1, .ref (gA G 0 0 0)), (2, .ref (gA G 10 0 0)), (3, .ref (gA G 11 0 0)), (4, .int (nI i))] [] (C, X) := by
  obtain ⟨r, C1, X1, e1, e2, hR1⟩ := hop (gX G (i + 1)) (gX G (i + 2)) (gX G (i + 3)) C X hR
  refine ab_aloadn 1 dL_law_1072 rfl ?_
  refine ab_aloadn 0 dL_law_1073 rfl ?_
  refine ab_iload 4 dL_law_1074 rfl ?_
  refine ab_iconst (v := 1) dL_law_1076 (by decide) ?_
  refine ab_iadd dL_law_1077 ?_
  refine ab_sldn (j := i + 1) (nI_add i 1) ⟨by omega, hL⟩ dL_law_1078 ?_
  refine ab_aloadn 0 dL_law_1079 rfl ?_
  refine ab_iload 4 dL_law_1080 rfl ?_
  refine ab_iconst (v := 2) dL_law_1082 (by decide) ?_
  refine ab_iadd dL_law_1083 ?_
  refine ab_sldn (j := i + 2) (nI_add i 2) ⟨by omega, hL⟩ dL_law_1084 ?_
  refine ab_aloadn 0 dL_law_1085 rfl ?_
  refine ab_iload 4 dL_law_1086 rfl ?_
  refine ab_iconst (v := 3) dL_law_1088 (by decide) ?_
  refine ab_iadd dL_law_1089 ?_
  refine ab_sldn (j := i + 3) (nI_add i 3) ⟨by omega, hL⟩ dL_law_1090 ?_
  refine fC_Vi (mtc := mt_X10_odds) (As := [.int (gX G (i + 1)), .int (gX G (i + 2)), .int (gX G (i + 3))]) (st := []) (K := fun v c => v = r ∧ c = C1) (f := fun v c => some (v, c)) (o := f_X10_odds N (gX G (i + 1)) (gX G (i + 2)) (gX G (i + 3)) C) (by rw [e1]; exact ⟨rfl, rfl⟩) (fun Q h => ct_X10_odds N (gX G (i + 1)) (gX G (i + 2)) (gX G (i + 3)) C h) ⟨by decide, by decide⟩ rfl rfl rfl mw_X10_odds wl_48 rfl rfl ⟨(Nat.le_of_ble_eq_true rfl), (Nat.le_of_ble_eq_true rfl)⟩ hcs (Nat.le_of_ble_eq_true rfl) rfl dL_law_1091 ?_
  rintro r9 c9 ⟨rfl, rfl⟩
  refine ab_aloadn 2 dL_law_1094 rfl ?_
  refine ab_aloadn 0 dL_law_1095 rfl ?_
  refine ab_iload 4 dL_law_1096 rfl ?_
  refine ab_iconst (v := 1) dL_law_1098 (by decide) ?_
  refine ab_iadd dL_law_1099 ?_
  refine ab_sldn (j := i + 1) (nI_add i 1) ⟨by omega, hL⟩ dL_law_1100 ?_
  refine ab_aloadn 0 dL_law_1101 rfl ?_
  refine ab_iload 4 dL_law_1102 rfl ?_
  refine ab_iconst (v := 2) dL_law_1104 (by decide) ?_
  refine ab_iadd dL_law_1105 ?_
  refine ab_sldn (j := i + 2) (nI_add i 2) ⟨by omega, hL⟩ dL_law_1106 ?_
  refine ab_aloadn 0 dL_law_1107 rfl ?_
  refine ab_iload 4 dL_law_1108 rfl ?_
  refine ab_iconst (v := 3) dL_law_1110 (by decide) ?_
  refine ab_iadd dL_law_1111 ?_
  refine ab_sldn (j := i + 3) (nI_add i 3) ⟨by omega, hL⟩ dL_law_1112 ?_
  refine fX_Vi (mtc := mt_X11_odds) (As := [.int (gX G (i + 1)), .int (gX G (i + 2)), .int (gX G (i + 3))]) (st := [.int r9]) (K := fun v c => v = r9 ∧ c = X1) (f := fun v c => some (v, c)) (o := f_X11_odds N (gX G (i + 1)) (gX G (i + 2)) (gX G (i + 3)) X) (by rw [e2]; exact ⟨rfl, rfl⟩) (fun Q h => ct_X11_odds N (gX G (i + 1)) (gX G (i + 2)) (gX G (i + 3)) X h) ⟨by decide, by decide⟩ rfl rfl rfl mw_X11_odds wl_49 rfl rfl ⟨(Nat.le_of_ble_eq_true rfl), (Nat.le_of_ble_eq_true rfl)⟩ hcs (Nat.le_of_ble_eq_true rfl) rfl dL_law_1113 ?_
  rintro v c ⟨rfl, rfl⟩
  exact ab_icmp_eq (tgt := 1347) dL_law_1116 (by decide) (fun _ => hk _ _ hR1) (fun h => absurd rfl h)
theorem law_27 {l : Launch} {G : GX} {N i cs sl : Nat} {Rel : CM → XM → Prop} {C : CM} {X : XM} (hi : i + 6 ≤ gL G) (hL : gL G ≤ 3072) (hcs : cs ≤ room_1.cells ∧ sl ≤ room_1.slots) (hop : OP Rel (f_X10_richest N) (f_X11_richest N)) (hR : Rel C X) (hk : ∀ C' X', Rel C' X' → AB l G room_1 cs sl mt_law (ZL G) 1347 [(0, .ref (gF G 2)), (1, .ref (gA G 0 0 0)), (2, .ref (gA G 10 0 0)), (3, .ref (gA G 11 0 0)), (4, .int (nI i))] [] (C', X')) : AB l G room_1 cs sl mt_law (ZL G) 1121 [(0, .ref (gF G 2)), (1, .ref (gA G 0 0 0)), (2, .ref (gA G 10 0 0)), (3, .ref (gA G 11 0 0)), (4, .int (nI i))] [] (C, X) := by
  obtain ⟨r, C1, X1, e1, e2, hR1⟩ := hop C X hR
  refine ab_aloadn 1 dL_law_1121 rfl ?_
  refine fC_Vi (mtc := mt_X10_richest) (As := []) (st := []) (K := fun v c => v = r ∧ c = C1) (f := fun v c => some (v, c)) (o := f_X10_richest N C) (by rw [e1]; exact ⟨rfl, rfl⟩) (fun Q h => ct_X10_richest N C h) ⟨by decide, by decide⟩ rfl rfl rfl mw_X10_richest wl_50 rfl rfl ⟨(Nat.le_of_ble_eq_true rfl), (Nat.le_of_ble_eq_true rfl)⟩ hcs (Nat.le_of_ble_eq_true rfl) rfl dL_law_1122 ?_
  rintro r9 c9 ⟨rfl, rfl⟩
  refine ab_aloadn 2 dL_law_1125 rfl ?_
  refine fX_Vi (mtc := mt_X11_richest) (As := []) (st := [.int r9]) (K := fun v c => v = r9 ∧ c = X1) (f := fun v c => some (v, c)) (o := f_X11_richest N X) (by rw [e2]; exact ⟨rfl, rfl⟩) (fun Q h => ct_X11_richest N X h) ⟨by decide, by decide⟩ rfl rfl rfl mw_X11_richest wl_51 rfl rfl ⟨(Nat.le_of_ble_eq_true rfl), (Nat.le_of_ble_eq_true rfl)⟩ hcs (Nat.le_of_ble_eq_true rfl) rfl dL_law_1126 ?_
  rintro v c ⟨rfl, rfl⟩
  exact ab_icmp_eq (tgt := 1347) dL_law_1129 (by decide) (fun _ => hk _ _ hR1) (fun h => absurd rfl h)
theorem law_28 {l : Launch} {G : GX} {N i cs sl : Nat} {Rel : CM → XM → Prop} {C : CM} {X : XM} (hi : i + 6 ≤ gL G) (hL : gL G ≤ 3072) (hcs : cs ≤ room_1.cells ∧ sl ≤ room_1.slots) (hop : ∀ (b1 b2 : Int32), OP Rel (f_X10_best N b1 b2) (f_X11_best N b1 b2)) (hR : Rel C X) (hk : ∀ C' X', Rel C' X' → AB l G room_1 cs sl mt_law (ZL G) 1347 [(0, .ref (gF G 2)), (1, .ref (gA G 0 0 0)), (2, .ref (gA G 10 0 0)), (3, .ref (gA G 11 0 0)), (4, .int (nI i))] [] (C', X')) : AB l G room_1 cs sl mt_law (ZL G) 1134 [(0, .ref (gF G 2)), (1, .ref (gA G 0 0 0)), (2, .ref (gA G 10 0 0)), (3, .ref (gA G 11 0 0)), (4, .int (nI i))] [] (C, X) := by
  obtain ⟨r, C1, X1, e1, e2, hR1⟩ := hop (gX G (i + 1)) (gX G (i + 2)) C X hR
  refine ab_aloadn 1 dL_law_1134 rfl ?_
  refine ab_aloadn 0 dL_law_1135 rfl ?_
  refine ab_iload 4 dL_law_1136 rfl ?_
  refine ab_iconst (v := 1) dL_law_1138 (by decide) ?_
  refine ab_iadd dL_law_1139 ?_
  refine ab_sldn (j := i + 1) (nI_add i 1) ⟨by omega, hL⟩ dL_law_1140 ?_
  refine ab_aloadn 0 dL_law_1141 rfl ?_
  refine ab_iload 4 dL_law_1142 rfl ?_
  refine ab_iconst (v := 2) dL_law_1144 (by decide) ?_
  refine ab_iadd dL_law_1145 ?_
  refine ab_sldn (j := i + 2) (nI_add i 2) ⟨by omega, hL⟩ dL_law_1146 ?_
  refine fC_Vi (mtc := mt_X10_best) (As := [.int (gX G (i + 1)), .int (gX G (i + 2))]) (st := []) (K := fun v c => v = r ∧ c = C1) (f := fun v c => some (v, c)) (o := f_X10_best N (gX G (i + 1)) (gX G (i + 2)) C) (by rw [e1]; exact ⟨rfl, rfl⟩) (fun Q h => ct_X10_best N (gX G (i + 1)) (gX G (i + 2)) C h) ⟨by decide, by decide⟩ rfl rfl rfl mw_X10_best wl_52 rfl rfl ⟨(Nat.le_of_ble_eq_true rfl), (Nat.le_of_ble_eq_true rfl)⟩ hcs (Nat.le_of_ble_eq_true rfl) rfl dL_law_1147 ?_
  rintro r9 c9 ⟨rfl, rfl⟩
  refine ab_aloadn 2 dL_law_1150 rfl ?_
  refine ab_aloadn 0 dL_law_1151 rfl ?_
  refine ab_iload 4 dL_law_1152 rfl ?_
  refine ab_iconst (v := 1) dL_law_1154 (by decide) ?_
  refine ab_iadd dL_law_1155 ?_
  refine ab_sldn (j := i + 1) (nI_add i 1) ⟨by omega, hL⟩ dL_law_1156 ?_
  refine ab_aloadn 0 dL_law_1157 rfl ?_
  refine ab_iload 4 dL_law_1158 rfl ?_
  refine ab_iconst (v := 2) dL_law_1160 (by decide) ?_
  refine ab_iadd dL_law_1161 ?_
  refine ab_sldn (j := i + 2) (nI_add i 2) ⟨by omega, hL⟩ dL_law_1162 ?_
  refine fX_Vi (mtc := mt_X11_best) (As := [.int (gX G (i + 1)), .int (gX G (i + 2))]) (st := [.int r9]) (K := fun v c => v = r9 ∧ c = X1) (f := fun v c => some (v, c)) (o := f_X11_best N (gX G (i + 1)) (gX G (i + 2)) X) (by rw [e2]; exact ⟨rfl, rfl⟩) (fun Q h => ct_X11_best N (gX G (i + 1)) (gX G (i + 2)) X h) ⟨by decide, by decide⟩ rfl rfl rfl mw_X11_best wl_53 rfl rfl ⟨(Nat.le_of_ble_eq_true rfl), (Nat.le_of_ble_eq_true rfl)⟩ hcs (Nat.le_of_ble_eq_true rfl) rfl dL_law_1163 ?_
  rintro v c ⟨rfl, rfl⟩
  exact ab_icmp_eq (tgt := 1347) dL_law_1166 (by decide) (fun _ => hk _ _ hR1) (fun h => absurd rfl h)
theorem law_29 {l : Launch} {G : GX} {N i cs sl : Nat} {Rel : CM → XM → Prop} {C : CM} {X : XM} (hi : i + 6 ≤ gL G) (hL : gL G ≤ 3072) (hcs : cs ≤ room_1.cells ∧ sl ≤ room_1.slots) (hop : OP Rel (f_X10_plan N) (f_X11_plan N)) (hR : Rel C X) (hk : ∀ C' X', Rel C' X' → AB l G room_1 cs sl mt_law (ZL G) 1347 [(0, .ref (gF G 2)), (1, .ref (gA G 0 0 0)), (2, .ref (gA G 10 0 0)), (3, .ref (gA G 11 0 0)), (4, .int (nI i))] [] (C', X')) : AB l G room_1 cs sl mt_law (ZL G) 1171 [(0, .ref (gF G 2)), (1, .ref (gA G 0 0 0)), (2, .ref (gA G 10 0 0)), (3, .ref (gA G 11 0 0)), (4, .int (nI i))] [] (C, X) := by
  obtain ⟨r, C1, X1, e1, e2, hR1⟩ := hop C X hR
  refine ab_aloadn 1 dL_law_1171 rfl ?_
  refine fC_Vi (mtc := mt_X10_plan) (As := []) (st := []) (K := fun v c => v = r ∧ c = C1) (f := fun v c => some (v, c)) (o := f_X10_plan N C) (by rw [e1]; exact ⟨rfl, rfl⟩) (fun Q h => ct_X10_plan N C h) ⟨by decide, by decide⟩ rfl rfl rfl mw_X10_plan wl_54 rfl rfl ⟨(Nat.le_of_ble_eq_true rfl), (Nat.le_of_ble_eq_true rfl)⟩ hcs (Nat.le_of_ble_eq_true rfl) rfl dL_law_1172 ?_
  rintro r9 c9 ⟨rfl, rfl⟩
  refine ab_aloadn 2 dL_law_1175 rfl ?_
  refine fX_Vi (mtc := mt_X11_plan) (As := []) (st := [.int r9]) (K := fun v c => v = r9 ∧ c = X1) (f := fun v c => some (v, c)) (o := f_X11_plan N X) (by rw [e2]; exact ⟨rfl, rfl⟩) (fun Q h => ct_X11_plan N X h) ⟨by decide, by decide⟩ rfl rfl rfl mw_X11_plan wl_55 rfl rfl ⟨(Nat.le_of_ble_eq_true rfl), (Nat.le_of_ble_eq_true rfl)⟩ hcs (Nat.le_of_ble_eq_true rfl) rfl dL_law_1176 ?_
  rintro v c ⟨rfl, rfl⟩
  exact ab_icmp_eq (tgt := 1347) dL_law_1179 (by decide) (fun _ => hk _ _ hR1) (fun h => absurd rfl h)
theorem law_30 {l : Launch} {G : GX} {N i cs sl : Nat} {Rel : CM → XM → Prop} {C : CM} {X : XM} (hi : i + 6 ≤ gL G) (hL : gL G ≤ 3072) (hcs : cs ≤ room_1.cells ∧ sl ≤ room_1.slots) (hop : ∀ (b1 : Int32), OP Rel (f_X10_judge N b1) (f_X11_judge N b1)) (hR : Rel C X) (hk : ∀ C' X', Rel C' X' → AB l G room_1 cs sl mt_law (ZL G) 1347 [(0, .ref (gF G 2)), (1, .ref (gA G 0 0 0)), (2, .ref (gA G 10 0 0)), (3, .ref (gA G 11 0 0)), (4, .int (nI i))] [] (C', X')) : AB l G room_1 cs sl mt_law (ZL G) 1184 [(0, .ref (gF G 2)), (1, .ref (gA G 0 0 0)), (2, .ref (gA G 10 0 0)), (3, .ref (gA G 11 0 0)), (4, .int (nI i))] [] (C, X) := by
  obtain ⟨r, C1, X1, e1, e2, hR1⟩ := hop (gX G (i + 1)) C X hR
  refine ab_aloadn 1 dL_law_1184 rfl ?_
  refine ab_aloadn 0 dL_law_1185 rfl ?_
  refine ab_iload 4 dL_law_1186 rfl ?_
  refine ab_iconst (v := 1) dL_law_1188 (by decide) ?_
  refine ab_iadd dL_law_1189 ?_
  refine ab_sldn (j := i + 1) (nI_add i 1) ⟨by omega, hL⟩ dL_law_1190 ?_
  refine fC_Vi (mtc := mt_X10_judge) (As := [.int (gX G (i + 1))]) (st := []) (K := fun v c => v = r ∧ c = C1) (f := fun v c => some (v, c)) (o := f_X10_judge N (gX G (i + 1)) C) (by rw [e1]; exact ⟨rfl, rfl⟩) (fun Q h => ct_X10_judge N (gX G (i + 1)) C h) ⟨by decide, by decide⟩ rfl rfl rfl mw_X10_judge wl_56 rfl rfl ⟨(Nat.le_of_ble_eq_true rfl), (Nat.le_of_ble_eq_true rfl)⟩ hcs (Nat.le_of_ble_eq_true rfl) rfl dL_law_1191 ?_
  rintro r9 c9 ⟨rfl, rfl⟩
  refine ab_aloadn 2 dL_law_1194 rfl ?_
  refine ab_aloadn 0 dL_law_1195 rfl ?_
  refine ab_iload 4 dL_law_1196 rfl ?_
  refine ab_iconst (v := 1) dL_law_1198 (by decide) ?_
  refine ab_iadd dL_law_1199 ?_
  refine ab_sldn (j := i + 1) (nI_add i 1) ⟨by omega, hL⟩ dL_law_1200 ?_
  refine fX_Vi (mtc := mt_X11_judge) (As := [.int (gX G (i + 1))]) (st := [.int r9]) (K := fun v c => v = r9 ∧ c = X1) (f := fun v c => some (v, c)) (o := f_X11_judge N (gX G (i + 1)) X) (by rw [e2]; exact ⟨rfl, rfl⟩) (fun Q h => ct_X11_judge N (gX G (i + 1)) X h) ⟨by decide, by decide⟩ rfl rfl rfl mw_X11_judge wl_57 rfl rfl ⟨(Nat.le_of_ble_eq_true rfl), (Nat.le_of_ble_eq_true rfl)⟩ hcs (Nat.le_of_ble_eq_true rfl) rfl dL_law_1201 ?_
  rintro v c ⟨rfl, rfl⟩
  exact ab_icmp_eq (tgt := 1347) dL_law_1204 (by decide) (fun _ => hk _ _ hR1) (fun h => absurd rfl h)
theorem law_31 {l : Launch} {G : GX} {N i cs sl : Nat} {Rel : CM → XM → Prop} {C : CM} {X : XM} (hi : i + 6 ≤ gL G) (hL : gL G ≤ 3072) (hcs : cs ≤ room_1.cells ∧ sl ≤ room_1.slots) (hop : ∀ (b1 : Int32), OP Rel (f_X10_judged b1) (f_X11_judged b1)) (hR : Rel C X) (hk : ∀ C' X', Rel C' X' → AB l G room_1 cs sl mt_law (ZL G) 1347 [(0, .ref (gF G 2)), (1, .ref (gA G 0 0 0)), (2, .ref (gA G 10 0 0)), (3, .ref (gA G 11 0 0)), (4, .int (nI i))] [] (C', X')) : AB l G room_1 cs sl mt_law (ZL G) 1209 [(0, .ref (gF G 2)), (1, .ref (gA G 0 0 0)), (2, .ref (gA G 10 0 0)), (3, .ref (gA G 11 0 0)), (4, .int (nI i))] [] (C, X) := by
  obtain ⟨r, C1, X1, e1, e2, hR1⟩ := hop (gX G (i + 1)) C X hR
  refine ab_aloadn 1 dL_law_1209 rfl ?_
  refine ab_aloadn 0 dL_law_1210 rfl ?_
  refine ab_iload 4 dL_law_1211 rfl ?_
  refine ab_iconst (v := 1) dL_law_1213 (by decide) ?_
  refine ab_iadd dL_law_1214 ?_
  refine ab_sldn (j := i + 1) (nI_add i 1) ⟨by omega, hL⟩ dL_law_1215 ?_
  refine fC_Vi (mtc := mt_X10_judged) (As := [.int (gX G (i + 1))]) (st := []) (K := fun v c => v = r ∧ c = C1) (f := fun v c => some (v, c)) (o := f_X10_judged (gX G (i + 1)) C) (by rw [e1]; exact ⟨rfl, rfl⟩) (fun Q h => ct_X10_judged (gX G (i + 1)) C h) ⟨by decide, by decide⟩ rfl rfl rfl mw_X10_judged wl_58 rfl rfl ⟨(Nat.le_of_ble_eq_true rfl), (Nat.le_of_ble_eq_true rfl)⟩ hcs (Nat.le_of_ble_eq_true rfl) rfl dL_law_1216 ?_
  rintro r9 c9 ⟨rfl, rfl⟩
  refine ab_aloadn 2 dL_law_1219 rfl ?_
  refine ab_aloadn 0 dL_law_1220 rfl ?_
  refine ab_iload 4 dL_law_1221 rfl ?_
  refine ab_iconst (v := 1) dL_law_1223 (by decide) ?_
  refine ab_iadd dL_law_1224 ?_
  refine ab_sldn (j := i + 1) (nI_add i 1) ⟨by omega, hL⟩ dL_law_1225 ?_
  refine fX_Vi (mtc := mt_X11_judged) (As := [.int (gX G (i + 1))]) (st := [.int r9]) (K := fun v c => v = r9 ∧ c = X1) (f := fun v c => some (v, c)) (o := f_X11_judged (gX G (i + 1)) X) (by rw [e2]; exact ⟨rfl, rfl⟩) (fun Q h => ct_X11_judged (gX G (i + 1)) X h) ⟨by decide, by decide⟩ rfl rfl rfl mw_X11_judged wl_59 rfl rfl ⟨(Nat.le_of_ble_eq_true rfl), (Nat.le_of_ble_eq_true rfl)⟩ hcs (Nat.le_of_ble_eq_true rfl) rfl dL_law_1226 ?_
  rintro v c ⟨rfl, rfl⟩
  exact ab_icmp_eq (tgt := 1347) dL_law_1229 (by decide) (fun _ => hk _ _ hR1) (fun h => absurd rfl h)
theorem law_32 {l : Launch} {G : GX} {N i cs sl : Nat} {Rel : CM → XM → Prop} {C : CM} {X : XM} (hi : i + 6 ≤ gL G) (hL : gL G ≤ 3072) (hcs : cs ≤ room_1.cells ∧ sl ≤ room_1.slots) (hop : OP Rel (f_X10_sentence N) (f_X11_sentence N)) (hR : Rel C X) (hk : ∀ C' X', Rel C' X' → AB l G room_1 cs sl mt_law (ZL G) 1347 [(0, .ref (gF G 2)), (1, .ref (gA G 0 0 0)), (2, .ref (gA G 10 0 0)), (3, .ref (gA G 11 0 0)), (4, .int (nI i))] [] (C', X')) : AB l G room_1 cs sl mt_law (ZL G) 1234 [(0, .ref (gF G 2)), (1, .ref (gA G 0 0 0)), (2, .ref (gA G 10 0 0)), (3, .ref (gA G 11 0 0)), (4, .int (nI i))] [] (C, X) := by
  obtain ⟨r, C1, X1, e1, e2, hR1⟩ := hop C X hR
  refine ab_aloadn 1 dL_law_1234 rfl ?_
  refine fC_Vi (mtc := mt_X10_sentence) (As := []) (st := []) (K := fun v c => v = r ∧ c = C1) (f := fun v c => some (v, c)) (o := f_X10_sentence N C) (by rw [e1]; exact ⟨rfl, rfl⟩) (fun Q h => ct_X10_sentence N C h) ⟨by decide, by decide⟩ rfl rfl rfl mw_X10_sentence wl_60 rfl rfl ⟨(Nat.le_of_ble_eq_true rfl), (Nat.le_of_ble_eq_true rfl)⟩ hcs (Nat.le_of_ble_eq_true rfl) rfl dL_law_1235 ?_
  rintro r9 c9 ⟨rfl, rfl⟩
  refine ab_aloadn 2 dL_law_1238 rfl ?_
  refine fX_Vi (mtc := mt_X11_sentence) (As := []) (st := [.int r9]) (K := fun v c => v = r9 ∧ c = X1) (f := fun v c => some (v, c)) (o := f_X11_sentence N X) (by rw [e2]; exact ⟨rfl, rfl⟩) (fun Q h => ct_X11_sentence N X h) ⟨by decide, by decide⟩ rfl rfl rfl mw_X11_sentence wl_61 rfl rfl ⟨(Nat.le_of_ble_eq_true rfl), (Nat.le_of_ble_eq_true rfl)⟩ hcs (Nat.le_of_ble_eq_true rfl) rfl dL_law_1239 ?_
  rintro v c ⟨rfl, rfl⟩
  exact ab_icmp_eq (tgt := 1347) dL_law_1242 (by decide) (fun _ => hk _ _ hR1) (fun h => absurd rfl h)
theorem law_33 {l : Launch} {G : GX} {N i cs sl : Nat} {Rel : CM → XM → Prop} {C : CM} {X : XM} (hi : i + 6 ≤ gL G) (hL : gL G ≤ 3072) (hcs : cs ≤ room_1.cells ∧ sl ≤ room_1.slots) (hop : ∀ (b1 : Int32), OP Rel (f_X10_said N b1) (f_X11_said N b1)) (hR : Rel C X) (hk : ∀ C' X', Rel C' X' → AB l G room_1 cs sl mt_law (ZL G) 1347 [(0, .ref (gF G 2)), (1, .ref (gA G 0 0 0)), (2, .ref (gA G 10 0 0)), (3, .ref (gA G 11 0 0)), (4, .int (nI i))] [] (C', X')) : AB l G room_1 cs sl mt_law (ZL G) 1247 [(0, .ref (gF G 2)), (1, .ref (gA G 0 0 0)), (2, .ref (gA G 10 0 0)), (3, .ref (gA G 11 0 0)), (4, .int (nI i))] [] (C, X) := by
  obtain ⟨r, C1, X1, e1, e2, hR1⟩ := hop (gX G (i + 1)) C X hR
  refine ab_aloadn 1 dL_law_1247 rfl ?_
  refine ab_aloadn 0 dL_law_1248 rfl ?_
  refine ab_iload 4 dL_law_1249 rfl ?_
  refine ab_iconst (v := 1) dL_law_1251 (by decide) ?_
  refine ab_iadd dL_law_1252 ?_
  refine ab_sldn (j := i + 1) (nI_add i 1) ⟨by omega, hL⟩ dL_law_1253 ?_
  refine fC_Vi (mtc := mt_X10_said) (As := [.int (gX G (i + 1))]) (st := []) (K := fun v c => v = r ∧ c = C1) (f := fun v c => some (v, c)) (o := f_X10_said N (gX G (i + 1)) C) (by rw [e1]; exact ⟨rfl, rfl⟩) (fun Q h => ct_X10_said N (gX G (i + 1)) C h) ⟨by decide, by decide⟩ rfl rfl rfl mw_X10_said wl_62 rfl rfl ⟨(Nat.le_of_ble_eq_true rfl), (Nat.le_of_ble_eq_true rfl)⟩ hcs (Nat.le_of_ble_eq_true rfl) rfl dL_law_1254 ?_
  rintro r9 c9 ⟨rfl, rfl⟩
  refine ab_aloadn 2 dL_law_1257 rfl ?_
  refine ab_aloadn 0 dL_law_1258 rfl ?_
  refine ab_iload 4 dL_law_1259 rfl ?_
  refine ab_iconst (v := 1) dL_law_1261 (by decide) ?_
  refine ab_iadd dL_law_1262 ?_
  refine ab_sldn (j := i + 1) (nI_add i 1) ⟨by omega, hL⟩ dL_law_1263 ?_
  refine fX_Vi (mtc := mt_X11_said) (As := [.int (gX G (i + 1))]) (st := [.int r9]) (K := fun v c => v = r9 ∧ c = X1) (f := fun v c => some (v, c)) (o := f_X11_said N (gX G (i + 1)) X) (by rw [e2]; exact ⟨rfl, rfl⟩) (fun Q h => ct_X11_said N (gX G (i + 1)) X h) ⟨by decide, by decide⟩ rfl rfl rfl mw_X11_said wl_63 rfl rfl ⟨(Nat.le_of_ble_eq_true rfl), (Nat.le_of_ble_eq_true rfl)⟩ hcs (Nat.le_of_ble_eq_true rfl) rfl dL_law_1264 ?_
  rintro v c ⟨rfl, rfl⟩
  exact ab_icmp_eq (tgt := 1347) dL_law_1267 (by decide) (fun _ => hk _ _ hR1) (fun h => absurd rfl h)
theorem law_34 {l : Launch} {G : GX} {N i cs sl : Nat} {Rel : CM → XM → Prop} {C : CM} {X : XM} (hi : i + 6 ≤ gL G) (hL : gL G ≤ 3072) (hcs : cs ≤ room_1.cells ∧ sl ≤ room_1.slots) (hop : ∀ (b1 : Int32), OP Rel (f_X10_image b1) (f_X11_image N b1)) (hR : Rel C X) (hk : ∀ C' X', Rel C' X' → AB l G room_1 cs sl mt_law (ZL G) 1347 [(0, .ref (gF G 2)), (1, .ref (gA G 0 0 0)), (2, .ref (gA G 10 0 0)), (3, .ref (gA G 11 0 0)), (4, .int (nI i))] [] (C', X')) : AB l G room_1 cs sl mt_law (ZL G) 1272 [(0, .ref (gF G 2)), (1, .ref (gA G 0 0 0)), (2, .ref (gA G 10 0 0)), (3, .ref (gA G 11 0 0)), (4, .int (nI i))] [] (C, X) := by
  obtain ⟨r, C1, X1, e1, e2, hR1⟩ := hop (gX G (i + 1)) C X hR
  refine ab_aloadn 1 dL_law_1272 rfl ?_
  refine ab_aloadn 0 dL_law_1273 rfl ?_
  refine ab_iload 4 dL_law_1274 rfl ?_
  refine ab_iconst (v := 1) dL_law_1276 (by decide) ?_
  refine ab_iadd dL_law_1277 ?_
  refine ab_sldn (j := i + 1) (nI_add i 1) ⟨by omega, hL⟩ dL_law_1278 ?_
  refine fC_Vi (mtc := mt_X10_image) (As := [.int (gX G (i + 1))]) (st := []) (K := fun v c => v = r ∧ c = C1) (f := fun v c => some (v, c)) (o := f_X10_image (gX G (i + 1)) C) (by rw [e1]; exact ⟨rfl, rfl⟩) (fun Q h => ct_X10_image (gX G (i + 1)) C h) ⟨by decide, by decide⟩ rfl rfl rfl mw_X10_image wl_64 rfl rfl ⟨(Nat.le_of_ble_eq_true rfl), (Nat.le_of_ble_eq_true rfl)⟩ hcs (Nat.le_of_ble_eq_true rfl) rfl dL_law_1279 ?_
  rintro r9 c9 ⟨rfl, rfl⟩
  refine ab_aloadn 2 dL_law_1282 rfl ?_
  refine ab_aloadn 0 dL_law_1283 rfl ?_
  refine ab_iload 4 dL_law_1284 rfl ?_
  refine ab_iconst (v := 1) dL_law_1286 (by decide) ?_
  refine ab_iadd dL_law_1287 ?_
  refine ab_sldn (j := i + 1) (nI_add i 1) ⟨by omega, hL⟩ dL_law_1288 ?_
  refine fX_Vi (mtc := mt_X11_image) (As := [.int (gX G (i + 1))]) (st := [.int r9]) (K := fun v c => v = r9 ∧ c = X1) (f := fun v c => some (v, c)) (o := f_X11_image N (gX G (i + 1)) X) (by rw [e2]; exact ⟨rfl, rfl⟩) (fun Q h => ct_X11_image N (gX G (i + 1)) X h) ⟨by decide, by decide⟩ rfl rfl rfl mw_X11_image wl_65 rfl rfl ⟨(Nat.le_of_ble_eq_true rfl), (Nat.le_of_ble_eq_true rfl)⟩ hcs (Nat.le_of_ble_eq_true rfl) rfl dL_law_1289 ?_
  rintro v c ⟨rfl, rfl⟩
  exact ab_icmp_eq (tgt := 1347) dL_law_1292 (by decide) (fun _ => hk _ _ hR1) (fun h => absurd rfl h)
theorem law_35 {l : Launch} {G : GX} {N i cs sl : Nat} {Rel : CM → XM → Prop} {C : CM} {X : XM} (hi : i + 6 ≤ gL G) (hL : gL G ≤ 3072) (hcs : cs ≤ room_1.cells ∧ sl ≤ room_1.slots) (hop : ∀ (b1 : Int32), OP Rel (f_X10_restore b1) (f_X11_restore N b1)) (hR : Rel C X) (hk : ∀ C' X', Rel C' X' → AB l G room_1 cs sl mt_law (ZL G) 1347 [(0, .ref (gF G 2)), (1, .ref (gA G 0 0 0)), (2, .ref (gA G 10 0 0)), (3, .ref (gA G 11 0 0)), (4, .int (nI i))] [] (C', X')) : AB l G room_1 cs sl mt_law (ZL G) 1297 [(0, .ref (gF G 2)), (1, .ref (gA G 0 0 0)), (2, .ref (gA G 10 0 0)), (3, .ref (gA G 11 0 0)), (4, .int (nI i))] [] (C, X) := by
  obtain ⟨r, C1, X1, e1, e2, hR1⟩ := hop (gX G (i + 1)) C X hR
  refine ab_aloadn 1 dL_law_1297 rfl ?_
  refine ab_aloadn 0 dL_law_1298 rfl ?_
  refine ab_iload 4 dL_law_1299 rfl ?_
  refine ab_iconst (v := 1) dL_law_1301 (by decide) ?_
  refine ab_iadd dL_law_1302 ?_
  refine ab_sldn (j := i + 1) (nI_add i 1) ⟨by omega, hL⟩ dL_law_1303 ?_
  refine fC_Vi (mtc := mt_X10_restore) (As := [.int (gX G (i + 1))]) (st := []) (K := fun v c => v = r ∧ c = C1) (f := fun v c => some (v, c)) (o := f_X10_restore (gX G (i + 1)) C) (by rw [e1]; exact ⟨rfl, rfl⟩) (fun Q h => ct_X10_restore (gX G (i + 1)) C h) ⟨by decide, by decide⟩ rfl rfl rfl mw_X10_restore wl_66 rfl rfl ⟨(Nat.le_of_ble_eq_true rfl), (Nat.le_of_ble_eq_true rfl)⟩ hcs (Nat.le_of_ble_eq_true rfl) rfl dL_law_1304 ?_
  rintro r9 c9 ⟨rfl, rfl⟩
  refine ab_aloadn 2 dL_law_1307 rfl ?_
  refine ab_aloadn 0 dL_law_1308 rfl ?_
  refine ab_iload 4 dL_law_1309 rfl ?_
  refine ab_iconst (v := 1) dL_law_1311 (by decide) ?_
  refine ab_iadd dL_law_1312 ?_
  refine ab_sldn (j := i + 1) (nI_add i 1) ⟨by omega, hL⟩ dL_law_1313 ?_
  refine fX_Vi (mtc := mt_X11_restore) (As := [.int (gX G (i + 1))]) (st := [.int r9]) (K := fun v c => v = r9 ∧ c = X1) (f := fun v c => some (v, c)) (o := f_X11_restore N (gX G (i + 1)) X) (by rw [e2]; exact ⟨rfl, rfl⟩) (fun Q h => ct_X11_restore N (gX G (i + 1)) X h) ⟨by decide, by decide⟩ rfl rfl rfl mw_X11_restore wl_67 rfl rfl ⟨(Nat.le_of_ble_eq_true rfl), (Nat.le_of_ble_eq_true rfl)⟩ hcs (Nat.le_of_ble_eq_true rfl) rfl dL_law_1314 ?_
  rintro v c ⟨rfl, rfl⟩
  exact ab_icmp_eq (tgt := 1347) dL_law_1317 (by decide) (fun _ => hk _ _ hR1) (fun h => absurd rfl h)
theorem law_36 {l : Launch} {G : GX} {N i cs sl : Nat} {Rel : CM → XM → Prop} {C : CM} {X : XM} (hi : i + 6 ≤ gL G) (hL : gL G ≤ 3072) (hcs : cs ≤ room_1.cells ∧ sl ≤ room_1.slots) (hop : ∀ (b1 : Int32), OP Rel (f_X10_count b1) (f_X11_count b1)) (hR : Rel C X) (hk : ∀ C' X', Rel C' X' → AB l G room_1 cs sl mt_law (ZL G) 1347 [(0, .ref (gF G 2)), (1, .ref (gA G 0 0 0)), (2, .ref (gA G 10 0 0)), (3, .ref (gA G 11 0 0)), (4, .int (nI i))] [] (C', X')) : AB l G room_1 cs sl mt_law (ZL G) 1322 [(0, .ref (gF G 2)), (1, .ref (gA G 0 0 0)), (2, .ref (gA G 10 0 0)), (3, .ref (gA G 11 0 0)), (4, .int (nI i))] [] (C, X) := by
  obtain ⟨r, C1, X1, e1, e2, hR1⟩ := hop (gX G (i + 1)) C X hR
  refine ab_aloadn 1 dL_law_1322 rfl ?_
  refine ab_aloadn 0 dL_law_1323 rfl ?_
  refine ab_iload 4 dL_law_1324 rfl ?_
  refine ab_iconst (v := 1) dL_law_1326 (by decide) ?_
  refine ab_iadd dL_law_1327 ?_
  refine ab_sldn (j := i + 1) (nI_add i 1) ⟨by omega, hL⟩ dL_law_1328 ?_
  refine fC_Vi (mtc := mt_X10_count) (As := [.int (gX G (i + 1))]) (st := []) (K := fun v c => v = r ∧ c = C1) (f := fun v c => some (v, c)) (o := f_X10_count (gX G (i + 1)) C) (by rw [e1]; exact ⟨rfl, rfl⟩) (fun Q h => ct_X10_count (gX G (i + 1)) C h) ⟨by decide, by decide⟩ rfl rfl rfl mw_X10_count wl_68 rfl rfl ⟨(Nat.le_of_ble_eq_true rfl), (Nat.le_of_ble_eq_true rfl)⟩ hcs (Nat.le_of_ble_eq_true rfl) rfl dL_law_1329 ?_
  rintro r9 c9 ⟨rfl, rfl⟩
  refine ab_aloadn 2 dL_law_1332 rfl ?_
  refine ab_aloadn 0 dL_law_1333 rfl ?_
  refine ab_iload 4 dL_law_1334 rfl ?_
  refine ab_iconst (v := 1) dL_law_1336 (by decide) ?_
  refine ab_iadd dL_law_1337 ?_
  refine ab_sldn (j := i + 1) (nI_add i 1) ⟨by omega, hL⟩ dL_law_1338 ?_
  refine fX_Vi (mtc := mt_X11_count) (As := [.int (gX G (i + 1))]) (st := [.int r9]) (K := fun v c => v = r9 ∧ c = X1) (f := fun v c => some (v, c)) (o := f_X11_count (gX G (i + 1)) X) (by rw [e2]; exact ⟨rfl, rfl⟩) (fun Q h => ct_X11_count (gX G (i + 1)) X h) ⟨by decide, by decide⟩ rfl rfl rfl mw_X11_count wl_69 rfl rfl ⟨(Nat.le_of_ble_eq_true rfl), (Nat.le_of_ble_eq_true rfl)⟩ hcs (Nat.le_of_ble_eq_true rfl) rfl dL_law_1339 ?_
  rintro v c ⟨rfl, rfl⟩
  exact ab_icmp_eq (tgt := 1347) dL_law_1342 (by decide) (fun _ => hk _ _ hR1) (fun h => absurd rfl h)
theorem stL_self (X : XM) : stL X 20 0 (X.2 20 0) = X := by
  unfold stL
  refine Prod.ext rfl ?_
  funext j x
  show (if j = 20 ∧ x = 0 then X.2 20 0 else X.2 j x) = X.2 j x
  by_cases h : j = 20 ∧ x = 0
  · rw [if_pos h, h.1, h.2]
  · rw [if_neg h]
theorem lg_cmp_self (x : Int64) : lg_cmp x x = 0 := by
  simp [lg_cmp]
/-- the two that may throw -/
def OPX (Rel : CM → XM → Prop) (f : CM → Option (Int32 × (CM × Bool))) (g : XM → Option (Int32 × XM)) : Prop := ∀ C X, Rel C X → ∃ (v : Int32) (C' : CM) (t : Bool), f C = some (v, (C', t)) ∧ ∀ w : Int64, ∃ (b : Int32) (X' : XM), g (stL X 20 0 w) = some (b, X') ∧ X'.2 20 0 = w ∧ X'.1 0 0 = (if t = true then 1 else 0) ∧ (t = false → b = v) ∧ Rel C' X'
set_option maxRecDepth 8000 in
theorem law_4 {l : Launch} (hfl : l.stackTraces = false) {G : GX} {N i cs sl : Nat} {Rel : CM → XM → Prop} {C : CM} {X : XM} (hi : i + 6 ≤ gL G) (hL : gL G ≤ 3072) (hcs : cs + 1 ≤ room_1.cells ∧ sl + 6 ≤ room_1.slots) (hop : ∀ (b1 b2 : Int32), OPX Rel (f_X10_cell b1 b2) (f_X11_cell N b1 b2)) (hR : Rel C X) (hk : ∀ C' X', Rel C' X' → AB l G room_1 (cs + 1) (sl + 6) mt_law (ZL G) 1347 [(0, .ref (gF G 2)), (1, .ref (gA G 0 0 0)), (2, .ref (gA G 10 0 0)), (3, .ref (gA G 11 0 0)), (4, .int (nI i))] [] (C', X')) : AB l G room_1 cs sl mt_law (ZL G) 328 [(0, .ref (gF G 2)), (1, .ref (gA G 0 0 0)), (2, .ref (gA G 10 0 0)), (3, .ref (gA G 11 0 0)), (4, .int (nI i))] [] (C, X) := by
  obtain ⟨v, C1, t, e1, hw⟩ := hop (gX G (i + 1)) (gX G (i + 2)) C X hR
  obtain ⟨b, X1, e2, e3, e4, e5, hR1⟩ := hw (if t = true then X.2 20 0 else v.toInt64)
  refine ab_aloadn 1 dL_law_328 rfl ?_
  refine ab_aloadn 0 dL_law_329 rfl ?_
  refine ab_iload 4 dL_law_330 rfl ?_
  refine ab_iconst (v := 1) dL_law_332 (by decide) ?_
  refine ab_iadd dL_law_333 ?_
  refine ab_sldn (j := i + 1) (nI_add i 1) ⟨by omega, hL⟩ dL_law_334 ?_
  refine ab_aloadn 0 dL_law_335 rfl ?_
  refine ab_iload 4 dL_law_336 rfl ?_
  refine ab_iconst (v := 2) dL_law_338 (by decide) ?_
  refine ab_iadd dL_law_339 ?_
  refine ab_sldn (j := i + 2) (nI_add i 2) ⟨by omega, hL⟩ dL_law_340 ?_
  refine ab_aloadn 3 dL_law_341 rfl ?_
  refine ab_callX (mtc := mt_L_cell) (n := 4) (As := [.ref (gA G 0 0 0), .int (gX G (i + 1)), .int (gX G (i + 2)), .ref (gA G 11 0 0)]) (st := []) (Q := fun k M => k = (if t = true then 1 else 0) ∧ M = (C1, stL X 20 0 (if t = true then X.2 20 0 else v.toInt64))) (cts_L_cell hfl _ _ (by rw [e1]; cases t <;> simp [SAT, stL_self])) (at_5 173 rfl rfl) (at_1 0 rfl rfl) (at_5 172 rfl rfl) (at_5 171 rfl rfl) ⟨by decide, by decide, by decide +kernel⟩ rfl ⟨(Nat.le_of_ble_eq_true rfl), (Nat.le_of_ble_eq_true rfl)⟩ hcs (Nat.le_of_ble_eq_true rfl) rfl dL_law_342 ?_
  intro k9 M9 h9
  obtain ⟨hk9, rfl⟩ := h9
  refine ab_istore (x := k9) (lv' := [(0, .ref (gF G 2)), (1, .ref (gA G 0 0 0)), (2, .ref (gA G 10 0 0)), (3, .ref (gA G 11 0 0)), (4, .int (nI i)), (5, .int k9)]) dL_law_345 rfl (Nat.le_of_ble_eq_true rfl) rfl ?_
  refine ab_aloadn 2 dL_law_347 rfl ?_
  refine ab_aloadn 0 dL_law_348 rfl ?_
  refine ab_iload 4 dL_law_349 rfl ?_
  refine ab_iconst (v := 1) dL_law_351 (by decide) ?_
  refine ab_iadd dL_law_352 ?_
  refine ab_sldn (j := i + 1) (nI_add i 1) ⟨by omega, hL⟩ dL_law_353 ?_
  refine ab_aloadn 0 dL_law_354 rfl ?_
  refine ab_iload 4 dL_law_355 rfl ?_
  refine ab_iconst (v := 2) dL_law_357 (by decide) ?_
  refine ab_iadd dL_law_358 ?_
  refine ab_sldn (j := i + 2) (nI_add i 2) ⟨by omega, hL⟩ dL_law_359 ?_
  refine fX_Vi (mtc := mt_X11_cell) (As := [.int (gX G (i + 1)), .int (gX G (i + 2))]) (st := []) (K := fun v c => v = b ∧ c = X1) (f := fun v c => some (v, c)) (o := f_X11_cell N (gX G (i + 1)) (gX G (i + 2)) (stL X 20 0 (if t = true then X.2 20 0 else v.toInt64))) (by rw [e2]; exact ⟨rfl, rfl⟩) (fun Q h => ct_X11_cell N (gX G (i + 1)) (gX G (i + 2)) _ h) ⟨by decide, by decide⟩ rfl rfl rfl mw_X11_cell wl_70 rfl rfl ⟨(Nat.le_of_ble_eq_true rfl), (Nat.le_of_ble_eq_true rfl)⟩ hcs (Nat.le_of_ble_eq_true rfl) rfl dL_law_360 ?_
  intro b9 c9 h9
  obtain ⟨hb9, rfl⟩ := h9
  refine ab_istore (x := b9) (lv' := [(0, .ref (gF G 2)), (1, .ref (gA G 0 0 0)), (2, .ref (gA G 10 0 0)), (3, .ref (gA G 11 0 0)), (4, .int (nI i)), (5, .int k9), (6, .int b9)]) dL_law_363 rfl (Nat.le_of_ble_eq_true rfl) rfl ?_
  refine ab_aloadn 2 dL_law_365 rfl ?_
  refine fX_Vi (mtc := mt_X11_thrown) (As := []) (st := []) (K := fun v c => v = c9.1 0 0 ∧ c = c9) (f := fun v c => some (v, c)) (o := f_X11_thrown c9) (show SAT (rt (c9.1 0 0) c9) _ from ⟨rfl, rfl⟩) (fun Q h => ct_X11_thrown _ h) ⟨by decide, by decide⟩ rfl rfl rfl mw_X11_thrown wl_71 rfl rfl ⟨(Nat.le_of_ble_eq_true rfl), (Nat.le_of_ble_eq_true rfl)⟩ hcs (Nat.le_of_ble_eq_true rfl) rfl dL_law_366 ?_
  intro t9 c8 h9
  obtain ⟨ht9, rfl⟩ := h9
  refine ab_iload 5 dL_law_369 rfl ?_
  refine ab_icmp_eq (tgt := 376) dL_law_371 (by decide) (fun _ => ?_) (fun h => absurd (Eq.trans ht9 (Eq.trans e4 hk9.symm)) h)
  refine ab_iload 5 dL_law_376 rfl ?_
  refine ab_if_ne (tgt := 393) dL_law_378 (by decide) (fun _ => ?_) (fun h0 => ?_)
  · refine ab_goto (tgt := 1347) dL_law_393 (by decide) ?_
    exact ab_sub [0, 1, 2, 3, 4] rfl (hk _ _ hR1)
  · have ht : t = false := by
      cases t
      · rfl
      · rw [hk9] at h0
        exact absurd h0 (by decide)
    subst ht
    refine ab_aloadn 3 dL_law_381 rfl ?_
    refine ab_iconst (v := 0) dL_law_382 (by decide) ?_
    refine ab_lald (k := 11) (i := 0) (j := 0) (n := 1) (v := .long (c8.2 20 0)) ⟨by decide, by decide⟩ rfl (by decide) rfl dL_law_383 ?_
    refine ab_iload 6 dL_law_384 rfl ?_
    refine ab_i2l dL_law_386 ?_
    refine ab_lcmp dL_law_387 ?_
    refine ab_if_eq (tgt := 393) dL_law_388 (by decide) (fun _ => ?_) (fun h => absurd (by rw [show c8.2 20 0 = v.toInt64 from e3, show b9 = v from Eq.trans hb9 (e5 rfl)]; exact lg_cmp_self _) h)
    refine ab_goto (tgt := 1347) dL_law_393 (by decide) ?_
    exact ab_sub [0, 1, 2, 3, 4] rfl (hk _ _ hR1)
set_option maxRecDepth 8000 in
theorem law_5 {l : Launch} (hfl : l.stackTraces = false) {G : GX} {N i cs sl : Nat} {Rel : CM → XM → Prop} {C : CM} {X : XM} (hi : i + 6 ≤ gL G) (hL : gL G ≤ 3072) (hcs : cs + 1 ≤ room_1.cells ∧ sl + 6 ≤ room_1.slots) (hop : ∀ (b1 b2 : Int32), OPX Rel (f_X10_owner b1 b2) (f_X11_owner b1 b2)) (hR : Rel C X) (hk : ∀ C' X', Rel C' X' → AB l G room_1 (cs + 1) (sl + 6) mt_law (ZL G) 1347 [(0, .ref (gF G 2)), (1, .ref (gA G 0 0 0)), (2, .ref (gA G 10 0 0)), (3, .ref (gA G 11 0 0)), (4, .int (nI i))] [] (C', X')) : AB l G room_1 cs sl mt_law (ZL G) 396 [(0, .ref (gF G 2)), (1, .ref (gA G 0 0 0)), (2, .ref (gA G 10 0 0)), (3, .ref (gA G 11 0 0)), (4, .int (nI i))] [] (C, X) := by
  obtain ⟨v, C1, t, e1, hw⟩ := hop (gX G (i + 1)) (gX G (i + 2)) C X hR
  obtain ⟨b, X1, e2, e3, e4, e5, hR1⟩ := hw (if t = true then X.2 20 0 else v.toInt64)
  refine ab_aloadn 1 dL_law_396 rfl ?_
  refine ab_aloadn 0 dL_law_397 rfl ?_
  refine ab_iload 4 dL_law_398 rfl ?_
  refine ab_iconst (v := 1) dL_law_400 (by decide) ?_
  refine ab_iadd dL_law_401 ?_
  refine ab_sldn (j := i + 1) (nI_add i 1) ⟨by omega, hL⟩ dL_law_402 ?_
  refine ab_aloadn 0 dL_law_403 rfl ?_
  refine ab_iload 4 dL_law_404 rfl ?_
  refine ab_iconst (v := 2) dL_law_406 (by decide) ?_
  refine ab_iadd dL_law_407 ?_
  refine ab_sldn (j := i + 2) (nI_add i 2) ⟨by omega, hL⟩ dL_law_408 ?_
  refine ab_aloadn 3 dL_law_409 rfl ?_
  refine ab_callX (mtc := mt_L_owner) (n := 4) (As := [.ref (gA G 0 0 0), .int (gX G (i + 1)), .int (gX G (i + 2)), .ref (gA G 11 0 0)]) (st := []) (Q := fun k M => k = (if t = true then 1 else 0) ∧ M = (C1, stL X 20 0 (if t = true then X.2 20 0 else v.toInt64))) (cts_L_owner hfl _ _ (by rw [e1]; cases t <;> simp [SAT, stL_self])) (at_6 2 rfl rfl) (at_1 0 rfl rfl) (at_6 1 rfl rfl) (at_6 0 rfl rfl) ⟨by decide, by decide, by decide +kernel⟩ rfl ⟨(Nat.le_of_ble_eq_true rfl), (Nat.le_of_ble_eq_true rfl)⟩ hcs (Nat.le_of_ble_eq_true rfl) rfl dL_law_410 ?_
  intro k9 M9 h9
  obtain ⟨hk9, rfl⟩ := h9
  refine ab_istore (x := k9) (lv' := [(0, .ref (gF G 2)), (1, .ref (gA G 0 0 0)), (2, .ref (gA G 10 0 0)), (3, .ref (gA G 11 0 0)), (4, .int (nI i)), (5, .int k9)]) dL_law_413 rfl (Nat.le_of_ble_eq_true rfl) rfl ?_
  refine ab_aloadn 2 dL_law_415 rfl ?_
  refine ab_aloadn 0 dL_law_416 rfl ?_
  refine ab_iload 4 dL_law_417 rfl ?_
  refine ab_iconst (v := 1) dL_law_419 (by decide) ?_
  refine ab_iadd dL_law_420 ?_
  refine ab_sldn (j := i + 1) (nI_add i 1) ⟨by omega, hL⟩ dL_law_421 ?_
  refine ab_aloadn 0 dL_law_422 rfl ?_
  refine ab_iload 4 dL_law_423 rfl ?_
  refine ab_iconst (v := 2) dL_law_425 (by decide) ?_
  refine ab_iadd dL_law_426 ?_
  refine ab_sldn (j := i + 2) (nI_add i 2) ⟨by omega, hL⟩ dL_law_427 ?_
  refine fX_Vi (mtc := mt_X11_owner) (As := [.int (gX G (i + 1)), .int (gX G (i + 2))]) (st := []) (K := fun v c => v = b ∧ c = X1) (f := fun v c => some (v, c)) (o := f_X11_owner (gX G (i + 1)) (gX G (i + 2)) (stL X 20 0 (if t = true then X.2 20 0 else v.toInt64))) (by rw [e2]; exact ⟨rfl, rfl⟩) (fun Q h => ct_X11_owner (gX G (i + 1)) (gX G (i + 2)) _ h) ⟨by decide, by decide⟩ rfl rfl rfl mw_X11_owner wl_72 rfl rfl ⟨(Nat.le_of_ble_eq_true rfl), (Nat.le_of_ble_eq_true rfl)⟩ hcs (Nat.le_of_ble_eq_true rfl) rfl dL_law_428 ?_
  intro b9 c9 h9
  obtain ⟨hb9, rfl⟩ := h9
  refine ab_istore (x := b9) (lv' := [(0, .ref (gF G 2)), (1, .ref (gA G 0 0 0)), (2, .ref (gA G 10 0 0)), (3, .ref (gA G 11 0 0)), (4, .int (nI i)), (5, .int k9), (6, .int b9)]) dL_law_431 rfl (Nat.le_of_ble_eq_true rfl) rfl ?_
  refine ab_aloadn 2 dL_law_433 rfl ?_
  refine fX_Vi (mtc := mt_X11_thrown) (As := []) (st := []) (K := fun v c => v = c9.1 0 0 ∧ c = c9) (f := fun v c => some (v, c)) (o := f_X11_thrown c9) (show SAT (rt (c9.1 0 0) c9) _ from ⟨rfl, rfl⟩) (fun Q h => ct_X11_thrown _ h) ⟨by decide, by decide⟩ rfl rfl rfl mw_X11_thrown wl_71 rfl rfl ⟨(Nat.le_of_ble_eq_true rfl), (Nat.le_of_ble_eq_true rfl)⟩ hcs (Nat.le_of_ble_eq_true rfl) rfl dL_law_434 ?_
  intro t9 c8 h9
  obtain ⟨ht9, rfl⟩ := h9
  refine ab_iload 5 dL_law_437 rfl ?_
  refine ab_icmp_eq (tgt := 444) dL_law_439 (by decide) (fun _ => ?_) (fun h => absurd (Eq.trans ht9 (Eq.trans e4 hk9.symm)) h)
  refine ab_iload 5 dL_law_444 rfl ?_
  refine ab_if_ne (tgt := 461) dL_law_446 (by decide) (fun _ => ?_) (fun h0 => ?_)
  · refine ab_goto (tgt := 1347) dL_law_461 (by decide) ?_
    exact ab_sub [0, 1, 2, 3, 4] rfl (hk _ _ hR1)
  · have ht : t = false := by
      cases t
      · rfl
      · rw [hk9] at h0
        exact absurd h0 (by decide)
    subst ht
    refine ab_aloadn 3 dL_law_449 rfl ?_
    refine ab_iconst (v := 0) dL_law_450 (by decide) ?_
    refine ab_lald (k := 11) (i := 0) (j := 0) (n := 1) (v := .long (c8.2 20 0)) ⟨by decide, by decide⟩ rfl (by decide) rfl dL_law_451 ?_
    refine ab_iload 6 dL_law_452 rfl ?_
    refine ab_i2l dL_law_454 ?_
    refine ab_lcmp dL_law_455 ?_
    refine ab_if_eq (tgt := 461) dL_law_456 (by decide) (fun _ => ?_) (fun h => absurd (by rw [show c8.2 20 0 = v.toInt64 from e3, show b9 = v from Eq.trans hb9 (e5 rfl)]; exact lg_cmp_self _) h)
    refine ab_goto (tgt := 1347) dL_law_461 (by decide) ?_
    exact ab_sub [0, 1, 2, 3, 4] rfl (hk _ _ hR1)
