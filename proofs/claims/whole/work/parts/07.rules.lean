/-! The pure forms: what a method does, as a function; none where an index is out of bounds or a loop's count ends. -/
def SAT {β : Type} (o : Option (Int32 × β)) (K : Int32 → β → Prop) : Prop := match o with
  | some q => K q.1 q.2
  | none => False
def inB (x : Int32) (n : Nat) : Bool := !(decide (x < 0)) && decide (x.toNatClampNeg < n)
def chk {α : Type} (b : Bool) (o : Option α) : Option α := if b = true then o else none
def ldA {α : Type} (f : Nat → Int32) (n : Nat) (x : Int32) (k : Int32 → Option α) : Option α := if inB x n = true then k (f x.toNatClampNeg) else none
def ldL {α : Type} (f : Nat → Int64) (n : Nat) (x : Int32) (k : Int64 → Option α) : Option α := if inB x n = true then k (f x.toNatClampNeg) else none
def ldR {α : Type} (r n : Nat) (k : Nat → Option α) : Option α := if r < n then k r else none
def ldQ {α : Type} (n : Nat) (x : Int32) (k : Nat → Option α) : Option α := if inB x n = true then k x.toNatClampNeg else none
def bnd {α β : Type} (v : β) (k : β → Option α) : Option α := k v
def stA {α : Type} (C : CM) (k i j n : Nat) (x v : Int32) (f : CM → Option α) : Option α := if inB x n = true then f (stC C k i j x.toNatClampNeg v) else none
def sxA {α : Type} (X : XM) (j n : Nat) (x v : Int32) (f : XM → Option α) : Option α := if inB x n = true then f (stX X j x.toNatClampNeg v) else none
def slA {α : Type} (X : XM) (j n : Nat) (x : Int32) (v : Int64) (f : XM → Option α) : Option α := if inB x n = true then f (stL X j x.toNatClampNeg v) else none
def cal {α β : Type} (o : Option (Int32 × β)) (f : Int32 → β → Option α) : Option α := match o with
  | some q => f q.1 q.2
  | none => none
def rt {β : Type} (v : Int32) (b : β) : Option (Int32 × β) := some (v, b)
def nrB (v : Int32) : Int32 := vp_nar .byte v
def nrZ (v : Int32) : Int32 := vp_nar .boolean v
def imin (x y : Int32) : Int32 := if y < x then y else x
def imax (x y : Int32) : Int32 := if x < y then y else x
def isB (v : Int32) : Bool := decide (v = 0) || decide (v = 1)
theorem inB_in {x : Int32} {n : Nat} (h : inB x n = true) : vp_in x n := by
  simp only [inB, Bool.and_eq_true, Bool.not_eq_true', decide_eq_false_iff_not, decide_eq_true_eq] at h
  rintro (q | q)
  · exact h.1 q
  · omega
theorem inB_lt {x : Int32} {n : Nat} (h : inB x n = true) : x.toNatClampNeg < n := by
  simp only [inB, Bool.and_eq_true, decide_eq_true_eq] at h
  exact h.2
section SATS
variable {β : Type} {K : Int32 → β → Prop}
theorem sat_t {c : Prop} [Decidable c] {a b : Option (Int32 × β)} (hc : c) (h : SAT (if c then a else b) K) : SAT a K := by rw [if_pos hc] at h; exact h
theorem sat_f {c : Prop} [Decidable c] {a b : Option (Int32 × β)} (hc : ¬ c) (h : SAT (if c then a else b) K) : SAT b K := by rw [if_neg hc] at h; exact h
theorem sat_chk {b : Bool} {o : Option (Int32 × β)} (h : SAT (chk b o) K) : b = true ∧ SAT o K := by
  unfold chk at h
  split at h
  · rename_i hb; exact ⟨hb, h⟩
  · exact h.elim
theorem sat_ldA {f : Nat → Int32} {n : Nat} {x : Int32} {k : Int32 → Option (Int32 × β)} (h : SAT (ldA f n x k) K) : inB x n = true ∧ SAT (k (f x.toNatClampNeg)) K := by
  unfold ldA at h
  split at h
  · rename_i hb; exact ⟨hb, h⟩
  · exact h.elim
theorem sat_ldL {f : Nat → Int64} {n : Nat} {x : Int32} {k : Int64 → Option (Int32 × β)} (h : SAT (ldL f n x k) K) : inB x n = true ∧ SAT (k (f x.toNatClampNeg)) K := by
  unfold ldL at h
  split at h
  · rename_i hb; exact ⟨hb, h⟩
  · exact h.elim
theorem sat_ldR {r n : Nat} {k : Nat → Option (Int32 × β)} (h : SAT (ldR r n k) K) : r < n ∧ SAT (k r) K := by
  unfold ldR at h
  split at h
  · rename_i hb; exact ⟨hb, h⟩
  · exact h.elim
theorem sat_ldQ {n : Nat} {x : Int32} {k : Nat → Option (Int32 × β)} (h : SAT (ldQ n x k) K) : inB x n = true ∧ SAT (k x.toNatClampNeg) K := by
  unfold ldQ at h
  split at h
  · rename_i hb; exact ⟨hb, h⟩
  · exact h.elim
theorem sat_stA {C : CM} {k i j n : Nat} {x v : Int32} {f : CM → Option (Int32 × β)} (h : SAT (stA C k i j n x v f) K) : inB x n = true ∧ SAT (f (stC C k i j x.toNatClampNeg v)) K := by
  unfold stA at h
  split at h
  · rename_i hb; exact ⟨hb, h⟩
  · exact h.elim
theorem sat_sxA {X : XM} {j n : Nat} {x v : Int32} {f : XM → Option (Int32 × β)} (h : SAT (sxA X j n x v f) K) : inB x n = true ∧ SAT (f (stX X j x.toNatClampNeg v)) K := by
  unfold sxA at h
  split at h
  · rename_i hb; exact ⟨hb, h⟩
  · exact h.elim
theorem sat_slA {X : XM} {j n : Nat} {x : Int32} {v : Int64} {f : XM → Option (Int32 × β)} (h : SAT (slA X j n x v f) K) : inB x n = true ∧ SAT (f (stL X j x.toNatClampNeg v)) K := by
  unfold slA at h
  split at h
  · rename_i hb; exact ⟨hb, h⟩
  · exact h.elim
theorem sat_cal {γ : Type} {o : Option (Int32 × γ)} {f : Int32 → γ → Option (Int32 × β)} (h : SAT (cal o f) K) : ∃ v c, o = some (v, c) ∧ SAT (f v c) K := by
  unfold cal at h
  split at h
  · rename_i q; exact ⟨q.1, q.2, rfl, h⟩
  · exact h.elim
end SATS
theorem vl_I {G : GX} {C : CM} {X : XM} {k i j x : Nat} (hk : k ≠ 10) (ht : tc k j x = 0) : vl G (C, X) k i j x = .int (C.1 k i j x) := by
  unfold vl vI; rw [ht]; simp [hk]
theorem vl_X {G : GX} {C : CM} {X : XM} {i j x : Nat} (ht : tc 10 j x = 0) : vl G (C, X) 10 i j x = .int (X.1 j x) := by
  unfold vl vI; rw [ht]; simp
theorem vl_L {G : GX} {C : CM} {X : XM} {i j x : Nat} (ht : tc 10 j x = 1) : vl G (C, X) 10 i j x = .long (X.2 j x) := by
  unfold vl vL; rw [ht]; simp
theorem vl_R {G : GX} {M : Mem} {k i j x k2 i2 j2 : Nat} (ht : tc k j x = 2) (hr : rf M.1.2 i k j x = (k2, i2, j2)) : vl G M k i j x = .ref (gA G k2 i2 j2) := by
  unfold vl vr; rw [ht, hr]; rfl
section RULES
variable {l : Launch} {G : GX} {R : Room} {cs sl : Nat} {mt : MT} {Z : State → Array Value → List Frame → State → Prop} {pc : Nat} {lv : List (Nat × Value)} {st : List Value} {M : Mem}
/-- getfield -/
theorem ab_gf {k i j ci x index : Nat} {r : vw_C} (hv : vd k i j) (hc : ck k j = .inr ci) (hr : vwCl[ci]? = some r) (hx : x < r.2.2) (hw : Cond.fieldLink mt.1.cls index r.1 (r.2.1 x).2.1 (r.2.1 x).2.2.1 ∈ AT) (hd : decode mt.2.1 pc = .ok (.getfield index, 3))
    (kk : AB l G R cs sl mt Z (pc + 3) lv (vl G M k i j x :: st) M) : AB l G R cs sl mt Z pc lv (.ref (gA G k i j) :: st) M := by
  intro p e s m args below meth c H locs ls C hH hS hl
  obtain ⟨hx', hb, hret, hml, hlk, hown, hts, hK⟩ := id C
  have h0 := hH k i j hv
  unfold celO at h0
  rw [hc] at h0
  obtain ⟨r', hr', cell, q1, q2, q3, q4⟩ := h0
  cases Option.some.inj (hr.symm.trans hr')
  obtain ⟨hin, -, -, hfo⟩ := clF_of hr
  obtain ⟨hSl, hfc, kC, hkC, hkind⟩ := hK.2.1.1 ci _ hr
  obtain ⟨cf, kf, fi, f, hi, hsl⟩ := hSl x hx
  refine W.getf hx' hb hown (hts _ hw) (by rw [← hfo x hx]; exact hi) (u_facts hfc hkC (u_lays hts hin hx) hi).1 q1 (by rw [q3]; exact fun h => by cases h) (v := vl G M k i j x) ?_ rfl rfl hd (kk p e s m args below meth c H locs ls C hH hS hl)
  rw [hsl]; exact q4 x hx
/-- putfield -/
theorem ab_pf {M' : Mem} {k i j ci x index : Nat} {r : vw_C} {v : Value} {ty : FieldType} (hv : vd k i j) (hc : ck k j = .inr ci) (hr : vwCl[ci]? = some r) (hx : x < r.2.2) (hw : Cond.fieldLink mt.1.cls index r.1 (r.2.1 x).2.1 (r.2.1 x).2.2.1 ∈ AT) (hfin : (r.2.1 x).2.2.2 = false) (hty : parseFieldDescriptor (r.2.1 x).2.2.1 = some ty) (hn : narrow ty v = v) (hfit : fits ty v = true) (hd : decode mt.2.1 pc = .ok (.putfield index, 3))
    (hM : ∀ k' i' j' x', vd k' i' j' → vl G M' k' i' j' x' = if k' = k ∧ i' = i ∧ j' = j ∧ x' = x then v else vl G M k' i' j' x')
    (kk : AB l G R cs sl mt Z (pc + 3) lv st M') : AB l G R cs sl mt Z pc lv (v :: .ref (gA G k i j) :: st) M := by
  intro p e s m args below meth c H locs ls C hH hS hl
  obtain ⟨hx', hb, hret, hml, hlk, hown, hts, hK⟩ := id C
  have h0 := hH k i j hv
  unfold celO at h0
  rw [hc] at h0
  obtain ⟨r', hr', cell, q1, q2, q3, q4⟩ := h0
  cases Option.some.inj (hr.symm.trans hr')
  obtain ⟨hin, ⟨ty0, hty0⟩, hnm, hfo⟩ := clF_of hr
  have hap := va_apart (own := mt.1.cls) hts hin ty0 hty0 hnm hK.2.1 hr
  obtain ⟨hSl, hfc, kC, hkC, hkind⟩ := hK.2.1.1 ci _ hr
  obtain ⟨cf, kf, fi, f, hi, hsl⟩ := hSl x hx
  have hlay := hts _ (hin _ (u_in_lay hx))
  unfold u_lay at hlay
  rw [if_neg (by rw [hfin]; decide)] at hlay
  have hst := (u_facts hfc hkC (u_lays hts hin hx) hi).1
  have h6 := u_store hfc hkC hkind hlay hi hty hn hfit
  refine W.putK hx' hb (f := f) ⟨hown, hts _ hw, ⟨_, _, _, by rw [← hfo x hx]; exact hi⟩, hst⟩ (by rw [q2]; exact h6) q1 q3 (by rw [hsl]; exact k2_hasslot (q4 x hx)) rfl rfl hd fun H' e1 e2 e3 => ?_
  rw [hsl] at e1 ⊢
  refine kk p e s m args below meth c H' _ ls C (hold_put hK.1 hv hH (v := v) (x := x) ?_ e3 hM) (hS.put e2 e3 (hK.1.2 _ _ _ hv)) hl
  unfold celO
  rw [hc]
  exact ⟨_, hr, _, e1, q2, q3, t_set q4 hap hx v⟩
/-- a cell that is an array -/
theorem arr_at {H : Heap} {k i j t n : Nat} (hH : Hold G M H) (hv : vd k i j) (hc : ck k j = .inl (t, n)) : H[gA G k i j]? = some (arrV (G.2.1 t) n (vl G M k i j)) := by
  have h0 := hH k i j hv
  unfold celO at h0
  rw [hc] at h0
  exact h0
theorem arr_of {s : State} {t : Nat} (hK : Kx G s) (ht : t < 6) (n : Nat) (V : Nat → Value) : s.isArrayOf (arrV (G.2.1 t) n V) (tyE t) := (hK.2.1.2 t _ (tysG_at ht)).1 n V
theorem ab_alen {k i j t n : Nat} {v : Int32} (hv : vd k i j) (hc : ck k j = .inl (t, n)) (ht : t < 6) (hn : Int32.ofNat n = v) (hd : decode mt.2.1 pc = .ok (.arraylength, 1))
    (kk : AB l G R cs sl mt Z (pc + 1) lv (.int v :: st) M) : AB l G R cs sl mt Z pc lv (.ref (gA G k i j) :: st) M := by
  intro p e s m args below meth c H locs ls C hH hS hl
  exact W.alen C.1 C.2.1 (arr_at hH hv hc) (arr_of C.2.2.2.2.2.2.2 ht n _) (by rw [arrV_size]; exact hn) rfl rfl hd (kk p e s m args below meth c H locs ls C hH hS hl)
theorem ab_iald {k i j n : Nat} {x : Int32} {v : Value} (hv : vd k i j) (hc : ck k j = .inl (0, n)) (hin : inB x n = true) (he : vl G M k i j x.toNatClampNeg = v) (hd : decode mt.2.1 pc = .ok (.iaload, 1))
    (kk : AB l G R cs sl mt Z (pc + 1) lv (v :: st) M) : AB l G R cs sl mt Z pc lv (.int x :: .ref (gA G k i j) :: st) M := by
  intro p e s m args below meth c H locs ls C hH hS hl
  exact W.iald (v := v) C.1 C.2.1 (arr_at hH hv hc) (arr_of C.2.2.2.2.2.2.2 (t := 0) (by decide) n _) (fun q => by cases q) (by rw [arrV_size]; exact inB_in hin) (by rw [arrV_read _ _ (inB_lt hin), he]) rfl rfl hd (kk p e s m args below meth c H locs ls C hH hS hl)
theorem ab_bald {k i j n : Nat} {x : Int32} {v : Value} (hv : vd k i j) (hc : ck k j = .inl (1, n)) (hin : inB x n = true) (he : vl G M k i j x.toNatClampNeg = v) (hd : decode mt.2.1 pc = .ok (.baload, 1))
    (kk : AB l G R cs sl mt Z (pc + 1) lv (v :: st) M) : AB l G R cs sl mt Z pc lv (.int x :: .ref (gA G k i j) :: st) M := by
  intro p e s m args below meth c H locs ls C hH hS hl
  exact W.bald (v := v) C.1 C.2.1 (arr_at hH hv hc) (arr_of C.2.2.2.2.2.2.2 (t := 1) (by decide) n _) (fun q => by cases q) (by rw [arrV_size]; exact inB_in hin) (by rw [arrV_read _ _ (inB_lt hin), he]) rfl rfl hd (kk p e s m args below meth c H locs ls C hH hS hl)
theorem ab_zald {k i j n : Nat} {x : Int32} {v : Value} (hv : vd k i j) (hc : ck k j = .inl (2, n)) (hin : inB x n = true) (he : vl G M k i j x.toNatClampNeg = v) (hd : decode mt.2.1 pc = .ok (.baload, 1))
    (kk : AB l G R cs sl mt Z (pc + 1) lv (v :: st) M) : AB l G R cs sl mt Z pc lv (.int x :: .ref (gA G k i j) :: st) M := by
  intro p e s m args below meth c H locs ls C hH hS hl
  exact W.zald (v := v) C.1 C.2.1 (arr_at hH hv hc) (arr_of C.2.2.2.2.2.2.2 (t := 2) (by decide) n _) (fun q => by cases q) (by rw [arrV_size]; exact inB_in hin) (by rw [arrV_read _ _ (inB_lt hin), he]) rfl rfl hd (kk p e s m args below meth c H locs ls C hH hS hl)
theorem ab_lald {k i j n : Nat} {x : Int32} {v : Value} (hv : vd k i j) (hc : ck k j = .inl (3, n)) (hin : inB x n = true) (he : vl G M k i j x.toNatClampNeg = v) (hd : decode mt.2.1 pc = .ok (.laload, 1))
    (kk : AB l G R cs sl mt Z (pc + 1) lv (v :: st) M) : AB l G R cs sl mt Z pc lv (.int x :: .ref (gA G k i j) :: st) M := by
  intro p e s m args below meth c H locs ls C hH hS hl
  exact W.lald (v := v) C.1 C.2.1 (arr_at hH hv hc) (arr_of C.2.2.2.2.2.2.2 (t := 3) (by decide) n _) (fun q => by cases q) (by rw [arrV_size]; exact inB_in hin) (by rw [arrV_read _ _ (inB_lt hin), he]) rfl rfl hd (kk p e s m args below meth c H locs ls C hH hS hl)
theorem ab_aald {k i j t n : Nat} {x : Int32} {v : Value} (hv : vd k i j) (hc : ck k j = .inl (t, n)) (ht : t = 4 ∨ t = 5) (hin : inB x n = true) (he : vl G M k i j x.toNatClampNeg = v) (hd : decode mt.2.1 pc = .ok (.aaload, 1))
    (kk : AB l G R cs sl mt Z (pc + 1) lv (v :: st) M) : AB l G R cs sl mt Z pc lv (.int x :: .ref (gA G k i j) :: st) M := by
  intro p e s m args below meth c H locs ls C hH hS hl
  exact W.aald (v := v) (ty := tyE t) C.1 C.2.1 (arr_at hH hv hc) (arr_of C.2.2.2.2.2.2.2 (by omega) n _) (by rcases ht with h | h <;> rw [h] <;> rfl) (fun q => by cases q) (by rw [arrV_size]; exact inB_in hin) (by rw [arrV_read _ _ (inB_lt hin), he]) rfl rfl hd (kk p e s m args below meth c H locs ls C hH hS hl)
theorem ab_iast {M' : Mem} {k i j n : Nat} {x v : Int32} (hv : vd k i j) (hc : ck k j = .inl (0, n)) (hin : inB x n = true) (hd : decode mt.2.1 pc = .ok (.iastore, 1))
    (hM : ∀ k' i' j' x', vd k' i' j' → vl G M' k' i' j' x' = if k' = k ∧ i' = i ∧ j' = j ∧ x' = x.toNatClampNeg then .int v else vl G M k' i' j' x')
    (kk : AB l G R cs sl mt Z (pc + 1) lv st M') : AB l G R cs sl mt Z pc lv (.int v :: .int x :: .ref (gA G k i j) :: st) M := by
  intro p e s m args below meth c H locs ls C hH hS hl
  have hK := C.2.2.2.2.2.2.2
  refine W.iast C.1 C.2.1 (arr_at hH hv hc) (arr_of hK (t := 0) (by decide) n _) (fun q => by cases q) (by rw [arrV_size]; exact inB_in hin) rfl rfl hd fun H1 e1 e2 e3 => ?_
  refine kk p e s m args below meth c H1 _ ls C (hold_put hK.1 hv hH (v := .int v) ?_ e3 hM) (hS.put e2 e3 (hK.1.2 _ _ _ hv)) hl
  unfold celO
  rw [hc]
  show H1[_]? = _
  rw [e1, arrV_store]
theorem ab_bast {M' : Mem} {k i j n : Nat} {x v : Int32} (hv : vd k i j) (hc : ck k j = .inl (1, n)) (hin : inB x n = true) (hd : decode mt.2.1 pc = .ok (.bastore, 1))
    (hM : ∀ k' i' j' x', vd k' i' j' → vl G M' k' i' j' x' = if k' = k ∧ i' = i ∧ j' = j ∧ x' = x.toNatClampNeg then .int (nrB v) else vl G M k' i' j' x')
    (kk : AB l G R cs sl mt Z (pc + 1) lv st M') : AB l G R cs sl mt Z pc lv (.int v :: .int x :: .ref (gA G k i j) :: st) M := by
  intro p e s m args below meth c H locs ls C hH hS hl
  have hK := C.2.2.2.2.2.2.2
  refine W.bast C.1 C.2.1 (arr_at hH hv hc) (arr_of hK (t := 1) (by decide) n _) (fun q => by cases q) (by rw [arrV_size]; exact inB_in hin) rfl rfl hd fun H1 e1 e2 e3 => ?_
  refine kk p e s m args below meth c H1 _ ls C (hold_put hK.1 hv hH (v := .int (nrB v)) ?_ e3 hM) (hS.put e2 e3 (hK.1.2 _ _ _ hv)) hl
  unfold celO
  rw [hc]
  show H1[_]? = _
  rw [e1, arrV_store]
  rfl
theorem ab_zast {M' : Mem} {k i j n : Nat} {x v : Int32} (hv : vd k i j) (hc : ck k j = .inl (2, n)) (hin : inB x n = true) (hd : decode mt.2.1 pc = .ok (.bastore, 1))
    (hM : ∀ k' i' j' x', vd k' i' j' → vl G M' k' i' j' x' = if k' = k ∧ i' = i ∧ j' = j ∧ x' = x.toNatClampNeg then .int (nrZ v) else vl G M k' i' j' x')
    (kk : AB l G R cs sl mt Z (pc + 1) lv st M') : AB l G R cs sl mt Z pc lv (.int v :: .int x :: .ref (gA G k i j) :: st) M := by
  intro p e s m args below meth c H locs ls C hH hS hl
  have hK := C.2.2.2.2.2.2.2
  refine W.zast C.1 C.2.1 (arr_at hH hv hc) (arr_of hK (t := 2) (by decide) n _) (fun q => by cases q) (by rw [arrV_size]; exact inB_in hin) rfl rfl hd fun H1 e1 e2 e3 => ?_
  refine kk p e s m args below meth c H1 _ ls C (hold_put hK.1 hv hH (v := .int (nrZ v)) ?_ e3 hM) (hS.put e2 e3 (hK.1.2 _ _ _ hv)) hl
  unfold celO
  rw [hc]
  show H1[_]? = _
  rw [e1, arrV_store]
  rfl
theorem ab_last {M' : Mem} {k i j n : Nat} {x : Int32} {v : Int64} (hv : vd k i j) (hc : ck k j = .inl (3, n)) (hin : inB x n = true) (hd : decode mt.2.1 pc = .ok (.lastore, 1))
    (hM : ∀ k' i' j' x', vd k' i' j' → vl G M' k' i' j' x' = if k' = k ∧ i' = i ∧ j' = j ∧ x' = x.toNatClampNeg then .long v else vl G M k' i' j' x')
    (kk : AB l G R cs sl mt Z (pc + 1) lv st M') : AB l G R cs sl mt Z pc lv (.long v :: .int x :: .ref (gA G k i j) :: st) M := by
  intro p e s m args below meth c H locs ls C hH hS hl
  have hK := C.2.2.2.2.2.2.2
  refine W.last C.1 C.2.1 (arr_at hH hv hc) (arr_of hK (t := 3) (by decide) n _) (fun q => by cases q) (by rw [arrV_size]; exact inB_in hin) rfl rfl hd fun H1 e1 e2 e3 => ?_
  refine kk p e s m args below meth c H1 _ ls C (hold_put hK.1 hv hH (v := .long v) ?_ e3 hM) (hS.put e2 e3 (hK.1.2 _ _ _ hv)) hl
  unfold celO
  rw [hc]
  show H1[_]? = _
  rw [e1, arrV_store]
/-- the static tables -/
theorem ab_stx {n : Nat} (hcls : mt.1.cls = "GaleBank$Bank") (hn : n = 82 ∨ n = 85) (hd : decode mt.2.1 pc = .ok (.getstatic n, 3))
    (kk : AB l G R cs sl mt Z (pc + 3) lv (.ref (gF G (if n = 82 then 0 else 1)) :: st) M) : AB l G R cs sl mt Z pc lv st M := by
  intro p e s m args below meth c H locs ls C hH hS hl
  obtain ⟨hx', hb, hret, hml, hlk, hown, hts, hK⟩ := id C
  have kk := kk p e s m args below meth c H locs ls C hH hS hl
  obtain ⟨h1, h2, h3, ⟨n1, n2⟩, ⟨a1, a2⟩, ⟨b1, b2⟩, -⟩ := hK
  rw [hcls] at hown
  rcases hn with rfl | rfl
  · exact va_getsN hx' hb a1 hS hown (va_tabs (A := #[]) rfl rfl n1) (fun _ h => h) hd kk
  · exact va_getsN hx' hb b1 hS hown (va_tabs (A := #[]) rfl rfl n2) (fun _ h => h) hd kk
theorem ab_sti {b n : Nat} {x : Int32} (hb' : b = 0 ∨ b = 1) (hin : inB x 8 = true) (hn : n = n) (hd : decode mt.2.1 pc = .ok (.iaload, 1))
    (kk : AB l G R cs sl mt Z (pc + 1) lv (.int ((if b = 0 then tbX else tbY) x.toNatClampNeg) :: st) M) : AB l G R cs sl mt Z pc lv (.int x :: .ref (gF G b) :: st) M := by
  intro p e s m args below meth c H locs ls C hH hS hl
  obtain ⟨hx', hb, hret, hml, hlk, hown, hts, hK⟩ := id C
  have kk := kk p e s m args below meth c H locs ls C hH hS hl
  obtain ⟨h1, h2, h3, ⟨n1, n2⟩, ⟨a1, a2⟩, ⟨b1, b2⟩, -⟩ := hK
  rcases hb' with rfl | rfl
  · exact va_ti hx' hb a2 hS (inB_in hin) rfl hd kk
  · exact va_ti hx' hb b2 hS (inB_in hin) rfl hd kk
/-- the script -/
theorem ab_slen (hd : decode mt.2.1 pc = .ok (.arraylength, 1)) (kk : AB l G R cs sl mt Z (pc + 1) lv (.int (Int32.ofNat (gL G)) :: st) M) : AB l G R cs sl mt Z pc lv (.ref (gF G 2) :: st) M := by
  intro p e s m args below meth c H locs ls C hH hS hl
  have hK := C.2.2.2.2.2.2.2
  obtain ⟨h1, h2, h3, -, -, -, x1, x2, -⟩ := id hK
  exact va_slen C.1 C.2.1 x1 (Nat.lt_of_lt_of_le x2 h3) (Nat.not_le.mpr x2) hS hd (kk p e s m args below meth c H locs ls C hH hS hl)
theorem ab_sld {x : Int32} (hin : inB x (gL G) = true) (hd : decode mt.2.1 pc = .ok (.iaload, 1)) (kk : AB l G R cs sl mt Z (pc + 1) lv (.int (gX G x.toNatClampNeg) :: st) M) : AB l G R cs sl mt Z pc lv (.int x :: .ref (gF G 2) :: st) M := by
  intro p e s m args below meth c H locs ls C hH hS hl
  have hK := C.2.2.2.2.2.2.2
  obtain ⟨h1, h2, h3, -, -, -, x1, x2, -⟩ := id hK
  exact va_sld C.1 C.2.1 x1 (Nat.lt_of_lt_of_le x2 h3) (Nat.not_le.mpr x2) hS (inB_in hin) hd (kk p e s m args below meth c H locs ls C hH hS hl)
/-- switches -/
theorem ab_tin {x c0 : Int32} {dflt lo hi off : Int} {offs : Array Int} {len tgt : Nat} (hx : x = c0) (h1 : ¬ c0.toInt < lo) (h2 : ¬ hi < c0.toInt) (ho : offs[(c0.toInt - lo).toNat]? = some off) (ht : (pc : Int) + off = (tgt : Int)) (hd : decode mt.2.1 pc = .ok (.tableswitch dflt lo hi offs, len)) (kk : AB l G R cs sl mt Z tgt lv st M) : AB l G R cs sl mt Z pc lv (.int x :: st) M := by
  subst hx
  intro p e s m args below meth c H locs ls C hH hS hl
  exact lv_tableIn C.1 C.2.1 hd h1 h2 ho ht (kk p e s m args below meth c H locs ls C hH hS hl)
theorem ab_tout {x : Int32} {dflt lo hi : Int} {offs : Array Int} {len tgt : Nat} (h1 : x.toInt < lo ∨ hi < x.toInt) (ht : (pc : Int) + dflt = (tgt : Int)) (hd : decode mt.2.1 pc = .ok (.tableswitch dflt lo hi offs, len)) (kk : AB l G R cs sl mt Z tgt lv st M) : AB l G R cs sl mt Z pc lv (.int x :: st) M := by
  intro p e s m args below meth c H locs ls C hH hS hl
  exact lv_tableOut C.1 C.2.1 hd h1 ht (kk p e s m args below meth c H locs ls C hH hS hl)
theorem ab_lsw {x : Int32} {dflt off : Int} {ps : Array (Int × Int)} {len tgt : Nat} (hp : (ps.toList.zip (ps.toList.drop 1)).all (fun (a, next) => a.1 < next.1) = true) (ho : Op.lookupswitch.offset ps.toList dflt x.toInt = off) (ht : (pc : Int) + off = (tgt : Int)) (hd : decode mt.2.1 pc = .ok (.lookupswitch dflt ps, len)) (kk : AB l G R cs sl mt Z tgt lv st M) : AB l G R cs sl mt Z pc lv (.int x :: st) M := by
  intro p e s m args below meth c H locs ls C hH hS hl
  exact lv_lookup C.1 C.2.1 hd hp ho ht (kk p e s m args below meth c H locs ls C hH hS hl)
theorem ne_toI {x c0 : Int32} {n : Int} (h : ¬ x = c0) (hc : c0.toInt = n) : x.toInt ≠ n := fun e => h (Int32.toInt_inj.mp (e.trans hc.symm))
theorem ab_lcmp {x y : Int64} (hd : decode mt.2.1 pc = .ok (.lcmp, 1)) (kk : AB l G R cs sl mt Z (pc + 1) lv (.int (lg_cmp x y) :: st) M) : AB l G R cs sl mt Z pc lv (.long y :: .long x :: st) M := by
  intro p e s m args below meth c H locs ls C hH hS hl
  exact W.lcmp C.1 C.2.1 hd (kk p e s m args below meth c H locs ls C hH hS hl)
end RULES
