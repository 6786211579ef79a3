section RULES
variable {l : Launch} {G : GX} {R : Room} {cs sl : Nat} {mt : MT} {Z : State → Array Value → List Frame → State → Prop} {pc : Nat} {lv : List (Nat × Value)} {st : List Value} {M : Mem}
theorem ab_ldcw {index : Nat} {v : Int32} (hw : Cond.constant mt.1.cls index v ∈ AT) (hd : decode mt.2.1 pc = .ok (.ldc_w index, 3)) (k : AB l G R cs sl mt Z (pc + 3) lv (.int v :: st) M) : AB l G R cs sl mt Z pc lv st M :=
  fun p e s m args below meth c H locs ls C hH hS hl => lv_ldcw C.1 C.2.1 C.2.2.2.2.2.1 (C.2.2.2.2.2.2.1 _ hw) hd (k p e s m args below meth c H locs ls C hH hS hl)
theorem fC_copy {C : CM} {X : XM} {K : Int32 → CM → Prop} {f : CM → Option (Int32 × CM)} {k i j k2 i2 j2 n index : Nat} {v : Int32} (h : SAT (bnd (rwC C k2 i2 j2 (C.1 k i j)) f) K) (hv : vd k i j) (hv2 : vd k2 i2 j2) (hc : ck k j = .inl (0, n)) (hc2 : ck k2 j2 = .inl (0, n)) (hk : k ≠ 10) (hk2 : k2 ≠ 10) (ht : ∀ x, tc k j x = 0) (ht2 : ∀ x, tc k2 j2 x = 0) (hn : v.toNatClampNeg = n) (hn0 : ¬ v < 0)
    (hw : Cond.methodLink mt.1.cls index arraycopyName ∈ AT) (h1 : Cond.native arraycopyName ∈ AT) (h2 : Cond.static arraycopyName ∈ AT) (h3 : Cond.initialized "java/lang/System" ∈ AT) (hR : 1 ≤ R.frames ∧ (st.map fun v => v.category).sum + (nativeFrameWords "java/lang/System" "arraycopy" 5 + 11) ≤ R.locals) (hd : decode mt.2.1 pc = .ok (.invokestatic index, 3))
    (kk : ∀ c : CM, SAT (f c) K → AB l G R cs sl mt Z (pc + 3) lv st (c, X)) : AB l G R cs sl mt Z pc lv (.int v :: .int 0 :: .ref (gA G k2 i2 j2) :: .int 0 :: .ref (gA G k i j) :: st) (C, X) := ab_copy hv hv2 hc hc2 hk hk2 ht ht2 hn hn0 hw h1 h2 h3 hR hd (kk _ h)
/-- a contract with another end -/
theorem ct_mono {d : Nat} {av : List Value} {Q1 Q : Int32 → Mem → Prop} (h : CT l G d mt av M Q1) (hq : ∀ v M1, Q1 v M1 → ∃ M2, Q v M2 ∧ ∀ H, Hold G M1 H → Hold G M2 H) : CT l G d mt av M Q := by
  unfold CT Met at h ⊢
  refine MetFree.mono h (fun _ _ h => h) (fun _ _ _ _ _ h => h) ?_
  intro a s o t _
  rintro ⟨⟨⟨v, M1, h1, h2, h3⟩, h4⟩, h5⟩
  obtain ⟨M2, g1, g2⟩ := hq v M1 h2
  exact ⟨⟨⟨v, M2, h1, g1, g2 _ h3⟩, h4⟩, h5⟩
theorem isB_f {v : Int32} (h : isB v = true) : fits .boolean (.int v) = true := by
  simp only [isB, Bool.or_eq_true, decide_eq_true_eq] at h
  rcases h with h | h <;> rw [h] <;> rfl
end RULES
theorem pn_X0 : plainName RX0 = true := by decide +kernel
theorem pn_X1 : plainName RX1 = true := by decide +kernel
theorem pn_X2 : plainName RX2 = true := by decide +kernel
theorem pn_X3 : plainName RX3 = true := by decide +kernel
theorem pn_X4 : plainName RX4 = true := by decide +kernel
theorem pn_X5 : plainName RX5 = true := by decide +kernel
theorem pn_X6 : plainName RX6 = true := by decide +kernel
theorem pn_X7 : plainName RX7 = true := by decide +kernel
theorem pn_X8 : plainName RX8 = true := by decide +kernel
theorem pn_X9 : plainName RX9 = true := by decide +kernel
theorem pn_X10 : plainName RX10 = true := by decide +kernel
theorem pn_X11 : plainName RX11 = true := by decide +kernel
theorem pn_J6 : plainName RJ6 = true := by decide +kernel
theorem wm_min : Cond.code Lib.Math.min.name Lib.Math.min.code 2 (some .int) ∈ AT := at_3 31 (by decide +kernel) rfl
theorem wm_max : Cond.code Lib.Math.max.name Lib.Math.max.code 2 (some .int) ∈ AT := at_4 113 (by decide +kernel) rfl
