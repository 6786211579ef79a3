/-! feed -/
theorem by_ok : ∀ u, u < 256 → nrB (Int8.toInt32 (Int8.ofNat u)) = byV u := by decide +kernel
theorem by_any (y : Int8) : ∃ u, u < 256 ∧ nrB (Int8.toInt32 y) = byV u := by
  refine ⟨y.toBitVec.toNat, y.toBitVec.isLt, ?_⟩
  rw [← by_ok _ y.toBitVec.isLt]
  congr 2
  apply Int8.toBitVec_inj.1
  show y.toBitVec = BitVec.ofNat 8 y.toBitVec.toNat
  simp
theorem sh_same (x : Int32) (k : Int32) (hk : k = 0 ∨ k = 8 ∨ k = 16 ∨ k = 24) : Int32.toInt8 ((Int32.toUInt32 x >>> (Int32.toUInt32 k &&& Int32.toUInt32 31)).toInt32) = Int32.toInt8 (x >>> (k &&& 31)) := by
  apply Int8.toBitVec_inj.1
  rcases hk with rfl | rfl | rfl | rfl
  · show (x.toBitVec >>> 0).signExtend 8 = (x.toBitVec.sshiftRight 0).signExtend 8
    simp
  · show (x.toBitVec >>> 8).signExtend 8 = (x.toBitVec.sshiftRight 8).signExtend 8
    refine BitVec.eq_of_getLsbD_eq (fun i hi => ?_)
    have h1 : ¬ (32 ≤ i) := by omega
    simp only [BitVec.getLsbD_signExtend, BitVec.getLsbD_ushiftRight, BitVec.getLsbD_sshiftRight, if_pos (show i < 32 by omega), if_pos (show 8 + i < 32 by omega)]
    simp [h1]
  · show (x.toBitVec >>> 16).signExtend 8 = (x.toBitVec.sshiftRight 16).signExtend 8
    refine BitVec.eq_of_getLsbD_eq (fun i hi => ?_)
    have h1 : ¬ (32 ≤ i) := by omega
    simp only [BitVec.getLsbD_signExtend, BitVec.getLsbD_ushiftRight, BitVec.getLsbD_sshiftRight, if_pos (show i < 32 by omega), if_pos (show 16 + i < 32 by omega)]
    simp [h1]
  · show (x.toBitVec >>> 24).signExtend 8 = (x.toBitVec.sshiftRight 24).signExtend 8
    refine BitVec.eq_of_getLsbD_eq (fun i hi => ?_)
    have h1 : ¬ (32 ≤ i) := by omega
    simp only [BitVec.getLsbD_signExtend, BitVec.getLsbD_ushiftRight, BitVec.getLsbD_sshiftRight, if_pos (show i < 32 by omega), if_pos (show 24 + i < 32 by omega)]
    simp [h1]
section FEED
variable {N : Nat}
/-- the tape that grows; all else as it was -/
def TpG (C0 : CM) (X0 : XM) (L : Nat) (C : CM) (X : XM) : Prop := C.1 0 0 0 1 = nI L ∧ X.1 0 2 = nI L ∧ (∀ x, x < 940 → ∃ u, u < 256 ∧ C.1 0 0 1 x = byV u ∧ X.1 1 x = byV u) ∧ C.2 = C0.2 ∧ (∀ k i j x, ¬ (k = 0 ∧ i = 0 ∧ ((j = 0 ∧ x = 1) ∨ j = 1)) → C.1 k i j x = C0.1 k i j x) ∧ X.2 = X0.2 ∧ (∀ j x, ¬ ((j = 0 ∧ (x = 0 ∨ x = 2)) ∨ j = 1) → X.1 j x = X0.1 j x)
theorem put_step {C0 : CM} {X0 : XM} {C : CM} {X : XM} {L m m' : Nat} {a k : Int32} (hL : L < 940) (hk : k = 0 ∨ k = 8 ∨ k = 16 ∨ k = 24) (h : TpG C0 X0 L C X) :
    ∃ C' X', f_X10_putFour_3 N a (m + 1) k C = f_X10_putFour_3 N a m (k - 8) C' ∧ f_X11_four_3 N a (m' + 1) k X = f_X11_four_3 N a m' (k - 8) X' ∧ TpG C0 X0 (L + 1) C' X' := by
  obtain ⟨l1, l2, l3, l4, l5, l6, l7⟩ := h
  obtain ⟨u, hu, eu⟩ := by_any (Int32.toInt8 (a >>> (k &&& 31)))
  have hk0 : ¬ k < 0 := by rcases hk with rfl | rfl | rfl | rfl <;> decide
  refine ⟨stC (stC C 0 0 1 L (byV u)) 0 0 0 1 (nI (L + 1)), stX (stX X 1 L (byV u)) 0 2 (nI (L + 1)), ?_, ?_, stC_at, stX_at, fun x hx => ?_, l4, fun k' i j x hn => ?_, l6, fun j x hn => ?_⟩
  · rw [f_X10_putFour_3, if_neg hk0, sh_same a k hk, eu, l1]
    simp (disch := omega) only [le_ln, if_neg, stA_nI, bnd_v, stC_row, l1, nI_al]
  · rw [f_X11_four_3, if_neg hk0, eu, l2]
    simp (disch := omega) only [sxA_nI, bnd_v, stX_row, l2, nI_al]
  · rw [stC_row (by omega), stC_if, stX_row (by omega), stX_if]
    by_cases e : x = L
    · rw [if_pos e, if_pos e]
      exact ⟨u, hu, rfl, rfl⟩
    · rw [if_neg e, if_neg e]
      exact l3 x hx
  · simp only [stC]
    rw [if_neg (by omega), if_neg (by omega)]
    exact l5 k' i j x hn
  · simp only [stX]
    rw [if_neg (by omega), if_neg (by omega)]
    exact l7 j x hn
theorem put_rel {C0 : CM} {X0 : XM} {C : CM} {X : XM} {L : Nat} {a : Int32} (hN : 2000 ≤ N) (hL : L + 4 ≤ 940) (h : TpG C0 X0 L C X) : ∃ C' X', f_X10_putFour N a C = some (0, C') ∧ f_X11_four N a X = some (0, X') ∧ TpG C0 X0 (L + 4) C' X' := by
  obtain ⟨m, hm⟩ : ∃ m, N = m + 5 := ⟨N - 5, by omega⟩
  unfold f_X10_putFour f_X11_four
  have hx : ∀ (Y : CM) (Z : XM), f_X10_putFour_3 N a N 24 Y = f_X10_putFour_3 N a (m + 5) 24 Y ∧ f_X11_four_3 N a N 24 Z = f_X11_four_3 N a (m + 5) 24 Z := fun Y Z => by rw [← hm]; exact ⟨rfl, rfl⟩
  rw [(hx C X).1, (hx C X).2]
  obtain ⟨C1, X1, a1, a2, a3⟩ := put_step (N := N) (m := m + 4) (m' := m + 4) (a := a) (k := 24) (by omega) (by decide) h
  obtain ⟨C2, X2, b1, b2, b3⟩ := put_step (N := N) (m := m + 3) (m' := m + 3) (a := a) (k := 16) (by omega) (by decide) a3
  obtain ⟨C3, X3, c1, c2, c3⟩ := put_step (N := N) (m := m + 2) (m' := m + 2) (a := a) (k := 8) (by omega) (by decide) b3
  obtain ⟨C4, X4, d1, d2, d3⟩ := put_step (N := N) (m := m + 1) (m' := m + 1) (a := a) (k := 0) (by omega) (by decide) c3
  refine ⟨C4, X4, ?_, ?_, d3⟩
  · rw [a1]
    refine b1.trans (c1.trans (d1.trans ?_))
    rw [f_X10_putFour_3, if_pos (by decide)]
    rfl
  · rw [a2]
    refine b2.trans (c2.trans (d2.trans ?_))
    rw [f_X11_four_3, if_pos (by decide)]
    rfl
theorem op_feed (hN : 2000 ≤ N) (b1 b2 b3 b4 b5 : Int32) : OP (Rel N) (f_X10_feed N b1 b2 b3 b4 b5) (f_X11_feed N b1 b2 b3 b4 b5) := by
  intro C X hR
  obtain ⟨-, ⟨L, hL, l1, l2, l3⟩, -, -, -, hm, hp, hj, hf, -⟩ := id hR
  have h0 : TpG C (stX X 0 0 0) L C (stX X 0 0 0) := ⟨l1, by rw [stX_ne (by omega)]; exact l2, fun x hx => by rw [stX_row (by omega)]; exact l3 x hx, rfl, fun _ _ _ _ _ => rfl, rfl, fun _ _ _ => rfl⟩
  unfold f_X10_feed f_X11_feed
  simp only [bnd_v]
  rw [h0.1, h0.2.1]
  simp (disch := omega) only [nI_al, le_nl]
  by_cases h : L ≤ 920
  · obtain ⟨C1, X1, a1, a2, a3⟩ := put_rel (a := b1) hN (by omega) h0
    obtain ⟨C2, X2, g1, g2, g3⟩ := put_rel (a := b2) hN (by omega) a3
    obtain ⟨C3, X3, c1, c2, c3⟩ := put_rel (a := b3) hN (by omega) g3
    obtain ⟨C4, X4, d1, d2, d3⟩ := put_rel (a := b4) hN (by omega) c3
    obtain ⟨C5, X5, e1, e2, e3⟩ := put_rel (a := b5) hN (by omega) d3
    rw [if_pos h, if_pos (by omega), a1, cal_some, g1, cal_some, c1, cal_some, d1, cal_some, e1, cal_some, a2, cal_some, g2, cal_some, c2, cal_some, d2, cal_some, e2, cal_some]
    obtain ⟨q1, q2, q3, q4, q5, q6, q7⟩ := e3
    refine ⟨_, _, _, rfl, by rw [q1, q2]; rfl, rel_upd hR ⟨q4, fun k i j x hk _ => q5 k i j x (by omega)⟩ ⟨?_, ?_, ?_, ?_, ?_, ?_, ?_, ?_⟩ ⟨_, by omega, q1, q2, q3⟩ ?_ ?_ ?_ ?_⟩
    · exact (funext fun x => q7 2 x (by omega)).trans (stX_row (by omega))
    · exact (funext fun x => q7 10 x (by omega)).trans (stX_row (by omega))
    · exact (funext fun x => q7 17 x (by omega)).trans (stX_row (by omega))
    · exact (funext fun x => q7 19 x (by omega)).trans (stX_row (by omega))
    · exact (q7 0 33 (by omega)).trans (stX_ne (by omega))
    · intro x _
      rw [q6]
      rfl
    · rw [q6]
      rfl
    · rw [q6]
      rfl
    · unfold MoreR
      rw [q5 0 0 0 13 (by omega), q7 0 35 (by omega), q7 0 34 (by omega), stX_ne (by omega), stX_ne (by omega)]
      exact hm
    · unfold PairR
      rw [q5 0 0 0 15 (by omega), q7 0 38 (by omega), stX_ne (by omega), show C5.1 0 0 3 = C.1 0 0 3 from funext fun x => q5 0 0 3 x (by omega), show X5.1 12 = (stX X 0 0 0).1 12 from funext fun x => q7 12 x (by omega), stX_row (by omega)]
      exact hp
    · unfold JudR
      rw [q7 0 43 (by omega), stX_ne (by omega), show C5.1 0 0 5 = C.1 0 0 5 from funext fun x => q5 0 0 5 x (by omega), show X5.1 13 = (stX X 0 0 0).1 13 from funext fun x => q7 13 x (by omega), stX_row (by omega)]
      exact hj
    · rw [q5 0 0 0 3 (by omega), q7 0 15 (by omega), stX_ne (by omega)]
      exact hf
  · rw [if_neg h, if_neg (by omega)]
    exact ⟨_, _, _, rfl, rfl, rel_xe hR (xe_0 X 0)⟩
end FEED
