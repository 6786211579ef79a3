section BEG3
/-- the beginning is a state of the bank -/
theorem begin_st {n : BN} {B P : Nat → Nat → Int32} {s : Nat → Int32} (hB : BankR B s n) (hP : BgP B P) : StateR n s P (bgV s n.2.2.1 n.2.2.2) := by
  obtain ⟨bw, bh, bO, bT⟩ := bk_bd hB
  obtain ⟨p0, p1, p2, p3, p4, p5, p6, p8⟩ := hP
  have tz : ∀ y, (¬ (70 ≤ y ∧ y < 170)) → (¬ (58 ≤ y ∧ y < 70)) → (¬ (26 ≤ y ∧ y < 34)) → (¬ (18 ≤ y ∧ y < 26)) → (¬ (2 ≤ y ∧ y < 10)) → bgV s n.2.2.1 n.2.2.2 y = 0 := by
    intro y h1 h2 h3 h4 h5
    unfold bgV
    rw [if_neg h1, if_neg (by omega), if_neg (by omega), if_neg (by omega), if_neg (by omega)]
  have tt : ∀ k, k < 12 → bgV s n.2.2.1 n.2.2.2 (58 + k) = if k < n.2.2.2 then 1 else 0 := by
    intro k hk
    unfold bgV
    rw [if_neg (by omega)]
    by_cases h : k < n.2.2.2
    · rw [if_pos (by omega), if_pos h]
    · rw [if_neg (by omega), if_neg (by omega), if_neg (by omega), if_neg (by omega), if_neg h]
  have tf : ∀ c, c < 100 → bgV s n.2.2.1 n.2.2.2 (70 + c) = s (271 + c) := by
    intro c hc
    unfold bgV
    rw [if_pos (by omega), show 201 + (70 + c) = 271 + c by omega]
  have g1 : ∀ o, o < 8 → P 1 o = bgV s n.2.2.1 n.2.2.2 (2 + o) ∧ (∃ v, v ≤ 999 ∧ P 1 o = nI v) ∧ (n.2.2.1 ≤ o → P 1 o = 0) := by
    intro o ho
    obtain ⟨v, v1, v2, v3, v4⟩ := bk_gold hB o ho
    refine ⟨?_, ⟨v, v1, (p6 o ho).1.trans v2⟩, fun h => by rw [(p6 o ho).1, v2, v4 h]; rfl⟩
    unfold bgV
    rw [(p6 o ho).1, if_neg (by omega), if_neg (by omega), if_neg (by omega), if_neg (by omega)]
    by_cases h : o < n.2.2.1
    · rw [if_pos (by omega), show 13 + (2 + o) = 15 + o by omega, v2, v3]
    · rw [if_neg (by omega), v2, v4 (by omega)]; rfl
  have g3 : ∀ o, o < 8 → P 3 o = bgV s n.2.2.1 n.2.2.2 (18 + o) ∧ ∃ v, v ≤ 9 ∧ P 3 o = nI v := by
    intro o ho
    obtain ⟨v, v1, v2, v3, v4⟩ := bk_stick hB o ho
    refine ⟨?_, ⟨v, v1, (p6 o ho).2.2.1.trans v2⟩⟩
    unfold bgV
    rw [(p6 o ho).2.2.1, if_neg (by omega), if_neg (by omega), if_neg (by omega)]
    by_cases h : o < n.2.2.1
    · rw [if_pos (by omega), show 13 + (18 + o) = 31 + o by omega, v2, v3]
    · rw [if_neg (by omega), if_neg (by omega), v2, v4 (by omega)]; rfl
  have g4 : ∀ o, o < 8 → P 4 o = bgV s n.2.2.1 n.2.2.2 (26 + o) ∧ ∃ v, v ≤ 7 ∧ P 4 o = nI v := by
    intro o ho
    obtain ⟨v, v1, v2, v3, v4⟩ := bk_vane hB o ho
    refine ⟨?_, ⟨v, v1, (p6 o ho).2.2.2.1.trans v2⟩⟩
    unfold bgV
    rw [(p6 o ho).2.2.2.1, if_neg (by omega), if_neg (by omega)]
    by_cases h : o < n.2.2.1
    · rw [if_pos (by omega), show 13 + (26 + o) = 39 + o by omega, v2, v3]
    · rw [if_neg (by omega), if_neg (by omega), if_neg (by omega), v2, v4 (by omega)]; rfl
  refine ⟨⟨fun j o h1 h2 ho => ?_, ?_, ?_, ?_⟩, ⟨0, by omega, p0, fun o ho => ⟨?_, (g3 o ho).2, (g4 o ho).2, ⟨0, by omega, (p6 o ho).2.2.2.2.1⟩⟩⟩, ⟨0, by omega, ?_, ?_⟩, fun j o hj h1 h2 => ?_, ⟨2 ^ n.2.2.2 - 1, ?_, ?_, fun k hk => ?_⟩, ?_, ?_⟩
  · rcases (by omega : j = 1 ∨ j = 2 ∨ j = 3 ∨ j = 4 ∨ j = 5 ∨ j = 6 ∨ j = 7) with rfl | rfl | rfl | rfl | rfl | rfl | rfl
    · rw [show 8 * 1 + o - 6 = 2 + o by omega]; exact (g1 o ho).1
    · rw [(p6 o ho).2.1, tz _ (by omega) (by omega) (by omega) (by omega) (by omega)]
    · rw [show 8 * 3 + o - 6 = 18 + o by omega]; exact (g3 o ho).1
    · rw [show 8 * 4 + o - 6 = 26 + o by omega]; exact (g4 o ho).1
    · rw [(p6 o ho).2.2.2.2.1, tz _ (by omega) (by omega) (by omega) (by omega) (by omega)]
    · rw [(p6 o ho).2.2.2.2.2.1, tz _ (by omega) (by omega) (by omega) (by omega) (by omega)]
    · rw [(p6 o ho).2.2.2.2.2.2, tz _ (by omega) (by omega) (by omega) (by omega) (by omega)]
  · rw [p1, tz _ (by omega) (by omega) (by omega) (by omega) (by omega)]
  · rw [p5, tz _ (by omega) (by omega) (by omega) (by omega) (by omega)]
  · rw [p0, tz _ (by omega) (by omega) (by omega) (by omega) (by omega)]
  · obtain ⟨v, v1, v2⟩ := (g1 o ho).2.1
    exact ⟨v, by omega, v2⟩
  · rw [tz _ (by omega) (by omega) (by omega) (by omega) (by omega)]; rfl
  · rw [p4]; decide
  · rcases hj with rfl | rfl
    · exact (g1 o h2).2.2 h1
    · exact (p6 o h2).2.1
  · have : 2 ^ n.2.2.2 ≤ 2 ^ 12 := Nat.pow_le_pow_right (by omega) bT
    omega
  · rw [p3, (bk_t hB).1]
    exact sh_all _ bT
  · rw [tt k hk, Nat.testBit_two_pow_sub_one]
    by_cases h : k < n.2.2.2
    · rw [if_pos h, decide_eq_true h]
      exact ⟨rfl, fun q => by omega⟩
    · rw [if_neg h, decide_eq_false h]
      exact ⟨rfl, fun _ => rfl⟩
  · obtain ⟨fe, f1, f2, f3⟩ := bk_fen hB
    exact ⟨fe, fun c hc => ⟨(f1 c hc).1, (tf c hc).trans (f1 c hc).2⟩, f2, p2.trans f3⟩
  · obtain ⟨t1, t2, t3, t4⟩ := bk_thing hB
    rw [p8]
    refine ⟨t1, fun t ht _ => t2 t ht rfl, fun c hc hf => t3 c hc ?_, fun c hc h1 h2 h3 => t4 c hc h1 (fun t ht _ => h2 t ht ?_) (fun q => h3 ?_)⟩
    · exact (tf c hc).symm.trans hf
    · show bgV s n.2.2.1 n.2.2.2 (58 + t) = 1
      rw [tt t (by omega), if_pos ht]
    · exact (tf c hc).trans q
end BEG3
