/-! Who oiled: where a vane points behind so many quarters from the beginning. -/
section OIL1
variable {N : Nat} {n : BN} {B : Nat → Nat → Int32} {s : Nat → Int32} {b : Nat}
/-- vane o behind i quarters, oiled at quarter t -/
def pbV (n : BN) (B : Nat → Nat → Int32) (o t : Nat) : Nat → Int32
  | 0 => B 12 o
  | i + 1 => if 0 < (B 5 i).toNatClampNeg then trn (pbV n B o t i).toNatClampNeg (((B 4 i).toNatClampNeg + (B 2 (B 8 o).toNatClampNeg).toNatClampNeg) % 8) (frc (B 1) n.1 n.2.1 (B 8 o).toNatClampNeg (B 4 i).toNatClampNeg (nI (B 5 i).toNatClampNeg)).toNatClampNeg (if t ≤ i then 0 else (B 11 o).toNatClampNeg) else pbV n B o t i
theorem pbV_lt {o t : Nat} (hB : BankR B s n) (ho : o < n.2.2.1) : ∀ i, i ≤ 48 → ∃ p, p ≤ 7 ∧ pbV n B o t i = nI p := by
  have bd := bk_bd hB
  intro i
  induction i with
  | zero =>
    intro _
    obtain ⟨v, v1, v2, -⟩ := bk_vane hB o (by omega)
    exact ⟨v, v1, v2⟩
  | succ i ih =>
    intro hi
    obtain ⟨p, p1, p2⟩ := ih (by omega)
    obtain ⟨f, f1, f2, -, f3⟩ := bk_gust hB i (by omega)
    obtain ⟨c, c1, c2, -⟩ := bk_home hB o ho
    obtain ⟨e, e1, e2, -⟩ := bk_eddy hB c c1.1
    obtain ⟨k, k1, k2, -⟩ := bk_stick hB o (by omega)
    show ∃ p, p ≤ 7 ∧ (if 0 < (B 5 i).toNatClampNeg then _ else _) = nI p
    rw [f2, nI_clamp (by omega)]
    by_cases z : 0 < f
    · obtain ⟨d, d1, d2, -⟩ := f3 z
      obtain ⟨v, v1, v2⟩ := frc_le (B 1) n.1 n.2.1 c d (show f < 10 by omega)
      rw [if_pos z, p2, d2, c2, nI_clamp (by omega), nI_clamp (by omega), nI_clamp (show c < 2147483648 by have := c1.1; omega), e2, nI_clamp (show e < 2147483648 by omega), v2, nI_clamp (show v < 2147483648 by omega), k2, nI_clamp (show k < 2147483648 by omega)]
      have h8 : (d + e) % 8 < 8 := Nat.mod_lt _ (by omega)
      have hk : (if t ≤ i then 0 else k) < 10 := by
        by_cases q : t ≤ i
        · rw [if_pos q]; omega
        · rw [if_neg q]; omega
      obtain ⟨t1, t2⟩ := trn_lt p (by omega) _ h8 v (by omega) _ hk
      exact ⟨_, by omega, t2⟩
    · rw [if_neg z]
      exact ⟨p, p1, p2⟩
theorem behind_eq {o t q : Nat} {a3 : Int32} {C : CM} (hN : 2000 ≤ N) (hB : BankR B s n) (hb : C.1 3 b = B) (ho : o < n.2.2.1) (hq : q ≤ 48) (ha : ∀ i, i < 48 → (nI i = a3 ↔ i = t)) : f_X9_pointsBehind N b (nI o) a3 (nI q) C = some (pbV n B o t q, C) := by
  have bd := bk_bd hB
  obtain ⟨v0, v1, v2, -⟩ := bk_vane hB o (by omega)
  obtain ⟨c, c1, c2, -⟩ := bk_home hB o ho
  obtain ⟨e, e1, e2, -⟩ := bk_eddy hB c c1.1
  obtain ⟨k, k1, k2, -⟩ := bk_stick hB o (by omega)
  have hc := c1.1
  unfold f_X9_pointsBehind
  rw [hb, ldA_nI (by omega) (by omega), ldA_nI (by omega) (by omega), ldA_nI (by omega) (by omega), c2, k2]
  refine loop1 (fun m i (z : Int32 × Int32) => f_X9_pointsBehind_36 N b a3 (nI q) (nI c) m z.1 z.2 i C) (fun i z => z.1 = pbV n B o t i ∧ z.2 = nI (if t < i then 0 else k)) (fun y => y = some (pbV n B o t q, C)) q ?_ ?_ q 0 N (B 12 o, nI k) (by omega) (by omega) ⟨rfl, rfl⟩
  · rintro m i ⟨a5, a6⟩ hi ⟨h1, h2⟩
    have h1 : a5 = pbV n B o t i := h1
    have h2 : a6 = nI (if t < i then 0 else k) := h2
    left
    refine ⟨(pbV n B o t (i + 1), nI (if t < i + 1 then 0 else k)), ?_, rfl, rfl⟩
    show f_X9_pointsBehind_36 N b a3 (nI q) (nI c) (m + 1) a5 a6 (nI i) C = f_X9_pointsBehind_36 N b a3 (nI q) (nI c) m (pbV n B o t (i + 1)) (nI (if t < i + 1 then 0 else k)) (nI (i + 1)) C
    rw [f_X9_pointsBehind_36, if_neg (by rw [le_nn (by omega) (by omega)]; omega), if_neg (by simp (disch := omega) only [le_ln]; omega)]
    -- the stick of this quarter
    have sel : ∀ (K : Int32 → Option (Int32 × CM)), (if nI i = a3 then K 0 else K a6) = K (nI (if t ≤ i then 0 else k)) := by
      intro K
      by_cases z : i = t
      · rw [if_pos ((ha i (by omega)).mpr z), if_pos (by omega)]
        rfl
      · rw [if_neg (fun q => z ((ha i (by omega)).mp q)), h2]
        by_cases z2 : t < i
        · rw [if_pos z2, if_pos (by omega)]
        · rw [if_neg z2, if_neg (by omega)]
    have sl := sel (fun w => f_X9_pointsBehind_59 N (fun z5 z6 z8 c' => f_X9_pointsBehind_36 N b a3 (nI q) (nI c) m z5 z6 z8 c') b a3 (nI q) a5 w (nI c) (nI i) C)
    have sl : (if nI i = a3 then (f_X9_pointsBehind_59 N (fun z5 z6 z8 c' => f_X9_pointsBehind_36 N b a3 (nI q) (nI c) m z5 z6 z8 c') b a3 (nI q) a5 0 (nI c) (nI i) C) else (f_X9_pointsBehind_59 N (fun z5 z6 z8 c' => f_X9_pointsBehind_36 N b a3 (nI q) (nI c) m z5 z6 z8 c') b a3 (nI q) a5 a6 (nI c) (nI i) C)) = f_X9_pointsBehind_59 N (fun z5 z6 z8 c' => f_X9_pointsBehind_36 N b a3 (nI q) (nI c) m z5 z6 z8 c') b a3 (nI q) a5 (nI (if t ≤ i then 0 else k)) (nI c) (nI i) C := sl
    rw [sl]
    clear sl sel
    have es : (if t < i + 1 then 0 else k) = (if t ≤ i then 0 else k) := by
      by_cases z : t ≤ i
      · rw [if_pos z, if_pos (by omega)]
      · rw [if_neg z, if_neg (by omega)]
    rw [es]
    obtain ⟨f, f1, f2, -, f3⟩ := bk_gust hB i (by omega)
    obtain ⟨p, p1, p2⟩ := pbV_lt (t := t) hB ho i (by omega)
    have en : pbV n B o t (i + 1) = if 0 < (B 5 i).toNatClampNeg then trn (pbV n B o t i).toNatClampNeg (((B 4 i).toNatClampNeg + (B 2 (B 8 o).toNatClampNeg).toNatClampNeg) % 8) (frc (B 1) n.1 n.2.1 (B 8 o).toNatClampNeg (B 4 i).toNatClampNeg (nI (B 5 i).toNatClampNeg)).toNatClampNeg (if t ≤ i then 0 else (B 11 o).toNatClampNeg) else pbV n B o t i := rfl
    unfold f_X9_pointsBehind_59
    rw [hb, ldA_nI (by omega) (by omega), f2, ldA_nI (by omega) (by omega)]
    rw [f2, nI_clamp (by omega)] at en
    simp (disch := omega) only [le_nl, nI_al]
    by_cases z : 0 < f
    · obtain ⟨d, d1, d2, -⟩ := f3 z
      obtain ⟨v, v1', v2'⟩ := frc_le (B 1) n.1 n.2.1 c d (show f < 10 by omega)
      have w1 : C.1 3 b 0 1 = nI n.1 := by rw [hb]; exact (bk_w hB).1
      have w2 : C.1 3 b 0 2 = nI n.2.1 := by rw [hb]; exact (bk_h hB).1
      have fb := forceAt_b_eq (b := b) (r := b) (f := nI f) hN w1 w2 bd.1 bd.2.1 hc c1.2.1 c1.2.2 (show d < 8 by omega)
      rw [hb, v2'] at fb
      have dr := dirAt_eq (b := b) (C := C) hc (show d < 8 by omega) (show e < 8 by omega) (by rw [hb]; exact e2)
      rw [if_pos z, p2, d2, c2, nI_clamp (by omega), nI_clamp (by omega), nI_clamp (show c < 2147483648 by omega), e2, nI_clamp (show e < 2147483648 by omega), v2', nI_clamp (show v < 2147483648 by omega), k2, nI_clamp (show k < 2147483648 by omega)] at en
      rw [if_neg (by show ¬ f ≤ 0; omega), d2, fb, cal_some, dr, cal_some, h1, p2, turned_eq, cal_some, en]
    · rw [if_neg z] at en
      rw [if_pos (by show f ≤ 0; omega), en, h1]
  · rintro m ⟨a5, a6⟩ ⟨h1, h2⟩
    have h1 : a5 = pbV n B o t q := h1
    show f_X9_pointsBehind_36 N b a3 (nI q) (nI c) (m + 1) a5 a6 (nI q) C = _
    rw [f_X9_pointsBehind_36, if_pos (by rw [le_nn (by omega) (by omega)]; exact Nat.le_refl _), h1]
    rfl
end OIL1
