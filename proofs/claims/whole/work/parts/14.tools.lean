/-! Tools for the pure layer: small numbers, loads and stores at known places. -/
theorem inB_nI {j n : Nat} (h : j < n) (hn : n < 2 ^ 31) : inB (nI j) n = true := by
  simp only [inB, Bool.and_eq_true, Bool.not_eq_true', decide_eq_false_iff_not, decide_eq_true_eq]
  exact ⟨nI_pos (by omega), by rw [nI_clamp (by omega)]; exact h⟩
theorem nI_lit (n : Nat) : (no_index (OfNat.ofNat n) : Int32) = nI (OfNat.ofNat n : Nat) := rfl
theorem nI_la (n k : Nat) : (no_index (OfNat.ofNat n) : Int32) + nI k = nI ((OfNat.ofNat n : Nat) + k) := nI_add n k
theorem nI_al (n k : Nat) : nI k + (no_index (OfNat.ofNat n) : Int32) = nI (k + (OfNat.ofNat n : Nat)) := nI_add k n
theorem nI_lm (n k : Nat) : (no_index (OfNat.ofNat n) : Int32) * nI k = nI ((OfNat.ofNat n : Nat) * k) := pk_mul n k
theorem nI_ml (n k : Nat) : nI k * (no_index (OfNat.ofNat n) : Int32) = nI (k * (OfNat.ofNat n : Nat)) := pk_mul k n
theorem nI_sl {n k : Nat} (h : (OfNat.ofNat n : Nat) ≤ k) : nI k - (no_index (OfNat.ofNat n) : Int32) = nI (k - (OfNat.ofNat n : Nat)) := pk_sub h
theorem nI_ls {n k : Nat} (h : k ≤ (OfNat.ofNat n : Nat)) : (no_index (OfNat.ofNat n) : Int32) - nI k = nI ((OfNat.ofNat n : Nat) - k) := pk_sub h
theorem nI_dl {n k : Nat} (hk : k < 2147483648) (h0 : 0 < (OfNat.ofNat n : Nat)) (hn : (OfNat.ofNat n : Nat) < 2147483648) : nI k / (no_index (OfNat.ofNat n) : Int32) = nI (k / (OfNat.ofNat n : Nat)) := pk_div hk h0 hn
theorem nI_rl {n k : Nat} (hk : k < 2147483648) (h0 : 0 < (OfNat.ofNat n : Nat)) (hn : (OfNat.ofNat n : Nat) < 2147483648) : nI k - nI k / (no_index (OfNat.ofNat n) : Int32) * (no_index (OfNat.ofNat n) : Int32) = nI (k % (OfNat.ofNat n : Nat)) := pk_rem hk h0 hn
theorem le_nn {a b : Nat} (ha : a < 2147483648) (hb : b < 2147483648) : (nI a ≤ nI b) = (a ≤ b) := propext (nI_leI ha hb)
theorem le_ln {a b : Nat} (ha : (OfNat.ofNat a : Nat) < 2147483648) (hb : b < 2147483648) : ((no_index (OfNat.ofNat a) : Int32) ≤ nI b) = ((OfNat.ofNat a : Nat) ≤ b) := propext (nI_leI ha hb)
theorem le_nl {a b : Nat} (ha : a < 2147483648) (hb : (OfNat.ofNat b : Nat) < 2147483648) : (nI a ≤ (no_index (OfNat.ofNat b) : Int32)) = (a ≤ (OfNat.ofNat b : Nat)) := propext (nI_leI ha hb)
theorem lt_nn {a b : Nat} (ha : a < 2147483648) (hb : b < 2147483648) : (nI a < nI b) = (a < b) := propext (nI_ltI ha hb)
theorem lt_ln {a b : Nat} (ha : (OfNat.ofNat a : Nat) < 2147483648) (hb : b < 2147483648) : ((no_index (OfNat.ofNat a) : Int32) < nI b) = ((OfNat.ofNat a : Nat) < b) := propext (nI_ltI ha hb)
theorem lt_nl {a b : Nat} (ha : a < 2147483648) (hb : (OfNat.ofNat b : Nat) < 2147483648) : (nI a < (no_index (OfNat.ofNat b) : Int32)) = (a < (OfNat.ofNat b : Nat)) := propext (nI_ltI ha hb)
theorem eq_nn {a b : Nat} (ha : a < 2147483648) (hb : b < 2147483648) : (nI a = nI b) = (a = b) := propext (nI_eq ha hb)
theorem eq_nl {a b : Nat} (ha : a < 2147483648) (hb : (OfNat.ofNat b : Nat) < 2147483648) : (nI a = (no_index (OfNat.ofNat b) : Int32)) = (a = (OfNat.ofNat b : Nat)) := propext (nI_eq ha hb)
theorem ldA_nI {α : Type} {f : Nat → Int32} {n j : Nat} {k : Int32 → Option α} (h : j < n) (hn : n < 2147483648) : ldA f n (nI j) k = k (f j) := by
  unfold ldA
  rw [if_pos (inB_nI h hn), nI_clamp (by omega)]
theorem ldA_l {α : Type} {f : Nat → Int32} {n j : Nat} {k : Int32 → Option α} (h : (OfNat.ofNat j : Nat) < n) (hn : n < 2147483648) : ldA f n (no_index (OfNat.ofNat j) : Int32) k = k (f (OfNat.ofNat j : Nat)) := ldA_nI h hn
theorem ldL_nI {α : Type} {f : Nat → Int64} {n j : Nat} {k : Int64 → Option α} (h : j < n) (hn : n < 2147483648) : ldL f n (nI j) k = k (f j) := by
  unfold ldL
  rw [if_pos (inB_nI h hn), nI_clamp (by omega)]
theorem sxA_nI {α : Type} {X : XM} {j n x : Nat} {v : Int32} {f : XM → Option α} (h : x < n) (hn : n < 2147483648) : sxA X j n (nI x) v f = f (stX X j x v) := by
  unfold sxA
  rw [if_pos (inB_nI h hn), nI_clamp (by omega)]
theorem sxA_l {α : Type} {X : XM} {j n x : Nat} {v : Int32} {f : XM → Option α} (h : (OfNat.ofNat x : Nat) < n) (hn : n < 2147483648) : sxA X j n (no_index (OfNat.ofNat x) : Int32) v f = f (stX X j (OfNat.ofNat x : Nat) v) := sxA_nI h hn
theorem slA_nI {α : Type} {X : XM} {j n x : Nat} {v : Int64} {f : XM → Option α} (h : x < n) (hn : n < 2147483648) : slA X j n (nI x) v f = f (stL X j x v) := by
  unfold slA
  rw [if_pos (inB_nI h hn), nI_clamp (by omega)]
theorem stA_nI {α : Type} {C : CM} {k i j n x : Nat} {v : Int32} {f : CM → Option α} (h : x < n) (hn : n < 2147483648) : stA C k i j n (nI x) v f = f (stC C k i j x v) := by
  unfold stA
  rw [if_pos (inB_nI h hn), nI_clamp (by omega)]
theorem stA_l {α : Type} {C : CM} {k i j n x : Nat} {v : Int32} {f : CM → Option α} (h : (OfNat.ofNat x : Nat) < n) (hn : n < 2147483648) : stA C k i j n (no_index (OfNat.ofNat x) : Int32) v f = f (stC C k i j (OfNat.ofNat x : Nat) v) := stA_nI h hn
theorem ldQ_nI {α : Type} {n j : Nat} {k : Nat → Option α} (h : j < n) (hn : n < 2147483648) : ldQ n (nI j) k = k j := by
  unfold ldQ
  rw [if_pos (inB_nI h hn), nI_clamp (by omega)]
theorem ldR_lt {α : Type} {r n : Nat} {k : Nat → Option α} (h : r < n) : ldR r n k = k r := by
  unfold ldR
  rw [if_pos h]
theorem cal_some {α β : Type} {v : Int32} {c : β} {f : Int32 → β → Option α} : cal (some (v, c)) f = f v c := rfl
theorem cal_rt {α β : Type} {v : Int32} {c : β} {f : Int32 → β → Option α} : cal (rt v c) f = f v c := rfl
theorem bnd_v {α β : Type} {v : β} {k : β → Option α} : bnd v k = k v := rfl
theorem chk_t {α : Type} {o : Option α} : chk true o = o := rfl
theorem isB_0 : isB 0 = true := rfl
theorem isB_1 : isB 1 = true := rfl
/-- a loop, by its state behind each turn -/
theorem loop_st {β γ : Type} (F : Nat → Int32 → β → Option γ) (st : Nat → β) (n : Nat) (E : Option γ) (hs : ∀ m k, k < n → F (m + 1) (nI k) (st k) = F m (nI (k + 1)) (st (k + 1))) (he : ∀ m, F (m + 1) (nI n) (st n) = E) : ∀ (d k fuel : Nat), k + d = n → d < fuel → F fuel (nI k) (st k) = E := by
  intro d
  induction d with
  | zero =>
    intro k fuel hk hf
    obtain ⟨m, rfl⟩ : ∃ m, fuel = m + 1 := ⟨fuel - 1, by omega⟩
    have : k = n := by omega
    subst this
    exact he m
  | succ d ih =>
    intro k fuel hk hf
    obtain ⟨m, rfl⟩ : ∃ m, fuel = m + 1 := ⟨fuel - 1, by omega⟩
    rw [hs m k (by omega)]
    exact ih (k + 1) m (by omega) (by omega)
theorem loop_0st {β γ : Type} (F : Nat → Int32 → β → Option γ) (st : Nat → β) (n : Nat) (E : Option γ) (hs : ∀ m k, k < n → F (m + 1) (nI k) (st k) = F m (nI (k + 1)) (st (k + 1))) (he : ∀ m, F (m + 1) (nI n) (st n) = E) {fuel : Nat} (hf : n < fuel) : F fuel 0 (st 0) = E := loop_st F st n E hs he n 0 fuel (by omega) hf
/-- a row of the reference, filled -/
def rwX (X : XM) (j : Nat) (r : Nat → Int32) : XM := (fun j' x' => if j' = j then r x' else X.1 j' x', X.2)
theorem rwX_self (X : XM) (j : Nat) : rwX X j (X.1 j) = X := by
  unfold rwX
  ext
  · rename_i j' x'
    by_cases h : j' = j <;> simp [h]
  · rfl
theorem stX_rwX {X : XM} {j x : Nat} {r : Nat → Int32} {v : Int32} : stX (rwX X j r) j x v = rwX X j (fun y => if y = x then v else r y) := by
  unfold stX rwX
  congr 1
  funext j' x'
  by_cases h : j' = j <;> by_cases h2 : x' = x <;> simp [h, h2]
theorem rwX_in {X : XM} {j : Nat} {r : Nat → Int32} : (rwX X j r).1 j = r := by
  funext x
  simp [rwX]
theorem rwX_out {X : XM} {j j' : Nat} {r : Nat → Int32} (h : j' ≠ j) : (rwX X j r).1 j' = X.1 j' := by
  funext x
  simp [rwX, h]
/-- a stretch of a row -/
def fil (r g : Nat → Int32) (a n : Nat) : Nat → Int32 := fun x => if a ≤ x ∧ x < a + n then g (x - a) else r x
theorem fil_0 (r g : Nat → Int32) (a : Nat) : fil r g a 0 = r := by
  funext x
  unfold fil
  rw [if_neg (by omega)]
theorem fil_s (r g : Nat → Int32) (a n : Nat) : (fun y => if y = a + n then g n else fil r g a n y) = fil r g a (n + 1) := by
  funext x
  unfold fil
  by_cases h : x = a + n
  · subst h
    rw [if_pos rfl, if_pos (by omega), show a + n - a = n by omega]
  · rw [if_neg h]
    by_cases h2 : a ≤ x ∧ x < a + n
    · rw [if_pos h2, if_pos (by omega)]
    · rw [if_neg h2, if_neg (by omega)]
