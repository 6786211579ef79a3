/-! The relation's pieces: the bank that is told, the state. s: the reference's row. -/
/-- the numbers of a bank: width, height, owners, trees -/
abbrev BN : Type := Nat × Nat × Nat × Nat
def inY (n : BN) (c : Nat) : Prop := c < 100 ∧ c % 10 < n.1 ∧ c / 10 < n.2.1
/-- what lies on each cell: an owner's vane, a tree that stands, a fence -/
def ThingR (n : BN) (s : Nat → Int32) (std fen : Nat → Int32) (th : Nat → Int32) : Prop :=
  (∀ k, k < n.2.2.1 → ∀ c, s (7 + k) = nI c → c < 100 → th c = nI (16 + k)) ∧
  (∀ t, t < n.2.2.2 → std t = 1 → ∀ c, s (63 + t) = nI c → c < 100 → th c = nI (32 + t)) ∧
  (∀ c, c < 100 → fen c = 1 → th c = 48) ∧
  ∀ c, c < 100 → (∀ k, k < n.2.2.1 → s (7 + k) ≠ nI c) → (∀ t, t < n.2.2.2 → std t = 1 → s (63 + t) ≠ nI c) → fen c ≠ 1 → th c = 0
def sumN (f : Nat → Nat) : Nat → Nat
  | 0 => 0
  | n + 1 => sumN f n + f n
def BankR (B : Nat → Nat → Int32) (s : Nat → Int32) (n : BN) : Prop :=
  (n.1 ≤ 10 ∧ n.2.1 ≤ 10 ∧ n.2.2.1 ≤ 8 ∧ n.2.2.2 ≤ 12) ∧
  (B 0 1 = nI n.1 ∧ s 0 = nI n.1) ∧ (B 0 2 = nI n.2.1 ∧ s 1 = nI n.2.1) ∧ (B 6 0 = nI n.2.2.1 ∧ s 2 = nI n.2.2.1) ∧ (B 0 3 = nI n.2.2.2 ∧ s 3 = nI n.2.2.2) ∧
  (B 0 6 = s 4 ∧ (∃ e, e ≤ 99 ∧ B 0 8 = nI e ∧ s 5 = nI e) ∧ ∃ c, c ≤ 999 ∧ B 0 9 = nI c ∧ s 6 = nI c) ∧ isB (B 0 7) = true ∧
  (∀ k, k < n.2.2.1 → ∃ c, inY n c ∧ B 8 k = nI c ∧ s (7 + k) = nI c) ∧
  (∀ k, k < 8 → ∃ v, v ≤ 999 ∧ B 9 k = nI v ∧ s (15 + k) = nI v ∧ (n.2.2.1 ≤ k → v = 0)) ∧
  (∀ k, k < n.2.2.1 → ∃ v, 1 ≤ v ∧ v ≤ 99 ∧ B 10 k = nI v ∧ s (23 + k) = nI v) ∧
  (∀ k, k < 8 → ∃ v, v ≤ 9 ∧ B 11 k = nI v ∧ s (31 + k) = nI v ∧ (n.2.2.1 ≤ k → v = 0)) ∧
  (∀ k, k < 8 → ∃ v, v ≤ 7 ∧ B 12 k = nI v ∧ s (39 + k) = nI v ∧ (n.2.2.1 ≤ k → v = 0)) ∧
  (∀ k, k < n.2.2.1 → ∃ v, v ≤ n.2.2.1 ∧ B 13 k = nI v - 1 ∧ s (47 + k) = nI v) ∧
  (∀ k, k < n.2.2.1 → ∃ v, (v = 0 ∨ inY n (v - 1)) ∧ B 14 k = nI v - 1 ∧ s (55 + k) = nI v) ∧
  (∀ t, t < n.2.2.2 → ∃ c, inY n c ∧ B 3 t = nI c ∧ s (63 + t) = nI c) ∧
  (∀ c, c < 100 → ∃ v, v ≤ 7 ∧ B 2 c = nI v ∧ s (75 + c) = nI v) ∧
  (∀ q, q < 48 → ∃ f, f ≤ 9 ∧ B 5 q = nI f ∧ s (223 + q) = nI f ∧ (0 < f → ∃ d, d ≤ 7 ∧ B 4 q = nI d ∧ s (175 + q) = nI d)) ∧
  (∃ fe : Nat → Nat, (∀ c, c < 100 → fe c ≤ 1 ∧ s (271 + c) = nI (fe c)) ∧ sumN fe 100 ≤ 12 ∧ B 0 4 = nI (sumN fe 100)) ∧
  ThingR n s (fun _ => 1) (fun c => s (271 + c)) (B 1) ∧
  ∃ od : Nat → Nat, (∀ i, i < n.2.2.1 → od i < n.2.2.1 ∧ B 15 i = nI (od i)) ∧ (∀ k, k < n.2.2.1 → ∃ i, i < n.2.2.1 ∧ od i = k) ∧ (∀ i j, i < j → j < n.2.2.1 → s (23 + od j) < s (23 + od i) ∨ (s (23 + od j) = s (23 + od i) ∧ od i < od j))
theorem sumN_0 {f : Nat → Nat} (n : Nat) (h : ∀ i, i < n → f i = 0) : sumN f n = 0 := by
  induction n with
  | zero => rfl
  | succ n ih =>
    show sumN f n + f n = 0
    rw [ih (fun i hi => h i (by omega)), h n (by omega)]
theorem bankR_0 (b : Nat) : BankR (C0m.1 3 b) (X0m.1 2) (0, 0, 0, 0) := by
  refine ⟨⟨Nat.zero_le _, Nat.zero_le _, Nat.zero_le _, Nat.zero_le _⟩, ⟨rfl, rfl⟩, ⟨rfl, rfl⟩, ⟨rfl, rfl⟩, ⟨rfl, rfl⟩, ⟨rfl, ⟨0, by omega, rfl, rfl⟩, ⟨0, by omega, rfl, rfl⟩⟩, rfl, fun k h => by simp at h, fun k _ => ⟨0, by omega, rfl, rfl, fun _ => rfl⟩, fun k h => by simp at h, fun k _ => ⟨0, by omega, rfl, rfl, fun _ => rfl⟩, fun k _ => ⟨0, by omega, rfl, rfl, fun _ => rfl⟩, fun k h => by simp at h, fun k h => by simp at h, fun k h => by simp at h, fun c _ => ⟨0, by omega, rfl, rfl⟩, fun q _ => ⟨0, by omega, rfl, rfl, fun h => by omega⟩, ⟨fun _ => 0, fun c _ => ⟨Nat.zero_le _, rfl⟩, by rw [sumN_0 100 (fun _ _ => rfl)]; omega, by rw [sumN_0 100 (fun _ _ => rfl)]; rfl⟩, ⟨fun k h => by simp at h, fun k h => by simp at h, fun c _ h => ?_, fun c _ _ _ _ => rfl⟩, fun _ => 0, fun i h => by simp at h, fun k h => by simp at h, fun i j _ h => by simp at h⟩
  have h : (0 : Int32) = 1 := h
  exact absurd h (by decide)
