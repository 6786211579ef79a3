/-- how many instances a kind has, how many parts an instance -/
def cntK (k : Nat) : Nat := match k with
  | 0 => 1
  | 1 => 1
  | 2 => 3
  | 3 => 4
  | 4 => 12
  | 5 => 4
  | 6 => 4
  | 7 => 1
  | 8 => 1
  | 9 => 1
  | 10 => 1
  | 11 => 1
  | _ => 0
def prtK (k : Nat) : Nat := match k with
  | 0 => 6
  | 1 => 4
  | 2 => 1
  | 3 => 16
  | 4 => 9
  | 5 => 4
  | 6 => 5
  | 7 => 2
  | 8 => 4
  | 9 => 3
  | 10 => 20
  | 11 => 1
  | _ => 0
/-- a cell: an array (kind of its elements, length), or an object (number of its class in vwCl) -/
def ck_0 (j : Nat) : (Nat × Nat) ⊕ Nat := match j with
  | 0 => .inr 10
  | 1 => .inl (1, 940)
  | 2 => .inl (5, 2)
  | 3 => .inl (0, 384)
  | 4 => .inl (0, 48)
  | 5 => .inl (0, 5)
  | _ => .inl (0, 0)
def ck_1 (j : Nat) : (Nat × Nat) ⊕ Nat := match j with
  | 0 => .inr 7
  | 1 => .inl (0, 941)
  | 2 => .inl (0, 941)
  | 3 => .inl (0, 941)
  | _ => .inl (0, 0)
def ck_2 (j : Nat) : (Nat × Nat) ⊕ Nat := match j with
  | 0 => .inr 8
  | _ => .inl (0, 0)
def ck_3 (j : Nat) : (Nat × Nat) ⊕ Nat := match j with
  | 0 => .inr 0
  | 1 => .inl (0, 100)
  | 2 => .inl (0, 100)
  | 3 => .inl (0, 12)
  | 4 => .inl (0, 48)
  | 5 => .inl (0, 48)
  | 6 => .inr 1
  | 7 => .inl (0, 8)
  | 8 => .inl (0, 8)
  | 9 => .inl (0, 8)
  | 10 => .inl (0, 8)
  | 11 => .inl (0, 8)
  | 12 => .inl (0, 8)
  | 13 => .inl (0, 8)
  | 14 => .inl (0, 8)
  | 15 => .inl (0, 8)
  | _ => .inl (0, 0)
def ck_4 (j : Nat) : (Nat × Nat) ⊕ Nat := match j with
  | 0 => .inr 6
  | 1 => .inl (0, 8)
  | 2 => .inl (0, 8)
  | 3 => .inl (0, 8)
  | 4 => .inl (0, 8)
  | 5 => .inl (0, 8)
  | 6 => .inl (0, 8)
  | 7 => .inl (0, 8)
  | 8 => .inl (0, 100)
  | _ => .inl (0, 0)
def ck_5 (j : Nat) : (Nat × Nat) ⊕ Nat := match j with
  | 0 => .inr 3
  | 1 => .inl (0, 30)
  | 2 => .inl (0, 30)
  | 3 => .inl (0, 30)
  | _ => .inl (0, 0)
def ck_6 (j : Nat) : (Nat × Nat) ⊕ Nat := match j with
  | 0 => .inr 5
  | 1 => .inl (0, 40)
  | 2 => .inl (0, 40)
  | 3 => .inl (0, 40)
  | 4 => .inl (0, 20)
  | _ => .inl (0, 0)
def ck_7 (j : Nat) : (Nat × Nat) ⊕ Nat := match j with
  | 0 => .inr 2
  | 1 => .inl (4, 8)
  | _ => .inl (0, 0)
def ck_8 (j : Nat) : (Nat × Nat) ⊕ Nat := match j with
  | 0 => .inr 9
  | 1 => .inl (0, 8)
  | 2 => .inl (0, 8)
  | 3 => .inl (0, 8)
  | _ => .inl (0, 0)
def ck_9 (j : Nat) : (Nat × Nat) ⊕ Nat := match j with
  | 0 => .inr 4
  | 1 => .inl (0, 256)
  | 2 => .inl (0, 2048)
  | _ => .inl (0, 0)
def ck_10 (j : Nat) : (Nat × Nat) ⊕ Nat := match j with
  | 0 => .inr 11
  | 1 => .inl (1, 940)
  | 2 => .inl (0, 845)
  | 3 => .inl (0, 371)
  | 4 => .inl (0, 135)
  | 5 => .inl (3, 16)
  | 6 => .inl (3, 24)
  | 7 => .inl (0, 8)
  | 8 => .inl (0, 8)
  | 9 => .inl (0, 172)
  | 10 => .inl (0, 1376)
  | 11 => .inl (0, 2048)
  | 12 => .inl (0, 384)
  | 13 => .inl (0, 5)
  | 14 => .inl (0, 172)
  | 15 => .inl (0, 45)
  | 16 => .inl (2, 45)
  | 17 => .inl (0, 1690)
  | 18 => .inl (3, 16)
  | 19 => .inl (2, 2)
  | _ => .inl (0, 0)
def ck_11 (j : Nat) : (Nat × Nat) ⊕ Nat := match j with
  | 0 => .inl (3, 1)
  | _ => .inl (0, 0)
def ck (k j : Nat) : (Nat × Nat) ⊕ Nat := match k with
  | 0 => ck_0 j
  | 1 => ck_1 j
  | 2 => ck_2 j
  | 3 => ck_3 j
  | 4 => ck_4 j
  | 5 => ck_5 j
  | 6 => ck_6 j
  | 7 => ck_7 j
  | 8 => ck_8 j
  | 9 => ck_9 j
  | 10 => ck_10 j
  | 11 => ck_11 j
  | _ => .inl (0, 0)
/-- what a place of a cell holds: 0 an int, 1 a long, 2 a reference -/
def tc_0_0 (x : Nat) : Nat := match x with
  | 0 => 2
  | 2 => 2
  | 4 => 2
  | 5 => 2
  | 6 => 2
  | 7 => 2
  | 8 => 2
  | 9 => 2
  | 10 => 2
  | 11 => 2
  | 12 => 2
  | 14 => 2
  | 16 => 2
  | 17 => 2
  | _ => 0
def tc_0 (j x : Nat) : Nat := match j with
  | 0 => tc_0_0 x
  | 2 => 2
  | _ => 0
def tc_1_0 (x : Nat) : Nat := match x with
  | 0 => 2
  | 1 => 2
  | 2 => 2
  | _ => 0
def tc_1 (j x : Nat) : Nat := match j with
  | 0 => tc_1_0 x
  | _ => 0
def tc_2_0 (x : Nat) : Nat := match x with
  | 1 => 2
  | 2 => 2
  | 3 => 2
  | 4 => 2
  | _ => 0
def tc_2 (j x : Nat) : Nat := match j with
  | 0 => tc_2_0 x
  | _ => 0
def tc_3_0 (x : Nat) : Nat := match x with
  | 10 => 2
  | 11 => 2
  | 12 => 2
  | 13 => 2
  | 14 => 2
  | 15 => 2
  | _ => 0
def tc_3_6 (x : Nat) : Nat := match x with
  | 2 => 2
  | 3 => 2
  | 4 => 2
  | 5 => 2
  | 6 => 2
  | 7 => 2
  | 8 => 2
  | 9 => 2
  | 10 => 2
  | _ => 0
def tc_3 (j x : Nat) : Nat := match j with
  | 0 => tc_3_0 x
  | 6 => tc_3_6 x
  | _ => 0
def tc_4_0 (x : Nat) : Nat := match x with
  | 6 => 2
  | 7 => 2
  | 8 => 2
  | 9 => 2
  | 10 => 2
  | 11 => 2
  | 12 => 2
  | 13 => 2
  | _ => 0
def tc_4 (j x : Nat) : Nat := match j with
  | 0 => tc_4_0 x
  | _ => 0
def tc_5_0 (x : Nat) : Nat := match x with
  | 1 => 2
  | 2 => 2
  | 3 => 2
  | _ => 0
def tc_5 (j x : Nat) : Nat := match j with
  | 0 => tc_5_0 x
  | _ => 0
def tc_6_0 (x : Nat) : Nat := match x with
  | 2 => 2
  | 3 => 2
  | 4 => 2
  | 5 => 2
  | _ => 0
def tc_6 (j x : Nat) : Nat := match j with
  | 0 => tc_6_0 x
  | _ => 0
def tc_7_0 (x : Nat) : Nat := match x with
  | 0 => 2
  | _ => 0
def tc_7 (j x : Nat) : Nat := match j with
  | 0 => tc_7_0 x
  | 1 => 2
  | _ => 0
def tc_8_0 (x : Nat) : Nat := match x with
  | 0 => 2
  | 1 => 2
  | 2 => 2
  | _ => 0
def tc_8 (j x : Nat) : Nat := match j with
  | 0 => tc_8_0 x
  | _ => 0
def tc_9_0 (x : Nat) : Nat := match x with
  | 2 => 2
  | 3 => 2
  | _ => 0
def tc_9 (j x : Nat) : Nat := match j with
  | 0 => tc_9_0 x
  | _ => 0
def tc_10_0 (x : Nat) : Nat := match x with
  | 1 => 2
  | 6 => 2
  | 7 => 2
  | 8 => 2
  | 9 => 2
  | 10 => 2
  | 17 => 1
  | 29 => 2
  | 30 => 2
  | 31 => 2
  | 32 => 2
  | 36 => 2
  | 37 => 2
  | 41 => 2
  | 42 => 2
  | 44 => 2
  | 50 => 2
  | 51 => 2
  | 52 => 2
  | 53 => 2
  | _ => 0
def tc_10 (j x : Nat) : Nat := match j with
  | 0 => tc_10_0 x
  | 5 => 1
  | 6 => 1
  | 18 => 1
  | _ => 0
def tc_11 (j x : Nat) : Nat := match j with
  | 0 => 1
  | _ => 0
def tc (k j x : Nat) : Nat := match k with
  | 0 => tc_0 j x
  | 1 => tc_1 j x
  | 2 => tc_2 j x
  | 3 => tc_3 j x
  | 4 => tc_4 j x
  | 5 => tc_5 j x
  | 6 => tc_6 j x
  | 7 => tc_7 j x
  | 8 => tc_8 j x
  | 9 => tc_9 j x
  | 10 => tc_10 j x
  | 11 => tc_11 j x
  | _ => 0
/-- the reference that a place holds: kind, instance, part -/
def rf_0_0 (R : Nat → Nat → Nat → Nat) (i : Nat) (x : Nat) : Nat × Nat × Nat := match x with
  | 0 => (0, i, 1)
  | 2 => (1, 0, 0)
  | 4 => (2, 0, 0)
  | 5 => (0, i, 2)
  | 6 => (3, (R 0 i 6), 0)
  | 7 => (5, (R 0 i 7), 0)
  | 8 => (6, (R 0 i 8), 0)
  | 9 => (7, 0, 0)
  | 10 => (8, 0, 0)
  | 11 => (9, 0, 0)
  | 12 => (4, 3, 0)
  | 14 => (0, i, 3)
  | 16 => (0, i, 4)
  | 17 => (0, i, 5)
  | _ => (0, 0, 0)
def rf_0 (R : Nat → Nat → Nat → Nat) (i : Nat) (j x : Nat) : Nat × Nat × Nat := match j with
  | 0 => rf_0_0 R i x
  | 2 => (2, 1 + x, 0)
  | _ => (0, 0, 0)
def rf_1_0 (R : Nat → Nat → Nat → Nat) (i : Nat) (x : Nat) : Nat × Nat × Nat := match x with
  | 0 => (1, i, 1)
  | 1 => (1, i, 2)
  | 2 => (1, i, 3)
  | _ => (0, 0, 0)
def rf_1 (R : Nat → Nat → Nat → Nat) (i : Nat) (j x : Nat) : Nat × Nat × Nat := match j with
  | 0 => rf_1_0 R i x
  | _ => (0, 0, 0)
def rf_2_0 (R : Nat → Nat → Nat → Nat) (i : Nat) (x : Nat) : Nat × Nat × Nat := match x with
  | 1 => (3, (R 2 i 1), 0)
  | 2 => (4, i, 0)
  | 3 => (5, (R 2 i 3), 0)
  | 4 => (6, (R 2 i 4), 0)
  | _ => (0, 0, 0)
def rf_2 (R : Nat → Nat → Nat → Nat) (i : Nat) (j x : Nat) : Nat × Nat × Nat := match j with
  | 0 => rf_2_0 R i x
  | _ => (0, 0, 0)
def rf_3_0 (R : Nat → Nat → Nat → Nat) (i : Nat) (x : Nat) : Nat × Nat × Nat := match x with
  | 10 => (3, i, 6)
  | 11 => (3, i, 1)
  | 12 => (3, i, 2)
  | 13 => (3, i, 3)
  | 14 => (3, i, 4)
  | 15 => (3, i, 5)
  | _ => (0, 0, 0)
def rf_3_6 (R : Nat → Nat → Nat → Nat) (i : Nat) (x : Nat) : Nat × Nat × Nat := match x with
  | 2 => (3, i, 7)
  | 3 => (3, i, 8)
  | 4 => (3, i, 9)
  | 5 => (3, i, 10)
  | 6 => (3, i, 11)
  | 7 => (3, i, 12)
  | 8 => (3, i, 13)
  | 9 => (3, i, 14)
  | 10 => (3, i, 15)
  | _ => (0, 0, 0)
def rf_3 (R : Nat → Nat → Nat → Nat) (i : Nat) (j x : Nat) : Nat × Nat × Nat := match j with
  | 0 => rf_3_0 R i x
  | 6 => rf_3_6 R i x
  | _ => (0, 0, 0)
def rf_4_0 (R : Nat → Nat → Nat → Nat) (i : Nat) (x : Nat) : Nat × Nat × Nat := match x with
  | 6 => (4, i, 1)
  | 7 => (4, i, 2)
  | 8 => (4, i, 3)
  | 9 => (4, i, 4)
  | 10 => (4, i, 5)
  | 11 => (4, i, 6)
  | 12 => (4, i, 7)
  | 13 => (4, i, 8)
  | _ => (0, 0, 0)
def rf_4 (R : Nat → Nat → Nat → Nat) (i : Nat) (j x : Nat) : Nat × Nat × Nat := match j with
  | 0 => rf_4_0 R i x
  | _ => (0, 0, 0)
def rf_5_0 (R : Nat → Nat → Nat → Nat) (i : Nat) (x : Nat) : Nat × Nat × Nat := match x with
  | 1 => (5, i, 1)
  | 2 => (5, i, 2)
  | 3 => (5, i, 3)
  | _ => (0, 0, 0)
def rf_5 (R : Nat → Nat → Nat → Nat) (i : Nat) (j x : Nat) : Nat × Nat × Nat := match j with
  | 0 => rf_5_0 R i x
  | _ => (0, 0, 0)
def rf_6_0 (R : Nat → Nat → Nat → Nat) (i : Nat) (x : Nat) : Nat × Nat × Nat := match x with
  | 2 => (6, i, 1)
  | 3 => (6, i, 2)
  | 4 => (6, i, 3)
  | 5 => (6, i, 4)
  | _ => (0, 0, 0)
def rf_6 (R : Nat → Nat → Nat → Nat) (i : Nat) (j x : Nat) : Nat × Nat × Nat := match j with
  | 0 => rf_6_0 R i x
  | _ => (0, 0, 0)
def rf_7_0 (R : Nat → Nat → Nat → Nat) (i : Nat) (x : Nat) : Nat × Nat × Nat := match x with
  | 0 => (7, i, 1)
  | _ => (0, 0, 0)
def rf_7 (R : Nat → Nat → Nat → Nat) (i : Nat) (j x : Nat) : Nat × Nat × Nat := match j with
  | 0 => rf_7_0 R i x
  | 1 => (4, 4 + x, 0)
  | _ => (0, 0, 0)
def rf_8_0 (R : Nat → Nat → Nat → Nat) (i : Nat) (x : Nat) : Nat × Nat × Nat := match x with
  | 0 => (8, i, 1)
  | 1 => (8, i, 2)
  | 2 => (8, i, 3)
  | _ => (0, 0, 0)
def rf_8 (R : Nat → Nat → Nat → Nat) (i : Nat) (j x : Nat) : Nat × Nat × Nat := match j with
  | 0 => rf_8_0 R i x
  | _ => (0, 0, 0)
def rf_9_0 (R : Nat → Nat → Nat → Nat) (i : Nat) (x : Nat) : Nat × Nat × Nat := match x with
  | 2 => (9, i, 1)
  | 3 => (9, i, 2)
  | _ => (0, 0, 0)
def rf_9 (R : Nat → Nat → Nat → Nat) (i : Nat) (j x : Nat) : Nat × Nat × Nat := match j with
  | 0 => rf_9_0 R i x
  | _ => (0, 0, 0)
def rf_10_0 (R : Nat → Nat → Nat → Nat) (i : Nat) (x : Nat) : Nat × Nat × Nat := match x with
  | 1 => (10, i, 1)
  | 6 => (10, i, 2)
  | 7 => (10, i, 3)
  | 8 => (10, i, 4)
  | 9 => (10, i, 5)
  | 10 => (10, i, 6)
  | 29 => (10, i, 7)
  | 30 => (10, i, 8)
  | 31 => (10, i, 9)
  | 32 => (10, i, 10)
  | 36 => (10, i, 11)
  | 37 => (10, i, 12)
  | 41 => (10, i, 13)
  | 42 => (10, i, 14)
  | 44 => (10, i, 15)
  | 50 => (10, i, 16)
  | 51 => (10, i, 17)
  | 52 => (10, i, 18)
  | 53 => (10, i, 19)
  | _ => (0, 0, 0)
def rf_10 (R : Nat → Nat → Nat → Nat) (i : Nat) (j x : Nat) : Nat × Nat × Nat := match j with
  | 0 => rf_10_0 R i x
  | _ => (0, 0, 0)
def rf (R : Nat → Nat → Nat → Nat) (i : Nat) (k j x : Nat) : Nat × Nat × Nat := match k with
  | 0 => rf_0 R i j x
  | 1 => rf_1 R i j x
  | 2 => rf_2 R i j x
  | 3 => rf_3 R i j x
  | 4 => rf_4 R i j x
  | 5 => rf_5 R i j x
  | 6 => rf_6 R i j x
  | 7 => rf_7 R i j x
  | 8 => rf_8 R i j x
  | 9 => rf_9 R i j x
  | 10 => rf_10 R i j x
  | _ => (0, 0, 0)

abbrev Pic : Type := Nat → Nat → Int32
abbrev PicL : Type := Nat → Nat → Int64
/-- what is held: ints and longs by kind, instance, part, place; references that change, by kind, instance, field -/
abbrev Mem : Type := (Nat → Nat → Pic) × (Nat → Nat → PicL) × (Nat → Nat → Nat → Nat)
def setP {α : Type} (I : Nat → Nat → α) (k i : Nat) (P : α) : Nat → Nat → α := fun k' i' => if k' = k ∧ i' = i then P else I k' i'
def setX {α : Type} (P : Nat → Nat → α) (j x : Nat) (v : α) : Nat → Nat → α := fun j' x' => if j' = j ∧ x' = x then v else P j' x'
def setJ {α : Type} (P : Nat → Nat → α) (j : Nat) (r : Nat → α) : Nat → Nat → α := fun j' => if j' = j then r else P j'
def setR (R : Nat → Nat → Nat → Nat) (k i f v : Nat) : Nat → Nat → Nat → Nat := fun k' i' f' => if k' = k ∧ i' = i ∧ f' = f then v else R k' i' f'
theorem setP_s {α : Type} {I : Nat → Nat → α} {k i : Nat} {P : α} : setP I k i P k i = P := by simp [setP]
theorem setP_k {α : Type} {I : Nat → Nat → α} {k i k' i' : Nat} {P : α} (h : k' ≠ k) : setP I k i P k' i' = I k' i' := by simp [setP, h]
theorem setP_i {α : Type} {I : Nat → Nat → α} {k i k' i' : Nat} {P : α} (h : i' ≠ i) : setP I k i P k' i' = I k' i' := by simp [setP, h]
theorem setP_pp {α : Type} {I : Nat → Nat → α} {k i : Nat} {P P' : α} : setP (setP I k i P) k i P' = setP I k i P' := by
  funext a b
  simp only [setP]
  split <;> rfl
theorem setP_ck {α : Type} {I : Nat → Nat → α} {k i k' i' : Nat} {P P' : α} (h : k ≠ k') : setP (setP I k' i' P') k i P = setP (setP I k i P) k' i' P' := by
  funext a b
  simp only [setP]
  by_cases h1 : a = k ∧ b = i
  · rw [if_pos h1, if_neg (fun h2 => h (h1.1.symm.trans h2.1)), if_pos h1]
  · rw [if_neg h1]
    by_cases h2 : a = k' ∧ b = i'
    · rw [if_pos h2, if_pos h2]
    · rw [if_neg h2, if_neg h2, if_neg h1]
theorem setP_ci {α : Type} {I : Nat → Nat → α} {k i k' i' : Nat} {P P' : α} (h : i ≠ i') : setP (setP I k' i' P') k i P = setP (setP I k i P) k' i' P' := by
  funext a b
  simp only [setP]
  by_cases h1 : a = k ∧ b = i
  · rw [if_pos h1, if_neg (fun h2 => h (h1.2.symm.trans h2.2)), if_pos h1]
  · rw [if_neg h1]
    by_cases h2 : a = k' ∧ b = i'
    · rw [if_pos h2, if_pos h2]
    · rw [if_neg h2, if_neg h2, if_neg h1]
theorem setP_id {α : Type} {I : Nat → Nat → α} {k i : Nat} : setP I k i (I k i) = I := by
  funext a b
  simp only [setP]
  split
  · rename_i h; rw [h.1, h.2]
  · rfl
theorem setX_s {α : Type} {P : Nat → Nat → α} {j x : Nat} {v : α} : setX P j x v j x = v := by simp [setX]
theorem setX_j {α : Type} {P : Nat → Nat → α} {j x j' x' : Nat} {v : α} (h : j' ≠ j) : setX P j x v j' x' = P j' x' := by simp [setX, h]
theorem setX_x {α : Type} {P : Nat → Nat → α} {j x j' x' : Nat} {v : α} (h : x' ≠ x) : setX P j x v j' x' = P j' x' := by simp [setX, h]
theorem setJ_s {α : Type} {P : Nat → Nat → α} {j : Nat} {r : Nat → α} : setJ P j r j = r := by simp [setJ]
theorem setJ_j {α : Type} {P : Nat → Nat → α} {j j' : Nat} {r : Nat → α} (h : j' ≠ j) : setJ P j r j' = P j' := by simp [setJ, h]
/-- the launch's numbers: classes and slots, array classes, addresses of the cells, the first address, static arrays, the script -/
abbrev GX : Type := va_G × (Nat → ClassId) × (Nat → Nat → Nat → Nat) × Nat × (Nat → Nat) × Nat × (Nat → Int32)
def gA (G : GX) (k i j : Nat) : Nat := G.2.2.1 k i j
def gS (G : GX) : Nat := G.2.2.2.1
def gF (G : GX) (n : Nat) : Nat := G.2.2.2.2.1 n
def gP (G : GX) : Nat → Prop := fun q => gS G ≤ q
def tyE (t : Nat) : FieldType := match t with
  | 0 => .int
  | 1 => .byte
  | 2 => .boolean
  | 3 => .long
  | 4 => .object "GaleBank$State"
  | _ => .object "GaleBank$Whole"
def tysG (G : GX) : List (ClassId × FieldType) := [(G.2.1 0, tyE 0), (G.2.1 1, tyE 1), (G.2.1 2, tyE 2), (G.2.1 3, tyE 3), (G.2.1 4, tyE 4), (G.2.1 5, tyE 5)]
def vd (k i j : Nat) : Prop := i < cntK k ∧ j < prtK k
def vl (G : GX) (M : Mem) (k i j x : Nat) : Value := match tc k j x with
  | 0 => .int (M.1 k i j x)
  | 1 => .long (M.2.1 k i j x)
  | _ => .ref (gA G (rf M.2.2 i k j x).1 (rf M.2.2 i k j x).2.1 (rf M.2.2 i k j x).2.2)
def celO (G : GX) (V : Nat → Value) (k i j : Nat) (H : Heap) : Prop := match ck k j with
  | .inl (t, n) => H[gA G k i j]? = some (arrV (G.2.1 t) n V)
  | .inr ci => ∃ r : vw_C, vwCl[ci]? = some r ∧ t_OB (gA G k i j) (G.1.1 ci) r.2.2 (G.1.2 ci) H V
def Hold (G : GX) (M : Mem) (H : Heap) : Prop := ∀ k i j, vd k i j → celO G (vl G M k i j) k i j H
/-- the addresses are apart and lie above the first -/
def GOK (G : GX) : Prop := (∀ k i j k' i' j', vd k i j → vd k' i' j' → gA G k i j = gA G k' i' j' → k = k' ∧ i = i' ∧ j = j') ∧ ∀ k i j, vd k i j → gS G ≤ gA G k i j
def AT : List Cond := lw_tbl.filter goodWord
theorem at_w {w : Cond} (i : Nat) (h : lw_tbl[i]? = some w) (hg : goodWord w = true) : w ∈ AT := List.mem_filter.mpr ⟨List.mem_of_getElem? h, hg⟩
theorem at_g {w : Cond} (h : w ∈ AT) : goodWord w = true := (List.mem_filter.mp h).2
def stX (j : Nat) : Int32 := match j with
  | 0 => 0
  | 1 => 1
  | 2 => 1
  | 3 => 1
  | 4 => 0
  | 5 => -1
  | 6 => -1
  | _ => -1
def stY (j : Nat) : Int32 := match j with
  | 0 => -1
  | 1 => -1
  | 2 => 0
  | 3 => 1
  | 4 => 1
  | 5 => 1
  | 6 => 0
  | _ => -1
/-- what stays so of the tables and of the cells that nobody writes -/
def Kx (G : GX) (U : State) : Prop :=
  GOK G ∧ va_K G.1 vwCl (tysG G) U ∧ gS G ≤ U.heap.size ∧
  (va_Nw (.fieldLinkNest "GaleBank$Bank" 82 "GaleBank" "STEP_X" "[I" "GaleBank") U ∧ va_Nw (.fieldLinkNest "GaleBank$Bank" 85 "GaleBank" "STEP_Y" "[I" "GaleBank") U) ∧
  (va_Z "GaleBank" "STEP_X" "[I" (.ref (gF G 0)) (gP G) U U.heap ∧ va_T .int (gF G 0) 8 (fun j => .int (stX j)) (gP G) U U.heap) ∧
  (va_Z "GaleBank" "STEP_Y" "[I" (.ref (gF G 1)) (gP G) U U.heap ∧ va_T .int (gF G 1) 8 (fun j => .int (stY j)) (gP G) U U.heap) ∧
  va_X (gF G 2) G.2.2.2.2.2.1 G.2.2.2.2.2.2 U U.heap ∧ gF G 2 < gS G
