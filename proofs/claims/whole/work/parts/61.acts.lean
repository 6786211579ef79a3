/-! The acts: blow, set, fell, oil, point, undo. -/
theorem ne_48_own : ∀ k, k < 8 → nI (16 + k) ≠ 48 := fun k hk => (thV_own k hk).2.2.1
theorem thing_set {n : BN} {s std fen fen' th th' : Nat → Int32} {c : Nat} (hn : n.2.2.1 ≤ 8 ∧ n.2.2.2 ≤ 12) (h : ThingR n s std fen th) (hc : c < 100) (h0 : th c = 0) (hf : ∀ x, x < 100 → fen' x = if x = c then 1 else fen x) (ht : ∀ x, x < 100 → th' x = if x = c then 48 else th x) : ThingR n s std fen' th' := by
  obtain ⟨t1, t2, t3, t4⟩ := h
  refine ⟨fun k hk x hx q => ?_, fun t htt hd x hx q => ?_, fun x hx hfx => ?_, fun x hx q1 q2 q3 => ?_⟩
  · rw [ht x q]
    by_cases e : x = c
    · have := t1 k hk x hx q
      rw [e, h0] at this
      exact absurd this.symm (thV_own k (by omega)).2.1
    · rw [if_neg e]
      exact t1 k hk x hx q
  · rw [ht x q]
    by_cases e : x = c
    · have := t2 t htt hd x hx q
      rw [e, h0] at this
      exact absurd this.symm (thV_tree t (by omega)).2.1
    · rw [if_neg e]
      exact t2 t htt hd x hx q
  · rw [ht x hx]
    by_cases e : x = c
    · rw [if_pos e]
    · rw [if_neg e]
      rw [hf x hx, if_neg e] at hfx
      exact t3 x hx hfx
  · rw [ht x hx]
    rw [hf x hx] at q3
    by_cases e : x = c
    · rw [if_pos e] at q3
      exact absurd rfl q3
    · rw [if_neg e] at q3 ⊢
      exact t4 x hx q1 q2 q3
theorem thing_fell {n : BN} {s std std' fen th th' : Nat → Int32} {c t : Nat} (hn : n.2.2.1 ≤ 8 ∧ n.2.2.2 ≤ 12) (h : ThingR n s std fen th) (hc : c < 100) (htT : t < n.2.2.2) (hst : std t = 1) (hsc : s (63 + t) = nI c) (hd : ∀ k, k < 12 → std' k = if k = t then 0 else std k) (hth : ∀ x, x < 100 → th' x = if x = c then 0 else th x) : ThingR n s std' fen th' := by
  obtain ⟨t1, t2, t3, t4⟩ := h
  have hv := t2 t htT hst c hsc hc
  refine ⟨fun k hk x hx q => ?_, fun t' htt hd' x hx q => ?_, fun x hx hfx => ?_, fun x hx q1 q2 q3 => ?_⟩
  · rw [hth x q]
    by_cases e : x = c
    · have := t1 k hk x hx q
      rw [e, hv, eq_nn (by omega) (by omega)] at this
      omega
    · rw [if_neg e]
      exact t1 k hk x hx q
  · rw [hd t' (by omega)] at hd'
    have htne : t' ≠ t := fun e => by rw [if_pos e] at hd'; exact absurd hd' (by decide)
    rw [if_neg htne] at hd'
    rw [hth x q]
    by_cases e : x = c
    · have := t2 t' htt hd' x hx q
      rw [e, hv, eq_nn (by omega) (by omega)] at this
      omega
    · rw [if_neg e]
      exact t2 t' htt hd' x hx q
  · rw [hth x hx]
    by_cases e : x = c
    · have := t3 x hx hfx
      rw [e, hv] at this
      exact absurd this (thV_tree t (by omega)).2.2.1
    · rw [if_neg e]
      exact t3 x hx hfx
  · rw [hth x hx]
    by_cases e : x = c
    · rw [if_pos e]
    · rw [if_neg e]
      refine t4 x hx q1 (fun t' htt hd' e2 => ?_) q3
      by_cases e3 : t' = t
      · subst e3
        rw [hsc] at e2
        rw [eq_nn (by omega) (by omega)] at e2
        exact e e2.symm
      · exact q2 t' htt ((hd t' (by omega)).trans (by rw [if_neg e3]; exact hd')) e2
theorem sumN_upd {f f' : Nat → Nat} {c : Nat} (hf : ∀ x, x ≠ c → f' x = f x) (h0 : f c = 0) (h1 : f' c = 1) : ∀ k, sumN f' k = sumN f k + (if c < k then 1 else 0) := by
  intro k
  induction k with
  | zero => rfl
  | succ k ih =>
    show sumN f' k + f' k = sumN f k + f k + _
    rw [ih]
    by_cases e : k = c
    · subst e
      rw [h0, h1, if_neg (by omega), if_pos (by omega)]
    · rw [hf k e]
      by_cases e2 : c < k
      · rw [if_pos e2, if_pos (by omega)]
        omega
      · rw [if_neg e2, if_neg (by omega)]
        omega
theorem clr_64 : ∀ a, a < 64 → ∀ b, b < 64 → ∀ t, t < 12 → (nI (64 * a + b) &&& (((1 : Int32) <<< (nI t &&& 31)) ^^^ (-1))) = nI ((64 * a + b) &&& (4095 ^^^ 2 ^ t)) := by decide +kernel
theorem clr_bit {m t : Nat} (h : m < 4096) (ht : t < 12) : (nI m &&& (((1 : Int32) <<< (nI t &&& 31)) ^^^ (-1))) = nI (m &&& (4095 ^^^ 2 ^ t)) := by
  have := clr_64 (m / 64) (by omega) (m % 64) (by omega) t ht
  rwa [Nat.div_add_mod] at this
theorem clr_lt {m : Nat} (h : m < 4096) (t : Nat) : m &&& (4095 ^^^ 2 ^ t) < 4096 := Nat.lt_of_le_of_lt Nat.and_le_left h
theorem t4095 : ∀ k, k < 12 → (4095 : Nat).testBit k = true := by decide
theorem clr_test {m t k : Nat} (hk : k < 12) : (m &&& (4095 ^^^ 2 ^ t)).testBit k = if k = t then false else m.testBit k := by
  rw [Nat.testBit_and, Nat.testBit_xor, t4095 k hk, Nat.testBit_two_pow]
  by_cases e : k = t
  · subst e
    simp
  · have : ¬ t = k := fun h => e h.symm
    simp [this, e]
section STU
variable {n : BN} {s : Nat → Int32} {P P' : Nat → Nat → Int32} {t t' : Nat → Int32}
theorem set_st {c : Nat} (hn : n.2.2.1 ≤ 8 ∧ n.2.2.2 ≤ 12) (h : StateR n s P t) (hc : c < 100) (h0 : P 8 c = 0) (hf : t (70 + c) ≠ 1) (h12 : P 0 2 < 12) (hP8 : ∀ x, x < 100 → P' 8 x = if x = c then 48 else P 8 x) (hP2 : P' 0 2 = P 0 2 + 1) (hP : ∀ j x, dX6 j x → j ≠ 8 → ¬ (j = 0 ∧ x = 2) → P' j x = P j x) (ht : ∀ x, x < 172 → t' x = if x = 70 + c then 1 else t x) : StateR n s P' t' := by
  obtain ⟨⟨a1, a2, a3, a4⟩, ⟨q, q1, q2, q3⟩, ⟨l, l1, l2, l3⟩, z, ⟨m, m1, m2, m3⟩, ⟨fe, f1, f2, f3⟩, th⟩ := h
  refine ⟨⟨fun j o h1 h2 h3 => ?_, ?_, ?_, ?_⟩, ⟨q, q1, ?_, fun o ho => ?_⟩, ⟨l, l1, ?_, ?_⟩, fun j o hj h1 h2 => ?_, ⟨m, m1, ?_, fun k hk => ?_⟩, ⟨fun x => if x = c then 1 else fe x, fun x hx => ?_, ?_, ?_⟩, ?_⟩
  · rw [hP j o (by unfold dX6; omega) (by omega) (by omega), ht _ (by omega), if_neg (by omega)]
    exact a1 j o h1 h2 h3
  · rw [hP 0 1 (by unfold dX6; omega) (by omega) (by omega), ht _ (by omega), if_neg (by omega)]
    exact a2
  · rw [hP 0 5 (by unfold dX6; omega) (by omega) (by omega), ht _ (by omega), if_neg (by omega)]
    exact a3
  · rw [hP 0 0 (by unfold dX6; omega) (by omega) (by omega), ht _ (by omega), if_neg (by omega)]
    exact a4
  · rw [hP 0 0 (by unfold dX6; omega) (by omega) (by omega)]
    exact q2
  · rw [hP 1 o (by unfold dX6; omega) (by omega) (by omega), hP 3 o (by unfold dX6; omega) (by omega) (by omega), hP 4 o (by unfold dX6; omega) (by omega) (by omega), hP 5 o (by unfold dX6; omega) (by omega) (by omega)]
    exact q3 o ho
  · rw [ht _ (by omega), if_neg (by omega)]
    exact l2
  · rw [hP 0 4 (by unfold dX6; omega) (by omega) (by omega)]
    exact l3
  · rw [hP j o (by unfold dX6; omega) (by omega) (by omega)]
    exact z j o hj h1 h2
  · rw [hP 0 3 (by unfold dX6; omega) (by omega) (by omega)]
    exact m2
  · rw [ht _ (by omega), if_neg (by omega)]
    exact m3 k hk
  · rw [ht _ (by omega)]
    dsimp only
    by_cases e : x = c
    · rw [if_pos e, if_pos (by omega)]
      exact ⟨by omega, rfl⟩
    · rw [if_neg e, if_neg (by omega)]
      exact f1 x hx
  all_goals
    have hfc : fe c = 0 := by
      have := f1 c hc
      by_cases e : fe c = 1
      · rw [e] at this
        exact absurd this.2 hf
      · omega
    have hsum := sumN_upd (f := fe) (f' := fun x => if x = c then 1 else fe x) (c := c) (fun x hx => if_neg hx) hfc (if_pos rfl) 100
    rw [if_pos hc] at hsum
  · rw [hsum]
    rw [f3] at h12
    simp (disch := omega) only [lt_nl] at h12
    omega
  · rw [hsum, hP2, f3, nI_al]
  · refine thing_set (fen := fun x => t (70 + x)) (th := P 8) hn ?_ hc h0 (fun x hx => ?_) hP8
    · exact thing_sub hn th (fun _ _ => rfl) (fun k hk => by rw [ht _ (by omega), if_neg (by omega)]) (fun _ _ => rfl) (fun _ _ => rfl)
    · rw [ht _ (by omega)]
      by_cases e : x = c
      · rw [if_pos e, if_pos (by omega)]
      · rw [if_neg e, if_neg (by omega)]
theorem fell_st {c u : Nat} (hn : n.2.2.1 ≤ 8 ∧ n.2.2.2 ≤ 12) (h : StateR n s P t) (hc : c < 100) (hu : u < n.2.2.2) (hsc : s (63 + u) = nI c) (hsu : t (58 + u) = 1) (hP8 : ∀ x, x < 100 → P' 8 x = if x = c then 0 else P 8 x) (hP3 : P' 0 3 = P 0 3 &&& (((1 : Int32) <<< (nI u &&& 31)) ^^^ (-1))) (hP : ∀ j x, dX6 j x → j ≠ 8 → ¬ (j = 0 ∧ x = 3) → P' j x = P j x) (ht : ∀ x, x < 172 → t' x = if x = 58 + u then 0 else t x) : StateR n s P' t' := by
  obtain ⟨⟨a1, a2, a3, a4⟩, ⟨q, q1, q2, q3⟩, ⟨l, l1, l2, l3⟩, z, ⟨m, m1, m2, m3⟩, ⟨fe, f1, f2, f3⟩, th⟩ := h
  refine ⟨⟨fun j o h1 h2 h3 => ?_, ?_, ?_, ?_⟩, ⟨q, q1, ?_, fun o ho => ?_⟩, ⟨l, l1, ?_, ?_⟩, fun j o hj h1 h2 => ?_, ⟨m &&& (4095 ^^^ 2 ^ u), clr_lt m1 u, ?_, fun k hk => ?_⟩, ⟨fe, fun x hx => ?_, f2, ?_⟩, ?_⟩
  · rw [hP j o (by unfold dX6; omega) (by omega) (by omega), ht _ (by omega), if_neg (by omega)]
    exact a1 j o h1 h2 h3
  · rw [hP 0 1 (by unfold dX6; omega) (by omega) (by omega), ht _ (by omega), if_neg (by omega)]
    exact a2
  · rw [hP 0 5 (by unfold dX6; omega) (by omega) (by omega), ht _ (by omega), if_neg (by omega)]
    exact a3
  · rw [hP 0 0 (by unfold dX6; omega) (by omega) (by omega), ht _ (by omega), if_neg (by omega)]
    exact a4
  · rw [hP 0 0 (by unfold dX6; omega) (by omega) (by omega)]
    exact q2
  · rw [hP 1 o (by unfold dX6; omega) (by omega) (by omega), hP 3 o (by unfold dX6; omega) (by omega) (by omega), hP 4 o (by unfold dX6; omega) (by omega) (by omega), hP 5 o (by unfold dX6; omega) (by omega) (by omega)]
    exact q3 o ho
  · rw [ht _ (by omega), if_neg (by omega)]
    exact l2
  · rw [hP 0 4 (by unfold dX6; omega) (by omega) (by omega)]
    exact l3
  · rw [hP j o (by unfold dX6; omega) (by omega) (by omega)]
    exact z j o hj h1 h2
  · rw [hP3, m2, clr_bit m1 (by omega)]
  · rw [ht _ (by omega), clr_test hk]
    by_cases e : k = u
    · rw [if_pos e, if_pos (by omega)]
      exact ⟨rfl, fun _ => rfl⟩
    · rw [if_neg e, if_neg (by omega)]
      exact m3 k hk
  · rw [ht _ (by omega), if_neg (by omega)]
    exact f1 x hx
  · rw [hP 0 2 (by unfold dX6; omega) (by omega) (by omega)]
    exact f3
  · refine thing_fell (std := fun k => t (58 + k)) (th := P 8) (c := c) (t := u) hn ?_ hc hu hsu hsc (fun k hk => ?_) hP8
    · exact thing_sub hn th (fun _ _ => rfl) (fun _ _ => rfl) (fun x hx => by rw [ht _ (by omega), if_neg (by omega)]) (fun _ _ => rfl)
    · rw [ht _ (by omega)]
      by_cases e : k = u
      · rw [if_pos e, if_pos (by omega)]
      · rw [if_neg e, if_neg (by omega)]
/-- two places of an owner's rows (3 to 5) set on both sides -/
theorem row_st {o j1 v1 : Nat} (hn : n.2.2.1 ≤ 8 ∧ n.2.2.2 ≤ 12) (h : StateR n s P t) (ho : o < 8) (hj : (j1 = 3 ∧ v1 ≤ 9) ∨ (j1 = 4 ∧ v1 ≤ 7) ∨ (j1 = 5 ∧ v1 ≤ 1)) (hP : ∀ j x, dX6 j x → P' j x = if j = j1 ∧ x = o then nI v1 else P j x) (ht : ∀ x, x < 172 → t' x = if x = 8 * j1 + o - 6 then nI v1 else t x) : StateR n s P' t' := by
  obtain ⟨⟨a1, a2, a3, a4⟩, ⟨q, q1, q2, q3⟩, ⟨l, l1, l2, l3⟩, z, ⟨m, m1, m2, m3⟩, ⟨fe, f1, f2, f3⟩, th⟩ := h
  refine ⟨⟨fun j o' h1 h2 h3 => ?_, ?_, ?_, ?_⟩, ⟨q, q1, ?_, fun o' ho' => ?_⟩, ⟨l, l1, ?_, ?_⟩, fun j o' hj h1 h2 => ?_, ⟨m, m1, ?_, fun k hk => ?_⟩, ⟨fe, fun x hx => ?_, f2, ?_⟩, ?_⟩
  · rw [hP j o' (by unfold dX6; omega), ht _ (by omega)]
    by_cases e : j = j1 ∧ o' = o
    · rw [if_pos e, if_pos (by omega)]
    · rw [if_neg e, if_neg (by omega)]
      exact a1 j o' h1 h2 h3
  · rw [hP 0 1 (by unfold dX6; omega), if_neg (by omega), ht _ (by omega), if_neg (by omega)]
    exact a2
  · rw [hP 0 5 (by unfold dX6; omega), if_neg (by omega), ht _ (by omega), if_neg (by omega)]
    exact a3
  · rw [hP 0 0 (by unfold dX6; omega), if_neg (by omega), ht _ (by omega), if_neg (by omega)]
    exact a4
  · rw [hP 0 0 (by unfold dX6; omega), if_neg (by omega)]
    exact q2
  · obtain ⟨r1, r2, r3, r4⟩ := q3 o' ho'
    rw [hP 1 o' (by unfold dX6; omega), hP 3 o' (by unfold dX6; omega), hP 4 o' (by unfold dX6; omega), hP 5 o' (by unfold dX6; omega), if_neg (show ¬ (1 = j1 ∧ o' = o) by omega)]
    refine ⟨r1, ?_, ?_, ?_⟩
    · by_cases e : 3 = j1 ∧ o' = o
      · rw [if_pos e]
        exact ⟨v1, by omega, rfl⟩
      · rw [if_neg e]
        exact r2
    · by_cases e : 4 = j1 ∧ o' = o
      · rw [if_pos e]
        exact ⟨v1, by omega, rfl⟩
      · rw [if_neg e]
        exact r3
    · by_cases e : 5 = j1 ∧ o' = o
      · rw [if_pos e]
        exact ⟨v1, by omega, rfl⟩
      · rw [if_neg e]
        exact r4
  · rw [ht _ (by omega), if_neg (by omega)]
    exact l2
  · rw [hP 0 4 (by unfold dX6; omega), if_neg (by omega)]
    exact l3
  · rw [hP j o' (by unfold dX6; omega), if_neg (by omega)]
    exact z j o' hj h1 h2
  · rw [hP 0 3 (by unfold dX6; omega), if_neg (by omega)]
    exact m2
  · rw [ht _ (by omega), if_neg (by omega)]
    exact m3 k hk
  · rw [ht _ (by omega), if_neg (by omega)]
    exact f1 x hx
  · rw [hP 0 2 (by unfold dX6; omega), if_neg (by omega)]
    exact f3
  · exact thing_sub hn th (fun _ _ => rfl) (fun k hk => by rw [ht _ (by omega), if_neg (by omega)]) (fun x hx => by rw [ht _ (by omega), if_neg (by omega)]) (fun x hx => by rw [hP 8 x (by unfold dX6; omega), if_neg (by omega)])
end STU
