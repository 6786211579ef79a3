/-! The bank that is half read, on both sides: B the class's rows, s the reference's row, F its fields, M its names. -/
section HB
def HbR (B : Nat → Nat → Int32) (s F : Nat → Int32) (M : Nat → Int64) (W H V T : Nat) : Prop :=
  (W ≤ 10 ∧ H ≤ 10 ∧ V ≤ 8 ∧ T ≤ 12) ∧
  (B 0 1 = nI W ∧ s 0 = nI W) ∧
  (B 0 2 = nI H ∧ s 1 = nI H) ∧
  (B 6 0 = nI V ∧ s 2 = nI V) ∧
  (B 0 3 = nI T ∧ s 3 = nI T) ∧
  ((F 23 = 0 ∧ W = 0) ∨ (F 23 ≠ 0 ∧ W ≠ 0)) ∧
  (B 0 0 = F 19) ∧
  (∃ g, g ≤ 30 ∧ B 0 6 = nI g ∧ s 4 = nI g) ∧
  ((B 0 7 = 0 ∧ F 24 = 0) ∨ (B 0 7 = 1 ∧ F 24 ≠ 0)) ∧
  ((∃ e, e ≤ 99 ∧ B 0 8 = nI e ∧ s 5 = nI e) ∧ ∃ c, c ≤ 999 ∧ B 0 9 = nI c ∧ s 6 = nI c) ∧
  (B 6 1 = F 20) ∧
  (∃ e, e ≤ 8 ∧ B 0 5 = nI e ∧ F 22 = nI e) ∧
  (∀ k, k < V → ∃ c, inY (W, H, V, T) c ∧ B 8 k = nI c ∧ s (7 + k) = nI c) ∧
  (∀ k, k < 8 → ∃ v, v ≤ 999 ∧ B 9 k = nI v ∧ s (15 + k) = nI v ∧ (V ≤ k → v = 0)) ∧
  (∀ k, k < V → ∃ v, 1 ≤ v ∧ v ≤ 99 ∧ B 10 k = nI v ∧ s (23 + k) = nI v) ∧
  (∀ k, k < 8 → ∃ v, v ≤ 9 ∧ B 11 k = nI v ∧ s (31 + k) = nI v ∧ (V ≤ k → v = 0)) ∧
  (∀ k, k < 8 → ∃ v, v ≤ 7 ∧ B 12 k = nI v ∧ s (39 + k) = nI v ∧ (V ≤ k → v = 0)) ∧
  (∀ k, k < 8 → ∃ v, v ≤ V ∧ B 13 k = nI v - 1 ∧ s (47 + k) = nI v ∧ (V ≤ k → v = 0)) ∧
  (∀ k, k < 8 → ∃ v, (v = 0 ∨ inY (W, H, V, T) (v - 1)) ∧ B 14 k = nI v - 1 ∧ s (55 + k) = nI v ∧ (V ≤ k → v = 0)) ∧
  (∀ t, t < T → ∃ c, inY (W, H, V, T) c ∧ B 3 t = nI c ∧ s (63 + t) = nI c) ∧
  (∀ c, c < 100 → ∃ v, v ≤ 7 ∧ B 2 c = nI v ∧ s (75 + c) = nI v) ∧
  (∀ q, q < 48 → ∃ f, f ≤ 9 ∧ B 5 q = nI f ∧ s (223 + q) = nI f ∧ (0 < f → ∃ d, d ≤ 7 ∧ B 4 q = nI d ∧ s (175 + q) = nI d)) ∧
  (∃ fe : Nat → Nat, (∀ c, c < 100 → fe c ≤ 1 ∧ s (271 + c) = nI (fe c)) ∧ sumN fe 100 ≤ 12 ∧ B 0 4 = nI (sumN fe 100) ∧ F 21 = nI (sumN fe 100)) ∧
  (ThingR (W, H, V, T) s (fun _ => 1) (fun c => s (271 + c)) (B 1)) ∧
  (∀ k, k < V → NmR (B 7 k) (M (8 + k)))
variable {B B' : Nat → Nat → Int32} {s s' F F' : Nat → Int32} {M M' : Nat → Int64} {W H V T : Nat}
theorem hb_bd (h : HbR B s F M W H V T) : W ≤ 10 ∧ H ≤ 10 ∧ V ≤ 8 ∧ T ≤ 12 := by
  obtain ⟨z_bd, z_w, z_h, z_o, z_t, z_yd, z_ln, z_g, z_rn, z_re, z_vb, z_ed, z_hm, z_gd, z_sh, z_sk, z_vn, z_pc, z_pl, z_tr, z_ey, z_gu, z_fe, z_th, z_nm⟩ := h
  exact z_bd
theorem hb_w (h : HbR B s F M W H V T) : B 0 1 = nI W ∧ s 0 = nI W := by
  obtain ⟨z_bd, z_w, z_h, z_o, z_t, z_yd, z_ln, z_g, z_rn, z_re, z_vb, z_ed, z_hm, z_gd, z_sh, z_sk, z_vn, z_pc, z_pl, z_tr, z_ey, z_gu, z_fe, z_th, z_nm⟩ := h
  exact z_w
theorem hb_h (h : HbR B s F M W H V T) : B 0 2 = nI H ∧ s 1 = nI H := by
  obtain ⟨z_bd, z_w, z_h, z_o, z_t, z_yd, z_ln, z_g, z_rn, z_re, z_vb, z_ed, z_hm, z_gd, z_sh, z_sk, z_vn, z_pc, z_pl, z_tr, z_ey, z_gu, z_fe, z_th, z_nm⟩ := h
  exact z_h
theorem hb_o (h : HbR B s F M W H V T) : B 6 0 = nI V ∧ s 2 = nI V := by
  obtain ⟨z_bd, z_w, z_h, z_o, z_t, z_yd, z_ln, z_g, z_rn, z_re, z_vb, z_ed, z_hm, z_gd, z_sh, z_sk, z_vn, z_pc, z_pl, z_tr, z_ey, z_gu, z_fe, z_th, z_nm⟩ := h
  exact z_o
theorem hb_t (h : HbR B s F M W H V T) : B 0 3 = nI T ∧ s 3 = nI T := by
  obtain ⟨z_bd, z_w, z_h, z_o, z_t, z_yd, z_ln, z_g, z_rn, z_re, z_vb, z_ed, z_hm, z_gd, z_sh, z_sk, z_vn, z_pc, z_pl, z_tr, z_ey, z_gu, z_fe, z_th, z_nm⟩ := h
  exact z_t
theorem hb_yd (h : HbR B s F M W H V T) : (F 23 = 0 ∧ W = 0) ∨ (F 23 ≠ 0 ∧ W ≠ 0) := by
  obtain ⟨z_bd, z_w, z_h, z_o, z_t, z_yd, z_ln, z_g, z_rn, z_re, z_vb, z_ed, z_hm, z_gd, z_sh, z_sk, z_vn, z_pc, z_pl, z_tr, z_ey, z_gu, z_fe, z_th, z_nm⟩ := h
  exact z_yd
theorem hb_ln (h : HbR B s F M W H V T) : B 0 0 = F 19 := by
  obtain ⟨z_bd, z_w, z_h, z_o, z_t, z_yd, z_ln, z_g, z_rn, z_re, z_vb, z_ed, z_hm, z_gd, z_sh, z_sk, z_vn, z_pc, z_pl, z_tr, z_ey, z_gu, z_fe, z_th, z_nm⟩ := h
  exact z_ln
theorem hb_g (h : HbR B s F M W H V T) : ∃ g, g ≤ 30 ∧ B 0 6 = nI g ∧ s 4 = nI g := by
  obtain ⟨z_bd, z_w, z_h, z_o, z_t, z_yd, z_ln, z_g, z_rn, z_re, z_vb, z_ed, z_hm, z_gd, z_sh, z_sk, z_vn, z_pc, z_pl, z_tr, z_ey, z_gu, z_fe, z_th, z_nm⟩ := h
  exact z_g
theorem hb_rn (h : HbR B s F M W H V T) : (B 0 7 = 0 ∧ F 24 = 0) ∨ (B 0 7 = 1 ∧ F 24 ≠ 0) := by
  obtain ⟨z_bd, z_w, z_h, z_o, z_t, z_yd, z_ln, z_g, z_rn, z_re, z_vb, z_ed, z_hm, z_gd, z_sh, z_sk, z_vn, z_pc, z_pl, z_tr, z_ey, z_gu, z_fe, z_th, z_nm⟩ := h
  exact z_rn
theorem hb_re (h : HbR B s F M W H V T) : (∃ e, e ≤ 99 ∧ B 0 8 = nI e ∧ s 5 = nI e) ∧ ∃ c, c ≤ 999 ∧ B 0 9 = nI c ∧ s 6 = nI c := by
  obtain ⟨z_bd, z_w, z_h, z_o, z_t, z_yd, z_ln, z_g, z_rn, z_re, z_vb, z_ed, z_hm, z_gd, z_sh, z_sk, z_vn, z_pc, z_pl, z_tr, z_ey, z_gu, z_fe, z_th, z_nm⟩ := h
  exact z_re
theorem hb_vb (h : HbR B s F M W H V T) : B 6 1 = F 20 := by
  obtain ⟨z_bd, z_w, z_h, z_o, z_t, z_yd, z_ln, z_g, z_rn, z_re, z_vb, z_ed, z_hm, z_gd, z_sh, z_sk, z_vn, z_pc, z_pl, z_tr, z_ey, z_gu, z_fe, z_th, z_nm⟩ := h
  exact z_vb
theorem hb_ed (h : HbR B s F M W H V T) : ∃ e, e ≤ 8 ∧ B 0 5 = nI e ∧ F 22 = nI e := by
  obtain ⟨z_bd, z_w, z_h, z_o, z_t, z_yd, z_ln, z_g, z_rn, z_re, z_vb, z_ed, z_hm, z_gd, z_sh, z_sk, z_vn, z_pc, z_pl, z_tr, z_ey, z_gu, z_fe, z_th, z_nm⟩ := h
  exact z_ed
theorem hb_hm (h : HbR B s F M W H V T) : ∀ k, k < V → ∃ c, inY (W, H, V, T) c ∧ B 8 k = nI c ∧ s (7 + k) = nI c := by
  obtain ⟨z_bd, z_w, z_h, z_o, z_t, z_yd, z_ln, z_g, z_rn, z_re, z_vb, z_ed, z_hm, z_gd, z_sh, z_sk, z_vn, z_pc, z_pl, z_tr, z_ey, z_gu, z_fe, z_th, z_nm⟩ := h
  exact z_hm
theorem hb_gd (h : HbR B s F M W H V T) : ∀ k, k < 8 → ∃ v, v ≤ 999 ∧ B 9 k = nI v ∧ s (15 + k) = nI v ∧ (V ≤ k → v = 0) := by
  obtain ⟨z_bd, z_w, z_h, z_o, z_t, z_yd, z_ln, z_g, z_rn, z_re, z_vb, z_ed, z_hm, z_gd, z_sh, z_sk, z_vn, z_pc, z_pl, z_tr, z_ey, z_gu, z_fe, z_th, z_nm⟩ := h
  exact z_gd
theorem hb_sh (h : HbR B s F M W H V T) : ∀ k, k < V → ∃ v, 1 ≤ v ∧ v ≤ 99 ∧ B 10 k = nI v ∧ s (23 + k) = nI v := by
  obtain ⟨z_bd, z_w, z_h, z_o, z_t, z_yd, z_ln, z_g, z_rn, z_re, z_vb, z_ed, z_hm, z_gd, z_sh, z_sk, z_vn, z_pc, z_pl, z_tr, z_ey, z_gu, z_fe, z_th, z_nm⟩ := h
  exact z_sh
theorem hb_sk (h : HbR B s F M W H V T) : ∀ k, k < 8 → ∃ v, v ≤ 9 ∧ B 11 k = nI v ∧ s (31 + k) = nI v ∧ (V ≤ k → v = 0) := by
  obtain ⟨z_bd, z_w, z_h, z_o, z_t, z_yd, z_ln, z_g, z_rn, z_re, z_vb, z_ed, z_hm, z_gd, z_sh, z_sk, z_vn, z_pc, z_pl, z_tr, z_ey, z_gu, z_fe, z_th, z_nm⟩ := h
  exact z_sk
theorem hb_vn (h : HbR B s F M W H V T) : ∀ k, k < 8 → ∃ v, v ≤ 7 ∧ B 12 k = nI v ∧ s (39 + k) = nI v ∧ (V ≤ k → v = 0) := by
  obtain ⟨z_bd, z_w, z_h, z_o, z_t, z_yd, z_ln, z_g, z_rn, z_re, z_vb, z_ed, z_hm, z_gd, z_sh, z_sk, z_vn, z_pc, z_pl, z_tr, z_ey, z_gu, z_fe, z_th, z_nm⟩ := h
  exact z_vn
theorem hb_pc (h : HbR B s F M W H V T) : ∀ k, k < 8 → ∃ v, v ≤ V ∧ B 13 k = nI v - 1 ∧ s (47 + k) = nI v ∧ (V ≤ k → v = 0) := by
  obtain ⟨z_bd, z_w, z_h, z_o, z_t, z_yd, z_ln, z_g, z_rn, z_re, z_vb, z_ed, z_hm, z_gd, z_sh, z_sk, z_vn, z_pc, z_pl, z_tr, z_ey, z_gu, z_fe, z_th, z_nm⟩ := h
  exact z_pc
theorem hb_pl (h : HbR B s F M W H V T) : ∀ k, k < 8 → ∃ v, (v = 0 ∨ inY (W, H, V, T) (v - 1)) ∧ B 14 k = nI v - 1 ∧ s (55 + k) = nI v ∧ (V ≤ k → v = 0) := by
  obtain ⟨z_bd, z_w, z_h, z_o, z_t, z_yd, z_ln, z_g, z_rn, z_re, z_vb, z_ed, z_hm, z_gd, z_sh, z_sk, z_vn, z_pc, z_pl, z_tr, z_ey, z_gu, z_fe, z_th, z_nm⟩ := h
  exact z_pl
theorem hb_tr (h : HbR B s F M W H V T) : ∀ t, t < T → ∃ c, inY (W, H, V, T) c ∧ B 3 t = nI c ∧ s (63 + t) = nI c := by
  obtain ⟨z_bd, z_w, z_h, z_o, z_t, z_yd, z_ln, z_g, z_rn, z_re, z_vb, z_ed, z_hm, z_gd, z_sh, z_sk, z_vn, z_pc, z_pl, z_tr, z_ey, z_gu, z_fe, z_th, z_nm⟩ := h
  exact z_tr
theorem hb_ey (h : HbR B s F M W H V T) : ∀ c, c < 100 → ∃ v, v ≤ 7 ∧ B 2 c = nI v ∧ s (75 + c) = nI v := by
  obtain ⟨z_bd, z_w, z_h, z_o, z_t, z_yd, z_ln, z_g, z_rn, z_re, z_vb, z_ed, z_hm, z_gd, z_sh, z_sk, z_vn, z_pc, z_pl, z_tr, z_ey, z_gu, z_fe, z_th, z_nm⟩ := h
  exact z_ey
theorem hb_gu (h : HbR B s F M W H V T) : ∀ q, q < 48 → ∃ f, f ≤ 9 ∧ B 5 q = nI f ∧ s (223 + q) = nI f ∧ (0 < f → ∃ d, d ≤ 7 ∧ B 4 q = nI d ∧ s (175 + q) = nI d) := by
  obtain ⟨z_bd, z_w, z_h, z_o, z_t, z_yd, z_ln, z_g, z_rn, z_re, z_vb, z_ed, z_hm, z_gd, z_sh, z_sk, z_vn, z_pc, z_pl, z_tr, z_ey, z_gu, z_fe, z_th, z_nm⟩ := h
  exact z_gu
theorem hb_fe (h : HbR B s F M W H V T) : ∃ fe : Nat → Nat, (∀ c, c < 100 → fe c ≤ 1 ∧ s (271 + c) = nI (fe c)) ∧ sumN fe 100 ≤ 12 ∧ B 0 4 = nI (sumN fe 100) ∧ F 21 = nI (sumN fe 100) := by
  obtain ⟨z_bd, z_w, z_h, z_o, z_t, z_yd, z_ln, z_g, z_rn, z_re, z_vb, z_ed, z_hm, z_gd, z_sh, z_sk, z_vn, z_pc, z_pl, z_tr, z_ey, z_gu, z_fe, z_th, z_nm⟩ := h
  exact z_fe
theorem hb_th (h : HbR B s F M W H V T) : ThingR (W, H, V, T) s (fun _ => 1) (fun c => s (271 + c)) (B 1) := by
  obtain ⟨z_bd, z_w, z_h, z_o, z_t, z_yd, z_ln, z_g, z_rn, z_re, z_vb, z_ed, z_hm, z_gd, z_sh, z_sk, z_vn, z_pc, z_pl, z_tr, z_ey, z_gu, z_fe, z_th, z_nm⟩ := h
  exact z_th
theorem hb_nm (h : HbR B s F M W H V T) : ∀ k, k < V → NmR (B 7 k) (M (8 + k)) := by
  obtain ⟨z_bd, z_w, z_h, z_o, z_t, z_yd, z_ln, z_g, z_rn, z_re, z_vb, z_ed, z_hm, z_gd, z_sh, z_sk, z_vn, z_pc, z_pl, z_tr, z_ey, z_gu, z_fe, z_th, z_nm⟩ := h
  exact z_nm
theorem thing_c {n : BN} {th th' : Nat → Int32} (h : ThingR n s (fun _ => 1) (fun c => s (271 + c)) th) (hV : n.2.2.1 ≤ 8) (hT : n.2.2.2 ≤ 12) (h1 : ∀ k, k < 8 → s' (7 + k) = s (7 + k)) (h2 : ∀ k, k < 12 → s' (63 + k) = s (63 + k)) (h3 : ∀ c, c < 100 → s' (271 + c) = s (271 + c)) (h4 : ∀ c, c < 100 → th' c = th c) : ThingR n s' (fun _ => 1) (fun c => s' (271 + c)) th' := by
  obtain ⟨a1, a2, a3, a4⟩ := h
  refine ⟨fun k hk c e hc => ?_, fun t ht h1' c e hc => ?_, fun c hc e => ?_, fun c hc e1 e2 e3 => ?_⟩
  · rw [h4 c hc]; exact a1 k hk c (by rw [← h1 k (by omega)]; exact e) hc
  · rw [h4 c hc]; exact a2 t ht h1' c (by rw [← h2 t (by omega)]; exact e) hc
  · rw [h4 c hc]; exact a3 c hc (by show s (271 + c) = 1; rw [← h3 c hc]; exact e)
  · rw [h4 c hc]; exact a4 c hc (fun k hk => by rw [← h1 k (by omega)]; exact e1 k hk) (fun t ht h1' => by rw [← h2 t (by omega)]; exact e2 t ht h1') (by show s (271 + c) ≠ 1; rw [← h3 c hc]; exact e3)
theorem free_th {n : BN} {th : Nat → Int32} (h : ThingR n s (fun _ => 1) (fun c => s (271 + c)) th) (hV : n.2.2.1 ≤ 8) (hT : n.2.2.2 ≤ 12) {c : Nat} (hc : c < 100) : th c = 0 ↔ ((∀ k, k < n.2.2.1 → s (7 + k) ≠ nI c) ∧ (∀ t, t < n.2.2.2 → s (63 + t) ≠ nI c) ∧ s (271 + c) ≠ 1) := by
  obtain ⟨a1, a2, a3, a4⟩ := h
  have nz : ∀ m, 0 < m → m < 100 → (nI m : Int32) ≠ 0 := fun m h1 h2 => by
    simp (disch := omega) only [ne_eq, eq_nl]
    omega
  constructor
  · intro e
    refine ⟨fun k hk q => ?_, fun t ht q => ?_, fun q => ?_⟩
    · exact nz (16 + k) (by omega) (by omega) ((a1 k hk c q hc).symm.trans e)
    · exact nz (32 + t) (by omega) (by omega) ((a2 t ht rfl c q hc).symm.trans e)
    · exact absurd ((a3 c hc q).symm.trans e) (by decide)
  · intro ⟨e1, e2, e3⟩
    exact a4 c hc e1 (fun t ht _ => e2 t ht) e3
theorem hb_end (h : HbR B s F M W H V T)  (hB : ∀ j x, ¬ (j = 0 ∧ x = 0) → B' j x = B j x) (hs : ∀ x, s' x = s x) (hF : ∀ x, 19 ≤ x → x ≤ 24 → x ≠ 19 → F' x = F x) (e1 : B' 0 0 = F' 19) : HbR B' s' F' M W H V T := by
  obtain ⟨z_bd, z_w, z_h, z_o, z_t, z_yd, z_ln, z_g, z_rn, z_re, z_vb, z_ed, z_hm, z_gd, z_sh, z_sk, z_vn, z_pc, z_pl, z_tr, z_ey, z_gu, z_fe, z_th, z_nm⟩ := h
  refine ⟨z_bd, ?_, ?_, ?_, ?_, ?_, ?_, ?_, ?_, ?_, ?_, ?_, ?_, ?_, ?_, ?_, ?_, ?_, ?_, ?_, ?_, ?_, ?_, thing_c z_th (by simp only; omega) (by simp only; omega) (fun kk hkk => hs _ ) (fun kk hkk => hs _ ) (fun kk hkk => hs _ ) (fun kk hkk => hB _ _ (by omega)), ?_⟩
  · simp (disch := omega) only [hB, hs, hF]
    exact z_w
  · simp (disch := omega) only [hB, hs, hF]
    exact z_h
  · simp (disch := omega) only [hB, hs, hF]
    exact z_o
  · simp (disch := omega) only [hB, hs, hF]
    exact z_t
  · simp (disch := omega) only [hB, hs, hF]
    exact z_yd
  · exact e1
  · simp (disch := omega) only [hB, hs, hF]
    exact z_g
  · simp (disch := omega) only [hB, hs, hF]
    exact z_rn
  · simp (disch := omega) only [hB, hs, hF]
    exact z_re
  · simp (disch := omega) only [hB, hs, hF]
    exact z_vb
  · simp (disch := omega) only [hB, hs, hF]
    exact z_ed
  · intro kk hkk
    have q := z_hm kk hkk
    simp (disch := omega) only [hB, hs, hF]
    exact q
  · intro kk hkk
    have q := z_gd kk hkk
    simp (disch := omega) only [hB, hs, hF]
    exact q
  · intro kk hkk
    have q := z_sh kk hkk
    simp (disch := omega) only [hB, hs, hF]
    exact q
  · intro kk hkk
    have q := z_sk kk hkk
    simp (disch := omega) only [hB, hs, hF]
    exact q
  · intro kk hkk
    have q := z_vn kk hkk
    simp (disch := omega) only [hB, hs, hF]
    exact q
  · intro kk hkk
    have q := z_pc kk hkk
    simp (disch := omega) only [hB, hs, hF]
    exact q
  · intro kk hkk
    have q := z_pl kk hkk
    simp (disch := omega) only [hB, hs, hF]
    exact q
  · intro kk hkk
    have q := z_tr kk hkk
    simp (disch := omega) only [hB, hs, hF]
    exact q
  · intro kk hkk
    have q := z_ey kk hkk
    simp (disch := omega) only [hB, hs, hF]
    exact q
  · intro kk hkk
    have q := z_gu kk hkk
    simp (disch := omega) only [hB, hs, hF]
    exact q
  · obtain ⟨fe, f1, f2, f3, f4⟩ := z_fe
    refine ⟨fe, fun c hc => ?_, f2, ?_, ?_⟩
    · simp (disch := omega) only [hB, hs, hF]; exact f1 c hc
    · simp (disch := omega) only [hB, hs, hF]; exact f3
    · simp (disch := omega) only [hB, hs, hF]; exact f4
  · intro kk hkk
    have q := z_nm kk hkk
    simp (disch := omega) only [hB, hs, hF]
    exact q
theorem hb_yard (h : HbR B s F M W H V T) {w hh : Nat} (hW : W = 0) (w1 : 1 ≤ w) (w2 : w ≤ 10) (h2 : hh ≤ 10) (hB : ∀ j x, ¬ (j = 0 ∧ x = 1) → ¬ (j = 0 ∧ x = 2) → B' j x = B j x) (hs : ∀ x, x ≠ 0 → x ≠ 1 → s' x = s x) (hF : ∀ x, 19 ≤ x → x ≤ 24 → x ≠ 23 → F' x = F x) (b1 : B' 0 1 = nI w) (b2 : B' 0 2 = nI hh) (b3 : s' 0 = nI w) (b4 : s' 1 = nI hh) (b5 : F' 23 ≠ 0) : HbR B' s' F' M w hh V T := by
  obtain ⟨z_bd, z_w, z_h, z_o, z_t, z_yd, z_ln, z_g, z_rn, z_re, z_vb, z_ed, z_hm, z_gd, z_sh, z_sk, z_vn, z_pc, z_pl, z_tr, z_ey, z_gu, z_fe, z_th, z_nm⟩ := h
  have hV : V = 0 := by
    rcases Nat.eq_zero_or_pos V with q | q
    · exact q
    · obtain ⟨c, c1, -⟩ := z_hm 0 q
      have := c1.2.1
      simp only [hW] at this
      omega
  have hT : T = 0 := by
    rcases Nat.eq_zero_or_pos T with q | q
    · exact q
    · obtain ⟨c, c1, -⟩ := z_tr 0 q
      have := c1.2.1
      simp only [hW] at this
      omega
  refine ⟨?_, ?_, ?_, ?_, ?_, ?_, ?_, ?_, ?_, ?_, ?_, ?_, ?_, ?_, ?_, ?_, ?_, ?_, ?_, ?_, ?_, ?_, ?_, thing_c z_th (by simp only; omega) (by simp only; omega) (fun kk hkk => hs _ (by omega) (by omega)) (fun kk hkk => hs _ (by omega) (by omega)) (fun kk hkk => hs _ (by omega) (by omega)) (fun kk hkk => hB _ _ (by omega) (by omega)), ?_⟩
  · exact ⟨w2, h2, z_bd.2.2⟩
  · exact ⟨b1, b3⟩
  · exact ⟨b2, b4⟩
  · simp (disch := omega) only [hB, hs, hF]
    exact z_o
  · simp (disch := omega) only [hB, hs, hF]
    exact z_t
  · exact Or.inr ⟨b5, by omega⟩
  · simp (disch := omega) only [hB, hs, hF]
    exact z_ln
  · simp (disch := omega) only [hB, hs, hF]
    exact z_g
  · simp (disch := omega) only [hB, hs, hF]
    exact z_rn
  · simp (disch := omega) only [hB, hs, hF]
    exact z_re
  · simp (disch := omega) only [hB, hs, hF]
    exact z_vb
  · simp (disch := omega) only [hB, hs, hF]
    exact z_ed
  · intro kk hkk
    omega
  · intro kk hkk
    have q := z_gd kk hkk
    simp (disch := omega) only [hB, hs, hF]
    exact q
  · intro kk hkk
    have q := z_sh kk hkk
    simp (disch := omega) only [hB, hs, hF]
    exact q
  · intro kk hkk
    have q := z_sk kk hkk
    simp (disch := omega) only [hB, hs, hF]
    exact q
  · intro kk hkk
    have q := z_vn kk hkk
    simp (disch := omega) only [hB, hs, hF]
    exact q
  · intro kk hkk
    have q := z_pc kk hkk
    simp (disch := omega) only [hB, hs, hF]
    exact q
  · intro kk hkk
    obtain ⟨v, v1, v2, v3, v4⟩ := z_pl kk hkk
    simp (disch := omega) only [hB, hs, hF]
    exact ⟨v, Or.inl (v4 (by omega)), v2, v3, v4⟩
  · intro kk hkk
    omega
  · intro kk hkk
    have q := z_ey kk hkk
    simp (disch := omega) only [hB, hs, hF]
    exact q
  · intro kk hkk
    have q := z_gu kk hkk
    simp (disch := omega) only [hB, hs, hF]
    exact q
  · obtain ⟨fe, f1, f2, f3, f4⟩ := z_fe
    refine ⟨fe, fun c hc => ?_, f2, ?_, ?_⟩
    · simp (disch := omega) only [hB, hs, hF]; exact f1 c hc
    · simp (disch := omega) only [hB, hs, hF]; exact f3
    · simp (disch := omega) only [hB, hs, hF]; exact f4
  · intro kk hkk
    have q := z_nm kk hkk
    simp (disch := omega) only [hB, hs, hF]
    exact q
theorem hb_vane (h : HbR B s F M W H V T) {k d : Nat} (hk : k < V) (hd : d ≤ 7) (hB : ∀ j x, ¬ (j = 6 ∧ x = 1) → ¬ (j = 12 ∧ x = k) → B' j x = B j x) (hs : ∀ x, x ≠ 39 + k → s' x = s x) (hF : ∀ x, 19 ≤ x → x ≤ 24 → x ≠ 20 → F' x = F x) (b1 : B' 6 1 = F' 20) (b2 : B' 12 k = nI d) (b3 : s' (39 + k) = nI d) : HbR B' s' F' M W H V T := by
  obtain ⟨z_bd, z_w, z_h, z_o, z_t, z_yd, z_ln, z_g, z_rn, z_re, z_vb, z_ed, z_hm, z_gd, z_sh, z_sk, z_vn, z_pc, z_pl, z_tr, z_ey, z_gu, z_fe, z_th, z_nm⟩ := h
  obtain ⟨bd1, bd2, bd3, bd4⟩ := id z_bd
  refine ⟨z_bd, ?_, ?_, ?_, ?_, ?_, ?_, ?_, ?_, ?_, ?_, ?_, ?_, ?_, ?_, ?_, ?_, ?_, ?_, ?_, ?_, ?_, ?_, thing_c z_th (by simp only; omega) (by simp only; omega) (fun kk hkk => hs _ (by omega)) (fun kk hkk => hs _ (by omega)) (fun kk hkk => hs _ (by omega)) (fun kk hkk => hB _ _ (by omega) (by omega)), ?_⟩
  · simp (disch := omega) only [hB, hs, hF]
    exact z_w
  · simp (disch := omega) only [hB, hs, hF]
    exact z_h
  · simp (disch := omega) only [hB, hs, hF]
    exact z_o
  · simp (disch := omega) only [hB, hs, hF]
    exact z_t
  · simp (disch := omega) only [hB, hs, hF]
    exact z_yd
  · simp (disch := omega) only [hB, hs, hF]
    exact z_ln
  · simp (disch := omega) only [hB, hs, hF]
    exact z_g
  · simp (disch := omega) only [hB, hs, hF]
    exact z_rn
  · simp (disch := omega) only [hB, hs, hF]
    exact z_re
  · exact b1
  · simp (disch := omega) only [hB, hs, hF]
    exact z_ed
  · intro kk hkk
    have q := z_hm kk hkk
    simp (disch := omega) only [hB, hs, hF]
    exact q
  · intro kk hkk
    have q := z_gd kk hkk
    simp (disch := omega) only [hB, hs, hF]
    exact q
  · intro kk hkk
    have q := z_sh kk hkk
    simp (disch := omega) only [hB, hs, hF]
    exact q
  · intro kk hkk
    have q := z_sk kk hkk
    simp (disch := omega) only [hB, hs, hF]
    exact q
  · intro kk hkk
    by_cases e : kk = k
    · subst e
      exact ⟨d, hd, b2, b3, fun q => by omega⟩
    · have q := z_vn kk (by omega)
      simp (disch := omega) only [hB, hs, hF]
      exact q
  · intro kk hkk
    have q := z_pc kk hkk
    simp (disch := omega) only [hB, hs, hF]
    exact q
  · intro kk hkk
    have q := z_pl kk hkk
    simp (disch := omega) only [hB, hs, hF]
    exact q
  · intro kk hkk
    have q := z_tr kk hkk
    simp (disch := omega) only [hB, hs, hF]
    exact q
  · intro kk hkk
    have q := z_ey kk hkk
    simp (disch := omega) only [hB, hs, hF]
    exact q
  · intro kk hkk
    have q := z_gu kk hkk
    simp (disch := omega) only [hB, hs, hF]
    exact q
  · obtain ⟨fe, f1, f2, f3, f4⟩ := z_fe
    refine ⟨fe, fun c hc => ?_, f2, ?_, ?_⟩
    · simp (disch := omega) only [hB, hs, hF]; exact f1 c hc
    · simp (disch := omega) only [hB, hs, hF]; exact f3
    · simp (disch := omega) only [hB, hs, hF]; exact f4
  · intro kk hkk
    have q := z_nm kk hkk
    simp (disch := omega) only [hB, hs, hF]
    exact q
theorem hb_eddy (h : HbR B s F M W H V T) {c v e : Nat} (hc : c < 100) (hv : v ≤ 7) (he : e ≤ 8) (hB : ∀ j x, ¬ (j = 2 ∧ x = c) → ¬ (j = 0 ∧ x = 5) → B' j x = B j x) (hs : ∀ x, x ≠ 75 + c → s' x = s x) (hF : ∀ x, 19 ≤ x → x ≤ 24 → x ≠ 22 → F' x = F x) (b1 : B' 2 c = nI v) (b2 : s' (75 + c) = nI v) (b3 : B' 0 5 = nI e) (b4 : F' 22 = nI e) : HbR B' s' F' M W H V T := by
  obtain ⟨z_bd, z_w, z_h, z_o, z_t, z_yd, z_ln, z_g, z_rn, z_re, z_vb, z_ed, z_hm, z_gd, z_sh, z_sk, z_vn, z_pc, z_pl, z_tr, z_ey, z_gu, z_fe, z_th, z_nm⟩ := h
  obtain ⟨bd1, bd2, bd3, bd4⟩ := id z_bd
  refine ⟨z_bd, ?_, ?_, ?_, ?_, ?_, ?_, ?_, ?_, ?_, ?_, ?_, ?_, ?_, ?_, ?_, ?_, ?_, ?_, ?_, ?_, ?_, ?_, thing_c z_th (by simp only; omega) (by simp only; omega) (fun kk hkk => hs _ (by omega)) (fun kk hkk => hs _ (by omega)) (fun kk hkk => hs _ (by omega)) (fun kk hkk => hB _ _ (by omega) (by omega)), ?_⟩
  · simp (disch := omega) only [hB, hs, hF]
    exact z_w
  · simp (disch := omega) only [hB, hs, hF]
    exact z_h
  · simp (disch := omega) only [hB, hs, hF]
    exact z_o
  · simp (disch := omega) only [hB, hs, hF]
    exact z_t
  · simp (disch := omega) only [hB, hs, hF]
    exact z_yd
  · simp (disch := omega) only [hB, hs, hF]
    exact z_ln
  · simp (disch := omega) only [hB, hs, hF]
    exact z_g
  · simp (disch := omega) only [hB, hs, hF]
    exact z_rn
  · simp (disch := omega) only [hB, hs, hF]
    exact z_re
  · simp (disch := omega) only [hB, hs, hF]
    exact z_vb
  · exact ⟨e, he, b3, b4⟩
  · intro kk hkk
    have q := z_hm kk hkk
    simp (disch := omega) only [hB, hs, hF]
    exact q
  · intro kk hkk
    have q := z_gd kk hkk
    simp (disch := omega) only [hB, hs, hF]
    exact q
  · intro kk hkk
    have q := z_sh kk hkk
    simp (disch := omega) only [hB, hs, hF]
    exact q
  · intro kk hkk
    have q := z_sk kk hkk
    simp (disch := omega) only [hB, hs, hF]
    exact q
  · intro kk hkk
    have q := z_vn kk hkk
    simp (disch := omega) only [hB, hs, hF]
    exact q
  · intro kk hkk
    have q := z_pc kk hkk
    simp (disch := omega) only [hB, hs, hF]
    exact q
  · intro kk hkk
    have q := z_pl kk hkk
    simp (disch := omega) only [hB, hs, hF]
    exact q
  · intro kk hkk
    have q := z_tr kk hkk
    simp (disch := omega) only [hB, hs, hF]
    exact q
  · intro kk hkk
    by_cases e : kk = c
    · subst e
      exact ⟨v, hv, b1, b2⟩
    · have q := z_ey kk (by omega)
      simp (disch := omega) only [hB, hs, hF]
      exact q
  · intro kk hkk
    have q := z_gu kk hkk
    simp (disch := omega) only [hB, hs, hF]
    exact q
  · obtain ⟨fe, f1, f2, f3, f4⟩ := z_fe
    refine ⟨fe, fun c hc => ?_, f2, ?_, ?_⟩
    · simp (disch := omega) only [hB, hs, hF]; exact f1 c hc
    · simp (disch := omega) only [hB, hs, hF]; exact f3
    · simp (disch := omega) only [hB, hs, hF]; exact f4
  · intro kk hkk
    have q := z_nm kk hkk
    simp (disch := omega) only [hB, hs, hF]
    exact q
theorem hb_gust (h : HbR B s F M W H V T) {p d f g : Nat} (hp : p < 48) (hd : d ≤ 7) (hf : f ≤ 9) (hg : g ≤ 30) (hB : ∀ j x, ¬ (j = 4 ∧ x = p) → ¬ (j = 5 ∧ x = p) → ¬ (j = 0 ∧ x = 6) → B' j x = B j x) (hs : ∀ x, x ≠ 175 + p → x ≠ 223 + p → x ≠ 4 → s' x = s x) (hF : ∀ x, 19 ≤ x → x ≤ 24 → F' x = F x) (b1 : B' 5 p = nI f) (b2 : s' (223 + p) = nI f) (b3 : B' 4 p = nI d) (b4 : s' (175 + p) = nI d) (b5 : B' 0 6 = nI g) (b6 : s' 4 = nI g) : HbR B' s' F' M W H V T := by
  obtain ⟨z_bd, z_w, z_h, z_o, z_t, z_yd, z_ln, z_g, z_rn, z_re, z_vb, z_ed, z_hm, z_gd, z_sh, z_sk, z_vn, z_pc, z_pl, z_tr, z_ey, z_gu, z_fe, z_th, z_nm⟩ := h
  obtain ⟨bd1, bd2, bd3, bd4⟩ := id z_bd
  refine ⟨z_bd, ?_, ?_, ?_, ?_, ?_, ?_, ?_, ?_, ?_, ?_, ?_, ?_, ?_, ?_, ?_, ?_, ?_, ?_, ?_, ?_, ?_, ?_, thing_c z_th (by simp only; omega) (by simp only; omega) (fun kk hkk => hs _ (by omega) (by omega) (by omega)) (fun kk hkk => hs _ (by omega) (by omega) (by omega)) (fun kk hkk => hs _ (by omega) (by omega) (by omega)) (fun kk hkk => hB _ _ (by omega) (by omega) (by omega)), ?_⟩
  · simp (disch := omega) only [hB, hs, hF]
    exact z_w
  · simp (disch := omega) only [hB, hs, hF]
    exact z_h
  · simp (disch := omega) only [hB, hs, hF]
    exact z_o
  · simp (disch := omega) only [hB, hs, hF]
    exact z_t
  · simp (disch := omega) only [hB, hs, hF]
    exact z_yd
  · simp (disch := omega) only [hB, hs, hF]
    exact z_ln
  · exact ⟨g, hg, b5, b6⟩
  · simp (disch := omega) only [hB, hs, hF]
    exact z_rn
  · simp (disch := omega) only [hB, hs, hF]
    exact z_re
  · simp (disch := omega) only [hB, hs, hF]
    exact z_vb
  · simp (disch := omega) only [hB, hs, hF]
    exact z_ed
  · intro kk hkk
    have q := z_hm kk hkk
    simp (disch := omega) only [hB, hs, hF]
    exact q
  · intro kk hkk
    have q := z_gd kk hkk
    simp (disch := omega) only [hB, hs, hF]
    exact q
  · intro kk hkk
    have q := z_sh kk hkk
    simp (disch := omega) only [hB, hs, hF]
    exact q
  · intro kk hkk
    have q := z_sk kk hkk
    simp (disch := omega) only [hB, hs, hF]
    exact q
  · intro kk hkk
    have q := z_vn kk hkk
    simp (disch := omega) only [hB, hs, hF]
    exact q
  · intro kk hkk
    have q := z_pc kk hkk
    simp (disch := omega) only [hB, hs, hF]
    exact q
  · intro kk hkk
    have q := z_pl kk hkk
    simp (disch := omega) only [hB, hs, hF]
    exact q
  · intro kk hkk
    have q := z_tr kk hkk
    simp (disch := omega) only [hB, hs, hF]
    exact q
  · intro kk hkk
    have q := z_ey kk hkk
    simp (disch := omega) only [hB, hs, hF]
    exact q
  · intro kk hkk
    by_cases e : kk = p
    · subst e
      exact ⟨f, hf, b1, b2, fun _ => ⟨d, hd, b3, b4⟩⟩
    · have q := z_gu kk (by omega)
      simp (disch := omega) only [hB, hs, hF]
      exact q
  · obtain ⟨fe, f1, f2, f3, f4⟩ := z_fe
    refine ⟨fe, fun c hc => ?_, f2, ?_, ?_⟩
    · simp (disch := omega) only [hB, hs, hF]; exact f1 c hc
    · simp (disch := omega) only [hB, hs, hF]; exact f3
    · simp (disch := omega) only [hB, hs, hF]; exact f4
  · intro kk hkk
    have q := z_nm kk hkk
    simp (disch := omega) only [hB, hs, hF]
    exact q
theorem hb_pact (h : HbR B s F M W H V T) {k v : Nat} (hk : k < V) (hv : v ≤ V) (hB : ∀ j x, ¬ (j = 13 ∧ x = k) → B' j x = B j x) (hs : ∀ x, x ≠ 47 + k → s' x = s x) (hF : ∀ x, 19 ≤ x → x ≤ 24 → F' x = F x) (b1 : B' 13 k = nI v - 1) (b2 : s' (47 + k) = nI v) : HbR B' s' F' M W H V T := by
  obtain ⟨z_bd, z_w, z_h, z_o, z_t, z_yd, z_ln, z_g, z_rn, z_re, z_vb, z_ed, z_hm, z_gd, z_sh, z_sk, z_vn, z_pc, z_pl, z_tr, z_ey, z_gu, z_fe, z_th, z_nm⟩ := h
  obtain ⟨bd1, bd2, bd3, bd4⟩ := id z_bd
  refine ⟨z_bd, ?_, ?_, ?_, ?_, ?_, ?_, ?_, ?_, ?_, ?_, ?_, ?_, ?_, ?_, ?_, ?_, ?_, ?_, ?_, ?_, ?_, ?_, thing_c z_th (by simp only; omega) (by simp only; omega) (fun kk hkk => hs _ (by omega)) (fun kk hkk => hs _ (by omega)) (fun kk hkk => hs _ (by omega)) (fun kk hkk => hB _ _ (by omega)), ?_⟩
  · simp (disch := omega) only [hB, hs, hF]
    exact z_w
  · simp (disch := omega) only [hB, hs, hF]
    exact z_h
  · simp (disch := omega) only [hB, hs, hF]
    exact z_o
  · simp (disch := omega) only [hB, hs, hF]
    exact z_t
  · simp (disch := omega) only [hB, hs, hF]
    exact z_yd
  · simp (disch := omega) only [hB, hs, hF]
    exact z_ln
  · simp (disch := omega) only [hB, hs, hF]
    exact z_g
  · simp (disch := omega) only [hB, hs, hF]
    exact z_rn
  · simp (disch := omega) only [hB, hs, hF]
    exact z_re
  · simp (disch := omega) only [hB, hs, hF]
    exact z_vb
  · simp (disch := omega) only [hB, hs, hF]
    exact z_ed
  · intro kk hkk
    have q := z_hm kk hkk
    simp (disch := omega) only [hB, hs, hF]
    exact q
  · intro kk hkk
    have q := z_gd kk hkk
    simp (disch := omega) only [hB, hs, hF]
    exact q
  · intro kk hkk
    have q := z_sh kk hkk
    simp (disch := omega) only [hB, hs, hF]
    exact q
  · intro kk hkk
    have q := z_sk kk hkk
    simp (disch := omega) only [hB, hs, hF]
    exact q
  · intro kk hkk
    have q := z_vn kk hkk
    simp (disch := omega) only [hB, hs, hF]
    exact q
  · intro kk hkk
    by_cases e : kk = k
    · subst e
      exact ⟨v, hv, b1, b2, fun q => by omega⟩
    · have q := z_pc kk (by omega)
      simp (disch := omega) only [hB, hs, hF]
      exact q
  · intro kk hkk
    have q := z_pl kk hkk
    simp (disch := omega) only [hB, hs, hF]
    exact q
  · intro kk hkk
    have q := z_tr kk hkk
    simp (disch := omega) only [hB, hs, hF]
    exact q
  · intro kk hkk
    have q := z_ey kk hkk
    simp (disch := omega) only [hB, hs, hF]
    exact q
  · intro kk hkk
    have q := z_gu kk hkk
    simp (disch := omega) only [hB, hs, hF]
    exact q
  · obtain ⟨fe, f1, f2, f3, f4⟩ := z_fe
    refine ⟨fe, fun c hc => ?_, f2, ?_, ?_⟩
    · simp (disch := omega) only [hB, hs, hF]; exact f1 c hc
    · simp (disch := omega) only [hB, hs, hF]; exact f3
    · simp (disch := omega) only [hB, hs, hF]; exact f4
  · intro kk hkk
    have q := z_nm kk hkk
    simp (disch := omega) only [hB, hs, hF]
    exact q
theorem hb_plot (h : HbR B s F M W H V T) {k v : Nat} (hk : k < V) (hv : v = 0 ∨ inY (W, H, V, T) (v - 1)) (hB : ∀ j x, ¬ (j = 14 ∧ x = k) → B' j x = B j x) (hs : ∀ x, x ≠ 55 + k → s' x = s x) (hF : ∀ x, 19 ≤ x → x ≤ 24 → F' x = F x) (b1 : B' 14 k = nI v - 1) (b2 : s' (55 + k) = nI v) : HbR B' s' F' M W H V T := by
  obtain ⟨z_bd, z_w, z_h, z_o, z_t, z_yd, z_ln, z_g, z_rn, z_re, z_vb, z_ed, z_hm, z_gd, z_sh, z_sk, z_vn, z_pc, z_pl, z_tr, z_ey, z_gu, z_fe, z_th, z_nm⟩ := h
  obtain ⟨bd1, bd2, bd3, bd4⟩ := id z_bd
  refine ⟨z_bd, ?_, ?_, ?_, ?_, ?_, ?_, ?_, ?_, ?_, ?_, ?_, ?_, ?_, ?_, ?_, ?_, ?_, ?_, ?_, ?_, ?_, ?_, thing_c z_th (by simp only; omega) (by simp only; omega) (fun kk hkk => hs _ (by omega)) (fun kk hkk => hs _ (by omega)) (fun kk hkk => hs _ (by omega)) (fun kk hkk => hB _ _ (by omega)), ?_⟩
  · simp (disch := omega) only [hB, hs, hF]
    exact z_w
  · simp (disch := omega) only [hB, hs, hF]
    exact z_h
  · simp (disch := omega) only [hB, hs, hF]
    exact z_o
  · simp (disch := omega) only [hB, hs, hF]
    exact z_t
  · simp (disch := omega) only [hB, hs, hF]
    exact z_yd
  · simp (disch := omega) only [hB, hs, hF]
    exact z_ln
  · simp (disch := omega) only [hB, hs, hF]
    exact z_g
  · simp (disch := omega) only [hB, hs, hF]
    exact z_rn
  · simp (disch := omega) only [hB, hs, hF]
    exact z_re
  · simp (disch := omega) only [hB, hs, hF]
    exact z_vb
  · simp (disch := omega) only [hB, hs, hF]
    exact z_ed
  · intro kk hkk
    have q := z_hm kk hkk
    simp (disch := omega) only [hB, hs, hF]
    exact q
  · intro kk hkk
    have q := z_gd kk hkk
    simp (disch := omega) only [hB, hs, hF]
    exact q
  · intro kk hkk
    have q := z_sh kk hkk
    simp (disch := omega) only [hB, hs, hF]
    exact q
  · intro kk hkk
    have q := z_sk kk hkk
    simp (disch := omega) only [hB, hs, hF]
    exact q
  · intro kk hkk
    have q := z_vn kk hkk
    simp (disch := omega) only [hB, hs, hF]
    exact q
  · intro kk hkk
    have q := z_pc kk hkk
    simp (disch := omega) only [hB, hs, hF]
    exact q
  · intro kk hkk
    by_cases e : kk = k
    · subst e
      exact ⟨v, hv, b1, b2, fun q => by omega⟩
    · have q := z_pl kk (by omega)
      simp (disch := omega) only [hB, hs, hF]
      exact q
  · intro kk hkk
    have q := z_tr kk hkk
    simp (disch := omega) only [hB, hs, hF]
    exact q
  · intro kk hkk
    have q := z_ey kk hkk
    simp (disch := omega) only [hB, hs, hF]
    exact q
  · intro kk hkk
    have q := z_gu kk hkk
    simp (disch := omega) only [hB, hs, hF]
    exact q
  · obtain ⟨fe, f1, f2, f3, f4⟩ := z_fe
    refine ⟨fe, fun c hc => ?_, f2, ?_, ?_⟩
    · simp (disch := omega) only [hB, hs, hF]; exact f1 c hc
    · simp (disch := omega) only [hB, hs, hF]; exact f3
    · simp (disch := omega) only [hB, hs, hF]; exact f4
  · intro kk hkk
    have q := z_nm kk hkk
    simp (disch := omega) only [hB, hs, hF]
    exact q
theorem hb_run (h : HbR B s F M W H V T) {e c : Nat} (he : e ≤ 99) (hc : c ≤ 999) (hB : ∀ j x, ¬ (j = 0 ∧ x = 7) → ¬ (j = 0 ∧ x = 8) → ¬ (j = 0 ∧ x = 9) → B' j x = B j x) (hs : ∀ x, x ≠ 5 → x ≠ 6 → s' x = s x) (hF : ∀ x, 19 ≤ x → x ≤ 24 → x ≠ 24 → F' x = F x) (b0 : B' 0 7 = 1) (b1 : B' 0 8 = nI e) (b2 : B' 0 9 = nI c) (b3 : s' 5 = nI e) (b4 : s' 6 = nI c) (b5 : F' 24 ≠ 0) : HbR B' s' F' M W H V T := by
  obtain ⟨z_bd, z_w, z_h, z_o, z_t, z_yd, z_ln, z_g, z_rn, z_re, z_vb, z_ed, z_hm, z_gd, z_sh, z_sk, z_vn, z_pc, z_pl, z_tr, z_ey, z_gu, z_fe, z_th, z_nm⟩ := h
  obtain ⟨bd1, bd2, bd3, bd4⟩ := id z_bd
  refine ⟨z_bd, ?_, ?_, ?_, ?_, ?_, ?_, ?_, ?_, ?_, ?_, ?_, ?_, ?_, ?_, ?_, ?_, ?_, ?_, ?_, ?_, ?_, ?_, thing_c z_th (by simp only; omega) (by simp only; omega) (fun kk hkk => hs _ (by omega) (by omega)) (fun kk hkk => hs _ (by omega) (by omega)) (fun kk hkk => hs _ (by omega) (by omega)) (fun kk hkk => hB _ _ (by omega) (by omega) (by omega)), ?_⟩
  · simp (disch := omega) only [hB, hs, hF]
    exact z_w
  · simp (disch := omega) only [hB, hs, hF]
    exact z_h
  · simp (disch := omega) only [hB, hs, hF]
    exact z_o
  · simp (disch := omega) only [hB, hs, hF]
    exact z_t
  · simp (disch := omega) only [hB, hs, hF]
    exact z_yd
  · simp (disch := omega) only [hB, hs, hF]
    exact z_ln
  · simp (disch := omega) only [hB, hs, hF]
    exact z_g
  · exact Or.inr ⟨b0, b5⟩
  · exact ⟨⟨e, he, b1, b3⟩, c, hc, b2, b4⟩
  · simp (disch := omega) only [hB, hs, hF]
    exact z_vb
  · simp (disch := omega) only [hB, hs, hF]
    exact z_ed
  · intro kk hkk
    have q := z_hm kk hkk
    simp (disch := omega) only [hB, hs, hF]
    exact q
  · intro kk hkk
    have q := z_gd kk hkk
    simp (disch := omega) only [hB, hs, hF]
    exact q
  · intro kk hkk
    have q := z_sh kk hkk
    simp (disch := omega) only [hB, hs, hF]
    exact q
  · intro kk hkk
    have q := z_sk kk hkk
    simp (disch := omega) only [hB, hs, hF]
    exact q
  · intro kk hkk
    have q := z_vn kk hkk
    simp (disch := omega) only [hB, hs, hF]
    exact q
  · intro kk hkk
    have q := z_pc kk hkk
    simp (disch := omega) only [hB, hs, hF]
    exact q
  · intro kk hkk
    have q := z_pl kk hkk
    simp (disch := omega) only [hB, hs, hF]
    exact q
  · intro kk hkk
    have q := z_tr kk hkk
    simp (disch := omega) only [hB, hs, hF]
    exact q
  · intro kk hkk
    have q := z_ey kk hkk
    simp (disch := omega) only [hB, hs, hF]
    exact q
  · intro kk hkk
    have q := z_gu kk hkk
    simp (disch := omega) only [hB, hs, hF]
    exact q
  · obtain ⟨fe, f1, f2, f3, f4⟩ := z_fe
    refine ⟨fe, fun c hc => ?_, f2, ?_, ?_⟩
    · simp (disch := omega) only [hB, hs, hF]; exact f1 c hc
    · simp (disch := omega) only [hB, hs, hF]; exact f3
    · simp (disch := omega) only [hB, hs, hF]; exact f4
  · intro kk hkk
    have q := z_nm kk hkk
    simp (disch := omega) only [hB, hs, hF]
    exact q
theorem hb_tree (h : HbR B s F M W H V T) {c : Nat} (hT : T < 12) (hy : inY (W, H, V, T) c) (hfr : B 1 c = 0) (hB : ∀ j x, ¬ (j = 1 ∧ x = c) → ¬ (j = 3 ∧ x = T) → ¬ (j = 0 ∧ x = 3) → B' j x = B j x) (hs : ∀ x, x ≠ 63 + T → x ≠ 3 → s' x = s x) (hF : ∀ x, 19 ≤ x → x ≤ 24 → F' x = F x) (b1 : B' 1 c = nI (32 + T)) (b2 : B' 3 T = nI c) (b3 : s' (63 + T) = nI c) (b4 : B' 0 3 = nI (T + 1)) (b5 : s' 3 = nI (T + 1)) : HbR B' s' F' M W H V (T + 1) := by
  obtain ⟨z_bd, z_w, z_h, z_o, z_t, z_yd, z_ln, z_g, z_rn, z_re, z_vb, z_ed, z_hm, z_gd, z_sh, z_sk, z_vn, z_pc, z_pl, z_tr, z_ey, z_gu, z_fe, z_th, z_nm⟩ := h
  obtain ⟨bd1, bd2, bd3, bd4⟩ := id z_bd
  have hc := hy.1
  obtain ⟨g1, g2, g3⟩ := (free_th (c := c) z_th bd3 bd4 hc).mp hfr
  have inj : ∀ x, x < 100 → nI c = nI x → c = x := fun x hx e => by rwa [eq_nn (by omega) (by omega)] at e
  refine ⟨?_, ?_, ?_, ?_, ?_, ?_, ?_, ?_, ?_, ?_, ?_, ?_, ?_, ?_, ?_, ?_, ?_, ?_, ?_, ?_, ?_, ?_, ?_, ?_, ?_⟩
  · exact ⟨bd1, bd2, bd3, hT⟩
  · simp (disch := omega) only [hB, hs, hF]
    exact z_w
  · simp (disch := omega) only [hB, hs, hF]
    exact z_h
  · simp (disch := omega) only [hB, hs, hF]
    exact z_o
  · exact ⟨b4, b5⟩
  · simp (disch := omega) only [hB, hs, hF]
    exact z_yd
  · simp (disch := omega) only [hB, hs, hF]
    exact z_ln
  · simp (disch := omega) only [hB, hs, hF]
    exact z_g
  · simp (disch := omega) only [hB, hs, hF]
    exact z_rn
  · simp (disch := omega) only [hB, hs, hF]
    exact z_re
  · simp (disch := omega) only [hB, hs, hF]
    exact z_vb
  · simp (disch := omega) only [hB, hs, hF]
    exact z_ed
  · intro kk hkk
    have q := z_hm kk hkk
    simp (disch := omega) only [hB, hs, hF]
    exact q
  · intro kk hkk
    have q := z_gd kk hkk
    simp (disch := omega) only [hB, hs, hF]
    exact q
  · intro kk hkk
    have q := z_sh kk hkk
    simp (disch := omega) only [hB, hs, hF]
    exact q
  · intro kk hkk
    have q := z_sk kk hkk
    simp (disch := omega) only [hB, hs, hF]
    exact q
  · intro kk hkk
    have q := z_vn kk hkk
    simp (disch := omega) only [hB, hs, hF]
    exact q
  · intro kk hkk
    have q := z_pc kk hkk
    simp (disch := omega) only [hB, hs, hF]
    exact q
  · intro kk hkk
    have q := z_pl kk hkk
    simp (disch := omega) only [hB, hs, hF]
    exact q
  · intro kk hkk
    by_cases e : kk = T
    · subst e
      exact ⟨c, hy, b2, b3⟩
    · have q := z_tr kk (by omega)
      simp (disch := omega) only [hB, hs, hF]
      exact q
  · intro kk hkk
    have q := z_ey kk hkk
    simp (disch := omega) only [hB, hs, hF]
    exact q
  · intro kk hkk
    have q := z_gu kk hkk
    simp (disch := omega) only [hB, hs, hF]
    exact q
  · obtain ⟨fe, f1, f2, f3, f4⟩ := z_fe
    refine ⟨fe, fun c hc => ?_, f2, ?_, ?_⟩
    · simp (disch := omega) only [hB, hs, hF]; exact f1 c hc
    · simp (disch := omega) only [hB, hs, hF]; exact f3
    · simp (disch := omega) only [hB, hs, hF]; exact f4
  · obtain ⟨a1, a2, a3, a4⟩ := z_th
    refine ⟨fun k hk x e hx => ?_, fun t ht h1' x e hx => ?_, fun x hx e => ?_, fun x hx e1 e2 e3 => ?_⟩
    · have hk : k < V := hk
      rw [hs _ (by omega) (by omega)] at e
      have : x ≠ c := fun q => g1 k hk (q ▸ e)
      rw [hB _ _ (by omega) (by omega) (by omega)]
      exact a1 k hk x e hx
    · have ht : t < T + 1 := ht
      by_cases q : t = T
      · subst q
        rw [b3] at e
        rw [← inj x hx e]
        exact b1
      · rw [hs _ (by omega) (by omega)] at e
        have : x ≠ c := fun q' => g2 t (by simp only; omega) (q' ▸ e)
        rw [hB _ _ (by omega) (by omega) (by omega)]
        exact a2 t (by simp only; omega) rfl x e hx
    · have e : s' (271 + x) = 1 := e
      rw [hs _ (by omega) (by omega)] at e
      have : x ≠ c := fun q' => g3 (q' ▸ e)
      rw [hB _ _ (by omega) (by omega) (by omega)]
      exact a3 x hx e
    · have : x ≠ c := fun q => e2 T (Nat.lt_succ_self T) rfl (by rw [b3, q])
      rw [hB _ _ (by omega) (by omega) (by omega)]
      refine a4 x hx (fun k hk => ?_) (fun t ht _ => ?_) ?_
      · have hk : k < V := hk
        rw [← hs _ (by omega) (by omega)]; exact e1 k hk
      · have ht : t < T := ht
        rw [← hs _ (by omega) (by omega)]; exact e2 t (Nat.lt_succ_of_lt ht) rfl
      · show s (271 + x) ≠ 1
        rw [← hs _ (by omega) (by omega)]; exact e3
  · intro kk hkk
    have q := z_nm kk hkk
    simp (disch := omega) only [hB, hs, hF]
    exact q
theorem hb_fence (h : HbR B s F M W H V T) {c : Nat} (hS : F 21 ≠ 12) (hy : inY (W, H, V, T) c) (hfr : B 1 c = 0) (hB : ∀ j x, ¬ (j = 1 ∧ x = c) → ¬ (j = 0 ∧ x = 4) → B' j x = B j x) (hs : ∀ x, x ≠ 271 + c → s' x = s x) (hF : ∀ x, 19 ≤ x → x ≤ 24 → x ≠ 21 → F' x = F x) (b1 : B' 1 c = 48) (b2 : s' (271 + c) = 1) (b3 : B' 0 4 = B 0 4 + 1) (b4 : F' 21 = F 21 + 1) : HbR B' s' F' M W H V T := by
  obtain ⟨z_bd, z_w, z_h, z_o, z_t, z_yd, z_ln, z_g, z_rn, z_re, z_vb, z_ed, z_hm, z_gd, z_sh, z_sk, z_vn, z_pc, z_pl, z_tr, z_ey, z_gu, z_fe, z_th, z_nm⟩ := h
  obtain ⟨bd1, bd2, bd3, bd4⟩ := id z_bd
  have hc := hy.1
  obtain ⟨g1, g2, g3⟩ := (free_th (c := c) z_th bd3 bd4 hc).mp hfr
  have inj : ∀ x, x < 100 → nI c = nI x → c = x := fun x hx e => by rwa [eq_nn (by omega) (by omega)] at e
  refine ⟨z_bd, ?_, ?_, ?_, ?_, ?_, ?_, ?_, ?_, ?_, ?_, ?_, ?_, ?_, ?_, ?_, ?_, ?_, ?_, ?_, ?_, ?_, ?_, ?_, ?_⟩
  · simp (disch := omega) only [hB, hs, hF]
    exact z_w
  · simp (disch := omega) only [hB, hs, hF]
    exact z_h
  · simp (disch := omega) only [hB, hs, hF]
    exact z_o
  · simp (disch := omega) only [hB, hs, hF]
    exact z_t
  · simp (disch := omega) only [hB, hs, hF]
    exact z_yd
  · simp (disch := omega) only [hB, hs, hF]
    exact z_ln
  · simp (disch := omega) only [hB, hs, hF]
    exact z_g
  · simp (disch := omega) only [hB, hs, hF]
    exact z_rn
  · simp (disch := omega) only [hB, hs, hF]
    exact z_re
  · simp (disch := omega) only [hB, hs, hF]
    exact z_vb
  · simp (disch := omega) only [hB, hs, hF]
    exact z_ed
  · intro kk hkk
    have q := z_hm kk hkk
    simp (disch := omega) only [hB, hs, hF]
    exact q
  · intro kk hkk
    have q := z_gd kk hkk
    simp (disch := omega) only [hB, hs, hF]
    exact q
  · intro kk hkk
    have q := z_sh kk hkk
    simp (disch := omega) only [hB, hs, hF]
    exact q
  · intro kk hkk
    have q := z_sk kk hkk
    simp (disch := omega) only [hB, hs, hF]
    exact q
  · intro kk hkk
    have q := z_vn kk hkk
    simp (disch := omega) only [hB, hs, hF]
    exact q
  · intro kk hkk
    have q := z_pc kk hkk
    simp (disch := omega) only [hB, hs, hF]
    exact q
  · intro kk hkk
    have q := z_pl kk hkk
    simp (disch := omega) only [hB, hs, hF]
    exact q
  · intro kk hkk
    have q := z_tr kk hkk
    simp (disch := omega) only [hB, hs, hF]
    exact q
  · intro kk hkk
    have q := z_ey kk hkk
    simp (disch := omega) only [hB, hs, hF]
    exact q
  · intro kk hkk
    have q := z_gu kk hkk
    simp (disch := omega) only [hB, hs, hF]
    exact q
  · obtain ⟨fe, f1, f2, f3, f4⟩ := z_fe
    have e0 : fe c = 0 := by
      have q := f1 c hc
      rw [q.2] at g3
      have : fe c ≠ 1 := fun r => g3 (by rw [r]; rfl)
      omega
    have su := sumN_upd (f := fe) (f' := fun x => if x = c then 1 else fe x) (c := c) (fun x hx => if_neg hx) e0 (if_pos rfl) 100
    rw [if_pos hc] at su
    have n12 : sumN fe 100 ≠ 12 := fun q => hS (by rw [f4, q]; rfl)
    refine ⟨fun x => if x = c then 1 else fe x, fun x hx => ?_, by omega, ?_, ?_⟩
    · by_cases q : x = c
      · subst q
        simp only [if_true]
        exact ⟨Nat.le_refl 1, b2⟩
      · simp only [if_neg q]
        rw [hs _ (by omega)]
        exact f1 x hx
    · rw [su, b3, f3, nI_al]
    · rw [su, b4, f4, nI_al]
  · obtain ⟨a1, a2, a3, a4⟩ := z_th
    refine ⟨fun k hk x e hx => ?_, fun t ht h1' x e hx => ?_, fun x hx e => ?_, fun x hx e1 e2 e3 => ?_⟩
    · have hk : k < V := hk
      rw [hs _ (by omega)] at e
      have : x ≠ c := fun q => g1 k hk (q ▸ e)
      rw [hB _ _ (by omega) (by omega)]
      exact a1 k hk x e hx
    · have ht : t < T := ht
      rw [hs _ (by omega)] at e
      have : x ≠ c := fun q' => g2 t ht (q' ▸ e)
      rw [hB _ _ (by omega) (by omega)]
      exact a2 t ht rfl x e hx
    · by_cases q : x = c
      · rw [q]; exact b1
      · have e : s' (271 + x) = 1 := e
        rw [hs _ (by omega)] at e
        rw [hB _ _ (by omega) (by omega)]
        exact a3 x hx e
    · have : x ≠ c := fun q => e3 (by show s' (271 + x) = 1; rw [q]; exact b2)
      rw [hB _ _ (by omega) (by omega)]
      refine a4 x hx (fun k hk => ?_) (fun t ht _ => ?_) ?_
      · have hk : k < V := hk
        rw [← hs _ (by omega)]; exact e1 k hk
      · have ht : t < T := ht
        rw [← hs _ (by omega)]; exact e2 t ht rfl
      · show s (271 + x) ≠ 1
        rw [← hs _ (by omega)]; exact e3
  · intro kk hkk
    have q := z_nm kk hkk
    simp (disch := omega) only [hB, hs, hF]
    exact q
theorem hb_owner (h : HbR B s F M W H V T) {c g a k : Nat} (hV : V < 8) (hy : inY (W, H, V, T) c) (hfr : B 1 c = 0) (hg : g ≤ 999) (ha : 1 ≤ a) (ha2 : a ≤ 99) (hk : k ≤ 9) (hB : ∀ j x, ¬ (j = 7 ∧ x = V) → ¬ (j = 8 ∧ x = V) → ¬ (j = 9 ∧ x = V) → ¬ (j = 10 ∧ x = V) → ¬ (j = 11 ∧ x = V) → ¬ (j = 1 ∧ x = c) → ¬ (j = 6 ∧ x = 0) → B' j x = B j x) (hs : ∀ x, x ≠ 7 + V → x ≠ 15 + V → x ≠ 23 + V → x ≠ 31 + V → x ≠ 2 → s' x = s x) (hF : ∀ x, 19 ≤ x → x ≤ 24 → F' x = F x) (hM : ∀ x, 8 ≤ x → x ≠ 8 + V → M' x = M x) (b0 : NmR (B' 7 V) (M' (8 + V))) (b1 : B' 1 c = nI (16 + V)) (b2 : B' 8 V = nI c) (b3 : s' (7 + V) = nI c) (b4 : B' 9 V = nI g) (b5 : s' (15 + V) = nI g) (b6 : B' 10 V = nI a) (b7 : s' (23 + V) = nI a) (b8 : B' 11 V = nI k) (b9 : s' (31 + V) = nI k) (b10 : B' 6 0 = nI (V + 1)) (b11 : s' 2 = nI (V + 1)) : HbR B' s' F' M' W H (V + 1) T := by
  obtain ⟨z_bd, z_w, z_h, z_o, z_t, z_yd, z_ln, z_g, z_rn, z_re, z_vb, z_ed, z_hm, z_gd, z_sh, z_sk, z_vn, z_pc, z_pl, z_tr, z_ey, z_gu, z_fe, z_th, z_nm⟩ := h
  obtain ⟨bd1, bd2, bd3, bd4⟩ := id z_bd
  have hc := hy.1
  obtain ⟨g1, g2, g3⟩ := (free_th (c := c) z_th bd3 bd4 hc).mp hfr
  have inj : ∀ x, x < 100 → nI c = nI x → c = x := fun x hx e => by rwa [eq_nn (by omega) (by omega)] at e
  have hB1 : ∀ x, x ≠ c → B' 1 x = B 1 x := fun x hx => hB 1 x (by omega) (by omega) (by omega) (by omega) (by omega) (by omega) (by omega)
  refine ⟨?_, ?_, ?_, ?_, ?_, ?_, ?_, ?_, ?_, ?_, ?_, ?_, ?_, ?_, ?_, ?_, ?_, ?_, ?_, ?_, ?_, ?_, ?_, ?_, ?_⟩
  · exact ⟨bd1, bd2, hV, bd4⟩
  · simp (disch := omega) only [hB, hs, hF, hM]
    exact z_w
  · simp (disch := omega) only [hB, hs, hF, hM]
    exact z_h
  · exact ⟨b10, b11⟩
  · simp (disch := omega) only [hB, hs, hF, hM]
    exact z_t
  · simp (disch := omega) only [hB, hs, hF, hM]
    exact z_yd
  · simp (disch := omega) only [hB, hs, hF, hM]
    exact z_ln
  · simp (disch := omega) only [hB, hs, hF, hM]
    exact z_g
  · simp (disch := omega) only [hB, hs, hF, hM]
    exact z_rn
  · simp (disch := omega) only [hB, hs, hF, hM]
    exact z_re
  · simp (disch := omega) only [hB, hs, hF, hM]
    exact z_vb
  · simp (disch := omega) only [hB, hs, hF, hM]
    exact z_ed
  · intro kk hkk
    by_cases e : kk = V
    · subst e
      exact ⟨c, hy, b2, b3⟩
    · have q := z_hm kk (by omega)
      simp (disch := omega) only [hB, hs, hF, hM]
      exact q
  · intro kk hkk
    by_cases e : kk = V
    · subst e
      exact ⟨g, hg, b4, b5, fun q => by omega⟩
    · obtain ⟨v, v1, v2, v3, v4⟩ := z_gd kk hkk
      simp (disch := omega) only [hB, hs, hF, hM]
      exact ⟨v, v1, v2, v3, fun q => v4 (by omega)⟩
  · intro kk hkk
    by_cases e : kk = V
    · subst e
      exact ⟨a, ha, ha2, b6, b7⟩
    · have q := z_sh kk (by omega)
      simp (disch := omega) only [hB, hs, hF, hM]
      exact q
  · intro kk hkk
    by_cases e : kk = V
    · subst e
      exact ⟨k, hk, b8, b9, fun q => by omega⟩
    · obtain ⟨v, v1, v2, v3, v4⟩ := z_sk kk hkk
      simp (disch := omega) only [hB, hs, hF, hM]
      exact ⟨v, v1, v2, v3, fun q => v4 (by omega)⟩
  · intro kk hkk
    obtain ⟨v, v1, v2, v3, v4⟩ := z_vn kk hkk
    simp (disch := omega) only [hB, hs, hF, hM]
    exact ⟨v, by omega, v2, v3, fun q => v4 (by omega)⟩
  · intro kk hkk
    obtain ⟨v, v1, v2, v3, v4⟩ := z_pc kk hkk
    simp (disch := omega) only [hB, hs, hF, hM]
    exact ⟨v, by omega, v2, v3, fun q => v4 (by omega)⟩
  · intro kk hkk
    obtain ⟨v, v1, v2, v3, v4⟩ := z_pl kk hkk
    simp (disch := omega) only [hB, hs, hF, hM]
    exact ⟨v, v1, v2, v3, fun q => v4 (by omega)⟩
  · intro kk hkk
    have q := z_tr kk hkk
    simp (disch := omega) only [hB, hs, hF, hM]
    exact q
  · intro kk hkk
    have q := z_ey kk hkk
    simp (disch := omega) only [hB, hs, hF, hM]
    exact q
  · intro kk hkk
    have q := z_gu kk hkk
    simp (disch := omega) only [hB, hs, hF, hM]
    exact q
  · obtain ⟨fe, f1, f2, f3, f4⟩ := z_fe
    refine ⟨fe, fun c hc => ?_, f2, ?_, ?_⟩
    · simp (disch := omega) only [hB, hs, hF, hM]; exact f1 c hc
    · simp (disch := omega) only [hB, hs, hF, hM]; exact f3
    · simp (disch := omega) only [hB, hs, hF, hM]; exact f4
  · obtain ⟨a1, a2, a3, a4⟩ := z_th
    refine ⟨fun k hk x e hx => ?_, fun t ht h1' x e hx => ?_, fun x hx e => ?_, fun x hx e1 e2 e3 => ?_⟩
    · have hk : k < V + 1 := hk
      by_cases q : k = V
      · subst q
        rw [b3] at e
        rw [← inj x hx e]
        exact b1
      · rw [hs _ (by omega) (by omega) (by omega) (by omega) (by omega)] at e
        have : x ≠ c := fun q' => g1 k (by simp only; omega) (q' ▸ e)
        rw [hB1 _ this]
        exact a1 k (by simp only; omega) x e hx
    · have ht : t < T := ht
      rw [hs _ (by omega) (by omega) (by omega) (by omega) (by omega)] at e
      have : x ≠ c := fun q' => g2 t ht (q' ▸ e)
      rw [hB1 _ this]
      exact a2 t ht rfl x e hx
    · have e : s' (271 + x) = 1 := e
      rw [hs _ (by omega) (by omega) (by omega) (by omega) (by omega)] at e
      have : x ≠ c := fun q' => g3 (q' ▸ e)
      rw [hB1 _ this]
      exact a3 x hx e
    · have : x ≠ c := fun q => e1 V (Nat.lt_succ_self V) (by rw [b3, q])
      rw [hB1 _ this]
      refine a4 x hx (fun k hk => ?_) (fun t ht _ => ?_) ?_
      · have hk : k < V := hk
        rw [← hs _ (by omega) (by omega) (by omega) (by omega) (by omega)]; exact e1 k (Nat.lt_succ_of_lt hk)
      · have ht : t < T := ht
        rw [← hs _ (by omega) (by omega) (by omega) (by omega) (by omega)]; exact e2 t ht rfl
      · show s (271 + x) ≠ 1
        rw [← hs _ (by omega) (by omega) (by omega) (by omega) (by omega)]; exact e3
  · intro kk hkk
    by_cases e : kk = V
    · subst e
      exact b0
    · have q := z_nm kk (by omega)
      simp (disch := omega) only [hB, hs, hF, hM]
      exact q
end HB
