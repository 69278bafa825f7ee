/-! ## the law's loop, whole -/
theorem zw_none {q : Int × (Int → Int)} {N x4 : Int} {f : Int → Int → Int} {t : (Int → Int) × Nat × Nat × Nat × (Int → Int → Bool)} {v5 v6 : zV} (hR : ZR N f f) (hN : N ≤ 1000000) (h0 : 0 ≤ x4) (h6 : x4 + 6 ≤ q.1) (hL : q.1 ≤ 3072) : zIt q N x4 1287 f t v5 v6 := by
  have w6 : zw (x4 + 6) = x4 + 6 := zw_id (by omega) (by omega)
  unfold zIt zLo
  rw [zb_K_law2_1287, w6]
  exact ⟨_, _, f, _, rfl, ZR_mono (by omega) hR, zTt_refl⟩
theorem zw_any {q : Int × (Int → Int)} {N x4 : Int} {f : Int → Int → Int} {t : (Int → Int) × Nat × Nat × Nat × (Int → Int → Bool)} {v5 v6 : zV} (hR : ZR N f f) (hN : N ≤ 1000000) (h0 : 0 ≤ x4) (h6 : x4 + 6 ≤ q.1) (hL : q.1 ≤ 3072) {x : Int} : zIt q N x4 (zsw 1287 0 37 #[25, 82, 99, 124, 149, 156, 201, 256, 311, 356, 391, 436, 471, 506, 561, 596, 603, 620, 663, 688, 713, 738, 773, 818, 853, 908, 943, 978, 985, 1030, 1083, 1136, 1189, 1234, 1251, 1258, 1263, 1270] x) f t v5 v6 := by
  by_cases c : x < 0 ∨ 37 < x
  · rw [zsw_out c]
    exact zw_none hR hN h0 h6 hL
  · rcases (by omega : x = 0 ∨ x = 1 ∨ x = 2 ∨ x = 3 ∨ x = 4 ∨ x = 5 ∨ x = 6 ∨ x = 7 ∨ x = 8 ∨ x = 9 ∨ x = 10 ∨ x = 11 ∨ x = 12 ∨ x = 13 ∨ x = 14 ∨ x = 15 ∨ x = 16 ∨ x = 17 ∨ x = 18 ∨ x = 19 ∨ x = 20 ∨ x = 21 ∨ x = 22 ∨ x = 23 ∨ x = 24 ∨ x = 25 ∨ x = 26 ∨ x = 27 ∨ x = 28 ∨ x = 29 ∨ x = 30 ∨ x = 31 ∨ x = 32 ∨ x = 33 ∨ x = 34 ∨ x = 35 ∨ x = 36 ∨ x = 37) with rfl | rfl | rfl | rfl | rfl | rfl | rfl | rfl | rfl | rfl | rfl | rfl | rfl | rfl | rfl | rfl | rfl | rfl | rfl | rfl | rfl | rfl | rfl | rfl | rfl | rfl | rfl | rfl | rfl | rfl | rfl | rfl | rfl | rfl | rfl | rfl | rfl | rfl
    · exact zw_0 hR hN h0 h6 hL
    · exact zw_1 hR hN h0 h6 hL
    · exact zw_2 hR hN h0 h6 hL
    · exact zw_3 hR hN h0 h6 hL
    · exact zw_4 hR hN h0 h6 hL
    · exact zw_5 hR hN h0 h6 hL
    · exact zw_6 hR hN h0 h6 hL
    · exact zw_7 hR hN h0 h6 hL
    · exact zw_8 hR hN h0 h6 hL
    · exact zw_9 hR hN h0 h6 hL
    · exact zw_10 hR hN h0 h6 hL
    · exact zw_11 hR hN h0 h6 hL
    · exact zw_12 hR hN h0 h6 hL
    · exact zw_13 hR hN h0 h6 hL
    · exact zw_14 hR hN h0 h6 hL
    · exact zw_15 hR hN h0 h6 hL
    · exact zw_16 hR hN h0 h6 hL
    · exact zw_17 hR hN h0 h6 hL
    · exact zw_18 hR hN h0 h6 hL
    · exact zw_19 hR hN h0 h6 hL
    · exact zw_20 hR hN h0 h6 hL
    · exact zw_21 hR hN h0 h6 hL
    · exact zw_22 hR hN h0 h6 hL
    · exact zw_23 hR hN h0 h6 hL
    · exact zw_24 hR hN h0 h6 hL
    · exact zw_25 hR hN h0 h6 hL
    · exact zw_26 hR hN h0 h6 hL
    · exact zw_27 hR hN h0 h6 hL
    · exact zw_28 hR hN h0 h6 hL
    · exact zw_29 hR hN h0 h6 hL
    · exact zw_30 hR hN h0 h6 hL
    · exact zw_31 hR hN h0 h6 hL
    · exact zw_32 hR hN h0 h6 hL
    · exact zw_33 hR hN h0 h6 hL
    · exact zw_34 hR hN h0 h6 hL
    · exact zw_35 hR hN h0 h6 hL
    · exact zw_36 hR hN h0 h6 hL
    · exact zw_37 hR hN h0 h6 hL
theorem zw_loop {q : Int × (Int → Int)} (h0q : 0 ≤ q.1) (hL : q.1 ≤ 3072) : ∀ (k : Nat) (N x4 : Int) (f : Int → Int → Int) (t : (Int → Int) × Nat × Nat × Nat × (Int → Int → Bool)) (v5 v6 : zV), ZR N f f → N + 240 * k ≤ 1000000 → 0 ≤ x4 → q.1 < x4 + 6 * k + 6 → ∃ σf : zS, zD (true, q) 1900 zc_K_law2 (zat zc_K_law2 13) (zLo x4 v5 v6) [] (f, t) = some ((0, 1, 0), σf) ∧ σf.2.2.1 ≤ t.2.1 + k ∧ σf.2.2.2.1 ≤ t.2.2.1 + 6 * k := by
  intro k
  have ws : zw (q.1 - 6) = q.1 - 6 := zw_id (by omega) (by omega)
  induction k with
  | zero =>
    intro N x4 f t v5 v6 hR hN h0 hx
    refine ⟨(f, t), ?_, Nat.le_refl _, Nat.le_refl _⟩
    unfold zLo
    rw [zb_K_law2_13, ws, if_pos (by omega), zb_K_law2_1289, zG2 (by decide) (by decide)]
  | succ k ih =>
    intro N x4 f t v5 v6 hR hN h0 hx
    by_cases c : q.1 - 6 < x4
    · refine ⟨(f, t), ?_, Nat.le_add_right _ _, Nat.le_add_right _ _⟩
      unfold zLo
      rw [zb_K_law2_13, ws, if_pos c, zb_K_law2_1289, zG2 (by decide) (by decide)]
    · obtain ⟨u5, u6, f2, t2, r2, R2, T2⟩ := zw_any (q := q) (t := t) (v5 := v5) (v6 := v6) (x := zand (q.2 x4) 63) hR (by omega) h0 (by omega) hL
      obtain ⟨σf, r3, e1, e2⟩ := ih (N + 240) (x4 + 6) f2 t2 u5 u6 R2 (by omega) (by omega) (by omega)
      have T21 := T2.1
      have T22 := T2.2
      refine ⟨σf, ?_, by omega, by omega⟩
      rw [← r3, ← r2]
      unfold zLo
      rw [zb_K_law2_13, ws, if_neg c, zb_K_law2_19, zG2 (by omega) (by omega), zb_K_law2_22]

