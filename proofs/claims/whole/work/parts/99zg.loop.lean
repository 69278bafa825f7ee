/-! ## the law's loop -/
theorem r_thrown {q : Int × (Int → Int)} {d : Nat} {f : Int → Int → Int} {t : (Int → Int) × Nat × Nat × Nat × (Int → Int → Bool)} : zM (true, q) d 87 [(20, 1464, 0)] (f, t) = some ((0, f 1464 0, 0), (f, t)) := by
  rw [ze_M_thrown, zb_M_thrown_0]
theorem zcmp_eq {x y : Int} (h : x = y) : zcmp x y = 0 := by
  unfold zcmp
  rw [if_neg (by omega), if_pos h]
def zLo (x4 : Int) (v5 v6 : zV) : List zV := [(8, 0, 0), (19, 0, 0), (20, 1464, 0), (31, 1478, 1), (0, x4, 0), v5, v6]
def zIt (q : Int × (Int → Int)) (N x4 : Int) (pc : Nat) (f : Int → Int → Int) (t : (Int → Int) × Nat × Nat × Nat × (Int → Int → Bool)) (v5 v6 : zV) : Prop := ∃ u5 u6 f2 t2, zD (true, q) 1900 zc_K_law2 (zat zc_K_law2 pc) (zLo x4 v5 v6) [] (f, t) = zD (true, q) 1900 zc_K_law2 (zat zc_K_law2 13) (zLo (x4 + 6) u5 u6) [] (f2, t2) ∧ ZR (N + 240) f2 f2 ∧ zTt t t2

theorem zw_0 {q : Int × (Int → Int)} {N x4 : Int} {f : Int → Int → Int} {t : (Int → Int) × Nat × Nat × Nat × (Int → Int → Bool)} {v5 v6 : zV} (hR : ZR N f f) (hN : N ≤ 1000000) (h0 : 0 ≤ x4) (h6 : x4 + 6 ≤ q.1) (hL : q.1 ≤ 3072) : zIt q N x4 25 f t v5 v6 := by
  have w1 : zw (x4 + 1) = x4 + 1 := zw_id (by omega) (by omega)
  have w2 : zw (x4 + 2) = x4 + 2 := zw_id (by omega) (by omega)
  have w3 : zw (x4 + 3) = x4 + 3 := zw_id (by omega) (by omega)
  have w4 : zw (x4 + 4) = x4 + 4 := zw_id (by omega) (by omega)
  have w5 : zw (x4 + 5) = x4 + 5 := zw_id (by omega) (by omega)
  have w6 : zw (x4 + 6) = x4 + 6 := zw_id (by omega) (by omega)
  unfold zIt zLo
  obtain ⟨v, f1, t1, f2, rk, rm, R2, T2⟩ := (show zOu q N f t 17 [(19, 0, 0), (0, q.2 (x4 + 1), 0), (0, q.2 (x4 + 2), 0), (0, q.2 (x4 + 3), 0), (0, q.2 (x4 + 4), 0), (0, q.2 (x4 + 5), 0)] 18 [(20, 1464, 0), (0, q.2 (x4 + 1), 0), (0, q.2 (x4 + 2), 0), (0, q.2 (x4 + 3), 0), (0, q.2 (x4 + 4), 0), (0, q.2 (x4 + 5), 0)] from (o_feed (q := q) (t := t) hR))
  rw [zb_K_law2_25]
  try simp only [w1, w2, w3, w4, w5]
  rw [zG2 (by omega) (by omega)]
  rw [zb_K_law2_31]
  try simp only [w1, w2, w3, w4, w5]
  rw [zG2 (by omega) (by omega)]
  rw [zb_K_law2_36]
  try simp only [w1, w2, w3, w4, w5]
  rw [zG2 (by omega) (by omega)]
  rw [zb_K_law2_41]
  try simp only [w1, w2, w3, w4, w5]
  rw [zG2 (by omega) (by omega)]
  rw [zb_K_law2_46]
  try simp only [w1, w2, w3, w4, w5]
  rw [zG2 (by omega) (by omega)]
  rw [zb_K_law2_51, rk, zK_i]
  rw [zb_K_law2_52]
  try simp only [w1, w2, w3, w4, w5]
  rw [zG2 (by omega) (by omega)]
  rw [zb_K_law2_58]
  try simp only [w1, w2, w3, w4, w5]
  rw [zG2 (by omega) (by omega)]
  rw [zb_K_law2_63]
  try simp only [w1, w2, w3, w4, w5]
  rw [zG2 (by omega) (by omega)]
  rw [zb_K_law2_68]
  try simp only [w1, w2, w3, w4, w5]
  rw [zG2 (by omega) (by omega)]
  rw [zb_K_law2_73]
  try simp only [w1, w2, w3, w4, w5]
  rw [zG2 (by omega) (by omega)]
  rw [zb_K_law2_78, rm, zK_i]
  rw [zb_K_law2_79, if_pos rfl]
  rw [zb_K_law2_1287, w6]
  exact ⟨_, _, f2, _, rfl, ZR_mono (by omega) R2, T2⟩
theorem zw_1 {q : Int × (Int → Int)} {N x4 : Int} {f : Int → Int → Int} {t : (Int → Int) × Nat × Nat × Nat × (Int → Int → Bool)} {v5 v6 : zV} (hR : ZR N f f) (hN : N ≤ 1000000) (h0 : 0 ≤ x4) (h6 : x4 + 6 ≤ q.1) (hL : q.1 ≤ 3072) : zIt q N x4 82 f t v5 v6 := by
  have w1 : zw (x4 + 1) = x4 + 1 := zw_id (by omega) (by omega)
  have w2 : zw (x4 + 2) = x4 + 2 := zw_id (by omega) (by omega)
  have w3 : zw (x4 + 3) = x4 + 3 := zw_id (by omega) (by omega)
  have w4 : zw (x4 + 4) = x4 + 4 := zw_id (by omega) (by omega)
  have w5 : zw (x4 + 5) = x4 + 5 := zw_id (by omega) (by omega)
  have w6 : zw (x4 + 6) = x4 + 6 := zw_id (by omega) (by omega)
  unfold zIt zLo
  obtain ⟨v, f1, t1, f2, rk, rm, R2, T2⟩ := (show zOu q N f t 19 [(19, 0, 0), (0, q.2 (x4 + 1), 0)] 21 [(20, 1464, 0), (0, q.2 (x4 + 1), 0)] from (o_end (q := q) (t := t) hR))
  rw [zb_K_law2_82]
  try simp only [w1, w2, w3, w4, w5]
  rw [zG2 (by omega) (by omega)]
  rw [zb_K_law2_88, rk, zK_i]
  rw [zb_K_law2_89]
  try simp only [w1, w2, w3, w4, w5]
  rw [zG2 (by omega) (by omega)]
  rw [zb_K_law2_95, rm, zK_i]
  rw [zb_K_law2_96, if_pos rfl]
  rw [zb_K_law2_1287, w6]
  exact ⟨_, _, f2, _, rfl, ZR_mono (by omega) R2, T2⟩
theorem zw_2 {q : Int × (Int → Int)} {N x4 : Int} {f : Int → Int → Int} {t : (Int → Int) × Nat × Nat × Nat × (Int → Int → Bool)} {v5 v6 : zV} (hR : ZR N f f) (hN : N ≤ 1000000) (h0 : 0 ≤ x4) (h6 : x4 + 6 ≤ q.1) (hL : q.1 ≤ 3072) : zIt q N x4 99 f t v5 v6 := by
  have w1 : zw (x4 + 1) = x4 + 1 := zw_id (by omega) (by omega)
  have w2 : zw (x4 + 2) = x4 + 2 := zw_id (by omega) (by omega)
  have w3 : zw (x4 + 3) = x4 + 3 := zw_id (by omega) (by omega)
  have w4 : zw (x4 + 4) = x4 + 4 := zw_id (by omega) (by omega)
  have w5 : zw (x4 + 5) = x4 + 5 := zw_id (by omega) (by omega)
  have w6 : zw (x4 + 6) = x4 + 6 := zw_id (by omega) (by omega)
  unfold zIt zLo
  obtain ⟨code, v, f1, t1, f2, rk, rm, e0, eo, R2, T2⟩ := (show zOw q (N + 240) f t 57 [(19, 0, 0), (31, 1478, 1)] 86 [(20, 1464, 0)] from (o_lines (q := q) (t := t) hR hN))
  rw [zb_K_law2_99, rk, zK_i]
  rw [zb_K_law2_102, rm, zK_i]
  rw [zb_K_law2_105, r_thrown, zK_i]
  rw [zb_K_law2_108, if_pos e0]
  rw [zb_K_law2_112]
  by_cases cz : code = 0
  · rw [if_neg (fun z => z cz), zb_K_law2_114, zG2 (by decide) (by decide), zb_K_law2_117, if_pos (show zcmp ((f2, t1).1 1478 0) v = 0 from zcmp_eq (eo cz)), zb_K_law2_123, w6]
    exact ⟨_, _, f2, _, rfl, R2, T2⟩
  · rw [if_pos cz, zb_K_law2_123, w6]
    exact ⟨_, _, f2, _, rfl, R2, T2⟩
theorem zw_3 {q : Int × (Int → Int)} {N x4 : Int} {f : Int → Int → Int} {t : (Int → Int) × Nat × Nat × Nat × (Int → Int → Bool)} {v5 v6 : zV} (hR : ZR N f f) (hN : N ≤ 1000000) (h0 : 0 ≤ x4) (h6 : x4 + 6 ≤ q.1) (hL : q.1 ≤ 3072) : zIt q N x4 124 f t v5 v6 := by
  have w1 : zw (x4 + 1) = x4 + 1 := zw_id (by omega) (by omega)
  have w2 : zw (x4 + 2) = x4 + 2 := zw_id (by omega) (by omega)
  have w3 : zw (x4 + 3) = x4 + 3 := zw_id (by omega) (by omega)
  have w4 : zw (x4 + 4) = x4 + 4 := zw_id (by omega) (by omega)
  have w5 : zw (x4 + 5) = x4 + 5 := zw_id (by omega) (by omega)
  have w6 : zw (x4 + 6) = x4 + 6 := zw_id (by omega) (by omega)
  unfold zIt zLo
  obtain ⟨code, v, f1, t1, f2, rk, rm, e0, eo, R2, T2⟩ := (show zOw q N f t 96 [(19, 0, 0), (31, 1478, 1)] 97 [(20, 1464, 0)] from (o_law (q := q) (t := t) hR))
  rw [zb_K_law2_124, rk, zK_i]
  rw [zb_K_law2_127, rm, zK_i]
  rw [zb_K_law2_130, r_thrown, zK_i]
  rw [zb_K_law2_133, if_pos e0]
  rw [zb_K_law2_137]
  by_cases cz : code = 0
  · rw [if_neg (fun z => z cz), zb_K_law2_139, zG2 (by decide) (by decide), zb_K_law2_142, if_pos (show zcmp ((f2, t1).1 1478 0) v = 0 from zcmp_eq (eo cz)), zb_K_law2_148, w6]
    exact ⟨_, _, f2, _, rfl, ZR_mono (by omega) R2, T2⟩
  · rw [if_pos cz, zb_K_law2_148, w6]
    exact ⟨_, _, f2, _, rfl, ZR_mono (by omega) R2, T2⟩
theorem zw_4 {q : Int × (Int → Int)} {N x4 : Int} {f : Int → Int → Int} {t : (Int → Int) × Nat × Nat × Nat × (Int → Int → Bool)} {v5 v6 : zV} (hR : ZR N f f) (hN : N ≤ 1000000) (h0 : 0 ≤ x4) (h6 : x4 + 6 ≤ q.1) (hL : q.1 ≤ 3072) : zIt q N x4 149 f t v5 v6 := by
  have w1 : zw (x4 + 1) = x4 + 1 := zw_id (by omega) (by omega)
  have w2 : zw (x4 + 2) = x4 + 2 := zw_id (by omega) (by omega)
  have w3 : zw (x4 + 3) = x4 + 3 := zw_id (by omega) (by omega)
  have w4 : zw (x4 + 4) = x4 + 4 := zw_id (by omega) (by omega)
  have w5 : zw (x4 + 5) = x4 + 5 := zw_id (by omega) (by omega)
  have w6 : zw (x4 + 6) = x4 + 6 := zw_id (by omega) (by omega)
  unfold zIt zLo
  obtain ⟨v, f1, t1, f2, rk, rm, R2, T2⟩ := (show zOu q N f t 98 [(19, 0, 0)] 99 [(20, 1464, 0)] from (o_fault (q := q) (t := t) hR))
  rw [zb_K_law2_149, rk, zK_i]
  rw [zb_K_law2_151, rm, zK_i]
  rw [zb_K_law2_153, if_pos rfl]
  rw [zb_K_law2_1287, w6]
  exact ⟨_, _, f2, _, rfl, ZR_mono (by omega) R2, T2⟩
theorem zw_5 {q : Int × (Int → Int)} {N x4 : Int} {f : Int → Int → Int} {t : (Int → Int) × Nat × Nat × Nat × (Int → Int → Bool)} {v5 v6 : zV} (hR : ZR N f f) (hN : N ≤ 1000000) (h0 : 0 ≤ x4) (h6 : x4 + 6 ≤ q.1) (hL : q.1 ≤ 3072) : zIt q N x4 156 f t v5 v6 := by
  have w1 : zw (x4 + 1) = x4 + 1 := zw_id (by omega) (by omega)
  have w2 : zw (x4 + 2) = x4 + 2 := zw_id (by omega) (by omega)
  have w3 : zw (x4 + 3) = x4 + 3 := zw_id (by omega) (by omega)
  have w4 : zw (x4 + 4) = x4 + 4 := zw_id (by omega) (by omega)
  have w5 : zw (x4 + 5) = x4 + 5 := zw_id (by omega) (by omega)
  have w6 : zw (x4 + 6) = x4 + 6 := zw_id (by omega) (by omega)
  unfold zIt zLo
  obtain ⟨code, v, f1, t1, f2, rk, rm, e0, eo, R2, T2⟩ := (show zOw q N f t 139 [(19, 0, 0), (0, q.2 (x4 + 1), 0), (0, q.2 (x4 + 2), 0), (31, 1478, 1)] 172 [(20, 1464, 0), (0, q.2 (x4 + 1), 0), (0, q.2 (x4 + 2), 0)] from (o_line (q := q) (t := t) hR hN))
  rw [zb_K_law2_156]
  try simp only [w1, w2, w3, w4, w5]
  rw [zG2 (by omega) (by omega)]
  rw [zb_K_law2_162]
  try simp only [w1, w2, w3, w4, w5]
  rw [zG2 (by omega) (by omega)]
  rw [zb_K_law2_167, rk, zK_i]
  rw [zb_K_law2_169]
  try simp only [w1, w2, w3, w4, w5]
  rw [zG2 (by omega) (by omega)]
  rw [zb_K_law2_176]
  try simp only [w1, w2, w3, w4, w5]
  rw [zG2 (by omega) (by omega)]
  rw [zb_K_law2_181, rm, zK_i]
  rw [zb_K_law2_182, r_thrown, zK_i]
  rw [zb_K_law2_185, if_pos e0]
  rw [zb_K_law2_189]
  by_cases cz : code = 0
  · rw [if_neg (fun z => z cz), zb_K_law2_191, zG2 (by decide) (by decide), zb_K_law2_194, if_pos (show zcmp ((f2, t1).1 1478 0) v = 0 from zcmp_eq (eo cz)), zb_K_law2_200, w6]
    exact ⟨_, _, f2, _, rfl, ZR_mono (by omega) R2, T2⟩
  · rw [if_pos cz, zb_K_law2_200, w6]
    exact ⟨_, _, f2, _, rfl, ZR_mono (by omega) R2, T2⟩
theorem zw_6 {q : Int × (Int → Int)} {N x4 : Int} {f : Int → Int → Int} {t : (Int → Int) × Nat × Nat × Nat × (Int → Int → Bool)} {v5 v6 : zV} (hR : ZR N f f) (hN : N ≤ 1000000) (h0 : 0 ≤ x4) (h6 : x4 + 6 ≤ q.1) (hL : q.1 ≤ 3072) : zIt q N x4 201 f t v5 v6 := by
  have w1 : zw (x4 + 1) = x4 + 1 := zw_id (by omega) (by omega)
  have w2 : zw (x4 + 2) = x4 + 2 := zw_id (by omega) (by omega)
  have w3 : zw (x4 + 3) = x4 + 3 := zw_id (by omega) (by omega)
  have w4 : zw (x4 + 4) = x4 + 4 := zw_id (by omega) (by omega)
  have w5 : zw (x4 + 5) = x4 + 5 := zw_id (by omega) (by omega)
  have w6 : zw (x4 + 6) = x4 + 6 := zw_id (by omega) (by omega)
  unfold zIt zLo
  obtain ⟨code, v, f1, t1, f2, rk, rm, e0, eo, R2, T2⟩ := (show zOw q N f t 174 [(19, 0, 0), (0, q.2 (x4 + 1), 0), (0, q.2 (x4 + 2), 0), (0, q.2 (x4 + 3), 0), (31, 1478, 1)] 175 [(20, 1464, 0), (0, q.2 (x4 + 1), 0), (0, q.2 (x4 + 2), 0), (0, q.2 (x4 + 3), 0)] from (o_unit (q := q) (t := t) hR))
  rw [zb_K_law2_201]
  try simp only [w1, w2, w3, w4, w5]
  rw [zG2 (by omega) (by omega)]
  rw [zb_K_law2_207]
  try simp only [w1, w2, w3, w4, w5]
  rw [zG2 (by omega) (by omega)]
  rw [zb_K_law2_212]
  try simp only [w1, w2, w3, w4, w5]
  rw [zG2 (by omega) (by omega)]
  rw [zb_K_law2_217, rk, zK_i]
  rw [zb_K_law2_219]
  try simp only [w1, w2, w3, w4, w5]
  rw [zG2 (by omega) (by omega)]
  rw [zb_K_law2_226]
  try simp only [w1, w2, w3, w4, w5]
  rw [zG2 (by omega) (by omega)]
  rw [zb_K_law2_231]
  try simp only [w1, w2, w3, w4, w5]
  rw [zG2 (by omega) (by omega)]
  rw [zb_K_law2_236, rm, zK_i]
  rw [zb_K_law2_237, r_thrown, zK_i]
  rw [zb_K_law2_240, if_pos e0]
  rw [zb_K_law2_244]
  by_cases cz : code = 0
  · rw [if_neg (fun z => z cz), zb_K_law2_246, zG2 (by decide) (by decide), zb_K_law2_249, if_pos (show zcmp ((f2, t1).1 1478 0) v = 0 from zcmp_eq (eo cz)), zb_K_law2_255, w6]
    exact ⟨_, _, f2, _, rfl, ZR_mono (by omega) R2, T2⟩
  · rw [if_pos cz, zb_K_law2_255, w6]
    exact ⟨_, _, f2, _, rfl, ZR_mono (by omega) R2, T2⟩
theorem zw_7 {q : Int × (Int → Int)} {N x4 : Int} {f : Int → Int → Int} {t : (Int → Int) × Nat × Nat × Nat × (Int → Int → Bool)} {v5 v6 : zV} (hR : ZR N f f) (hN : N ≤ 1000000) (h0 : 0 ≤ x4) (h6 : x4 + 6 ≤ q.1) (hL : q.1 ≤ 3072) : zIt q N x4 256 f t v5 v6 := by
  have w1 : zw (x4 + 1) = x4 + 1 := zw_id (by omega) (by omega)
  have w2 : zw (x4 + 2) = x4 + 2 := zw_id (by omega) (by omega)
  have w3 : zw (x4 + 3) = x4 + 3 := zw_id (by omega) (by omega)
  have w4 : zw (x4 + 4) = x4 + 4 := zw_id (by omega) (by omega)
  have w5 : zw (x4 + 5) = x4 + 5 := zw_id (by omega) (by omega)
  have w6 : zw (x4 + 6) = x4 + 6 := zw_id (by omega) (by omega)
  unfold zIt zLo
  obtain ⟨code, v, f1, t1, f2, rk, rm, e0, eo, R2, T2⟩ := (show zOw q N f t 177 [(19, 0, 0), (0, q.2 (x4 + 1), 0), (0, q.2 (x4 + 2), 0), (0, q.2 (x4 + 3), 0), (31, 1478, 1)] 178 [(20, 1464, 0), (0, q.2 (x4 + 1), 0), (0, q.2 (x4 + 2), 0), (0, q.2 (x4 + 3), 0)] from (o_air (q := q) (t := t) hR))
  rw [zb_K_law2_256]
  try simp only [w1, w2, w3, w4, w5]
  rw [zG2 (by omega) (by omega)]
  rw [zb_K_law2_262]
  try simp only [w1, w2, w3, w4, w5]
  rw [zG2 (by omega) (by omega)]
  rw [zb_K_law2_267]
  try simp only [w1, w2, w3, w4, w5]
  rw [zG2 (by omega) (by omega)]
  rw [zb_K_law2_272, rk, zK_i]
  rw [zb_K_law2_274]
  try simp only [w1, w2, w3, w4, w5]
  rw [zG2 (by omega) (by omega)]
  rw [zb_K_law2_281]
  try simp only [w1, w2, w3, w4, w5]
  rw [zG2 (by omega) (by omega)]
  rw [zb_K_law2_286]
  try simp only [w1, w2, w3, w4, w5]
  rw [zG2 (by omega) (by omega)]
  rw [zb_K_law2_291, rm, zK_i]
  rw [zb_K_law2_292, r_thrown, zK_i]
  rw [zb_K_law2_295, if_pos e0]
  rw [zb_K_law2_299]
  by_cases cz : code = 0
  · rw [if_neg (fun z => z cz), zb_K_law2_301, zG2 (by decide) (by decide), zb_K_law2_304, if_pos (show zcmp ((f2, t1).1 1478 0) v = 0 from zcmp_eq (eo cz)), zb_K_law2_310, w6]
    exact ⟨_, _, f2, _, rfl, ZR_mono (by omega) R2, T2⟩
  · rw [if_pos cz, zb_K_law2_310, w6]
    exact ⟨_, _, f2, _, rfl, ZR_mono (by omega) R2, T2⟩
theorem zw_8 {q : Int × (Int → Int)} {N x4 : Int} {f : Int → Int → Int} {t : (Int → Int) × Nat × Nat × Nat × (Int → Int → Bool)} {v5 v6 : zV} (hR : ZR N f f) (hN : N ≤ 1000000) (h0 : 0 ≤ x4) (h6 : x4 + 6 ≤ q.1) (hL : q.1 ≤ 3072) : zIt q N x4 311 f t v5 v6 := by
  have w1 : zw (x4 + 1) = x4 + 1 := zw_id (by omega) (by omega)
  have w2 : zw (x4 + 2) = x4 + 2 := zw_id (by omega) (by omega)
  have w3 : zw (x4 + 3) = x4 + 3 := zw_id (by omega) (by omega)
  have w4 : zw (x4 + 4) = x4 + 4 := zw_id (by omega) (by omega)
  have w5 : zw (x4 + 5) = x4 + 5 := zw_id (by omega) (by omega)
  have w6 : zw (x4 + 6) = x4 + 6 := zw_id (by omega) (by omega)
  unfold zIt zLo
  obtain ⟨code, v, f1, t1, f2, rk, rm, e0, eo, R2, T2⟩ := (show zOw q N f t 180 [(19, 0, 0), (0, q.2 (x4 + 1), 0), (0, q.2 (x4 + 2), 0), (31, 1478, 1)] 181 [(20, 1464, 0), (0, q.2 (x4 + 1), 0), (0, q.2 (x4 + 2), 0)] from (o_reply (q := q) (t := t) hR))
  rw [zb_K_law2_311]
  try simp only [w1, w2, w3, w4, w5]
  rw [zG2 (by omega) (by omega)]
  rw [zb_K_law2_317]
  try simp only [w1, w2, w3, w4, w5]
  rw [zG2 (by omega) (by omega)]
  rw [zb_K_law2_322, rk, zK_i]
  rw [zb_K_law2_324]
  try simp only [w1, w2, w3, w4, w5]
  rw [zG2 (by omega) (by omega)]
  rw [zb_K_law2_331]
  try simp only [w1, w2, w3, w4, w5]
  rw [zG2 (by omega) (by omega)]
  rw [zb_K_law2_336, rm, zK_i]
  rw [zb_K_law2_337, r_thrown, zK_i]
  rw [zb_K_law2_340, if_pos e0]
  rw [zb_K_law2_344]
  by_cases cz : code = 0
  · rw [if_neg (fun z => z cz), zb_K_law2_346, zG2 (by decide) (by decide), zb_K_law2_349, if_pos (show zcmp ((f2, t1).1 1478 0) v = 0 from zcmp_eq (eo cz)), zb_K_law2_355, w6]
    exact ⟨_, _, f2, _, rfl, ZR_mono (by omega) R2, T2⟩
  · rw [if_pos cz, zb_K_law2_355, w6]
    exact ⟨_, _, f2, _, rfl, ZR_mono (by omega) R2, T2⟩
theorem zw_9 {q : Int × (Int → Int)} {N x4 : Int} {f : Int → Int → Int} {t : (Int → Int) × Nat × Nat × Nat × (Int → Int → Bool)} {v5 v6 : zV} (hR : ZR N f f) (hN : N ≤ 1000000) (h0 : 0 ≤ x4) (h6 : x4 + 6 ≤ q.1) (hL : q.1 ≤ 3072) : zIt q N x4 356 f t v5 v6 := by
  have w1 : zw (x4 + 1) = x4 + 1 := zw_id (by omega) (by omega)
  have w2 : zw (x4 + 2) = x4 + 2 := zw_id (by omega) (by omega)
  have w3 : zw (x4 + 3) = x4 + 3 := zw_id (by omega) (by omega)
  have w4 : zw (x4 + 4) = x4 + 4 := zw_id (by omega) (by omega)
  have w5 : zw (x4 + 5) = x4 + 5 := zw_id (by omega) (by omega)
  have w6 : zw (x4 + 6) = x4 + 6 := zw_id (by omega) (by omega)
  unfold zIt zLo
  obtain ⟨code, v, f1, t1, f2, rk, rm, e0, eo, R2, T2⟩ := (show zOw q (N + 240) f t 185 [(19, 0, 0), (0, q.2 (x4 + 1), 0), (31, 1478, 1)] 187 [(20, 1464, 0), (0, q.2 (x4 + 1), 0)] from (o_ticks (q := q) (t := t) hR hN))
  rw [zb_K_law2_356]
  try simp only [w1, w2, w3, w4, w5]
  rw [zG2 (by omega) (by omega)]
  rw [zb_K_law2_362, rk, zK_i]
  rw [zb_K_law2_364]
  try simp only [w1, w2, w3, w4, w5]
  rw [zG2 (by omega) (by omega)]
  rw [zb_K_law2_371, rm, zK_i]
  rw [zb_K_law2_372, r_thrown, zK_i]
  rw [zb_K_law2_375, if_pos e0]
  rw [zb_K_law2_379]
  by_cases cz : code = 0
  · rw [if_neg (fun z => z cz), zb_K_law2_381, zG2 (by decide) (by decide), zb_K_law2_384, if_pos (show zcmp ((f2, t1).1 1478 0) v = 0 from zcmp_eq (eo cz)), zb_K_law2_390, w6]
    exact ⟨_, _, f2, _, rfl, R2, T2⟩
  · rw [if_pos cz, zb_K_law2_390, w6]
    exact ⟨_, _, f2, _, rfl, R2, T2⟩
theorem zw_10 {q : Int × (Int → Int)} {N x4 : Int} {f : Int → Int → Int} {t : (Int → Int) × Nat × Nat × Nat × (Int → Int → Bool)} {v5 v6 : zV} (hR : ZR N f f) (hN : N ≤ 1000000) (h0 : 0 ≤ x4) (h6 : x4 + 6 ≤ q.1) (hL : q.1 ≤ 3072) : zIt q N x4 391 f t v5 v6 := by
  have w1 : zw (x4 + 1) = x4 + 1 := zw_id (by omega) (by omega)
  have w2 : zw (x4 + 2) = x4 + 2 := zw_id (by omega) (by omega)
  have w3 : zw (x4 + 3) = x4 + 3 := zw_id (by omega) (by omega)
  have w4 : zw (x4 + 4) = x4 + 4 := zw_id (by omega) (by omega)
  have w5 : zw (x4 + 5) = x4 + 5 := zw_id (by omega) (by omega)
  have w6 : zw (x4 + 6) = x4 + 6 := zw_id (by omega) (by omega)
  unfold zIt zLo
  obtain ⟨code, v, f1, t1, f2, rk, rm, e0, eo, R2, T2⟩ := (show zOw q (N + 240) f t 189 [(19, 0, 0), (0, q.2 (x4 + 1), 0), (0, q.2 (x4 + 2), 0), (31, 1478, 1)] 190 [(20, 1464, 0), (0, q.2 (x4 + 1), 0), (0, q.2 (x4 + 2), 0)] from (o_tell (q := q) (t := t) hR hN))
  rw [zb_K_law2_391]
  try simp only [w1, w2, w3, w4, w5]
  rw [zG2 (by omega) (by omega)]
  rw [zb_K_law2_397]
  try simp only [w1, w2, w3, w4, w5]
  rw [zG2 (by omega) (by omega)]
  rw [zb_K_law2_402, rk, zK_i]
  rw [zb_K_law2_404]
  try simp only [w1, w2, w3, w4, w5]
  rw [zG2 (by omega) (by omega)]
  rw [zb_K_law2_411]
  try simp only [w1, w2, w3, w4, w5]
  rw [zG2 (by omega) (by omega)]
  rw [zb_K_law2_416, rm, zK_i]
  rw [zb_K_law2_417, r_thrown, zK_i]
  rw [zb_K_law2_420, if_pos e0]
  rw [zb_K_law2_424]
  by_cases cz : code = 0
  · rw [if_neg (fun z => z cz), zb_K_law2_426, zG2 (by decide) (by decide), zb_K_law2_429, if_pos (show zcmp ((f2, t1).1 1478 0) v = 0 from zcmp_eq (eo cz)), zb_K_law2_435, w6]
    exact ⟨_, _, f2, _, rfl, R2, T2⟩
  · rw [if_pos cz, zb_K_law2_435, w6]
    exact ⟨_, _, f2, _, rfl, R2, T2⟩
theorem zw_11 {q : Int × (Int → Int)} {N x4 : Int} {f : Int → Int → Int} {t : (Int → Int) × Nat × Nat × Nat × (Int → Int → Bool)} {v5 v6 : zV} (hR : ZR N f f) (hN : N ≤ 1000000) (h0 : 0 ≤ x4) (h6 : x4 + 6 ≤ q.1) (hL : q.1 ≤ 3072) : zIt q N x4 436 f t v5 v6 := by
  have w1 : zw (x4 + 1) = x4 + 1 := zw_id (by omega) (by omega)
  have w2 : zw (x4 + 2) = x4 + 2 := zw_id (by omega) (by omega)
  have w3 : zw (x4 + 3) = x4 + 3 := zw_id (by omega) (by omega)
  have w4 : zw (x4 + 4) = x4 + 4 := zw_id (by omega) (by omega)
  have w5 : zw (x4 + 5) = x4 + 5 := zw_id (by omega) (by omega)
  have w6 : zw (x4 + 6) = x4 + 6 := zw_id (by omega) (by omega)
  unfold zIt zLo
  obtain ⟨code, v, f1, t1, f2, rk, rm, e0, eo, R2, T2⟩ := (show zOw q (N + 240) f t 195 [(19, 0, 0), (0, q.2 (x4 + 1), 0), (31, 1478, 1)] 198 [(20, 1464, 0), (0, q.2 (x4 + 1), 0)] from (o_start (q := q) (t := t) hR))
  rw [zb_K_law2_436]
  try simp only [w1, w2, w3, w4, w5]
  rw [zG2 (by omega) (by omega)]
  rw [zb_K_law2_442, rk, zK_i]
  rw [zb_K_law2_444]
  try simp only [w1, w2, w3, w4, w5]
  rw [zG2 (by omega) (by omega)]
  rw [zb_K_law2_451, rm, zK_i]
  rw [zb_K_law2_452, r_thrown, zK_i]
  rw [zb_K_law2_455, if_pos e0]
  rw [zb_K_law2_459]
  by_cases cz : code = 0
  · rw [if_neg (fun z => z cz), zb_K_law2_461, zG2 (by decide) (by decide), zb_K_law2_464, if_pos (show zcmp ((f2, t1).1 1478 0) v = 0 from zcmp_eq (eo cz)), zb_K_law2_470, w6]
    exact ⟨_, _, f2, _, rfl, R2, T2⟩
  · rw [if_pos cz, zb_K_law2_470, w6]
    exact ⟨_, _, f2, _, rfl, R2, T2⟩
theorem zw_12 {q : Int × (Int → Int)} {N x4 : Int} {f : Int → Int → Int} {t : (Int → Int) × Nat × Nat × Nat × (Int → Int → Bool)} {v5 v6 : zV} (hR : ZR N f f) (hN : N ≤ 1000000) (h0 : 0 ≤ x4) (h6 : x4 + 6 ≤ q.1) (hL : q.1 ≤ 3072) : zIt q N x4 471 f t v5 v6 := by
  have w1 : zw (x4 + 1) = x4 + 1 := zw_id (by omega) (by omega)
  have w2 : zw (x4 + 2) = x4 + 2 := zw_id (by omega) (by omega)
  have w3 : zw (x4 + 3) = x4 + 3 := zw_id (by omega) (by omega)
  have w4 : zw (x4 + 4) = x4 + 4 := zw_id (by omega) (by omega)
  have w5 : zw (x4 + 5) = x4 + 5 := zw_id (by omega) (by omega)
  have w6 : zw (x4 + 6) = x4 + 6 := zw_id (by omega) (by omega)
  unfold zIt zLo
  obtain ⟨code, v, f1, t1, f2, rk, rm, e0, eo, R2, T2⟩ := (show zOw q (N + 240) f t 200 [(19, 0, 0), (0, q.2 (x4 + 1), 0), (31, 1478, 1)] 201 [(20, 1464, 0), (0, q.2 (x4 + 1), 0)] from (o_shut (q := q) (t := t) hR))
  rw [zb_K_law2_471]
  try simp only [w1, w2, w3, w4, w5]
  rw [zG2 (by omega) (by omega)]
  rw [zb_K_law2_477, rk, zK_i]
  rw [zb_K_law2_479]
  try simp only [w1, w2, w3, w4, w5]
  rw [zG2 (by omega) (by omega)]
  rw [zb_K_law2_486, rm, zK_i]
  rw [zb_K_law2_487, r_thrown, zK_i]
  rw [zb_K_law2_490, if_pos e0]
  rw [zb_K_law2_494]
  by_cases cz : code = 0
  · rw [if_neg (fun z => z cz), zb_K_law2_496, zG2 (by decide) (by decide), zb_K_law2_499, if_pos (show zcmp ((f2, t1).1 1478 0) v = 0 from zcmp_eq (eo cz)), zb_K_law2_505, w6]
    exact ⟨_, _, f2, _, rfl, R2, T2⟩
  · rw [if_pos cz, zb_K_law2_505, w6]
    exact ⟨_, _, f2, _, rfl, R2, T2⟩
theorem zw_13 {q : Int × (Int → Int)} {N x4 : Int} {f : Int → Int → Int} {t : (Int → Int) × Nat × Nat × Nat × (Int → Int → Bool)} {v5 v6 : zV} (hR : ZR N f f) (hN : N ≤ 1000000) (h0 : 0 ≤ x4) (h6 : x4 + 6 ≤ q.1) (hL : q.1 ≤ 3072) : zIt q N x4 506 f t v5 v6 := by
  have w1 : zw (x4 + 1) = x4 + 1 := zw_id (by omega) (by omega)
  have w2 : zw (x4 + 2) = x4 + 2 := zw_id (by omega) (by omega)
  have w3 : zw (x4 + 3) = x4 + 3 := zw_id (by omega) (by omega)
  have w4 : zw (x4 + 4) = x4 + 4 := zw_id (by omega) (by omega)
  have w5 : zw (x4 + 5) = x4 + 5 := zw_id (by omega) (by omega)
  have w6 : zw (x4 + 6) = x4 + 6 := zw_id (by omega) (by omega)
  unfold zIt zLo
  obtain ⟨code, v, f1, t1, f2, rk, rm, e0, eo, R2, T2⟩ := (show zOw q (N + 240) f t 204 [(19, 0, 0), (0, q.2 (x4 + 1), 0), (0, q.2 (x4 + 2), 0), (0, q.2 (x4 + 3), 0), (31, 1478, 1)] 207 [(20, 1464, 0), (0, q.2 (x4 + 1), 0), (0, q.2 (x4 + 2), 0), (0, q.2 (x4 + 3), 0)] from (o_tune (q := q) (t := t) hR))
  rw [zb_K_law2_506]
  try simp only [w1, w2, w3, w4, w5]
  rw [zG2 (by omega) (by omega)]
  rw [zb_K_law2_512]
  try simp only [w1, w2, w3, w4, w5]
  rw [zG2 (by omega) (by omega)]
  rw [zb_K_law2_517]
  try simp only [w1, w2, w3, w4, w5]
  rw [zG2 (by omega) (by omega)]
  rw [zb_K_law2_522, rk, zK_i]
  rw [zb_K_law2_524]
  try simp only [w1, w2, w3, w4, w5]
  rw [zG2 (by omega) (by omega)]
  rw [zb_K_law2_531]
  try simp only [w1, w2, w3, w4, w5]
  rw [zG2 (by omega) (by omega)]
  rw [zb_K_law2_536]
  try simp only [w1, w2, w3, w4, w5]
  rw [zG2 (by omega) (by omega)]
  rw [zb_K_law2_541, rm, zK_i]
  rw [zb_K_law2_542, r_thrown, zK_i]
  rw [zb_K_law2_545, if_pos e0]
  rw [zb_K_law2_549]
  by_cases cz : code = 0
  · rw [if_neg (fun z => z cz), zb_K_law2_551, zG2 (by decide) (by decide), zb_K_law2_554, if_pos (show zcmp ((f2, t1).1 1478 0) v = 0 from zcmp_eq (eo cz)), zb_K_law2_560, w6]
    exact ⟨_, _, f2, _, rfl, R2, T2⟩
  · rw [if_pos cz, zb_K_law2_560, w6]
    exact ⟨_, _, f2, _, rfl, R2, T2⟩
theorem zw_14 {q : Int × (Int → Int)} {N x4 : Int} {f : Int → Int → Int} {t : (Int → Int) × Nat × Nat × Nat × (Int → Int → Bool)} {v5 v6 : zV} (hR : ZR N f f) (hN : N ≤ 1000000) (h0 : 0 ≤ x4) (h6 : x4 + 6 ≤ q.1) (hL : q.1 ≤ 3072) : zIt q N x4 561 f t v5 v6 := by
  have w1 : zw (x4 + 1) = x4 + 1 := zw_id (by omega) (by omega)
  have w2 : zw (x4 + 2) = x4 + 2 := zw_id (by omega) (by omega)
  have w3 : zw (x4 + 3) = x4 + 3 := zw_id (by omega) (by omega)
  have w4 : zw (x4 + 4) = x4 + 4 := zw_id (by omega) (by omega)
  have w5 : zw (x4 + 5) = x4 + 5 := zw_id (by omega) (by omega)
  have w6 : zw (x4 + 6) = x4 + 6 := zw_id (by omega) (by omega)
  unfold zIt zLo
  obtain ⟨code, v, f1, t1, f2, rk, rm, e0, eo, R2, T2⟩ := (show zOw q N f t 210 [(19, 0, 0), (0, q.2 (x4 + 1), 0), (31, 1478, 1)] 212 [(20, 1464, 0), (0, q.2 (x4 + 1), 0)] from (o_chance (q := q) (t := t) hR))
  rw [zb_K_law2_561]
  try simp only [w1, w2, w3, w4, w5]
  rw [zG2 (by omega) (by omega)]
  rw [zb_K_law2_567, rk, zK_i]
  rw [zb_K_law2_569]
  try simp only [w1, w2, w3, w4, w5]
  rw [zG2 (by omega) (by omega)]
  rw [zb_K_law2_576, rm, zK_i]
  rw [zb_K_law2_577, r_thrown, zK_i]
  rw [zb_K_law2_580, if_pos e0]
  rw [zb_K_law2_584]
  by_cases cz : code = 0
  · rw [if_neg (fun z => z cz), zb_K_law2_586, zG2 (by decide) (by decide), zb_K_law2_589, if_pos (show zcmp ((f2, t1).1 1478 0) v = 0 from zcmp_eq (eo cz)), zb_K_law2_595, w6]
    exact ⟨_, _, f2, _, rfl, ZR_mono (by omega) R2, T2⟩
  · rw [if_pos cz, zb_K_law2_595, w6]
    exact ⟨_, _, f2, _, rfl, ZR_mono (by omega) R2, T2⟩
theorem zw_15 {q : Int × (Int → Int)} {N x4 : Int} {f : Int → Int → Int} {t : (Int → Int) × Nat × Nat × Nat × (Int → Int → Bool)} {v5 v6 : zV} (hR : ZR N f f) (hN : N ≤ 1000000) (h0 : 0 ≤ x4) (h6 : x4 + 6 ≤ q.1) (hL : q.1 ≤ 3072) : zIt q N x4 596 f t v5 v6 := by
  have w1 : zw (x4 + 1) = x4 + 1 := zw_id (by omega) (by omega)
  have w2 : zw (x4 + 2) = x4 + 2 := zw_id (by omega) (by omega)
  have w3 : zw (x4 + 3) = x4 + 3 := zw_id (by omega) (by omega)
  have w4 : zw (x4 + 4) = x4 + 4 := zw_id (by omega) (by omega)
  have w5 : zw (x4 + 5) = x4 + 5 := zw_id (by omega) (by omega)
  have w6 : zw (x4 + 6) = x4 + 6 := zw_id (by omega) (by omega)
  unfold zIt zLo
  obtain ⟨v, f1, t1, f2, rk, rm, R2, T2⟩ := (show zOu q N f t 216 [(19, 0, 0)] 218 [(20, 1464, 0)] from (o_clear (q := q) (t := t) hR hN))
  rw [zb_K_law2_596, rk, zK_i]
  rw [zb_K_law2_598, rm, zK_i]
  rw [zb_K_law2_600, if_pos rfl]
  rw [zb_K_law2_1287, w6]
  exact ⟨_, _, f2, _, rfl, ZR_mono (by omega) R2, T2⟩
theorem zw_16 {q : Int × (Int → Int)} {N x4 : Int} {f : Int → Int → Int} {t : (Int → Int) × Nat × Nat × Nat × (Int → Int → Bool)} {v5 v6 : zV} (hR : ZR N f f) (hN : N ≤ 1000000) (h0 : 0 ≤ x4) (h6 : x4 + 6 ≤ q.1) (hL : q.1 ≤ 3072) : zIt q N x4 603 f t v5 v6 := by
  have w1 : zw (x4 + 1) = x4 + 1 := zw_id (by omega) (by omega)
  have w2 : zw (x4 + 2) = x4 + 2 := zw_id (by omega) (by omega)
  have w3 : zw (x4 + 3) = x4 + 3 := zw_id (by omega) (by omega)
  have w4 : zw (x4 + 4) = x4 + 4 := zw_id (by omega) (by omega)
  have w5 : zw (x4 + 5) = x4 + 5 := zw_id (by omega) (by omega)
  have w6 : zw (x4 + 6) = x4 + 6 := zw_id (by omega) (by omega)
  unfold zIt zLo
  obtain ⟨v, f1, t1, f2, rk, rm, R2, T2⟩ := (show zOu q N f t 223 [(19, 0, 0), (0, q.2 (x4 + 1), 0)] 226 [(20, 1464, 0), (0, q.2 (x4 + 1), 0)] from (o_split (q := q) (t := t) hR))
  rw [zb_K_law2_603]
  try simp only [w1, w2, w3, w4, w5]
  rw [zG2 (by omega) (by omega)]
  rw [zb_K_law2_609, rk, zK_i]
  rw [zb_K_law2_610]
  try simp only [w1, w2, w3, w4, w5]
  rw [zG2 (by omega) (by omega)]
  rw [zb_K_law2_616, rm, zK_i]
  rw [zb_K_law2_617, if_pos rfl]
  rw [zb_K_law2_1287, w6]
  exact ⟨_, _, f2, _, rfl, ZR_mono (by omega) R2, T2⟩
theorem zw_17 {q : Int × (Int → Int)} {N x4 : Int} {f : Int → Int → Int} {t : (Int → Int) × Nat × Nat × Nat × (Int → Int → Bool)} {v5 v6 : zV} (hR : ZR N f f) (hN : N ≤ 1000000) (h0 : 0 ≤ x4) (h6 : x4 + 6 ≤ q.1) (hL : q.1 ≤ 3072) : zIt q N x4 620 f t v5 v6 := by
  have w1 : zw (x4 + 1) = x4 + 1 := zw_id (by omega) (by omega)
  have w2 : zw (x4 + 2) = x4 + 2 := zw_id (by omega) (by omega)
  have w3 : zw (x4 + 3) = x4 + 3 := zw_id (by omega) (by omega)
  have w4 : zw (x4 + 4) = x4 + 4 := zw_id (by omega) (by omega)
  have w5 : zw (x4 + 5) = x4 + 5 := zw_id (by omega) (by omega)
  have w6 : zw (x4 + 6) = x4 + 6 := zw_id (by omega) (by omega)
  unfold zIt zLo
  by_cases cb : q.2 (x4 + 1) = 0
  · obtain ⟨code, v, f1, t1, f2, rk, rm, e0, eo, R2, T2⟩ := (show zOw q N f t 228 [(19, 0, 0), (0, 0, 0), (31, 1478, 1)] 229 [(20, 1464, 0), (0, 0, 0)] from (o_takes (q := q) (t := t) hR))
    rw [zb_K_law2_620]
    try simp only [w1, w2, w3, w4, w5]
    rw [zG2 (by omega) (by omega)]
    rw [zb_K_law2_626, if_pos cb]
    rw [zb_K_law2_629, rk, zK_i]
    rw [zb_K_law2_632]
    try simp only [w1, w2, w3, w4, w5]
    rw [zG2 (by omega) (by omega)]
    rw [zb_K_law2_639, if_pos cb]
    rw [zb_K_law2_642, rm, zK_i]
    rw [zb_K_law2_644, r_thrown, zK_i]
    rw [zb_K_law2_647, if_pos e0]
    rw [zb_K_law2_651]
    by_cases cz : code = 0
    · rw [if_neg (fun z => z cz), zb_K_law2_653, zG2 (by decide) (by decide), zb_K_law2_656, if_pos (show zcmp ((f2, t1).1 1478 0) v = 0 from zcmp_eq (eo cz)), zb_K_law2_662, w6]
      exact ⟨_, _, f2, _, rfl, ZR_mono (by omega) R2, T2⟩
    · rw [if_pos cz, zb_K_law2_662, w6]
      exact ⟨_, _, f2, _, rfl, ZR_mono (by omega) R2, T2⟩
  · obtain ⟨code, v, f1, t1, f2, rk, rm, e0, eo, R2, T2⟩ := (show zOw q N f t 228 [(19, 0, 0), (0, 1, 0), (31, 1478, 1)] 229 [(20, 1464, 0), (0, 1, 0)] from (o_takes (q := q) (t := t) hR))
    rw [zb_K_law2_620]
    try simp only [w1, w2, w3, w4, w5]
    rw [zG2 (by omega) (by omega)]
    rw [zb_K_law2_626, if_neg cb]
    rw [zb_K_law2_627, rk, zK_i]
    rw [zb_K_law2_632]
    try simp only [w1, w2, w3, w4, w5]
    rw [zG2 (by omega) (by omega)]
    rw [zb_K_law2_639, if_neg cb]
    rw [zb_K_law2_640, rm, zK_i]
    rw [zb_K_law2_644, r_thrown, zK_i]
    rw [zb_K_law2_647, if_pos e0]
    rw [zb_K_law2_651]
    by_cases cz : code = 0
    · rw [if_neg (fun z => z cz), zb_K_law2_653, zG2 (by decide) (by decide), zb_K_law2_656, if_pos (show zcmp ((f2, t1).1 1478 0) v = 0 from zcmp_eq (eo cz)), zb_K_law2_662, w6]
      exact ⟨_, _, f2, _, rfl, ZR_mono (by omega) R2, T2⟩
    · rw [if_pos cz, zb_K_law2_662, w6]
      exact ⟨_, _, f2, _, rfl, ZR_mono (by omega) R2, T2⟩
theorem zw_18 {q : Int × (Int → Int)} {N x4 : Int} {f : Int → Int → Int} {t : (Int → Int) × Nat × Nat × Nat × (Int → Int → Bool)} {v5 v6 : zV} (hR : ZR N f f) (hN : N ≤ 1000000) (h0 : 0 ≤ x4) (h6 : x4 + 6 ≤ q.1) (hL : q.1 ≤ 3072) : zIt q N x4 663 f t v5 v6 := by
  have w1 : zw (x4 + 1) = x4 + 1 := zw_id (by omega) (by omega)
  have w2 : zw (x4 + 2) = x4 + 2 := zw_id (by omega) (by omega)
  have w3 : zw (x4 + 3) = x4 + 3 := zw_id (by omega) (by omega)
  have w4 : zw (x4 + 4) = x4 + 4 := zw_id (by omega) (by omega)
  have w5 : zw (x4 + 5) = x4 + 5 := zw_id (by omega) (by omega)
  have w6 : zw (x4 + 6) = x4 + 6 := zw_id (by omega) (by omega)
  unfold zIt zLo
  obtain ⟨code, v, f1, t1, f2, rk, rm, e0, eo, R2, T2⟩ := (show zOw q N f t 237 [(19, 0, 0), (31, 1478, 1)] 243 [(20, 1464, 0)] from (o_period (q := q) (t := t) hR))
  rw [zb_K_law2_663, rk, zK_i]
  rw [zb_K_law2_666, rm, zK_i]
  rw [zb_K_law2_669, r_thrown, zK_i]
  rw [zb_K_law2_672, if_pos e0]
  rw [zb_K_law2_676]
  by_cases cz : code = 0
  · rw [if_neg (fun z => z cz), zb_K_law2_678, zG2 (by decide) (by decide), zb_K_law2_681, if_pos (show zcmp ((f2, t1).1 1478 0) v = 0 from zcmp_eq (eo cz)), zb_K_law2_687, w6]
    exact ⟨_, _, f2, _, rfl, ZR_mono (by omega) R2, T2⟩
  · rw [if_pos cz, zb_K_law2_687, w6]
    exact ⟨_, _, f2, _, rfl, ZR_mono (by omega) R2, T2⟩
theorem zw_19 {q : Int × (Int → Int)} {N x4 : Int} {f : Int → Int → Int} {t : (Int → Int) × Nat × Nat × Nat × (Int → Int → Bool)} {v5 v6 : zV} (hR : ZR N f f) (hN : N ≤ 1000000) (h0 : 0 ≤ x4) (h6 : x4 + 6 ≤ q.1) (hL : q.1 ≤ 3072) : zIt q N x4 688 f t v5 v6 := by
  have w1 : zw (x4 + 1) = x4 + 1 := zw_id (by omega) (by omega)
  have w2 : zw (x4 + 2) = x4 + 2 := zw_id (by omega) (by omega)
  have w3 : zw (x4 + 3) = x4 + 3 := zw_id (by omega) (by omega)
  have w4 : zw (x4 + 4) = x4 + 4 := zw_id (by omega) (by omega)
  have w5 : zw (x4 + 5) = x4 + 5 := zw_id (by omega) (by omega)
  have w6 : zw (x4 + 6) = x4 + 6 := zw_id (by omega) (by omega)
  unfold zIt zLo
  obtain ⟨code, v, f1, t1, f2, rk, rm, e0, eo, R2, T2⟩ := (show zOw q N f t 246 [(19, 0, 0), (31, 1478, 1)] 247 [(20, 1464, 0)] from (o_likely (q := q) (t := t) hR))
  rw [zb_K_law2_688, rk, zK_i]
  rw [zb_K_law2_691, rm, zK_i]
  rw [zb_K_law2_694, r_thrown, zK_i]
  rw [zb_K_law2_697, if_pos e0]
  rw [zb_K_law2_701]
  by_cases cz : code = 0
  · rw [if_neg (fun z => z cz), zb_K_law2_703, zG2 (by decide) (by decide), zb_K_law2_706, if_pos (show zcmp ((f2, t1).1 1478 0) v = 0 from zcmp_eq (eo cz)), zb_K_law2_712, w6]
    exact ⟨_, _, f2, _, rfl, ZR_mono (by omega) R2, T2⟩
  · rw [if_pos cz, zb_K_law2_712, w6]
    exact ⟨_, _, f2, _, rfl, ZR_mono (by omega) R2, T2⟩
theorem zw_20 {q : Int × (Int → Int)} {N x4 : Int} {f : Int → Int → Int} {t : (Int → Int) × Nat × Nat × Nat × (Int → Int → Bool)} {v5 v6 : zV} (hR : ZR N f f) (hN : N ≤ 1000000) (h0 : 0 ≤ x4) (h6 : x4 + 6 ≤ q.1) (hL : q.1 ≤ 3072) : zIt q N x4 713 f t v5 v6 := by
  have w1 : zw (x4 + 1) = x4 + 1 := zw_id (by omega) (by omega)
  have w2 : zw (x4 + 2) = x4 + 2 := zw_id (by omega) (by omega)
  have w3 : zw (x4 + 3) = x4 + 3 := zw_id (by omega) (by omega)
  have w4 : zw (x4 + 4) = x4 + 4 := zw_id (by omega) (by omega)
  have w5 : zw (x4 + 5) = x4 + 5 := zw_id (by omega) (by omega)
  have w6 : zw (x4 + 6) = x4 + 6 := zw_id (by omega) (by omega)
  unfold zIt zLo
  obtain ⟨code, v, f1, t1, f2, rk, rm, e0, eo, R2, T2⟩ := (show zOw q N f t 251 [(19, 0, 0), (31, 1478, 1)] 252 [(20, 1464, 0)] from (o_probe (q := q) (t := t) hR))
  rw [zb_K_law2_713, rk, zK_i]
  rw [zb_K_law2_716, rm, zK_i]
  rw [zb_K_law2_719, r_thrown, zK_i]
  rw [zb_K_law2_722, if_pos e0]
  rw [zb_K_law2_726]
  by_cases cz : code = 0
  · rw [if_neg (fun z => z cz), zb_K_law2_728, zG2 (by decide) (by decide), zb_K_law2_731, if_pos (show zcmp ((f2, t1).1 1478 0) v = 0 from zcmp_eq (eo cz)), zb_K_law2_737, w6]
    exact ⟨_, _, f2, _, rfl, ZR_mono (by omega) R2, T2⟩
  · rw [if_pos cz, zb_K_law2_737, w6]
    exact ⟨_, _, f2, _, rfl, ZR_mono (by omega) R2, T2⟩
theorem zw_21 {q : Int × (Int → Int)} {N x4 : Int} {f : Int → Int → Int} {t : (Int → Int) × Nat × Nat × Nat × (Int → Int → Bool)} {v5 v6 : zV} (hR : ZR N f f) (hN : N ≤ 1000000) (h0 : 0 ≤ x4) (h6 : x4 + 6 ≤ q.1) (hL : q.1 ≤ 3072) : zIt q N x4 738 f t v5 v6 := by
  have w1 : zw (x4 + 1) = x4 + 1 := zw_id (by omega) (by omega)
  have w2 : zw (x4 + 2) = x4 + 2 := zw_id (by omega) (by omega)
  have w3 : zw (x4 + 3) = x4 + 3 := zw_id (by omega) (by omega)
  have w4 : zw (x4 + 4) = x4 + 4 := zw_id (by omega) (by omega)
  have w5 : zw (x4 + 5) = x4 + 5 := zw_id (by omega) (by omega)
  have w6 : zw (x4 + 6) = x4 + 6 := zw_id (by omega) (by omega)
  unfold zIt zLo
  obtain ⟨code, v, f1, t1, f2, rk, rm, e0, eo, R2, T2⟩ := (show zOw q N f t 257 [(19, 0, 0), (0, q.2 (x4 + 1), 0), (31, 1478, 1)] 262 [(20, 1464, 0), (0, q.2 (x4 + 1), 0)] from (o_pairs (q := q) (t := t) hR))
  rw [zb_K_law2_738]
  try simp only [w1, w2, w3, w4, w5]
  rw [zG2 (by omega) (by omega)]
  rw [zb_K_law2_744, rk, zK_i]
  rw [zb_K_law2_746]
  try simp only [w1, w2, w3, w4, w5]
  rw [zG2 (by omega) (by omega)]
  rw [zb_K_law2_753, rm, zK_i]
  rw [zb_K_law2_754, r_thrown, zK_i]
  rw [zb_K_law2_757, if_pos e0]
  rw [zb_K_law2_761]
  by_cases cz : code = 0
  · rw [if_neg (fun z => z cz), zb_K_law2_763, zG2 (by decide) (by decide), zb_K_law2_766, if_pos (show zcmp ((f2, t1).1 1478 0) v = 0 from zcmp_eq (eo cz)), zb_K_law2_772, w6]
    exact ⟨_, _, f2, _, rfl, ZR_mono (by omega) R2, T2⟩
  · rw [if_pos cz, zb_K_law2_772, w6]
    exact ⟨_, _, f2, _, rfl, ZR_mono (by omega) R2, T2⟩
theorem zw_22 {q : Int × (Int → Int)} {N x4 : Int} {f : Int → Int → Int} {t : (Int → Int) × Nat × Nat × Nat × (Int → Int → Bool)} {v5 v6 : zV} (hR : ZR N f f) (hN : N ≤ 1000000) (h0 : 0 ≤ x4) (h6 : x4 + 6 ≤ q.1) (hL : q.1 ≤ 3072) : zIt q N x4 773 f t v5 v6 := by
  have w1 : zw (x4 + 1) = x4 + 1 := zw_id (by omega) (by omega)
  have w2 : zw (x4 + 2) = x4 + 2 := zw_id (by omega) (by omega)
  have w3 : zw (x4 + 3) = x4 + 3 := zw_id (by omega) (by omega)
  have w4 : zw (x4 + 4) = x4 + 4 := zw_id (by omega) (by omega)
  have w5 : zw (x4 + 5) = x4 + 5 := zw_id (by omega) (by omega)
  have w6 : zw (x4 + 6) = x4 + 6 := zw_id (by omega) (by omega)
  unfold zIt zLo
  obtain ⟨code, v, f1, t1, f2, rk, rm, e0, eo, R2, T2⟩ := (show zOw q N f t 265 [(19, 0, 0), (0, q.2 (x4 + 1), 0), (0, q.2 (x4 + 2), 0), (31, 1478, 1)] 266 [(20, 1464, 0), (0, q.2 (x4 + 1), 0), (0, q.2 (x4 + 2), 0)] from (o_share (q := q) (t := t) hR))
  rw [zb_K_law2_773]
  try simp only [w1, w2, w3, w4, w5]
  rw [zG2 (by omega) (by omega)]
  rw [zb_K_law2_779]
  try simp only [w1, w2, w3, w4, w5]
  rw [zG2 (by omega) (by omega)]
  rw [zb_K_law2_784, rk, zK_i]
  rw [zb_K_law2_786]
  try simp only [w1, w2, w3, w4, w5]
  rw [zG2 (by omega) (by omega)]
  rw [zb_K_law2_793]
  try simp only [w1, w2, w3, w4, w5]
  rw [zG2 (by omega) (by omega)]
  rw [zb_K_law2_798, rm, zK_i]
  rw [zb_K_law2_799, r_thrown, zK_i]
  rw [zb_K_law2_802, if_pos e0]
  rw [zb_K_law2_806]
  by_cases cz : code = 0
  · rw [if_neg (fun z => z cz), zb_K_law2_808, zG2 (by decide) (by decide), zb_K_law2_811, if_pos (show zcmp ((f2, t1).1 1478 0) v = 0 from zcmp_eq (eo cz)), zb_K_law2_817, w6]
    exact ⟨_, _, f2, _, rfl, ZR_mono (by omega) R2, T2⟩
  · rw [if_pos cz, zb_K_law2_817, w6]
    exact ⟨_, _, f2, _, rfl, ZR_mono (by omega) R2, T2⟩
theorem zw_23 {q : Int × (Int → Int)} {N x4 : Int} {f : Int → Int → Int} {t : (Int → Int) × Nat × Nat × Nat × (Int → Int → Bool)} {v5 v6 : zV} (hR : ZR N f f) (hN : N ≤ 1000000) (h0 : 0 ≤ x4) (h6 : x4 + 6 ≤ q.1) (hL : q.1 ≤ 3072) : zIt q N x4 818 f t v5 v6 := by
  have w1 : zw (x4 + 1) = x4 + 1 := zw_id (by omega) (by omega)
  have w2 : zw (x4 + 2) = x4 + 2 := zw_id (by omega) (by omega)
  have w3 : zw (x4 + 3) = x4 + 3 := zw_id (by omega) (by omega)
  have w4 : zw (x4 + 4) = x4 + 4 := zw_id (by omega) (by omega)
  have w5 : zw (x4 + 5) = x4 + 5 := zw_id (by omega) (by omega)
  have w6 : zw (x4 + 6) = x4 + 6 := zw_id (by omega) (by omega)
  unfold zIt zLo
  obtain ⟨code, v, f1, t1, f2, rk, rm, e0, eo, R2, T2⟩ := (show zOw q N f t 270 [(19, 0, 0), (0, q.2 (x4 + 1), 0), (31, 1478, 1)] 273 [(20, 1464, 0), (0, q.2 (x4 + 1), 0)] from (o_rests (q := q) (t := t) hR))
  rw [zb_K_law2_818]
  try simp only [w1, w2, w3, w4, w5]
  rw [zG2 (by omega) (by omega)]
  rw [zb_K_law2_824, rk, zK_i]
  rw [zb_K_law2_826]
  try simp only [w1, w2, w3, w4, w5]
  rw [zG2 (by omega) (by omega)]
  rw [zb_K_law2_833, rm, zK_i]
  rw [zb_K_law2_834, r_thrown, zK_i]
  rw [zb_K_law2_837, if_pos e0]
  rw [zb_K_law2_841]
  by_cases cz : code = 0
  · rw [if_neg (fun z => z cz), zb_K_law2_843, zG2 (by decide) (by decide), zb_K_law2_846, if_pos (show zcmp ((f2, t1).1 1478 0) v = 0 from zcmp_eq (eo cz)), zb_K_law2_852, w6]
    exact ⟨_, _, f2, _, rfl, ZR_mono (by omega) R2, T2⟩
  · rw [if_pos cz, zb_K_law2_852, w6]
    exact ⟨_, _, f2, _, rfl, ZR_mono (by omega) R2, T2⟩
theorem zw_24 {q : Int × (Int → Int)} {N x4 : Int} {f : Int → Int → Int} {t : (Int → Int) × Nat × Nat × Nat × (Int → Int → Bool)} {v5 v6 : zV} (hR : ZR N f f) (hN : N ≤ 1000000) (h0 : 0 ≤ x4) (h6 : x4 + 6 ≤ q.1) (hL : q.1 ≤ 3072) : zIt q N x4 853 f t v5 v6 := by
  have w1 : zw (x4 + 1) = x4 + 1 := zw_id (by omega) (by omega)
  have w2 : zw (x4 + 2) = x4 + 2 := zw_id (by omega) (by omega)
  have w3 : zw (x4 + 3) = x4 + 3 := zw_id (by omega) (by omega)
  have w4 : zw (x4 + 4) = x4 + 4 := zw_id (by omega) (by omega)
  have w5 : zw (x4 + 5) = x4 + 5 := zw_id (by omega) (by omega)
  have w6 : zw (x4 + 6) = x4 + 6 := zw_id (by omega) (by omega)
  unfold zIt zLo
  obtain ⟨code, v, f1, t1, f2, rk, rm, e0, eo, R2, T2⟩ := (show zOw q N f t 276 [(19, 0, 0), (0, q.2 (x4 + 1), 0), (0, q.2 (x4 + 2), 0), (0, q.2 (x4 + 3), 0), (31, 1478, 1)] 277 [(20, 1464, 0), (0, q.2 (x4 + 1), 0), (0, q.2 (x4 + 2), 0), (0, q.2 (x4 + 3), 0)] from (o_odds (q := q) (t := t) hR))
  rw [zb_K_law2_853]
  try simp only [w1, w2, w3, w4, w5]
  rw [zG2 (by omega) (by omega)]
  rw [zb_K_law2_859]
  try simp only [w1, w2, w3, w4, w5]
  rw [zG2 (by omega) (by omega)]
  rw [zb_K_law2_864]
  try simp only [w1, w2, w3, w4, w5]
  rw [zG2 (by omega) (by omega)]
  rw [zb_K_law2_869, rk, zK_i]
  rw [zb_K_law2_871]
  try simp only [w1, w2, w3, w4, w5]
  rw [zG2 (by omega) (by omega)]
  rw [zb_K_law2_878]
  try simp only [w1, w2, w3, w4, w5]
  rw [zG2 (by omega) (by omega)]
  rw [zb_K_law2_883]
  try simp only [w1, w2, w3, w4, w5]
  rw [zG2 (by omega) (by omega)]
  rw [zb_K_law2_888, rm, zK_i]
  rw [zb_K_law2_889, r_thrown, zK_i]
  rw [zb_K_law2_892, if_pos e0]
  rw [zb_K_law2_896]
  by_cases cz : code = 0
  · rw [if_neg (fun z => z cz), zb_K_law2_898, zG2 (by decide) (by decide), zb_K_law2_901, if_pos (show zcmp ((f2, t1).1 1478 0) v = 0 from zcmp_eq (eo cz)), zb_K_law2_907, w6]
    exact ⟨_, _, f2, _, rfl, ZR_mono (by omega) R2, T2⟩
  · rw [if_pos cz, zb_K_law2_907, w6]
    exact ⟨_, _, f2, _, rfl, ZR_mono (by omega) R2, T2⟩
theorem zw_25 {q : Int × (Int → Int)} {N x4 : Int} {f : Int → Int → Int} {t : (Int → Int) × Nat × Nat × Nat × (Int → Int → Bool)} {v5 v6 : zV} (hR : ZR N f f) (hN : N ≤ 1000000) (h0 : 0 ≤ x4) (h6 : x4 + 6 ≤ q.1) (hL : q.1 ≤ 3072) : zIt q N x4 908 f t v5 v6 := by
  have w1 : zw (x4 + 1) = x4 + 1 := zw_id (by omega) (by omega)
  have w2 : zw (x4 + 2) = x4 + 2 := zw_id (by omega) (by omega)
  have w3 : zw (x4 + 3) = x4 + 3 := zw_id (by omega) (by omega)
  have w4 : zw (x4 + 4) = x4 + 4 := zw_id (by omega) (by omega)
  have w5 : zw (x4 + 5) = x4 + 5 := zw_id (by omega) (by omega)
  have w6 : zw (x4 + 6) = x4 + 6 := zw_id (by omega) (by omega)
  unfold zIt zLo
  obtain ⟨code, v, f1, t1, f2, rk, rm, e0, eo, R2, T2⟩ := (show zOw q N f t 279 [(19, 0, 0), (0, q.2 (x4 + 1), 0), (31, 1478, 1)] 281 [(20, 1464, 0), (0, q.2 (x4 + 1), 0)] from (o_most (q := q) (t := t) hR))
  rw [zb_K_law2_908]
  try simp only [w1, w2, w3, w4, w5]
  rw [zG2 (by omega) (by omega)]
  rw [zb_K_law2_914, rk, zK_i]
  rw [zb_K_law2_916]
  try simp only [w1, w2, w3, w4, w5]
  rw [zG2 (by omega) (by omega)]
  rw [zb_K_law2_923, rm, zK_i]
  rw [zb_K_law2_924, r_thrown, zK_i]
  rw [zb_K_law2_927, if_pos e0]
  rw [zb_K_law2_931]
  by_cases cz : code = 0
  · rw [if_neg (fun z => z cz), zb_K_law2_933, zG2 (by decide) (by decide), zb_K_law2_936, if_pos (show zcmp ((f2, t1).1 1478 0) v = 0 from zcmp_eq (eo cz)), zb_K_law2_942, w6]
    exact ⟨_, _, f2, _, rfl, ZR_mono (by omega) R2, T2⟩
  · rw [if_pos cz, zb_K_law2_942, w6]
    exact ⟨_, _, f2, _, rfl, ZR_mono (by omega) R2, T2⟩
theorem zw_26 {q : Int × (Int → Int)} {N x4 : Int} {f : Int → Int → Int} {t : (Int → Int) × Nat × Nat × Nat × (Int → Int → Bool)} {v5 v6 : zV} (hR : ZR N f f) (hN : N ≤ 1000000) (h0 : 0 ≤ x4) (h6 : x4 + 6 ≤ q.1) (hL : q.1 ≤ 3072) : zIt q N x4 943 f t v5 v6 := by
  have w1 : zw (x4 + 1) = x4 + 1 := zw_id (by omega) (by omega)
  have w2 : zw (x4 + 2) = x4 + 2 := zw_id (by omega) (by omega)
  have w3 : zw (x4 + 3) = x4 + 3 := zw_id (by omega) (by omega)
  have w4 : zw (x4 + 4) = x4 + 4 := zw_id (by omega) (by omega)
  have w5 : zw (x4 + 5) = x4 + 5 := zw_id (by omega) (by omega)
  have w6 : zw (x4 + 6) = x4 + 6 := zw_id (by omega) (by omega)
  unfold zIt zLo
  obtain ⟨code, v, f1, t1, f2, rk, rm, e0, eo, R2, T2⟩ := (show zOw q N f t 283 [(19, 0, 0), (0, q.2 (x4 + 1), 0), (31, 1478, 1)] 284 [(20, 1464, 0), (0, q.2 (x4 + 1), 0)] from (o_byState (q := q) (t := t) hR))
  rw [zb_K_law2_943]
  try simp only [w1, w2, w3, w4, w5]
  rw [zG2 (by omega) (by omega)]
  rw [zb_K_law2_949, rk, zK_i]
  rw [zb_K_law2_951]
  try simp only [w1, w2, w3, w4, w5]
  rw [zG2 (by omega) (by omega)]
  rw [zb_K_law2_958, rm, zK_i]
  rw [zb_K_law2_959, r_thrown, zK_i]
  rw [zb_K_law2_962, if_pos e0]
  rw [zb_K_law2_966]
  by_cases cz : code = 0
  · rw [if_neg (fun z => z cz), zb_K_law2_968, zG2 (by decide) (by decide), zb_K_law2_971, if_pos (show zcmp ((f2, t1).1 1478 0) v = 0 from zcmp_eq (eo cz)), zb_K_law2_977, w6]
    exact ⟨_, _, f2, _, rfl, ZR_mono (by omega) R2, T2⟩
  · rw [if_pos cz, zb_K_law2_977, w6]
    exact ⟨_, _, f2, _, rfl, ZR_mono (by omega) R2, T2⟩
theorem zw_27 {q : Int × (Int → Int)} {N x4 : Int} {f : Int → Int → Int} {t : (Int → Int) × Nat × Nat × Nat × (Int → Int → Bool)} {v5 v6 : zV} (hR : ZR N f f) (hN : N ≤ 1000000) (h0 : 0 ≤ x4) (h6 : x4 + 6 ≤ q.1) (hL : q.1 ≤ 3072) : zIt q N x4 978 f t v5 v6 := by
  have w1 : zw (x4 + 1) = x4 + 1 := zw_id (by omega) (by omega)
  have w2 : zw (x4 + 2) = x4 + 2 := zw_id (by omega) (by omega)
  have w3 : zw (x4 + 3) = x4 + 3 := zw_id (by omega) (by omega)
  have w4 : zw (x4 + 4) = x4 + 4 := zw_id (by omega) (by omega)
  have w5 : zw (x4 + 5) = x4 + 5 := zw_id (by omega) (by omega)
  have w6 : zw (x4 + 6) = x4 + 6 := zw_id (by omega) (by omega)
  unfold zIt zLo
  obtain ⟨v, f1, t1, f2, rk, rm, R2, T2⟩ := (show zOu q N f t 285 [(19, 0, 0)] 286 [(20, 1464, 0)] from (o_twins (q := q) (t := t) hR))
  rw [zb_K_law2_978, rk, zK_i]
  rw [zb_K_law2_980, rm, zK_i]
  rw [zb_K_law2_982, if_pos rfl]
  rw [zb_K_law2_1287, w6]
  exact ⟨_, _, f2, _, rfl, ZR_mono (by omega) R2, T2⟩
theorem zw_28 {q : Int × (Int → Int)} {N x4 : Int} {f : Int → Int → Int} {t : (Int → Int) × Nat × Nat × Nat × (Int → Int → Bool)} {v5 v6 : zV} (hR : ZR N f f) (hN : N ≤ 1000000) (h0 : 0 ≤ x4) (h6 : x4 + 6 ≤ q.1) (hL : q.1 ≤ 3072) : zIt q N x4 985 f t v5 v6 := by
  have w1 : zw (x4 + 1) = x4 + 1 := zw_id (by omega) (by omega)
  have w2 : zw (x4 + 2) = x4 + 2 := zw_id (by omega) (by omega)
  have w3 : zw (x4 + 3) = x4 + 3 := zw_id (by omega) (by omega)
  have w4 : zw (x4 + 4) = x4 + 4 := zw_id (by omega) (by omega)
  have w5 : zw (x4 + 5) = x4 + 5 := zw_id (by omega) (by omega)
  have w6 : zw (x4 + 6) = x4 + 6 := zw_id (by omega) (by omega)
  unfold zIt zLo
  obtain ⟨code, v, f1, t1, f2, rk, rm, e0, eo, R2, T2⟩ := (show zOw q N f t 289 [(19, 0, 0), (0, q.2 (x4 + 1), 0), (0, q.2 (x4 + 2), 0), (31, 1478, 1)] 290 [(20, 1464, 0), (0, q.2 (x4 + 1), 0), (0, q.2 (x4 + 2), 0)] from (o_ahead (q := q) (t := t) hR hN))
  rw [zb_K_law2_985]
  try simp only [w1, w2, w3, w4, w5]
  rw [zG2 (by omega) (by omega)]
  rw [zb_K_law2_991]
  try simp only [w1, w2, w3, w4, w5]
  rw [zG2 (by omega) (by omega)]
  rw [zb_K_law2_996, rk, zK_i]
  rw [zb_K_law2_998]
  try simp only [w1, w2, w3, w4, w5]
  rw [zG2 (by omega) (by omega)]
  rw [zb_K_law2_1005]
  try simp only [w1, w2, w3, w4, w5]
  rw [zG2 (by omega) (by omega)]
  rw [zb_K_law2_1010, rm, zK_i]
  rw [zb_K_law2_1011, r_thrown, zK_i]
  rw [zb_K_law2_1014, if_pos e0]
  rw [zb_K_law2_1018]
  by_cases cz : code = 0
  · rw [if_neg (fun z => z cz), zb_K_law2_1020, zG2 (by decide) (by decide), zb_K_law2_1023, if_pos (show zcmp ((f2, t1).1 1478 0) v = 0 from zcmp_eq (eo cz)), zb_K_law2_1029, w6]
    exact ⟨_, _, f2, _, rfl, ZR_mono (by omega) R2, T2⟩
  · rw [if_pos cz, zb_K_law2_1029, w6]
    exact ⟨_, _, f2, _, rfl, ZR_mono (by omega) R2, T2⟩
theorem zw_29 {q : Int × (Int → Int)} {N x4 : Int} {f : Int → Int → Int} {t : (Int → Int) × Nat × Nat × Nat × (Int → Int → Bool)} {v5 v6 : zV} (hR : ZR N f f) (hN : N ≤ 1000000) (h0 : 0 ≤ x4) (h6 : x4 + 6 ≤ q.1) (hL : q.1 ≤ 3072) : zIt q N x4 1030 f t v5 v6 := by
  have w1 : zw (x4 + 1) = x4 + 1 := zw_id (by omega) (by omega)
  have w2 : zw (x4 + 2) = x4 + 2 := zw_id (by omega) (by omega)
  have w3 : zw (x4 + 3) = x4 + 3 := zw_id (by omega) (by omega)
  have w4 : zw (x4 + 4) = x4 + 4 := zw_id (by omega) (by omega)
  have w5 : zw (x4 + 5) = x4 + 5 := zw_id (by omega) (by omega)
  have w6 : zw (x4 + 6) = x4 + 6 := zw_id (by omega) (by omega)
  unfold zIt zLo
  by_cases cb : q.2 (x4 + 2) = 0
  · obtain ⟨code, v, f1, t1, f2, rk, rm, e0, eo, R2, T2⟩ := (show zOw q N f t 292 [(19, 0, 0), (0, q.2 (x4 + 1), 0), (0, 0, 0), (31, 1478, 1)] 293 [(20, 1464, 0), (0, q.2 (x4 + 1), 0), (0, 0, 0)] from (o_trial (q := q) (t := t) hR hN))
    rw [zb_K_law2_1030]
    try simp only [w1, w2, w3, w4, w5]
    rw [zG2 (by omega) (by omega)]
    rw [zb_K_law2_1036]
    try simp only [w1, w2, w3, w4, w5]
    rw [zG2 (by omega) (by omega)]
    rw [zb_K_law2_1041, if_pos cb]
    rw [zb_K_law2_1044, rk, zK_i]
    rw [zb_K_law2_1047]
    try simp only [w1, w2, w3, w4, w5]
    rw [zG2 (by omega) (by omega)]
    rw [zb_K_law2_1054]
    try simp only [w1, w2, w3, w4, w5]
    rw [zG2 (by omega) (by omega)]
    rw [zb_K_law2_1059, if_pos cb]
    rw [zb_K_law2_1062, rm, zK_i]
    rw [zb_K_law2_1064, r_thrown, zK_i]
    rw [zb_K_law2_1067, if_pos e0]
    rw [zb_K_law2_1071]
    by_cases cz : code = 0
    · rw [if_neg (fun z => z cz), zb_K_law2_1073, zG2 (by decide) (by decide), zb_K_law2_1076, if_pos (show zcmp ((f2, t1).1 1478 0) v = 0 from zcmp_eq (eo cz)), zb_K_law2_1082, w6]
      exact ⟨_, _, f2, _, rfl, ZR_mono (by omega) R2, T2⟩
    · rw [if_pos cz, zb_K_law2_1082, w6]
      exact ⟨_, _, f2, _, rfl, ZR_mono (by omega) R2, T2⟩
  · obtain ⟨code, v, f1, t1, f2, rk, rm, e0, eo, R2, T2⟩ := (show zOw q N f t 292 [(19, 0, 0), (0, q.2 (x4 + 1), 0), (0, 1, 0), (31, 1478, 1)] 293 [(20, 1464, 0), (0, q.2 (x4 + 1), 0), (0, 1, 0)] from (o_trial (q := q) (t := t) hR hN))
    rw [zb_K_law2_1030]
    try simp only [w1, w2, w3, w4, w5]
    rw [zG2 (by omega) (by omega)]
    rw [zb_K_law2_1036]
    try simp only [w1, w2, w3, w4, w5]
    rw [zG2 (by omega) (by omega)]
    rw [zb_K_law2_1041, if_neg cb]
    rw [zb_K_law2_1042, rk, zK_i]
    rw [zb_K_law2_1047]
    try simp only [w1, w2, w3, w4, w5]
    rw [zG2 (by omega) (by omega)]
    rw [zb_K_law2_1054]
    try simp only [w1, w2, w3, w4, w5]
    rw [zG2 (by omega) (by omega)]
    rw [zb_K_law2_1059, if_neg cb]
    rw [zb_K_law2_1060, rm, zK_i]
    rw [zb_K_law2_1064, r_thrown, zK_i]
    rw [zb_K_law2_1067, if_pos e0]
    rw [zb_K_law2_1071]
    by_cases cz : code = 0
    · rw [if_neg (fun z => z cz), zb_K_law2_1073, zG2 (by decide) (by decide), zb_K_law2_1076, if_pos (show zcmp ((f2, t1).1 1478 0) v = 0 from zcmp_eq (eo cz)), zb_K_law2_1082, w6]
      exact ⟨_, _, f2, _, rfl, ZR_mono (by omega) R2, T2⟩
    · rw [if_pos cz, zb_K_law2_1082, w6]
      exact ⟨_, _, f2, _, rfl, ZR_mono (by omega) R2, T2⟩
theorem zw_30 {q : Int × (Int → Int)} {N x4 : Int} {f : Int → Int → Int} {t : (Int → Int) × Nat × Nat × Nat × (Int → Int → Bool)} {v5 v6 : zV} (hR : ZR N f f) (hN : N ≤ 1000000) (h0 : 0 ≤ x4) (h6 : x4 + 6 ≤ q.1) (hL : q.1 ≤ 3072) : zIt q N x4 1083 f t v5 v6 := by
  have w1 : zw (x4 + 1) = x4 + 1 := zw_id (by omega) (by omega)
  have w2 : zw (x4 + 2) = x4 + 2 := zw_id (by omega) (by omega)
  have w3 : zw (x4 + 3) = x4 + 3 := zw_id (by omega) (by omega)
  have w4 : zw (x4 + 4) = x4 + 4 := zw_id (by omega) (by omega)
  have w5 : zw (x4 + 5) = x4 + 5 := zw_id (by omega) (by omega)
  have w6 : zw (x4 + 6) = x4 + 6 := zw_id (by omega) (by omega)
  unfold zIt zLo
  by_cases cb : q.2 (x4 + 2) = 0
  · obtain ⟨code, v, f1, t1, f2, rk, rm, e0, eo, R2, T2⟩ := (show zOw q N f t 295 [(19, 0, 0), (0, q.2 (x4 + 1), 0), (0, 0, 0), (31, 1478, 1)] 296 [(20, 1464, 0), (0, q.2 (x4 + 1), 0), (0, 0, 0)] from (o_span (q := q) (t := t) hR hN))
    rw [zb_K_law2_1083]
    try simp only [w1, w2, w3, w4, w5]
    rw [zG2 (by omega) (by omega)]
    rw [zb_K_law2_1089]
    try simp only [w1, w2, w3, w4, w5]
    rw [zG2 (by omega) (by omega)]
    rw [zb_K_law2_1094, if_pos cb]
    rw [zb_K_law2_1097, rk, zK_i]
    rw [zb_K_law2_1100]
    try simp only [w1, w2, w3, w4, w5]
    rw [zG2 (by omega) (by omega)]
    rw [zb_K_law2_1107]
    try simp only [w1, w2, w3, w4, w5]
    rw [zG2 (by omega) (by omega)]
    rw [zb_K_law2_1112, if_pos cb]
    rw [zb_K_law2_1115, rm, zK_i]
    rw [zb_K_law2_1117, r_thrown, zK_i]
    rw [zb_K_law2_1120, if_pos e0]
    rw [zb_K_law2_1124]
    by_cases cz : code = 0
    · rw [if_neg (fun z => z cz), zb_K_law2_1126, zG2 (by decide) (by decide), zb_K_law2_1129, if_pos (show zcmp ((f2, t1).1 1478 0) v = 0 from zcmp_eq (eo cz)), zb_K_law2_1135, w6]
      exact ⟨_, _, f2, _, rfl, ZR_mono (by omega) R2, T2⟩
    · rw [if_pos cz, zb_K_law2_1135, w6]
      exact ⟨_, _, f2, _, rfl, ZR_mono (by omega) R2, T2⟩
  · obtain ⟨code, v, f1, t1, f2, rk, rm, e0, eo, R2, T2⟩ := (show zOw q N f t 295 [(19, 0, 0), (0, q.2 (x4 + 1), 0), (0, 1, 0), (31, 1478, 1)] 296 [(20, 1464, 0), (0, q.2 (x4 + 1), 0), (0, 1, 0)] from (o_span (q := q) (t := t) hR hN))
    rw [zb_K_law2_1083]
    try simp only [w1, w2, w3, w4, w5]
    rw [zG2 (by omega) (by omega)]
    rw [zb_K_law2_1089]
    try simp only [w1, w2, w3, w4, w5]
    rw [zG2 (by omega) (by omega)]
    rw [zb_K_law2_1094, if_neg cb]
    rw [zb_K_law2_1095, rk, zK_i]
    rw [zb_K_law2_1100]
    try simp only [w1, w2, w3, w4, w5]
    rw [zG2 (by omega) (by omega)]
    rw [zb_K_law2_1107]
    try simp only [w1, w2, w3, w4, w5]
    rw [zG2 (by omega) (by omega)]
    rw [zb_K_law2_1112, if_neg cb]
    rw [zb_K_law2_1113, rm, zK_i]
    rw [zb_K_law2_1117, r_thrown, zK_i]
    rw [zb_K_law2_1120, if_pos e0]
    rw [zb_K_law2_1124]
    by_cases cz : code = 0
    · rw [if_neg (fun z => z cz), zb_K_law2_1126, zG2 (by decide) (by decide), zb_K_law2_1129, if_pos (show zcmp ((f2, t1).1 1478 0) v = 0 from zcmp_eq (eo cz)), zb_K_law2_1135, w6]
      exact ⟨_, _, f2, _, rfl, ZR_mono (by omega) R2, T2⟩
    · rw [if_pos cz, zb_K_law2_1135, w6]
      exact ⟨_, _, f2, _, rfl, ZR_mono (by omega) R2, T2⟩
theorem zw_31 {q : Int × (Int → Int)} {N x4 : Int} {f : Int → Int → Int} {t : (Int → Int) × Nat × Nat × Nat × (Int → Int → Bool)} {v5 v6 : zV} (hR : ZR N f f) (hN : N ≤ 1000000) (h0 : 0 ≤ x4) (h6 : x4 + 6 ≤ q.1) (hL : q.1 ≤ 3072) : zIt q N x4 1136 f t v5 v6 := by
  have w1 : zw (x4 + 1) = x4 + 1 := zw_id (by omega) (by omega)
  have w2 : zw (x4 + 2) = x4 + 2 := zw_id (by omega) (by omega)
  have w3 : zw (x4 + 3) = x4 + 3 := zw_id (by omega) (by omega)
  have w4 : zw (x4 + 4) = x4 + 4 := zw_id (by omega) (by omega)
  have w5 : zw (x4 + 5) = x4 + 5 := zw_id (by omega) (by omega)
  have w6 : zw (x4 + 6) = x4 + 6 := zw_id (by omega) (by omega)
  unfold zIt zLo
  by_cases cb : q.2 (x4 + 2) = 0
  · obtain ⟨code, v, f1, t1, f2, rk, rm, e0, eo, R2, T2⟩ := (show zOw q N f t 299 [(19, 0, 0), (0, q.2 (x4 + 1), 0), (0, 0, 0), (31, 1478, 1)] 301 [(20, 1464, 0), (0, q.2 (x4 + 1), 0), (0, 0, 0)] from (o_led (q := q) (t := t) hR))
    rw [zb_K_law2_1136]
    try simp only [w1, w2, w3, w4, w5]
    rw [zG2 (by omega) (by omega)]
    rw [zb_K_law2_1142]
    try simp only [w1, w2, w3, w4, w5]
    rw [zG2 (by omega) (by omega)]
    rw [zb_K_law2_1147, if_pos cb]
    rw [zb_K_law2_1150, rk, zK_i]
    rw [zb_K_law2_1153]
    try simp only [w1, w2, w3, w4, w5]
    rw [zG2 (by omega) (by omega)]
    rw [zb_K_law2_1160]
    try simp only [w1, w2, w3, w4, w5]
    rw [zG2 (by omega) (by omega)]
    rw [zb_K_law2_1165, if_pos cb]
    rw [zb_K_law2_1168, rm, zK_i]
    rw [zb_K_law2_1170, r_thrown, zK_i]
    rw [zb_K_law2_1173, if_pos e0]
    rw [zb_K_law2_1177]
    by_cases cz : code = 0
    · rw [if_neg (fun z => z cz), zb_K_law2_1179, zG2 (by decide) (by decide), zb_K_law2_1182, if_pos (show zcmp ((f2, t1).1 1478 0) v = 0 from zcmp_eq (eo cz)), zb_K_law2_1188, w6]
      exact ⟨_, _, f2, _, rfl, ZR_mono (by omega) R2, T2⟩
    · rw [if_pos cz, zb_K_law2_1188, w6]
      exact ⟨_, _, f2, _, rfl, ZR_mono (by omega) R2, T2⟩
  · obtain ⟨code, v, f1, t1, f2, rk, rm, e0, eo, R2, T2⟩ := (show zOw q N f t 299 [(19, 0, 0), (0, q.2 (x4 + 1), 0), (0, 1, 0), (31, 1478, 1)] 301 [(20, 1464, 0), (0, q.2 (x4 + 1), 0), (0, 1, 0)] from (o_led (q := q) (t := t) hR))
    rw [zb_K_law2_1136]
    try simp only [w1, w2, w3, w4, w5]
    rw [zG2 (by omega) (by omega)]
    rw [zb_K_law2_1142]
    try simp only [w1, w2, w3, w4, w5]
    rw [zG2 (by omega) (by omega)]
    rw [zb_K_law2_1147, if_neg cb]
    rw [zb_K_law2_1148, rk, zK_i]
    rw [zb_K_law2_1153]
    try simp only [w1, w2, w3, w4, w5]
    rw [zG2 (by omega) (by omega)]
    rw [zb_K_law2_1160]
    try simp only [w1, w2, w3, w4, w5]
    rw [zG2 (by omega) (by omega)]
    rw [zb_K_law2_1165, if_neg cb]
    rw [zb_K_law2_1166, rm, zK_i]
    rw [zb_K_law2_1170, r_thrown, zK_i]
    rw [zb_K_law2_1173, if_pos e0]
    rw [zb_K_law2_1177]
    by_cases cz : code = 0
    · rw [if_neg (fun z => z cz), zb_K_law2_1179, zG2 (by decide) (by decide), zb_K_law2_1182, if_pos (show zcmp ((f2, t1).1 1478 0) v = 0 from zcmp_eq (eo cz)), zb_K_law2_1188, w6]
      exact ⟨_, _, f2, _, rfl, ZR_mono (by omega) R2, T2⟩
    · rw [if_pos cz, zb_K_law2_1188, w6]
      exact ⟨_, _, f2, _, rfl, ZR_mono (by omega) R2, T2⟩
theorem zw_32 {q : Int × (Int → Int)} {N x4 : Int} {f : Int → Int → Int} {t : (Int → Int) × Nat × Nat × Nat × (Int → Int → Bool)} {v5 v6 : zV} (hR : ZR N f f) (hN : N ≤ 1000000) (h0 : 0 ≤ x4) (h6 : x4 + 6 ≤ q.1) (hL : q.1 ≤ 3072) : zIt q N x4 1189 f t v5 v6 := by
  have w1 : zw (x4 + 1) = x4 + 1 := zw_id (by omega) (by omega)
  have w2 : zw (x4 + 2) = x4 + 2 := zw_id (by omega) (by omega)
  have w3 : zw (x4 + 3) = x4 + 3 := zw_id (by omega) (by omega)
  have w4 : zw (x4 + 4) = x4 + 4 := zw_id (by omega) (by omega)
  have w5 : zw (x4 + 5) = x4 + 5 := zw_id (by omega) (by omega)
  have w6 : zw (x4 + 6) = x4 + 6 := zw_id (by omega) (by omega)
  unfold zIt zLo
  obtain ⟨code, v, f1, t1, f2, rk, rm, e0, eo, R2, T2⟩ := (show zOw q N f t 303 [(19, 0, 0), (0, q.2 (x4 + 1), 0), (0, q.2 (x4 + 2), 0), (31, 1478, 1)] 304 [(20, 1464, 0), (0, q.2 (x4 + 1), 0), (0, q.2 (x4 + 2), 0)] from (o_log (q := q) (t := t) hR))
  rw [zb_K_law2_1189]
  try simp only [w1, w2, w3, w4, w5]
  rw [zG2 (by omega) (by omega)]
  rw [zb_K_law2_1195]
  try simp only [w1, w2, w3, w4, w5]
  rw [zG2 (by omega) (by omega)]
  rw [zb_K_law2_1200, rk, zK_i]
  rw [zb_K_law2_1202]
  try simp only [w1, w2, w3, w4, w5]
  rw [zG2 (by omega) (by omega)]
  rw [zb_K_law2_1209]
  try simp only [w1, w2, w3, w4, w5]
  rw [zG2 (by omega) (by omega)]
  rw [zb_K_law2_1214, rm, zK_i]
  rw [zb_K_law2_1215, r_thrown, zK_i]
  rw [zb_K_law2_1218, if_pos e0]
  rw [zb_K_law2_1222]
  by_cases cz : code = 0
  · rw [if_neg (fun z => z cz), zb_K_law2_1224, zG2 (by decide) (by decide), zb_K_law2_1227, if_pos (show zcmp ((f2, t1).1 1478 0) v = 0 from zcmp_eq (eo cz)), zb_K_law2_1233, w6]
    exact ⟨_, _, f2, _, rfl, ZR_mono (by omega) R2, T2⟩
  · rw [if_pos cz, zb_K_law2_1233, w6]
    exact ⟨_, _, f2, _, rfl, ZR_mono (by omega) R2, T2⟩
theorem zw_33 {q : Int × (Int → Int)} {N x4 : Int} {f : Int → Int → Int} {t : (Int → Int) × Nat × Nat × Nat × (Int → Int → Bool)} {v5 v6 : zV} (hR : ZR N f f) (hN : N ≤ 1000000) (h0 : 0 ≤ x4) (h6 : x4 + 6 ≤ q.1) (hL : q.1 ≤ 3072) : zIt q N x4 1234 f t v5 v6 := by
  have w1 : zw (x4 + 1) = x4 + 1 := zw_id (by omega) (by omega)
  have w2 : zw (x4 + 2) = x4 + 2 := zw_id (by omega) (by omega)
  have w3 : zw (x4 + 3) = x4 + 3 := zw_id (by omega) (by omega)
  have w4 : zw (x4 + 4) = x4 + 4 := zw_id (by omega) (by omega)
  have w5 : zw (x4 + 5) = x4 + 5 := zw_id (by omega) (by omega)
  have w6 : zw (x4 + 6) = x4 + 6 := zw_id (by omega) (by omega)
  unfold zIt zLo
  obtain ⟨v, f1, t1, f2, rk, rm, R2, T2⟩ := (show zOu q N f t 305 [(19, 0, 0), (0, q.2 (x4 + 1), 0)] 306 [(20, 1464, 0), (0, q.2 (x4 + 1), 0)] from (o_seed (q := q) (t := t) hR))
  rw [zb_K_law2_1234]
  try simp only [w1, w2, w3, w4, w5]
  rw [zG2 (by omega) (by omega)]
  rw [zb_K_law2_1240, rk, zK_i]
  rw [zb_K_law2_1241]
  try simp only [w1, w2, w3, w4, w5]
  rw [zG2 (by omega) (by omega)]
  rw [zb_K_law2_1247, rm, zK_i]
  rw [zb_K_law2_1248, if_pos rfl]
  rw [zb_K_law2_1287, w6]
  exact ⟨_, _, f2, _, rfl, ZR_mono (by omega) R2, T2⟩
theorem zw_34 {q : Int × (Int → Int)} {N x4 : Int} {f : Int → Int → Int} {t : (Int → Int) × Nat × Nat × Nat × (Int → Int → Bool)} {v5 v6 : zV} (hR : ZR N f f) (hN : N ≤ 1000000) (h0 : 0 ≤ x4) (h6 : x4 + 6 ≤ q.1) (hL : q.1 ≤ 3072) : zIt q N x4 1251 f t v5 v6 := by
  have w1 : zw (x4 + 1) = x4 + 1 := zw_id (by omega) (by omega)
  have w2 : zw (x4 + 2) = x4 + 2 := zw_id (by omega) (by omega)
  have w3 : zw (x4 + 3) = x4 + 3 := zw_id (by omega) (by omega)
  have w4 : zw (x4 + 4) = x4 + 4 := zw_id (by omega) (by omega)
  have w5 : zw (x4 + 5) = x4 + 5 := zw_id (by omega) (by omega)
  have w6 : zw (x4 + 6) = x4 + 6 := zw_id (by omega) (by omega)
  unfold zIt zLo
  obtain ⟨v, f1, t1, f2, rk, rm, R2, T2⟩ := (show zOu q N f t 307 [(19, 0, 0)] 308 [(20, 1464, 0)] from (o_undo (q := q) (t := t) hR))
  rw [zb_K_law2_1251, rk, zK_i]
  rw [zb_K_law2_1253, rm, zK_i]
  rw [zb_K_law2_1255, if_pos rfl]
  rw [zb_K_law2_1287, w6]
  exact ⟨_, _, f2, _, rfl, ZR_mono (by omega) R2, T2⟩
theorem zw_35 {q : Int × (Int → Int)} {N x4 : Int} {f : Int → Int → Int} {t : (Int → Int) × Nat × Nat × Nat × (Int → Int → Bool)} {v5 v6 : zV} (hR : ZR N f f) (hN : N ≤ 1000000) (h0 : 0 ≤ x4) (h6 : x4 + 6 ≤ q.1) (hL : q.1 ≤ 3072) : zIt q N x4 1258 f t v5 v6 := by
  have w1 : zw (x4 + 1) = x4 + 1 := zw_id (by omega) (by omega)
  have w2 : zw (x4 + 2) = x4 + 2 := zw_id (by omega) (by omega)
  have w3 : zw (x4 + 3) = x4 + 3 := zw_id (by omega) (by omega)
  have w4 : zw (x4 + 4) = x4 + 4 := zw_id (by omega) (by omega)
  have w5 : zw (x4 + 5) = x4 + 5 := zw_id (by omega) (by omega)
  have w6 : zw (x4 + 6) = x4 + 6 := zw_id (by omega) (by omega)
  unfold zIt zLo
  obtain ⟨f1, f2, rk, rm, R2⟩ := (o_image (q := q) (t := t) hR)
  rw [zb_K_law2_1258, rk, zK_v]
  rw [zb_K_law2_1260, rm, zK_v]
  rw [zb_K_law2_1262, w6]
  exact ⟨_, _, f2, _, rfl, ZR_mono (by omega) R2, zTt_refl⟩
theorem zw_36 {q : Int × (Int → Int)} {N x4 : Int} {f : Int → Int → Int} {t : (Int → Int) × Nat × Nat × Nat × (Int → Int → Bool)} {v5 v6 : zV} (hR : ZR N f f) (hN : N ≤ 1000000) (h0 : 0 ≤ x4) (h6 : x4 + 6 ≤ q.1) (hL : q.1 ≤ 3072) : zIt q N x4 1263 f t v5 v6 := by
  have w1 : zw (x4 + 1) = x4 + 1 := zw_id (by omega) (by omega)
  have w2 : zw (x4 + 2) = x4 + 2 := zw_id (by omega) (by omega)
  have w3 : zw (x4 + 3) = x4 + 3 := zw_id (by omega) (by omega)
  have w4 : zw (x4 + 4) = x4 + 4 := zw_id (by omega) (by omega)
  have w5 : zw (x4 + 5) = x4 + 5 := zw_id (by omega) (by omega)
  have w6 : zw (x4 + 6) = x4 + 6 := zw_id (by omega) (by omega)
  unfold zIt zLo
  obtain ⟨v, f1, t1, f2, rk, rm, R2, T2⟩ := (show zOu q N f t 311 [(19, 0, 0)] 312 [(20, 1464, 0)] from (o_back (q := q) (t := t) hR))
  rw [zb_K_law2_1263, rk, zK_i]
  rw [zb_K_law2_1265, rm, zK_i]
  rw [zb_K_law2_1267, if_pos rfl]
  rw [zb_K_law2_1287, w6]
  exact ⟨_, _, f2, _, rfl, ZR_mono (by omega) R2, T2⟩
theorem zw_37 {q : Int × (Int → Int)} {N x4 : Int} {f : Int → Int → Int} {t : (Int → Int) × Nat × Nat × Nat × (Int → Int → Bool)} {v5 v6 : zV} (hR : ZR N f f) (hN : N ≤ 1000000) (h0 : 0 ≤ x4) (h6 : x4 + 6 ≤ q.1) (hL : q.1 ≤ 3072) : zIt q N x4 1270 f t v5 v6 := by
  have w1 : zw (x4 + 1) = x4 + 1 := zw_id (by omega) (by omega)
  have w2 : zw (x4 + 2) = x4 + 2 := zw_id (by omega) (by omega)
  have w3 : zw (x4 + 3) = x4 + 3 := zw_id (by omega) (by omega)
  have w4 : zw (x4 + 4) = x4 + 4 := zw_id (by omega) (by omega)
  have w5 : zw (x4 + 5) = x4 + 5 := zw_id (by omega) (by omega)
  have w6 : zw (x4 + 6) = x4 + 6 := zw_id (by omega) (by omega)
  unfold zIt zLo
  obtain ⟨v, f1, t1, f2, rk, rm, R2, T2⟩ := (show zOu q N f t 313 [(19, 0, 0), (0, q.2 (x4 + 1), 0)] 315 [(20, 1464, 0), (0, q.2 (x4 + 1), 0)] from (o_count (q := q) (t := t) hR))
  rw [zb_K_law2_1270]
  try simp only [w1, w2, w3, w4, w5]
  rw [zG2 (by omega) (by omega)]
  rw [zb_K_law2_1276, rk, zK_i]
  rw [zb_K_law2_1277]
  try simp only [w1, w2, w3, w4, w5]
  rw [zG2 (by omega) (by omega)]
  rw [zb_K_law2_1283, rm, zK_i]
  rw [zb_K_law2_1284, if_pos rfl]
  rw [zb_K_law2_1287, w6]
  exact ⟨_, _, f2, _, rfl, ZR_mono (by omega) R2, T2⟩
