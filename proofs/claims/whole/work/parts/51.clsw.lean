/-! ## the class: what is written on a line -/
theorem s_shiftRow0 {q : Int × (Int → Int)} {d : Nat} {σ : zS} {a y n : Int} (h : n ≤ 0 ∨ y < n) : zM (true, q) d 115 [(30, a, y), (0, n, 0)] σ = some ((9, 0, 0), σ) := by
  by_cases h1 : n ≤ 0
  · rw [ze_X_shiftRow, zb_X_shiftRow_0, if_pos (h1), zb_X_shiftRow_15]
  · rw [ze_X_shiftRow, zb_X_shiftRow_0, if_neg (h1), zb_X_shiftRow_2, if_pos (by omega), zb_X_shiftRow_15]
theorem c_dropB {q : Int × (Int → Int)} {d : Nat} {σ : zS} {u n : Int} (h0 : 0 ≤ n) (hn : n ≤ σ.1 u 4) (h8 : σ.1 u 4 ≤ 8) : zM (true, q) (d + 1) 118 [(16, u, 8), (0, n, 0)] σ = some ((9, 0, 0), (zup (zcpy (zcpy (zcpy (zcpy σ.1 (u + 1) n (u + 1) 0 (8 - n)) (u + 2) n (u + 2) 0 (8 - n)) (u + 3) n (u + 3) 0 (8 - n)) (u + 4) n (u + 4) 0 (8 - n)) u 4 (σ.1 u 4 - n), σ.2)) := by
  have e8 := zNL8
  by_cases h : σ.1 u 4 ≤ n
  · have e : σ.1 u 4 = n := by omega
    rw [ze_Uni_dropFirst, zb_Uni_dropFirst_0, if_pos (h), zb_Uni_dropFirst_6]
    try simp (disch := omega) only [Int.reduceAdd, Int.add_assoc, Int.zero_add]
    rw [s_shiftRow (by omega) (by omega) (by omega), zK_v, zb_Uni_dropFirst_13]
    try simp (disch := omega) only [Int.reduceAdd, Int.add_assoc, Int.zero_add]
    rw [s_shiftRow (by omega) (by omega) (by omega), zK_v, zb_Uni_dropFirst_17]
    try simp (disch := omega) only [Int.reduceAdd, Int.add_assoc, Int.zero_add, zNL8, zNL96]
    rw [s_shiftRow (by omega) (by omega) (by omega), zK_v, zb_Uni_dropFirst_21]
    try simp (disch := omega) only [Int.reduceAdd, Int.add_assoc, Int.zero_add, zNL8, zNL96]
    rw [s_shiftRow (by omega) (by omega) (by omega), zK_v, zb_Uni_dropFirst_25]
    try simp (disch := omega) only [zw_id]
    simp (disch := omega) only [zcpy_na, zNL8, e, zw_id]
  · rw [ze_Uni_dropFirst, zb_Uni_dropFirst_0, if_neg (h), zb_Uni_dropFirst_4]
    try simp (disch := omega) only [Int.reduceAdd, Int.add_assoc, Int.zero_add]
    rw [s_shiftRow (by omega) (by omega) (by omega), zK_v, zb_Uni_dropFirst_13]
    try simp (disch := omega) only [Int.reduceAdd, Int.add_assoc, Int.zero_add]
    rw [s_shiftRow (by omega) (by omega) (by omega), zK_v, zb_Uni_dropFirst_17]
    try simp (disch := omega) only [Int.reduceAdd, Int.add_assoc, Int.zero_add, zNL8, zNL96]
    rw [s_shiftRow (by omega) (by omega) (by omega), zK_v, zb_Uni_dropFirst_21]
    try simp (disch := omega) only [Int.reduceAdd, Int.add_assoc, Int.zero_add, zNL8, zNL96]
    rw [s_shiftRow (by omega) (by omega) (by omega), zK_v, zb_Uni_dropFirst_25]
    try simp (disch := omega) only [zw_id]
    simp (disch := omega) only [zcpy_na, zNL8, zw_id]
