/-! ## what a line, a unit, a place are -/
theorem ZR_line {N : Int} {f : Int → Int → Int} {l : Int} (hR : ZR N f f) (h0 : 0 ≤ l) (h1 : l < f 1465 3) : zLC (f 1465 (10 + 265 * l + 2)) f (46 + 18 * l) (f 1465) (10 + 265 * l) ∧ zIL N (f 1465) (10 + 265 * l) := by
  refine ⟨?_, (hR.2.1.2.2.1.2.2.2 l h0 h1).1⟩
  have := hR.2.1.2.1 l h0 h1
  rw [show (23 : Int) + 23 + 18 * l = 46 + 18 * l by omega] at this
  exact this
theorem ZR_4 {N : Int} {f : Int → Int → Int} (hR : ZR N f f) : f 23 4 = f 1465 3 ∧ 0 ≤ f 1465 3 ∧ f 1465 3 ≤ 4 := ⟨hR.2.1.1.1, hR.2.1.2.2.1.1, hR.2.1.2.2.1.2.1⟩
theorem r_isIn {q : Int × (Int → Int)} {d : Nat} {x y z : Int} {σ : zS} : zM (true, q) d 20 [(0, x, 0), (0, y, 0), (0, z, 0)] σ = some ((0, if y ≤ x ∧ x ≤ z then 1 else 0, 0), σ) := by
  by_cases c : y ≤ x ∧ x ≤ z
  · rw [if_pos c, r_isInT c.1 c.2]
  · rw [if_neg c, r_isInF (by omega)]
theorem zLT {q : Int × (Int → Int)} {d : Nat} {N : Int} {f : Int → Int → Int} {t : (Int → Int) × Nat × Nat × Nat × (Int → Int → Bool)} {l : Int} (hR : ZR N f f) (h0 : 0 ≤ l) (h1 : l < f 1465 3) : zM (true, q) (d + 1) 100 [(19, 0, 0), (0, l, 0)] (f, t) = some ((13, 46 + 18 * l, 0), (f, t)) := by
  have h4 := ZR_4 hR
  exact c_lineOfT (σ := (f, t)) h0 (by show l < f 23 4; omega) (by show f 23 4 ≤ 4; omega)
theorem zLF_ {q : Int × (Int → Int)} {d : Nat} {N : Int} {f : Int → Int → Int} {t : (Int → Int) × Nat × Nat × Nat × (Int → Int → Bool)} {l : Int} (hR : ZR N f f) (h : ¬(0 ≤ l ∧ l < f 1465 3)) : zM (true, q) (d + 1) 100 [(19, 0, 0), (0, l, 0)] (f, t) = some ((102, 0, 0), (f, zThr t)) := by
  have h4 := ZR_4 hR
  exact c_lineOfF (σ := (f, t)) (by show ¬(0 ≤ l ∧ l < f 23 4); omega)
theorem r_reply_1 {q : Int × (Int → Int)} {d : Nat} {f : Int → Int → Int} {t : (Int → Int) × Nat × Nat × Nat × (Int → Int → Bool)} {g : Int → Int} {l k : Int} (hn : ¬(0 ≤ l ∧ l < g 3)) (h0 : 0 ≤ g 3) (hm : g 3 ≤ 4) : zM (true, q) (d + 2) 181 [(20, 1464, 0), (0, l, 0), (0, k, 0)] (zrow f 1465 g, t) = some ((0, 0, 0), (zrow (zup f 1464 0 1) 1465 g, t)) := by
  rw [ze_M_reply, zb_M_reply_0, r_isLineF (by omega) h0 hm, zK_i, zb_M_reply_4, if_neg (by omega), zb_M_reply_5]
  try simp (disch := omega) only [Int.reduceAdd, zrow_r, zrow_in, zrow_up, zrow_ne, zupE]
  rw [if_neg (by omega)]
  try simp (disch := omega) only [Int.reduceAdd, zrow_r, zrow_in, zrow_up, zrow_ne, zupE]
  rw [zb_M_reply_12]
theorem r_air_1 {q : Int × (Int → Int)} {d : Nat} {f : Int → Int → Int} {t : (Int → Int) × Nat × Nat × Nat × (Int → Int → Bool)} {g : Int → Int} {l k w : Int} (hn : ¬(0 ≤ l ∧ l < g 3)) (h0 : 0 ≤ g 3) (hm : g 3 ≤ 4) : zM (true, q) (d + 2) 178 [(20, 1464, 0), (0, l, 0), (0, k, 0), (0, w, 0)] (zrow f 1465 g, t) = some ((0, 0, 0), (zrow (zup f 1464 0 1) 1465 g, t)) := by
  rw [ze_M_air, zb_M_air_0, r_isLineF (by omega) h0 hm, zK_i, zb_M_air_4, if_neg (by omega), zb_M_air_5]
  try simp (disch := omega) only [Int.reduceAdd, zrow_r, zrow_in, zrow_up, zrow_ne, zupE]
  rw [if_neg (by omega)]
  try simp (disch := omega) only [Int.reduceAdd, zrow_r, zrow_in, zrow_up, zrow_ne, zupE]
  rw [zb_M_air_19]
theorem r_air_2 {q : Int × (Int → Int)} {d : Nat} {f : Int → Int → Int} {t : (Int → Int) × Nat × Nat × Nat × (Int → Int → Bool)} {g : Int → Int} {l k w : Int} (hl : 0 ≤ l) (hlm : l < g 3) (hm : g 3 ≤ 4) (hw : ¬(0 ≤ w ∧ w ≤ 3)) : zM (true, q) (d + 2) 178 [(20, 1464, 0), (0, l, 0), (0, k, 0), (0, w, 0)] (zrow f 1465 g, t) = some ((0, 0, 0), (zrow (zup f 1464 0 2) 1465 g, t)) := by
  rw [ze_M_air, zb_M_air_0, r_isLineT hl hlm hm, zK_i, zb_M_air_4, if_pos (by omega), zb_M_air_7, r_isInF (by omega), zK_i, zb_M_air_11, if_neg (fun z => z rfl), zb_M_air_12]
  try simp (disch := omega) only [Int.reduceAdd, zrow_r, zrow_in, zrow_up, zrow_ne, zupE]
  rw [if_neg (by omega)]
  try simp (disch := omega) only [Int.reduceAdd, zrow_r, zrow_in, zrow_up, zrow_ne, zupE]
  rw [zb_M_air_19]
theorem r_unit_1 {q : Int × (Int → Int)} {d : Nat} {f : Int → Int → Int} {t : (Int → Int) × Nat × Nat × Nat × (Int → Int → Bool)} {g : Int → Int} {l k w : Int} (hn : ¬(0 ≤ l ∧ l < g 3)) (h0 : 0 ≤ g 3) (hm : g 3 ≤ 4) : zM (true, q) (d + 2) 175 [(20, 1464, 0), (0, l, 0), (0, k, 0), (0, w, 0)] (zrow f 1465 g, t) = some ((0, 0, 0), (zrow (zup f 1464 0 1) 1465 g, t)) := by
  rw [ze_M_unit, zb_M_unit_0, r_isLineF (by omega) h0 hm, zK_i, zb_M_unit_4, if_neg (by omega), zb_M_unit_5]
  try simp (disch := omega) only [Int.reduceAdd, zrow_r, zrow_in, zrow_up, zrow_ne, zupE]
  rw [if_pos (by omega)]
  try simp (disch := omega) only [Int.reduceAdd, zrow_r, zrow_in, zrow_up, zrow_ne, zupE]
  rw [zb_M_unit_34]
  try simp (disch := omega) only [Int.reduceAdd, zrow_r, zrow_in, zrow_up, zrow_ne, zupE]
  rw [if_neg (by omega)]
  try simp (disch := omega) only [Int.reduceAdd, zrow_r, zrow_in, zrow_up, zrow_ne, zupE]
  rw [zb_M_unit_37]
theorem r_unit_2 {q : Int × (Int → Int)} {d : Nat} {f : Int → Int → Int} {t : (Int → Int) × Nat × Nat × Nat × (Int → Int → Bool)} {g : Int → Int} {l k w : Int} (hl : 0 ≤ l) (hlm : l < g 3) (hm : g 3 ≤ 4) (hw : ¬(0 ≤ w ∧ w ≤ 2)) : zM (true, q) (d + 2) 175 [(20, 1464, 0), (0, l, 0), (0, k, 0), (0, w, 0)] (zrow f 1465 g, t) = some ((0, 0, 0), (zrow (zup f 1464 0 2) 1465 g, t)) := by
  rw [ze_M_unit, zb_M_unit_0, r_isLineT hl hlm hm, zK_i, zb_M_unit_4, if_pos (by omega), zb_M_unit_7, r_isInF (by omega), zK_i, zb_M_unit_11, if_neg (fun z => z rfl), zb_M_unit_12]
  try simp (disch := omega) only [Int.reduceAdd, zrow_r, zrow_in, zrow_up, zrow_ne, zupE]
  rw [if_pos (by omega)]
  try simp (disch := omega) only [Int.reduceAdd, zrow_r, zrow_in, zrow_up, zrow_ne, zupE]
  rw [zb_M_unit_34]
  try simp (disch := omega) only [Int.reduceAdd, zrow_r, zrow_in, zrow_up, zrow_ne, zupE]
  rw [if_neg (by omega)]
  try simp (disch := omega) only [Int.reduceAdd, zrow_r, zrow_in, zrow_up, zrow_ne, zupE]
  rw [zb_M_unit_37]
theorem r_line_1 {q : Int × (Int → Int)} {d : Nat} {f : Int → Int → Int} {t : (Int → Int) × Nat × Nat × Nat × (Int → Int → Bool)} {g : Int → Int} {l w : Int} (hn : ¬(0 ≤ l ∧ l < g 3)) (h0 : 0 ≤ g 3) (hm : g 3 ≤ 4) : zM (true, q) (d + 2) 172 [(20, 1464, 0), (0, l, 0), (0, w, 0)] (zrow f 1465 g, t) = some ((0, 0, 0), (zrow (zup f 1464 0 1) 1465 g, t)) := by
  rw [ze_M_line, zb_M_line_0, r_isLineF (by omega) h0 hm, zK_i, zb_M_line_4, if_neg (by omega), zb_M_line_5]
  try simp (disch := omega) only [Int.reduceAdd, zrow_r, zrow_in, zrow_up, zrow_ne, zupE]
  rw [if_neg (by omega)]
  try simp (disch := omega) only [Int.reduceAdd, zrow_r, zrow_in, zrow_up, zrow_ne, zupE]
  rw [zb_M_line_19]
theorem r_line_2 {q : Int × (Int → Int)} {d : Nat} {f : Int → Int → Int} {t : (Int → Int) × Nat × Nat × Nat × (Int → Int → Bool)} {g : Int → Int} {l w : Int} (hl : 0 ≤ l) (hlm : l < g 3) (hm : g 3 ≤ 4) (hw : ¬(0 ≤ w ∧ w ≤ 20)) : zM (true, q) (d + 2) 172 [(20, 1464, 0), (0, l, 0), (0, w, 0)] (zrow f 1465 g, t) = some ((0, 0, 0), (zrow (zup f 1464 0 2) 1465 g, t)) := by
  rw [ze_M_line, zb_M_line_0, r_isLineT hl hlm hm, zK_i, zb_M_line_4, if_pos (by omega), zb_M_line_7, r_isInF (by omega), zK_i, zb_M_line_11, if_neg (fun z => z rfl), zb_M_line_12]
  try simp (disch := omega) only [Int.reduceAdd, zrow_r, zrow_in, zrow_up, zrow_ne, zupE]
  rw [if_neg (by omega)]
  try simp (disch := omega) only [Int.reduceAdd, zrow_r, zrow_in, zrow_up, zrow_ne, zupE]
  rw [zb_M_line_19]
theorem r_reply_0 {q : Int × (Int → Int)} {d : Nat} {f : Int → Int → Int} {t : (Int → Int) × Nat × Nat × Nat × (Int → Int → Bool)} {g : Int → Int} {l k : Int} (hl : 0 ≤ l) (hlm : l < g 3) (hm : g 3 ≤ 4) (hr : rLR g (10 + 265 * l)) : zM (true, q) (d + 2) 181 [(20, 1464, 0), (0, l, 0), (0, k, 0)] (zrow f 1465 g, t) = some ((0, if 0 ≤ k ∧ k < g (10 + 265 * l + 2) then g (10 + 265 * l + (69 + k)) else -1, 0), (zrow (zup f 1464 0 0) 1465 g, t)) := by
  have h2 := hr.2.2.1
  by_cases c : 0 ≤ k ∧ k < g (10 + 265 * l + 2)
  · rw [if_pos c]
    rw [ze_M_reply, zb_M_reply_0, r_isLineT hl hlm hm, zK_i, zb_M_reply_4, if_pos (by omega), zb_M_reply_7]
    try simp (disch := omega) only [Int.reduceAdd, zrow_r, zrow_in, zrow_up, zrow_ne, zupE]
    rw [if_pos (by omega)]
    try simp (disch := omega) only [Int.reduceAdd, zrow_r, zrow_in, zrow_up, zrow_ne, zupE]
    rw [zb_M_reply_14, r_of hl (by omega) (by decide) (by decide), zK_i, zb_M_reply_20]
    try simp (disch := omega) only [zw_id]
    rw [r_isInT (by omega) (by omega), zK_i, zb_M_reply_23, if_neg (by omega), zb_M_reply_24]
    try simp (disch := omega) only [zw_id]
    rw [r_of hl (by omega) (by omega) (by omega), zK_i, zb_M_reply_30]
  · rw [if_neg c]
    rw [ze_M_reply, zb_M_reply_0, r_isLineT hl hlm hm, zK_i, zb_M_reply_4, if_pos (by omega), zb_M_reply_7]
    try simp (disch := omega) only [Int.reduceAdd, zrow_r, zrow_in, zrow_up, zrow_ne, zupE]
    rw [if_pos (by omega)]
    try simp (disch := omega) only [Int.reduceAdd, zrow_r, zrow_in, zrow_up, zrow_ne, zupE]
    rw [zb_M_reply_14, r_of hl (by omega) (by decide) (by decide), zK_i, zb_M_reply_20]
    try simp (disch := omega) only [zw_id]
    rw [r_isInF (by omega), zK_i, zb_M_reply_23, if_pos (by omega), zb_M_reply_31]
theorem o_reply {q : Int × (Int → Int)} {N : Int} {f : Int → Int → Int} {t : (Int → Int) × Nat × Nat × Nat × (Int → Int → Bool)} {l k : Int} (hR : ZR N f f) : zOw q N f t 180 [(19, 0, 0), (0, l, 0), (0, k, 0), (31, 1478, 1)] 181 [(20, 1464, 0), (0, l, 0), (0, k, 0)] := by
  have h4 := ZR_4 hR
  by_cases hl : 0 ≤ l ∧ l < f 1465 3
  · obtain ⟨hC, hI⟩ := ZR_line hR hl.1 hl.2
    have hr := hI.1
    have hla := zLT (q := q) (d := 1896) (t := t) hR hl.1 hl.2
    have hr2 := hr.2.2.1
    have e6 : f (46 + 18 * l) 6 = f 1465 (10 + 265 * l + 2) := zc_f6 hC
    have hx : zM (true, q) 1898 179 [(19, 0, 0), (0, l, 0), (0, k, 0)] (f, t) = some ((0, if 0 ≤ k ∧ k < f 1465 (10 + 265 * l + 2) then f 1465 (10 + 265 * l + (69 + k)) else -1, 0), (f, t)) := by
      rw [ze_X_reply, zb_X_reply_0, hla, zK_13, zb_X_reply_3]
      by_cases c : 0 ≤ k ∧ k < f 1465 (10 + 265 * l + 2)
      · rw [if_pos c, if_neg (by omega), zb_X_reply_6]
        show (if f (46 + 18 * l) 6 ≤ k then _ else _) = _
        rw [e6, if_neg (by omega), zb_X_reply_10, s_at c.1 (by omega), zK_i, zb_X_reply_14]
        show some ((0, f (46 + 18 * l + 17) k, 0), (f, t)) = _
        rw [hC.2.2.2.2.2.2 k c.1 c.2]
      · rw [if_neg c]
        by_cases c1 : k < 0
        · rw [if_pos c1, zb_X_reply_15]
        · rw [if_neg c1, zb_X_reply_6]
          show (if f (46 + 18 * l) 6 ≤ k then _ else _) = _
          rw [e6, if_pos (by omega), zb_X_reply_15]
    exact zOw_v rfl hR (k_reply_v hx) (fun h => r_reply_0 (d := 1897) hl.1 hl.2 h4.2.2 hr)
  · have hx : zM (true, q) 1898 179 [(19, 0, 0), (0, l, 0), (0, k, 0)] (f, t) = some ((102, 0, 0), (f, zThr t)) := by
      rw [ze_X_reply, zb_X_reply_0, zLF_ hR hl]
      rfl
    exact zOw_t rfl hR (by decide) (k_reply_102 hx) (fun h => r_reply_1 (d := 1897) hl h4.2.1 h4.2.2)
theorem r_unit_0 {q : Int × (Int → Int)} {d : Nat} {f : Int → Int → Int} {t : (Int → Int) × Nat × Nat × Nat × (Int → Int → Bool)} {g : Int → Int} {l k w : Int} (hl : 0 ≤ l) (hlm : l < g 3) (hm : g 3 ≤ 4) (hr : rLR g (10 + 265 * l)) (hw : 0 ≤ w ∧ w ≤ 2) : zM (true, q) (d + 3) 175 [(20, 1464, 0), (0, l, 0), (0, k, 0), (0, w, 0)] (zrow f 1465 g, t) = some ((0, if 0 ≤ k ∧ k < g (10 + 265 * l + 7) + g (10 + 265 * l + 6) then (if k < g (10 + 265 * l + 7) then g (10 + 265 * l + (17 + 4 * k + w)) else if w = 2 then -1 else g (10 + 265 * l + (73 + 2 * (k - g (10 + 265 * l + 7)) + w))) else -1, 0), (zrow (zup f 1464 0 0) 1465 g, t)) := by
  have h7 := hr.2.2.2.2.2.2.2.1
  have h6 := hr.2.2.2.2.2.2.1
  by_cases c : 0 ≤ k ∧ k < g (10 + 265 * l + 7) + g (10 + 265 * l + 6)
  · rw [if_pos c]
    by_cases c7 : k < g (10 + 265 * l + 7)
    · rw [if_pos c7]
      rw [ze_M_unit, zb_M_unit_0, r_isLineT hl hlm hm, zK_i, zb_M_unit_4, if_pos (by omega), zb_M_unit_7, r_isInT (by omega) (by omega), zK_i, zb_M_unit_11, if_pos (by decide), zb_M_unit_14]
      try simp (disch := omega) only [Int.reduceAdd, zrow_r, zrow_in, zrow_up, zrow_ne, zupE]
      rw [if_neg (by omega)]
      try simp (disch := omega) only [Int.reduceAdd, zrow_r, zrow_in, zrow_up, zrow_ne, zupE]
      rw [zb_M_unit_19, r_of hl (by omega) (by decide) (by decide), zK_i, zb_M_unit_25, r_of hl (by omega) (by decide) (by decide), zK_i, zb_M_unit_29]
      try simp (disch := omega) only [zw_id]
      rw [r_isInT (by omega) (by omega), zK_i, zb_M_unit_33, if_pos (by omega), zb_M_unit_41, r_of hl (by omega) (by decide) (by decide), zK_i, zb_M_unit_46, if_neg (by omega), zb_M_unit_47, r_held hl (by omega) (by omega) (by omega) (by omega) (by omega), zK_i, zb_M_unit_52]
    · rw [if_neg c7]
      by_cases c2 : w = 2
      · rw [if_pos c2]
        rw [ze_M_unit, zb_M_unit_0, r_isLineT hl hlm hm, zK_i, zb_M_unit_4, if_pos (by omega), zb_M_unit_7, r_isInT (by omega) (by omega), zK_i, zb_M_unit_11, if_pos (by decide), zb_M_unit_14]
        try simp (disch := omega) only [Int.reduceAdd, zrow_r, zrow_in, zrow_up, zrow_ne, zupE]
        rw [if_neg (by omega)]
        try simp (disch := omega) only [Int.reduceAdd, zrow_r, zrow_in, zrow_up, zrow_ne, zupE]
        rw [zb_M_unit_19, r_of hl (by omega) (by decide) (by decide), zK_i, zb_M_unit_25, r_of hl (by omega) (by decide) (by decide), zK_i, zb_M_unit_29]
        try simp (disch := omega) only [zw_id]
        rw [r_isInT (by omega) (by omega), zK_i, zb_M_unit_33, if_pos (by omega), zb_M_unit_41, r_of hl (by omega) (by decide) (by decide), zK_i, zb_M_unit_46, if_pos (by omega), zb_M_unit_53, if_neg (fun z => z c2), zb_M_unit_56]
      · rw [if_neg c2]
        rw [ze_M_unit, zb_M_unit_0, r_isLineT hl hlm hm, zK_i, zb_M_unit_4, if_pos (by omega), zb_M_unit_7, r_isInT (by omega) (by omega), zK_i, zb_M_unit_11, if_pos (by decide), zb_M_unit_14]
        try simp (disch := omega) only [Int.reduceAdd, zrow_r, zrow_in, zrow_up, zrow_ne, zupE]
        rw [if_neg (by omega)]
        try simp (disch := omega) only [Int.reduceAdd, zrow_r, zrow_in, zrow_up, zrow_ne, zupE]
        rw [zb_M_unit_19, r_of hl (by omega) (by decide) (by decide), zK_i, zb_M_unit_25, r_of hl (by omega) (by decide) (by decide), zK_i, zb_M_unit_29]
        try simp (disch := omega) only [zw_id]
        rw [r_isInT (by omega) (by omega), zK_i, zb_M_unit_33, if_pos (by omega), zb_M_unit_41, r_of hl (by omega) (by decide) (by decide), zK_i, zb_M_unit_46, if_pos (by omega), zb_M_unit_53, if_pos (c2), zb_M_unit_58, r_of hl (by omega) (by decide) (by decide), zK_i, zb_M_unit_65]
        try simp (disch := omega) only [zw_id]
        rw [r_queued hl (by omega) (by omega) (by omega) (by omega) (by omega), zK_i, zb_M_unit_68]
  · rw [if_neg c]
    rw [ze_M_unit, zb_M_unit_0, r_isLineT hl hlm hm, zK_i, zb_M_unit_4, if_pos (by omega), zb_M_unit_7, r_isInT (by omega) (by omega), zK_i, zb_M_unit_11, if_pos (by decide), zb_M_unit_14]
    try simp (disch := omega) only [Int.reduceAdd, zrow_r, zrow_in, zrow_up, zrow_ne, zupE]
    rw [if_neg (by omega)]
    try simp (disch := omega) only [Int.reduceAdd, zrow_r, zrow_in, zrow_up, zrow_ne, zupE]
    rw [zb_M_unit_19, r_of hl (by omega) (by decide) (by decide), zK_i, zb_M_unit_25, r_of hl (by omega) (by decide) (by decide), zK_i, zb_M_unit_29]
    try simp (disch := omega) only [zw_id]
    rw [r_isInF (by omega), zK_i, zb_M_unit_33, if_neg (by omega), zb_M_unit_34]
    try simp (disch := omega) only [Int.reduceAdd, zrow_r, zrow_in, zrow_up, zrow_ne, zupE]
    rw [if_pos (by omega)]
    try simp (disch := omega) only [Int.reduceAdd, zrow_r, zrow_in, zrow_up, zrow_ne, zupE]
    rw [zb_M_unit_39]
theorem o_unit {q : Int × (Int → Int)} {N : Int} {f : Int → Int → Int} {t : (Int → Int) × Nat × Nat × Nat × (Int → Int → Bool)} {l k w : Int} (hR : ZR N f f) : zOw q N f t 174 [(19, 0, 0), (0, l, 0), (0, k, 0), (0, w, 0), (31, 1478, 1)] 175 [(20, 1464, 0), (0, l, 0), (0, k, 0), (0, w, 0)] := by
  have h4 := ZR_4 hR
  by_cases hl : 0 ≤ l ∧ l < f 1465 3
  · obtain ⟨hC, hI⟩ := ZR_line hR hl.1 hl.2
    have hr := hI.1
    have hla := zLT (q := q) (d := 1896) (t := t) hR hl.1 hl.2
    have h7 := hr.2.2.2.2.2.2.2.1
    have h6 := hr.2.2.2.2.2.2.1
    have e6 : f (46 + 18 * l + 1) 4 = f 1465 (10 + 265 * l + 6) := hC.2.1
    have e7 : f (46 + 18 * l + 6) 4 = f 1465 (10 + 265 * l + 7) := hC.2.2.1
    have hrow : zM (true, q) 1897 128 [(13, 46 + 18 * l, 0)] (f, t) = some ((0, f 1465 (10 + 265 * l + 7) + f 1465 (10 + 265 * l + 6), 0), (f, t)) := by
      rw [c_row (σ := (f, t)) (by show 0 ≤ f _ _; omega) (by show f _ _ ≤ _; omega) (by show 0 ≤ f _ _; omega) (by show f _ _ ≤ _; omega)]
      show some ((0, f (46 + 18 * l + 6) 4 + f (46 + 18 * l + 1) 4, 0), (f, t)) = _
      rw [e6, e7]
    by_cases hw : 0 ≤ w ∧ w ≤ 2
    · have hx : zM (true, q) 1898 173 [(19, 0, 0), (0, l, 0), (0, k, 0), (0, w, 0)] (f, t) = some ((0, if 0 ≤ k ∧ k < f 1465 (10 + 265 * l + 7) + f 1465 (10 + 265 * l + 6) then (if k < f 1465 (10 + 265 * l + 7) then f 1465 (10 + 265 * l + (17 + 4 * k + w)) else if w = 2 then -1 else f 1465 (10 + 265 * l + (73 + 2 * (k - f 1465 (10 + 265 * l + 7)) + w))) else -1, 0), (f, t)) := by
        rw [ze_X_unit, zb_X_unit_0, hla, zK_13, zb_X_unit_3, if_neg (by omega), zb_X_unit_6, if_pos hw.2, zb_X_unit_14]
        show (if k < 0 then _ else zD (true, q) 1898 zc_X_unit (zat zc_X_unit 20) [(19, 0, 0), (0, l, 0), (0, k, 0), (0, w, 0), (13, 46 + 18 * l, 0), (0, f (46 + 18 * l + 6) 4, 0), (2, 0, 0), (2, 0, 0)] [] (f, t)) = _
        rw [e7]
        by_cases c : 0 ≤ k ∧ k < f 1465 (10 + 265 * l + 7) + f 1465 (10 + 265 * l + 6)
        · rw [if_pos c, if_neg (by omega), zb_X_unit_20, hrow, zK_i, zb_X_unit_23, if_pos c.2, zb_X_unit_26]
          by_cases c7 : k < f 1465 (10 + 265 * l + 7)
          · rw [if_pos c7, if_neg (by omega), zb_X_unit_29, if_neg (by omega), zb_X_unit_38]
            rcases (by omega : w = 0 ∨ w = 1 ∨ w = 2) with rfl | rfl | rfl
            · show zD (true, q) 1898 zc_X_unit (zat zc_X_unit 46) _ [] (f, t) = _
              rw [zb_X_unit_46, s_at c.1 (by omega), zK_i, zb_X_unit_50, ← hC.2.2.2.1 k 0 c.1 c7 (by decide) (by decide), Int.add_assoc]
              rfl
            · show zD (true, q) 1898 zc_X_unit (zat zc_X_unit 51) _ [] (f, t) = _
              rw [zb_X_unit_51, s_at c.1 (by omega), zK_i, zb_X_unit_55, ← hC.2.2.2.1 k 1 c.1 c7 (by decide) (by decide), Int.add_assoc]
              rfl
            · show zD (true, q) 1898 zc_X_unit (zat zc_X_unit 56) _ [] (f, t) = _
              rw [zb_X_unit_56, if_neg (by omega), zb_X_unit_59, zNL8, s_at c.1 (by omega), zK_i, zb_X_unit_63, ← hC.2.2.2.1 k 2 c.1 c7 (by decide) (by decide), Int.add_assoc]
              rfl
          · rw [if_neg c7, if_pos (by omega), zb_X_unit_32, if_pos (by omega), zb_X_unit_40, zw_id (by omega) (by omega)]
            rcases (by omega : w = 0 ∨ w = 1 ∨ w = 2) with rfl | rfl | rfl
            · show zD (true, q) 1898 zc_X_unit (zat zc_X_unit 46) _ [] (f, t) = _
              rw [zb_X_unit_46, s_at (by omega) (by omega), zK_i, zb_X_unit_50, if_neg (by decide), ← hC.2.2.2.2.1 (k - f 1465 (10 + 265 * l + 7)) 0 (by omega) (by omega) (by decide) (by decide), Int.add_assoc]
              rfl
            · show zD (true, q) 1898 zc_X_unit (zat zc_X_unit 51) _ [] (f, t) = _
              rw [zb_X_unit_51, s_at (by omega) (by omega), zK_i, zb_X_unit_55, if_neg (by decide), ← hC.2.2.2.2.1 (k - f 1465 (10 + 265 * l + 7)) 1 (by omega) (by omega) (by decide) (by decide), Int.add_assoc]
              rfl
            · show zD (true, q) 1898 zc_X_unit (zat zc_X_unit 56) _ [] (f, t) = _
              rw [zb_X_unit_56, if_pos (by omega), zb_X_unit_64, if_pos rfl]
        · rw [if_neg c]
          by_cases c1 : k < 0
          · rw [if_pos c1, zb_X_unit_24]
          · rw [if_neg c1, zb_X_unit_20, hrow, zK_i, zb_X_unit_23, if_neg (by omega), zb_X_unit_24]
      exact zOw_v rfl hR (k_unit_v hx) (fun h => r_unit_0 (d := 1896) hl.1 hl.2 h4.2.2 hr hw)
    · have hx : zM (true, q) 1898 173 [(19, 0, 0), (0, l, 0), (0, k, 0), (0, w, 0)] (f, t) = some ((103, 0, 0), (f, zThr t)) := by
        rw [ze_X_unit, zb_X_unit_0, hla, zK_13, zb_X_unit_3]
        by_cases c : w < 0
        · rw [if_pos c, zb_X_unit_9]
          rfl
        · rw [if_neg c, zb_X_unit_6, if_neg (by omega), zb_X_unit_9]
          rfl
      exact zOw_t rfl hR (by decide) (k_unit_103 hx) (fun h => r_unit_2 (d := 1897) hl.1 hl.2 h4.2.2 hw)
  · have hx : zM (true, q) 1898 173 [(19, 0, 0), (0, l, 0), (0, k, 0), (0, w, 0)] (f, t) = some ((102, 0, 0), (f, zThr t)) := by
      rw [ze_X_unit, zb_X_unit_0, zLF_ hR hl]
      rfl
    exact zOw_t rfl hR (by decide) (k_unit_102 hx) (fun h => r_unit_1 (d := 1897) hl h4.2.1 h4.2.2)
theorem r_air_0 {q : Int × (Int → Int)} {d : Nat} {f : Int → Int → Int} {t : (Int → Int) × Nat × Nat × Nat × (Int → Int → Bool)} {g : Int → Int} {l k w : Int} (hl : 0 ≤ l) (hlm : l < g 3) (hm : g 3 ≤ 4) (hr : rLR g (10 + 265 * l)) (hw : 0 ≤ w ∧ w ≤ 3) : zM (true, q) (d + 3) 178 [(20, 1464, 0), (0, l, 0), (0, k, 0), (0, w, 0)] (zrow f 1465 g, t) = some ((0, if 0 ≤ k ∧ k < g (10 + 265 * l + 2) then (if w = 0 ∨ w = 3 ∨ g (10 + 265 * l + (49 + 5 * k)) = 2 then g (10 + 265 * l + (49 + 5 * k + w)) else -1) else -1, 0), (zrow (zup f 1464 0 0) 1465 g, t)) := by
  have h2 := hr.2.2.1
  by_cases c : 0 ≤ k ∧ k < g (10 + 265 * l + 2)
  · rw [if_pos c]
    by_cases c0 : w = 0
    · rw [if_pos (Or.inl c0)]
      rw [ze_M_air, zb_M_air_0, r_isLineT hl hlm hm, zK_i, zb_M_air_4, if_pos (by omega), zb_M_air_7, r_isInT (by omega) (by omega), zK_i, zb_M_air_11, if_pos (by decide), zb_M_air_14]
      try simp (disch := omega) only [Int.reduceAdd, zrow_r, zrow_in, zrow_up, zrow_ne, zupE]
      rw [if_pos (by omega)]
      try simp (disch := omega) only [Int.reduceAdd, zrow_r, zrow_in, zrow_up, zrow_ne, zupE]
      rw [zb_M_air_21, r_of hl (by omega) (by omega) (by omega), zK_i, zb_M_air_27]
      try simp (disch := omega) only [zw_id]
      rw [r_isInT (by omega) (by omega), zK_i, zb_M_air_30, if_pos (by decide), zb_M_air_33, if_pos (c0), zb_M_air_48, if_neg (by decide), zb_M_air_54]
      try simp (disch := omega) only [zw_id]
      rw [r_of hl (by omega) (by omega) (by omega), zK_i, zb_M_air_64]
    · by_cases c3 : w = 3
      · rw [if_pos (Or.inr (Or.inl c3))]
        rw [ze_M_air, zb_M_air_0, r_isLineT hl hlm hm, zK_i, zb_M_air_4, if_pos (by omega), zb_M_air_7, r_isInT (by omega) (by omega), zK_i, zb_M_air_11, if_pos (by decide), zb_M_air_14]
        try simp (disch := omega) only [Int.reduceAdd, zrow_r, zrow_in, zrow_up, zrow_ne, zupE]
        rw [if_pos (by omega)]
        try simp (disch := omega) only [Int.reduceAdd, zrow_r, zrow_in, zrow_up, zrow_ne, zupE]
        rw [zb_M_air_21, r_of hl (by omega) (by omega) (by omega), zK_i, zb_M_air_27]
        try simp (disch := omega) only [zw_id]
        rw [r_isInT (by omega) (by omega), zK_i, zb_M_air_30, if_pos (by decide), zb_M_air_33, if_neg (c0), zb_M_air_35, if_pos (c3), zb_M_air_48, if_neg (by decide), zb_M_air_54]
        try simp (disch := omega) only [zw_id]
        rw [r_of hl (by omega) (by omega) (by omega), zK_i, zb_M_air_64]
      · by_cases c2 : g (10 + 265 * l + (49 + 5 * k)) = 2
        · rw [if_pos (Or.inr (Or.inr c2))]
          rw [ze_M_air, zb_M_air_0, r_isLineT hl hlm hm, zK_i, zb_M_air_4, if_pos (by omega), zb_M_air_7, r_isInT (by omega) (by omega), zK_i, zb_M_air_11, if_pos (by decide), zb_M_air_14]
          try simp (disch := omega) only [Int.reduceAdd, zrow_r, zrow_in, zrow_up, zrow_ne, zupE]
          rw [if_pos (by omega)]
          try simp (disch := omega) only [Int.reduceAdd, zrow_r, zrow_in, zrow_up, zrow_ne, zupE]
          rw [zb_M_air_21, r_of hl (by omega) (by omega) (by omega), zK_i, zb_M_air_27]
          try simp (disch := omega) only [zw_id]
          rw [r_isInT (by omega) (by omega), zK_i, zb_M_air_30, if_pos (by decide), zb_M_air_33, if_neg (c0), zb_M_air_35, if_neg (c3), zb_M_air_38]
          try simp (disch := omega) only [zw_id]
          rw [r_of hl (by omega) (by omega) (by omega), zK_i, zb_M_air_46, if_neg (fun z => z c2), zb_M_air_48, if_neg (by decide), zb_M_air_54]
          try simp (disch := omega) only [zw_id]
          rw [r_of hl (by omega) (by omega) (by omega), zK_i, zb_M_air_64]
        · rw [if_neg (show ¬(w = 0 ∨ w = 3 ∨ g (10 + 265 * l + (49 + 5 * k)) = 2) by omega)]
          rw [ze_M_air, zb_M_air_0, r_isLineT hl hlm hm, zK_i, zb_M_air_4, if_pos (by omega), zb_M_air_7, r_isInT (by omega) (by omega), zK_i, zb_M_air_11, if_pos (by decide), zb_M_air_14]
          try simp (disch := omega) only [Int.reduceAdd, zrow_r, zrow_in, zrow_up, zrow_ne, zupE]
          rw [if_pos (by omega)]
          try simp (disch := omega) only [Int.reduceAdd, zrow_r, zrow_in, zrow_up, zrow_ne, zupE]
          rw [zb_M_air_21, r_of hl (by omega) (by omega) (by omega), zK_i, zb_M_air_27]
          try simp (disch := omega) only [zw_id]
          rw [r_isInT (by omega) (by omega), zK_i, zb_M_air_30, if_pos (by decide), zb_M_air_33, if_neg (c0), zb_M_air_35, if_neg (c3), zb_M_air_38]
          try simp (disch := omega) only [zw_id]
          rw [r_of hl (by omega) (by omega) (by omega), zK_i, zb_M_air_46, if_pos (c2), zb_M_air_50, if_pos (rfl), zb_M_air_65]
  · rw [if_neg c]
    rw [ze_M_air, zb_M_air_0, r_isLineT hl hlm hm, zK_i, zb_M_air_4, if_pos (by omega), zb_M_air_7, r_isInT (by omega) (by omega), zK_i, zb_M_air_11, if_pos (by decide), zb_M_air_14]
    try simp (disch := omega) only [Int.reduceAdd, zrow_r, zrow_in, zrow_up, zrow_ne, zupE]
    rw [if_pos (by omega)]
    try simp (disch := omega) only [Int.reduceAdd, zrow_r, zrow_in, zrow_up, zrow_ne, zupE]
    rw [zb_M_air_21, r_of hl (by omega) (by omega) (by omega), zK_i, zb_M_air_27]
    try simp (disch := omega) only [zw_id]
    rw [r_isInF (by omega), zK_i, zb_M_air_30, if_neg (fun z => z rfl), zb_M_air_31]
theorem o_air {q : Int × (Int → Int)} {N : Int} {f : Int → Int → Int} {t : (Int → Int) × Nat × Nat × Nat × (Int → Int → Bool)} {l k w : Int} (hR : ZR N f f) : zOw q N f t 177 [(19, 0, 0), (0, l, 0), (0, k, 0), (0, w, 0), (31, 1478, 1)] 178 [(20, 1464, 0), (0, l, 0), (0, k, 0), (0, w, 0)] := by
  have h4 := ZR_4 hR
  by_cases hl : 0 ≤ l ∧ l < f 1465 3
  · obtain ⟨hC, hI⟩ := ZR_line hR hl.1 hl.2
    have hr := hI.1
    have hla := zLT (q := q) (d := 1896) (t := t) hR hl.1 hl.2
    have h2 := hr.2.2.1
    have e6 : f (46 + 18 * l) 6 = f 1465 (10 + 265 * l + 2) := zc_f6 hC
    by_cases hw : 0 ≤ w ∧ w ≤ 3
    · have hx : zM (true, q) 1898 176 [(19, 0, 0), (0, l, 0), (0, k, 0), (0, w, 0)] (f, t) = some ((0, if 0 ≤ k ∧ k < f 1465 (10 + 265 * l + 2) then (if w = 0 ∨ w = 3 ∨ f 1465 (10 + 265 * l + (49 + 5 * k)) = 2 then f 1465 (10 + 265 * l + (49 + 5 * k + w)) else -1) else -1, 0), (f, t)) := by
        rw [ze_X_air, zb_X_air_0, hla, zK_13, zb_X_air_3, if_neg (by omega), zb_X_air_6, if_pos hw.2, zb_X_air_14]
        by_cases c : 0 ≤ k ∧ k < f 1465 (10 + 265 * l + 2)
        · have hA := hI.2.2.2.1 k c.1 (by omega)
          have hc := hC.2.2.2.2.2.1 k c.1 c.2
          have eB : (10 : Int) + 265 * l + (49 + 5 * k + 0) = 10 + 265 * l + (49 + 5 * k) := by omega
          rw [eB] at hA hc
          rw [if_pos c, if_neg (by omega), zb_X_air_16]
          show (if k < f (46 + 18 * l) 6 then _ else _) = _
          rw [e6, if_pos c.2, zb_X_air_22, s_at c.1 (by omega), zK_i, zb_X_air_27]
          show zD (true, q) 1898 zc_X_air _ [(19, 0, 0), (0, l, 0), (0, k, 0), (0, w, 0), (13, 46 + 18 * l, 0), (0, f (46 + 18 * l + 11 + 1) k, 0)] [] (f, t) = _
          rw [show (46 : Int) + 18 * l + 11 + 1 = 46 + 18 * l + 12 by omega, hc.1]
          rcases (by omega : w = 0 ∨ w = 1 ∨ w = 2 ∨ w = 3) with rfl | rfl | rfl | rfl
          · show zD (true, q) 1898 zc_X_air (zat zc_X_air 30) _ [] (f, t) = _
            rw [zb_X_air_30, if_pos (Or.inl rfl), eB]
          · show zD (true, q) 1898 zc_X_air (zat zc_X_air 32) _ [] (f, t) = _
            rw [zb_X_air_32]
            by_cases c2 : f 1465 (10 + 265 * l + (49 + 5 * k)) = 2
            · rw [if_neg (fun z => z c2), if_pos (Or.inr (Or.inr c2)), zb_X_air_35, s_at c.1 (by omega), zK_i, zb_X_air_40]
              show some ((0, f (46 + 18 * l + 11 + 2) k, 0), (f, t)) = _
              rw [show (46 : Int) + 18 * l + 11 + 2 = 46 + 18 * l + 13 by omega, (hc.2.2 c2).1]
            · rw [if_pos c2, if_neg (by omega), zb_X_air_41]
          · show zD (true, q) 1898 zc_X_air (zat zc_X_air 43) _ [] (f, t) = _
            rw [zb_X_air_43]
            by_cases c2 : f 1465 (10 + 265 * l + (49 + 5 * k)) = 2
            · rw [if_neg (fun z => z c2), if_pos (Or.inr (Or.inr c2)), zb_X_air_46, s_at c.1 (by omega), zK_i, zb_X_air_51]
              show some ((0, f (46 + 18 * l + 11 + 4) k, 0), (f, t)) = _
              rw [show (46 : Int) + 18 * l + 11 + 4 = 46 + 18 * l + 15 by omega, (hc.2.2 c2).2.2]
            · rw [if_pos c2, if_neg (by omega), zb_X_air_52]
          · show zD (true, q) 1898 zc_X_air (zat zc_X_air 54) _ [] (f, t) = _
            rw [zb_X_air_54, if_pos (Or.inr (Or.inl rfl))]
            by_cases c0 : f 1465 (10 + 265 * l + (49 + 5 * k)) = 0
            · rw [if_pos c0, zb_X_air_63, hA.2.2.1 c0]
            · rw [if_neg c0, zb_X_air_56, ze_Air_isBad, zb_Air_isBad_0, s_at c.1 (by omega), zK_i, zb_Air_isBad_4]
              have e16 : (f, t).1 (46 + 18 * l + 11 + 5) k = f 1465 (10 + 265 * l + (49 + 5 * k + 3)) := by
                show f (46 + 18 * l + 11 + 5) k = _
                rw [show (46 : Int) + 18 * l + 11 + 5 = 46 + 18 * l + 16 by omega]
                exact hc.2.1 c0
              rw [e16]
              by_cases cb : f 1465 (10 + 265 * l + (49 + 5 * k + 3)) = 0
              · rw [if_pos cb, zb_Air_isBad_7, zG2 (by decide) (by decide), zK_i, zb_X_air_60, if_pos rfl, zb_X_air_63, cb]
              · rw [if_neg cb, zb_Air_isBad_5, zG2 (by decide) (by decide), zK_i, zb_X_air_60, if_neg (by decide), zb_X_air_61, show f 1465 (10 + 265 * l + (49 + 5 * k + 3)) = 1 by omega]
        · rw [if_neg c]
          by_cases c1 : k < 0
          · rw [if_pos c1, zb_X_air_20]
          · rw [if_neg c1, zb_X_air_16]
            show (if k < f (46 + 18 * l) 6 then _ else _) = _
            rw [e6, if_neg (by omega), zb_X_air_20]
      exact zOw_v rfl hR (k_air_v hx) (fun h => r_air_0 (d := 1896) hl.1 hl.2 h4.2.2 hr hw)
    · have hx : zM (true, q) 1898 176 [(19, 0, 0), (0, l, 0), (0, k, 0), (0, w, 0)] (f, t) = some ((103, 0, 0), (f, zThr t)) := by
        rw [ze_X_air, zb_X_air_0, hla, zK_13, zb_X_air_3]
        by_cases c : w < 0
        · rw [if_pos c, zb_X_air_9]
          rfl
        · rw [if_neg c, zb_X_air_6, if_neg (by omega), zb_X_air_9]
          rfl
      exact zOw_t rfl hR (by decide) (k_air_103 hx) (fun h => r_air_2 (d := 1897) hl.1 hl.2 h4.2.2 hw)
  · have hx : zM (true, q) 1898 176 [(19, 0, 0), (0, l, 0), (0, k, 0), (0, w, 0)] (f, t) = some ((102, 0, 0), (f, zThr t)) := by
      rw [ze_X_air, zb_X_air_0, zLF_ hR hl]
      rfl
    exact zOw_t rfl hR (by decide) (k_air_102 hx) (fun h => r_air_1 (d := 1897) hl h4.2.1 h4.2.2)
