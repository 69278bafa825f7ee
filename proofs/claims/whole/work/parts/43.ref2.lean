/-! ## the other form: what is done to a line's row -/
theorem zfst_hit {p : Int → Bool} {no : Int} {n : Nat} {i : Int} (h : p i = true) : zfst p no (n + 1) i = i := by
  show (match p i with | true => i | false => zfst p no n (i + 1)) = i
  rw [h]
theorem zfst_miss {p : Int → Bool} {no : Int} {n : Nat} {i : Int} (h : p i = false) : zfst p no (n + 1) i = zfst p no n (i + 1) := by
  show (match p i with | true => i | false => zfst p no n (i + 1)) = _
  rw [h]
def mdn (g : Int → Int) (lo hi s : Int) : Int → Int := fun j => if lo ≤ j ∧ j < hi then g (j - s) else g j
theorem mdn_in {g : Int → Int} {lo hi s j : Int} (h : lo ≤ j) (h2 : j < hi) : mdn g lo hi s j = g (j - s) := if_pos ⟨h, h2⟩
theorem mdn_out {g : Int → Int} {lo hi s j : Int} (h : j < lo ∨ hi ≤ j) : mdn g lo hi s j = g j := if_neg (fun z => by omega)
theorem mdn_0 {g : Int → Int} {lo hi s : Int} (h : hi ≤ lo) : mdn g lo hi s = g := by
  funext j
  exact mdn_out (by omega)
theorem mdn_s {g : Int → Int} {lo hi s k i : Int} (hl : lo ≤ hi) (hs : 0 < s) (hk : k = lo - 1) (hi9 : i = lo - 1 - s) : zup1 (mdn g lo hi s) k (mdn g lo hi s i) = mdn g (lo - 1) hi s := by
  subst hk hi9
  funext j
  rw [mdn_out (j := lo - 1 - s) (by omega)]
  by_cases hj : j = lo - 1
  · rw [zup1_eq hj, mdn_in (by omega) (by omega), hj]
  · rw [zup1_ne hj]
    by_cases h2 : lo ≤ j ∧ j < hi
    · rw [mdn_in h2.1 h2.2, mdn_in (by omega) h2.2]
    · rw [mdn_out (by omega), mdn_out (by omega)]
theorem l_emp1 {q : Int × (Int → Int)} {d : Nat} {f : Int → Int → Int} {t : (Int → Int) × Nat × Nat × Nat × (Int → Int → Bool)} {g : Int → Int} {l : Int} (hl : 0 ≤ l) (hl4 : l < 4) : ∀ (k : Nat) (i : Int), 0 ≤ i → i + k = 20 → zD (true, q) (d + 1) zc_M_empties (zat zc_M_empties 2) [(20, 1464, 0), (0, l, 0), (0, i, 0)] [] (zrow f 1465 (mfil g (10 + 265 * l + 49) i 0), t) = zD (true, q) (d + 1) zc_M_empties (zat zc_M_empties 16) [(20, 1464, 0), (0, l, 0), (0, 0, 0)] [] (zrow f 1465 (mfil g (10 + 265 * l + 49) 20 0), t) := by
  intro k
  induction k with
  | zero =>
    intro i h0 h1
    have : i = 20 := by omega
    subst this
    rw [zb_M_empties_2, if_pos (by omega), zb_M_empties_14]
  | succ k ih =>
    intro i h0 h1
    rw [zb_M_empties_2, if_neg (by omega), zb_M_empties_5]
    try simp (disch := omega) only [zw_id]
    rw [r_lays (by omega) (by omega) (by omega) (by omega) , zK_v, zb_M_empties_12]
    try simp (disch := omega) only [zw_id]
    rw [mfil_s h0 (by omega)]
    exact ih (i + 1) (by omega) (by omega)
theorem l_emp2 {q : Int × (Int → Int)} {d : Nat} {f : Int → Int → Int} {t : (Int → Int) × Nat × Nat × Nat × (Int → Int → Bool)} {g : Int → Int} {l : Int} (hl : 0 ≤ l) (hl4 : l < 4) : ∀ (k : Nat) (i : Int), 0 ≤ i → i + k = 4 → zD (true, q) (d + 1) zc_M_empties (zat zc_M_empties 16) [(20, 1464, 0), (0, l, 0), (0, i, 0)] [] (zrow f 1465 (mfil g (10 + 265 * l + 69) i (-1)), t) = some ((9, 0, 0), (zrow f 1465 (mfil g (10 + 265 * l + 69) 4 (-1)), t)) := by
  intro k
  induction k with
  | zero =>
    intro i h0 h1
    have : i = 4 := by omega
    subst this
    rw [zb_M_empties_16, if_pos (by omega), zb_M_empties_28]
  | succ k ih =>
    intro i h0 h1
    rw [zb_M_empties_16, if_neg (by omega), zb_M_empties_19]
    try simp (disch := omega) only [zw_id]
    rw [r_lays (by omega) (by omega) (by omega) (by omega) , zK_v, zb_M_empties_26]
    try simp (disch := omega) only [zw_id]
    rw [mfil_s h0 (by omega)]
    exact ih (i + 1) (by omega) (by omega)
def rEmp (g : Int → Int) (B : Int) : Int → Int := mfil (mfil g (B + 49) 20 0) (B + 69) 4 (-1)
theorem r_empties {q : Int × (Int → Int)} {d : Nat} {f : Int → Int → Int} {t : (Int → Int) × Nat × Nat × Nat × (Int → Int → Bool)} {g : Int → Int} {l : Int} (hl : 0 ≤ l) (hl4 : l < 4) : zM (true, q) (d + 1) 76 [(20, 1464, 0), (0, l, 0)] (zrow f 1465 g, t) = some ((9, 0, 0), (zrow f 1465 (rEmp g (10 + 265 * l)), t)) := by
  rw [ze_M_empties, zb_M_empties_0]
  have h1 := l_emp1 (q := q) (d := d) (f := f) (t := t) (g := g) hl hl4 20 0 (by omega) (by omega)
  rw [mfil_0 (Int.le_refl 0)] at h1
  rw [h1]
  have h2 := l_emp2 (q := q) (d := d) (f := f) (t := t) (g := mfil g (10 + 265 * l + 49) 20 0) hl hl4 4 0 (by omega) (by omega)
  rw [mfil_0 (Int.le_refl 0)] at h2
  exact h2
def rLeaves (g : Int → Int) (B n : Int) : Int → Int := zup1 (msh g (B + 17) (4 * (g (B + 7) - n)) (4 * n)) (B + 7) (g (B + 7) - n)
theorem l_leaves {q : Int × (Int → Int)} {d : Nat} {f : Int → Int → Int} {t : (Int → Int) × Nat × Nat × Nat × (Int → Int → Bool)} {g : Int → Int} {l n c : Int} (hl : 0 ≤ l) (hl4 : l < 4) (hn : 0 ≤ n) (hc : 0 ≤ c) (hnc : n + c ≤ 8) : ∀ (k : Nat) (i : Int), 0 ≤ i → i + k = 4 * c → zD (true, q) (d + 1) zc_M_leaves (zat zc_M_leaves 9) [(20, 1464, 0), (0, l, 0), (0, n, 0), (0, c, 0), (0, i, 0)] [] (zrow f 1465 (msh g (10 + 265 * l + 17) i (4 * n)), t) = some ((9, 0, 0), (zrow f 1465 (zup1 (msh g (10 + 265 * l + 17) (4 * c) (4 * n)) (10 + 265 * l + 7) c), t)) := by
  intro k
  induction k with
  | zero =>
    intro i h0 h1
    have : i = 4 * c := by omega
    subst this
    rw [zb_M_leaves_9]
    try simp (disch := omega) only [zw_id]
    rw [if_pos (by omega)]
    try simp (disch := omega) only [zw_id]
    rw [zb_M_leaves_32, r_lays (by omega) (by omega) (by omega) (by omega) , zK_v, zb_M_leaves_37]
  | succ k ih =>
    intro i h0 h1
    rw [zb_M_leaves_9]
    try simp (disch := omega) only [zw_id]
    rw [if_neg (by omega)]
    try simp (disch := omega) only [zw_id]
    rw [zb_M_leaves_14]
    try simp (disch := omega) only [zw_id]
    rw [r_of (by omega) (by omega) (by omega) (by omega) , zK_i, zb_M_leaves_29, r_lays (by omega) (by omega) (by omega) (by omega) , zK_v, zb_M_leaves_30]
    try simp (disch := omega) only [zw_id]
    rw [msh_s h0 (by omega) (by omega) (by omega)]
    exact ih (i + 1) (by omega) (by omega)
theorem r_leaves {q : Int × (Int → Int)} {d : Nat} {f : Int → Int → Int} {t : (Int → Int) × Nat × Nat × Nat × (Int → Int → Bool)} {g : Int → Int} {l n : Int} (hl : 0 ≤ l) (hl4 : l < 4) (hn : 0 ≤ n) (hk : n ≤ g (10 + 265 * l + 7)) (h8 : g (10 + 265 * l + 7) ≤ 8) : zM (true, q) (d + 1) 155 [(20, 1464, 0), (0, l, 0), (0, n, 0)] (zrow f 1465 g, t) = some ((9, 0, 0), (zrow f 1465 (rLeaves g (10 + 265 * l) n), t)) := by
  rw [ze_M_leaves, zb_M_leaves_0, r_of (by omega) (by omega) (by omega) (by omega) , zK_i, zb_M_leaves_4]
  try simp (disch := omega) only [zw_id]
  have h := l_leaves (q := q) (d := d) (f := f) (t := t) (g := g) (n := n) (c := g (10 + 265 * l + 7) - n) hl hl4 hn (by omega) (by omega) (4 * (g (10 + 265 * l + 7) - n)).toNat 0 (by omega) (by omega)
  rw [msh_0 (Int.le_refl 0)] at h
  exact h
def rAhead (g : Int → Int) (B n : Int) : Int := zfst (fun k => decide (g (B + (17 + 4 * k + 2)) = n)) (if n = g (B + 10) then g (B + 7) else 0) (g (B + 7)).toNat 0
theorem l_ahead {q : Int × (Int → Int)} {d : Nat} {f : Int → Int → Int} {t : (Int → Int) × Nat × Nat × Nat × (Int → Int → Bool)} {g : Int → Int} {l n : Int} (hl : 0 ≤ l) (hl4 : l < 4) (h8 : g (10 + 265 * l + 7) ≤ 8) : ∀ (k : Nat) (i : Int), 0 ≤ i → i + k = g (10 + 265 * l + 7) → zD (true, q) (d + 2) zc_M_aheadOf (zat zc_M_aheadOf 2) [(20, 1464, 0), (0, l, 0), (0, n, 0), (0, i, 0)] [] (zrow f 1465 g, t) = some ((0, zfst (fun k => decide (g (10 + 265 * l + (17 + 4 * k + 2)) = n)) (if n = g (10 + 265 * l + 10) then g (10 + 265 * l + 7) else 0) k i, 0), (zrow f 1465 g, t)) := by
  intro k
  induction k with
  | zero =>
    intro i h0 h1
    show _ = some ((0, (if n = g (10 + 265 * l + 10) then g (10 + 265 * l + 7) else 0), 0), _)
    by_cases hn : n = g (10 + 265 * l + 10)
    · rw [if_pos hn]
      rw [zb_M_aheadOf_2, r_of (by omega) (by omega) (by omega) (by omega) , zK_i, zb_M_aheadOf_7, if_pos (by omega), zb_M_aheadOf_19, r_of (by omega) (by omega) (by omega) (by omega) , zK_i, zb_M_aheadOf_24, if_neg (fun z => z hn), zb_M_aheadOf_25, r_of (by omega) (by omega) (by omega) (by omega) , zK_i, zb_M_aheadOf_29]
    · rw [if_neg hn]
      rw [zb_M_aheadOf_2, r_of (by omega) (by omega) (by omega) (by omega) , zK_i, zb_M_aheadOf_7, if_pos (by omega), zb_M_aheadOf_19, r_of (by omega) (by omega) (by omega) (by omega) , zK_i, zb_M_aheadOf_24, if_pos (hn), zb_M_aheadOf_30]
  | succ k ih =>
    intro i h0 h1
    by_cases hn : g (10 + 265 * l + (17 + 4 * i + 2)) = n
    · rw [zfst_hit (by exact decide_eq_true hn)]
      rw [zb_M_aheadOf_2, r_of (by omega) (by omega) (by omega) (by omega) , zK_i, zb_M_aheadOf_7, if_neg (by omega), zb_M_aheadOf_8, r_held (by omega) (by omega) (by omega) (by omega) (by omega) (by omega) , zK_i, zb_M_aheadOf_13, if_neg (fun z => z hn), zb_M_aheadOf_15]
    · rw [zfst_miss (by exact decide_eq_false hn)]
      rw [zb_M_aheadOf_2, r_of (by omega) (by omega) (by omega) (by omega) , zK_i, zb_M_aheadOf_7, if_neg (by omega), zb_M_aheadOf_8, r_held (by omega) (by omega) (by omega) (by omega) (by omega) (by omega) , zK_i, zb_M_aheadOf_13, if_pos (hn), zb_M_aheadOf_17]
      try simp (disch := omega) only [zw_id]
      exact ih (i + 1) (by omega) (by omega)
theorem r_aheadOf {q : Int × (Int → Int)} {d : Nat} {f : Int → Int → Int} {t : (Int → Int) × Nat × Nat × Nat × (Int → Int → Bool)} {g : Int → Int} {l n : Int} (hl : 0 ≤ l) (hl4 : l < 4) (h0 : 0 ≤ g (10 + 265 * l + 7)) (h8 : g (10 + 265 * l + 7) ≤ 8) : zM (true, q) (d + 2) 154 [(20, 1464, 0), (0, l, 0), (0, n, 0)] (zrow f 1465 g, t) = some ((0, rAhead g (10 + 265 * l) n, 0), (zrow f 1465 g, t)) := by
  rw [ze_M_aheadOf, zb_M_aheadOf_0]
  exact l_ahead hl hl4 h8 (g (10 + 265 * l + 7)).toNat 0 (by omega) (by omega)
def rWraps (g : Int → Int) (B : Int) : Int → Int := if g (B + 8) < g (B + 7) then g else zup1 g (B + 8) 0
theorem r_wraps {q : Int × (Int → Int)} {d : Nat} {f : Int → Int → Int} {t : (Int → Int) × Nat × Nat × Nat × (Int → Int → Bool)} {g : Int → Int} {l : Int} (hl : 0 ≤ l) (hl4 : l < 4) : zM (true, q) (d + 1) 156 [(20, 1464, 0), (0, l, 0)] (zrow f 1465 g, t) = some ((9, 0, 0), (zrow f 1465 (rWraps g (10 + 265 * l)), t)) := by
  unfold rWraps
  by_cases h : g (10 + 265 * l + 8) < g (10 + 265 * l + 7)
  · rw [if_pos h]
    rw [ze_M_wraps, zb_M_wraps_0, r_of (by omega) (by omega) (by omega) (by omega) , zK_i, zb_M_wraps_4, r_of (by omega) (by omega) (by omega) (by omega) , zK_i, zb_M_wraps_8, if_pos (h), zb_M_wraps_14]
  · rw [if_neg h]
    rw [ze_M_wraps, zb_M_wraps_0, r_of (by omega) (by omega) (by omega) (by omega) , zK_i, zb_M_wraps_4, r_of (by omega) (by omega) (by omega) (by omega) , zK_i, zb_M_wraps_8, if_neg (h), zb_M_wraps_9, r_lays (by omega) (by omega) (by omega) (by omega) , zK_v, zb_M_wraps_14]
def rLog (g : Int → Int) (l w v : Int) : Int → Int := zup1 (zup1 (zup1 (zup1 (zup1 (mdn g 1074 1310 4) 1070 (g 4)) 1071 l) 1072 w) 1073 v) 8 (if g 8 + 1 ≤ 60 then g 8 + 1 else 60)
theorem l_logs {q : Int × (Int → Int)} {d : Nat} {f : Int → Int → Int} {t : (Int → Int) × Nat × Nat × Nat × (Int → Int → Bool)} {g : Int → Int} {l w v : Int} (h0 : 0 ≤ g 8) (h8 : g 8 ≤ 60) : ∀ (k : Nat) (i : Int), i = k + 3 → i ≤ 239 → zD (true, q) (d + 1) zc_M_logs (zat zc_M_logs 2) [(20, 1464, 0), (0, l, 0), (0, w, 0), (0, v, 0), (0, i, 0)] [] (zrow f 1465 (mdn g (1071 + i) 1310 4), t) = some ((9, 0, 0), (zrow f 1465 (rLog g l w v), t)) := by
  intro k
  induction k with
  | zero =>
    intro i h1 h2
    have : i = 3 := by omega
    subst this
    have e4 : mdn g 1074 1310 4 4 = g 4 := mdn_out (by omega)
    have e8 : mdn g 1074 1310 4 8 = g 8 := mdn_out (by omega)
    rw [zb_M_logs_2, if_pos (by omega), zb_M_logs_21]
    try simp (disch := omega) only [Int.reduceAdd, zrow_r, zrow_in, zrow_up, zrow_ne]
    rw [zG2 (by omega) (by omega), zb_M_logs_28]
    try simp (disch := omega) only [Int.reduceAdd, zrow_r, zrow_in, zrow_up, zrow_ne]
    rw [zG2 (by omega) (by omega), zb_M_logs_29]
    try simp (disch := omega) only [Int.reduceAdd, zrow_r, zrow_in, zrow_up, zrow_ne]
    rw [zG2 (by omega) (by omega), zb_M_logs_34]
    try simp (disch := omega) only [Int.reduceAdd, zrow_r, zrow_in, zrow_up, zrow_ne]
    rw [zG2 (by omega) (by omega), zb_M_logs_39]
    try simp (disch := omega) only [Int.reduceAdd, zrow_r, zrow_in, zrow_up, zrow_ne]
    rw [zG2 (by omega) (by omega), zb_M_logs_44]
    try simp (disch := omega) only [Int.reduceAdd, zrow_r, zrow_in, zrow_up, zrow_ne]
    rw [zG2 (by omega) (by omega), zb_M_logs_52]
    try simp (disch := omega) only [zw_id]
    rw [r_lesser, zK_i, zb_M_logs_55]
    try simp (disch := omega) only [Int.reduceAdd, zrow_r, zrow_in, zrow_up, zrow_ne]
    rw [zG2 (by omega) (by omega), zb_M_logs_56]
    simp (disch := omega) only [zup1_ne, e4, e8, zw_id]
    rfl
  | succ k ih =>
    intro i h1 h2
    rw [zb_M_logs_2, if_neg (by omega), zb_M_logs_5]
    try simp (disch := omega) only [zw_id, Int.reduceAdd, zrow_r, zrow_in, zrow_up, zrow_ne]
    rw [zG2 (by omega) (by omega), zb_M_logs_18]
    try simp (disch := omega) only [Int.reduceAdd, zrow_r, zrow_in, zrow_up, zrow_ne]
    rw [zG2 (by omega) (by omega), zb_M_logs_19]
    try simp (disch := omega) only [zw_id]
    rw [mdn_s (by omega) (by omega) (by omega) (by omega)]
    have h := ih (i - 1) (by omega) (by omega)
    rw [show 1071 + (i - 1) = 1071 + i - 1 by omega] at h
    exact h
theorem r_logs {q : Int × (Int → Int)} {d : Nat} {f : Int → Int → Int} {t : (Int → Int) × Nat × Nat × Nat × (Int → Int → Bool)} {g : Int → Int} {l w v : Int} (h0 : 0 ≤ g 8) (h8 : g 8 ≤ 60) : zM (true, q) (d + 1) 151 [(20, 1464, 0), (0, l, 0), (0, w, 0), (0, v, 0)] (zrow f 1465 g, t) = some ((9, 0, 0), (zrow f 1465 (rLog g l w v), t)) := by
  rw [ze_M_logs, zb_M_logs_0]
  have h := l_logs (q := q) (d := d) (f := f) (t := t) (g := g) (l := l) (w := w) (v := v) h0 h8 236 239 (by omega) (by omega)
  rw [mdn_0 (by omega)] at h
  exact h
def rAnew (g : Int → Int) (B : Int) : Int → Int := rEmp (zup1 (zup1 (zup1 (zup1 (zup1 (zup1 (zup1 (zup1 (zup1 g (B + 10) 0) (B + 11) 0) (B + 8) 0) (B + 12) 0) (B + 13) 0) (B + 14) 0) (B + 15) 0) (B + 16) 0) (B + 9) 0) B
theorem r_beginsAnew {q : Int × (Int → Int)} {d : Nat} {f : Int → Int → Int} {t : (Int → Int) × Nat × Nat × Nat × (Int → Int → Bool)} {g : Int → Int} {l : Int} (hl : 0 ≤ l) (hl4 : l < 4) : zM (true, q) (d + 2) 163 [(20, 1464, 0), (0, l, 0)] (zrow f 1465 g, t) = some ((9, 0, 0), (zrow f 1465 (rAnew g (10 + 265 * l)), t)) := by
  rw [ze_M_beginsAnew, zb_M_beginsAnew_0, r_lays (by omega) (by omega) (by omega) (by omega) , zK_v, zb_M_beginsAnew_5, r_lays (by omega) (by omega) (by omega) (by omega) , zK_v, zb_M_beginsAnew_10, r_lays (by omega) (by omega) (by omega) (by omega) , zK_v, zb_M_beginsAnew_15, r_lays (by omega) (by omega) (by omega) (by omega) , zK_v, zb_M_beginsAnew_20, r_lays (by omega) (by omega) (by omega) (by omega) , zK_v, zb_M_beginsAnew_25, r_lays (by omega) (by omega) (by omega) (by omega) , zK_v, zb_M_beginsAnew_30, r_lays (by omega) (by omega) (by omega) (by omega) , zK_v, zb_M_beginsAnew_35, r_lays (by omega) (by omega) (by omega) (by omega) , zK_v, zb_M_beginsAnew_40, r_lays (by omega) (by omega) (by omega) (by omega) , zK_v, zb_M_beginsAnew_45, r_empties hl hl4, zK_v, zb_M_beginsAnew_48]
  rfl
