/-! ## the rows of numbers: the class's own -/
def zrow (f : Int → Int → Int) (a : Int) (g : Int → Int) : Int → Int → Int := fun b => @ite _ (b = a) (Int.instDecidableEq b a) g (f b)
theorem zrow_at {f : Int → Int → Int} {a b : Int} {g : Int → Int} (h : b = a) : zrow f a g b = g := if_pos h
theorem zrow_ne {f : Int → Int → Int} {a b : Int} {g : Int → Int} (h : b ≠ a) : zrow f a g b = f b := if_neg h
theorem zrow_zrow {f : Int → Int → Int} {a : Int} {g h : Int → Int} : zrow (zrow f a g) a h = zrow f a h := by
  funext b
  by_cases hb : b = a
  · rw [zrow_at hb, zrow_at hb]
  · rw [zrow_ne hb, zrow_ne hb, zrow_ne hb]
theorem zrow_id {f : Int → Int → Int} {a : Int} : zrow f a (f a) = f := by
  funext b
  by_cases hb : b = a
  · rw [zrow_at hb, hb]
  · rw [zrow_ne hb]
theorem zup_zrow {f : Int → Int → Int} {a k v : Int} : zup f a k v = zrow f a (zup1 (f a) k v) := by
  funext b j
  by_cases hb : b = a
  · rw [zrow_at hb, hb]
    unfold zup zup1
    by_cases hj : j = k
    · rw [if_pos ⟨rfl, hj⟩, if_pos hj]
    · rw [if_neg (fun z => hj z.2), if_neg hj]
  · rw [zrow_ne hb, zup_na hb]
theorem zup1_eq {g : Int → Int} {k v j : Int} (h : j = k) : zup1 g k v j = v := if_pos h
theorem zup1_ne {g : Int → Int} {k v j : Int} (h : j ≠ k) : zup1 g k v j = g j := if_neg h
def zfill (f : Int → Int → Int) (a v n : Int) : Int → Int → Int := fun b j => if b = a ∧ 0 ≤ j ∧ j < n then v else f b j
theorem zfill_in {f : Int → Int → Int} {a v n b j : Int} (h : b = a) (h0 : 0 ≤ j) (h1 : j < n) : zfill f a v n b j = v := if_pos ⟨h, h0, h1⟩
theorem zfill_na {f : Int → Int → Int} {a v n b j : Int} (h : b ≠ a) : zfill f a v n b j = f b j := if_neg (fun z => h z.1)
theorem zfill_nk {f : Int → Int → Int} {a v n b j : Int} (h : j < 0 ∨ n ≤ j) : zfill f a v n b j = f b j := if_neg (fun z => by omega)
theorem zfill_s {f : Int → Int → Int} {a v n : Int} (h : 0 ≤ n) : zup (zfill f a v n) a n v = zfill f a v (n + 1) := by
  funext b j
  by_cases hb : b = a
  · by_cases hj : j = n
    · rw [zupE hb hj, zfill_in hb (by omega) (by omega)]
    · rw [zup_nk hj]
      by_cases hj2 : 0 ≤ j ∧ j < n
      · rw [zfill_in hb hj2.1 hj2.2, zfill_in hb hj2.1 (by omega)]
      · rw [zfill_nk (by omega), zfill_nk (by omega)]
  · rw [zup_na hb, zfill_na hb, zfill_na hb]
theorem zfill_0 {f : Int → Int → Int} {a v n : Int} (h : n ≤ 0) : zfill f a v n = f := by
  funext b j
  exact zfill_nk (by omega)
theorem s_at {q : Int × (Int → Int)} {d : Nat} {a y i : Int} {σ : zS} (h0 : 0 ≤ i) (h1 : i < y) : zM (true, q) d 22 [(30, a, y), (0, i, 0)] σ = some ((0, σ.1 a i, 0), σ) := by
  rw [ze_X_at, zb_X_at_0, if_neg (by omega), zb_X_at_4, if_neg (by omega), zb_X_at_8, zG2 (by omega) (by omega), zb_X_at_11]
theorem s_at0 {q : Int × (Int → Int)} {d : Nat} {a y i : Int} {σ : zS} (h0 : i < 0 ∨ y ≤ i) : zM (true, q) d 22 [(30, a, y), (0, i, 0)] σ = some ((0, 0, 0), σ) := by
  by_cases h : i < 0
  · rw [ze_X_at, zb_X_at_0, if_pos (h), zb_X_at_12]
  · rw [ze_X_at, zb_X_at_0, if_neg (h), zb_X_at_4, if_pos (by omega), zb_X_at_12]
theorem s_put {q : Int × (Int → Int)} {d : Nat} {a y i v : Int} {σ : zS} (h0 : 0 ≤ i) (h1 : i < y) : zM (true, q) d 15 [(30, a, y), (0, i, 0), (0, v, 0)] σ = some ((9, 0, 0), (zup σ.1 a i v, σ.2)) := by
  rw [ze_X_put, zb_X_put_0, if_neg (by omega), zb_X_put_4, if_neg (by omega), zb_X_put_8, zG2 (by omega) (by omega), zb_X_put_12]
theorem s_put0 {q : Int × (Int → Int)} {d : Nat} {a y i v : Int} {σ : zS} (h0 : i < 0 ∨ y ≤ i) : zM (true, q) d 15 [(30, a, y), (0, i, 0), (0, v, 0)] σ = some ((9, 0, 0), σ) := by
  by_cases h : i < 0
  · rw [ze_X_put, zb_X_put_0, if_pos (h), zb_X_put_12]
  · rw [ze_X_put, zb_X_put_0, if_neg (h), zb_X_put_4, if_pos (by omega), zb_X_put_12]
theorem l_clearRow {q : Int × (Int → Int)} {d : Nat} {a y v : Int} {t : (Int → Int) × Nat × Nat × Nat × (Int → Int → Bool)} {f : Int → Int → Int} (hy : y < 65536) : ∀ (k : Nat) (i : Int), 0 ≤ i → i + k = y →
    zD (true, q) d zc_X_clearRow (zat zc_X_clearRow 2) [(30, a, y), (0, v, 0), (0, i, 0)] [] (zfill f a v i, t) = some ((9, 0, 0), (zfill f a v y, t)) := by
  intro k
  induction k with
  | zero =>
    intro i h0 h1
    have : i = y := by omega
    subst this
    rw [zb_X_clearRow_2, if_pos (by omega), zb_X_clearRow_12]
  | succ k ih =>
    intro i h0 h1
    rw [zb_X_clearRow_2, if_neg (by omega), zb_X_clearRow_6, zG2 (by omega) (by omega), zb_X_clearRow_10]
    try simp (disch := omega) only [zw_id]
    try dsimp only
    rw [zfill_s h0]
    exact ih (i + 1) (by omega) (by omega)
theorem s_clearRow {q : Int × (Int → Int)} {d : Nat} {a y v : Int} {σ : zS} (h0 : 0 ≤ y) (hy : y < 65536) : zM (true, q) d 4 [(30, a, y), (0, v, 0)] σ = some ((9, 0, 0), (zfill σ.1 a v y, σ.2)) := by
  rw [ze_X_clearRow, zb_X_clearRow_0]
  have h := l_clearRow (q := q) (d := d) (a := a) (y := y) (v := v) (t := σ.2) (f := σ.1) hy y.toNat 0 (by omega) (by omega)
  rw [zfill_0 (Int.le_refl 0)] at h
  exact h
theorem zcpy_0 {f : Int → Int → Int} {a b s e n : Int} (h : n ≤ 0) : zcpy f a s b e n = f := by
  funext x j
  exact zcpy_nk (by omega)
theorem s_copyRow {q : Int × (Int → Int)} {d : Nat} {a b y z n : Int} {σ : zS} (h0 : n ≤ y) (h1 : n ≤ z) : zM (true, q) d 38 [(30, a, y), (30, b, z), (0, n, 0)] σ = some ((9, 0, 0), (zcpy σ.1 a 0 b 0 n, σ.2)) := by
  by_cases h : n ≤ 0
  · rw [ze_X_copyRow, zb_X_copyRow_0, if_pos (h), zb_X_copyRow_16]
    rw [zcpy_0 h]
  · rw [ze_X_copyRow, zb_X_copyRow_0, if_neg (h), zb_X_copyRow_2, if_neg (by omega), zb_X_copyRow_6, if_neg (by omega), zb_X_copyRow_10, zG5 (by omega) (by omega) (by omega) (by omega) (by omega), zb_X_copyRow_16]
theorem s_shiftRow {q : Int × (Int → Int)} {d : Nat} {a y n : Int} {σ : zS} (h0 : 0 ≤ n) (h1 : n ≤ y) (hy : y < 65536) : zM (true, q) d 115 [(30, a, y), (0, n, 0)] σ = some ((9, 0, 0), (zcpy σ.1 a n a 0 (y - n), σ.2)) := by
  by_cases h : n ≤ 0
  · rw [ze_X_shiftRow, zb_X_shiftRow_0, if_pos (h), zb_X_shiftRow_15]
    have hn : n = 0 := by omega
    subst hn
    have e : zcpy σ.1 a 0 a 0 (y - 0) = σ.1 := by
      funext x j
      by_cases hxa : x = a
      · by_cases hx : 0 ≤ j ∧ j < y
        · rw [zcpy_in hxa hx.1 (by omega), hxa, show (0 : Int) + (j - 0) = j by omega]
        · rw [zcpy_nk (by omega)]
      · rw [zcpy_na hxa]
    rw [e]
  · rw [ze_X_shiftRow, zb_X_shiftRow_0, if_neg (h), zb_X_shiftRow_2, if_neg (by omega), zb_X_shiftRow_6]
    try simp (disch := omega) only [zw_id]
    rw [zG5 (by omega) (by omega) (by omega) (by omega) (by omega), zb_X_shiftRow_15]
theorem s_openRow {q : Int × (Int → Int)} {d : Nat} {a y : Int} {σ : zS} (h0 : 1 < y) (hy : y < 65536) : zM (true, q) d 130 [(30, a, y)] σ = some ((9, 0, 0), (zcpy σ.1 a 0 a 1 (y - 1), σ.2)) := by
  rw [ze_X_openRow, zb_X_openRow_0, if_neg (by omega), zb_X_openRow_4]
  try simp (disch := omega) only [zw_id]
  rw [zG5 (by omega) (by omega) (by omega) (by omega) (by omega), zb_X_openRow_13]
theorem zrow_r {f : Int → Int → Int} {a : Int} {g : Int → Int} : zrow f a g a = g := if_pos rfl
theorem zrow_up {f : Int → Int → Int} {a b k v : Int} {g : Int → Int} (h : b ≠ a) : zup (zrow f a g) b k v = zrow (zup f b k v) a g := by
  funext x j
  by_cases hx : x = a
  · rw [zup_na (by omega), zrow_at hx, zrow_at hx]
  · rw [zrow_ne hx]
    by_cases hb : x = b
    · by_cases hj : j = k
      · rw [zupE hb hj, zupE hb hj]
      · rw [zup_nk hj, zup_nk hj, zrow_ne hx]
    · rw [zup_na hb, zup_na hb, zrow_ne hx]
theorem zrow_in {f : Int → Int → Int} {a k v : Int} {g : Int → Int} : zup (zrow f a g) a k v = zrow f a (zup1 g k v) := by
  rw [zup_zrow, zrow_zrow, zrow_r]
/-- places filled; places that take what lies so many ahead -/
def mfil (g : Int → Int) (lo n v : Int) : Int → Int := fun j => if lo ≤ j ∧ j < lo + n then v else g j
def msh (g : Int → Int) (lo n s : Int) : Int → Int := fun j => if lo ≤ j ∧ j < lo + n then g (j + s) else g j
theorem mfil_in {g : Int → Int} {lo n v j : Int} (h : lo ≤ j) (h2 : j < lo + n) : mfil g lo n v j = v := if_pos ⟨h, h2⟩
theorem mfil_out {g : Int → Int} {lo n v j : Int} (h : j < lo ∨ lo + n ≤ j) : mfil g lo n v j = g j := if_neg (fun z => by omega)
theorem msh_in {g : Int → Int} {lo n s j : Int} (h : lo ≤ j) (h2 : j < lo + n) : msh g lo n s j = g (j + s) := if_pos ⟨h, h2⟩
theorem msh_out {g : Int → Int} {lo n s j : Int} (h : j < lo ∨ lo + n ≤ j) : msh g lo n s j = g j := if_neg (fun z => by omega)
theorem mfil_0 {g : Int → Int} {lo n v : Int} (h : n ≤ 0) : mfil g lo n v = g := by
  funext j
  exact mfil_out (by omega)
theorem msh_0 {g : Int → Int} {lo n s : Int} (h : n ≤ 0) : msh g lo n s = g := by
  funext j
  exact msh_out (by omega)
theorem mfil_s {g : Int → Int} {lo n v k : Int} (h : 0 ≤ n) (hk : k = lo + n) : zup1 (mfil g lo n v) k v = mfil g lo (n + 1) v := by
  subst hk
  funext j
  by_cases hj : j = lo + n
  · rw [zup1_eq hj, mfil_in (by omega) (by omega)]
  · rw [zup1_ne hj]
    by_cases h2 : lo ≤ j ∧ j < lo + n
    · rw [mfil_in h2.1 h2.2, mfil_in h2.1 (by omega)]
    · rw [mfil_out (by omega), mfil_out (by omega)]
theorem msh_s {g : Int → Int} {lo n s k i : Int} (h : 0 ≤ n) (hs : 0 ≤ s) (hk : k = lo + n) (hi : i = lo + n + s) : zup1 (msh g lo n s) k (msh g lo n s i) = msh g lo (n + 1) s := by
  subst hk hi
  funext j
  rw [msh_out (j := lo + n + s) (by omega)]
  by_cases hj : j = lo + n
  · rw [zup1_eq hj, msh_in (by omega) (by omega), hj]
  · rw [zup1_ne hj]
    by_cases h2 : lo ≤ j ∧ j < lo + n
    · rw [msh_in h2.1 h2.2, msh_in h2.1 (by omega)]
    · rw [msh_out (by omega), msh_out (by omega)]
/-! ## the other form: its row of numbers -/
theorem r_of {q : Int × (Int → Int)} {d : Nat} {f : Int → Int → Int} {g : Int → Int} {t : (Int → Int) × Nat × Nat × Nat × (Int → Int → Bool)} {l w : Int} (hl : 0 ≤ l) (hl4 : l < 4) (hw : 0 ≤ w) (hw2 : w < 265) : zM (true, q) d 78 [(20, 1464, 0), (0, l, 0), (0, w, 0)] (zrow f 1465 g, t) = some ((0, g (10 + 265 * l + w), 0), (zrow f 1465 g, t)) := by
  rw [ze_M_of, zb_M_of_0]
  try simp (disch := omega) only [zw_id, Int.reduceAdd, zrow_r, zrow_in, zrow_up, zrow_ne]
  rw [zG2 (by omega) (by omega), zb_M_of_10]
theorem r_lays {q : Int × (Int → Int)} {d : Nat} {f : Int → Int → Int} {g : Int → Int} {t : (Int → Int) × Nat × Nat × Nat × (Int → Int → Bool)} {l w v : Int} (hl : 0 ≤ l) (hl4 : l < 4) (hw : 0 ≤ w) (hw2 : w < 265) : zM (true, q) d 75 [(20, 1464, 0), (0, l, 0), (0, w, 0), (0, v, 0)] (zrow f 1465 g, t) = some ((9, 0, 0), (zrow f 1465 (zup1 g (10 + 265 * l + w) v), t)) := by
  rw [ze_M_lays, zb_M_lays_0]
  try simp (disch := omega) only [zw_id, Int.reduceAdd, zrow_r, zrow_in, zrow_up, zrow_ne]
  rw [zG2 (by omega) (by omega), zb_M_lays_11]
theorem r_adds {q : Int × (Int → Int)} {d : Nat} {f : Int → Int → Int} {g : Int → Int} {t : (Int → Int) × Nat × Nat × Nat × (Int → Int → Bool)} {l w v : Int} (hl : 0 ≤ l) (hl4 : l < 4) (hw : 0 ≤ w) (hw2 : w < 265) : zM (true, q) (d + 1) 79 [(20, 1464, 0), (0, l, 0), (0, w, 0), (0, v, 0)] (zrow f 1465 g, t) = some ((9, 0, 0), (zrow f 1465 (zup1 g (10 + 265 * l + w) (zw (g (10 + 265 * l + w) + v))), t)) := by
  rw [ze_M_adds, zb_M_adds_0, r_of (by omega) (by omega) (by omega) (by omega) , zK_i, zb_M_adds_7, r_lays (by omega) (by omega) (by omega) (by omega) , zK_v, zb_M_adds_10]
theorem r_held {q : Int × (Int → Int)} {d : Nat} {f : Int → Int → Int} {g : Int → Int} {t : (Int → Int) × Nat × Nat × Nat × (Int → Int → Bool)} {l k w : Int} (hl : 0 ≤ l) (hl4 : l < 4) (hk : 0 ≤ k) (hk2 : k < 8) (hw : 0 ≤ w) (hw2 : w < 4) : zM (true, q) (d + 1) 141 [(20, 1464, 0), (0, l, 0), (0, k, 0), (0, w, 0)] (zrow f 1465 g, t) = some ((0, g (10 + 265 * l + (17 + 4 * k + w)), 0), (zrow f 1465 g, t)) := by
  rw [ze_M_held, zb_M_held_0]
  try simp (disch := omega) only [zw_id]
  rw [r_of (by omega) (by omega) (by omega) (by omega) , zK_i, zb_M_held_10]
theorem r_queued {q : Int × (Int → Int)} {d : Nat} {f : Int → Int → Int} {g : Int → Int} {t : (Int → Int) × Nat × Nat × Nat × (Int → Int → Bool)} {l k w : Int} (hl : 0 ≤ l) (hl4 : l < 4) (hk : 0 ≤ k) (hk2 : k < 96) (hw : 0 ≤ w) (hw2 : w < 2) : zM (true, q) (d + 1) 143 [(20, 1464, 0), (0, l, 0), (0, k, 0), (0, w, 0)] (zrow f 1465 g, t) = some ((0, g (10 + 265 * l + (73 + 2 * k + w)), 0), (zrow f 1465 g, t)) := by
  rw [ze_M_queued, zb_M_queued_0]
  try simp (disch := omega) only [zw_id]
  rw [r_of (by omega) (by omega) (by omega) (by omega) , zK_i, zb_M_queued_10]
theorem r_lesser {q : Int × (Int → Int)} {d : Nat} {x y : Int} {σ : zS} : zM (true, q) d 148 [(0, x, 0), (0, y, 0)] σ = some ((0, if y ≤ x then y else x, 0), σ) := by
  by_cases h : y ≤ x
  · rw [ze_M_lesser, zb_M_lesser_0, if_pos (h), zb_M_lesser_5]
    rw [if_pos h]
  · rw [ze_M_lesser, zb_M_lesser_0, if_neg (h), zb_M_lesser_3]
    rw [if_neg h]
theorem r_greater {q : Int × (Int → Int)} {d : Nat} {x y : Int} {σ : zS} : zM (true, q) d 149 [(0, x, 0), (0, y, 0)] σ = some ((0, if x ≤ y then y else x, 0), σ) := by
  by_cases h : x ≤ y
  · rw [ze_M_greater, zb_M_greater_0, if_pos (h), zb_M_greater_5]
    rw [if_pos h]
  · rw [ze_M_greater, zb_M_greater_0, if_neg (h), zb_M_greater_3]
    rw [if_neg h]
theorem r_isInT {q : Int × (Int → Int)} {d : Nat} {x y z : Int} {σ : zS} (h1 : y ≤ x) (h2 : x ≤ z) : zM (true, q) d 20 [(0, x, 0), (0, y, 0), (0, z, 0)] σ = some ((0, 1, 0), σ) := by
  rw [ze_M_isIn, zb_M_isIn_0, if_neg (by omega), zb_M_isIn_3, if_neg (by omega), zb_M_isIn_6, zG2 (by omega) (by omega)]
theorem r_isInF {q : Int × (Int → Int)} {d : Nat} {x y z : Int} {σ : zS} (h1 : x < y ∨ z < x) : zM (true, q) d 20 [(0, x, 0), (0, y, 0), (0, z, 0)] σ = some ((0, 0, 0), σ) := by
  by_cases h : x < y
  · rw [ze_M_isIn, zb_M_isIn_0, if_pos (h), zb_M_isIn_8, zG2 (by omega) (by omega)]
  · rw [ze_M_isIn, zb_M_isIn_0, if_neg (h), zb_M_isIn_3, if_pos (by omega), zb_M_isIn_8, zG2 (by omega) (by omega)]
theorem r_isLineT {q : Int × (Int → Int)} {d : Nat} {f : Int → Int → Int} {g : Int → Int} {t : (Int → Int) × Nat × Nat × Nat × (Int → Int → Bool)} {l : Int} (h0 : 0 ≤ l) (h1 : l < g 3) (h2 : g 3 ≤ 4) : zM (true, q) (d + 1) 140 [(20, 1464, 0), (0, l, 0)] (zrow f 1465 g, t) = some ((0, 1, 0), (zrow f 1465 g, t)) := by
  rw [ze_M_isLine, zb_M_isLine_0]
  try simp (disch := omega) only [Int.reduceAdd, zrow_r, zrow_in, zrow_up, zrow_ne]
  rw [zG2 (by omega) (by omega), zb_M_isLine_6]
  try simp (disch := omega) only [zw_id]
  rw [r_isInT (by omega) (by omega), zK_i, zb_M_isLine_9, zG2 (by omega) (by omega)]
theorem r_isLineF {q : Int × (Int → Int)} {d : Nat} {f : Int → Int → Int} {g : Int → Int} {t : (Int → Int) × Nat × Nat × Nat × (Int → Int → Bool)} {l : Int} (h0 : l < 0 ∨ g 3 ≤ l) (h1 : 0 ≤ g 3) (h2 : g 3 ≤ 4) : zM (true, q) (d + 1) 140 [(20, 1464, 0), (0, l, 0)] (zrow f 1465 g, t) = some ((0, 0, 0), (zrow f 1465 g, t)) := by
  rw [ze_M_isLine, zb_M_isLine_0]
  try simp (disch := omega) only [Int.reduceAdd, zrow_r, zrow_in, zrow_up, zrow_ne]
  rw [zG2 (by omega) (by omega), zb_M_isLine_6]
  try simp (disch := omega) only [zw_id]
  rw [r_isInF (by omega), zK_i, zb_M_isLine_9, zG2 (by omega) (by omega)]
