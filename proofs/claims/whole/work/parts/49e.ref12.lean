/-! ## the other form: what arrives -/
def rCome (g : Int → Int) (B k : Int) (old : Int → Int) : Int → Int := fun j => if 0 ≤ j ∧ j < k then g (B + (49 + j)) else old j
theorem rCome_s {g : Int → Int} {B k : Int} {old : Int → Int} (h : 0 ≤ k) : zup1 (rCome g B k old) k (g (B + (49 + k))) = rCome g B (k + 1) old := by
  funext j
  unfold rCome
  by_cases h1 : j = k
  · rw [zup1_eq h1, if_pos (by omega), h1]
  · rw [zup1_ne h1]
    by_cases h2 : 0 ≤ j ∧ j < k
    · rw [if_pos h2, if_pos (show 0 ≤ j ∧ j < k + 1 by omega)]
    · rw [if_neg h2, if_neg (show ¬ (0 ≤ j ∧ j < k + 1) by omega)]
theorem rCome_0 {g : Int → Int} {B : Int} {old : Int → Int} : rCome g B 0 old = old := by
  funext j
  exact if_neg (by omega)
theorem rCome_in {g : Int → Int} {B j : Int} {old : Int → Int} (h : 0 ≤ j) (h2 : j < 5) : rCome g B 5 old j = g (B + (49 + j)) := if_pos ⟨h, h2⟩
def rAir (g : Int → Int) (B : Int) : Int → Int := mfil (msh g (B + 49) (5 * g (B + 2) - 5) 5) (B + 49 + (5 * g (B + 2) - 5)) 5 0
def rWatch (g : Int → Int) (B c0 c3 : Int) : Int → Int := if c3 = 1 then zup1 (zup1 g (B + 12) (if g (B + 12) + 1 ≤ 99 then g (B + 12) + 1 else 99)) (B + 13) 0 else if c0 ≤ 0 then g else
  if zrem (g (B + 13) + 1) 8 ≠ 0 then zup1 g (B + 13) (zrem (g (B + 13) + 1) 8) else zup1 (zup1 g (B + 13) (zrem (g (B + 13) + 1) 8)) (B + 12) (if 0 ≤ g (B + 12) - 1 then g (B + 12) - 1 else 0)
theorem l_arr1 {q : Int × (Int → Int)} {d : Nat} {f : Int → Int → Int} {t : (Int → Int) × Nat × Nat × Nat × (Int → Int → Bool)} {g : Int → Int} {l : Int} (hl : 0 ≤ l) (hl4 : l < 4) {R : Int → Int} : ∀ (k : Nat) (i : Int), 0 ≤ i → i + k = 5 → zD (true, q) (d + 1) zc_M_arrives (zat zc_M_arrives 2) [(20, 1464, 0), (0, l, 0), (0, i, 0), (2, 0, 0)] [] (zrow (zrow f 1471 (rCome g (10 + 265 * l) i R)) 1465 g, t) = zD (true, q) (d + 1) zc_M_arrives (zat zc_M_arrives 17) [(20, 1464, 0), (0, l, 0), (0, 5, 0), (2, 0, 0)] [] (zrow (zrow f 1471 (rCome g (10 + 265 * l) 5 R)) 1465 g, t) := by
  intro k
  induction k with
  | zero =>
    intro i h0 h1
    have hi : i = 5 := by omega
    subst hi
    rw [zb_M_arrives_2, if_pos (by omega)]
  | succ k ih =>
    intro i h0 h1
    rw [zb_M_arrives_2, if_neg (by omega), zb_M_arrives_5]
    try simp (disch := omega) only [zw_id, Int.reduceAdd, zrow_r, zrow_in, zrow_up, zrow_ne]
    rw [r_of (by omega) (by omega) (by omega) (by omega), zK_i, zb_M_arrives_14]
    try simp (disch := omega) only [Int.reduceAdd, zrow_r, zrow_in, zrow_up, zrow_ne]
    rw [zG2 (by omega) (by omega), zb_M_arrives_15]
    try simp (disch := omega) only [zw_id]
    rw [rCome_s h0]
    exact ih (i + 1) (by omega) (by omega)
theorem l_arr2 {q : Int × (Int → Int)} {d : Nat} {f : Int → Int → Int} {t : (Int → Int) × Nat × Nat × Nat × (Int → Int → Bool)} {g : Int → Int} {l p : Int} (hl : 0 ≤ l) (hl4 : l < 4) (p1 : 1 ≤ p) (p4 : p ≤ 4) : ∀ (k : Nat) (i : Int), 0 ≤ i → i + k = 5 * p - 5 → zD (true, q) (d + 1) zc_M_arrives (zat zc_M_arrives 24) [(20, 1464, 0), (0, l, 0), (0, p, 0), (0, i, 0)] [] (zrow f 1465 (msh g (10 + 265 * l + 49) i 5), t) = zD (true, q) (d + 1) zc_M_arrives (zat zc_M_arrives 47) [(20, 1464, 0), (0, l, 0), (0, p, 0), (0, 5 * p - 5, 0)] [] (zrow f 1465 (msh g (10 + 265 * l + 49) (5 * p - 5) 5), t) := by
  intro k
  induction k with
  | zero =>
    intro i h0 h1
    have hi : i = 5 * p - 5 := by omega
    subst hi
    rw [zb_M_arrives_24]
    try simp (disch := omega) only [zw_id]
    rw [if_pos (by omega)]
    try simp (disch := omega) only [zw_id]
  | succ k ih =>
    intro i h0 h1
    rw [zb_M_arrives_24]
    try simp (disch := omega) only [zw_id]
    rw [if_neg (by omega)]
    try simp (disch := omega) only [zw_id]
    rw [zb_M_arrives_31]
    try simp (disch := omega) only [zw_id]
    rw [r_of (by omega) (by omega) (by omega) (by omega), zK_i, zb_M_arrives_44, r_lays (by omega) (by omega) (by omega) (by omega), zK_v, zb_M_arrives_45]
    try simp (disch := omega) only [zw_id]
    rw [msh_s h0 (by omega) (by omega) (by omega)]
    exact ih (i + 1) (by omega) (by omega)
theorem l_arr3 {q : Int × (Int → Int)} {d : Nat} {f : Int → Int → Int} {t : (Int → Int) × Nat × Nat × Nat × (Int → Int → Bool)} {g : Int → Int} {l p : Int} (hl : 0 ≤ l) (hl4 : l < 4) (p1 : 1 ≤ p) (p4 : p ≤ 4) : ∀ (k : Nat) (i : Int), 5 * p - 5 ≤ i → i + k = 5 * p → zD (true, q) (d + 1) zc_M_arrives (zat zc_M_arrives 53) [(20, 1464, 0), (0, l, 0), (0, p, 0), (0, i, 0)] [] (zrow f 1465 (mfil g (10 + 265 * l + 49 + (5 * p - 5)) (i - (5 * p - 5)) 0), t) = zD (true, q) (d + 1) zc_M_arrives (zat zc_M_arrives 67) [(20, 1464, 0), (0, l, 0), (0, p, 0), (0, 5 * p, 0)] [] (zrow f 1465 (mfil g (10 + 265 * l + 49 + (5 * p - 5)) 5 0), t) := by
  intro k
  induction k with
  | zero =>
    intro i h0 h1
    have hi : i = 5 * p := by omega
    subst hi
    rw [zb_M_arrives_53]
    try simp (disch := omega) only [zw_id]
    rw [if_pos (by omega)]
    try simp (disch := omega) only [zw_id]
    rw [show 5 * p - (5 * p - 5) = 5 by omega]
  | succ k ih =>
    intro i h0 h1
    rw [zb_M_arrives_53]
    try simp (disch := omega) only [zw_id]
    rw [if_neg (by omega)]
    try simp (disch := omega) only [zw_id]
    rw [zb_M_arrives_58]
    try simp (disch := omega) only [zw_id]
    rw [r_lays (by omega) (by omega) (by omega) (by omega), zK_v, zb_M_arrives_65]
    try simp (disch := omega) only [zw_id]
    rw [mfil_s (by omega) (by omega), show i - (5 * p - 5) + 1 = i + 1 - (5 * p - 5) by omega]
    exact ih (i + 1) (by omega) (by omega)
