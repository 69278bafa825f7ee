/-! ## the other form: a line goes over -/
def rOv1 (g : Int → Int) (B k : Int) (old : Int → Int) : Int → Int := fun j => if 0 ≤ j ∧ j < 2 * k then (if j % 2 = 0 then g (B + (17 + 4 * (j / 2) + 0)) else g (B + (17 + 4 * (j / 2) + 1))) else old j
theorem rOv1_s {g : Int → Int} {B k : Int} {old : Int → Int} (h : 0 ≤ k) : zup1 (zup1 (rOv1 g B k old) (2 * k) (g (B + (17 + 4 * k + 0)))) (2 * k + 1) (g (B + (17 + 4 * k + 1))) = rOv1 g B (k + 1) old := by
  funext j
  unfold rOv1
  by_cases h1 : j = 2 * k + 1
  · rw [zup1_eq h1, if_pos (by omega), if_neg (by omega), show j / 2 = k by omega]
  · rw [zup1_ne h1]
    by_cases h2 : j = 2 * k
    · rw [zup1_eq h2, if_pos (by omega), if_pos (by omega), show j / 2 = k by omega]
    · rw [zup1_ne h2]
      by_cases h3 : 0 ≤ j ∧ j < 2 * k
      · rw [if_pos h3, if_pos (show 0 ≤ j ∧ j < 2 * (k + 1) by omega)]
      · rw [if_neg h3, if_neg (show ¬ (0 ≤ j ∧ j < 2 * (k + 1)) by omega)]
theorem rOv1_0 {g : Int → Int} {B : Int} {old : Int → Int} : rOv1 g B 0 old = old := by
  funext j
  exact if_neg (by omega)
def rOv2 (g : Int → Int) (B K k : Int) (old : Int → Int) : Int → Int := fun j => if 2 * K ≤ j ∧ j < 2 * K + 2 * k then g (B + (73 + (j - 2 * K))) else old j
theorem rOv2_s {g : Int → Int} {B K k n : Int} {old : Int → Int} (h : 0 ≤ k) (hn : n = K + k) : zup1 (zup1 (rOv2 g B K k old) (2 * n) (g (B + (73 + 2 * k + 0)))) (2 * n + 1) (g (B + (73 + 2 * k + 1))) = rOv2 g B K (k + 1) old := by
  subst hn
  funext j
  unfold rOv2
  by_cases h1 : j = 2 * (K + k) + 1
  · rw [zup1_eq h1, if_pos (by omega), show 73 + (j - 2 * K) = 73 + 2 * k + 1 by omega]
  · rw [zup1_ne h1]
    by_cases h2 : j = 2 * (K + k)
    · rw [zup1_eq h2, if_pos (by omega), show 73 + (j - 2 * K) = 73 + 2 * k + 0 by omega]
    · rw [zup1_ne h2]
      by_cases h3 : 2 * K ≤ j ∧ j < 2 * K + 2 * k
      · rw [if_pos h3, if_pos (show 2 * K ≤ j ∧ j < 2 * K + 2 * (k + 1) by omega)]
      · rw [if_neg h3, if_neg (show ¬ (2 * K ≤ j ∧ j < 2 * K + 2 * (k + 1)) by omega)]
theorem rOv2_0 {g : Int → Int} {B K : Int} {old : Int → Int} : rOv2 g B K 0 old = old := by
  funext j
  exact if_neg (by omega)
def rApp (g : Int → Int) (B : Int) (ov : Int → Int) (k : Int) : Int → Int := fun i => if B + 73 + 2 * g (B + 6) ≤ i ∧ i < B + 73 + 2 * g (B + 6) + 2 * k then ov (i - (B + 73 + 2 * g (B + 6))) else if i = B + 6 then g (B + 6) + k else g i
theorem rApp_6 {g : Int → Int} {B k : Int} {ov : Int → Int} (h : 0 ≤ g (B + 6)) : rApp g B ov k (B + 6) = g (B + 6) + k := by
  unfold rApp
  rw [if_neg (by omega), if_pos rfl]
theorem rApp_0 {g : Int → Int} {B : Int} {ov : Int → Int} : rApp g B ov 0 = g := by
  funext i
  unfold rApp
  rw [if_neg (by omega)]
  by_cases h : i = B + 6
  · rw [if_pos h, h, Int.add_zero]
  · rw [if_neg h]
theorem rApp_out {g : Int → Int} {B k i : Int} {ov : Int → Int} (h : i ≠ B + 6) (h2 : i < B + 73 + 2 * g (B + 6) ∨ B + 73 + 2 * g (B + 6) + 2 * k ≤ i) : rApp g B ov k i = g i := by
  unfold rApp
  rw [if_neg (by omega), if_neg h]
theorem rApp_s {g : Int → Int} {B k : Int} {ov : Int → Int} (h : 0 ≤ k) (hq : 0 ≤ g (B + 6)) : zup1 (zup1 (zup1 (rApp g B ov k) (B + (73 + 2 * (g (B + 6) + k))) (ov (2 * k))) (B + (73 + 2 * (g (B + 6) + k) + 1)) (ov (2 * k + 1))) (B + 6) (g (B + 6) + k + 1) = rApp g B ov (k + 1) := by
  funext i
  by_cases h0 : i = B + 6
  · rw [zup1_eq h0, h0, rApp_6 hq, Int.add_assoc]
  · rw [zup1_ne h0]
    unfold rApp
    by_cases h1 : i = B + (73 + 2 * (g (B + 6) + k) + 1)
    · rw [zup1_eq h1, if_pos (by omega)]
      congr 1
      omega
    · rw [zup1_ne h1]
      by_cases h2 : i = B + (73 + 2 * (g (B + 6) + k))
      · rw [zup1_eq h2, if_pos (by omega)]
        congr 1
        omega
      · rw [zup1_ne h2]
        by_cases h3 : B + 73 + 2 * g (B + 6) ≤ i ∧ i < B + 73 + 2 * g (B + 6) + 2 * k
        · rw [if_pos h3, if_pos (by omega)]
        · rw [if_neg h3, if_neg h0, if_neg (by omega), if_neg h0]
theorem l_go1 {q : Int × (Int → Int)} {d : Nat} {f : Int → Int → Int} {t : (Int → Int) × Nat × Nat × Nat × (Int → Int → Bool)} {g : Int → Int} {l : Int} (hl : 0 ≤ l) (hl4 : l < 4) (k8 : g (10 + 265 * l + 7) ≤ 8) {R : Int → Int} : ∀ (n : Nat) (i : Int), 0 ≤ i → i + n = g (10 + 265 * l + 7) → zD (true, q) (d + 2) zc_M_goesOver (zat zc_M_goesOver 14) [(20, 1464, 0), (0, l, 0), (0, i, 0), (0, i, 0), (2, 0, 0), (2, 0, 0), (2, 0, 0)] [] (zrow (zrow f 1473 (rOv1 g (10 + 265 * l) i R)) 1465 g, t) = zD (true, q) (d + 2) zc_M_goesOver (zat zc_M_goesOver 49) [(20, 1464, 0), (0, l, 0), (0, g (10 + 265 * l + 7), 0), (0, 0, 0), (2, 0, 0), (2, 0, 0), (2, 0, 0)] [] (zrow (zrow f 1473 (rOv1 g (10 + 265 * l) (g (10 + 265 * l + 7)) R)) 1465 g, t) := by
  intro n
  induction n with
  | zero =>
    intro i h0 h1
    have hi : i = g (10 + 265 * l + 7) := by omega
    subst hi
    rw [zb_M_goesOver_14, r_of (by omega) (by omega) (by omega) (by omega), zK_i, zb_M_goesOver_19, if_pos (by omega), zb_M_goesOver_47]
  | succ n ih =>
    intro i h0 h1
    rw [zb_M_goesOver_14, r_of (by omega) (by omega) (by omega) (by omega), zK_i, zb_M_goesOver_19, if_neg (by omega), zb_M_goesOver_20]
    try simp (disch := omega) only [zw_id, Int.reduceAdd, zrow_r, zrow_in, zrow_up, zrow_ne]
    rw [r_held (by omega) (by omega) (by omega) (by omega) (by omega) (by omega), zK_i, zb_M_goesOver_30]
    try simp (disch := omega) only [Int.reduceAdd, zrow_r, zrow_in, zrow_up, zrow_ne]
    rw [zG2 (by omega) (by omega), zb_M_goesOver_31]
    try simp (disch := omega) only [zw_id, Int.reduceAdd, zrow_r, zrow_in, zrow_up, zrow_ne]
    rw [r_held (by omega) (by omega) (by omega) (by omega) (by omega) (by omega), zK_i, zb_M_goesOver_43]
    try simp (disch := omega) only [Int.reduceAdd, zrow_r, zrow_in, zrow_up, zrow_ne]
    rw [zG2 (by omega) (by omega), zb_M_goesOver_44]
    try simp (disch := omega) only [zw_id]
    rw [rOv1_s h0]
    exact ih (i + 1) (by omega) (by omega)
theorem l_go2 {q : Int × (Int → Int)} {d : Nat} {f : Int → Int → Int} {t : (Int → Int) × Nat × Nat × Nat × (Int → Int → Bool)} {g : Int → Int} {l K : Int} (hl : 0 ≤ l) (hl4 : l < 4) (K0 : 0 ≤ K) (K8 : K ≤ 8) (q9 : g (10 + 265 * l + 6) ≤ 96) {R : Int → Int} : ∀ (n : Nat) (i : Int), 0 ≤ i → i + n = g (10 + 265 * l + 6) → zD (true, q) (d + 2) zc_M_goesOver (zat zc_M_goesOver 49) [(20, 1464, 0), (0, l, 0), (0, K + i, 0), (0, i, 0), (2, 0, 0), (2, 0, 0), (2, 0, 0)] [] (zrow (zrow f 1473 (rOv2 g (10 + 265 * l) K i R)) 1465 g, t) = zD (true, q) (d + 2) zc_M_goesOver (zat zc_M_goesOver 82) [(20, 1464, 0), (0, l, 0), (0, K + g (10 + 265 * l + 6), 0), (0, g (10 + 265 * l + 6), 0), (2, 0, 0), (2, 0, 0), (2, 0, 0)] [] (zrow (zrow f 1473 (rOv2 g (10 + 265 * l) K (g (10 + 265 * l + 6)) R)) 1465 g, t) := by
  intro n
  induction n with
  | zero =>
    intro i h0 h1
    have hi : i = g (10 + 265 * l + 6) := by omega
    subst hi
    rw [zb_M_goesOver_49, r_of (by omega) (by omega) (by omega) (by omega), zK_i, zb_M_goesOver_54, if_pos (by omega)]
  | succ n ih =>
    intro i h0 h1
    rw [zb_M_goesOver_49, r_of (by omega) (by omega) (by omega) (by omega), zK_i, zb_M_goesOver_54, if_neg (by omega), zb_M_goesOver_55]
    try simp (disch := omega) only [zw_id, Int.reduceAdd, zrow_r, zrow_in, zrow_up, zrow_ne]
    rw [r_queued (by omega) (by omega) (by omega) (by omega) (by omega) (by omega), zK_i, zb_M_goesOver_65]
    try simp (disch := omega) only [Int.reduceAdd, zrow_r, zrow_in, zrow_up, zrow_ne]
    rw [zG2 (by omega) (by omega), zb_M_goesOver_66]
    try simp (disch := omega) only [zw_id, Int.reduceAdd, zrow_r, zrow_in, zrow_up, zrow_ne]
    rw [r_queued (by omega) (by omega) (by omega) (by omega) (by omega) (by omega), zK_i, zb_M_goesOver_78]
    try simp (disch := omega) only [Int.reduceAdd, zrow_r, zrow_in, zrow_up, zrow_ne]
    rw [zG2 (by omega) (by omega), zb_M_goesOver_79]
    try simp (disch := omega) only [zw_id]
    rw [rOv2_s h0 rfl, Int.add_assoc K i 1]
    exact ih (i + 1) (by omega) (by omega)
