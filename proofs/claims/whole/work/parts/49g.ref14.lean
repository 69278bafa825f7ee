/-! ## the other form: a unit is taken (what the law says being given) -/
def rRepS (g : Int → Int) (B num : Int) : Nat → Int → Int → Int
  | 0, _, r => r
  | n + 1, i, r => rRepS g B num n (i + 1) (if r ≠ 0 then 1 else if g (B + (17 + 4 * i + 2)) = num ∧ 1 < g (B + (17 + 4 * i + 3)) then 1 else 0)
theorem rRepS_01 {g : Int → Int} {B num : Int} : ∀ (n : Nat) (i r : Int), (r = 0 ∨ r = 1) → rRepS g B num n i r = 0 ∨ rRepS g B num n i r = 1 := by
  intro n
  induction n with
  | zero => intro i r h; exact h
  | succ n ih =>
    intro i r h
    refine ih (i + 1) _ ?_
    split
    · exact Or.inr rfl
    · split
      · exact Or.inr rfl
      · exact Or.inl rfl
def rRep (g : Int → Int) (B num : Int) : Int := rRepS g B num (g (B + 7)).toNat 0 0
theorem l_tak1 {q : Int × (Int → Int)} {d : Nat} {f f2 : Int → Int → Int} {t : (Int → Int) × Nat × Nat × Nat × (Int → Int → Bool)} {g : Int → Int} {l : Int} (hl : 0 ≤ l) (hl4 : l < 4) (k8 : g (10 + 265 * l + 7) ≤ 8) : ∀ (n : Nat) (i r : Int), 0 ≤ i → i + n = g (10 + 265 * l + 7) → zD (true, q) (d + 2) zc_M_isTaken (zat zc_M_isTaken 4) [(20, 1464, 0), (0, l, 0), (0, r, 0), (0, i, 0)] [] (zrow f 1465 g, t) = zD (true, q) (d + 2) zc_M_isTaken (zat zc_M_isTaken 35) [(20, 1464, 0), (0, l, 0), (0, rRepS g (10 + 265 * l) (f 1471 2) n i r, 0), (0, g (10 + 265 * l + 7), 0)] [] (zrow f 1465 g, t) := by
  intro n
  induction n with
  | zero =>
    intro i r h0 h1
    have hi : i = g (10 + 265 * l + 7) := by omega
    subst hi
    rw [zb_M_isTaken_4, r_of (by omega) (by omega) (by omega) (by omega), zK_i, zb_M_isTaken_9, if_pos (by omega)]
    try rfl
  | succ n ih =>
    intro i r h0 h1
    show _ = zD (true, q) (d + 2) zc_M_isTaken (zat zc_M_isTaken 35) [(20, 1464, 0), (0, l, 0), (0, rRepS g (10 + 265 * l) (f 1471 2) n (i + 1) (if r ≠ 0 then 1 else if g (10 + 265 * l + (17 + 4 * i + 2)) = f 1471 2 ∧ 1 < g (10 + 265 * l + (17 + 4 * i + 3)) then 1 else 0), 0), (0, g (10 + 265 * l + 7), 0)] [] _
    rw [zb_M_isTaken_4, r_of (by omega) (by omega) (by omega) (by omega), zK_i, zb_M_isTaken_9, if_neg (by omega), zb_M_isTaken_10]
    by_cases hr : r ≠ 0
    · rw [if_pos hr, if_pos hr, zb_M_isTaken_29, zw_id (by omega) (by omega)]
      exact ih (i + 1) 1 (by omega) (by omega)
    · rw [if_neg hr, if_neg hr, zb_M_isTaken_12, r_held (by omega) (by omega) (by omega) (by omega) (by omega) (by omega), zK_i, zb_M_isTaken_17]
      simp only [Int.reduceAdd, zrow_ne (show (1471 : Int) ≠ 1465 by decide)]
      rw [zG2 (by omega) (by omega), zb_M_isTaken_21]
      by_cases c1 : g (10 + 265 * l + (17 + 4 * i + 2)) = f 1471 2
      · rw [if_neg (fun z => z c1), zb_M_isTaken_22, r_held (by omega) (by omega) (by omega) (by omega) (by omega) (by omega), zK_i, zb_M_isTaken_27]
        by_cases c2 : g (10 + 265 * l + (17 + 4 * i + 3)) ≤ 1
        · rw [if_pos c2, if_neg (by omega), zb_M_isTaken_31, zw_id (by omega) (by omega)]
          exact ih (i + 1) 0 (by omega) (by omega)
        · rw [if_neg c2, if_pos (by omega), zb_M_isTaken_29, zw_id (by omega) (by omega)]
          exact ih (i + 1) 1 (by omega) (by omega)
      · rw [if_pos c1, if_neg (fun z => c1 z.1), zb_M_isTaken_31, zw_id (by omega) (by omega)]
        exact ih (i + 1) 0 (by omega) (by omega)
def rTake (g : Int → Int) (l B w c1 : Int) : Int → Int := rLog (zup1 (zup1 (zup1 g 6 (if g 6 + w ≤ 99999 then g 6 + w else 99999)) 5 (zw (g 5 + 1))) (B + 11) (zrem (g (B + 11) + 1) 16)) l 0 c1
theorem r_isTaken {q : Int × (Int → Int)} {d : Nat} {f f2 : Int → Int → Int} {t : (Int → Int) × Nat × Nat × Nat × (Int → Int → Bool)} {g : Int → Int} {l : Int} (hl : 0 ≤ l) (hl4 : l < 4) (k0 : 0 ≤ g (10 + 265 * l + 7)) (k8 : g (10 + 265 * l + 7) ≤ 8) (x0 : 0 ≤ g (10 + 265 * l + 11)) (x1 : g (10 + 265 * l + 11) ≤ 15) (w0 : 0 ≤ g 6) (w9 : g 6 ≤ 99999) (g0 : 0 ≤ g 8) (g60 : g 8 ≤ 60) (v0 : 0 ≤ f2 1464 19) (v9 : f2 1464 19 ≤ 1000000)
    (ha : zM (true, q) (d + 1) 150 [(20, 1464, 0), (0, l, 0), (0, f 1471 4, 0), (0, if g (10 + 265 * l + 9) = 1 then 1 else 0, 0), (0, rRep g (10 + 265 * l) (f 1471 2), 0)] (zrow f 1465 g, t) = some ((9, 0, 0), (zrow f2 1465 g, t))) : zM (true, q) (d + 2) 152 [(20, 1464, 0), (0, l, 0)] (zrow f 1465 g, t) = some ((9, 0, 0), (zrow f2 1465 (rTake g l (10 + 265 * l) (f2 1464 19) (f2 1471 1)), t)) := by
  have p8 : (zup1 (zup1 (zup1 g 6 (if g 6 + f2 1464 19 ≤ 99999 then g 6 + f2 1464 19 else 99999)) 5 (zw (g 5 + 1))) (10 + 265 * l + 11) (zrem (g (10 + 265 * l + 11) + 1) 16)) 8 = g 8 := by
    rw [zup1_ne (by omega), zup1_ne (by omega), zup1_ne (by omega)]
  have hend : zD (true, q) (d + 2) zc_M_isTaken (zat zc_M_isTaken 52) [(20, 1464, 0), (0, l, 0), (0, rRep g (10 + 265 * l) (f 1471 2), 0), (0, g (10 + 265 * l + 7), 0)] [] (zrow f2 1465 g, t) = some ((9, 0, 0), (zrow f2 1465 (rTake g l (10 + 265 * l) (f2 1464 19) (f2 1471 1)), t)) := by
    rw [zb_M_isTaken_52]
    simp only [Int.reduceAdd, zrow_r]
    rw [zG2 (by omega) (by omega), zb_M_isTaken_60]
    simp only [zrow_ne (show (1464 : Int) ≠ 1465 by decide)]
    rw [zw_id (by omega) (by omega), r_lesser, zK_i, zb_M_isTaken_64]
    simp only [zrow_in]
    rw [zG2 (by omega) (by omega), zb_M_isTaken_65]
    simp only [Int.reduceAdd, zrow_r]
    rw [zup1_ne (show (5 : Int) ≠ 6 by decide), zG2 (by omega) (by omega), zb_M_isTaken_70]
    simp only [zrow_in]
    rw [zG2 (by omega) (by omega), zb_M_isTaken_73, r_of (by omega) (by omega) (by omega) (by omega), zK_i, zup1_ne (by omega), zup1_ne (by omega), zb_M_isTaken_80, zw_id (show -2147483648 ≤ g (10 + 265 * l + 11) + 1 by omega) (by omega), zG1 (by omega), zb_M_isTaken_84, r_lays (by omega) (by omega) (by omega) (by omega), zK_v, zb_M_isTaken_85]
    simp only [Int.reduceAdd, zrow_ne (show (1471 : Int) ≠ 1465 by decide)]
    rw [zG2 (by omega) (by omega), zb_M_isTaken_92, r_logs (by rw [p8]; exact g0) (by rw [p8]; exact g60), zK_v, zb_M_isTaken_93]
    rfl
  rw [ze_M_isTaken, zb_M_isTaken_0]
  refine (l_tak1 (q := q) (d := d) (f := f) (f2 := f2) (t := t) (g := g) (l := l) hl hl4 k8 (g (10 + 265 * l + 7)).toNat 0 0 (by omega) (by omega)).trans ?_
  rw [zb_M_isTaken_35]
  simp only [Int.reduceAdd, zrow_ne (show (1471 : Int) ≠ 1465 by decide)]
  rw [zG2 (by omega) (by omega), zb_M_isTaken_41, r_of (by omega) (by omega) (by omega) (by omega), zK_i, zb_M_isTaken_45]
  by_cases c : g (10 + 265 * l + 9) = 1
  · rw [if_pos c] at ha
    have ha : zM (true, q) (d + 1) 150 [(20, 1464, 0), (0, l, 0), (0, f 1471 4, 0), (0, 1, 0), (0, rRepS g (10 + 265 * l) (f 1471 2) (g (10 + 265 * l + 7)).toNat 0 0, 0)] (zrow f 1465 g, t) = some ((9, 0, 0), (zrow f2 1465 g, t)) := ha
    rw [if_neg (fun z => z c), zb_M_isTaken_47, ha, zK_v]
    exact hend
  · rw [if_neg c] at ha
    have ha : zM (true, q) (d + 1) 150 [(20, 1464, 0), (0, l, 0), (0, f 1471 4, 0), (0, 0, 0), (0, rRepS g (10 + 265 * l) (f 1471 2) (g (10 + 265 * l + 7)).toNat 0 0, 0)] (zrow f 1465 g, t) = some ((9, 0, 0), (zrow f2 1465 g, t)) := ha
    rw [if_pos c, zb_M_isTaken_49, ha, zK_v]
    exact hend
