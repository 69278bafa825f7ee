/-! ## the other form: the monitor -/
theorem l_arr4 {q : Int × (Int → Int)} {d : Nat} {f : Int → Int → Int} {t : (Int → Int) × Nat × Nat × Nat × (Int → Int → Bool)} {g : Int → Int} {l x y : Int} (hl : 0 ≤ l) (hl4 : l < 4) (h12 : 0 ≤ g (10 + 265 * l + 12) ∧ g (10 + 265 * l + 12) ≤ 99) (h13 : 0 ≤ g (10 + 265 * l + 13) ∧ g (10 + 265 * l + 13) ≤ 7) : zD (true, q) (d + 1) zc_M_arrives (zat zc_M_arrives 67) [(20, 1464, 0), (0, l, 0), (0, x, 0), (0, y, 0)] [] (zrow f 1465 g, t) = zD (true, q) (d + 1) zc_M_arrives (zat zc_M_arrives 135) [(20, 1464, 0), (0, l, 0), (0, x, 0), (0, if f 1471 3 = 1 then 1 else 0, 0)] [(0, f 1471 0, 0)] (zrow f 1465 (rWatch g (10 + 265 * l) (f 1471 0) (f 1471 3)), t) := by
  unfold rWatch
  rw [zb_M_arrives_67]
  simp only [Int.reduceAdd, zrow_ne (show (1471 : Int) ≠ 1465 by decide)]
  rw [zG2 (by omega) (by omega), zb_M_arrives_71]
  by_cases c3 : f 1471 3 = 1
  · rw [if_neg (fun z => z c3), if_pos c3, if_pos c3, zb_M_arrives_73, if_neg (by decide), zb_M_arrives_79, r_of (by omega) (by omega) (by omega) (by omega), zK_i, zb_M_arrives_87, zw_id (by omega) (by omega), r_lesser, zK_i, zb_M_arrives_90, r_lays (by omega) (by omega) (by omega) (by omega), zK_v, zb_M_arrives_91, r_lays (by omega) (by omega) (by omega) (by omega), zK_v, zb_M_arrives_96]
    simp only [Int.reduceAdd, zrow_ne (show (1471 : Int) ≠ 1465 by decide)]
    rw [zG2 (by omega) (by omega)]
  · rw [if_pos c3, if_neg c3, if_neg c3, zb_M_arrives_75, if_pos rfl, zb_M_arrives_97]
    simp only [Int.reduceAdd, zrow_ne (show (1471 : Int) ≠ 1465 by decide)]
    rw [zG2 (by omega) (by omega), zb_M_arrives_101]
    by_cases c0 : f 1471 0 ≤ 0
    · rw [if_pos c0, if_pos c0, zb_M_arrives_131]
      simp only [Int.reduceAdd, zrow_ne (show (1471 : Int) ≠ 1465 by decide)]
      rw [zG2 (by omega) (by omega)]
    · rw [if_neg c0, if_neg c0, zb_M_arrives_102, r_of (by omega) (by omega) (by omega) (by omega), zK_i, zb_M_arrives_109, zw_id (by omega) (by omega), zG1 (by omega), zb_M_arrives_113, r_lays (by omega) (by omega) (by omega) (by omega), zK_v, zb_M_arrives_114, r_of (by omega) (by omega) (by omega) (by omega), zK_i, zup1_eq rfl, zb_M_arrives_118]
      by_cases c1 : zrem (g (10 + 265 * l + 13) + 1) 8 ≠ 0
      · rw [if_pos c1, if_pos c1, zb_M_arrives_131]
        simp only [Int.reduceAdd, zrow_ne (show (1471 : Int) ≠ 1465 by decide)]
        rw [zG2 (by omega) (by omega)]
      · rw [if_neg c1, if_neg c1, zb_M_arrives_119, r_of (by omega) (by omega) (by omega) (by omega), zK_i, zup1_ne (show 10 + 265 * l + 12 ≠ 10 + 265 * l + 13 by omega), zb_M_arrives_127, zw_id (by omega) (by omega), r_greater, zK_i, zb_M_arrives_130, r_lays (by omega) (by omega) (by omega) (by omega), zK_v, zb_M_arrives_131]
        simp only [Int.reduceAdd, zrow_ne (show (1471 : Int) ≠ 1465 by decide)]
        rw [zG2 (by omega) (by omega)]
def rArr (g : Int → Int) (B : Int) : Int → Int := rWatch (rAir g B) B (g (B + (49 + 0))) (g (B + (49 + 3)))
theorem l_arr {q : Int × (Int → Int)} {d : Nat} {f : Int → Int → Int} {t : (Int → Int) × Nat × Nat × Nat × (Int → Int → Bool)} {g : Int → Int} {l : Int} (hl : 0 ≤ l) (hl4 : l < 4) (p1 : 1 ≤ g (10 + 265 * l + 2)) (p4 : g (10 + 265 * l + 2) ≤ 4) (h12 : 0 ≤ g (10 + 265 * l + 12) ∧ g (10 + 265 * l + 12) ≤ 99) (h13 : 0 ≤ g (10 + 265 * l + 13) ∧ g (10 + 265 * l + 13) ≤ 7) : zM (true, q) (d + 1) 153 [(20, 1464, 0), (0, l, 0)] (zrow f 1465 g, t) = zD (true, q) (d + 1) zc_M_arrives (zat zc_M_arrives 135) [(20, 1464, 0), (0, l, 0), (0, g (10 + 265 * l + 2), 0), (0, if g (10 + 265 * l + (49 + 3)) = 1 then 1 else 0, 0)] [(0, g (10 + 265 * l + (49 + 0)), 0)] (zrow (zrow f 1471 (rCome g (10 + 265 * l) 5 (f 1471))) 1465 (rArr g (10 + 265 * l)), t) := by
  have a12 : rAir g (10 + 265 * l) (10 + 265 * l + 12) = g (10 + 265 * l + 12) := (mfil_out (by omega)).trans (msh_out (by omega))
  have a13 : rAir g (10 + 265 * l) (10 + 265 * l + 13) = g (10 + 265 * l + 13) := (mfil_out (by omega)).trans (msh_out (by omega))
  rw [ze_M_arrives, zb_M_arrives_0]
  have h1 := l_arr1 (q := q) (d := d) (f := f) (t := t) (g := g) (l := l) hl hl4 (R := f 1471) 5 0 (by omega) (by omega)
  rw [rCome_0, zrow_id] at h1
  refine h1.trans ?_
  rw [zb_M_arrives_17, r_of (by omega) (by omega) (by omega) (by omega), zK_i, zb_M_arrives_21]
  have h2 := l_arr2 (q := q) (d := d) (f := zrow f 1471 (rCome g (10 + 265 * l) 5 (f 1471))) (t := t) (g := g) (l := l) (p := g (10 + 265 * l + 2)) hl hl4 p1 p4 (5 * g (10 + 265 * l + 2) - 5).toNat 0 (by omega) (by omega)
  rw [msh_0 (Int.le_refl 0)] at h2
  refine h2.trans ?_
  rw [zb_M_arrives_47, zw_id (show -2147483648 ≤ 5 * g (10 + 265 * l + 2) by omega) (by omega), zw_id (by omega) (by omega)]
  have h3 := l_arr3 (q := q) (d := d) (f := zrow f 1471 (rCome g (10 + 265 * l) 5 (f 1471))) (t := t) (g := msh g (10 + 265 * l + 49) (5 * g (10 + 265 * l + 2) - 5) 5) (l := l) (p := g (10 + 265 * l + 2)) hl hl4 p1 p4 5 (5 * g (10 + 265 * l + 2) - 5) (by omega) (by omega)
  rw [Int.sub_self, mfil_0 (Int.le_refl 0)] at h3
  refine h3.trans ?_
  have h4 := l_arr4 (q := q) (d := d) (f := zrow f 1471 (rCome g (10 + 265 * l) 5 (f 1471))) (t := t) (g := rAir g (10 + 265 * l)) (l := l) (x := g (10 + 265 * l + 2)) (y := 5 * g (10 + 265 * l + 2)) hl hl4 (by omega) (by omega)
  rw [zrow_r, rCome_in (by omega) (by omega), rCome_in (by omega) (by omega)] at h4
  exact h4
