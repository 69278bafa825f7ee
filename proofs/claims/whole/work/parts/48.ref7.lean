/-! ## the other form: draws, proving -/
def rSeed (s : Int) : Int := zw (zw (1103515245 * s) + 12345)
def rDraw (s : Int) : Int := zrem (zand (zushr (rSeed s) 16) 32767) 100
theorem r_draw {q : Int × (Int → Int)} {d : Nat} {f : Int → Int → Int} {t : (Int → Int) × Nat × Nat × Nat × (Int → Int → Bool)} {g : Int → Int} : zM (true, q) d 161 [(20, 1464, 0), (0, 100, 0)] (zrow f 1465 g, t) = some ((0, rDraw (g 9), 0), (zrow f 1465 (zup1 g 9 (rSeed (g 9))), t)) := by
  rw [ze_M_draw, zb_M_draw_0]
  try simp (disch := omega) only [Int.reduceAdd, zrow_r, zrow_in, zrow_up, zrow_ne]
  rw [zG2 (by omega) (by omega), zb_M_draw_8]
  try simp (disch := omega) only [zw_id, Int.reduceAdd, zrow_r, zrow_in, zrow_up, zrow_ne]
  rw [zG2 (by omega) (by omega), zb_M_draw_12]
  try simp (disch := omega) only [Int.reduceAdd, zrow_r, zrow_in, zrow_up, zrow_ne]
  rw [zG2 (by omega) (by omega), zb_M_draw_16, zG1 (by omega), zb_M_draw_22]
  try simp (disch := omega) only [zup1_eq]
  try rfl
theorem rAnew_out {g : Int → Int} {B j : Int} (h : j < B ∨ B + 73 ≤ j) : rAnew g B j = g j := by
  unfold rAnew rEmp
  rw [mfil_out (by omega), mfil_out (by omega), zup1_ne (by omega), zup1_ne (by omega), zup1_ne (by omega), zup1_ne (by omega), zup1_ne (by omega), zup1_ne (by omega), zup1_ne (by omega), zup1_ne (by omega), zup1_ne (by omega)]
def rPr1 (g : Int → Int) (B bd : Int) : Int → Int := zup1 (zup1 g (B + 15) (g (B + 15) + bd)) (B + 14) (g (B + 14) + 1)
def rPr2 (g : Int → Int) (B bd : Int) : Int → Int := zup1 (zup1 (rPr1 g B bd) (B + 14) 0) (B + 15) 0
def rProv (g : Int → Int) (l B bd : Int) : Int → Int := if g (B + 14) + 1 < 8 then rPr1 g B bd else if g (B + 15) + bd < 2 then rLog (rAnew (zup1 (rPr2 g B bd) (B + 0) 2) B) l 4 (g (B + 15) + bd) else
  if g (B + 16) + 1 < 3 then zup1 (rPr2 g B bd) (B + 16) (g (B + 16) + 1) else rLog (zup1 (zup1 (zup1 (rPr2 g B bd) (B + 16) (g (B + 16) + 1)) (B + 16) 0) (B + 0) 0) l 3 (g (B + 15) + bd)
theorem l_prov {q : Int × (Int → Int)} {d : Nat} {f : Int → Int → Int} {t : (Int → Int) × Nat × Nat × Nat × (Int → Int → Bool)} {g : Int → Int} {l x bd : Int} (hl : 0 ≤ l) (hl4 : l < 4) (h14 : 0 ≤ g (10 + 265 * l + 14) ∧ g (10 + 265 * l + 14) ≤ 7) (h15 : 0 ≤ g (10 + 265 * l + 15) ∧ g (10 + 265 * l + 15) ≤ 7) (h16 : 0 ≤ g (10 + 265 * l + 16) ∧ g (10 + 265 * l + 16) ≤ 2) (hb : 0 ≤ bd ∧ bd ≤ 1) (g0 : 0 ≤ g 8) (g60 : g 8 ≤ 60) : zD (true, q) (d + 3) zc_M_isProved (zat zc_M_isProved 14) [(20, 1464, 0), (0, l, 0), (0, x, 0), (2, 0, 0)] [] (zrow f 1465 (rPr1 g (10 + 265 * l) bd), t) = some ((9, 0, 0), (zrow f 1465 (rProv g l (10 + 265 * l) bd), t)) := by
  have p14 : rPr1 g (10 + 265 * l) bd (10 + 265 * l + 14) = g (10 + 265 * l + 14) + 1 := zup1_eq rfl
  have p15 : rPr1 g (10 + 265 * l) bd (10 + 265 * l + 15) = g (10 + 265 * l + 15) + bd := (zup1_ne (by omega)).trans (zup1_eq rfl)
  have p16 : rPr2 g (10 + 265 * l) bd (10 + 265 * l + 16) = g (10 + 265 * l + 16) := (zup1_ne (by omega)).trans ((zup1_ne (by omega)).trans ((zup1_ne (by omega)).trans (zup1_ne (by omega))))
  have p8 : rPr2 g (10 + 265 * l) bd 8 = g 8 := (zup1_ne (by omega)).trans ((zup1_ne (by omega)).trans ((zup1_ne (by omega)).trans (zup1_ne (by omega))))
  rw [zb_M_isProved_14, r_of (by omega) (by omega) (by omega) (by omega), zK_i, p14, zb_M_isProved_18]
  unfold rProv
  by_cases c1 : g (10 + 265 * l + 14) + 1 < 8
  · rw [if_pos c1, if_neg (by omega), zb_M_isProved_20]
  · rw [if_neg c1, if_pos (by omega), zb_M_isProved_21, r_of (by omega) (by omega) (by omega) (by omega), zK_i, p15, zb_M_isProved_25, r_lays (by omega) (by omega) (by omega) (by omega), zK_v, zb_M_isProved_31, r_lays (by omega) (by omega) (by omega) (by omega), zK_v]
    show zD (true, q) (d + 3) zc_M_isProved (zat zc_M_isProved 36) [(20, 1464, 0), (0, l, 0), (0, x, 0), (0, g (10 + 265 * l + 15) + bd, 0)] [] (zrow f 1465 (rPr2 g (10 + 265 * l) bd), t) = _
    by_cases c2 : g (10 + 265 * l + 15) + bd < 2
    · rw [if_pos c2, zb_M_isProved_36, if_neg (by omega), zb_M_isProved_39, r_lays (by omega) (by omega) (by omega) (by omega), zK_v, zb_M_isProved_44, r_beginsAnew hl hl4, zK_v, zb_M_isProved_47, r_logs (by rw [rAnew_out (by omega), zup1_ne (by omega), p8]; exact g0) (by rw [rAnew_out (by omega), zup1_ne (by omega), p8]; exact g60), zK_v, zb_M_isProved_52]
    · rw [if_neg c2, zb_M_isProved_36, if_pos (by omega), zb_M_isProved_53, r_adds (by omega) (by omega) (by omega) (by omega), zK_v, p16, zw_id (by omega) (by omega), zb_M_isProved_58, r_of (by omega) (by omega) (by omega) (by omega), zK_i, zup1_eq rfl, zb_M_isProved_62]
      by_cases c3 : g (10 + 265 * l + 16) + 1 < 3
      · rw [if_pos c3, if_neg (by omega), zb_M_isProved_64]
      · rw [if_neg c3, if_pos (by omega), zb_M_isProved_65, r_lays (by omega) (by omega) (by omega) (by omega), zK_v, zb_M_isProved_70, r_lays (by omega) (by omega) (by omega) (by omega), zK_v, zb_M_isProved_75, r_logs (by rw [zup1_ne (by omega), zup1_ne (by omega), zup1_ne (by omega), p8]; exact g0) (by rw [zup1_ne (by omega), zup1_ne (by omega), zup1_ne (by omega), p8]; exact g60), zK_v, zb_M_isProved_80]
theorem r_isProved {q : Int × (Int → Int)} {d : Nat} {f : Int → Int → Int} {t : (Int → Int) × Nat × Nat × Nat × (Int → Int → Bool)} {g : Int → Int} {l x : Int} (hl : 0 ≤ l) (hl4 : l < 4) (h14 : 0 ≤ g (10 + 265 * l + 14) ∧ g (10 + 265 * l + 14) ≤ 7) (h15 : 0 ≤ g (10 + 265 * l + 15) ∧ g (10 + 265 * l + 15) ≤ 7) (h16 : 0 ≤ g (10 + 265 * l + 16) ∧ g (10 + 265 * l + 16) ≤ 2) (g0 : 0 ≤ g 8) (g60 : g 8 ≤ 60) : zM (true, q) (d + 3) 164 [(20, 1464, 0), (0, l, 0), (0, x, 0)] (zrow f 1465 g, t) = some ((9, 0, 0), (zrow f 1465 (rProv g l (10 + 265 * l) (if x = 0 then 0 else 1)), t)) := by
  by_cases c : x = 0
  · rw [if_pos c, ze_M_isProved, zb_M_isProved_0, if_pos c, zb_M_isProved_7, r_adds (by omega) (by omega) (by omega) (by omega), zK_v, zw_id (by omega) (by omega), zb_M_isProved_9, r_adds (by omega) (by omega) (by omega) (by omega), zK_v, zup1_ne (show 10 + 265 * l + 14 ≠ 10 + 265 * l + 15 by omega), zw_id (by omega) (by omega)]
    exact l_prov (bd := 0) hl hl4 h14 h15 h16 (by omega) g0 g60
  · rw [if_neg c, ze_M_isProved, zb_M_isProved_0, if_neg c, zb_M_isProved_5, r_adds (by omega) (by omega) (by omega) (by omega), zK_v, zw_id (by omega) (by omega), zb_M_isProved_9, r_adds (by omega) (by omega) (by omega) (by omega), zK_v, zup1_ne (show 10 + 265 * l + 14 ≠ 10 + 265 * l + 15 by omega), zw_id (by omega) (by omega)]
    exact l_prov (bd := 1) hl hl4 h14 h15 h16 (by omega) g0 g60
