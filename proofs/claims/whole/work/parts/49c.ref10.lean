/-! ## the other form: a line goes over, to its end -/
def rWent (n q0 : Int) : Int := if n ≤ 96 - q0 then n else 96 - q0
theorem l_go3 {q : Int × (Int → Int)} {d : Nat} {f : Int → Int → Int} {t : (Int → Int) × Nat × Nat × Nat × (Int → Int → Bool)} {g : Int → Int} {l n x w : Int} (hw : 0 ≤ w) (hw4 : w < 4) (q0 : 0 ≤ g (10 + 265 * w + 6)) (q9 : g (10 + 265 * w + 6) ≤ 96) (n0 : 0 ≤ n) (n9 : n ≤ 104) : ∀ (k : Nat) (i : Int), 0 ≤ i → i + k = rWent n (g (10 + 265 * w + 6)) → zD (true, q) (d + 3) zc_M_goesOver (zat zc_M_goesOver 107) [(20, 1464, 0), (0, l, 0), (0, n, 0), (0, x, 0), (0, w, 0), (0, i, 0), (0, i, 0)] [] (zrow f 1465 (rApp g (10 + 265 * w) (f 1473) i), t) = zD (true, q) (d + 3) zc_M_goesOver (zat zc_M_goesOver 136) [(20, 1464, 0), (0, l, 0), (0, n, 0), (0, x, 0), (0, w, 0), (0, rWent n (g (10 + 265 * w + 6)), 0), (0, rWent n (g (10 + 265 * w + 6)), 0)] [] (zrow f 1465 (rApp g (10 + 265 * w) (f 1473) (rWent n (g (10 + 265 * w + 6)))), t) := by
  have hr : rWent n (g (10 + 265 * w + 6)) ≤ n ∧ rWent n (g (10 + 265 * w + 6)) ≤ 96 - g (10 + 265 * w + 6) ∧ (rWent n (g (10 + 265 * w + 6)) = n ∨ rWent n (g (10 + 265 * w + 6)) = 96 - g (10 + 265 * w + 6)) := by
    unfold rWent
    split <;> omega
  intro k
  induction k with
  | zero =>
    intro i h0 h1
    have hi : i = rWent n (g (10 + 265 * w + 6)) := by omega
    subst hi
    have e6 : rApp g (10 + 265 * w) (f 1473) (rWent n (g (10 + 265 * w + 6))) (10 + 265 * w + 6) = g (10 + 265 * w + 6) + rWent n (g (10 + 265 * w + 6)) := rApp_6 q0
    by_cases hn : n ≤ rWent n (g (10 + 265 * w + 6))
    · rw [zb_M_goesOver_107, if_pos hn]
    · rw [zb_M_goesOver_107, if_neg hn, zb_M_goesOver_110, r_of (by omega) (by omega) (by omega) (by omega), zK_i, e6, zb_M_goesOver_114, if_pos (by omega)]
  | succ k ih =>
    intro i h0 h1
    have e6 : rApp g (10 + 265 * w) (f 1473) i (10 + 265 * w + 6) = g (10 + 265 * w + 6) + i := rApp_6 q0
    have z1 : zw (2 * i) = 2 * i := zw_id (by omega) (by omega)
    have z2 : zw (2 * i + 1) = 2 * i + 1 := zw_id (by omega) (by omega)
    rw [zb_M_goesOver_107, if_neg (by omega), zb_M_goesOver_110, r_of (by omega) (by omega) (by omega) (by omega), zK_i, e6, zb_M_goesOver_114, if_neg (by omega), zb_M_goesOver_116]
    simp only [Int.reduceAdd]
    rw [z1, zG2 (by omega) (by omega), zb_M_goesOver_124]
    simp only [Int.reduceAdd]
    rw [z1, z2, zG2 (by omega) (by omega), zb_M_goesOver_132, zrow_ne (show (1473 : Int) ≠ 1465 by decide), r_queues hw hw4 (by omega) (by omega), zK_v, zb_M_goesOver_133, e6, rApp_s h0 q0, zw_id (by omega) (by omega)]
    exact ih (i + 1) (by omega) (by omega)
