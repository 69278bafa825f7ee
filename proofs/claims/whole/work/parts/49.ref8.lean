/-! ## the other form: the line that takes over -/
def rBet (g : Int → Int) (l o to : Int) : Bool := decide (o ≠ l ∧ g (10 + 265 * o + 0) = 2 ∧ (to = -1 ∨ g (10 + 265 * o + 7) + g (10 + 265 * o + 6) < g (10 + 265 * to + 7) + g (10 + 265 * to + 6)))
def rOthS (g : Int → Int) (l : Int) : Nat → Int → Int → Int
  | 0, _, to => to
  | n + 1, o, to => rOthS g l n (o + 1) (if rBet g l o to = true then o else to)
def rOth (g : Int → Int) (l : Int) : Int := rOthS g l (g 3).toNat 0 (-1)
theorem rOthS_rng {g : Int → Int} {l : Int} : ∀ (n : Nat) (o to : Int), 0 ≤ o → (to = -1 ∨ (0 ≤ to ∧ to < o ∧ to ≠ l)) → rOthS g l n o to = -1 ∨ (0 ≤ rOthS g l n o to ∧ rOthS g l n o to < o + n ∧ rOthS g l n o to ≠ l) := by
  intro n
  induction n with
  | zero =>
    intro o to h0 h1
    show to = -1 ∨ (0 ≤ to ∧ to < o + (0 : Nat) ∧ to ≠ l)
    omega
  | succ n ih =>
    intro o to h0 h1
    show rOthS g l n (o + 1) (if rBet g l o to = true then o else to) = -1 ∨ (0 ≤ rOthS g l n (o + 1) (if rBet g l o to = true then o else to) ∧ rOthS g l n (o + 1) (if rBet g l o to = true then o else to) < o + ((n + 1 : Nat) : Int) ∧ rOthS g l n (o + 1) (if rBet g l o to = true then o else to) ≠ l)
    have hs : (if rBet g l o to = true then o else to) = -1 ∨ (0 ≤ (if rBet g l o to = true then o else to) ∧ (if rBet g l o to = true then o else to) < o + 1 ∧ (if rBet g l o to = true then o else to) ≠ l) := by
      by_cases hb : rBet g l o to = true
      · rw [if_pos hb]
        have := (of_decide_eq_true hb).1
        omega
      · rw [if_neg hb]
        omega
    have h := ih (o + 1) _ (by omega) hs
    omega
theorem l_otherIn {q : Int × (Int → Int)} {d : Nat} {f : Int → Int → Int} {t : (Int → Int) × Nat × Nat × Nat × (Int → Int → Bool)} {g : Int → Int} {l : Int} (hm : g 3 ≤ 4) (hk : ∀ o, 0 ≤ o → o < g 3 → 0 ≤ g (10 + 265 * o + 7) ∧ g (10 + 265 * o + 7) ≤ 8 ∧ 0 ≤ g (10 + 265 * o + 6) ∧ g (10 + 265 * o + 6) ≤ 96) : ∀ (n : Nat) (o to : Int), 0 ≤ o → o + n = g 3 → (to = -1 ∨ (0 ≤ to ∧ to < o)) → zD (true, q) (d + 1) zc_M_otherIn (zat zc_M_otherIn 4) [(20, 1464, 0), (0, l, 0), (0, to, 0), (0, o, 0)] [] (zrow f 1465 g, t) = some ((0, rOthS g l n o to, 0), (zrow f 1465 g, t)) := by
  intro n
  induction n with
  | zero =>
    intro o to h0 h1 h2
    rw [zb_M_otherIn_4]
    try simp (disch := omega) only [Int.reduceAdd, zrow_r, zrow_in, zrow_up, zrow_ne]
    rw [zG2 (by omega) (by omega), zb_M_otherIn_9, if_pos (by omega), zb_M_otherIn_45]
    try rfl
  | succ n ih =>
    intro o to h0 h1 h2
    have hko := hk o h0 (by omega)
    show _ = some ((0, rOthS g l n (o + 1) (if rBet g l o to = true then o else to), 0), _)
    by_cases c1 : o = l
    · rw [if_neg (show ¬ rBet g l o to = true from fun z => (of_decide_eq_true z).1 c1)]
      rw [zb_M_otherIn_4]
      try simp (disch := omega) only [Int.reduceAdd, zrow_r, zrow_in, zrow_up, zrow_ne]
      rw [zG2 (by omega) (by omega), zb_M_otherIn_9, if_neg (by omega), zb_M_otherIn_10, if_pos (c1), zb_M_otherIn_43]
      try simp (disch := omega) only [zw_id]
      exact ih (o + 1) to (by omega) (by omega) (by omega)
    · by_cases c2 : g (10 + 265 * o + 0) = 2
      · by_cases c3 : to = -1
        · rw [if_pos (show rBet g l o to = true from decide_eq_true ⟨c1, c2, Or.inl c3⟩)]
          rw [zb_M_otherIn_4]
          try simp (disch := omega) only [Int.reduceAdd, zrow_r, zrow_in, zrow_up, zrow_ne]
          rw [zG2 (by omega) (by omega), zb_M_otherIn_9, if_neg (by omega), zb_M_otherIn_10, if_neg (c1), zb_M_otherIn_13, r_of (by omega) (by omega) (by omega) (by omega), zK_i, zb_M_otherIn_17, if_neg (fun z => z c2), zb_M_otherIn_19, if_pos (c3), zb_M_otherIn_41]
          try simp (disch := omega) only [zw_id]
          exact ih (o + 1) o (by omega) (by omega) (by omega)
        · have hkt := hk to (by omega) (by omega)
          by_cases c4 : g (10 + 265 * o + 7) + g (10 + 265 * o + 6) < g (10 + 265 * to + 7) + g (10 + 265 * to + 6)
          · rw [if_pos (show rBet g l o to = true from decide_eq_true ⟨c1, c2, Or.inr c4⟩)]
            rw [zb_M_otherIn_4]
            try simp (disch := omega) only [Int.reduceAdd, zrow_r, zrow_in, zrow_up, zrow_ne]
            rw [zG2 (by omega) (by omega), zb_M_otherIn_9, if_neg (by omega), zb_M_otherIn_10, if_neg (c1), zb_M_otherIn_13, r_of (by omega) (by omega) (by omega) (by omega), zK_i, zb_M_otherIn_17, if_neg (fun z => z c2), zb_M_otherIn_19, if_neg (c3), zb_M_otherIn_22, r_of (by omega) (by omega) (by omega) (by omega), zK_i, zb_M_otherIn_26, r_of (by omega) (by omega) (by omega) (by omega), zK_i, zb_M_otherIn_30]
            try simp (disch := omega) only [zw_id]
            rw [r_of (by omega) (by omega) (by omega) (by omega), zK_i, zb_M_otherIn_35, r_of (by omega) (by omega) (by omega) (by omega), zK_i, zb_M_otherIn_39]
            try simp (disch := omega) only [zw_id]
            rw [if_neg (by omega)]
            try simp (disch := omega) only [zw_id]
            rw [zb_M_otherIn_41]
            try simp (disch := omega) only [zw_id]
            exact ih (o + 1) o (by omega) (by omega) (by omega)
          · rw [if_neg (show ¬ rBet g l o to = true from fun z => (of_decide_eq_true z).2.2.elim c3 c4)]
            rw [zb_M_otherIn_4]
            try simp (disch := omega) only [Int.reduceAdd, zrow_r, zrow_in, zrow_up, zrow_ne]
            rw [zG2 (by omega) (by omega), zb_M_otherIn_9, if_neg (by omega), zb_M_otherIn_10, if_neg (c1), zb_M_otherIn_13, r_of (by omega) (by omega) (by omega) (by omega), zK_i, zb_M_otherIn_17, if_neg (fun z => z c2), zb_M_otherIn_19, if_neg (c3), zb_M_otherIn_22, r_of (by omega) (by omega) (by omega) (by omega), zK_i, zb_M_otherIn_26, r_of (by omega) (by omega) (by omega) (by omega), zK_i, zb_M_otherIn_30]
            try simp (disch := omega) only [zw_id]
            rw [r_of (by omega) (by omega) (by omega) (by omega), zK_i, zb_M_otherIn_35, r_of (by omega) (by omega) (by omega) (by omega), zK_i, zb_M_otherIn_39]
            try simp (disch := omega) only [zw_id]
            rw [if_pos (by omega)]
            try simp (disch := omega) only [zw_id]
            rw [zb_M_otherIn_43]
            try simp (disch := omega) only [zw_id]
            exact ih (o + 1) to (by omega) (by omega) (by omega)
      · rw [if_neg (show ¬ rBet g l o to = true from fun z => c2 (of_decide_eq_true z).2.1)]
        rw [zb_M_otherIn_4]
        try simp (disch := omega) only [Int.reduceAdd, zrow_r, zrow_in, zrow_up, zrow_ne]
        rw [zG2 (by omega) (by omega), zb_M_otherIn_9, if_neg (by omega), zb_M_otherIn_10, if_neg (c1), zb_M_otherIn_13, r_of (by omega) (by omega) (by omega) (by omega), zK_i, zb_M_otherIn_17, if_pos (c2), zb_M_otherIn_43]
        try simp (disch := omega) only [zw_id]
        exact ih (o + 1) to (by omega) (by omega) (by omega)
theorem r_otherIn {q : Int × (Int → Int)} {d : Nat} {f : Int → Int → Int} {t : (Int → Int) × Nat × Nat × Nat × (Int → Int → Bool)} {g : Int → Int} {l : Int} (h0 : 0 ≤ g 3) (hm : g 3 ≤ 4) (hk : ∀ o, 0 ≤ o → o < g 3 → 0 ≤ g (10 + 265 * o + 7) ∧ g (10 + 265 * o + 7) ≤ 8 ∧ 0 ≤ g (10 + 265 * o + 6) ∧ g (10 + 265 * o + 6) ≤ 96) : zM (true, q) (d + 1) 165 [(20, 1464, 0), (0, l, 0)] (zrow f 1465 g, t) = some ((0, rOth g l, 0), (zrow f 1465 g, t)) := by
  rw [ze_M_otherIn, zb_M_otherIn_0]
  exact l_otherIn hm hk (g 3).toNat 0 (-1) (by omega) (by omega) (Or.inl rfl)
