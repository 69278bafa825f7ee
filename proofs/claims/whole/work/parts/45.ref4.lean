/-! ## the other form: what is next, what is sent -/
def rFits (g : Int → Int) (B : Int) : Bool := decide (g (B + 7) < g (B + 3) ∧ zsum (fun k => g (B + (17 + 4 * k + 1))) (g (B + 7)).toNat 0 + g (B + (73 + 2 * 0 + 1)) ≤ g (B + 4))
def rNext (g : Int → Int) (B : Int) : Int := if g (B + 9) = 1 then 1 else if 0 < g (B + 6) then (if rFits g B = true then 2 else 3) else if 0 < g (B + 7) then 1 else 0
theorem r_nextOf {q : Int × (Int → Int)} {d : Nat} {f : Int → Int → Int} {t : (Int → Int) × Nat × Nat × Nat × (Int → Int → Bool)} {g : Int → Int} {l : Int} (hl : 0 ≤ l) (hl4 : l < 4) (k0 : 0 ≤ g (10 + 265 * l + 7)) (k8 : g (10 + 265 * l + 7) ≤ 8) (kg : ∀ k, 0 ≤ k → k < g (10 + 265 * l + 7) → 0 ≤ g (10 + 265 * l + (17 + 4 * k + 1)) ∧ g (10 + 265 * l + (17 + 4 * k + 1)) ≤ 9) (qg : 0 < g (10 + 265 * l + 6) → 0 ≤ g (10 + 265 * l + (73 + 2 * 0 + 1)) ∧ g (10 + 265 * l + (73 + 2 * 0 + 1)) ≤ 9) : zM (true, q) (d + 4) 146 [(20, 1464, 0), (0, l, 0)] (zrow f 1465 g, t) = some ((0, rNext g (10 + 265 * l), 0), (zrow f 1465 g, t)) := by
  unfold rNext
  by_cases c1 : g (10 + 265 * l + 9) = 1
  · rw [if_pos c1]
    rw [ze_M_nextOf, zb_M_nextOf_0, r_of (by omega) (by omega) (by omega) (by omega) , zK_i, zb_M_nextOf_4, if_neg (fun z => z c1), zb_M_nextOf_6]
  · rw [if_neg c1]
    by_cases c2 : 0 < g (10 + 265 * l + 6)
    · rw [if_pos c2]
      have hf := r_fits (q := q) (d := d) (f := f) (t := t) (g := g) hl hl4 k0 k8 kg (qg c2)
      by_cases c3 : rFits g (10 + 265 * l) = true
      · rw [if_pos c3]
        have c3b : g (10 + 265 * l + 7) < g (10 + 265 * l + 3) ∧ zsum (fun k => g (10 + 265 * l + (17 + 4 * k + 1))) (g (10 + 265 * l + 7)).toNat 0 + g (10 + 265 * l + (73 + 2 * 0 + 1)) ≤ g (10 + 265 * l + 4) := of_decide_eq_true c3
        rw [if_pos c3b] at hf
        rw [ze_M_nextOf, zb_M_nextOf_0, r_of (by omega) (by omega) (by omega) (by omega) , zK_i, zb_M_nextOf_4, if_pos (c1), zb_M_nextOf_8, r_of (by omega) (by omega) (by omega) (by omega) , zK_i, zb_M_nextOf_12, if_neg (by omega), zb_M_nextOf_13, hf, zK_i, zb_M_nextOf_16, if_neg (by omega), zb_M_nextOf_17]
      · rw [if_neg c3]
        have c3b : ¬ (g (10 + 265 * l + 7) < g (10 + 265 * l + 3) ∧ zsum (fun k => g (10 + 265 * l + (17 + 4 * k + 1))) (g (10 + 265 * l + 7)).toNat 0 + g (10 + 265 * l + (73 + 2 * 0 + 1)) ≤ g (10 + 265 * l + 4)) := fun z => c3 (decide_eq_true z)
        rw [if_neg c3b] at hf
        rw [ze_M_nextOf, zb_M_nextOf_0, r_of (by omega) (by omega) (by omega) (by omega) , zK_i, zb_M_nextOf_4, if_pos (c1), zb_M_nextOf_8, r_of (by omega) (by omega) (by omega) (by omega) , zK_i, zb_M_nextOf_12, if_neg (by omega), zb_M_nextOf_13, hf, zK_i, zb_M_nextOf_16, if_pos (by omega), zb_M_nextOf_19]
    · rw [if_neg c2]
      by_cases c4 : 0 < g (10 + 265 * l + 7)
      · rw [if_pos c4]
        rw [ze_M_nextOf, zb_M_nextOf_0, r_of (by omega) (by omega) (by omega) (by omega) , zK_i, zb_M_nextOf_4, if_pos (c1), zb_M_nextOf_8, r_of (by omega) (by omega) (by omega) (by omega) , zK_i, zb_M_nextOf_12, if_pos (by omega), zb_M_nextOf_21, r_of (by omega) (by omega) (by omega) (by omega) , zK_i, zb_M_nextOf_25, if_neg (by omega), zb_M_nextOf_26]
      · rw [if_neg c4]
        rw [ze_M_nextOf, zb_M_nextOf_0, r_of (by omega) (by omega) (by omega) (by omega) , zK_i, zb_M_nextOf_4, if_pos (c1), zb_M_nextOf_8, r_of (by omega) (by omega) (by omega) (by omega) , zK_i, zb_M_nextOf_12, if_pos (by omega), zb_M_nextOf_21, r_of (by omega) (by omega) (by omega) (by omega) , zK_i, zb_M_nextOf_25, if_pos (by omega), zb_M_nextOf_28]
def rSent (f : Int → Int → Int) (g : Int → Int) (B k : Int) : Int → Int → Int := zup (zup (zup (zup f 1472 0 2) 1472 1 (g (B + (17 + 4 * k + 0)))) 1472 2 (g (B + (17 + 4 * k + 2)))) 1472 4 (g (B + (17 + 4 * k + 1)))
theorem r_isSent {q : Int × (Int → Int)} {d : Nat} {f : Int → Int → Int} {t : (Int → Int) × Nat × Nat × Nat × (Int → Int → Bool)} {g : Int → Int} {l k : Int} (hl : 0 ≤ l) (hl4 : l < 4) (hk : 0 ≤ k) (hk8 : k < 8) : zM (true, q) (d + 2) 158 [(20, 1464, 0), (0, l, 0), (0, k, 0)] (zrow f 1465 g, t) = some ((9, 0, 0), (zrow (rSent f g (10 + 265 * l) k) 1465 g, t)) := by
  rw [ze_M_isSent, zb_M_isSent_0]
  try simp (disch := omega) only [Int.reduceAdd, zrow_r, zrow_in, zrow_up, zrow_ne]
  rw [zG2 (by omega) (by omega), zb_M_isSent_5]
  try simp (disch := omega) only [Int.reduceAdd, zrow_r, zrow_in, zrow_up, zrow_ne]
  rw [r_held (by omega) (by omega) (by omega) (by omega) (by omega) (by omega) , zK_i, zb_M_isSent_13]
  try simp (disch := omega) only [Int.reduceAdd, zrow_r, zrow_in, zrow_up, zrow_ne]
  rw [zG2 (by omega) (by omega), zb_M_isSent_14]
  try simp (disch := omega) only [Int.reduceAdd, zrow_r, zrow_in, zrow_up, zrow_ne]
  rw [r_held (by omega) (by omega) (by omega) (by omega) (by omega) (by omega) , zK_i, zb_M_isSent_22]
  try simp (disch := omega) only [Int.reduceAdd, zrow_r, zrow_in, zrow_up, zrow_ne]
  rw [zG2 (by omega) (by omega), zb_M_isSent_23]
  try simp (disch := omega) only [Int.reduceAdd, zrow_r, zrow_in, zrow_up, zrow_ne]
  rw [r_held (by omega) (by omega) (by omega) (by omega) (by omega) (by omega) , zK_i, zb_M_isSent_31]
  try simp (disch := omega) only [Int.reduceAdd, zrow_r, zrow_in, zrow_up, zrow_ne]
  rw [zG2 (by omega) (by omega), zb_M_isSent_32]
  try rfl
def rHand (g : Int → Int) (B : Int) : Int → Int := if g (B + 8) + 1 < g (B + 7) then zup1 (zup1 g (B + (17 + 4 * g (B + 8) + 3)) (zw (g (B + (17 + 4 * g (B + 8) + 3)) + 1))) (B + 8) (g (B + 8) + 1) else zup1 (zup1 (zup1 g (B + (17 + 4 * g (B + 8) + 3)) (zw (g (B + (17 + 4 * g (B + 8) + 3)) + 1))) (B + 8) 0) (B + 9) 0
theorem zup1_zup1 {g : Int → Int} {k v w : Int} : zup1 (zup1 g k v) k w = zup1 g k w := by
  funext j
  by_cases h : j = k
  · rw [zup1_eq h, zup1_eq h]
  · rw [zup1_ne h, zup1_ne h, zup1_ne h]
theorem r_sendsAtHand {q : Int × (Int → Int)} {d : Nat} {f : Int → Int → Int} {t : (Int → Int) × Nat × Nat × Nat × (Int → Int → Bool)} {g : Int → Int} {l : Int} (hl : 0 ≤ l) (hl4 : l < 4) (h0 : 0 ≤ g (10 + 265 * l + 8)) (h8 : g (10 + 265 * l + 8) < 8) : zM (true, q) (d + 3) 160 [(20, 1464, 0), (0, l, 0)] (zrow f 1465 g, t) = some ((9, 0, 0), (zrow (rSent f g (10 + 265 * l) (g (10 + 265 * l + 8))) 1465 (rHand g (10 + 265 * l)), t)) := by
  unfold rHand
  have e8 : ∀ v, zup1 g (10 + 265 * l + (17 + 4 * g (10 + 265 * l + 8) + 3)) v (10 + 265 * l + 8) = g (10 + 265 * l + 8) := fun v => zup1_ne (by omega)
  have e7 : ∀ v, zup1 g (10 + 265 * l + (17 + 4 * g (10 + 265 * l + 8) + 3)) v (10 + 265 * l + 7) = g (10 + 265 * l + 7) := fun v => zup1_ne (by omega)
  have e87 : ∀ (v x : Int), zup1 (zup1 g (10 + 265 * l + (17 + 4 * g (10 + 265 * l + 8) + 3)) v) (10 + 265 * l + 8) x (10 + 265 * l + 7) = g (10 + 265 * l + 7) := fun v x => (zup1_ne (by omega)).trans (e7 v)
  have e88 : ∀ (v x : Int), zup1 (zup1 g (10 + 265 * l + (17 + 4 * g (10 + 265 * l + 8) + 3)) v) (10 + 265 * l + 8) x (10 + 265 * l + 8) = x := fun v x => zup1_eq rfl
  have ew : zw (g (10 + 265 * l + 8) + 1) = g (10 + 265 * l + 8) + 1 := zw_id (by omega) (by omega)
  by_cases c1 : g (10 + 265 * l + 8) + 1 < g (10 + 265 * l + 7)
  · rw [if_pos c1]
    rw [ze_M_sendsAtHand, zb_M_sendsAtHand_0, r_of (by omega) (by omega) (by omega) (by omega) , zK_i, zb_M_sendsAtHand_4, r_isSent hl hl4 h0 h8, zK_v, zb_M_sendsAtHand_9]
    try simp (disch := omega) only [zw_id]
    rw [r_adds (by omega) (by omega) (by omega) (by omega) , zK_v, zb_M_sendsAtHand_20, r_adds (by omega) (by omega) (by omega) (by omega) , zK_v, zb_M_sendsAtHand_25, r_of (by omega) (by omega) (by omega) (by omega) , zK_i, zb_M_sendsAtHand_29, r_of (by omega) (by omega) (by omega) (by omega) , zK_i, zb_M_sendsAtHand_33, if_neg (by rw [e88, e87, e8, ew]; omega), zb_M_sendsAtHand_34]
    rw [e8, ew]
  · rw [if_neg c1]
    rw [ze_M_sendsAtHand, zb_M_sendsAtHand_0, r_of (by omega) (by omega) (by omega) (by omega) , zK_i, zb_M_sendsAtHand_4, r_isSent hl hl4 h0 h8, zK_v, zb_M_sendsAtHand_9]
    try simp (disch := omega) only [zw_id]
    rw [r_adds (by omega) (by omega) (by omega) (by omega) , zK_v, zb_M_sendsAtHand_20, r_adds (by omega) (by omega) (by omega) (by omega) , zK_v, zb_M_sendsAtHand_25, r_of (by omega) (by omega) (by omega) (by omega) , zK_i, zb_M_sendsAtHand_29, r_of (by omega) (by omega) (by omega) (by omega) , zK_i, zb_M_sendsAtHand_33, if_pos (by rw [e88, e87, e8, ew]; omega), zb_M_sendsAtHand_35, r_lays (by omega) (by omega) (by omega) (by omega) , zK_v, zb_M_sendsAtHand_40, r_lays (by omega) (by omega) (by omega) (by omega) , zK_v, zb_M_sendsAtHand_45]
    rw [zup1_zup1]
