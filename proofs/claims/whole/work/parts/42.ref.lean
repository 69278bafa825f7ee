/-! ## the other form: a line's rows -/
theorem l_octetsKept {q : Int × (Int → Int)} {d : Nat} {f : Int → Int → Int} {g : Int → Int} {t : (Int → Int) × Nat × Nat × Nat × (Int → Int → Bool)} {l : Int} (hl : 0 ≤ l) (hl4 : l < 4) (h8 : g (10 + 265 * l + 7) ≤ 8) (hg : ∀ k, 0 ≤ k → k < g (10 + 265 * l + 7) → 0 ≤ g (10 + 265 * l + (17 + 4 * k + 1)) ∧ g (10 + 265 * l + (17 + 4 * k + 1)) ≤ 9) : ∀ (n : Nat) (i a : Int), 0 ≤ i → i + n = g (10 + 265 * l + 7) → 0 ≤ a → a ≤ 9 * i →
    zD (true, q) (d + 2) zc_M_octetsKept (zat zc_M_octetsKept 4) [(20, 1464, 0), (0, l, 0), (0, a, 0), (0, i, 0)] [] (zrow f 1465 g, t) = some ((0, a + zsum (fun k => g (10 + 265 * l + (17 + 4 * k + 1))) n i, 0), (zrow f 1465 g, t)) := by
  intro n
  induction n with
  | zero =>
    intro i a h0 h1 h2 h3
    rw [zb_M_octetsKept_4, r_of (by omega) (by omega) (by omega) (by omega) , zK_i, zb_M_octetsKept_9, if_pos (by omega), zb_M_octetsKept_20]
    simp only [zsum, Int.add_zero]
  | succ n ih =>
    intro i a h0 h1 h2 h3
    have hgi := hg i h0 (by omega)
    rw [zb_M_octetsKept_4, r_of (by omega) (by omega) (by omega) (by omega) , zK_i, zb_M_octetsKept_9, if_neg (by omega), zb_M_octetsKept_10, r_held (by omega) (by omega) (by omega) (by omega) (by omega) (by omega) , zK_i, zb_M_octetsKept_16]
    try simp (disch := omega) only [zw_id]
    rw [ih (i + 1) _ (by omega) (by omega) (by omega) (by omega)]
    simp only [zsum, Int.add_assoc]
theorem r_octetsKept {q : Int × (Int → Int)} {d : Nat} {f : Int → Int → Int} {g : Int → Int} {t : (Int → Int) × Nat × Nat × Nat × (Int → Int → Bool)} {l : Int} (hl : 0 ≤ l) (hl4 : l < 4) (h0 : 0 ≤ g (10 + 265 * l + 7)) (h8 : g (10 + 265 * l + 7) ≤ 8) (hg : ∀ k, 0 ≤ k → k < g (10 + 265 * l + 7) → 0 ≤ g (10 + 265 * l + (17 + 4 * k + 1)) ∧ g (10 + 265 * l + (17 + 4 * k + 1)) ≤ 9) :
    zM (true, q) (d + 2) 142 [(20, 1464, 0), (0, l, 0)] (zrow f 1465 g, t) = some ((0, zsum (fun k => g (10 + 265 * l + (17 + 4 * k + 1))) (g (10 + 265 * l + 7)).toNat 0, 0), (zrow f 1465 g, t)) := by
  rw [ze_M_octetsKept, zb_M_octetsKept_0]
  rw [l_octetsKept hl hl4 h8 hg (g (10 + 265 * l + 7)).toNat 0 0 (by omega) (by omega) (by omega) (by omega), Int.zero_add]
theorem l_load {q : Int × (Int → Int)} {d : Nat} {f : Int → Int → Int} {g : Int → Int} {t : (Int → Int) × Nat × Nat × Nat × (Int → Int → Bool)} {l : Int} (hl : 0 ≤ l) (hl4 : l < 4) (h8 : g (10 + 265 * l + 6) ≤ 96) (hg : ∀ k, 0 ≤ k → k < g (10 + 265 * l + 6) → 0 ≤ g (10 + 265 * l + (73 + 2 * k + 1)) ∧ g (10 + 265 * l + (73 + 2 * k + 1)) ≤ 9) : ∀ (n : Nat) (i a : Int), 0 ≤ i → i + n = g (10 + 265 * l + 6) → 0 ≤ a → a ≤ 9 * i + 72 →
    zD (true, q) (d + 2) zc_M_load (zat zc_M_load 6) [(20, 1464, 0), (0, l, 0), (0, a, 0), (0, i, 0)] [] (zrow f 1465 g, t) = some ((0, a + zsum (fun k => g (10 + 265 * l + (73 + 2 * k + 1))) n i, 0), (zrow f 1465 g, t)) := by
  intro n
  induction n with
  | zero =>
    intro i a h0 h1 h2 h3
    rw [zb_M_load_6, r_of (by omega) (by omega) (by omega) (by omega) , zK_i, zb_M_load_11, if_pos (by omega), zb_M_load_22]
    simp only [zsum, Int.add_zero]
  | succ n ih =>
    intro i a h0 h1 h2 h3
    have hgi := hg i h0 (by omega)
    rw [zb_M_load_6, r_of (by omega) (by omega) (by omega) (by omega) , zK_i, zb_M_load_11, if_neg (by omega), zb_M_load_12, r_queued (by omega) (by omega) (by omega) (by omega) (by omega) (by omega) , zK_i, zb_M_load_18]
    try simp (disch := omega) only [zw_id]
    rw [ih (i + 1) _ (by omega) (by omega) (by omega) (by omega)]
    simp only [zsum, Int.add_assoc]
theorem r_load {q : Int × (Int → Int)} {d : Nat} {f : Int → Int → Int} {g : Int → Int} {t : (Int → Int) × Nat × Nat × Nat × (Int → Int → Bool)} {l : Int} (hl : 0 ≤ l) (hl4 : l < 4) (h0 : 0 ≤ g (10 + 265 * l + 7)) (h8 : g (10 + 265 * l + 7) ≤ 8) (hg : ∀ k, 0 ≤ k → k < g (10 + 265 * l + 7) → 0 ≤ g (10 + 265 * l + (17 + 4 * k + 1)) ∧ g (10 + 265 * l + (17 + 4 * k + 1)) ≤ 9)
    (k0 : 0 ≤ g (10 + 265 * l + 6)) (k8 : g (10 + 265 * l + 6) ≤ 96) (kg : ∀ k, 0 ≤ k → k < g (10 + 265 * l + 6) → 0 ≤ g (10 + 265 * l + (73 + 2 * k + 1)) ∧ g (10 + 265 * l + (73 + 2 * k + 1)) ≤ 9) :
    zM (true, q) (d + 3) 144 [(20, 1464, 0), (0, l, 0)] (zrow f 1465 g, t) = some ((0, zsum (fun k => g (10 + 265 * l + (17 + 4 * k + 1))) (g (10 + 265 * l + 7)).toNat 0 + zsum (fun k => g (10 + 265 * l + (73 + 2 * k + 1))) (g (10 + 265 * l + 6)).toNat 0, 0), (zrow f 1465 g, t)) := by
  have hs := zsum_rng (g := fun k => g (10 + 265 * l + (17 + 4 * k + 1))) (lo := 0) (hi := 9) (g (10 + 265 * l + 7)).toNat 0 (fun k h1 h2 => hg k h1 (by omega))
  rw [ze_M_load, zb_M_load_0, r_octetsKept hl hl4 h0 h8 hg, zK_i, zb_M_load_3]
  rw [l_load hl hl4 k8 kg (g (10 + 265 * l + 6)).toNat 0 _ (by omega) (by omega) (by omega) (by omega)]
theorem r_queues {q : Int × (Int → Int)} {d : Nat} {f : Int → Int → Int} {g : Int → Int} {t : (Int → Int) × Nat × Nat × Nat × (Int → Int → Bool)} {l x v : Int} (hl : 0 ≤ l) (hl4 : l < 4) (h0 : 0 ≤ g (10 + 265 * l + 6)) (h8 : g (10 + 265 * l + 6) < 96) : zM (true, q) (d + 2) 80 [(20, 1464, 0), (0, l, 0), (0, x, 0), (0, v, 0)] (zrow f 1465 g, t) =
    some ((9, 0, 0), (zrow f 1465 (zup1 (zup1 (zup1 g (10 + 265 * l + (73 + 2 * g (10 + 265 * l + 6))) x) (10 + 265 * l + (73 + 2 * g (10 + 265 * l + 6) + 1)) v) (10 + 265 * l + 6) (g (10 + 265 * l + 6) + 1)), t)) := by
  rw [ze_M_queues, zb_M_queues_0, r_of (by omega) (by omega) (by omega) (by omega) , zK_i, zb_M_queues_6]
  try simp (disch := omega) only [zw_id]
  rw [r_lays (by omega) (by omega) (by omega) (by omega) , zK_v, zb_M_queues_16]
  try simp (disch := omega) only [zw_id]
  rw [r_lays (by omega) (by omega) (by omega) (by omega) , zK_v, zb_M_queues_23, r_adds (by omega) (by omega) (by omega) (by omega) , zK_v, zb_M_queues_28]
  simp (disch := omega) only [zup1_ne, zw_id, Int.add_zero]
