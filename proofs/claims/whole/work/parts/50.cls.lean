/-! ## the class: what is read of a line -/
theorem zNL8 : zNL 8 = 8 := if_neg (by decide)
theorem zNL96 : zNL 96 = 0 := if_pos (by decide)
theorem zfst_no {p : Int → Bool} {no : Int} : ∀ (n : Nat) (i : Int), 0 ≤ i → zfst p no n i = if zfst p (-1) n i = -1 then no else zfst p (-1) n i := by
  intro n
  induction n with
  | zero => intro i _; rfl
  | succ n ih =>
    intro i hi
    cases hp : p i with
    | true =>
      rw [zfst_hit hp, zfst_hit hp, if_neg (by omega)]
    | false =>
      rw [zfst_miss hp, zfst_miss hp]
      exact ih (i + 1) (by omega)

theorem cl_octets {q : Int × (Int → Int)} {d : Nat} {σ : zS} {u y : Int} (hy : y ≤ 96) (hn : σ.1 u 4 ≤ y) (hg : ∀ k, 0 ≤ k → k < σ.1 u 4 → 0 ≤ σ.1 (u + 2) k ∧ σ.1 (u + 2) k ≤ 9) : ∀ (n : Nat) (i a : Int), 0 ≤ i → i + n = σ.1 u 4 → 0 ≤ a → a ≤ 9 * i →
    zD (true, q) (d + 1) zc_Uni_octets (zat zc_Uni_octets 4) [(16, u, y), (0, a, 0), (0, i, 0)] [] σ = some ((0, a + zsum (fun k => σ.1 (u + 2) k) n i, 0), σ) := by
  intro n
  induction n with
  | zero =>
    intro i a h0 h1 h2 h3
    rw [zb_Uni_octets_4, if_pos (by omega), zb_Uni_octets_17]
    simp only [zsum, Int.add_zero]
  | succ n ih =>
    intro i a h0 h1 h2 h3
    have hgi := hg i h0 (by omega)
    rw [zb_Uni_octets_4, if_neg (by omega), zb_Uni_octets_8]
    try simp (disch := omega) only [Int.reduceAdd, Int.add_assoc, Int.zero_add]
    rw [s_at (by omega) (by omega), zK_i, zb_Uni_octets_13]
    try simp (disch := omega) only [zw_id]
    rw [ih (i + 1) _ (by omega) (by omega) (by omega) (by omega)]
    simp only [zsum, Int.add_assoc]
theorem c_octets {q : Int × (Int → Int)} {d : Nat} {σ : zS} {u y : Int} (hy : y ≤ 96) (h0 : 0 ≤ σ.1 u 4) (hn : σ.1 u 4 ≤ y) (hg : ∀ k, 0 ≤ k → k < σ.1 u 4 → 0 ≤ σ.1 (u + 2) k ∧ σ.1 (u + 2) k ≤ 9) : zM (true, q) (d + 1) 101 [(16, u, y)] σ = some ((0, zsum (fun k => σ.1 (u + 2) k) (σ.1 u 4).toNat 0, 0), σ) := by
  rw [ze_Uni_octets, zb_Uni_octets_0]
  rw [cl_octets hy hn hg (σ.1 u 4).toNat 0 0 (by omega) (by omega) (by omega) (by omega), Int.zero_add]
theorem cl_placeOf {q : Int × (Int → Int)} {d : Nat} {σ : zS} {u m : Int} (hn : σ.1 u 4 ≤ 8) : ∀ (n : Nat) (i : Int), 0 ≤ i → i + n = σ.1 u 4 → zD (true, q) d zc_Uni_placeOf (zat zc_Uni_placeOf 2) [(16, u, 8), (0, m, 0), (0, i, 0)] [] σ = some ((0, zfst (fun k => decide (σ.1 (u + 3) k = m)) (-1) n i, 0), σ) := by
  intro n
  induction n with
  | zero =>
    intro i h0 h1
    rw [zb_Uni_placeOf_2, if_pos (by omega), zb_Uni_placeOf_21]
    rfl
  | succ n ih =>
    intro i h0 h1
    have e8 := zNL8
    by_cases hm : σ.1 (u + 3) i = m
    · rw [zfst_hit (by exact decide_eq_true hm)]
      rw [zb_Uni_placeOf_2, if_neg (by omega), zb_Uni_placeOf_6]
      try simp (disch := omega) only [zNL8, zNL96]
      rw [if_neg (by omega)]
      try simp (disch := omega) only [zNL8, zNL96]
      rw [zb_Uni_placeOf_11]
      try simp (disch := omega) only [Int.reduceAdd, Int.add_assoc, Int.zero_add, zNL8, zNL96]
      rw [zG2 (by omega) (by omega), zb_Uni_placeOf_15, if_neg (fun z => z hm), zb_Uni_placeOf_17]
    · rw [zfst_miss (by exact decide_eq_false hm)]
      rw [zb_Uni_placeOf_2, if_neg (by omega), zb_Uni_placeOf_6]
      try simp (disch := omega) only [zNL8, zNL96]
      rw [if_neg (by omega)]
      try simp (disch := omega) only [zNL8, zNL96]
      rw [zb_Uni_placeOf_11]
      try simp (disch := omega) only [Int.reduceAdd, Int.add_assoc, Int.zero_add, zNL8, zNL96]
      rw [zG2 (by omega) (by omega), zb_Uni_placeOf_15, if_pos (hm), zb_Uni_placeOf_19]
      try simp (disch := omega) only [zw_id]
      exact ih (i + 1) (by omega) (by omega)
theorem c_placeOf {q : Int × (Int → Int)} {d : Nat} {σ : zS} {u m : Int} (h0 : 0 ≤ σ.1 u 4) (hn : σ.1 u 4 ≤ 8) : zM (true, q) d 108 [(16, u, 8), (0, m, 0)] σ = some ((0, zfst (fun k => decide (σ.1 (u + 3) k = m)) (-1) (σ.1 u 4).toNat 0, 0), σ) := by
  rw [ze_Uni_placeOf, zb_Uni_placeOf_0]
  exact cl_placeOf hn (σ.1 u 4).toNat 0 (by omega) (by omega)
theorem c_toldBy {q : Int × (Int → Int)} {d : Nat} {σ : zS} {b m : Int} (h0 : 0 ≤ σ.1 (b + 6) 4) (hn : σ.1 (b + 6) 4 ≤ 8) : zM (true, q) (d + 1) 117 [(13, b, 0), (0, m, 0)] σ = some ((0, zfst (fun k => decide (σ.1 (b + 9) k = m)) (if m = σ.1 b 12 then σ.1 (b + 6) 4 else 0) (σ.1 (b + 6) 4).toNat 0, 0), σ) := by
  rw [zfst_no _ _ (Int.le_refl 0)]
  have hp := c_placeOf (q := q) (d := d) (σ := σ) (u := b + 6) (m := m) h0 hn
  simp only [Int.add_assoc, Int.reduceAdd] at hp
  by_cases h1 : zfst (fun k => decide (σ.1 (b + 9) k = m)) (-1) (σ.1 (b + 6) 4).toNat 0 = -1
  · rw [if_pos h1]
    by_cases h2 : m = σ.1 b 12
    · rw [if_pos h2]
      rw [ze_Lin_toldBy, zb_Lin_toldBy_0]
      try simp (disch := omega) only [Int.reduceAdd, Int.add_assoc, Int.zero_add]
      rw [hp, zK_i, zb_Lin_toldBy_4, if_pos (h1), zb_Lin_toldBy_10, if_neg (fun z => z h2), zb_Lin_toldBy_14]
      try simp (disch := omega) only [Int.reduceAdd, Int.add_assoc, Int.zero_add]
    · rw [if_neg h2]
      rw [ze_Lin_toldBy, zb_Lin_toldBy_0]
      try simp (disch := omega) only [Int.reduceAdd, Int.add_assoc, Int.zero_add]
      rw [hp, zK_i, zb_Lin_toldBy_4, if_pos (h1), zb_Lin_toldBy_10, if_pos (h2), zb_Lin_toldBy_18]
  · rw [if_neg h1]
    rw [ze_Lin_toldBy, zb_Lin_toldBy_0]
    try simp (disch := omega) only [Int.reduceAdd, Int.add_assoc, Int.zero_add]
    rw [hp, zK_i, zb_Lin_toldBy_4, if_neg (h1), zb_Lin_toldBy_8]
theorem c_octB {q : Int × (Int → Int)} {d : Nat} {σ : zS} {b : Int} (k0 : 0 ≤ σ.1 (b + 6) 4) (k8 : σ.1 (b + 6) 4 ≤ 8) (kg : ∀ k, 0 ≤ k → k < σ.1 (b + 6) 4 → 0 ≤ σ.1 (b + 8) k ∧ σ.1 (b + 8) k ≤ 9) : zM (true, q) (d + 1) 101 [(16, b + 6, 8)] σ = some ((0, zsum (fun k => σ.1 (b + 8) k) (σ.1 (b + 6) 4).toNat 0, 0), σ) := by
  have h := c_octets (q := q) (d := d) (σ := σ) (u := b + 6) (y := 8) (by omega) k0 k8 (by simp only [Int.add_assoc, Int.reduceAdd]; exact kg)
  simp only [Int.add_assoc, Int.reduceAdd] at h
  exact h
theorem c_octQ {q : Int × (Int → Int)} {d : Nat} {σ : zS} {b : Int} (q0 : 0 ≤ σ.1 (b + 1) 4) (q8 : σ.1 (b + 1) 4 ≤ 96) (qg : ∀ k, 0 ≤ k → k < σ.1 (b + 1) 4 → 0 ≤ σ.1 (b + 3) k ∧ σ.1 (b + 3) k ≤ 9) : zM (true, q) (d + 1) 101 [(16, b + 1, 96)] σ = some ((0, zsum (fun k => σ.1 (b + 3) k) (σ.1 (b + 1) 4).toNat 0, 0), σ) := by
  have h := c_octets (q := q) (d := d) (σ := σ) (u := b + 1) (y := 96) (by omega) q0 q8 (by simp only [Int.add_assoc, Int.reduceAdd]; exact qg)
  simp only [Int.add_assoc, Int.reduceAdd] at h
  exact h
theorem c_load {q : Int × (Int → Int)} {d : Nat} {σ : zS} {b : Int} (k0 : 0 ≤ σ.1 (b + 6) 4) (k8 : σ.1 (b + 6) 4 ≤ 8) (kg : ∀ k, 0 ≤ k → k < σ.1 (b + 6) 4 → 0 ≤ σ.1 (b + 8) k ∧ σ.1 (b + 8) k ≤ 9) (q0 : 0 ≤ σ.1 (b + 1) 4) (q8 : σ.1 (b + 1) 4 ≤ 96) (qg : ∀ k, 0 ≤ k → k < σ.1 (b + 1) 4 → 0 ≤ σ.1 (b + 3) k ∧ σ.1 (b + 3) k ≤ 9) : zM (true, q) (d + 2) 102 [(13, b, 0)] σ = some ((0, zsum (fun k => σ.1 (b + 8) k) (σ.1 (b + 6) 4).toNat 0 + zsum (fun k => σ.1 (b + 3) k) (σ.1 (b + 1) 4).toNat 0, 0), σ) := by
  have h1 := zsum_rng (g := fun k => σ.1 (b + 8) k) (lo := 0) (hi := 9) (σ.1 (b + 6) 4).toNat 0 (fun k h1 h2 => kg k h1 (by omega))
  have h2 := zsum_rng (g := fun k => σ.1 (b + 3) k) (lo := 0) (hi := 9) (σ.1 (b + 1) 4).toNat 0 (fun k h1 h2 => qg k h1 (by omega))
  rw [ze_Lin_load, zb_Lin_load_0]
  try simp (disch := omega) only [Int.reduceAdd, Int.add_assoc, Int.zero_add]
  rw [c_octB k0 k8 kg, zK_i, zb_Lin_load_3]
  try simp (disch := omega) only [Int.reduceAdd, Int.add_assoc, Int.zero_add]
  rw [c_octQ q0 q8 qg, zK_i, zb_Lin_load_6]
  try simp (disch := omega) only [zw_id]
theorem c_row {q : Int × (Int → Int)} {d : Nat} {σ : zS} {b : Int} (k0 : 0 ≤ σ.1 (b + 6) 4) (k8 : σ.1 (b + 6) 4 ≤ 8) (q0 : 0 ≤ σ.1 (b + 1) 4) (q8 : σ.1 (b + 1) 4 ≤ 96) : zM (true, q) d 128 [(13, b, 0)] σ = some ((0, σ.1 (b + 6) 4 + σ.1 (b + 1) 4, 0), σ) := by
  rw [ze_Lin_row, zb_Lin_row_0]
  try simp (disch := omega) only [zw_id, Int.reduceAdd, Int.add_assoc, Int.zero_add]
theorem c_fits {q : Int × (Int → Int)} {d : Nat} {σ : zS} {b : Int} (k0 : 0 ≤ σ.1 (b + 6) 4) (k8 : σ.1 (b + 6) 4 ≤ 8) (kg : ∀ k, 0 ≤ k → k < σ.1 (b + 6) 4 → 0 ≤ σ.1 (b + 8) k ∧ σ.1 (b + 8) k ≤ 9) (qg : 0 < σ.1 (b + 1) 4 → 0 ≤ σ.1 (b + 3) 0 ∧ σ.1 (b + 3) 0 ≤ 9) : zM (true, q) (d + 2) 103 [(13, b, 0)] σ = some ((0, if 0 < σ.1 (b + 1) 4 ∧ σ.1 (b + 6) 4 < σ.1 b 7 ∧ σ.1 (b + 3) 0 + zsum (fun k => σ.1 (b + 8) k) (σ.1 (b + 6) 4).toNat 0 ≤ σ.1 b 8 then 1 else 0, 0), σ) := by
  have h1 := zsum_rng (g := fun k => σ.1 (b + 8) k) (lo := 0) (hi := 9) (σ.1 (b + 6) 4).toNat 0 (fun k h1 h2 => kg k h1 (by omega))
  by_cases c1 : σ.1 (b + 1) 4 ≤ 0
  · rw [if_neg (by omega)]
    rw [ze_Lin_fits, zb_Lin_fits_0]
    try simp (disch := omega) only [Int.reduceAdd, Int.add_assoc, Int.zero_add]
    rw [if_pos (c1)]
    try simp (disch := omega) only [Int.reduceAdd, Int.add_assoc, Int.zero_add]
    rw [zb_Lin_fits_24, zG2 (by omega) (by omega)]
  · have hq := qg (by omega)
    by_cases c2 : σ.1 b 7 ≤ σ.1 (b + 6) 4
    · rw [if_neg (by omega)]
      rw [ze_Lin_fits, zb_Lin_fits_0]
      try simp (disch := omega) only [Int.reduceAdd, Int.add_assoc, Int.zero_add]
      rw [if_neg (c1)]
      try simp (disch := omega) only [Int.reduceAdd, Int.add_assoc, Int.zero_add]
      rw [zb_Lin_fits_4]
      try simp (disch := omega) only [Int.reduceAdd, Int.add_assoc, Int.zero_add]
      rw [if_pos (c2)]
      try simp (disch := omega) only [Int.reduceAdd, Int.add_assoc, Int.zero_add]
      rw [zb_Lin_fits_24, zG2 (by omega) (by omega)]
    · by_cases c3 : σ.1 b 8 < σ.1 (b + 3) 0 + zsum (fun k => σ.1 (b + 8) k) (σ.1 (b + 6) 4).toNat 0
      · rw [if_neg (by omega)]
        rw [ze_Lin_fits, zb_Lin_fits_0]
        try simp (disch := omega) only [Int.reduceAdd, Int.add_assoc, Int.zero_add]
        rw [if_neg (c1)]
        try simp (disch := omega) only [Int.reduceAdd, Int.add_assoc, Int.zero_add]
        rw [zb_Lin_fits_4]
        try simp (disch := omega) only [Int.reduceAdd, Int.add_assoc, Int.zero_add]
        rw [if_neg (c2)]
        try simp (disch := omega) only [Int.reduceAdd, Int.add_assoc, Int.zero_add]
        rw [zb_Lin_fits_10]
        try simp (disch := omega) only [Int.reduceAdd, Int.add_assoc, Int.zero_add]
        rw [s_at (by omega) (by omega), zK_i, zb_Lin_fits_15]
        try simp (disch := omega) only [Int.reduceAdd, Int.add_assoc, Int.zero_add]
        rw [c_octB k0 k8 kg, zK_i, zb_Lin_fits_18]
        try simp (disch := omega) only [zw_id]
        rw [if_pos (c3)]
        try simp (disch := omega) only [zw_id]
        rw [zb_Lin_fits_24, zG2 (by omega) (by omega)]
      · rw [if_pos (by omega)]
        rw [ze_Lin_fits, zb_Lin_fits_0]
        try simp (disch := omega) only [Int.reduceAdd, Int.add_assoc, Int.zero_add]
        rw [if_neg (c1)]
        try simp (disch := omega) only [Int.reduceAdd, Int.add_assoc, Int.zero_add]
        rw [zb_Lin_fits_4]
        try simp (disch := omega) only [Int.reduceAdd, Int.add_assoc, Int.zero_add]
        rw [if_neg (c2)]
        try simp (disch := omega) only [Int.reduceAdd, Int.add_assoc, Int.zero_add]
        rw [zb_Lin_fits_10]
        try simp (disch := omega) only [Int.reduceAdd, Int.add_assoc, Int.zero_add]
        rw [s_at (by omega) (by omega), zK_i, zb_Lin_fits_15]
        try simp (disch := omega) only [Int.reduceAdd, Int.add_assoc, Int.zero_add]
        rw [c_octB k0 k8 kg, zK_i, zb_Lin_fits_18]
        try simp (disch := omega) only [zw_id]
        rw [if_neg (c3)]
        try simp (disch := omega) only [zw_id]
        rw [zb_Lin_fits_22, zG2 (by omega) (by omega)]
