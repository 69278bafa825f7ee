/-! ## the class: what arrives, what comes ahead -/
theorem c_takesArrived {q : Int × (Int → Int)} {d : Nat} {σ : zS} {n b : Int} {g : Int → Int} {B : Int} (hn : 1 ≤ n) (h : zLC n σ.1 b g B) (hA : zLA g B) : zM (true, q) (d + 2) 107 [(13, b, 0)] σ = some ((0, if g (B + (49 + 0)) = 2 ∧ g (B + (49 + 3)) ≠ 1 ∧ g (B + (49 + 2)) = g (B + 11) then 1 else 0, 0), σ) := by
  obtain ⟨a0, a3, a2⟩ := zc_air0 h hn
  obtain ⟨z0, z3, zz, z2⟩ := zA_0 hA
  have f4 := zc_f4 h
  have f13 := zc_f13 h
  by_cases k0 : g (B + (49 + 0)) = 2
  · have hs := (z2 k0).2.2
    have a3 := a3 (by omega)
    have a2 := (a2 k0).2.2
    by_cases k3 : g (B + (49 + 3)) = 1
    · rw [if_neg (fun z => z.2.1 k3)]
      rw [ze_Lin_takesArrived, zb_Lin_takesArrived_0, if_neg (by omega), zb_Lin_takesArrived_4]
      try simp (disch := omega) only [Int.reduceAdd, Int.add_assoc, Int.zero_add]
      rw [s_at (by omega) (by omega), zK_i, zb_Lin_takesArrived_9, if_neg (by omega), zb_Lin_takesArrived_11]
      try simp (disch := omega) only [Int.reduceAdd, Int.add_assoc, Int.zero_add]
      rw [c_isBad0, zK_i, zb_Lin_takesArrived_15, if_pos (by split <;> omega), zb_Lin_takesArrived_26, zG2 (by omega) (by omega)]
    · by_cases k2 : g (B + (49 + 2)) = g (B + 11)
      · rw [if_pos ⟨k0, k3, k2⟩]
        rw [ze_Lin_takesArrived, zb_Lin_takesArrived_0, if_neg (by omega), zb_Lin_takesArrived_4]
        try simp (disch := omega) only [Int.reduceAdd, Int.add_assoc, Int.zero_add]
        rw [s_at (by omega) (by omega), zK_i, zb_Lin_takesArrived_9, if_neg (by omega), zb_Lin_takesArrived_11]
        try simp (disch := omega) only [Int.reduceAdd, Int.add_assoc, Int.zero_add]
        rw [c_isBad0, zK_i, zb_Lin_takesArrived_15, if_neg (by split <;> omega), zb_Lin_takesArrived_16]
        try simp (disch := omega) only [Int.reduceAdd, Int.add_assoc, Int.zero_add]
        rw [s_at (by omega) (by omega), zK_i, zb_Lin_takesArrived_21, if_neg (by omega), zb_Lin_takesArrived_24, zG2 (by omega) (by omega)]
      · rw [if_neg (fun z => k2 z.2.2)]
        rw [ze_Lin_takesArrived, zb_Lin_takesArrived_0, if_neg (by omega), zb_Lin_takesArrived_4]
        try simp (disch := omega) only [Int.reduceAdd, Int.add_assoc, Int.zero_add]
        rw [s_at (by omega) (by omega), zK_i, zb_Lin_takesArrived_9, if_neg (by omega), zb_Lin_takesArrived_11]
        try simp (disch := omega) only [Int.reduceAdd, Int.add_assoc, Int.zero_add]
        rw [c_isBad0, zK_i, zb_Lin_takesArrived_15, if_neg (by split <;> omega), zb_Lin_takesArrived_16]
        try simp (disch := omega) only [Int.reduceAdd, Int.add_assoc, Int.zero_add]
        rw [s_at (by omega) (by omega), zK_i, zb_Lin_takesArrived_21, if_pos (by omega), zb_Lin_takesArrived_26, zG2 (by omega) (by omega)]
  · rw [if_neg (fun z => k0 z.1)]
    by_cases hs : σ.1 b 4 = 2
    ·
      rw [ze_Lin_takesArrived, zb_Lin_takesArrived_0, if_neg (by omega), zb_Lin_takesArrived_4]
      try simp (disch := omega) only [Int.reduceAdd, Int.add_assoc, Int.zero_add]
      rw [s_at (by omega) (by omega), zK_i, zb_Lin_takesArrived_9, if_pos (by omega), zb_Lin_takesArrived_26, zG2 (by omega) (by omega)]
    ·
      rw [ze_Lin_takesArrived, zb_Lin_takesArrived_0, if_pos (by omega), zb_Lin_takesArrived_26, zG2 (by omega) (by omega)]
theorem c_comeAhead {q : Int × (Int → Int)} {d : Nat} {σ : zS} {b : Int} {g : Int → Int} {B : Int} (p1 : 1 ≤ g (B + 2)) (p4 : g (B + 2) ≤ 4) (k8 : g (B + 7) ≤ 8) (h : zLC (g (B + 2)) σ.1 b g B) : ∃ f2, zM (true, q) (d + 1) 116 [(10, b + 11, 0)] σ = some ((9, 0, 0), (f2, σ.2)) ∧ zLC (g (B + 2) - 1) f2 b (rAir g B) B ∧ zFb b σ.1 f2 := by
  refine ⟨zcpy (zcpy (zcpy (zcpy (zcpy σ.1 (b + 12) 1 (b + 12) 0 3) (b + 13) 1 (b + 13) 0 3) (b + 14) 1 (b + 14) 0 3) (b + 15) 1 (b + 15) 0 3) (b + 16) 1 (b + 16) 0 3, ?_, ?_, ?_⟩
  ·
    rw [ze_Air_comeAhead, zb_Air_comeAhead_0]
    try simp (disch := omega) only [Int.reduceAdd, Int.add_assoc, Int.zero_add]
    rw [s_shiftRow (by omega) (by omega) (by omega), zK_v, zb_Air_comeAhead_4]
    try simp (disch := omega) only [Int.reduceAdd, Int.add_assoc, Int.zero_add]
    rw [s_shiftRow (by omega) (by omega) (by omega), zK_v, zb_Air_comeAhead_8]
    try simp (disch := omega) only [Int.reduceAdd, Int.add_assoc, Int.zero_add]
    rw [s_shiftRow (by omega) (by omega) (by omega), zK_v, zb_Air_comeAhead_12]
    try simp (disch := omega) only [Int.reduceAdd, Int.add_assoc, Int.zero_add]
    rw [s_shiftRow (by omega) (by omega) (by omega), zK_v, zb_Air_comeAhead_16]
    try simp (disch := omega) only [Int.reduceAdd, Int.add_assoc, Int.zero_add]
    rw [s_shiftRow (by omega) (by omega) (by omega), zK_v, zb_Air_comeAhead_20]
    rfl
  · obtain ⟨h1, h2, h3, h4, h5, h6, h7⟩ := h
    have e : ∀ j, (j < 49 ∨ 69 ≤ j) → rAir g B (B + j) = g (B + j) := fun j _ => rAir_out p1 p4 (by omega)
    refine ⟨fun c c0 c1 => ?_, ?_, ?_, fun k c k0 k1 c0 c1 => ?_, fun k c k0 k1 c0 c1 => ?_, fun k k0 k1 => ?_, fun k k0 k1 => ?_⟩
    · rw [e _ (by unfold zfm; split <;> omega), ← h1 c c0 c1]
      simp (disch := omega) only [zcpy_na]
    · rw [e _ (by omega), ← h2]
      simp (disch := omega) only [zcpy_na]
    · rw [e _ (by omega), ← h3]
      simp (disch := omega) only [zcpy_na]
    · rw [e _ (by omega)] at k1
      rw [e _ (by omega), ← h4 k c k0 k1 c0 c1]
      simp (disch := omega) only [zcpy_na]
    · rw [e _ (by omega)] at k1
      rw [e _ (by omega), ← h5 k c k0 k1 c0 c1]
      simp (disch := omega) only [zcpy_na]
    · have hh := h6 (k + 1) (by omega) (by omega)
      rw [rAir_at p1 p4 k0 (by omega) (by decide) (by decide), rAir_at p1 p4 k0 (by omega) (by decide) (by decide), rAir_at p1 p4 k0 (by omega) (by decide) (by decide), rAir_at p1 p4 k0 (by omega) (by decide) (by decide), rAir_at p1 p4 k0 (by omega) (by decide) (by decide), if_pos k1, if_pos k1, if_pos k1, if_pos k1, if_pos k1]
      simp (disch := omega) only [zcpy_na, zcpy_in]
      rw [show 1 + (k - 0) = k + 1 by omega]
      exact hh
    · rw [e 2 (by omega)] at k1
      rw [e _ (by omega), ← h7 k k0 k1]
      simp (disch := omega) only [zcpy_na]
  · exact zFb_trans (zFb_cp (by omega)) (zFb_trans (zFb_cp (by omega)) (zFb_trans (zFb_cp (by omega)) (zFb_trans (zFb_cp (by omega)) (zFb_cp (by omega)))))
theorem zLC_drop {n : Int} {f : Int → Int → Int} {b : Int} {g : Int → Int} {B m : Int} (h : zLC n f b g B) (m0 : 0 ≤ m) (m7 : m ≤ g (B + 7)) (k8 : g (B + 7) ≤ 8) (n4 : n ≤ 4) : zLC n (zup (zcpy (zcpy (zcpy (zcpy f (b + 7) m (b + 7) 0 (8 - m)) (b + 8) m (b + 8) 0 (8 - m)) (b + 9) m (b + 9) 0 (8 - m)) (b + 10) m (b + 10) 0 (8 - m)) (b + 6) 4 (g (B + 7) - m)) b (rLeaves g B m) B := by
  obtain ⟨h1, h2, h3, h4, h5, h6, h7⟩ := h
  have e7 := rLeaves_7 (g := g) (B := B) (n := m)
  have e : ∀ j, (j < 17 ∨ 49 ≤ j) → j ≠ 7 → rLeaves g B m (B + j) = g (B + j) := fun j _ _ => rLeaves_out (by omega) (by omega)
  refine ⟨fun c c0 c1 => ?_, ?_, ?_, fun k c k0 k1 c0 c1 => ?_, fun k c k0 k1 c0 c1 => ?_, fun k k0 k1 => ?_, fun k k0 k1 => ?_⟩
  · rw [e _ (by unfold zfm; split <;> omega) (by unfold zfm; split <;> omega), ← h1 c c0 c1]
    simp (disch := omega) only [zcpy_na, zup_na]
  · rw [e _ (by omega) (by omega), ← h2]
    simp (disch := omega) only [zcpy_na, zup_na]
  · rw [e7, zupE rfl rfl]
  · rw [e7] at k1
    rw [rLeaves_in m0 k0 k1 c0 c1, zup_na (by omega)]
    have hh := h4 (k + m) c (by omega) (by omega) c0 c1
    rw [← hh]
    rcases (by omega : c = 0 ∨ c = 1 ∨ c = 2 ∨ c = 3) with rfl | rfl | rfl | rfl
    · simp (disch := omega) only [Int.reduceAdd, zcpy_na, zcpy_in]
      exact congrArg (f (b + 7)) (by omega)
    · simp (disch := omega) only [Int.reduceAdd, zcpy_na, zcpy_in]
      exact congrArg (f (b + 8)) (by omega)
    · simp (disch := omega) only [Int.reduceAdd, zcpy_na, zcpy_in]
      exact congrArg (f (b + 9)) (by omega)
    · simp (disch := omega) only [Int.reduceAdd, zcpy_na, zcpy_in]
      exact congrArg (f (b + 10)) (by omega)
  · rw [e 6 (by omega) (by omega)] at k1
    rw [e _ (by omega) (by omega), ← h5 k c k0 k1 c0 c1]
    simp (disch := omega) only [zcpy_na, zup_na]
  · rw [e _ (by omega) (by omega), e _ (by omega) (by omega), e _ (by omega) (by omega), e _ (by omega) (by omega), e _ (by omega) (by omega)]
    simp (disch := omega) only [zcpy_na, zup_na]
    exact h6 k k0 k1
  · rw [e 2 (by omega) (by omega)] at k1
    rw [e _ (by omega) (by omega), ← h7 k k0 k1]
    simp (disch := omega) only [zcpy_na, zup_na]
theorem c_drop {q : Int × (Int → Int)} {d : Nat} {σ : zS} {n b : Int} {g : Int → Int} {B m : Int} (h : zLC n σ.1 b g B) (m0 : 0 ≤ m) (m7 : m ≤ g (B + 7)) (k8 : g (B + 7) ≤ 8) (n4 : n ≤ 4) : ∃ f2, zM (true, q) (d + 1) 118 [(16, b + 6, 8), (0, m, 0)] σ = some ((9, 0, 0), (f2, σ.2)) ∧ zLC n f2 b (rLeaves g B m) B ∧ zFb b σ.1 f2 := by
  have h3 := h.2.2.1
  have hc := c_dropB (q := q) (d := d) (σ := σ) (u := b + 6) (n := m) m0 (by omega) (by omega)
  simp only [Int.add_assoc, Int.reduceAdd, h3] at hc
  exact ⟨_, hc, zLC_drop h m0 m7 k8 n4, zFb_trans (zFb_cp (by omega)) (zFb_trans (zFb_cp (by omega)) (zFb_trans (zFb_cp (by omega)) (zFb_trans (zFb_cp (by omega)) (zFb_up (by omega)))))⟩
theorem c_told {q : Int × (Int → Int)} {d : Nat} {σ : zS} {n b : Int} {g : Int → Int} {B m : Int} (h : zLC n σ.1 b g B) (h7 : 0 ≤ g (B + 7) ∧ g (B + 7) ≤ 8) : zM (true, q) (d + 1) 117 [(13, b, 0), (0, m, 0)] σ = some ((0, rAhead g B m, 0), σ) := by
  have h3 := h.2.2.1
  have f12 := zc_f12 h
  rw [c_toldBy (by omega) (by omega), h3, f12]
  unfold rAhead
  rw [zfst_congr (r := fun k => decide (g (B + (17 + 4 * k + 2)) = m)) _ _ (fun k k0 k1 => ?_)]
  have hh := h.2.2.2.1 k 2 k0 (by omega) (by decide) (by decide)
  show decide (σ.1 (b + 9) k = m) = decide (g (B + (17 + 4 * k + 2)) = m)
  rw [← hh]
  rfl
theorem c_place {q : Int × (Int → Int)} {d : Nat} {σ : zS} {n b : Int} {g : Int → Int} {B m : Int} (h : zLC n σ.1 b g B) (h7 : 0 ≤ g (B + 7) ∧ g (B + 7) ≤ 8) : zM (true, q) d 108 [(16, b + 6, 8), (0, m, 0)] σ = some ((0, zfst (fun k => decide (g (B + (17 + 4 * k + 2)) = m)) (-1) (g (B + 7)).toNat 0, 0), σ) := by
  have h3 := h.2.2.1
  have hc := c_placeOf (q := q) (d := d) (σ := σ) (u := b + 6) (m := m) (by omega) (by omega)
  rw [hc, h3]
  rw [zfst_congr (r := fun k => decide (g (B + (17 + 4 * k + 2)) = m)) _ _ (fun k k0 k1 => ?_)]
  have hh := h.2.2.2.1 k 2 k0 (by omega) (by decide) (by decide)
  show decide (σ.1 (b + 6 + 3) k = m) = decide (g (B + (17 + 4 * k + 2)) = m)
  rw [Int.add_assoc, ← hh]
  rfl
