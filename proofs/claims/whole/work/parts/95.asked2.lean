/-! ## states, sums, the journal -/
def gIn (g : Int → Int) (s : Int) : Nat → Int → Int → Int
  | 0, _, acc => acc
  | k + 1, i, acc => gIn g s k (i + 1) (zor acc (if g (10 + 265 * i + 0) = s then zshl 1 i else 0))
theorem r_inState {q : Int × (Int → Int)} {d : Nat} {f : Int → Int → Int} {t : (Int → Int) × Nat × Nat × Nat × (Int → Int → Bool)} {g : Int → Int} {s : Int} (m0 : 0 ≤ g 3) (m4 : g 3 ≤ 4) : zM (true, q) (d + 1) 196 [(20, 1464, 0), (0, s, 0)] (zrow f 1465 g, t) = some ((0, gIn g s (g 3).toNat 0 0, 0), (zrow f 1465 g, t)) := by
  have loop : ∀ (k : Nat) (i acc : Int), 0 ≤ i → i + k = g 3 → zD (true, q) (d + 1) zc_M_inState (zat zc_M_inState 4) [(20, 1464, 0), (0, s, 0), (0, acc, 0), (0, i, 0)] [] (zrow f 1465 g, t) = some ((0, gIn g s k i acc, 0), (zrow f 1465 g, t)) := by
    intro k
    induction k with
    | zero =>
      intro i acc i0 hi
      rw [zb_M_inState_4]
      simp (disch := omega) only [Int.reduceAdd, zrow_r]
      rw [zG2 (by decide) (by decide), zb_M_inState_9, if_pos (by omega), zb_M_inState_26]
      rfl
    | succ k ih =>
      intro i acc i0 hi
      rw [zb_M_inState_4]
      simp (disch := omega) only [Int.reduceAdd, zrow_r]
      rw [zG2 (by decide) (by decide), zb_M_inState_9, if_neg (by omega), zb_M_inState_10, r_of i0 (by omega) (by decide) (by decide), zK_i, zb_M_inState_15]
      have h := ih (i + 1) (zor acc (if g (10 + 265 * i + 0) = s then zshl 1 i else 0)) (by omega) (by omega)
      by_cases c : g (10 + 265 * i + 0) = s
      · rw [if_neg (fun z => z c), zb_M_inState_17, zw_id (by omega) (by omega)]
        rw [if_pos c] at h
        rw [h]
        show _ = some ((0, gIn g s k (i + 1) (zor acc (if g (10 + 265 * i + 0) = s then zshl 1 i else 0)), 0), _)
        rw [if_pos c]
      · rw [if_pos c, zb_M_inState_21, zw_id (by omega) (by omega)]
        rw [if_neg c] at h
        rw [h]
        show _ = some ((0, gIn g s k (i + 1) (zor acc (if g (10 + 265 * i + 0) = s then zshl 1 i else 0)), 0), _)
        rw [if_neg c]
  rw [ze_M_inState, zb_M_inState_0]
  exact loop (g 3).toNat 0 0 (Int.le_refl 0) (by omega)
theorem c_inState {q : Int × (Int → Int)} {d : Nat} {σ : zS} {W s : Int} {g : Int → Int} (h4 : σ.1 W 4 = g 3) (m0 : 0 ≤ g 3) (m4 : g 3 ≤ 4) (hL : zWL σ.1 W g) : zM (true, q) (d + 1) 192 [(18, W, 0), (0, s, 0)] σ = some ((0, gIn g s (g 3).toNat 0 0, 0), σ) := by
  have loop : ∀ (k : Nat) (i acc : Int), 0 ≤ i → i + k = g 3 → zD (true, q) (d + 1) zc_Wor_inState (zat zc_Wor_inState 4) [(18, W, 0), (0, s, 0), (0, acc, 0), (0, i, 0)] [] σ = some ((0, gIn g s k i acc, 0), σ) := by
    intro k
    induction k with
    | zero =>
      intro i acc i0 hi
      rw [zb_Wor_inState_4, h4, if_pos (by omega), zb_Wor_inState_24]
      rfl
    | succ k ih =>
      intro i acc i0 hi
      have h := ih (i + 1) (zor acc (if g (10 + 265 * i + 0) = s then zshl 1 i else 0)) (by omega) (by omega)
      rw [zb_Wor_inState_4, h4, if_neg (by omega), zb_Wor_inState_8, c_lineAt i0 (by omega), zK_13, zb_Wor_inState_12, zc_f4 (hL i i0 (by omega))]
      show _ = some ((0, gIn g s k (i + 1) (zor acc (if g (10 + 265 * i + 0) = s then zshl 1 i else 0)), 0), _)
      by_cases c : g (10 + 265 * i + 0) = s
      · rw [if_neg (fun z => z c), zb_Wor_inState_15, zw_id (by omega) (by omega)]
        rw [if_pos c] at h ⊢
        exact h
      · rw [if_pos c, zb_Wor_inState_19, zw_id (by omega) (by omega)]
        rw [if_neg c] at h ⊢
        exact h
  rw [ze_Wor_inState, zb_Wor_inState_0]
  exact loop (g 3).toNat 0 0 (Int.le_refl 0) (by omega)
theorem r_sumOf {q : Int × (Int → Int)} {d : Nat} {f : Int → Int → Int} {t : (Int → Int) × Nat × Nat × Nat × (Int → Int → Bool)} {g : Int → Int} {w : Int} (m0 : 0 ≤ g 3) (m4 : g 3 ≤ 4) (w0 : 0 ≤ w) (w1 : w < 265) (hv : ∀ i, 0 ≤ i → i < g 3 → 0 ≤ g (10 + 265 * i + w) ∧ g (10 + 265 * i + w) ≤ 96) : zM (true, q) (d + 1) 314 [(20, 1464, 0), (0, w, 0)] (zrow f 1465 g, t) = some ((0, zsum (fun i => g (10 + 265 * i + w)) (g 3).toNat 0, 0), (zrow f 1465 g, t)) := by
  have loop : ∀ (k : Nat) (i acc : Int), 0 ≤ i → i + k = g 3 → 0 ≤ acc → acc ≤ 96 * i → zD (true, q) (d + 1) zc_M_sumOf (zat zc_M_sumOf 4) [(20, 1464, 0), (0, w, 0), (0, acc, 0), (0, i, 0)] [] (zrow f 1465 g, t) = some ((0, acc + zsum (fun i => g (10 + 265 * i + w)) k i, 0), (zrow f 1465 g, t)) := by
    intro k
    induction k with
    | zero =>
      intro i acc i0 hi a0 a1
      rw [zb_M_sumOf_4]
      simp (disch := omega) only [Int.reduceAdd, zrow_r]
      rw [zG2 (by decide) (by decide), zb_M_sumOf_9, if_pos (by omega), zb_M_sumOf_19]
      show _ = some ((0, acc + 0, 0), _)
      rw [Int.add_zero]
    | succ k ih =>
      intro i acc i0 hi a0 a1
      have hvi := hv i i0 (by omega)
      rw [zb_M_sumOf_4]
      simp (disch := omega) only [Int.reduceAdd, zrow_r]
      rw [zG2 (by decide) (by decide), zb_M_sumOf_9, if_neg (by omega), zb_M_sumOf_10, r_of i0 (by omega) w0 w1, zK_i, zb_M_sumOf_15, zw_id (by omega) (by omega), zw_id (by omega) (by omega), ih (i + 1) _ (by omega) (by omega) (by omega) (by omega)]
      show _ = some ((0, acc + (g (10 + 265 * i + w) + zsum (fun i => g (10 + 265 * i + w)) k (i + 1)), 0), _)
      rw [Int.add_assoc]
  rw [ze_M_sumOf, zb_M_sumOf_0, loop (g 3).toNat 0 0 (Int.le_refl 0) (by omega) (Int.le_refl 0) (by omega), Int.zero_add]
theorem c_queued {q : Int × (Int → Int)} {d : Nat} {σ : zS} {W : Int} {g : Int → Int} (h4 : σ.1 W 4 = g 3) (m0 : 0 ≤ g 3) (m4 : g 3 ≤ 4) (hL : zWL σ.1 W g) (hv : ∀ i, 0 ≤ i → i < g 3 → 0 ≤ g (10 + 265 * i + 6) ∧ g (10 + 265 * i + 6) ≤ 96) : zM (true, q) (d + 1) 213 [(18, W, 0)] σ = some ((0, zsum (fun i => g (10 + 265 * i + 6)) (g 3).toNat 0, 0), σ) := by
  have loop : ∀ (k : Nat) (i acc : Int), 0 ≤ i → i + k = g 3 → 0 ≤ acc → acc ≤ 96 * i → zD (true, q) (d + 1) zc_Wor_queued (zat zc_Wor_queued 4) [(18, W, 0), (0, acc, 0), (0, i, 0)] [] σ = some ((0, acc + zsum (fun i => g (10 + 265 * i + 6)) k i, 0), σ) := by
    intro k
    induction k with
    | zero =>
      intro i acc i0 hi a0 a1
      rw [zb_Wor_queued_4, h4, if_pos (by omega), zb_Wor_queued_18]
      show _ = some ((0, acc + 0, 0), _)
      rw [Int.add_zero]
    | succ k ih =>
      intro i acc i0 hi a0 a1
      have hvi := hv i i0 (by omega)
      have e : σ.1 (W + 23 + 18 * i + 1) 4 = g (10 + 265 * i + 6) := (hL i i0 (by omega)).2.1
      rw [zb_Wor_queued_4, h4, if_neg (by omega), zb_Wor_queued_8, c_lineAt i0 (by omega), zK_13, zb_Wor_queued_12, e, zw_id (by omega) (by omega), zw_id (by omega) (by omega), ih (i + 1) _ (by omega) (by omega) (by omega) (by omega)]
      show _ = some ((0, acc + (g (10 + 265 * i + 6) + zsum (fun i => g (10 + 265 * i + 6)) k (i + 1)), 0), _)
      rw [Int.add_assoc]
  rw [ze_Wor_queued, zb_Wor_queued_0, loop (g 3).toNat 0 0 (Int.le_refl 0) (by omega) (Int.le_refl 0) (by omega), Int.zero_add]
theorem c_unitsKept {q : Int × (Int → Int)} {d : Nat} {σ : zS} {W : Int} {g : Int → Int} (h4 : σ.1 W 4 = g 3) (m0 : 0 ≤ g 3) (m4 : g 3 ≤ 4) (hL : zWL σ.1 W g) (hv : ∀ i, 0 ≤ i → i < g 3 → 0 ≤ g (10 + 265 * i + 7) ∧ g (10 + 265 * i + 7) ≤ 96) : zM (true, q) (d + 1) 214 [(18, W, 0)] σ = some ((0, zsum (fun i => g (10 + 265 * i + 7)) (g 3).toNat 0, 0), σ) := by
  have loop : ∀ (k : Nat) (i acc : Int), 0 ≤ i → i + k = g 3 → 0 ≤ acc → acc ≤ 96 * i → zD (true, q) (d + 1) zc_Wor_unitsKept (zat zc_Wor_unitsKept 4) [(18, W, 0), (0, acc, 0), (0, i, 0)] [] σ = some ((0, acc + zsum (fun i => g (10 + 265 * i + 7)) k i, 0), σ) := by
    intro k
    induction k with
    | zero =>
      intro i acc i0 hi a0 a1
      rw [zb_Wor_unitsKept_4, h4, if_pos (by omega), zb_Wor_unitsKept_18]
      show _ = some ((0, acc + 0, 0), _)
      rw [Int.add_zero]
    | succ k ih =>
      intro i acc i0 hi a0 a1
      have hvi := hv i i0 (by omega)
      have e : σ.1 (W + 23 + 18 * i + 6) 4 = g (10 + 265 * i + 7) := (hL i i0 (by omega)).2.2.1
      rw [zb_Wor_unitsKept_4, h4, if_neg (by omega), zb_Wor_unitsKept_8, c_lineAt i0 (by omega), zK_13, zb_Wor_unitsKept_12, e, zw_id (by omega) (by omega), zw_id (by omega) (by omega), ih (i + 1) _ (by omega) (by omega) (by omega) (by omega)]
      show _ = some ((0, acc + (g (10 + 265 * i + 7) + zsum (fun i => g (10 + 265 * i + 7)) k (i + 1)), 0), _)
      rw [Int.add_assoc]
  rw [ze_Wor_unitsKept, zb_Wor_unitsKept_0, loop (g 3).toNat 0 0 (Int.le_refl 0) (by omega) (Int.le_refl 0) (by omega), Int.zero_add]
theorem c_jtold {q : Int × (Int → Int)} {d : Nat} {σ : zS} {W ago c : Int} {g : Int → Int} (hJ : zJC σ.1 W g) (c0 : 0 ≤ c) (c4 : c < 4) (g60 : g 8 ≤ 60) : zM (true, q) (d + 1) 297 [(11, W + 20, 0), (0, ago, 0), (0, c, 0)] σ = some ((0, if 0 ≤ ago ∧ ago < g 8 then g (1070 + 4 * ago + c) else -1, 0), σ) := by
  obtain ⟨j1, j2, j3, j4⟩ := hJ
  rw [ze_Jou_told, zb_Jou_told_0]
  by_cases h : 0 ≤ ago ∧ ago < g 8
  · rw [if_pos h, if_neg (by omega), zb_Jou_told_2, j1, if_pos h.2, zb_Jou_told_8, zG1 (by decide)]
    rw [zw_id (z := σ.1 (W + 20) 1 + 60) (by omega) (by omega), zw_id (z := σ.1 (W + 20) 1 + 60 - 1) (by omega) (by omega), zw_id (z := σ.1 (W + 20) 1 + 60 - 1 - ago) (by omega) (by omega), show zrem (σ.1 (W + 20) 1 + 60 - 1 - ago) 60 = (σ.1 (W + 20) 1 + 59 - ago) % 60 by rw [show σ.1 (W + 20) 1 + 60 - 1 - ago = σ.1 (W + 20) 1 + 59 - ago by omega]; exact Int.tmod_eq_emod_of_nonneg (by omega), zb_Jou_told_20, zw_id (z := (σ.1 (W + 20) 1 + 59 - ago) % 60 * 4) (by omega) (by omega), zw_id (z := (σ.1 (W + 20) 1 + 59 - ago) % 60 * 4 + c) (by omega) (by omega), s_at (by omega) (by omega), zK_i, zb_Jou_told_25, show W + 20 + 1 = W + 21 by omega, j4 ago c h.1 h.2 c0 c4]
  · rw [if_neg h]
    by_cases c1 : ago < 0
    · rw [if_pos c1, zb_Jou_told_6]
    · rw [if_neg c1, zb_Jou_told_2, j1, if_neg (by omega), zb_Jou_told_6]
theorem r_logged {q : Int × (Int → Int)} {d : Nat} {f : Int → Int → Int} {t : (Int → Int) × Nat × Nat × Nat × (Int → Int → Bool)} {g : Int → Int} {ago c : Int} (a0 : 0 ≤ ago) (a1 : ago < 60) (c0 : 0 ≤ c) (c4 : c < 4) : zM (true, q) d 300 [(20, 1464, 0), (0, ago, 0), (0, c, 0)] (zrow f 1465 g, t) = some ((0, g (1070 + 4 * ago + c), 0), (zrow f 1465 g, t)) := by
  rw [ze_M_logged, zb_M_logged_0]
  simp (disch := omega) only [Int.reduceAdd, zrow_r, zw_id]
  rw [zG2 (by omega) (by omega), zb_M_logged_10]
/-! ### which state -/
theorem o_byState {q : Int × (Int → Int)} {N : Int} {f : Int → Int → Int} {t : (Int → Int) × Nat × Nat × Nat × (Int → Int → Bool)} {s : Int} (hR : ZR N f f) : zOw q N f t 283 [(19, 0, 0), (0, s, 0), (31, 1478, 1)] 284 [(20, 1464, 0), (0, s, 0)] := by
  have h4 := ZR_4 hR
  by_cases hs : 0 ≤ s ∧ s ≤ 2
  · have hx : zM (true, q) 1898 282 [(19, 0, 0), (0, s, 0)] (f, t) = some ((0, gIn (f 1465) s (f 1465 3).toNat 0 0, 0), (f, t)) := by
      rw [ze_X_byState, zb_X_byState_0, if_neg (by omega), zb_X_byState_2, if_pos hs.2, zb_X_byState_10]
      show zK _ _ _ _ _ _ (zM (true, q) 1897 192 [(18, 23, 0), (0, s, 0)] (f, t)) = _
      rw [c_inState (σ := (f, t)) h4.1 h4.2.1 h4.2.2 hR.2.1.2.1, zK_i, zb_X_byState_14]
    refine zOw_v rfl hR (k_byState_v hx) (fun h => ?_)
    rw [ze_M_byState, zb_M_byState_0, r_isInT hs.1 hs.2, zK_i, zb_M_byState_5, if_pos (by decide), zb_M_byState_8]
    simp (disch := omega) only [Int.reduceAdd, zrow_r, zrow_in, zrow_up, zrow_ne, zupE]
    rw [if_pos (by decide), zb_M_byState_15, r_inState h4.2.1 h4.2.2, zK_i, zb_M_byState_18]
  · have hx : zM (true, q) 1898 282 [(19, 0, 0), (0, s, 0)] (f, t) = some ((103, 0, 0), (f, zThr t)) := by
      rw [ze_X_byState, zb_X_byState_0]
      by_cases c : s < 0
      · rw [if_pos c, zb_X_byState_5]
        rfl
      · rw [if_neg c, zb_X_byState_2, if_neg (by omega), zb_X_byState_5]
        rfl
    refine zOw_t (v := 0) rfl hR (by decide) (k_byState_103 hx) (fun h => ?_)
    rw [ze_M_byState, zb_M_byState_0, r_isInF (by omega), zK_i, zb_M_byState_5, if_neg (by decide), zb_M_byState_6]
    simp (disch := omega) only [Int.reduceAdd, zrow_r, zrow_in, zrow_up, zrow_ne, zupE]
    rw [if_neg (by decide), zb_M_byState_13]
theorem o_log {q : Int × (Int → Int)} {N : Int} {f : Int → Int → Int} {t : (Int → Int) × Nat × Nat × Nat × (Int → Int → Bool)} {a w : Int} (hR : ZR N f f) : zOw q N f t 303 [(19, 0, 0), (0, a, 0), (0, w, 0), (31, 1478, 1)] 304 [(20, 1464, 0), (0, a, 0), (0, w, 0)] := by
  have h8 := hR.2.1.2.2.1.2.2.1.2.2.2
  by_cases hs : 0 ≤ w ∧ w ≤ 3
  · have hx : zM (true, q) 1898 302 [(19, 0, 0), (0, a, 0), (0, w, 0)] (f, t) = some ((0, if 0 ≤ a ∧ a < f 1465 8 then f 1465 (1070 + 4 * a + w) else -1, 0), (f, t)) := by
      rw [ze_X_log, zb_X_log_0, if_neg (by omega), zb_X_log_2, if_pos (by omega), zb_X_log_10]
      show zK _ _ _ _ _ _ (zM (true, q) 1897 297 [(11, 23 + 20, 0), (0, a, 0), (0, w, 0)] (f, t)) = _
      rw [c_jtold (σ := (f, t)) (W := 23) hR.2.1.1.2.2.2.2.2.2.2 hs.1 (by omega) h8.2, zK_i, zb_X_log_16]
    refine zOw_v rfl hR (k_log_v hx) (fun h => ?_)
    rw [ze_M_log, zb_M_log_0, r_isInT hs.1 hs.2, zK_i, zb_M_log_5, if_pos (by decide), zb_M_log_8]
    simp (disch := omega) only [Int.reduceAdd, zrow_r, zrow_in, zrow_up, zrow_ne, zupE]
    rw [if_pos (by decide), zb_M_log_15]
    simp (disch := omega) only [Int.reduceAdd, zrow_r, zrow_in, zrow_up, zrow_ne, zupE]
    rw [zG2 (by decide) (by decide), zb_M_log_21, zw_id (by omega) (by omega)]
    by_cases c : 0 ≤ a ∧ a < f 1465 8
    · rw [if_pos c, r_isInT c.1 (by omega), zK_i, zb_M_log_24, if_neg (by decide), zb_M_log_25, r_logged c.1 (by omega) hs.1 (by omega), zK_i, zb_M_log_29]
    · rw [if_neg c, r_isInF (by omega), zK_i, zb_M_log_24, if_pos rfl, zb_M_log_30]
  · have hx : zM (true, q) 1898 302 [(19, 0, 0), (0, a, 0), (0, w, 0)] (f, t) = some ((103, 0, 0), (f, zThr t)) := by
      rw [ze_X_log, zb_X_log_0]
      by_cases c : w < 0
      · rw [if_pos c, zb_X_log_5]
        rfl
      · rw [if_neg c, zb_X_log_2, if_neg (by omega), zb_X_log_5]
        rfl
    refine zOw_t (v := 0) rfl hR (by decide) (k_log_103 hx) (fun h => ?_)
    rw [ze_M_log, zb_M_log_0, r_isInF (by omega), zK_i, zb_M_log_5, if_neg (by decide), zb_M_log_6]
    simp (disch := omega) only [Int.reduceAdd, zrow_r, zrow_in, zrow_up, zrow_ne, zupE]
    rw [if_neg (by decide), zb_M_log_13]
/-! ### led -/
def gLA (g : Int → Int) (l : Int) : Nat → Int → Int × Int
  | 0, _ => (0, -1)
  | k + 1, i => if g (1070 + 4 * i + 1) = l then ((gLA g l k (i + 1)).1 + 1, g (1070 + 4 * i + 0)) else gLA g l k (i + 1)
theorem gLA_rng {g : Int → Int} {l : Int} : ∀ (k : Nat) (i : Int), 0 ≤ (gLA g l k i).1 ∧ (gLA g l k i).1 ≤ k := by
  intro k
  induction k with
  | zero => intro i; exact ⟨Int.le_refl 0, Int.le_refl 0⟩
  | succ k ih =>
    intro i
    have := ih (i + 1)
    unfold gLA
    split
    · show 0 ≤ (gLA g l k (i + 1)).1 + 1 ∧ (gLA g l k (i + 1)).1 + 1 ≤ _
      omega
    · omega
theorem r_led {q : Int × (Int → Int)} {d : Nat} {f : Int → Int → Int} {t : (Int → Int) × Nat × Nat × Nat × (Int → Int → Bool)} {g : Int → Int} {l b : Int} (hl : 0 ≤ l) (hlm : l < g 3) (hm : g 3 ≤ 4) (g0 : 0 ≤ g 8) (g60 : g 8 ≤ 60) : zM (true, q) (d + 2) 301 [(20, 1464, 0), (0, l, 0), (0, b, 0)] (zrow f 1465 g, t) = some ((0, if b = 0 then (gLA g l (g 8).toNat 0).1 else (gLA g l (g 8).toNat 0).2, 0), (zrow (zup f 1464 0 0) 1465 g, t)) := by
  have loop : ∀ (j : Nat) (k : Nat) (f : Int → Int → Int), (j : Int) + k = g 8 → zD (true, q) (d + 2) zc_M_led (zat zc_M_led 25) [(20, 1464, 0), (0, l, 0), (0, b, 0), (0, (gLA g l k j).1, 0), (0, (gLA g l k j).2, 0), (0, (j : Int) - 1, 0)] [] (zrow f 1465 g, t) = some ((0, if b = 0 then (gLA g l (g 8).toNat 0).1 else (gLA g l (g 8).toNat 0).2, 0), (zrow f 1465 g, t)) := by
    intro j
    induction j with
    | zero =>
      intro k f hk
      rw [show (g 8).toNat = k by omega, zb_M_led_25, if_pos (by omega), zb_M_led_42]
      by_cases c : b = 0
      · rw [if_pos c, if_pos c, zb_M_led_46]
        rfl
      · rw [if_neg c, if_neg c, zb_M_led_44]
        rfl
    | succ j ih =>
      intro k f hk
      have hr := gLA_rng (g := g) (l := l) k ((j : Int) + 1)
      have e1 : ((j + 1 : Nat) : Int) - 1 = j := by omega
      have e2 : ((j + 1 : Nat) : Int) = (j : Int) + 1 := by omega
      have h := ih (k + 1) f (by omega)
      have e : gLA g l (k + 1) j = if g (1070 + 4 * (j : Int) + 1) = l then ((gLA g l k ((j : Int) + 1)).1 + 1, g (1070 + 4 * (j : Int) + 0)) else gLA g l k ((j : Int) + 1) := rfl
      rw [e] at h
      rw [e1, e2]
      rw [zb_M_led_25, if_neg (by omega), zb_M_led_27, r_logged (by omega) (by omega) (by decide) (by decide), zK_i, zb_M_led_31]
      by_cases c : g (1070 + 4 * (j : Int) + 1) = l
      · rw [if_pos c] at h ⊢
        rw [zb_M_led_34, zw_id (by omega) (by omega), r_logged (by omega) (by omega) (by decide) (by decide), zK_i, zb_M_led_39, zw_id (by omega) (by omega)]
        exact h
      · rw [if_neg c] at h ⊢
        rw [zb_M_led_33, zw_id (by omega) (by omega)]
        exact h
  rw [ze_M_led, zb_M_led_0, r_isLineT hl hlm hm, zK_i, zb_M_led_4, if_pos (by decide), zb_M_led_7]
  simp (disch := omega) only [Int.reduceAdd, zrow_r, zrow_in, zrow_up, zrow_ne, zupE]
  rw [if_pos (by decide), zb_M_led_14]
  simp (disch := omega) only [Int.reduceAdd, zrow_r, zrow_in, zrow_up, zrow_ne, zupE]
  rw [zG2 (by decide) (by decide), zb_M_led_22, zw_id (by omega) (by omega)]
  have := loop (g 8).toNat 0 (zup f 1464 0 0) (by omega)
  rw [show (((g 8).toNat : Nat) : Int) = g 8 by omega] at this
  exact this
theorem o_led {q : Int × (Int → Int)} {N : Int} {f : Int → Int → Int} {t : (Int → Int) × Nat × Nat × Nat × (Int → Int → Bool)} {l b : Int} (hR : ZR N f f) : zOw q N f t 299 [(19, 0, 0), (0, l, 0), (0, b, 0), (31, 1478, 1)] 301 [(20, 1464, 0), (0, l, 0), (0, b, 0)] := by
  have h4 := ZR_4 hR
  have h8 := hR.2.1.2.2.1.2.2.1.2.2.2
  have hJ : zJC f 23 (f 1465) := hR.2.1.1.2.2.2.2.2.2.2
  by_cases hl : 0 ≤ l ∧ l < f 1465 3
  · have loop : ∀ (k : Nat) (i c lat : Int), 0 ≤ i → i + k = f 1465 8 → 0 ≤ c → c ≤ i → (c = 0 → lat = -1) → zD (true, q) 1898 zc_X_led (zat zc_X_led 10) [(19, 0, 0), (0, l, 0), (0, b, 0), (0, c, 0), (0, lat, 0), (0, i, 0)] [] (f, t) = some ((0, if b = 0 then c + (gLA (f 1465) l k i).1 else if c = 0 then (gLA (f 1465) l k i).2 else lat, 0), (f, t)) := by
      intro k
      induction k with
      | zero =>
        intro i c lat i0 hi c0 ci hlat
        rw [zb_X_led_10]
        show (if f 43 2 ≤ i then _ else _) = _
        rw [show f 43 2 = f 1465 8 from hJ.1, if_pos (by omega), zb_X_led_38]
        by_cases cb : b = 0
        · rw [if_pos cb, if_pos cb, zb_X_led_42]
          show _ = some ((0, c + 0, 0), _)
          rw [Int.add_zero]
        · rw [if_neg cb, if_neg cb, zb_X_led_40]
          by_cases cc : c = 0
          · rw [if_pos cc, hlat cc]
            rfl
          · rw [if_neg cc]
      | succ k ih =>
        intro i c lat i0 hi c0 ci hlat
        have e : gLA (f 1465) l (k + 1) i = if f 1465 (1070 + 4 * i + 1) = l then ((gLA (f 1465) l k (i + 1)).1 + 1, f 1465 (1070 + 4 * i + 0)) else gLA (f 1465) l k (i + 1) := rfl
        have ht := fun c (c0 : 0 ≤ c) (c4 : c < 4) => c_jtold (q := q) (d := 1896) (σ := (f, t)) (W := 23) (ago := i) (c := c) hJ c0 c4 h8.2
        rw [zb_X_led_10]
        show (if f 43 2 ≤ i then _ else zD (true, q) 1898 zc_X_led (zat zc_X_led 16) [(19, 0, 0), (0, l, 0), (0, b, 0), (0, c, 0), (0, lat, 0), (0, i, 0)] [] (f, t)) = _
        rw [show f 43 2 = f 1465 8 from hJ.1, if_neg (by omega), zb_X_led_16]
        show zK _ _ _ _ _ _ (zM (true, q) 1897 297 [(11, 23 + 20, 0), (0, i, 0), (0, 1, 0)] (f, t)) = _
        rw [ht 1 (by decide) (by decide), zK_i, zb_X_led_22, if_pos (show 0 ≤ i ∧ i < f 1465 8 by omega), e]
        by_cases cm : f 1465 (1070 + 4 * i + 1) = l
        · rw [if_neg (fun z => z cm), if_pos cm, zb_X_led_24]
          by_cases cc : c = 0
          · rw [if_neg (fun z => z cc), zb_X_led_26]
            show zK _ _ _ _ _ _ (zM (true, q) 1897 297 [(11, 23 + 20, 0), (0, i, 0), (0, 0, 0)] (f, t)) = _
            rw [ht 0 (by decide) (by decide), zK_i, zb_X_led_32, if_pos (show 0 ≤ i ∧ i < f 1465 8 by omega), zw_id (by omega) (by omega), zw_id (by omega) (by omega), ih (i + 1) (c + 1) _ (by omega) (by omega) (by omega) (by omega) (fun z => by omega), if_neg (show ¬(c + 1 = 0) by omega), if_pos cc, Int.add_assoc, Int.add_comm 1 _]
          · rw [if_pos cc, zb_X_led_33, zw_id (by omega) (by omega), zw_id (by omega) (by omega), ih (i + 1) (c + 1) _ (by omega) (by omega) (by omega) (by omega) (fun z => by omega), if_neg (show ¬(c + 1 = 0) by omega), if_neg cc, Int.add_assoc, Int.add_comm 1 _]
        · rw [if_pos cm, if_neg cm, zb_X_led_36, zw_id (by omega) (by omega), ih (i + 1) c lat (by omega) (by omega) c0 (by omega) hlat]
    have hx : zM (true, q) 1898 298 [(19, 0, 0), (0, l, 0), (0, b, 0)] (f, t) = some ((0, if b = 0 then (gLA (f 1465) l (f 1465 8).toNat 0).1 else (gLA (f 1465) l (f 1465 8).toNat 0).2, 0), (f, t)) := by
      rw [ze_X_led, zb_X_led_0, zLT hR hl.1 hl.2, zK_13, zb_X_led_3, loop (f 1465 8).toNat 0 0 (-1) (Int.le_refl 0) (by omega) (Int.le_refl 0) (Int.le_refl 0) (fun _ => rfl), if_pos rfl, Int.zero_add]
    exact zOw_v rfl hR (k_led_v hx) (fun h => r_led (d := 1897) hl.1 hl.2 h4.2.2 h8.1 h8.2)
  · have hx : zM (true, q) 1898 298 [(19, 0, 0), (0, l, 0), (0, b, 0)] (f, t) = some ((102, 0, 0), (f, zThr t)) := by
      rw [ze_X_led, zb_X_led_0, zLF_ hR hl]
      rfl
    refine zOw_t (v := 0) rfl hR (by decide) (k_led_102 hx) (fun h => ?_)
    rw [ze_M_led, zb_M_led_0, r_isLineF (by omega) h4.2.1 h4.2.2, zK_i, zb_M_led_4, if_neg (by omega), zb_M_led_5]
    try simp (disch := omega) only [Int.reduceAdd, zrow_r, zrow_in, zrow_up, zrow_ne, zupE]
    rw [if_neg (by decide)]
    try simp (disch := omega) only [Int.reduceAdd, zrow_r, zrow_in, zrow_up, zrow_ne, zupE]
    rw [zb_M_led_12]
