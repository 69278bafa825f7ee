/-! ## tune -/
theorem c_may_0 {q : Int × (Int → Int)} {d : Nat} {σ : zS} {n : Int} : zM (true, q) d 202 [(0, 0, 0), (0, n, 0)] σ = some ((0, if 0 ≤ n ∧ n ≤ 100 then 1 else 0, 0), σ) := by
  rw [ze_X_mayBeTuned, zb_X_mayBeTuned_0]
  show zD (true, q) d zc_X_mayBeTuned (zat zc_X_mayBeTuned 2) _ [] σ = _
  rw [zb_X_mayBeTuned_2]
  by_cases c : n < 0
  · rw [if_pos c, zb_X_mayBeTuned_9, zG2 (by decide) (by decide), if_neg (by omega)]
  · rw [if_neg c, zb_X_mayBeTuned_4]
    by_cases c2 : 100 < n
    · rw [if_pos c2, zb_X_mayBeTuned_9, zG2 (by decide) (by decide), if_neg (by omega)]
    · rw [if_neg c2, zb_X_mayBeTuned_7, zG2 (by decide) (by decide), if_pos (by omega)]
theorem r_right_0 {q : Int × (Int → Int)} {d : Nat} {σ : zS} {n : Int} : zM (true, q) (d + 1) 205 [(0, 0, 0), (0, n, 0)] σ = some ((0, if 0 ≤ n ∧ n ≤ 100 then 1 else 0, 0), σ) := by
  have hg : 0 ≤ (if 0 ≤ n ∧ n ≤ 100 then (1 : Int) else 0) ∧ (if 0 ≤ n ∧ n ≤ 100 then (1 : Int) else 0) < 2 := by
    split <;> decide
  rw [ze_M_isRight, zb_M_isRight_0, if_neg (by decide), zb_M_isRight_2, r_isIn, zK_i, zb_M_isRight_6, zG2 hg.1 hg.2]
theorem r_tuned_0 {q : Int × (Int → Int)} {d : Nat} {σ : zS} : zM (true, q) d 206 [(0, 0, 0)] σ = some ((0, 1, 0), σ) := by
  rw [ze_M_tuned, zb_M_tuned_0, if_neg (by decide), zb_M_tuned_2]
theorem o_tune_0 {q : Int × (Int → Int)} {N : Int} {f : Int → Int → Int} {t : (Int → Int) × Nat × Nat × Nat × (Int → Int → Bool)} {l n : Int} (hR : ZR N f f) (hl : 0 ≤ l ∧ l < f 1465 3) : zOw q (N + 240) f t 204 [(19, 0, 0), (0, l, 0), (0, 0, 0), (0, n, 0), (31, 1478, 1)] 207 [(20, 1464, 0), (0, l, 0), (0, 0, 0), (0, n, 0)] := by
  have N0 := hR.1
  have h4 := ZR_4 hR
  have hI := hR.2.1.2.2.1
  obtain ⟨hC, hIL⟩ := ZR_line hR hl.1 hl.2
  have hla := zLT (q := q) (d := 1896) (t := t) hR hl.1 hl.2
  by_cases hn : 0 ≤ n ∧ n ≤ 100
  · obtain ⟨f1, x1, c1⟩ := c_rem (q := q) (d := 1893) (t := t) hR
    obtain ⟨G1, L1, fr1, _⟩ := zCm_w hR c1
    have C1 := L1 l hl.1 hl.2
    rw [show (23 : Int) + 23 + 18 * l = 46 + 18 * l by omega] at C1
    have ec : f1 (46 + 18 * l) 5 = f 1465 (10 + 265 * l + 1) := zc_f5 C1
    have hW := zW_up (W := 23) (c := 5) (r := 1) (v := n) hl.1 hl.2 hI (by decide) (by decide) (by decide) (by decide) (zIL_f1 hn hIL) (by decide) G1 L1
    rw [show (23 : Int) + 23 + 18 * l = 46 + 18 * l by omega] at hW
    have hx : zM (true, q) 1898 203 [(19, 0, 0), (0, l, 0), (0, 0, 0), (0, n, 0)] (f, t) = some ((0, f 1465 (10 + 265 * l + 1), 0), (zup f1 (46 + 18 * l) 5 n, t)) := by
      rw [ze_X_tune, zb_X_tune_0, hla, zK_13, zb_X_tune_3, if_neg (by decide), zb_X_tune_6, if_pos (by decide), zb_X_tune_14, c_may_0, if_pos hn, zK_i, zb_X_tune_17, if_pos (by decide), zb_X_tune_23, x1, zK_v, zb_X_tune_25]
      show zD (true, q) 1898 zc_X_tune (zat zc_X_tune 27) _ [] (f1, t) = _
      rw [zb_X_tune_27]
      show some ((0, f1 (46 + 18 * l) 5, 0), (zup f1 (46 + 18 * l) 5 n, t)) = _
      rw [ec]
    refine zOw_act (g2 := zup1 (f 1465) (10 + 265 * l + 1) n) hR (by omega) (k_tune_v hx) c1 (fun o k ho => zup_na (by omega)) ⟨hW.1, hW.2.1, zWI_mono (by omega) hW.2.2, ?_, ?_⟩ (fun j hj => zup1_ne (by omega)) (fun h a0 a1 => ?_)
    · rw [zup1_ne (by omega)]
      exact hR.2.1.2.2.2.1
    · rw [zup1_ne (by omega)]
      have := hR.2.1.2.2.2.2
      omega
    · obtain ⟨h1, r1, z1⟩ := r_remR (q := q) (d := 1898) (t := t) (h := zup h 1464 0 0) (g := f 1465) (by rw [zup_nk (by decide)]; exact a0) (by rw [zup_nk (by decide)]; exact a1)
      refine ⟨h1, h1, z1, ?_, zFr_refl⟩
      rw [ze_M_tune, zb_M_tune_0, r_isLineT hl.1 hl.2 h4.2.2, zK_i, zb_M_tune_4, if_pos (by decide), zb_M_tune_7, r_isInT (by decide) (by decide), zK_i, zb_M_tune_11, if_pos (by decide), zb_M_tune_14, r_right_0, if_pos hn, zK_i, zb_M_tune_17, if_pos (by decide), zb_M_tune_20]
      simp (disch := omega) only [Int.reduceAdd, zrow_r, zrow_in, zrow_up, zrow_ne, zupE]
      rw [if_pos (by decide), zb_M_tune_27, r1, zK_v, zb_M_tune_29, r_tuned_0, zK_i, zb_M_tune_33, r_of hl.1 (by omega) (by decide) (by decide), zK_i, zb_M_tune_34, r_tuned_0, zK_i, zb_M_tune_39, r_lays hl.1 (by omega) (by decide) (by decide), zK_v, zb_M_tune_41]
  · have hx : zM (true, q) 1898 203 [(19, 0, 0), (0, l, 0), (0, 0, 0), (0, n, 0)] (f, t) = some ((100, 0, 0), (f, zThr t)) := by
      rw [ze_X_tune, zb_X_tune_0, hla, zK_13, zb_X_tune_3, if_neg (by decide), zb_X_tune_6, if_pos (by decide), zb_X_tune_14, c_may_0, if_neg hn, zK_i, zb_X_tune_17, if_neg (fun z => z rfl), zb_X_tune_18]
      rfl
    refine zOw_mono (N := N) (by omega) (zOw_t (v := 0) rfl hR (by decide) (k_tune_100 hx) (fun h => ?_))
    rw [ze_M_tune, zb_M_tune_0, r_isLineT hl.1 hl.2 h4.2.2, zK_i, zb_M_tune_4, if_pos (by decide), zb_M_tune_7, r_isInT (by decide) (by decide), zK_i, zb_M_tune_11, if_pos (by decide), zb_M_tune_14, r_right_0, if_neg hn, zK_i, zb_M_tune_17, if_neg (fun z => z rfl), zb_M_tune_18]
    simp (disch := omega) only [Int.reduceAdd, zrow_r, zrow_in, zrow_up, zrow_ne, zupE]
    rw [if_neg (by decide), zb_M_tune_25]
theorem c_may_1 {q : Int × (Int → Int)} {d : Nat} {σ : zS} {n : Int} : zM (true, q) d 202 [(0, 1, 0), (0, n, 0)] σ = some ((0, if 1 ≤ n ∧ n ≤ 8 then 1 else 0, 0), σ) := by
  rw [ze_X_mayBeTuned, zb_X_mayBeTuned_0]
  show zD (true, q) d zc_X_mayBeTuned (zat zc_X_mayBeTuned 11) _ [] σ = _
  rw [zb_X_mayBeTuned_11]
  by_cases c : n < 1
  · rw [if_pos c, zb_X_mayBeTuned_19, zG2 (by decide) (by decide), if_neg (by omega)]
  · rw [if_neg c, zb_X_mayBeTuned_14]
    by_cases c2 : 8 < n
    · rw [if_pos c2, zb_X_mayBeTuned_19, zG2 (by decide) (by decide), if_neg (by omega)]
    · rw [if_neg c2, zb_X_mayBeTuned_17, zG2 (by decide) (by decide), if_pos (by omega)]
theorem r_right_1 {q : Int × (Int → Int)} {d : Nat} {σ : zS} {n : Int} : zM (true, q) (d + 1) 205 [(0, 1, 0), (0, n, 0)] σ = some ((0, if 1 ≤ n ∧ n ≤ 8 then 1 else 0, 0), σ) := by
  have hg : 0 ≤ (if 1 ≤ n ∧ n ≤ 8 then (1 : Int) else 0) ∧ (if 1 ≤ n ∧ n ≤ 8 then (1 : Int) else 0) < 2 := by
    split <;> decide
  rw [ze_M_isRight, zb_M_isRight_0, if_pos (by decide), zb_M_isRight_7, if_neg (by decide), zb_M_isRight_10, r_isIn, zK_i, zb_M_isRight_14, zG2 hg.1 hg.2]
theorem r_tuned_1 {q : Int × (Int → Int)} {d : Nat} {σ : zS} : zM (true, q) d 206 [(0, 1, 0)] σ = some ((0, 3, 0), σ) := by
  rw [ze_M_tuned, zb_M_tuned_0, if_pos (by decide), zb_M_tuned_4, if_neg (by decide), zb_M_tuned_7]
theorem o_tune_1 {q : Int × (Int → Int)} {N : Int} {f : Int → Int → Int} {t : (Int → Int) × Nat × Nat × Nat × (Int → Int → Bool)} {l n : Int} (hR : ZR N f f) (hl : 0 ≤ l ∧ l < f 1465 3) : zOw q (N + 240) f t 204 [(19, 0, 0), (0, l, 0), (0, 1, 0), (0, n, 0), (31, 1478, 1)] 207 [(20, 1464, 0), (0, l, 0), (0, 1, 0), (0, n, 0)] := by
  have N0 := hR.1
  have h4 := ZR_4 hR
  have hI := hR.2.1.2.2.1
  obtain ⟨hC, hIL⟩ := ZR_line hR hl.1 hl.2
  have hla := zLT (q := q) (d := 1896) (t := t) hR hl.1 hl.2
  by_cases hn : 1 ≤ n ∧ n ≤ 8
  · obtain ⟨f1, x1, c1⟩ := c_rem (q := q) (d := 1893) (t := t) hR
    obtain ⟨G1, L1, fr1, _⟩ := zCm_w hR c1
    have C1 := L1 l hl.1 hl.2
    rw [show (23 : Int) + 23 + 18 * l = 46 + 18 * l by omega] at C1
    have ec : f1 (46 + 18 * l) 7 = f 1465 (10 + 265 * l + 3) := zc_f7 C1
    have hW := zW_up (W := 23) (c := 7) (r := 3) (v := n) hl.1 hl.2 hI (by decide) (by decide) (by decide) (by decide) (zIL_f3 hn hIL) (by decide) G1 L1
    rw [show (23 : Int) + 23 + 18 * l = 46 + 18 * l by omega] at hW
    have hx : zM (true, q) 1898 203 [(19, 0, 0), (0, l, 0), (0, 1, 0), (0, n, 0)] (f, t) = some ((0, f 1465 (10 + 265 * l + 3), 0), (zup f1 (46 + 18 * l) 7 n, t)) := by
      rw [ze_X_tune, zb_X_tune_0, hla, zK_13, zb_X_tune_3, if_neg (by decide), zb_X_tune_6, if_pos (by decide), zb_X_tune_14, c_may_1, if_pos hn, zK_i, zb_X_tune_17, if_pos (by decide), zb_X_tune_23, x1, zK_v, zb_X_tune_25]
      show zD (true, q) 1898 zc_X_tune (zat zc_X_tune 34) _ [] (f1, t) = _
      rw [zb_X_tune_34]
      show some ((0, f1 (46 + 18 * l) 7, 0), (zup f1 (46 + 18 * l) 7 n, t)) = _
      rw [ec]
    refine zOw_act (g2 := zup1 (f 1465) (10 + 265 * l + 3) n) hR (by omega) (k_tune_v hx) c1 (fun o k ho => zup_na (by omega)) ⟨hW.1, hW.2.1, zWI_mono (by omega) hW.2.2, ?_, ?_⟩ (fun j hj => zup1_ne (by omega)) (fun h a0 a1 => ?_)
    · rw [zup1_ne (by omega)]
      exact hR.2.1.2.2.2.1
    · rw [zup1_ne (by omega)]
      have := hR.2.1.2.2.2.2
      omega
    · obtain ⟨h1, r1, z1⟩ := r_remR (q := q) (d := 1898) (t := t) (h := zup h 1464 0 0) (g := f 1465) (by rw [zup_nk (by decide)]; exact a0) (by rw [zup_nk (by decide)]; exact a1)
      refine ⟨h1, h1, z1, ?_, zFr_refl⟩
      rw [ze_M_tune, zb_M_tune_0, r_isLineT hl.1 hl.2 h4.2.2, zK_i, zb_M_tune_4, if_pos (by decide), zb_M_tune_7, r_isInT (by decide) (by decide), zK_i, zb_M_tune_11, if_pos (by decide), zb_M_tune_14, r_right_1, if_pos hn, zK_i, zb_M_tune_17, if_pos (by decide), zb_M_tune_20]
      simp (disch := omega) only [Int.reduceAdd, zrow_r, zrow_in, zrow_up, zrow_ne, zupE]
      rw [if_pos (by decide), zb_M_tune_27, r1, zK_v, zb_M_tune_29, r_tuned_1, zK_i, zb_M_tune_33, r_of hl.1 (by omega) (by decide) (by decide), zK_i, zb_M_tune_34, r_tuned_1, zK_i, zb_M_tune_39, r_lays hl.1 (by omega) (by decide) (by decide), zK_v, zb_M_tune_41]
  · have hx : zM (true, q) 1898 203 [(19, 0, 0), (0, l, 0), (0, 1, 0), (0, n, 0)] (f, t) = some ((100, 0, 0), (f, zThr t)) := by
      rw [ze_X_tune, zb_X_tune_0, hla, zK_13, zb_X_tune_3, if_neg (by decide), zb_X_tune_6, if_pos (by decide), zb_X_tune_14, c_may_1, if_neg hn, zK_i, zb_X_tune_17, if_neg (fun z => z rfl), zb_X_tune_18]
      rfl
    refine zOw_mono (N := N) (by omega) (zOw_t (v := 0) rfl hR (by decide) (k_tune_100 hx) (fun h => ?_))
    rw [ze_M_tune, zb_M_tune_0, r_isLineT hl.1 hl.2 h4.2.2, zK_i, zb_M_tune_4, if_pos (by decide), zb_M_tune_7, r_isInT (by decide) (by decide), zK_i, zb_M_tune_11, if_pos (by decide), zb_M_tune_14, r_right_1, if_neg hn, zK_i, zb_M_tune_17, if_neg (fun z => z rfl), zb_M_tune_18]
    simp (disch := omega) only [Int.reduceAdd, zrow_r, zrow_in, zrow_up, zrow_ne, zupE]
    rw [if_neg (by decide), zb_M_tune_25]
theorem c_may_2 {q : Int × (Int → Int)} {d : Nat} {σ : zS} {n : Int} : zM (true, q) d 202 [(0, 2, 0), (0, n, 0)] σ = some ((0, if 9 ≤ n ∧ n ≤ 60 then 1 else 0, 0), σ) := by
  rw [ze_X_mayBeTuned, zb_X_mayBeTuned_0]
  show zD (true, q) d zc_X_mayBeTuned (zat zc_X_mayBeTuned 21) _ [] σ = _
  rw [zb_X_mayBeTuned_21]
  by_cases c : n < 9
  · rw [if_pos c, zb_X_mayBeTuned_29, zG2 (by decide) (by decide), if_neg (by omega)]
  · rw [if_neg c, zb_X_mayBeTuned_24]
    by_cases c2 : 60 < n
    · rw [if_pos c2, zb_X_mayBeTuned_29, zG2 (by decide) (by decide), if_neg (by omega)]
    · rw [if_neg c2, zb_X_mayBeTuned_27, zG2 (by decide) (by decide), if_pos (by omega)]
theorem r_right_2 {q : Int × (Int → Int)} {d : Nat} {σ : zS} {n : Int} : zM (true, q) (d + 1) 205 [(0, 2, 0), (0, n, 0)] σ = some ((0, if 9 ≤ n ∧ n ≤ 60 then 1 else 0, 0), σ) := by
  have hg : 0 ≤ (if 9 ≤ n ∧ n ≤ 60 then (1 : Int) else 0) ∧ (if 9 ≤ n ∧ n ≤ 60 then (1 : Int) else 0) < 2 := by
    split <;> decide
  rw [ze_M_isRight, zb_M_isRight_0, if_pos (by decide), zb_M_isRight_7, if_pos (by decide), zb_M_isRight_15, if_neg (by decide), zb_M_isRight_18, r_isIn, zK_i, zb_M_isRight_22, zG2 hg.1 hg.2]
theorem r_tuned_2 {q : Int × (Int → Int)} {d : Nat} {σ : zS} : zM (true, q) d 206 [(0, 2, 0)] σ = some ((0, 4, 0), σ) := by
  rw [ze_M_tuned, zb_M_tuned_0, if_pos (by decide), zb_M_tuned_4, if_pos (by decide), zb_M_tuned_9, if_neg (by decide), zb_M_tuned_12]
theorem o_tune_2 {q : Int × (Int → Int)} {N : Int} {f : Int → Int → Int} {t : (Int → Int) × Nat × Nat × Nat × (Int → Int → Bool)} {l n : Int} (hR : ZR N f f) (hl : 0 ≤ l ∧ l < f 1465 3) : zOw q (N + 240) f t 204 [(19, 0, 0), (0, l, 0), (0, 2, 0), (0, n, 0), (31, 1478, 1)] 207 [(20, 1464, 0), (0, l, 0), (0, 2, 0), (0, n, 0)] := by
  have N0 := hR.1
  have h4 := ZR_4 hR
  have hI := hR.2.1.2.2.1
  obtain ⟨hC, hIL⟩ := ZR_line hR hl.1 hl.2
  have hla := zLT (q := q) (d := 1896) (t := t) hR hl.1 hl.2
  by_cases hn : 9 ≤ n ∧ n ≤ 60
  · obtain ⟨f1, x1, c1⟩ := c_rem (q := q) (d := 1893) (t := t) hR
    obtain ⟨G1, L1, fr1, _⟩ := zCm_w hR c1
    have C1 := L1 l hl.1 hl.2
    rw [show (23 : Int) + 23 + 18 * l = 46 + 18 * l by omega] at C1
    have ec : f1 (46 + 18 * l) 8 = f 1465 (10 + 265 * l + 4) := zc_f8 C1
    have hW := zW_up (W := 23) (c := 8) (r := 4) (v := n) hl.1 hl.2 hI (by decide) (by decide) (by decide) (by decide) (zIL_f4 hn hIL) (by decide) G1 L1
    rw [show (23 : Int) + 23 + 18 * l = 46 + 18 * l by omega] at hW
    have hx : zM (true, q) 1898 203 [(19, 0, 0), (0, l, 0), (0, 2, 0), (0, n, 0)] (f, t) = some ((0, f 1465 (10 + 265 * l + 4), 0), (zup f1 (46 + 18 * l) 8 n, t)) := by
      rw [ze_X_tune, zb_X_tune_0, hla, zK_13, zb_X_tune_3, if_neg (by decide), zb_X_tune_6, if_pos (by decide), zb_X_tune_14, c_may_2, if_pos hn, zK_i, zb_X_tune_17, if_pos (by decide), zb_X_tune_23, x1, zK_v, zb_X_tune_25]
      show zD (true, q) 1898 zc_X_tune (zat zc_X_tune 41) _ [] (f1, t) = _
      rw [zb_X_tune_41]
      show some ((0, f1 (46 + 18 * l) 8, 0), (zup f1 (46 + 18 * l) 8 n, t)) = _
      rw [ec]
    refine zOw_act (g2 := zup1 (f 1465) (10 + 265 * l + 4) n) hR (by omega) (k_tune_v hx) c1 (fun o k ho => zup_na (by omega)) ⟨hW.1, hW.2.1, zWI_mono (by omega) hW.2.2, ?_, ?_⟩ (fun j hj => zup1_ne (by omega)) (fun h a0 a1 => ?_)
    · rw [zup1_ne (by omega)]
      exact hR.2.1.2.2.2.1
    · rw [zup1_ne (by omega)]
      have := hR.2.1.2.2.2.2
      omega
    · obtain ⟨h1, r1, z1⟩ := r_remR (q := q) (d := 1898) (t := t) (h := zup h 1464 0 0) (g := f 1465) (by rw [zup_nk (by decide)]; exact a0) (by rw [zup_nk (by decide)]; exact a1)
      refine ⟨h1, h1, z1, ?_, zFr_refl⟩
      rw [ze_M_tune, zb_M_tune_0, r_isLineT hl.1 hl.2 h4.2.2, zK_i, zb_M_tune_4, if_pos (by decide), zb_M_tune_7, r_isInT (by decide) (by decide), zK_i, zb_M_tune_11, if_pos (by decide), zb_M_tune_14, r_right_2, if_pos hn, zK_i, zb_M_tune_17, if_pos (by decide), zb_M_tune_20]
      simp (disch := omega) only [Int.reduceAdd, zrow_r, zrow_in, zrow_up, zrow_ne, zupE]
      rw [if_pos (by decide), zb_M_tune_27, r1, zK_v, zb_M_tune_29, r_tuned_2, zK_i, zb_M_tune_33, r_of hl.1 (by omega) (by decide) (by decide), zK_i, zb_M_tune_34, r_tuned_2, zK_i, zb_M_tune_39, r_lays hl.1 (by omega) (by decide) (by decide), zK_v, zb_M_tune_41]
  · have hx : zM (true, q) 1898 203 [(19, 0, 0), (0, l, 0), (0, 2, 0), (0, n, 0)] (f, t) = some ((100, 0, 0), (f, zThr t)) := by
      rw [ze_X_tune, zb_X_tune_0, hla, zK_13, zb_X_tune_3, if_neg (by decide), zb_X_tune_6, if_pos (by decide), zb_X_tune_14, c_may_2, if_neg hn, zK_i, zb_X_tune_17, if_neg (fun z => z rfl), zb_X_tune_18]
      rfl
    refine zOw_mono (N := N) (by omega) (zOw_t (v := 0) rfl hR (by decide) (k_tune_100 hx) (fun h => ?_))
    rw [ze_M_tune, zb_M_tune_0, r_isLineT hl.1 hl.2 h4.2.2, zK_i, zb_M_tune_4, if_pos (by decide), zb_M_tune_7, r_isInT (by decide) (by decide), zK_i, zb_M_tune_11, if_pos (by decide), zb_M_tune_14, r_right_2, if_neg hn, zK_i, zb_M_tune_17, if_neg (fun z => z rfl), zb_M_tune_18]
    simp (disch := omega) only [Int.reduceAdd, zrow_r, zrow_in, zrow_up, zrow_ne, zupE]
    rw [if_neg (by decide), zb_M_tune_25]
theorem c_may_3 {q : Int × (Int → Int)} {d : Nat} {σ : zS} {n : Int} : zM (true, q) d 202 [(0, 3, 0), (0, n, 0)] σ = some ((0, if 1 ≤ n ∧ n ≤ 20 then 1 else 0, 0), σ) := by
  rw [ze_X_mayBeTuned, zb_X_mayBeTuned_0]
  show zD (true, q) d zc_X_mayBeTuned (zat zc_X_mayBeTuned 31) _ [] σ = _
  rw [zb_X_mayBeTuned_31]
  by_cases c : n < 1
  · rw [if_pos c, zb_X_mayBeTuned_39, zG2 (by decide) (by decide), if_neg (by omega)]
  · rw [if_neg c, zb_X_mayBeTuned_34]
    by_cases c2 : 20 < n
    · rw [if_pos c2, zb_X_mayBeTuned_39, zG2 (by decide) (by decide), if_neg (by omega)]
    · rw [if_neg c2, zb_X_mayBeTuned_37, zG2 (by decide) (by decide), if_pos (by omega)]
theorem r_right_3 {q : Int × (Int → Int)} {d : Nat} {σ : zS} {n : Int} : zM (true, q) (d + 1) 205 [(0, 3, 0), (0, n, 0)] σ = some ((0, if 1 ≤ n ∧ n ≤ 20 then 1 else 0, 0), σ) := by
  have hg : 0 ≤ (if 1 ≤ n ∧ n ≤ 20 then (1 : Int) else 0) ∧ (if 1 ≤ n ∧ n ≤ 20 then (1 : Int) else 0) < 2 := by
    split <;> decide
  rw [ze_M_isRight, zb_M_isRight_0, if_pos (by decide), zb_M_isRight_7, if_pos (by decide), zb_M_isRight_15, if_pos (by decide), zb_M_isRight_23, r_isIn, zK_i, zb_M_isRight_27, zG2 hg.1 hg.2]
theorem r_tuned_3 {q : Int × (Int → Int)} {d : Nat} {σ : zS} : zM (true, q) d 206 [(0, 3, 0)] σ = some ((0, 5, 0), σ) := by
  rw [ze_M_tuned, zb_M_tuned_0, if_pos (by decide), zb_M_tuned_4, if_pos (by decide), zb_M_tuned_9, if_pos (by decide), zb_M_tuned_14]
theorem o_tune_3 {q : Int × (Int → Int)} {N : Int} {f : Int → Int → Int} {t : (Int → Int) × Nat × Nat × Nat × (Int → Int → Bool)} {l n : Int} (hR : ZR N f f) (hl : 0 ≤ l ∧ l < f 1465 3) : zOw q (N + 240) f t 204 [(19, 0, 0), (0, l, 0), (0, 3, 0), (0, n, 0), (31, 1478, 1)] 207 [(20, 1464, 0), (0, l, 0), (0, 3, 0), (0, n, 0)] := by
  have N0 := hR.1
  have h4 := ZR_4 hR
  have hI := hR.2.1.2.2.1
  obtain ⟨hC, hIL⟩ := ZR_line hR hl.1 hl.2
  have hla := zLT (q := q) (d := 1896) (t := t) hR hl.1 hl.2
  by_cases hn : 1 ≤ n ∧ n ≤ 20
  · obtain ⟨f1, x1, c1⟩ := c_rem (q := q) (d := 1893) (t := t) hR
    obtain ⟨G1, L1, fr1, _⟩ := zCm_w hR c1
    have C1 := L1 l hl.1 hl.2
    rw [show (23 : Int) + 23 + 18 * l = 46 + 18 * l by omega] at C1
    have ec : f1 (46 + 18 * l) 9 = f 1465 (10 + 265 * l + 5) := zc_f9 C1
    have hW := zW_up (W := 23) (c := 9) (r := 5) (v := n) hl.1 hl.2 hI (by decide) (by decide) (by decide) (by decide) (zIL_f5 hn hIL) (by decide) G1 L1
    rw [show (23 : Int) + 23 + 18 * l = 46 + 18 * l by omega] at hW
    have hx : zM (true, q) 1898 203 [(19, 0, 0), (0, l, 0), (0, 3, 0), (0, n, 0)] (f, t) = some ((0, f 1465 (10 + 265 * l + 5), 0), (zup f1 (46 + 18 * l) 9 n, t)) := by
      rw [ze_X_tune, zb_X_tune_0, hla, zK_13, zb_X_tune_3, if_neg (by decide), zb_X_tune_6, if_pos (by decide), zb_X_tune_14, c_may_3, if_pos hn, zK_i, zb_X_tune_17, if_pos (by decide), zb_X_tune_23, x1, zK_v, zb_X_tune_25]
      show zD (true, q) 1898 zc_X_tune (zat zc_X_tune 48) _ [] (f1, t) = _
      rw [zb_X_tune_48]
      show some ((0, f1 (46 + 18 * l) 9, 0), (zup f1 (46 + 18 * l) 9 n, t)) = _
      rw [ec]
    refine zOw_act (g2 := zup1 (f 1465) (10 + 265 * l + 5) n) hR (by omega) (k_tune_v hx) c1 (fun o k ho => zup_na (by omega)) ⟨hW.1, hW.2.1, zWI_mono (by omega) hW.2.2, ?_, ?_⟩ (fun j hj => zup1_ne (by omega)) (fun h a0 a1 => ?_)
    · rw [zup1_ne (by omega)]
      exact hR.2.1.2.2.2.1
    · rw [zup1_ne (by omega)]
      have := hR.2.1.2.2.2.2
      omega
    · obtain ⟨h1, r1, z1⟩ := r_remR (q := q) (d := 1898) (t := t) (h := zup h 1464 0 0) (g := f 1465) (by rw [zup_nk (by decide)]; exact a0) (by rw [zup_nk (by decide)]; exact a1)
      refine ⟨h1, h1, z1, ?_, zFr_refl⟩
      rw [ze_M_tune, zb_M_tune_0, r_isLineT hl.1 hl.2 h4.2.2, zK_i, zb_M_tune_4, if_pos (by decide), zb_M_tune_7, r_isInT (by decide) (by decide), zK_i, zb_M_tune_11, if_pos (by decide), zb_M_tune_14, r_right_3, if_pos hn, zK_i, zb_M_tune_17, if_pos (by decide), zb_M_tune_20]
      simp (disch := omega) only [Int.reduceAdd, zrow_r, zrow_in, zrow_up, zrow_ne, zupE]
      rw [if_pos (by decide), zb_M_tune_27, r1, zK_v, zb_M_tune_29, r_tuned_3, zK_i, zb_M_tune_33, r_of hl.1 (by omega) (by decide) (by decide), zK_i, zb_M_tune_34, r_tuned_3, zK_i, zb_M_tune_39, r_lays hl.1 (by omega) (by decide) (by decide), zK_v, zb_M_tune_41]
  · have hx : zM (true, q) 1898 203 [(19, 0, 0), (0, l, 0), (0, 3, 0), (0, n, 0)] (f, t) = some ((100, 0, 0), (f, zThr t)) := by
      rw [ze_X_tune, zb_X_tune_0, hla, zK_13, zb_X_tune_3, if_neg (by decide), zb_X_tune_6, if_pos (by decide), zb_X_tune_14, c_may_3, if_neg hn, zK_i, zb_X_tune_17, if_neg (fun z => z rfl), zb_X_tune_18]
      rfl
    refine zOw_mono (N := N) (by omega) (zOw_t (v := 0) rfl hR (by decide) (k_tune_100 hx) (fun h => ?_))
    rw [ze_M_tune, zb_M_tune_0, r_isLineT hl.1 hl.2 h4.2.2, zK_i, zb_M_tune_4, if_pos (by decide), zb_M_tune_7, r_isInT (by decide) (by decide), zK_i, zb_M_tune_11, if_pos (by decide), zb_M_tune_14, r_right_3, if_neg hn, zK_i, zb_M_tune_17, if_neg (fun z => z rfl), zb_M_tune_18]
    simp (disch := omega) only [Int.reduceAdd, zrow_r, zrow_in, zrow_up, zrow_ne, zupE]
    rw [if_neg (by decide), zb_M_tune_25]
theorem o_tune {q : Int × (Int → Int)} {N : Int} {f : Int → Int → Int} {t : (Int → Int) × Nat × Nat × Nat × (Int → Int → Bool)} {l w n : Int} (hR : ZR N f f) : zOw q (N + 240) f t 204 [(19, 0, 0), (0, l, 0), (0, w, 0), (0, n, 0), (31, 1478, 1)] 207 [(20, 1464, 0), (0, l, 0), (0, w, 0), (0, n, 0)] := by
  have h4 := ZR_4 hR
  by_cases hl : 0 ≤ l ∧ l < f 1465 3
  · by_cases hw : 0 ≤ w ∧ w ≤ 3
    · rcases (by omega : w = 0 ∨ w = 1 ∨ w = 2 ∨ w = 3) with rfl | rfl | rfl | rfl
      · exact o_tune_0 hR hl
      · exact o_tune_1 hR hl
      · exact o_tune_2 hR hl
      · exact o_tune_3 hR hl
    · have hx : zM (true, q) 1898 203 [(19, 0, 0), (0, l, 0), (0, w, 0), (0, n, 0)] (f, t) = some ((103, 0, 0), (f, zThr t)) := by
        rw [ze_X_tune, zb_X_tune_0, zLT (d := 1896) hR hl.1 hl.2, zK_13, zb_X_tune_3]
        by_cases c : w < 0
        · rw [if_pos c, zb_X_tune_9]
          rfl
        · rw [if_neg c, zb_X_tune_6, if_neg (by omega), zb_X_tune_9]
          rfl
      refine zOw_mono (N := N) (by omega) (zOw_t (v := 0) rfl hR (by decide) (k_tune_103 hx) (fun h => ?_))
      rw [ze_M_tune, zb_M_tune_0, r_isLineT hl.1 hl.2 h4.2.2, zK_i, zb_M_tune_4, if_pos (by decide), zb_M_tune_7, r_isInF (by omega), zK_i, zb_M_tune_11, if_neg (fun z => z rfl), zb_M_tune_12]
      simp (disch := omega) only [Int.reduceAdd, zrow_r, zrow_in, zrow_up, zrow_ne, zupE]
      rw [if_neg (by decide), zb_M_tune_25]
  · have hx : zM (true, q) 1898 203 [(19, 0, 0), (0, l, 0), (0, w, 0), (0, n, 0)] (f, t) = some ((102, 0, 0), (f, zThr t)) := by
      rw [ze_X_tune, zb_X_tune_0, zLF_ hR hl]
      rfl
    refine zOw_mono (N := N) (by omega) (zOw_t (v := 0) rfl hR (by decide) (k_tune_102 hx) (fun h => ?_))
    rw [ze_M_tune, zb_M_tune_0, r_isLineF (by omega) h4.2.1 h4.2.2, zK_i, zb_M_tune_4, if_neg (fun z => z rfl), zb_M_tune_5]
    simp (disch := omega) only [Int.reduceAdd, zrow_r, zrow_in, zrow_up, zrow_ne, zupE]
    rw [if_neg (by decide), zb_M_tune_25]
