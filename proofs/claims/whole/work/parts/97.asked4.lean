/-! ## counts, faults, seeds, ends -/
theorem zOu_1 {q : Int × (Int → Int)} {N : Int} {f : Int → Int → Int} {t : (Int → Int) × Nat × Nat × Nat × (Int → Int → Bool)} {k m : Nat} {ka ma : List zV} {v : Int} (hR : ZR N f f) (hk : zM (true, q) 1899 k ka (f, t) = some ((0, v, 0), (f, t))) (hm : zM (true, q) 1899 m ma (zrow f 1465 (f 1465), t) = some ((0, v, 0), (zrow (zup f 1464 0 0) 1465 (f 1465), t))) : zOu q N f t k ka m ma := by
  have e : (f, t) = (zrow f 1465 (f 1465), t) := by rw [zrow_id]
  rw [← e] at hm
  refine zOu_pure (f1 := f) hR hk zCk_refl (fun _ _ _ _ => rfl) zTt_refl hm (fun o k a => ?_) ⟨fun o k a => ?_, zB3_fr (fun k k0 k1 => by rw [zrow_ne (by decide), zup_nk (by omega)])⟩
  · rw [zrow_ne (by omega), zup_na (by omega)]
  · by_cases c : o = 1465
    · rw [c, zrow_r]
    · rw [zrow_ne c, zup_nka (by omega)]
theorem ZR_w {N M : Int} {f f2 h h2 : Int → Int → Int} (hR : ZR N f h) (hN : N ≤ M) (e : ∀ o k, (o < 8 ∨ (16 ≤ o ∧ o < 22) ∨ (213 ≤ o ∧ o < 308) ∨ (324 ≤ o ∧ o < 1464)) → f2 o k = f o k) (e2 : ∀ o k, (o = 1466 ∨ o = 1468 ∨ o = 1469 ∨ (o = 1464 ∧ (k = 3 ∨ k = 6 ∨ k = 8 ∨ k = 12))) → h2 o k = h o k) (eg : ∀ j, (j = 1 ∨ j = 2 ∨ 1310 ≤ j) → h2 1465 j = h 1465 j) (eb : zB3 h → zB3 h2) (hW : zRW M f2 23 (h2 1465)) : ZR M f2 h2 := by
  obtain ⟨r0, r1, r2, r3, r4, r5, r6⟩ := hR
  have x6 : h2 1466 = h 1466 := funext fun k => e2 _ _ (by omega)
  have x8 : h2 1468 = h 1468 := funext fun k => e2 _ _ (by omega)
  have x9 : h2 1469 = h 1469 := funext fun k => e2 _ _ (by omega)
  have y8 := e2 1464 8 (by omega)
  have y12 := e2 1464 12 (by omega)
  refine ⟨by omega, hW, zRL_g eg (zRL_c (fun o k o0 o1 => e o k (by omega)) r2), ?_, zRI_mono hN (zRI_c (fun o k ho => e o k (by omega)) (e2 _ _ (by omega)) x6 r4), zRA_mono hN (zRA_c (fun o k ho => e o k (by omega)) (e2 _ _ (by omega)) x8 (eg 1 (by omega)) (eg 2 (by omega)) r5), ?_⟩
  · unfold zRT
    rw [y8, x9, e 0 12 (by omega), show f2 1 = f 1 from funext fun k => e 1 k (by omega)]
    exact r3
  · rw [y12, e 0 13 (by omega)]
    exact ⟨r6.1, eb r6.2⟩
theorem ZR_t {N : Int} {f f2 h h2 : Int → Int → Int} (hR : ZR N f h) (e : ∀ o k, ((o = 0 ∧ 13 ≤ k) ∨ (2 ≤ o ∧ o < 8) ∨ (16 ≤ o ∧ o < 22) ∨ (23 ≤ o ∧ o < 45) ∨ (46 ≤ o ∧ o < 118) ∨ (213 ≤ o ∧ o < 308) ∨ (324 ≤ o ∧ o < 1464)) → f2 o k = f o k) (e2 : ∀ o k, (o = 1465 ∨ o = 1466 ∨ o = 1468 ∨ (o = 1464 ∧ (k = 3 ∨ k = 6 ∨ k = 12 ∨ k = 15 ∨ k = 16 ∨ k = 17))) → h2 o k = h o k) (hT : zRT f2 h2) : ZR N f2 h2 := by
  obtain ⟨r0, r1, r2, r3, r4, r5, r6⟩ := hR
  have x5 : h2 1465 = h 1465 := funext fun k => e2 _ _ (by omega)
  have x6 : h2 1466 = h 1466 := funext fun k => e2 _ _ (by omega)
  have x8 : h2 1468 = h 1468 := funext fun k => e2 _ _ (by omega)
  refine ⟨r0, by rw [x5]; exact zRW_c (fun o k o0 o1 o2 => e o k (by omega)) r1, by rw [x5]; exact zRL_c (fun o k o0 o1 => e o k (by omega)) r2, hT, zRI_c (fun o k ho => e o k (by omega)) (e2 _ _ (by omega)) x6 r4, zRA_c (fun o k ho => e o k (by omega)) (e2 _ _ (by omega)) x8 (by rw [x5]) (by rw [x5]) r5, ?_⟩
  rw [e2 1464 12 (by omega), e 0 13 (by omega)]
  exact ⟨r6.1, zB3_fr (fun k k0 k1 => e2 1464 k (by omega)) r6.2⟩
theorem zsw_out {d lo hi x : Int} {o : Array Int} (h : x < lo ∨ hi < x) : zsw d lo hi o x = d.toNat := if_pos h
theorem o_fault {q : Int × (Int → Int)} {N : Int} {f : Int → Int → Int} {t : (Int → Int) × Nat × Nat × Nat × (Int → Int → Bool)} (hR : ZR N f f) : zOu q N f t 98 [(19, 0, 0)] 99 [(20, 1464, 0)] := by
  have h6 : f 0 13 = f 1464 12 := hR.2.2.2.2.2.2.1
  refine zOu_1 (v := f 1464 12) hR ?_ ?_
  · rw [ze_X_fault, zb_X_fault_0]
    show some ((0, f 0 13, 0), (f, t)) = _
    rw [h6]
  · rw [ze_M_fault, zb_M_fault_0]
    show some ((0, zup (zrow f 1465 (f 1465)) 1464 0 0 1464 12, 0), (zup (zrow f 1465 (f 1465)) 1464 0 0, t)) = _
    rw [zup_nk (by decide), zrow_ne (by decide), zrow_up (by decide)]
theorem o_count {q : Int × (Int → Int)} {N : Int} {f : Int → Int → Int} {t : (Int → Int) × Nat × Nat × Nat × (Int → Int → Bool)} {w : Int} (hR : ZR N f f) : zOu q N f t 313 [(19, 0, 0), (0, w, 0)] 315 [(20, 1464, 0), (0, w, 0)] := by
  have h4 := ZR_4 hR
  obtain ⟨b4, b5, b6, b7, b8, b9, b10, bJ⟩ := hR.2.1.1
  have hv6 : ∀ i, 0 ≤ i → i < f 1465 3 → 0 ≤ f 1465 (10 + 265 * i + 6) ∧ f 1465 (10 + 265 * i + 6) ≤ 96 := fun i i0 i1 => (ZR_line hR i0 i1).2.1.2.2.2.2.2.2.1
  have hv7 : ∀ i, 0 ≤ i → i < f 1465 3 → 0 ≤ f 1465 (10 + 265 * i + 7) ∧ f 1465 (10 + 265 * i + 7) ≤ 96 := fun i i0 i1 => by
    have := (ZR_line hR i0 i1).2.1.2.2.2.2.2.2.2.1
    omega
  have hl : f 2 6 = f 1465 1 := by
    obtain ⟨_, _, _, _, _, _, h, _⟩ := hR.2.2.1
    exact h
  by_cases c : 0 ≤ w ∧ w ≤ 10
  · rcases (by omega : w = 0 ∨ w = 1 ∨ w = 2 ∨ w = 3 ∨ w = 4 ∨ w = 5 ∨ w = 6 ∨ w = 7 ∨ w = 8 ∨ w = 9 ∨ w = 10) with rfl | rfl | rfl | rfl | rfl | rfl | rfl | rfl | rfl | rfl | rfl
    · refine zOu_1 (v := f 1465 3) hR ?_ ?_
      · rw [ze_X_count, zb_X_count_0]
        show zD (true, q) 1899 zc_X_count (zat zc_X_count 2) _ [] (f, t) = _
        rw [zb_X_count_2]
        show some ((0, f 23 4, 0), (f, t)) = _
        rw [b4]
      · rw [ze_M_count, zb_M_count_0, if_neg (fun z => z rfl)]
        try simp (disch := omega) only [Int.reduceAdd, zupE,  zrow_r, zrow_in, zrow_up, zrow_ne, zupE]
        rw [zb_M_count_5]
        try simp (disch := omega) only [Int.reduceAdd, zupE,  zrow_r, zrow_in, zrow_up, zrow_ne, zupE]
        rw [zG2 (by decide) (by decide), zb_M_count_9]
    · refine zOu_1 (v := f 1465 0) hR ?_ ?_
      · rw [ze_X_count, zb_X_count_0]
        show zD (true, q) 1899 zc_X_count (zat zc_X_count 6) _ [] (f, t) = _
        rw [zb_X_count_6]
        show some ((0, f 23 5, 0), (f, t)) = _
        rw [b5]
      · rw [ze_M_count, zb_M_count_0, if_pos (by decide)]
        try simp (disch := omega) only [Int.reduceAdd, zupE,  zrow_r, zrow_in, zrow_up, zrow_ne, zupE]
        rw [zb_M_count_10, if_neg (fun z => z rfl), zb_M_count_13]
        try simp (disch := omega) only [Int.reduceAdd, zupE,  zrow_r, zrow_in, zrow_up, zrow_ne, zupE]
        rw [zG2 (by decide) (by decide), zb_M_count_17]
    · refine zOu_1 (v := f 1465 1) hR ?_ ?_
      · rw [ze_X_count, zb_X_count_0]
        show zD (true, q) 1899 zc_X_count (zat zc_X_count 10) _ [] (f, t) = _
        rw [zb_X_count_10]
        show some ((0, f 2 6, 0), (f, t)) = _
        rw [hl]
      · rw [ze_M_count, zb_M_count_0, if_pos (by decide)]
        try simp (disch := omega) only [Int.reduceAdd, zupE,  zrow_r, zrow_in, zrow_up, zrow_ne, zupE]
        rw [zb_M_count_10, if_pos (by decide), zb_M_count_18, if_neg (fun z => z rfl), zb_M_count_21]
        try simp (disch := omega) only [Int.reduceAdd, zupE,  zrow_r, zrow_in, zrow_up, zrow_ne, zupE]
        rw [zG2 (by decide) (by decide), zb_M_count_25]
    · refine zOu_1 (v := f 1465 4) hR ?_ ?_
      · rw [ze_X_count, zb_X_count_0]
        show zD (true, q) 1899 zc_X_count (zat zc_X_count 14) _ [] (f, t) = _
        rw [zb_X_count_14]
        show some ((0, f 23 6, 0), (f, t)) = _
        rw [b6]
      · rw [ze_M_count, zb_M_count_0, if_pos (by decide)]
        try simp (disch := omega) only [Int.reduceAdd, zupE,  zrow_r, zrow_in, zrow_up, zrow_ne, zupE]
        rw [zb_M_count_10, if_pos (by decide), zb_M_count_18, if_pos (by decide), zb_M_count_26, r_isInT (by decide) (by decide), zK_i, zb_M_count_30, if_neg (by decide), zb_M_count_31]
        try simp (disch := omega) only [zw_id, Int.reduceAdd, zrow_r, zrow_in, zrow_up, zrow_ne, zupE]
        rw [zG2 (by decide) (by decide), zb_M_count_39]
        rfl
    · refine zOu_1 (v := f 1465 5) hR ?_ ?_
      · rw [ze_X_count, zb_X_count_0]
        show zD (true, q) 1899 zc_X_count (zat zc_X_count 18) _ [] (f, t) = _
        rw [zb_X_count_18]
        show some ((0, f 23 7, 0), (f, t)) = _
        rw [b7]
      · rw [ze_M_count, zb_M_count_0, if_pos (by decide)]
        try simp (disch := omega) only [Int.reduceAdd, zupE,  zrow_r, zrow_in, zrow_up, zrow_ne, zupE]
        rw [zb_M_count_10, if_pos (by decide), zb_M_count_18, if_pos (by decide), zb_M_count_26, r_isInT (by decide) (by decide), zK_i, zb_M_count_30, if_neg (by decide), zb_M_count_31]
        try simp (disch := omega) only [zw_id, Int.reduceAdd, zrow_r, zrow_in, zrow_up, zrow_ne, zupE]
        rw [zG2 (by decide) (by decide), zb_M_count_39]
        rfl
    · refine zOu_1 (v := f 1465 6) hR ?_ ?_
      · rw [ze_X_count, zb_X_count_0]
        show zD (true, q) 1899 zc_X_count (zat zc_X_count 22) _ [] (f, t) = _
        rw [zb_X_count_22]
        show some ((0, f 23 8, 0), (f, t)) = _
        rw [b8]
      · rw [ze_M_count, zb_M_count_0, if_pos (by decide)]
        try simp (disch := omega) only [Int.reduceAdd, zupE,  zrow_r, zrow_in, zrow_up, zrow_ne, zupE]
        rw [zb_M_count_10, if_pos (by decide), zb_M_count_18, if_pos (by decide), zb_M_count_26, r_isInT (by decide) (by decide), zK_i, zb_M_count_30, if_neg (by decide), zb_M_count_31]
        try simp (disch := omega) only [zw_id, Int.reduceAdd, zrow_r, zrow_in, zrow_up, zrow_ne, zupE]
        rw [zG2 (by decide) (by decide), zb_M_count_39]
        rfl
    · refine zOu_1 (v := zsum (fun i => f 1465 (10 + 265 * i + 6)) (f 1465 3).toNat 0) hR ?_ ?_
      · rw [ze_X_count, zb_X_count_0]
        show zD (true, q) 1899 zc_X_count (zat zc_X_count 26) _ [] (f, t) = _
        rw [zb_X_count_26]
        show zK _ _ _ _ _ _ (zM (true, q) 1898 213 [(18, 23, 0)] (f, t)) = _
        rw [c_queued (σ := (f, t)) h4.1 h4.2.1 h4.2.2 hR.2.1.2.1 hv6, zK_i, zb_X_count_29]
      · rw [ze_M_count, zb_M_count_0, if_pos (by decide)]
        try simp (disch := omega) only [Int.reduceAdd, zupE,  zrow_r, zrow_in, zrow_up, zrow_ne, zupE]
        rw [zb_M_count_10, if_pos (by decide), zb_M_count_18, if_pos (by decide), zb_M_count_26, r_isInF (by decide), zK_i, zb_M_count_30, if_pos (rfl), zb_M_count_40, if_neg (fun z => z rfl), zb_M_count_43, r_sumOf h4.2.1 h4.2.2 (by decide) (by decide) hv6, zK_i, zb_M_count_46]
    · refine zOu_1 (v := zsum (fun i => f 1465 (10 + 265 * i + 7)) (f 1465 3).toNat 0) hR ?_ ?_
      · rw [ze_X_count, zb_X_count_0]
        show zD (true, q) 1899 zc_X_count (zat zc_X_count 30) _ [] (f, t) = _
        rw [zb_X_count_30]
        show zK _ _ _ _ _ _ (zM (true, q) 1898 214 [(18, 23, 0)] (f, t)) = _
        rw [c_unitsKept (σ := (f, t)) h4.1 h4.2.1 h4.2.2 hR.2.1.2.1 hv7, zK_i, zb_X_count_33]
      · rw [ze_M_count, zb_M_count_0, if_pos (by decide)]
        try simp (disch := omega) only [Int.reduceAdd, zupE,  zrow_r, zrow_in, zrow_up, zrow_ne, zupE]
        rw [zb_M_count_10, if_pos (by decide), zb_M_count_18, if_pos (by decide), zb_M_count_26, r_isInF (by decide), zK_i, zb_M_count_30, if_pos (rfl), zb_M_count_40, if_pos (by decide), zb_M_count_47, if_neg (fun z => z rfl), zb_M_count_50, r_sumOf h4.2.1 h4.2.2 (by decide) (by decide) hv7, zK_i, zb_M_count_53]
    · refine zOu_1 (v := f 1465 7) hR ?_ ?_
      · rw [ze_X_count, zb_X_count_0]
        show zD (true, q) 1899 zc_X_count (zat zc_X_count 34) _ [] (f, t) = _
        rw [zb_X_count_34]
        show some ((0, f 23 9, 0), (f, t)) = _
        rw [b9]
      · rw [ze_M_count, zb_M_count_0, if_pos (by decide)]
        try simp (disch := omega) only [Int.reduceAdd, zupE,  zrow_r, zrow_in, zrow_up, zrow_ne, zupE]
        rw [zb_M_count_10, if_pos (by decide), zb_M_count_18, if_pos (by decide), zb_M_count_26, r_isInF (by decide), zK_i, zb_M_count_30, if_pos (rfl), zb_M_count_40, if_pos (by decide), zb_M_count_47, if_pos (by decide), zb_M_count_54, if_neg (fun z => z rfl), zb_M_count_57]
        try simp (disch := omega) only [Int.reduceAdd, zupE,  zrow_r, zrow_in, zrow_up, zrow_ne, zupE]
        rw [zG2 (by decide) (by decide), zb_M_count_61]
    · refine zOu_1 (v := f 1465 8) hR ?_ ?_
      · rw [ze_X_count, zb_X_count_0]
        show zD (true, q) 1899 zc_X_count (zat zc_X_count 38) _ [] (f, t) = _
        rw [zb_X_count_38]
        show some ((0, f (23 + 20) 2, 0), (f, t)) = _
        rw [bJ.1]
      · rw [ze_M_count, zb_M_count_0, if_pos (by decide)]
        try simp (disch := omega) only [Int.reduceAdd, zupE,  zrow_r, zrow_in, zrow_up, zrow_ne, zupE]
        rw [zb_M_count_10, if_pos (by decide), zb_M_count_18, if_pos (by decide), zb_M_count_26, r_isInF (by decide), zK_i, zb_M_count_30, if_pos (rfl), zb_M_count_40, if_pos (by decide), zb_M_count_47, if_pos (by decide), zb_M_count_54, if_pos (by decide), zb_M_count_62, if_neg (fun z => z rfl), zb_M_count_65]
        try simp (disch := omega) only [Int.reduceAdd, zupE,  zrow_r, zrow_in, zrow_up, zrow_ne, zupE]
        rw [zG2 (by decide) (by decide), zb_M_count_69]
    · refine zOu_1 (v := f 1464 6) hR ?_ ?_
      · rw [ze_X_count, zb_X_count_0]
        show zD (true, q) 1899 zc_X_count (zat zc_X_count 43) _ [] (f, t) = _
        rw [zb_X_count_43]
        show some ((0, f 0 16, 0), (f, t)) = _
        rw [hR.2.2.2.2.2.1.2.2.1]
      · rw [ze_M_count, zb_M_count_0, if_pos (by decide)]
        try simp (disch := omega) only [Int.reduceAdd, zupE,  zrow_r, zrow_in, zrow_up, zrow_ne, zupE]
        rw [zb_M_count_10, if_pos (by decide), zb_M_count_18, if_pos (by decide), zb_M_count_26, r_isInF (by decide), zK_i, zb_M_count_30, if_pos (rfl), zb_M_count_40, if_pos (by decide), zb_M_count_47, if_pos (by decide), zb_M_count_54, if_pos (by decide), zb_M_count_62, if_pos (by decide), zb_M_count_70, if_neg (fun z => z rfl), zb_M_count_73]
        try simp (disch := omega) only [Int.reduceAdd, zupE,  zrow_r, zrow_in, zrow_up, zrow_ne, zupE]
        rw [zup_nk (by decide)]
  · refine zOu_1 (v := -1) hR ?_ ?_
    · rw [ze_X_count, zb_X_count_0, zsw_out (by omega)]
      show zD (true, q) 1899 zc_X_count (zat zc_X_count 46) _ [] (f, t) = _
      rw [zb_X_count_46]
    · rw [ze_M_count, zb_M_count_0, if_pos (by omega)]
      try simp (disch := omega) only [Int.reduceAdd, zrow_r, zrow_in, zrow_up, zrow_ne, zupE]
      rw [zb_M_count_10, if_pos (by omega), zb_M_count_18, if_pos (by omega), zb_M_count_26, r_isInF (by omega), zK_i, zb_M_count_30, if_pos (rfl), zb_M_count_40, if_pos (by omega), zb_M_count_47, if_pos (by omega), zb_M_count_54, if_pos (by omega), zb_M_count_62, if_pos (by omega), zb_M_count_70, if_pos (by omega), zb_M_count_76]
theorem o_seed {q : Int × (Int → Int)} {N : Int} {f : Int → Int → Int} {t : (Int → Int) × Nat × Nat × Nat × (Int → Int → Bool)} {x : Int} (hR : ZR N f f) : zOu q N f t 305 [(19, 0, 0), (0, x, 0)] 306 [(20, 1464, 0), (0, x, 0)] := by
  have b10 : f 23 10 = f 1465 9 := hR.2.1.1.2.2.2.2.2.2.1
  refine ⟨f 1465 9, zup f 23 10 x, t, zrow (zup (zup f 23 10 x) 1464 0 0) 1465 (zup1 (f 1465) 9 x), ?_, ?_, ?_, zTt_refl⟩
  · rw [ze_X_seed, zb_X_seed_0]
    show some ((0, f 23 10, 0), (zup f 23 10 x, t)) = _
    rw [b10]
  · have e : (zup f 23 10 x, t) = (zrow (zup f 23 10 x) 1465 (f 1465), t) := by
      rw [show f 1465 = zup f 23 10 x 1465 from (zup_row (by decide)).symm, zrow_id]
    rw [e, ze_M_seed, zb_M_seed_0]
    simp (disch := omega) only [Int.reduceAdd, zrow_r, zrow_in, zrow_up, zrow_ne, zupE]
    rw [zG2 (by decide) (by decide), zb_M_seed_7, zG2 (by decide) (by decide)]
    simp (disch := omega) only [Int.reduceAdd, zrow_r, zrow_in, zrow_up, zrow_ne, zupE]
    rw [zb_M_seed_13]
  · have eg : ∀ j, j ≠ 9 → zup1 (f 1465) 9 x j = f 1465 j := fun j hj => zup1_ne hj
    refine ZR_w hR (Int.le_refl N) (fun o k a => ?_) (fun o k a => ?_) (fun j hj => ?_) (zB3_fr (fun k k0 k1 => by rw [zrow_ne (by decide), zup_nk (by omega), zup_na (by decide)])) ?_
    · rw [zrow_ne (by omega), zup_na (by omega), zup_na (by omega)]
    · rw [zrow_ne (by omega), zup_nka (by omega), zup_na (by omega)]
    · rw [zrow_r]
      exact eg j (by omega)
    · rw [zrow_r]
      obtain ⟨⟨a4, a5, a6, a7, a8, a9, a10, aJ⟩, hL, hI, h0, h7⟩ := hR.2.1
      have r23 : ∀ k, zrow (zup (zup f 23 10 x) 1464 0 0) 1465 (zup1 (f 1465) 9 x) 23 k = zup f 23 10 x 23 k := fun k => by rw [zrow_ne (by decide), zup_na (by decide)]
      have ro : ∀ o k, 23 < o → o < 118 → zrow (zup (zup f 23 10 x) 1464 0 0) 1465 (zup1 (f 1465) 9 x) o k = f o k := fun o k o0 o1 => by rw [zrow_ne (by omega), zup_na (by omega), zup_na (by omega)]
      have r23n : ∀ k, k ≠ 10 → zrow (zup (zup f 23 10 x) 1464 0 0) 1465 (zup1 (f 1465) 9 x) 23 k = f 23 k := fun k hk => (r23 k).trans (zup_nk hk)
      refine ⟨⟨?_, ?_, ?_, ?_, ?_, ?_, ?_, ?_, ?_, ?_, ?_⟩, fun o o0 o1 => ?_, ⟨hI.1, hI.2.1, zGR_eq (fun j j0 j1 => eg j (by omega)) hI.2.2.1, fun o o0 o1 => ?_⟩, h0, h7⟩
      · rw [r23n 4 (by decide)]; exact a4
      · rw [r23n 5 (by decide)]; exact a5
      · rw [r23n 6 (by decide)]; exact a6
      · rw [r23n 7 (by decide)]; exact a7
      · rw [r23n 8 (by decide)]; exact a8
      · rw [r23n 9 (by decide)]; exact a9
      · rw [r23 10, zupE rfl rfl]; exact (zup1_eq rfl).symm
      · show _ = zup1 (f 1465) 9 x 8
        rw [ro (23 + 20) 2 (by decide) (by decide)]; exact aJ.1
      · rw [ro (23 + 20) 1 (by decide) (by decide)]; exact aJ.2.1
      · rw [ro (23 + 20) 1 (by decide) (by decide)]; exact aJ.2.2.1
      · intro ago c g0 g1 c0 c1
        rw [ro (23 + 20) 1 (by decide) (by decide), ro (23 + 21) _ (by decide) (by decide), eg _ (by omega)]
        exact aJ.2.2.2 ago c g0 g1 c0 c1
      · have le : zLE (f 1465) (zup1 (f 1465) 9 x) (10 + 265 * o) := fun j j0 j1 => eg j (by omega)
        have o1 : o < f 1465 3 := o1
        have hr := (hI.2.2.2 o o0 o1).1.1
        rw [eg _ (by omega)]
        have h4 := hI.2.1
        exact zLC_eq le hr (by have := hr.2.2.1; omega) (zLC_fr (fun o2 k2 a b => ro o2 k2 (by omega) (by omega)) (hL o o0 o1))
      · have le : zLE (f 1465) (zup1 (f 1465) 9 x) (10 + 265 * o) := fun j j0 j1 => eg j (by omega)
        have o1 : o < f 1465 3 := o1
        refine ⟨zLI_eq le (hI.2.2.2 o o0 o1).1, ?_⟩
        rw [eg _ (by omega), eg _ (by omega)]
        exact (hI.2.2.2 o o0 o1).2
theorem o_end {q : Int × (Int → Int)} {N : Int} {f : Int → Int → Int} {t : (Int → Int) × Nat × Nat × Nat × (Int → Int → Bool)} {x : Int} (hR : ZR N f f) : zOu q N f t 19 [(19, 0, 0), (0, x, 0)] 21 [(20, 1464, 0), (0, x, 0)] := by
  obtain ⟨t1, t2, t3, t4⟩ := hR.2.2.2.1
  by_cases c : 0 ≤ x ∧ x ≤ f 1464 8
  · refine ⟨1, zup f 0 12 x, t, zup (zup (zup f 0 12 x) 1464 0 0) 1464 8 x, ?_, ?_, ?_, zTt_refl⟩
    · rw [ze_X_end, zb_X_end_0, if_neg (by omega), zb_X_end_2]
      show (if x ≤ f 0 12 then _ else _) = _
      rw [t1, if_pos c.2, zb_X_end_8, zG2 (by decide) (by decide)]
    · rw [ze_M_end, zb_M_end_0]
      show zK _ _ _ _ _ _ (zM (true, q) 1898 20 [(0, x, 0), (0, 0, 0), (0, zup (zup f 0 12 x) 1464 0 0 1464 8, 0)] (zup (zup f 0 12 x) 1464 0 0, t)) = _
      rw [zup_nk (by decide), zup_na (by decide), r_isInT c.1 c.2, zK_i, zb_M_end_8, if_pos (by decide), zb_M_end_11, zG2 (by decide) (by decide)]
    · refine ZR_t hR (fun o k a => ?_) (fun o k a => ?_) ⟨?_, ?_, ?_, fun k k0 k1 => ?_⟩
      · rw [zup_na (by omega), zup_na (by omega), zup_nka (by omega)]
      · rw [zup_nka (by omega), zup_nka (by omega), zup_na (by omega)]
      · rw [zup_na (by decide), zup_na (by decide), zupE rfl rfl, zupE rfl rfl]
      · rw [zupE rfl rfl]; exact c.1
      · rw [zupE rfl rfl]; omega
      · rw [zupE rfl rfl] at k1
        rw [zup_na (by decide), zup_na (by decide), zup_na (by decide), zup_na (by decide), zup_na (by decide), zup_na (by decide)]
        exact t4 k k0 (by omega)
  · refine zOu_1 (v := 0) hR ?_ ?_
    · rw [ze_X_end, zb_X_end_0]
      by_cases c1 : x < 0
      · rw [if_pos c1, zb_X_end_6, zG2 (by decide) (by decide)]
      · rw [if_neg c1, zb_X_end_2]
        show (if x ≤ f 0 12 then _ else _) = _
        rw [t1, if_neg (by omega), zb_X_end_6, zG2 (by decide) (by decide)]
    · rw [ze_M_end, zb_M_end_0]
      simp (disch := omega) only [zrow_up, zrow_ne, zup_nk]
      rw [r_isInF (by omega), zK_i, zb_M_end_8, if_neg (by decide), zb_M_end_9, zG2 (by decide) (by decide)]

