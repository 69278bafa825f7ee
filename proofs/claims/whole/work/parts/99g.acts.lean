/-! ## acts -/
theorem zOw_mono {q : Int × (Int → Int)} {N M : Int} {f : Int → Int → Int} {t : (Int → Int) × Nat × Nat × Nat × (Int → Int → Bool)} {k m : Nat} {ka ma : List zV} (h : N ≤ M) (hO : zOw q N f t k ka m ma) : zOw q M f t k ka m ma := by
  obtain ⟨code, v, f1, t1, f2, a, b, c, d, e, g⟩ := hO
  exact ⟨code, v, f1, t1, f2, a, b, c, d, ZR_mono h e, g⟩
/-- of a line's change -/
theorem zW_line {N M : Int} {f f2 : Int → Int → Int} {W l : Int} {g g2 : Int → Int} (hNM : N ≤ M) (hl : 0 ≤ l) (hlm : l < g 3) (hI : zWI N g) (fr : zFb (W + 23 + 18 * l) f f2) (eg : ∀ j, (j < 10 + 265 * l ∨ 10 + 265 * l + 265 ≤ j) → g2 j = g j) (hC : zLC (g2 (10 + 265 * l + 2)) f2 (W + 23 + 18 * l) g2 (10 + 265 * l)) (hI2 : zIL M g2 (10 + 265 * l)) (hp : g2 (10 + 265 * l + 15) ≤ g2 (10 + 265 * l + 14)) (hG : zGC f W g) (hL : zWL f W g) : zGC f2 W g2 ∧ zWL f2 W g2 ∧ zWI M g2 := by
  have h4 := hI.2.1
  have h8 := hI.2.2.1.2.2.2
  have ex : ∀ o, 0 ≤ o → o ≠ l → zLE g g2 (10 + 265 * o) := fun o o0 ol j j0 j1 => eg j (by omega)
  refine ⟨zGC_g (fun j hj => eg j (by omega)) h8.2 (zGC_b (b := W + 23 + 18 * l) (by omega) fr h8.2 hG), fun o o0 o1 => ?_, ?_, ?_, zGR_mono hNM (zGR_eq (fun j j0 j1 => eg j (by omega)) hI.2.2.1), fun o o0 o1 => ?_⟩
  · rw [eg 3 (by omega)] at o1
    by_cases c2 : o = l
    · subst c2
      exact hC
    · have hro := (hI.2.2.2 o o0 o1).1.1
      rw [eg (10 + 265 * o + 2) (by omega)]
      exact zLC_eq (ex o o0 c2) hro (by have := hro.2.2.1; omega) (zLC_fb fr (by omega) (hL o o0 o1))
  · rw [eg 3 (by omega)]; exact hI.1
  · rw [eg 3 (by omega)]; exact h4
  · rw [eg 3 (by omega)] at o1
    by_cases c2 : o = l
    · subst c2
      exact ⟨hI2, hp⟩
    · rw [eg (10 + 265 * o + 15) (by omega), eg (10 + 265 * o + 14) (by omega)]
      exact ⟨zLI_mono hNM (zLI_eq (ex o o0 c2) (hI.2.2.2 o o0 o1).1), (hI.2.2.2 o o0 o1).2⟩
/-- what is known after both have remembered -/
theorem zCm_w {N : Int} {f f1 : Int → Int → Int} (hR : ZR N f f) (hc : zCm f f1 (f 1465)) : zGC f1 23 (f 1465) ∧ zWL f1 23 (f 1465) ∧ (∀ o k, 0 < o → o < 324 → f1 o k = f o k) ∧ ∀ o k, 1464 ≤ o → f1 o k = f o k := by
  have hL : (f 0 15 + 1) % 12 < 12 := by omega
  have hL0 : 0 ≤ (f 0 15 + 1) % 12 := by omega
  have e := hc.2.2.2.2
  have w := hR.2.1
  exact ⟨zGC_c (fun o k o0 o1 o2 => e o k (by omega) (by omega)) w.1, zWL_c w.2.2.1.2.1 (fun o k o0 o1 => e o k (by omega) (by omega)) w.2.1, fun o k o0 o1 => e o k (by omega) (by omega), fun o k o0 => e o k (by omega) (by omega)⟩
/-! ### ticks -/
theorem o_ticks {q : Int × (Int → Int)} {N : Int} {f : Int → Int → Int} {t : (Int → Int) × Nat × Nat × Nat × (Int → Int → Bool)} {n : Int} (hR : ZR N f f) (hN : N ≤ 1000000) : zOw q (N + 240) f t 185 [(19, 0, 0), (0, n, 0), (31, 1478, 1)] 187 [(20, 1464, 0), (0, n, 0)] := by
  have N0 := hR.1
  have hI := hR.2.1.2.2.1
  by_cases hn : 1 ≤ n ∧ n ≤ 60
  · obtain ⟨S, w, hS, hAC, hAs, hw, hB⟩ := zRL_ask (q := q) hR.2.2.1
    obtain ⟨f1, x1, c1⟩ := c_rem (q := q) (d := 1893) (t := t) hR
    obtain ⟨G1, L1, fr1, _⟩ := zCm_w hR c1
    obtain ⟨f2, x2, G2, L2, fr2⟩ := c_pass (q := q) (d := 1891) (σ := (f1, t)) (W := 23) (a := 2) (m := n) (dr := 1) hS hAC (fun o k o0 o1 => fr1 o k (by omega) (by omega)) (by decide) (by omega) hn.2 hI G1 L1 N0 (by omega)
    have hg := zWI_goes (dr := 1) hB n.toNat N (f 1465) hI N0 (by omega)
    generalize hK : kGoes (zLwA S) 1 n.toNat (f 1465) = K at G2 L2 hg
    have K5 := hg.1.2.2.1.2.1
    have g5 := hI.2.2.1.2.1
    have e7 : f1 23 7 = f 1465 5 := G1.2.2.2.1
    have e72 : f2 23 7 = K 5 := G2.2.2.2.1
    have w4 := hR.2.1.2.2.2
    have hx : zM (true, q) 1898 184 [(19, 0, 0), (0, n, 0)] (f, t) = some ((0, K 5 - f 1465 5, 0), (f2, t)) := by
      rw [ze_X_ticks, zb_X_ticks_0, if_neg (by omega), zb_X_ticks_3, if_pos (by omega), zb_X_ticks_11, x1, zK_v, zb_X_ticks_13]
      show zK _ _ _ _ _ _ (zM (true, q) 1897 135 [(18, 23, 0), (0, n, 0), (12, 2, 0), (0, 1, 0)] (f1, t)) = _
      rw [x2, zK_v, zb_X_ticks_24]
      show some ((0, zw (f2 23 7 - f1 23 7), 0), (f2, t)) = _
      rw [e72, e7, zw_id (by omega) (by omega)]
    refine zOw_act (g2 := K) hR (by omega) (k_ticks_v hx) c1 (fun o k ho => fr2 o k (by omega) (by omega)) ⟨G2, L2, zWI_mono (by omega) hg.1, ?_, ?_⟩ (fun j hj => hg.2 j (by omega)) (fun h a0 a1 => ?_)
    · rw [hg.2 0 (by omega)]; exact w4.1
    · rw [hg.2 7 (by omega)]
      exact ⟨w4.2.1, by omega⟩
    · obtain ⟨h1, r1, z1⟩ := r_remR (q := q) (d := 1898) (t := t) (h := zup h 1464 0 0) (g := f 1465) (by rw [zup_nk (by decide)]; exact a0) (by rw [zup_nk (by decide)]; exact a1)
      obtain ⟨h2, r2, y2, fr, _⟩ := r_tries (q := q) (d := 1833) (f := h1) (t := t) (g0 := h1 1467) (dr := 1) hAs hB hw hI N0 (by omega) (show 0 ≤ n by omega) hn.2 (fun _ _ _ => rfl)
      rw [hK] at r2
      refine ⟨h1, h2, z1, ?_, fr⟩
      rw [ze_M_ticks, zb_M_ticks_0, r_isInT hn.1 hn.2, zK_i, zb_M_ticks_5, if_pos (by decide), zb_M_ticks_8]
      simp (disch := omega) only [Int.reduceAdd, zrow_r, zrow_in, zrow_up, zrow_ne, zupE]
      rw [if_pos (by decide), zb_M_ticks_15, r1, zK_v, zb_M_ticks_17, r2, zK_i, zb_M_ticks_21]
  · have hx : zM (true, q) 1898 184 [(19, 0, 0), (0, n, 0)] (f, t) = some ((100, 0, 0), (f, zThr t)) := by
      rw [ze_X_ticks, zb_X_ticks_0]
      by_cases c : n < 1
      · rw [if_pos c, zb_X_ticks_6]
        rfl
      · rw [if_neg c, zb_X_ticks_3, if_neg (by omega), zb_X_ticks_6]
        rfl
    refine zOw_mono (N := N) (by omega) (zOw_t (v := 0) rfl hR (by decide) (k_ticks_100 hx) (fun h => ?_))
    rw [ze_M_ticks, zb_M_ticks_0, r_isInF (by omega), zK_i, zb_M_ticks_5, if_neg (fun z => z rfl), zb_M_ticks_6]
    try simp (disch := omega) only [Int.reduceAdd, zrow_r, zrow_in, zrow_up, zrow_ne, zupE]
    rw [if_neg (by decide)]
    try simp (disch := omega) only [Int.reduceAdd, zrow_r, zrow_in, zrow_up, zrow_ne, zupE]
    rw [zb_M_ticks_13]
/-! ### tell -/
theorem gQa_app {g : Int → Int} {B s len : Int} (q0 : 0 ≤ g (B + 6)) : gQa g B s len = rApp g B (fun j => if j = 0 then s else len) 1 := by
  funext i
  unfold gQa rApp
  by_cases c : i = B + 6
  · rw [c, zup1_eq rfl, if_neg (by omega), if_pos rfl]
  · rw [zup1_ne c]
    by_cases c1 : i = B + (73 + 2 * g (B + 6) + 1)
    · rw [c1, zup1_eq rfl, if_pos (by omega)]
      exact (if_neg (by omega)).symm
    · rw [zup1_ne c1]
      by_cases c2 : i = B + (73 + 2 * g (B + 6))
      · rw [c2, zup1_eq rfl, if_pos (by omega)]
        exact (if_pos (by omega)).symm
      · rw [zup1_ne c2, if_neg (by omega), if_neg c]
theorem zGC_told {f : Int → Int → Int} {W v : Int} {g : Int → Int} (h : zGC f W g) : zGC (zup f W 9 v) W (zup1 g 7 v) := by
  obtain ⟨a1, a2, a3, a4, a5, a6, a7, j1, j2, j3, j4⟩ := h
  refine ⟨?_, ?_, ?_, ?_, ?_, zupE rfl rfl, ?_, ?_, ?_, ?_, fun ago c b0 b1 c0 c1 => ?_⟩
  · rw [zup_nk (by decide), zup1_ne (by decide)]; exact a1
  · rw [zup_nk (by decide), zup1_ne (by decide)]; exact a2
  · rw [zup_nk (by decide), zup1_ne (by decide)]; exact a3
  · rw [zup_nk (by decide), zup1_ne (by decide)]; exact a4
  · rw [zup_nk (by decide), zup1_ne (by decide)]; exact a5
  · rw [zup_nk (by decide), zup1_ne (by decide)]; exact a7
  · rw [zup_na (by omega), zup1_ne (by decide)]; exact j1
  · rw [zup_na (by omega)]; exact j2
  · rw [zup_na (by omega)]; exact j3
  · rw [zup1_ne (by decide)] at b1
    rw [zup_na (by omega), zup_na (by omega), zup1_ne (by omega)]
    exact j4 ago c b0 b1 c0 c1
theorem o_tell {q : Int × (Int → Int)} {N : Int} {f : Int → Int → Int} {t : (Int → Int) × Nat × Nat × Nat × (Int → Int → Bool)} {l n : Int} (hR : ZR N f f) (hN : N ≤ 1000000) : zOw q (N + 240) f t 189 [(19, 0, 0), (0, l, 0), (0, n, 0), (31, 1478, 1)] 190 [(20, 1464, 0), (0, l, 0), (0, n, 0)] := by
  have N0 := hR.1
  have h4 := ZR_4 hR
  have hI := hR.2.1.2.2.1
  have w7 := hR.2.1.2.2.2.2
  by_cases hl : 0 ≤ l ∧ l < f 1465 3
  · obtain ⟨hC, hIL⟩ := ZR_line hR hl.1 hl.2
    have hla := zLT (q := q) (d := 1896) (t := t) hR hl.1 hl.2
    have hr := hIL.1
    have h6 := hr.2.2.2.2.2.2.1
    have h7 := hr.2.2.2.2.2.2.2.1
    have h2 := hr.2.2.1
    have e6 : f (46 + 18 * l + 1) 4 = f 1465 (10 + 265 * l + 6) := hC.2.1
    by_cases hn : 1 ≤ n ∧ n ≤ 9
    · by_cases hq : f 1465 (10 + 265 * l + 6) < 24
      · obtain ⟨f1, x1, c1⟩ := c_rem (q := q) (d := 1893) (t := t) hR
        obtain ⟨G1, L1, fr1, _⟩ := zCm_w hR c1
        have C1 := L1 l hl.1 hl.2
        rw [show (23 : Int) + 23 + 18 * l = 46 + 18 * l by omega] at C1
        obtain ⟨f2, x2, C2, fb2⟩ := c_addQ (q := q) (d := 1895) (σ := (f1, t)) (s := f 1465 7) (len := n) (num := -1) h2.2 h7 h2.2 h6.1 (by omega) C1
        generalize hg2 : gQa (f 1465) (10 + 265 * l) (f 1465 7) n = g2 at C2
        have eg : ∀ j, (j < 10 + 265 * l ∨ 10 + 265 * l + 265 ≤ j) → g2 j = f 1465 j := fun j hj => by
          rw [← hg2]
          unfold gQa
          rw [zup1_ne (by omega), zup1_ne (by omega), zup1_ne (by omega)]
        have eg2 : ∀ j, 0 ≤ j → j < 73 → j ≠ 6 → g2 (10 + 265 * l + j) = f 1465 (10 + 265 * l + j) := fun j j0 j1 j2 => by
          rw [← hg2]
          unfold gQa
          rw [zup1_ne (by omega), zup1_ne (by omega), zup1_ne (by omega)]
        have I2 : zIL (N + 240) g2 (10 + 265 * l) := by
          rw [← hg2, gQa_app h6.1]
          exact zLI_mono (by omega) (zLI_app hIL (by decide) (by omega) (fun i i0 i1 => by
            show 1 ≤ (if 2 * i + 1 = 0 then f 1465 7 else n) ∧ (if 2 * i + 1 = 0 then f 1465 7 else n) ≤ 9
            rw [if_neg (by omega)]
            exact hn))
        have hW := zW_line (N := N) (M := N + 240) (f := f1) (f2 := f2) (W := 23) (l := l) (g := f 1465) (g2 := g2) (by omega) hl.1 hl.2 hI (by rw [show (23 : Int) + 23 + 18 * l = 46 + 18 * l by omega]; exact fb2) eg (by rw [show (23 : Int) + 23 + 18 * l = 46 + 18 * l by omega, eg2 2 (by decide) (by decide) (by decide)]; exact C2) I2 (by rw [eg2 15 (by decide) (by decide) (by decide), eg2 14 (by decide) (by decide) (by decide)]; exact (hI.2.2.2 l hl.1 hl.2).2) G1 L1
        have b9 : f1 23 9 = f 1465 7 := G1.2.2.2.2.2.1
        have b92 : f2 23 9 = f 1465 7 := hW.1.2.2.2.2.2.1.trans (eg 7 (by omega))
        have hx : zM (true, q) 1898 188 [(19, 0, 0), (0, l, 0), (0, n, 0)] (f, t) = some ((0, f 1465 7, 0), (zup f2 23 9 (f 1465 7 + 1), t)) := by
          rw [ze_X_tell, zb_X_tell_0, hla, zK_13, zb_X_tell_3, if_neg (by omega), zb_X_tell_7, if_pos (by omega), zb_X_tell_15]
          show (if f (46 + 18 * l + 1) 4 < 24 then _ else _) = _
          rw [e6, if_pos hq, zb_X_tell_25, x1, zK_v, zb_X_tell_27]
          show zK _ _ _ _ _ _ (zM (true, q) 1897 51 [(18, 23, 0), (13, 46 + 18 * l, 0), (0, n, 0)] (f1, t)) = _
          rw [ze_Wor_tellUnit, zb_Wor_tellUnit_0]
          show zK _ _ _ _ _ _ (zK _ _ _ _ [(18, 23, 0), (13, 46 + 18 * l, 0), (0, n, 0), (0, f1 23 9, 0)] [] (zM (true, q) 1896 50 [(16, 46 + 18 * l + 1, 96), (0, f1 23 9, 0), (0, n, 0), (0, -1, 0)] (f1, t))) = _
          rw [b9, x2, zK_i, zb_Wor_tellUnit_9]
          show zK _ _ _ _ _ _ (some ((0, f 1465 7, 0), (zup f2 23 9 (zw (f2 23 9 + 1)), t))) = _
          rw [b92, zw_id (by omega) (by omega), zK_i, zb_X_tell_32]
        have Z : zWI (N + 240) (zup1 g2 7 (f 1465 7 + 1)) := by
          obtain ⟨a, b, c, d⟩ := hW.2.2
          refine ⟨by rw [zup1_ne (by decide)]; exact a, by rw [zup1_ne (by decide)]; exact b, ?_, fun o o0 o1 => ?_⟩
          · unfold zGR
            rw [zup1_ne (by decide), zup1_ne (by decide), zup1_ne (by decide), zup1_ne (by decide)]
            exact c
          · rw [zup1_ne (by decide)] at o1
            rw [zup1_ne (by omega), zup1_ne (by omega)]
            exact ⟨zLI_eq (fun j j0 j1 => zup1_ne (by omega)) (d o o0 o1).1, (d o o0 o1).2⟩
        have ZL : zWL (zup f2 23 9 (f 1465 7 + 1)) 23 (zup1 g2 7 (f 1465 7 + 1)) := fun o o0 o1 => by
          rw [zup1_ne (by decide)] at o1
          rw [zup1_ne (by omega)]
          have hro := (hW.2.2.2.2.2 o o0 o1).1.1
          exact zLC_eq (fun j j0 j1 => zup1_ne (by omega)) hro (by have := hro.2.2.1; omega) (zLC_fr (fun x k x0 x1 => zup_na (by omega)) (hW.2.1 o o0 o1))
        refine zOw_act (g2 := zup1 g2 7 (f 1465 7 + 1)) hR (by omega) (k_tell_v hx) c1 (fun o k ho => ?_) ⟨zGC_told hW.1, ZL, Z, ?_, ?_⟩ (fun j hj => ?_) (fun h a0 a1 => ?_)
        · exact (zup_na (by omega)).trans (fb2 o k (by omega))
        · rw [zup1_ne (by decide), eg 0 (by omega)]
          exact hR.2.1.2.2.2.1
        · rw [zup1_eq rfl]
          omega
        · rw [zup1_ne (by omega)]
          exact eg j (by omega)
        · obtain ⟨h1, r1, z1⟩ := r_remR (q := q) (d := 1898) (t := t) (h := zup (zup h 1464 0 0) 1464 0 0) (g := f 1465) (by rw [zup_nk (by decide), zup_nk (by decide)]; exact a0) (by rw [zup_nk (by decide), zup_nk (by decide)]; exact a1)
          have ez : zup (zup h 1464 0 0) 1464 0 0 = zup h 1464 0 0 := zup_zup
          rw [ez] at z1
          refine ⟨h1, h1, z1, ?_, zFr_refl⟩
          rw [ze_M_tell, zb_M_tell_0, r_isLineT hl.1 hl.2 h4.2.2, zK_i, zb_M_tell_4, if_pos (by decide), zb_M_tell_7, r_isInT hn.1 hn.2, zK_i, zb_M_tell_11, if_pos (by decide), zb_M_tell_14]
          simp (disch := omega) only [Int.reduceAdd, zrow_r, zrow_in, zrow_up, zrow_ne, zupE]
          rw [if_pos (by decide), zb_M_tell_21, r_of hl.1 (by omega) (by decide) (by decide), zK_i, zb_M_tell_26, if_pos hq, zb_M_tell_30]
          simp (disch := omega) only [Int.reduceAdd, zrow_r, zrow_in, zrow_up, zrow_ne, zupE]
          rw [if_pos (by decide), zb_M_tell_37, r1, zK_v, zb_M_tell_39]
          simp (disch := omega) only [Int.reduceAdd, zrow_r, zrow_in, zrow_up, zrow_ne, zupE]
          rw [zG2 (by decide) (by decide), zb_M_tell_45, r_queues hl.1 (by omega) h6.1 (by omega), zK_v]
          show zD (true, q) 1899 zc_M_tell (zat zc_M_tell 47) [(20, 1464, 0), (0, l, 0), (0, n, 0)] [] (zrow h1 1465 (gQa (f 1465) (10 + 265 * l) (f 1465 7) n), t) = _
          have eg7 : g2 7 = f 1465 7 := eg 7 (by omega)
          rw [hg2, zb_M_tell_47]
          simp (disch := omega) only [Int.reduceAdd, zrow_r, zrow_in, zrow_up, zrow_ne, zupE]
          rw [eg7, zG2 (by decide) (by decide), zb_M_tell_52, zG2 (by decide) (by decide)]
          simp (disch := omega) only [Int.reduceAdd, zrow_r, zrow_in, zrow_up, zrow_ne, zupE]
          rw [zb_M_tell_55]
          simp (disch := omega) only [Int.reduceAdd, zrow_r, zrow_in, zrow_up, zrow_ne, zupE]
          rw [zG2 (by decide) (by decide), zb_M_tell_59, zw_id (z := f 1465 7 + 1) (by omega) (by omega), zup1_eq rfl, zw_id (by omega) (by omega), show f 1465 7 + 1 - 1 = f 1465 7 by omega]
      · have hx : zM (true, q) 1898 188 [(19, 0, 0), (0, l, 0), (0, n, 0)] (f, t) = some ((104, 0, 0), (f, zThr t)) := by
          rw [ze_X_tell, zb_X_tell_0, hla, zK_13, zb_X_tell_3, if_neg (by omega), zb_X_tell_7, if_pos (by omega), zb_X_tell_15]
          show (if f (46 + 18 * l + 1) 4 < 24 then _ else _) = _
          rw [e6, if_neg hq, zb_X_tell_20]
          rfl
        refine zOw_mono (N := N) (by omega) (zOw_t (v := 0) rfl hR (by decide) (k_tell_104 hx) (fun h => ?_))
        rw [ze_M_tell, zb_M_tell_0, r_isLineT hl.1 hl.2 h4.2.2, zK_i, zb_M_tell_4, if_pos (by decide), zb_M_tell_7, r_isInT hn.1 hn.2, zK_i, zb_M_tell_11, if_pos (by decide), zb_M_tell_14]
        simp (disch := omega) only [Int.reduceAdd, zrow_r, zrow_in, zrow_up, zrow_ne, zupE]
        rw [if_pos (by decide), zb_M_tell_21, r_of hl.1 (by omega) (by decide) (by decide), zK_i, zb_M_tell_26, if_neg hq, zb_M_tell_28]
        simp (disch := omega) only [Int.reduceAdd, zrow_r, zrow_in, zrow_up, zrow_ne, zupE]
        rw [if_neg (by decide), zb_M_tell_35, zup_zup]
    · have hx : zM (true, q) 1898 188 [(19, 0, 0), (0, l, 0), (0, n, 0)] (f, t) = some ((100, 0, 0), (f, zThr t)) := by
        rw [ze_X_tell, zb_X_tell_0, hla, zK_13, zb_X_tell_3]
        by_cases c : n < 1
        · rw [if_pos c, zb_X_tell_10]
          rfl
        · rw [if_neg c, zb_X_tell_7, if_neg (by omega), zb_X_tell_10]
          rfl
      refine zOw_mono (N := N) (by omega) (zOw_t (v := 0) rfl hR (by decide) (k_tell_100 hx) (fun h => ?_))
      rw [ze_M_tell, zb_M_tell_0, r_isLineT hl.1 hl.2 h4.2.2, zK_i, zb_M_tell_4, if_pos (by decide), zb_M_tell_7, r_isInF (by omega), zK_i, zb_M_tell_11, if_neg (fun z => z rfl), zb_M_tell_12]
      simp (disch := omega) only [Int.reduceAdd, zrow_r, zrow_in, zrow_up, zrow_ne, zupE]
      rw [if_neg (by decide), zb_M_tell_19]
  · have hx : zM (true, q) 1898 188 [(19, 0, 0), (0, l, 0), (0, n, 0)] (f, t) = some ((102, 0, 0), (f, zThr t)) := by
      rw [ze_X_tell, zb_X_tell_0, zLF_ hR hl]
      rfl
    refine zOw_mono (N := N) (by omega) (zOw_t (v := 0) rfl hR (by decide) (k_tell_102 hx) (fun h => ?_))
    rw [ze_M_tell, zb_M_tell_0, r_isLineF (by omega) h4.2.1 h4.2.2, zK_i, zb_M_tell_4, if_neg (fun z => z rfl), zb_M_tell_5]
    simp (disch := omega) only [Int.reduceAdd, zrow_r, zrow_in, zrow_up, zrow_ne, zupE]
    rw [if_neg (by decide), zb_M_tell_19]

