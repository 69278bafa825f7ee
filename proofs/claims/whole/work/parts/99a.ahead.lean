/-! ## ticks ahead, trials, spans, clear -/
theorem zOw_try {q : Int × (Int → Int)} {N : Int} {f : Int → Int → Int} {t : (Int → Int) × Nat × Nat × Nat × (Int → Int → Bool)} {fT : Int → Int → Int} {k m : Nat} {ka ma : List zV} {v : Int} (hR : ZR N f f) (hk : zM (true, q) 1899 k ka (f, t) = some ((0, 0, 0), (zup fT 1478 0 v, t))) (hT : zTry f fT) (hm : ∀ h : Int → Int → Int, ∃ h1 h2, zM (true, q) 1899 m ma (zrow h 1465 (f 1465), t) = some ((0, v, 0), (zrow h2 1465 (f 1465), t)) ∧ (∀ o k, o ≠ 1465 → o ≠ 1467 → h1 o k = zup h 1464 0 0 o k) ∧ zFr h1 h2) : zOw q N f t k ka m ma := by
  have e : (zup fT 1478 0 v, t) = (zrow (zup fT 1478 0 v) 1465 (f 1465), t) := by
    rw [show f 1465 = zup fT 1478 0 v 1465 from funext fun k => ((zup_na (by decide)).trans (hT _ _ (by decide) (by decide))).symm, zrow_id]
  obtain ⟨h1, h2, r2, fr1, fr2⟩ := hm (zup fT 1478 0 v)
  obtain ⟨a1, a2, a3⟩ := zFr_h (g := f 1465) fr1 fr2
  have e2 : zrow (zup fT 1478 0 v) 1465 (f 1465) = zup fT 1478 0 v := (congrArg Prod.fst e).symm
  rw [e2] at a1 a2
  rw [← e] at r2
  exact zOw_pure hR hk (fun o k a => (zup_na (by omega)).trans (hT o k (by omega) (by omega))) (fun o k o1 o2 => (zup_na o2).trans (hT o k (by omega) (by omega))) zTt_refl r2 a2 a1 a3 (fun _ => zupE rfl rfl)
theorem zOu_try {q : Int × (Int → Int)} {N : Int} {f : Int → Int → Int} {t : (Int → Int) × Nat × Nat × Nat × (Int → Int → Bool)} {fT : Int → Int → Int} {k m : Nat} {ka ma : List zV} {v : Int} (hR : ZR N f f) (hk : zM (true, q) 1899 k ka (f, t) = some ((0, v, 0), (fT, t))) (hT : zTry f fT) (hm : ∀ h : Int → Int → Int, ∃ h1 h2, zM (true, q) 1899 m ma (zrow h 1465 (f 1465), t) = some ((0, v, 0), (zrow h2 1465 (f 1465), t)) ∧ (∀ o k, o ≠ 1465 → o ≠ 1467 → h1 o k = zup h 1464 0 0 o k) ∧ zFr h1 h2) : zOu q N f t k ka m ma := by
  have e : (fT, t) = (zrow fT 1465 (f 1465), t) := by
    rw [show f 1465 = fT 1465 from funext fun k => (hT _ _ (by decide) (by decide)).symm, zrow_id]
  obtain ⟨h1, h2, r2, fr1, fr2⟩ := hm fT
  obtain ⟨a1, a2, a3⟩ := zFr_h (g := f 1465) fr1 fr2
  have e2 : zrow fT 1465 (f 1465) = fT := (congrArg Prod.fst e).symm
  rw [e2] at a1 a2
  rw [← e] at r2
  exact zOu_pure hR hk (zTry_ck hT) (fun o k o1 o2 => hT o k (by omega) (by omega)) zTt_refl r2 a2 a1
theorem c_needT {q : Int × (Int → Int)} {d : Nat} {σ : zS} {n : Int} (h : 0 ≤ n ∧ n ≤ 60) : zM (true, q) d 287 [(0, n, 0)] σ = some ((9, 0, 0), σ) := by
  rw [ze_X_needTicks, zb_X_needTicks_0, if_neg (by omega), zb_X_needTicks_2, if_pos h.2, zb_X_needTicks_10]
theorem c_needF {q : Int × (Int → Int)} {d : Nat} {σ : zS} {n : Int} (h : ¬(0 ≤ n ∧ n ≤ 60)) : zM (true, q) d 287 [(0, n, 0)] σ = some ((100, 0, 0), (σ.1, zThr σ.2)) := by
  rw [ze_X_needTicks, zb_X_needTicks_0]
  by_cases c : n < 0
  · rw [if_pos c, zb_X_needTicks_5]
    rfl
  · rw [if_neg c, zb_X_needTicks_2, if_neg (by omega), zb_X_needTicks_5]
    rfl
theorem o_trial {q : Int × (Int → Int)} {N : Int} {f : Int → Int → Int} {t : (Int → Int) × Nat × Nat × Nat × (Int → Int → Bool)} {n b : Int} (hR : ZR N f f) (hN : N ≤ 1000000) : zOw q N f t 292 [(19, 0, 0), (0, n, 0), (0, b, 0), (31, 1478, 1)] 293 [(20, 1464, 0), (0, n, 0), (0, b, 0)] := by
  have h4 := ZR_4 hR
  have N0 := hR.1
  have hI := hR.2.1.2.2.1
  obtain ⟨S, w, hS, hAC, hAs, hw, hB⟩ := zRL_ask (q := q) hR.2.2.1
  by_cases hn : 0 ≤ n ∧ n ≤ 60
  · obtain ⟨f1, r1, g1, l1, t1⟩ := zTry_copy (q := q) (d := 1894) (t := t) hR (zTry_refl (f := f))
    obtain ⟨f2, r2, g2, l2, t2⟩ := zTry_pass (q := q) (d := 1891) (t := t) (dr := 1) hS hAC t1 hn.1 hn.2 hI g1 l1 N0 (by omega)
    have hg := zWI_goes (dr := 1) hB n.toNat N (f 1465) hI N0 (by omega)
    generalize hK : kGoes (zLwA S) 1 n.toNat (f 1465) = K at *
    have K3 : K 3 = f 1465 3 := hg.2 3 (by omega)
    have hx : zM (true, q) 1898 291 [(19, 0, 0), (0, n, 0), (0, b, 0)] (f, t) = some ((0, if b = 0 then K 5 else gIn K 2 (K 3).toNat 0 0, 0), (f2, t)) := by
      rw [ze_X_trial, zb_X_trial_0, c_needT hn, zK_v, zb_X_trial_2]
      show zK _ _ _ _ _ _ (zM (true, q) 1897 43 [(18, 118, 0), (18, 23, 0)] (f, t)) = _
      rw [r1, zK_v, zb_X_trial_7]
      show zK _ _ _ _ _ _ (zM (true, q) 1897 135 [(18, 118, 0), (0, n, 0), (12, 2, 0), (0, 1, 0)] (f1, t)) = _
      rw [r2, zK_v, zb_X_trial_14]
      by_cases c : b = 0
      · rw [if_pos c, if_pos c, zb_X_trial_21]
        show some ((0, f2 118 7, 0), (f2, t)) = _
        rw [g2.2.2.2.1]
      · rw [if_neg c, if_neg c, zb_X_trial_16]
        show zK _ _ _ _ _ _ (zM (true, q) 1897 192 [(18, 118, 0), (0, 2, 0)] (f2, t)) = _
        rw [c_inState (σ := (f2, t)) g2.1 (by omega) (by omega) l2, zK_i, zb_X_trial_20]
    refine zOw_try hR (k_trial_v hx) t2 (fun h => ?_)
    obtain ⟨h1, x1, y1, z1⟩ := r_out (q := q) (d := 1898) (f := zup h 1464 0 0) (t := t) (g := f 1465)
    obtain ⟨h2, x2, y2, z2, w2, e2⟩ := r_tries (q := q) (d := 1833) (t := t) (dr := 1) hAs hB hw hI N0 (by omega) hn.1 hn.2 y1
    rw [hK] at x2 w2 e2
    have x3 := r_in (q := q) (d := 1898) (t := t) (K := K) y2 (fun j hj => e2 j (by omega))
    refine ⟨h1, h2, ?_, z1, z2⟩
    rw [ze_M_trial, zb_M_trial_0, r_isInT hn.1 hn.2, zK_i, zb_M_trial_5, if_pos (by decide), zb_M_trial_8]
    simp (disch := omega) only [Int.reduceAdd, zrow_r, zrow_in, zrow_up, zrow_ne, zupE]
    rw [if_pos (by decide), zb_M_trial_15, x1, zK_v, zb_M_trial_17, x2, zK_i, zb_M_trial_21]
    by_cases c : b = 0
    · rw [if_pos c, if_pos c, zb_M_trial_28]
      simp (disch := omega) only [Int.reduceAdd, zrow_r, zrow_in, zrow_up, zrow_ne, zupE]
      rw [zG2 (by decide) (by decide), zb_M_trial_32, x3, zK_v, zb_M_trial_35]
    · rw [if_neg c, if_neg c, zb_M_trial_24, r_inState (by omega) (by omega), zK_i, zb_M_trial_27, x3, zK_v, zb_M_trial_35]
  · have hx : zM (true, q) 1898 291 [(19, 0, 0), (0, n, 0), (0, b, 0)] (f, t) = some ((100, 0, 0), (f, zThr t)) := by
      rw [ze_X_trial, zb_X_trial_0, c_needF hn]
      rfl
    refine zOw_t (v := 0) rfl hR (by decide) (k_trial_100 hx) (fun h => ?_)
    rw [ze_M_trial, zb_M_trial_0, r_isInF (by omega), zK_i, zb_M_trial_5, if_neg (fun z => z rfl), zb_M_trial_6]
    try simp (disch := omega) only [Int.reduceAdd, zrow_r, zrow_in, zrow_up, zrow_ne, zupE]
    rw [if_neg (by decide)]
    try simp (disch := omega) only [Int.reduceAdd, zrow_r, zrow_in, zrow_up, zrow_ne, zupE]
    rw [zb_M_trial_13]
theorem o_ahead {q : Int × (Int → Int)} {N : Int} {f : Int → Int → Int} {t : (Int → Int) × Nat × Nat × Nat × (Int → Int → Bool)} {l n : Int} (hR : ZR N f f) (hN : N ≤ 1000000) : zOw q N f t 289 [(19, 0, 0), (0, l, 0), (0, n, 0), (31, 1478, 1)] 290 [(20, 1464, 0), (0, l, 0), (0, n, 0)] := by
  have h4 := ZR_4 hR
  have N0 := hR.1
  have hI := hR.2.1.2.2.1
  obtain ⟨S, w, hS, hAC, hAs, hw, hB⟩ := zRL_ask (q := q) hR.2.2.1
  by_cases hl : l = -1 ∨ (0 ≤ l ∧ l < f 1465 3)
  · have head : ∀ y, (∀ ls, True → zK (zD (true, q) 1898 zc_X_ahead) zEx zc_X_ahead (zat zc_X_ahead 9) [(19, 0, 0), (0, l, 0), (0, n, 0)] [] (zM (true, q) 1897 287 [(0, n, 0)] (f, t)) = ls → ls = y) → zM (true, q) 1898 288 [(19, 0, 0), (0, l, 0), (0, n, 0)] (f, t) = y := by
      intro y hy
      refine hy _ trivial ?_
      rw [ze_X_ahead, zb_X_ahead_0]
      by_cases c : l = -1
      · rw [if_pos c, zb_X_ahead_7]
      · rw [if_neg c, zb_X_ahead_3, zLT hR (by omega) (by omega), zK_13, zb_X_ahead_6]
    have rhead : ∀ (h : Int → Int → Int) (t : (Int → Int) × Nat × Nat × Nat × (Int → Int → Bool)), zM (true, q) 1899 290 [(20, 1464, 0), (0, l, 0), (0, n, 0)] (zrow h 1465 (f 1465), t) = zD (true, q) 1899 zc_M_ahead (zat zc_M_ahead 10) [(20, 1464, 0), (0, l, 0), (0, n, 0), (2, 0, 0), (2, 0, 0)] [(20, 1464, 0)] (zrow h 1465 (f 1465), t) := by
      intro h t
      rw [ze_M_ahead, zb_M_ahead_0]
      by_cases c : l = -1
      · rw [if_pos c]
      · rw [if_neg c, zb_M_ahead_4, r_isLineT (by omega) (by omega) h4.2.2, zK_i, zb_M_ahead_7, if_pos (by decide)]
    by_cases hn : 0 ≤ n ∧ n ≤ 60
    · obtain ⟨f1, r1, g1, l1, t1⟩ := zTry_copy (q := q) (d := 1894) (t := t) hR (zTry_refl (f := f))
      obtain ⟨f2, r2, g2, l2, t2⟩ := zTry_pass (q := q) (d := 1891) (t := t) (dr := 0) hS hAC t1 hn.1 hn.2 hI g1 l1 N0 (by omega)
      have hg := zWI_goes (dr := 0) hB n.toNat N (f 1465) hI N0 (by omega)
      generalize hK : kGoes (zLwA S) 0 n.toNat (f 1465) = K at *
      have K3 : K 3 = f 1465 3 := hg.2 3 (by omega)
      have hx : zM (true, q) 1898 288 [(19, 0, 0), (0, l, 0), (0, n, 0)] (f, t) = some ((0, if l = -1 then K 5 else K (10 + 265 * l + 7) + K (10 + 265 * l + 6), 0), (f2, t)) := by
        refine head _ (fun ls _ hls => hls.symm.trans ?_)
        rw [c_needT hn, zK_v, zb_X_ahead_9]
        show zK _ _ _ _ _ _ (zM (true, q) 1897 43 [(18, 118, 0), (18, 23, 0)] (f, t)) = _
        rw [r1, zK_v, zb_X_ahead_14]
        show zK _ _ _ _ _ _ (zM (true, q) 1897 135 [(18, 118, 0), (0, n, 0), (12, 2, 0), (0, 0, 0)] (f1, t)) = _
        rw [r2, zK_v, zb_X_ahead_21]
        by_cases c : l = -1
        · rw [if_neg (fun z => z c), if_pos c, zb_X_ahead_24]
          show some ((0, f2 118 7, 0), (f2, t)) = _
          rw [g2.2.2.2.1]
        · rw [if_pos c, if_neg c, zb_X_ahead_28]
          show zK _ _ _ _ _ _ (zM (true, q) 1897 37 [(18, 118, 0), (0, l, 0)] (f2, t)) = _
          have hLl := l2 l (by omega) (by omega)
          have hrl := (hg.1.2.2.2 l (by omega) (by omega)).1.1
          have e6 : f2 (118 + 23 + 18 * l + 1) 4 = K (10 + 265 * l + 6) := hLl.2.1
          have e7 : f2 (118 + 23 + 18 * l + 6) 4 = K (10 + 265 * l + 7) := hLl.2.2.1
          have h7 := hrl.2.2.2.2.2.2.2.1
          have h6 := hrl.2.2.2.2.2.2.1
          rw [c_lineAt (by omega) (by omega), zK_13, zb_X_ahead_32, c_row (σ := (f2, t)) (by show 0 ≤ f2 _ _; omega) (by show f2 _ _ ≤ _; omega) (by show 0 ≤ f2 _ _; omega) (by show f2 _ _ ≤ _; omega), zK_i, zb_X_ahead_33]
          show some ((0, f2 (118 + 23 + 18 * l + 6) 4 + f2 (118 + 23 + 18 * l + 1) 4, 0), (f2, t)) = _
          rw [e6, e7]
      refine zOw_try hR (k_ahead_v hx) t2 (fun h => ?_)
      obtain ⟨h1, x1, y1, z1⟩ := r_out (q := q) (d := 1898) (f := zup h 1464 0 0) (t := t) (g := f 1465)
      obtain ⟨h2, x2, y2, z2, w2, e2⟩ := r_tries (q := q) (d := 1833) (t := t) (dr := 0) hAs hB hw hI N0 (by omega) hn.1 hn.2 y1
      rw [hK] at x2 w2 e2
      have x3 := r_in (q := q) (d := 1898) (t := t) (K := K) y2 (fun j hj => e2 j (by omega))
      refine ⟨h1, h2, ?_, z1, z2⟩
      rw [rhead, zb_M_ahead_10, r_isInT hn.1 hn.2, zK_i, zb_M_ahead_14, if_pos (by decide), zb_M_ahead_17]
      simp (disch := omega) only [Int.reduceAdd, zrow_r, zrow_in, zrow_up, zrow_ne, zupE]
      rw [if_pos (by decide), zb_M_ahead_24, x1, zK_v, zb_M_ahead_26, x2, zK_i, zb_M_ahead_30]
      by_cases c : l = -1
      · rw [if_neg (fun z => z c), if_pos c, zb_M_ahead_34]
        simp (disch := omega) only [Int.reduceAdd, zrow_r, zrow_in, zrow_up, zrow_ne, zupE]
        rw [zG2 (by decide) (by decide), zb_M_ahead_38, x3, zK_v, zb_M_ahead_51]
      · have hrl := (hg.1.2.2.2 l (by omega) (by omega)).1.1
        have h7 := hrl.2.2.2.2.2.2.2.1
        have h6 := hrl.2.2.2.2.2.2.1
        rw [if_pos c, if_neg c, zb_M_ahead_39, r_of (by omega) (by omega) (by decide) (by decide), zK_i, zb_M_ahead_43, r_of (by omega) (by omega) (by decide) (by decide), zK_i, zb_M_ahead_47, x3, zK_v, zb_M_ahead_51, zw_id (by omega) (by omega)]
    · have hx : zM (true, q) 1898 288 [(19, 0, 0), (0, l, 0), (0, n, 0)] (f, t) = some ((100, 0, 0), (f, zThr t)) := by
        refine head _ (fun ls _ hls => hls.symm.trans ?_)
        rw [c_needF hn]
        rfl
      refine zOw_t (v := 0) rfl hR (by decide) (k_ahead_100 hx) (fun h => ?_)
      rw [rhead, zb_M_ahead_10, r_isInF (by omega), zK_i, zb_M_ahead_14, if_neg (fun z => z rfl), zb_M_ahead_15]
      simp (disch := omega) only [Int.reduceAdd, zrow_r, zrow_in, zrow_up, zrow_ne, zupE]
      rw [if_neg (by decide), zb_M_ahead_22]
  · have hx : zM (true, q) 1898 288 [(19, 0, 0), (0, l, 0), (0, n, 0)] (f, t) = some ((102, 0, 0), (f, zThr t)) := by
      rw [ze_X_ahead, zb_X_ahead_0, if_neg (by omega), zb_X_ahead_3, zLF_ hR (by omega)]
      rfl
    refine zOw_t (v := 0) rfl hR (by decide) (k_ahead_102 hx) (fun h => ?_)
    rw [ze_M_ahead, zb_M_ahead_0, if_neg (by omega), zb_M_ahead_4, r_isLineF (by omega) h4.2.1 h4.2.2, zK_i, zb_M_ahead_7, if_neg (fun z => z rfl), zb_M_ahead_8]
    try simp (disch := omega) only [Int.reduceAdd, zrow_r, zrow_in, zrow_up, zrow_ne, zupE]
    rw [if_neg (by decide)]
    try simp (disch := omega) only [Int.reduceAdd, zrow_r, zrow_in, zrow_up, zrow_ne, zupE]
    rw [zb_M_ahead_22]
