/-! ## spans, clear, the least window -/
def gUp (b x T : Int) : Int := if b = 0 then (if T < x then T else x) else (if x < T then T else x)
def gSp (T : Int → Int) (b : Int) : Nat → Int → Int → Int
  | 0, _, x => x
  | k + 1, s, x => gSp T b k (s + 1) (if s = 1 then T s else gUp b x (T s))
theorem o_span {q : Int × (Int → Int)} {N : Int} {f : Int → Int → Int} {t : (Int → Int) × Nat × Nat × Nat × (Int → Int → Bool)} {n b : Int} (hR : ZR N f f) (hN : N ≤ 1000000) : zOw q N f t 295 [(19, 0, 0), (0, n, 0), (0, b, 0), (31, 1478, 1)] 296 [(20, 1464, 0), (0, n, 0), (0, b, 0)] := by
  have h4 := ZR_4 hR
  have N0 := hR.1
  have hI := hR.2.1.2.2.1
  obtain ⟨S, w, hS, hAC, hAs, hw, hB⟩ := zRL_ask (q := q) hR.2.2.1
  by_cases hn : 0 ≤ n ∧ n ≤ 60
  · generalize hT : (fun s => kGoes (zLwA S) 1 n.toNat (zup1 (f 1465) 9 s) 5) = T
    have hTs : ∀ s, kGoes (zLwA S) 1 n.toNat (zup1 (f 1465) 9 s) 5 = T s := fun s => by rw [← hT]
    have hIs : ∀ s, zWI N (zup1 (f 1465) 9 s) := fun s => (zW_seed (x := s) hI hR.2.1.1 hR.2.1.2.1).2.2
    have T0 : ∀ s, 0 ≤ T s := fun s => by
      have hg := zWI_goes (dr := 1) hB n.toNat N _ (hIs s) N0 (by omega)
      rw [← hTs]
      exact hg.1.2.2.1.2.1.1
    have loop : ∀ (k : Nat) (s x : Int) (v5 : zV) (f1 : Int → Int → Int), 1 ≤ s → s + k = 7 → zTry f f1 → ∃ f2, zD (true, q) 1898 zc_X_span (zat zc_X_span 6) [(19, 0, 0), (0, n, 0), (0, b, 0), (0, x, 0), (0, s, 0), v5] [] (f1, t) = some ((0, gSp T b k s x, 0), (f2, t)) ∧ zTry f f2 := by
      intro k
      induction k with
      | zero =>
        intro s x v5 f1 s0 hk ht
        exact ⟨f1, by rw [zb_X_span_6, if_pos (by omega), zb_X_span_56]; rfl, ht⟩
      | succ k ih =>
        intro s x v5 f1 s0 hk ht
        obtain ⟨f2, r2, g2, l2, t2⟩ := zTry_copy (q := q) (d := 1894) (t := t) hR ht
        obtain ⟨g3, l3, i3⟩ := zW_seed (x := s) hI g2 l2
        have t3 : zTry f (zup f2 118 10 s) := zTry_trans t2 (fun o k a _ => zup_na (by omega))
        obtain ⟨f4, r4, g4, l4, t4⟩ := zTry_pass (q := q) (d := 1891) (t := t) (dr := 1) hS hAC t3 hn.1 hn.2 i3 g3 l3 N0 (by omega)
        have e4 : f4 118 7 = T s := g4.2.2.2.1.trans (hTs s)
        have run : zD (true, q) 1898 zc_X_span (zat zc_X_span 6) [(19, 0, 0), (0, n, 0), (0, b, 0), (0, x, 0), (0, s, 0), v5] [] (f1, t) = zD (true, q) 1898 zc_X_span (zat zc_X_span 25) [(19, 0, 0), (0, n, 0), (0, b, 0), (0, x, 0), (0, s, 0), v5] [] (f4, t) := by
          rw [zb_X_span_6, if_neg (by omega), zb_X_span_9]
          show zK _ _ _ _ _ _ (zM (true, q) 1897 43 [(18, 118, 0), (18, 23, 0)] (f1, t)) = _
          rw [r2, zK_v, zb_X_span_14]
          show zK _ _ _ _ _ _ (zM (true, q) 1897 135 [(18, 118, 0), (0, n, 0), (12, 2, 0), (0, 1, 0)] (zup f2 118 10 s, t)) = _
          rw [r4, zK_v]
        have yes : ∀ x5 : Int, ∃ f2, zD (true, q) 1898 zc_X_span (zat zc_X_span 50) [(19, 0, 0), (0, n, 0), (0, b, 0), (0, x, 0), (0, s, 0), (0, x5, 0)] [] (f4, t) = some ((0, gSp T b k (s + 1) (T s), 0), (f2, t)) ∧ zTry f f2 := by
          intro x5
          obtain ⟨f6, r6, t6⟩ := ih (s + 1) (T s) (0, x5, 0) f4 (by omega) (by omega) t4
          refine ⟨f6, ?_, t6⟩
          rw [zb_X_span_50, zw_id (by omega) (by omega)]
          show zD (true, q) 1898 zc_X_span (zat zc_X_span 6) [(19, 0, 0), (0, n, 0), (0, b, 0), (0, f4 118 7, 0), (0, s + 1, 0), (0, x5, 0)] [] (f4, t) = _
          rw [e4]
          exact r6
        have fin : ∀ x5 : Int, ∃ f2, (if s = 1 then zD (true, q) 1898 zc_X_span (zat zc_X_span 50) [(19, 0, 0), (0, n, 0), (0, b, 0), (0, x, 0), (0, s, 0), (0, x5, 0)] [] (f4, t) else zD (true, q) 1898 zc_X_span (zat zc_X_span 48) [(19, 0, 0), (0, n, 0), (0, b, 0), (0, x, 0), (0, s, 0), (0, x5, 0)] [] (f4, t)) = some ((0, gSp T b k (s + 1) (if s = 1 then T s else if x5 = 0 then x else T s), 0), (f2, t)) ∧ zTry f f2 := by
          intro x5
          by_cases c1 : s = 1
          · rw [if_pos c1, if_pos c1]
            exact yes x5
          · rw [if_neg c1, if_neg c1, zb_X_span_48]
            by_cases c5 : x5 = 0
            · rw [if_pos c5, if_pos c5, zb_X_span_54, zw_id (by omega) (by omega)]
              exact ih (s + 1) x (0, x5, 0) f4 (by omega) (by omega) t4
            · rw [if_neg c5, if_neg c5]
              exact yes x5
        have un : gSp T b (k + 1) s x = gSp T b k (s + 1) (if s = 1 then T s else gUp b x (T s)) := rfl
        rw [run, zb_X_span_25, un]
        unfold gUp
        by_cases cb : b = 0
        · rw [if_pos cb, zb_X_span_36]
          show ∃ f2, (if x ≤ f4 118 7 then _ else _) = _ ∧ _
          rw [e4, if_pos cb]
          by_cases c : T s < x
          · obtain ⟨f6, r6, t6⟩ := fin 1
            rw [if_neg (show ¬(1 : Int) = 0 by decide)] at r6
            rw [if_neg (by omega), zb_X_span_41, if_pos c]
            exact ⟨f6, r6, t6⟩
          · obtain ⟨f6, r6, t6⟩ := fin 0
            rw [if_pos (show (0 : Int) = 0 from rfl)] at r6
            rw [if_pos (by omega), zb_X_span_43, if_neg c]
            exact ⟨f6, r6, t6⟩
        · rw [if_neg cb, zb_X_span_27]
          show ∃ f2, (if f4 118 7 ≤ x then _ else _) = _ ∧ _
          rw [e4, if_neg cb]
          by_cases c : x < T s
          · obtain ⟨f6, r6, t6⟩ := fin 1
            rw [if_neg (show ¬(1 : Int) = 0 by decide)] at r6
            rw [if_neg (by omega), zb_X_span_32, if_pos c]
            exact ⟨f6, r6, t6⟩
          · obtain ⟨f6, r6, t6⟩ := fin 0
            rw [if_pos (show (0 : Int) = 0 from rfl)] at r6
            rw [if_pos (by omega), zb_X_span_34, if_neg c]
            exact ⟨f6, r6, t6⟩
    obtain ⟨fT, rT, tT⟩ := loop 6 1 0 (2, 0, 0) f (by decide) rfl zTry_refl
    have hx : zM (true, q) 1898 294 [(19, 0, 0), (0, n, 0), (0, b, 0)] (f, t) = some ((0, gSp T b 6 1 0, 0), (fT, t)) := by
      rw [ze_X_span, zb_X_span_0, c_needT hn, zK_v, zb_X_span_2]
      exact rT
    refine zOw_try hR (k_span_v hx) tT (fun h => ?_)
    obtain ⟨h1, x1, y1, z1⟩ := r_out (q := q) (d := 1898) (f := zup h 1464 0 0) (t := t) (g := f 1465)
    have rloop : ∀ (k : Nat) (s x : Int) (v5 v6 : zV) (h : Int → Int → Int), 1 ≤ s → s + k = 7 → (s = 1 → x = -1) → (s ≠ 1 → 0 ≤ x) → (∀ j, 0 ≤ j → j < 1310 → h 1467 j = f 1465 j) → ∃ h2, zD (true, q) 1899 zc_M_span (zat zc_M_span 21) [(20, 1464, 0), (0, n, 0), (0, b, 0), (0, x, 0), (0, s, 0), v5, v6] [] (zrow h 1465 (f 1465), t) = some ((0, gSp T b k s x, 0), (zrow h2 1465 (f 1465), t)) ∧ zFr h h2 := by
      intro k
      induction k with
      | zero =>
        intro s x v5 v6 h s0 hk hx1 hx2 hh
        exact ⟨h, by rw [zb_M_span_21, if_pos (by omega), zb_M_span_58]; rfl, zFr_refl⟩
      | succ k ih =>
        intro s x v5 v6 h s0 hk hx1 hx2 hh
        have hws : zLawW w (zup1 (f 1465) 9 s) := fun j hj => (zup1_ne (by omega)).trans (hw j hj)
        obtain ⟨h2, x2, y2, z2, w2, e2⟩ := r_tries (q := q) (d := 1833) (f := h) (t := t) (dr := 1) hAs hB hws (hIs s) N0 (by omega) hn.1 hn.2 hh
        have x3 := r_in (q := q) (d := 1898) (t := t) y2 (K := kGoes (zLwA S) 1 n.toNat (zup1 (f 1465) 9 s)) (fun j hj => (e2 j (by omega)).trans (zup1_ne (by omega)))
        have un : gSp T b (k + 1) s x = gSp T b k (s + 1) (if s = 1 then T s else gUp b x (T s)) := rfl
        have run : ∃ w5 w6, zD (true, q) 1899 zc_M_span (zat zc_M_span 21) [(20, 1464, 0), (0, n, 0), (0, b, 0), (0, x, 0), (0, s, 0), v5, v6] [] (zrow h 1465 (f 1465), t) = zD (true, q) 1899 zc_M_span (zat zc_M_span 21) [(20, 1464, 0), (0, n, 0), (0, b, 0), (0, if s = 1 then T s else gUp b x (T s), 0), (0, s + 1, 0), w5, w6] [] (zrow h2 1465 (f 1465), t) := by
          refine ⟨(0, T s - zup1 (f 1465) 9 s 5, 0), (0, T s, 0), ?_⟩
          rw [zb_M_span_21, if_neg (by omega), zb_M_span_24]
          simp (disch := omega) only [Int.reduceAdd, zrow_r, zrow_in, zrow_up, zrow_ne, zupE]
          rw [zG2 (by decide) (by decide), zb_M_span_29, x2, zK_i, zb_M_span_33]
          simp (disch := omega) only [Int.reduceAdd, zrow_r, zrow_in, zrow_up, zrow_ne, zupE]
          rw [zG2 (by decide) (by decide), zb_M_span_38, x3, zK_v, hTs, zb_M_span_41]
          by_cases c1 : s = 1
          · rw [if_neg (by have := hx1 c1; omega), if_pos c1, zb_M_span_44, zw_id (by omega) (by omega)]
          · have hx0 := hx2 c1
            rw [if_pos (by omega), if_neg c1, zb_M_span_46]
            unfold gUp
            by_cases cb : b = 0
            · rw [if_pos cb, if_pos cb, zb_M_span_52, r_lesser, zK_i, zb_M_span_55, zw_id (by omega) (by omega)]
              by_cases c : T s < x
              · rw [if_pos (by omega), if_pos c]
              · rw [if_neg c]
                by_cases c2 : T s ≤ x
                · rw [if_pos c2, show T s = x by omega]
                · rw [if_neg c2]
            · rw [if_neg cb, if_neg cb, zb_M_span_48, r_greater, zK_i, zb_M_span_51, zw_id (by omega) (by omega)]
              by_cases c : x < T s
              · rw [if_pos (by omega), if_pos c]
              · rw [if_neg c]
                by_cases c2 : x ≤ T s
                · rw [if_pos c2, show T s = x by omega]
                · rw [if_neg c2]
        obtain ⟨w5, w6, run⟩ := run
        have hT0 := T0 s
        obtain ⟨h3, r3, f3⟩ := ih (s + 1) (if s = 1 then T s else gUp b x (T s)) w5 w6 h2 (by omega) (by omega) (fun z => by omega) (fun _ => by
          by_cases c1 : s = 1
          · rw [if_pos c1]; exact hT0
          · have hx0 := hx2 c1
            rw [if_neg c1]
            unfold gUp
            split
            · split <;> omega
            · split <;> omega) y2
        exact ⟨h3, by rw [run, un]; exact r3, zFr_trans z2 f3⟩
    obtain ⟨h2, r2, z2⟩ := rloop 6 1 (-1) (2, 0, 0) (2, 0, 0) h1 (by decide) rfl (fun _ => rfl) (fun z => absurd rfl z) y1
    have e0 : gSp T b 6 1 (-1) = gSp T b 6 1 0 := rfl
    rw [e0] at r2
    refine ⟨h1, h2, ?_, z1, z2⟩
    rw [ze_M_span, zb_M_span_0, r_isInT hn.1 hn.2, zK_i, zb_M_span_5, if_pos (by decide), zb_M_span_8]
    simp (disch := omega) only [Int.reduceAdd, zrow_r, zrow_in, zrow_up, zrow_ne, zupE]
    rw [if_pos (by decide), zb_M_span_15, x1, zK_v, zb_M_span_17]
    exact r2
  · have hx : zM (true, q) 1898 294 [(19, 0, 0), (0, n, 0), (0, b, 0)] (f, t) = some ((100, 0, 0), (f, zThr t)) := by
      rw [ze_X_span, zb_X_span_0, c_needF hn]
      rfl
    refine zOw_t (v := 0) rfl hR (by decide) (k_span_100 hx) (fun h => ?_)
    rw [ze_M_span, zb_M_span_0, r_isInF (by omega), zK_i, zb_M_span_5, if_neg (fun z => z rfl), zb_M_span_6]
    try simp (disch := omega) only [Int.reduceAdd, zrow_r, zrow_in, zrow_up, zrow_ne, zupE]
    rw [if_neg (by decide)]
    try simp (disch := omega) only [Int.reduceAdd, zrow_r, zrow_in, zrow_up, zrow_ne, zupE]
    rw [zb_M_span_13]
