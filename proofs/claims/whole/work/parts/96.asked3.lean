/-! ## loads, the most, twins -/
def gLoad (g : Int → Int) (B : Int) : Int := zsum (fun k => g (B + (17 + 4 * k + 1))) (g (B + 7)).toNat 0 + zsum (fun k => g (B + (73 + 2 * k + 1))) (g (B + 6)).toNat 0
theorem gLoad_rng {g : Int → Int} {B : Int} (hr : rLR g B) (hL : rLL g B) : 0 ≤ gLoad g B ∧ gLoad g B ≤ 936 := by
  have h7 := hr.2.2.2.2.2.2.2.1
  have h6 := hr.2.2.2.2.2.2.1
  have a := zsum_rng (g := fun k => g (B + (17 + 4 * k + 1))) (lo := 0) (hi := 9) (g (B + 7)).toNat 0 (fun k k0 k1 => by have := hL.1 k k0 (by omega); show 0 ≤ g _ ∧ g _ ≤ 9; omega)
  have b := zsum_rng (g := fun k => g (B + (73 + 2 * k + 1))) (lo := 0) (hi := 9) (g (B + 6)).toNat 0 (fun k k0 k1 => by have := hL.2 k k0 (by omega); show 0 ≤ g _ ∧ g _ ≤ 9; omega)
  unfold gLoad
  omega
theorem r_loadR {q : Int × (Int → Int)} {d : Nat} {f : Int → Int → Int} {t : (Int → Int) × Nat × Nat × Nat × (Int → Int → Bool)} {g : Int → Int} {l : Int} (hl : 0 ≤ l) (hl4 : l < 4) (hr : rLR g (10 + 265 * l)) (hL : rLL g (10 + 265 * l)) : zM (true, q) (d + 3) 144 [(20, 1464, 0), (0, l, 0)] (zrow f 1465 g, t) = some ((0, gLoad g (10 + 265 * l), 0), (zrow f 1465 g, t)) :=
  r_load hl hl4 hr.2.2.2.2.2.2.2.1.1 hr.2.2.2.2.2.2.2.1.2 (fun k k0 k1 => by have := hL.1 k k0 k1; omega) hr.2.2.2.2.2.2.1.1 hr.2.2.2.2.2.2.1.2 (fun k k0 k1 => by have := hL.2 k k0 k1; omega)
theorem c_loadR {q : Int × (Int → Int)} {d : Nat} {σ : zS} {n b : Int} {g : Int → Int} {B : Int} (hr : rLR g B) (hL : rLL g B) (h : zLC n σ.1 b g B) : zM (true, q) (d + 2) 102 [(13, b, 0)] σ = some ((0, gLoad g B, 0), σ) := by
  have h7 := hr.2.2.2.2.2.2.2.1
  have h6 := hr.2.2.2.2.2.2.1
  have e6 := h.2.1
  have e7 := h.2.2.1
  have a : ∀ k, 0 ≤ k → k < g (B + 7) → σ.1 (b + 8) k = g (B + (17 + 4 * k + 1)) := fun k k0 k1 => h.2.2.2.1 k 1 k0 k1 (by decide) (by decide)
  have c : ∀ k, 0 ≤ k → k < g (B + 6) → σ.1 (b + 3) k = g (B + (73 + 2 * k + 1)) := fun k k0 k1 => h.2.2.2.2.1 k 1 k0 k1 (by decide) (by decide)
  rw [c_load (by omega) (by omega) (fun k k0 k1 => by have := hL.1 k k0 (by omega); rw [a k k0 (by omega)]; omega) (by omega) (by omega) (fun k k0 k1 => by have := hL.2 k k0 (by omega); rw [c k k0 (by omega)]; omega), e6, e7, zsum_congr (g := fun k => σ.1 (b + 8) k) (h := fun k => g (B + (17 + 4 * k + 1))) _ 0 (fun k k0 k1 => a k k0 (by omega)), zsum_congr (g := fun k => σ.1 (b + 3) k) (h := fun k => g (B + (73 + 2 * k + 1))) _ 0 (fun k k0 k1 => c k k0 (by omega))]
  rfl
def gVal (g : Int → Int) (w i : Int) : Int := if w = 0 then gLoad g (10 + 265 * i) else if w = 1 then g (10 + 265 * i + 1) else g (10 + 265 * i + 12)
def gMo (φ : Int → Int) : Nat → Int → Int → Int
  | 0, _, x => x
  | k + 1, i, x => gMo φ k (i + 1) (if x = -1 ∨ φ x < φ i then i else x)
theorem r_valueOf {q : Int × (Int → Int)} {d : Nat} {f : Int → Int → Int} {t : (Int → Int) × Nat × Nat × Nat × (Int → Int → Bool)} {g : Int → Int} {w l : Int} (hl : 0 ≤ l) (hl4 : l < 4) (hr : rLR g (10 + 265 * l)) (hL : rLL g (10 + 265 * l)) : zM (true, q) (d + 4) 280 [(20, 1464, 0), (0, w, 0), (0, l, 0)] (zrow f 1465 g, t) = some ((0, gVal g w l, 0), (zrow f 1465 g, t)) := by
  unfold gVal
  rw [ze_M_valueOf, zb_M_valueOf_0]
  by_cases c : w = 0
  · rw [if_neg (fun z => z c), if_pos c, zb_M_valueOf_2, r_loadR hl hl4 hr hL, zK_i, zb_M_valueOf_5]
  · rw [if_pos c, if_neg c, zb_M_valueOf_6]
    by_cases c1 : w = 1
    · rw [if_neg (fun z => z c1), if_pos c1, zb_M_valueOf_9, r_of hl hl4 (by decide) (by decide), zK_i, zb_M_valueOf_13]
    · rw [if_pos c1, if_neg c1, zb_M_valueOf_14, r_of hl hl4 (by decide) (by decide), zK_i, zb_M_valueOf_18]
theorem o_most {q : Int × (Int → Int)} {N : Int} {f : Int → Int → Int} {t : (Int → Int) × Nat × Nat × Nat × (Int → Int → Bool)} {w : Int} (hR : ZR N f f) : zOw q N f t 279 [(19, 0, 0), (0, w, 0), (31, 1478, 1)] 281 [(20, 1464, 0), (0, w, 0)] := by
  have h4 := ZR_4 hR
  have hI : ∀ i, 0 ≤ i → i < f 1465 3 → rLR (f 1465) (10 + 265 * i) ∧ rLL (f 1465) (10 + 265 * i) := fun i i0 i1 => ⟨(ZR_line hR i0 i1).2.1, (ZR_line hR i0 i1).2.2.1⟩
  have hV : ∀ i, 0 ≤ i → i < f 1465 3 → 0 ≤ gVal (f 1465) w i := by
    intro i i0 i1
    have hh := hI i i0 i1
    have h1 := gLoad_rng hh.1 hh.2
    have h2 := hh.1.2.1
    have h3 := hh.1.2.2.2.2.2.2.2.2.2.2.2.2.1
    unfold gVal
    split
    · exact h1.1
    · split
      · exact h2.1
      · exact h3.1
  by_cases hs : 0 ≤ w ∧ w ≤ 2
  · have loop : ∀ (k : Nat) (i x : Int) (v5 v6 : zV), 0 ≤ i → i + k = f 1465 3 → (x = -1 ∨ (0 ≤ x ∧ x < i)) → zD (true, q) 1898 zc_X_most (zat zc_X_most 16) [(19, 0, 0), (0, w, 0), (0, x, 0), (0, if x = -1 then -1 else gVal (f 1465) w x, 0), (0, i, 0), v5, v6] [] (f, t) = some ((0, gMo (gVal (f 1465) w) k i x, 0), (f, t)) := by
      intro k
      induction k with
      | zero =>
        intro i x v5 v6 i0 hi hx
        rw [zb_X_most_16]
        show (if f 23 4 ≤ i then _ else _) = _
        rw [h4.1, if_pos (by omega), zb_X_most_49]
        rfl
      | succ k ih =>
        intro i x v5 v6 i0 hi hx
        obtain ⟨hC, hII⟩ := ZR_line hR i0 (by omega)
        have hv := hV i i0 (by omega)
        have key : (if gVal (f 1465) w i ≤ (if x = -1 then -1 else gVal (f 1465) w x) then zD (true, q) 1898 zc_X_most (zat zc_X_most 47) [(19, 0, 0), (0, w, 0), (0, x, 0), (0, if x = -1 then -1 else gVal (f 1465) w x, 0), (0, i, 0), (13, 46 + 18 * i, 0), (0, gVal (f 1465) w i, 0)] [] (f, t) else zD (true, q) 1898 zc_X_most (zat zc_X_most 43) [(19, 0, 0), (0, w, 0), (0, x, 0), (0, if x = -1 then -1 else gVal (f 1465) w x, 0), (0, i, 0), (13, 46 + 18 * i, 0), (0, gVal (f 1465) w i, 0)] [] (f, t)) = some ((0, gMo (gVal (f 1465) w) (k + 1) i x, 0), (f, t)) := by
          show _ = some ((0, gMo (gVal (f 1465) w) k (i + 1) (if x = -1 ∨ gVal (f 1465) w x < gVal (f 1465) w i then i else x), 0), (f, t))
          by_cases c : x = -1 ∨ gVal (f 1465) w x < gVal (f 1465) w i
          · have c2 : ¬(gVal (f 1465) w i ≤ (if x = -1 then -1 else gVal (f 1465) w x)) := by
              by_cases cx : x = -1
              · rw [if_pos cx]; omega
              · rw [if_neg cx]; omega
            have := ih (i + 1) i (13, 46 + 18 * i, 0) (0, gVal (f 1465) w i, 0) (by omega) (by omega) (Or.inr (by omega))
            rw [if_neg (show ¬(i = -1) by omega)] at this
            rw [if_neg c2, if_pos c, zb_X_most_43, zw_id (by omega) (by omega)]
            exact this
          · have cx : x ≠ -1 := fun z => c (Or.inl z)
            rw [if_pos (show gVal (f 1465) w i ≤ (if x = -1 then -1 else gVal (f 1465) w x) by rw [if_neg cx]; omega), if_neg c, zb_X_most_47, zw_id (by omega) (by omega)]
            exact ih (i + 1) x (13, 46 + 18 * i, 0) (0, gVal (f 1465) w i, 0) (by omega) (by omega) (by omega)
        rw [zb_X_most_16]
        show (if f 23 4 ≤ i then _ else zD (true, q) 1898 zc_X_most (zat zc_X_most 21) [(19, 0, 0), (0, w, 0), (0, x, 0), (0, if x = -1 then -1 else gVal (f 1465) w x, 0), (0, i, 0), v5, v6] [] (f, t)) = _
        rw [h4.1, if_neg (by omega), zb_X_most_21]
        show zK _ _ _ _ _ _ (zM (true, q) 1897 37 [(18, 23, 0), (0, i, 0)] (f, t)) = _
        rw [c_lineAt i0 (by omega), zK_13, show (23 : Int) + 23 + 18 * i = 46 + 18 * i by omega, zb_X_most_25]
        by_cases w0 : w = 0
        · have e : gVal (f 1465) w i = gLoad (f 1465) (10 + 265 * i) := if_pos w0
          rw [if_neg (fun z => z w0), zb_X_most_28, c_loadR (σ := (f, t)) hII.1 hII.2.1 hC, zK_i, zb_X_most_30, ← e]
          exact key
        · rw [if_pos w0, zb_X_most_31]
          by_cases w1 : w = 1
          · have e : gVal (f 1465) w i = f (46 + 18 * i) 5 := (if_neg w0).trans ((if_pos w1).trans (zc_f5 hC).symm)
            rw [if_neg (fun z => z w1), zb_X_most_34]
            show (if f (46 + 18 * i) 5 ≤ (if x = -1 then -1 else gVal (f 1465) w x) then zD (true, q) 1898 zc_X_most (zat zc_X_most 47) [(19, 0, 0), (0, w, 0), (0, x, 0), (0, if x = -1 then -1 else gVal (f 1465) w x, 0), (0, i, 0), (13, 46 + 18 * i, 0), (0, f (46 + 18 * i) 5, 0)] [] (f, t) else zD (true, q) 1898 zc_X_most (zat zc_X_most 43) [(19, 0, 0), (0, w, 0), (0, x, 0), (0, if x = -1 then -1 else gVal (f 1465) w x, 0), (0, i, 0), (13, 46 + 18 * i, 0), (0, f (46 + 18 * i) 5, 0)] [] (f, t)) = _
            rw [← e]
            exact key
          · have e : gVal (f 1465) w i = f (46 + 18 * i) 14 := (if_neg w0).trans ((if_neg w1).trans (zc_f14 hC).symm)
            rw [if_pos w1, zb_X_most_37]
            show (if f (46 + 18 * i) 14 ≤ (if x = -1 then -1 else gVal (f 1465) w x) then zD (true, q) 1898 zc_X_most (zat zc_X_most 47) [(19, 0, 0), (0, w, 0), (0, x, 0), (0, if x = -1 then -1 else gVal (f 1465) w x, 0), (0, i, 0), (13, 46 + 18 * i, 0), (0, f (46 + 18 * i) 14, 0)] [] (f, t) else zD (true, q) 1898 zc_X_most (zat zc_X_most 43) [(19, 0, 0), (0, w, 0), (0, x, 0), (0, if x = -1 then -1 else gVal (f 1465) w x, 0), (0, i, 0), (13, 46 + 18 * i, 0), (0, f (46 + 18 * i) 14, 0)] [] (f, t)) = _
            rw [← e]
            exact key
    have hx : zM (true, q) 1898 278 [(19, 0, 0), (0, w, 0)] (f, t) = some ((0, gMo (gVal (f 1465) w) (f 1465 3).toNat 0 (-1), 0), (f, t)) := by
      rw [ze_X_most, zb_X_most_0, if_neg (by omega), zb_X_most_2, if_pos hs.2, zb_X_most_10]
      exact loop (f 1465 3).toNat 0 (-1) _ _ (Int.le_refl 0) (by omega) (Or.inl rfl)
    refine zOw_v rfl hR (k_most_v hx) (fun h => ?_)
    have rloop : ∀ (k : Nat) (i x : Int) (h : Int → Int → Int), 0 ≤ i → i + k = f 1465 3 → (x = -1 ∨ (0 ≤ x ∧ x < i)) → zD (true, q) 1899 zc_M_most (zat zc_M_most 19) [(20, 1464, 0), (0, w, 0), (0, x, 0), (0, i, 0)] [] (zrow h 1465 (f 1465), t) = some ((0, gMo (gVal (f 1465) w) k i x, 0), (zrow h 1465 (f 1465), t)) := by
      intro k
      induction k with
      | zero =>
        intro i x h i0 hi hx
        rw [zb_M_most_19]
        simp (disch := omega) only [Int.reduceAdd, zrow_r]
        rw [zG2 (by decide) (by decide), zb_M_most_24, if_pos (by omega), zb_M_most_41]
        rfl
      | succ k ih =>
        intro i x h i0 hi hx
        have hIi := hI i i0 (by omega)
        rw [zb_M_most_19]
        simp (disch := omega) only [Int.reduceAdd, zrow_r]
        rw [zG2 (by decide) (by decide), zb_M_most_24, if_neg (by omega), zb_M_most_25]
        show _ = some ((0, gMo (gVal (f 1465) w) k (i + 1) (if x = -1 ∨ gVal (f 1465) w x < gVal (f 1465) w i then i else x), 0), _)
        by_cases cx : x = -1
        · rw [if_pos cx, if_pos (Or.inl cx), zb_M_most_37, zw_id (by omega) (by omega)]
          exact ih (i + 1) i h (by omega) (by omega) (Or.inr (by omega))
        · have hIx := hI x (by omega) (by omega)
          rw [if_neg cx, zb_M_most_28, r_valueOf (d := 1894) i0 (by omega) hIi.1 hIi.2, zK_i, zb_M_most_32, r_valueOf (d := 1894) (by omega) (by omega) hIx.1 hIx.2, zK_i, zb_M_most_36]
          by_cases c : gVal (f 1465) w x < gVal (f 1465) w i
          · rw [if_neg (by omega), if_pos (Or.inr c), zb_M_most_37, zw_id (by omega) (by omega)]
            exact ih (i + 1) i h (by omega) (by omega) (Or.inr (by omega))
          · rw [if_pos (by omega), if_neg (by omega), zb_M_most_39, zw_id (by omega) (by omega)]
            exact ih (i + 1) x h (by omega) (by omega) (by omega)
    rw [ze_M_most, zb_M_most_0, r_isInT hs.1 hs.2, zK_i, zb_M_most_5, if_pos (by decide), zb_M_most_8]
    simp (disch := omega) only [Int.reduceAdd, zrow_r, zrow_in, zrow_up, zrow_ne, zupE]
    rw [if_pos (by decide), zb_M_most_15]
    exact rloop (f 1465 3).toNat 0 (-1) _ (Int.le_refl 0) (by omega) (Or.inl rfl)
  · have hx : zM (true, q) 1898 278 [(19, 0, 0), (0, w, 0)] (f, t) = some ((103, 0, 0), (f, zThr t)) := by
      rw [ze_X_most, zb_X_most_0]
      by_cases c : w < 0
      · rw [if_pos c, zb_X_most_5]
        rfl
      · rw [if_neg c, zb_X_most_2, if_neg (by omega), zb_X_most_5]
        rfl
    refine zOw_t (v := 0) rfl hR (by decide) (k_most_103 hx) (fun h => ?_)
    rw [ze_M_most, zb_M_most_0, r_isInF (by omega), zK_i, zb_M_most_5, if_neg (by decide), zb_M_most_6]
    simp (disch := omega) only [Int.reduceAdd, zrow_r, zrow_in, zrow_up, zrow_ne, zupE]
    rw [if_neg (by decide), zb_M_most_13]
/-! ### twins -/
def gTw (g : Int → Int) (i j : Int) : Int := if g (10 + 265 * i + 1) = g (10 + 265 * j + 1) ∧ g (10 + 265 * i + 2) = g (10 + 265 * j + 2) then 1 else 0
theorem gTw_sym {g : Int → Int} {i j : Int} : gTw g i j = gTw g j i := by
  unfold gTw
  by_cases c : g (10 + 265 * i + 1) = g (10 + 265 * j + 1) ∧ g (10 + 265 * i + 2) = g (10 + 265 * j + 2)
  · rw [if_pos c, if_pos ⟨c.1.symm, c.2.symm⟩]
  · rw [if_neg c, if_neg (fun z => c ⟨z.1.symm, z.2.symm⟩)]
theorem gTw_rng {g : Int → Int} {i j : Int} : 0 ≤ gTw g i j ∧ gTw g i j ≤ 1 := by
  unfold gTw
  split <;> decide
theorem o_twins {q : Int × (Int → Int)} {N : Int} {f : Int → Int → Int} {t : (Int → Int) × Nat × Nat × Nat × (Int → Int → Bool)} (hR : ZR N f f) : zOu q N f t 285 [(19, 0, 0)] 286 [(20, 1464, 0)] := by
  have h4 := ZR_4 hR
  have inner : ∀ (k : Nat) (i j c : Int) (v4 v5 : zV), 0 ≤ i → i < f 1465 3 → i < j → j + k = f 1465 3 → 0 ≤ c → c + k ≤ 100 → ∃ u4 u5, zD (true, q) 1899 zc_X_twins (zat zc_X_twins 13) [(19, 0, 0), (0, c, 0), (0, i, 0), (0, j, 0), v4, v5] [] (f, t) = zD (true, q) 1899 zc_X_twins (zat zc_X_twins 41) [(19, 0, 0), (0, c + zsum (fun j => gTw (f 1465) i j) k j, 0), (0, i, 0), (0, f 1465 3, 0), u4, u5] [] (f, t) := by
    intro k
    induction k with
    | zero =>
      intro i j c v4 v5 i0 i1 ij hj c0 c1
      refine ⟨v4, v5, ?_⟩
      rw [zb_X_twins_13]
      show (if f 23 4 ≤ j then _ else _) = _
      rw [h4.1, if_pos (by omega), show j = f 1465 3 by omega]
      show _ = zD (true, q) 1899 zc_X_twins (zat zc_X_twins 41) [(19, 0, 0), (0, c + 0, 0), (0, i, 0), (0, f 1465 3, 0), v4, v5] [] (f, t)
      rw [Int.add_zero]
    | succ k ih =>
      intro i j c v4 v5 i0 i1 ij hj c0 c1
      have ci := (ZR_line hR i0 (by omega)).1
      have cj := (ZR_line hR (show 0 ≤ j by omega) (by omega)).1
      have hg := gTw_rng (g := f 1465) (i := i) (j := j)
      obtain ⟨w4, w5, h⟩ := ih i (j + 1) (c + gTw (f 1465) i j) (13, 46 + 18 * i, 0) (13, 46 + 18 * j, 0) i0 i1 (by omega) (by omega) (by omega) (by omega)
      refine ⟨w4, w5, ?_⟩
      rw [zb_X_twins_13]
      show (if f 23 4 ≤ j then _ else zD (true, q) 1899 zc_X_twins (zat zc_X_twins 18) [(19, 0, 0), (0, c, 0), (0, i, 0), (0, j, 0), v4, v5] [] (f, t)) = _
      rw [h4.1, if_neg (by omega), zb_X_twins_18]
      show zK _ _ _ _ _ _ (zM (true, q) 1898 37 [(18, 23, 0), (0, i, 0)] (f, t)) = _
      rw [c_lineAt i0 (by omega), zK_13, zb_X_twins_22]
      show zK _ _ _ _ _ _ (zM (true, q) 1898 37 [(18, 23, 0), (0, j, 0)] (f, t)) = _
      rw [c_lineAt (by omega) (by omega), zK_13, show (23 : Int) + 23 + 18 * i = 46 + 18 * i by omega, show (23 : Int) + 23 + 18 * j = 46 + 18 * j by omega, zb_X_twins_27]
      show (if f (46 + 18 * i) 5 ≠ f (46 + 18 * j) 5 then _ else _) = _
      rw [zc_f5 ci, zc_f5 cj]
      have fin : zD (true, q) 1899 zc_X_twins (zat zc_X_twins 41) [(19, 0, 0), (0, c + gTw (f 1465) i j + zsum (fun j => gTw (f 1465) i j) k (j + 1), 0), (0, i, 0), (0, f 1465 3, 0), w4, w5] [] (f, t) = zD (true, q) 1899 zc_X_twins (zat zc_X_twins 41) [(19, 0, 0), (0, c + zsum (fun j => gTw (f 1465) i j) (k + 1) j, 0), (0, i, 0), (0, f 1465 3, 0), w4, w5] [] (f, t) := by
        rw [Int.add_assoc]
        rfl
      by_cases e1 : f 1465 (10 + 265 * i + 1) = f 1465 (10 + 265 * j + 1)
      · rw [if_neg (fun z => z e1), zb_X_twins_33]
        show (if f (46 + 18 * i) 6 ≠ f (46 + 18 * j) 6 then _ else _) = _
        rw [zc_f6 ci, zc_f6 cj]
        by_cases e2 : f 1465 (10 + 265 * i + 2) = f 1465 (10 + 265 * j + 2)
        · have eg : gTw (f 1465) i j = 1 := if_pos ⟨e1, e2⟩
          rw [eg] at h fin
          rw [if_neg (fun z => z e2), zb_X_twins_38, zw_id (by omega) (by omega), zw_id (by omega) (by omega)]
          exact h.trans fin
        · have eg : gTw (f 1465) i j = 0 := if_neg (fun z => e2 z.2)
          rw [eg] at h fin
          rw [Int.add_zero] at h fin
          rw [if_pos e2, zb_X_twins_39, zw_id (by omega) (by omega)]
          exact h.trans fin
      · have eg : gTw (f 1465) i j = 0 := if_neg (fun z => e1 z.1)
        rw [eg] at h fin
        rw [Int.add_zero] at h fin
        rw [if_pos e1, zb_X_twins_39, zw_id (by omega) (by omega)]
        exact h.trans fin
  have srng : ∀ (k : Nat) (i j : Int), 0 ≤ zsum (fun j => gTw (f 1465) i j) k j ∧ zsum (fun j => gTw (f 1465) i j) k j ≤ k := by
    intro k i j
    have := zsum_rng (g := fun j => gTw (f 1465) i j) (lo := 0) (hi := 1) k j (fun x _ _ => gTw_rng)
    omega
  have outer : ∀ (k : Nat) (i c : Int) (v3 v4 v5 : zV), 0 ≤ i → i + k = f 1465 3 → 0 ≤ c → c ≤ 4 * i → zD (true, q) 1899 zc_X_twins (zat zc_X_twins 4) [(19, 0, 0), (0, c, 0), (0, i, 0), v3, v4, v5] [] (f, t) = some ((0, c + zsum (fun i => zsum (fun j => gTw (f 1465) i j) (f 1465 3 - (i + 1)).toNat (i + 1)) k i, 0), (f, t)) := by
    intro k
    induction k with
    | zero =>
      intro i c v3 v4 v5 i0 hi c0 c1
      rw [zb_X_twins_4]
      show (if f 23 4 ≤ i then _ else _) = _
      rw [h4.1, if_pos (by omega), zb_X_twins_43]
      show _ = some ((0, c + 0, 0), _)
      rw [Int.add_zero]
    | succ k ih =>
      intro i c v3 v4 v5 i0 hi c0 c1
      obtain ⟨w4, w5, h⟩ := inner (f 1465 3 - (i + 1)).toNat i (i + 1) c v4 v5 i0 (by omega) (by omega) (by omega) c0 (by omega)
      have hs := srng (f 1465 3 - (i + 1)).toNat i (i + 1)
      rw [zb_X_twins_4]
      show (if f 23 4 ≤ i then _ else zD (true, q) 1899 zc_X_twins (zat zc_X_twins 9) [(19, 0, 0), (0, c, 0), (0, i, 0), v3, v4, v5] [] (f, t)) = _
      rw [h4.1, if_neg (by omega), zb_X_twins_9, zw_id (by omega) (by omega), h, zb_X_twins_41, zw_id (by omega) (by omega), ih (i + 1) _ _ _ _ (by omega) (by omega) (by omega) (by omega), Int.add_assoc]
      rfl
  have hx : zM (true, q) 1899 285 [(19, 0, 0)] (f, t) = some ((0, zsum (fun i => zsum (fun j => gTw (f 1465) i j) (f 1465 3 - (i + 1)).toNat (i + 1)) (f 1465 3).toNat 0, 0), (f, t)) := by
    rw [ze_X_twins, zb_X_twins_0, outer (f 1465 3).toNat 0 0 _ _ _ (Int.le_refl 0) (by omega) (Int.le_refl 0) (by omega), Int.zero_add]
  have rin : ∀ (k : Nat) (i j c : Int) (h : Int → Int → Int), 0 ≤ i → i < f 1465 3 → 0 ≤ j → j + k = i → 0 ≤ c → c + k ≤ 100 → zD (true, q) 1899 zc_M_twins (zat zc_M_twins 15) [(20, 1464, 0), (0, c, 0), (0, i, 0), (0, j, 0)] [] (zrow h 1465 (f 1465), t) = zD (true, q) 1899 zc_M_twins (zat zc_M_twins 44) [(20, 1464, 0), (0, c + zsum (fun j => gTw (f 1465) i j) k j, 0), (0, i, 0), (0, i, 0)] [] (zrow h 1465 (f 1465), t) := by
    intro k
    induction k with
    | zero =>
      intro i j c h i0 i1 j0 hj c0 c1
      rw [zb_M_twins_15, if_pos (by omega), show j = i by omega]
      show _ = zD (true, q) 1899 zc_M_twins (zat zc_M_twins 44) [(20, 1464, 0), (0, c + 0, 0), (0, i, 0), (0, i, 0)] [] _
      rw [Int.add_zero]
    | succ k ih =>
      intro i j c h i0 i1 j0 hj c0 c1
      have hg := gTw_rng (g := f 1465) (i := i) (j := j)
      have hh := ih i (j + 1) (c + gTw (f 1465) i j) h i0 i1 (by omega) (by omega) (by omega) (by omega)
      rw [Int.add_assoc] at hh
      rw [zb_M_twins_15, if_neg (by omega), zb_M_twins_18, r_of i0 (by omega) (by decide) (by decide), zK_i, zb_M_twins_23, r_of (by omega) (by omega) (by decide) (by decide), zK_i, zb_M_twins_27]
      by_cases e1 : f 1465 (10 + 265 * i + 1) = f 1465 (10 + 265 * j + 1)
      · rw [if_neg (fun z => z e1), zb_M_twins_28, r_of i0 (by omega) (by decide) (by decide), zK_i, zb_M_twins_32, r_of (by omega) (by omega) (by decide) (by decide), zK_i, zb_M_twins_36]
        by_cases e2 : f 1465 (10 + 265 * i + 2) = f 1465 (10 + 265 * j + 2)
        · have eg : gTw (f 1465) i j = 1 := if_pos ⟨e1, e2⟩
          rw [if_neg (fun z => z e2), zb_M_twins_37, zw_id (by omega) (by omega), zw_id (by omega) (by omega), show c + 1 = c + gTw (f 1465) i j by rw [eg]]
          exact hh
        · have eg : gTw (f 1465) i j = 0 := if_neg (fun z => e2 z.2)
          rw [if_pos e2, zb_M_twins_39, zw_id (by omega) (by omega), zw_id (by omega) (by omega), show c + 0 = c + gTw (f 1465) i j by rw [eg]]
          exact hh
      · have eg : gTw (f 1465) i j = 0 := if_neg (fun z => e1 z.1)
        rw [if_pos e1, zb_M_twins_39, zw_id (by omega) (by omega), zw_id (by omega) (by omega), show c + 0 = c + gTw (f 1465) i j by rw [eg]]
        exact hh
  have rout : ∀ (k : Nat) (i c : Int) (v3 : zV) (h : Int → Int → Int), 0 ≤ i → i + k = f 1465 3 → 0 ≤ c → c ≤ 4 * i → zD (true, q) 1899 zc_M_twins (zat zc_M_twins 7) [(20, 1464, 0), (0, c, 0), (0, i, 0), v3] [] (zrow h 1465 (f 1465), t) = some ((0, c + zsum (fun i => zsum (fun j => gTw (f 1465) i j) i.toNat 0) k i, 0), (zrow h 1465 (f 1465), t)) := by
    intro k
    induction k with
    | zero =>
      intro i c v3 h i0 hi c0 c1
      rw [zb_M_twins_7]
      simp (disch := omega) only [Int.reduceAdd, zrow_r]
      rw [zG2 (by decide) (by decide), zb_M_twins_12, if_pos (by omega), zb_M_twins_46]
      show _ = some ((0, c + 0, 0), _)
      rw [Int.add_zero]
    | succ k ih =>
      intro i c v3 h i0 hi c0 c1
      have hs := srng i.toNat i 0
      rw [zb_M_twins_7]
      simp (disch := omega) only [Int.reduceAdd, zrow_r]
      rw [zG2 (by decide) (by decide), zb_M_twins_12, if_neg (by omega), zb_M_twins_13, rin i.toNat i 0 c h i0 (by omega) (Int.le_refl 0) (by omega) c0 (by omega), zb_M_twins_44, zw_id (by omega) (by omega), ih (i + 1) _ _ h (by omega) (by omega) (by omega) (by omega), Int.add_assoc]
      rfl
  have same : zsum (fun i => zsum (fun j => gTw (f 1465) i j) (f 1465 3 - (i + 1)).toNat (i + 1)) (f 1465 3).toNat 0 = zsum (fun i => zsum (fun j => gTw (f 1465) i j) i.toNat 0) (f 1465 3).toNat 0 := by
    have a := gTw_sym (g := f 1465) (i := 0) (j := 1)
    have b := gTw_sym (g := f 1465) (i := 0) (j := 2)
    have c := gTw_sym (g := f 1465) (i := 0) (j := 3)
    have d := gTw_sym (g := f 1465) (i := 1) (j := 2)
    have e := gTw_sym (g := f 1465) (i := 1) (j := 3)
    have e2 := gTw_sym (g := f 1465) (i := 2) (j := 3)
    rcases (by omega : f 1465 3 = 0 ∨ f 1465 3 = 1 ∨ f 1465 3 = 2 ∨ f 1465 3 = 3 ∨ f 1465 3 = 4) with h | h | h | h | h <;> rw [h]
    · rfl
    · rfl
    · show gTw (f 1465) 0 1 + 0 + (0 + 0) = 0 + (gTw (f 1465) 1 0 + 0 + 0)
      omega
    · show gTw (f 1465) 0 1 + (gTw (f 1465) 0 2 + 0) + (gTw (f 1465) 1 2 + 0 + (0 + 0)) = 0 + (gTw (f 1465) 1 0 + 0 + (gTw (f 1465) 2 0 + (gTw (f 1465) 2 1 + 0) + 0))
      omega
    · show gTw (f 1465) 0 1 + (gTw (f 1465) 0 2 + (gTw (f 1465) 0 3 + 0)) + (gTw (f 1465) 1 2 + (gTw (f 1465) 1 3 + 0) + (gTw (f 1465) 2 3 + 0 + (0 + 0))) = 0 + (gTw (f 1465) 1 0 + 0 + (gTw (f 1465) 2 0 + (gTw (f 1465) 2 1 + 0) + (gTw (f 1465) 3 0 + (gTw (f 1465) 3 1 + (gTw (f 1465) 3 2 + 0)) + 0)))
      omega
  rw [same] at hx
  refine zOu_v rfl hR hx (fun h => ?_)
  rw [ze_M_twins, zb_M_twins_0]
  simp (disch := omega) only [Int.reduceAdd, zrow_r, zrow_in, zrow_up, zrow_ne, zupE]
  rw [rout (f 1465 3).toNat 0 0 _ _ (Int.le_refl 0) (by omega) (Int.le_refl 0) (by omega), Int.zero_add]

