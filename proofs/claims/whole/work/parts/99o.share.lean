/-! ## shares -/
def shV (g R : Int → Int) (i : Int) : Int := zdiv (g (10 + 265 * i + 4)) (R i + 1)
def shN (V : Int → Int) : Nat → Int → Int → Int
  | 0, _, to => to
  | k + 1, i, to => shN V k (i + 1) (if V to < V i then i else to)
def shR (g : Int → Int) : Nat → (Int → Int) → Int → Int
  | 0, R => R
  | k + 1, R => shR g k (zup1 R (shN (shV g R) (g 3 - 1).toNat 1 0) (R (shN (shV g R) (g 3 - 1).toNat 1 0) + 1))
theorem shN_rng {V : Int → Int} : ∀ (k : Nat) (i to m : Int), 0 ≤ to → to < m → 0 ≤ i → i + k = m → 0 ≤ shN V k i to ∧ shN V k i to < m := by
  intro k
  induction k with
  | zero => intro i to m a b _ _; exact ⟨a, b⟩
  | succ k ih =>
    intro i to m a b c d
    refine ih (i + 1) _ m ?_ ?_ (by omega) (by omega) <;> split <;> omega
theorem shV_0 {g R : Int → Int} {i : Int} (h4 : 9 ≤ g (10 + 265 * i + 4) ∧ g (10 + 265 * i + 4) ≤ 60) (r0 : 0 ≤ R i) (r1 : R i ≤ 99) : 0 ≤ shV g R i := by
  unfold shV zdiv
  rw [Int.tdiv_eq_ediv_of_nonneg (by omega)]
  have h1 : 0 ≤ g (10 + 265 * i + 4) / (R i + 1) := Int.ediv_nonneg (by omega) (by omega)
  have h2 : g (10 + 265 * i + 4) / (R i + 1) ≤ g (10 + 265 * i + 4) := Int.ediv_le_self _ (by omega)
  rw [zw_id (by omega) (by omega)]
  exact h1
theorem c_nextShare {q : Int × (Int → Int)} {d : Nat} {t : (Int → Int) × Nat × Nat × Nat × (Int → Int → Bool)} {F : Int → Int → Int} {g R : Int → Int} (h4 : F 23 4 = g 3) (m1 : 1 ≤ g 3) (m4 : g 3 ≤ 4) (hO : ∀ i, 0 ≤ i → i < g 3 → F (46 + 18 * i) 8 = g (10 + 265 * i + 4) ∧ 9 ≤ g (10 + 265 * i + 4) ∧ g (10 + 265 * i + 4) ≤ 60) (hR : ∀ i, 0 ≤ i → i < 4 → F 323 i = R i ∧ 0 ≤ R i ∧ R i ≤ 99) : zM (true, q) (d + 1) 263 [(19, 0, 0)] (F, t) = some ((0, shN (shV g R) (g 3 - 1).toNat 1 0, 0), (F, t)) := by
  have hV : ∀ i, 0 ≤ i → i < g 3 → 0 ≤ shV g R i := fun i i0 i1 => shV_0 (hO i i0 i1).2 (hR i i0 (by omega)).2.1 (hR i i0 (by omega)).2.2
  have step : ∀ (i to mo : Int) (v4 v5 : zV), 0 ≤ i → i < g 3 → ∃ w4 w5, zD (true, q) (d + 1) zc_X_nextShare (zat zc_X_nextShare 6) [(19, 0, 0), (0, to, 0), (0, mo, 0), (0, i, 0), v4, v5] [] (F, t) = zD (true, q) (d + 1) zc_X_nextShare (zat zc_X_nextShare 6) [(19, 0, 0), (0, if mo < shV g R i then i else to, 0), (0, if mo < shV g R i then shV g R i else mo, 0), (0, i + 1, 0), w4, w5] [] (F, t) := by
    intro i to mo v4 v5 i0 i1
    obtain ⟨r1, r2, r3⟩ := hR i i0 (by omega)
    obtain ⟨o1, o2, o3⟩ := hO i i0 i1
    refine ⟨(0, R i + 1, 0), (0, shV g R i, 0), ?_⟩
    rw [zb_X_nextShare_6]
    show (if F 23 4 ≤ i then _ else _) = _
    rw [if_neg (by omega), zb_X_nextShare_11, s_at i0 (by omega), zK_i]
    show zD (true, q) (d + 1) zc_X_nextShare (zat zc_X_nextShare 15) _ [(0, F 323 i, 0)] (F, t) = _
    rw [r1, zb_X_nextShare_15, zw_id (z := R i + 1) (by omega) (by omega), if_neg (by omega), zb_X_nextShare_20]
    show zK _ _ _ _ _ _ (zM (true, q) d 37 [(18, 23, 0), (0, i, 0)] (F, t)) = _
    rw [s_lineAt i0 (by omega), zK_13, zb_X_nextShare_24, zG1 (by omega), show (23 : Int) + 23 + 18 * i = 46 + 18 * i by omega]
    show zD (true, q) (d + 1) zc_X_nextShare (zat zc_X_nextShare 27) _ [(0, zdiv (F (46 + 18 * i) 8) (R i + 1), 0)] (F, t) = _
    rw [o1]
    show zD (true, q) (d + 1) zc_X_nextShare (zat zc_X_nextShare 27) _ [(0, shV g R i, 0)] (F, t) = _
    rw [zb_X_nextShare_27]
    by_cases c : mo < shV g R i
    · rw [if_neg (by omega), if_pos c, if_pos c, zb_X_nextShare_33, zw_id (z := i + 1) (by omega) (by omega)]
    · rw [if_pos (by omega), if_neg c, if_neg c, zb_X_nextShare_37, zw_id (z := i + 1) (by omega) (by omega)]
  have loop : ∀ (k : Nat) (i to : Int) (v4 v5 : zV), 0 ≤ i → i + k = g 3 → zD (true, q) (d + 1) zc_X_nextShare (zat zc_X_nextShare 6) [(19, 0, 0), (0, to, 0), (0, shV g R to, 0), (0, i, 0), v4, v5] [] (F, t) = some ((0, shN (shV g R) k i to, 0), (F, t)) := by
    intro k
    induction k with
    | zero =>
      intro i to v4 v5 i0 hi
      rw [zb_X_nextShare_6]
      show (if F 23 4 ≤ i then _ else _) = _
      rw [if_pos (by omega), zb_X_nextShare_39]
      rfl
    | succ k ih =>
      intro i to v4 v5 i0 hi
      obtain ⟨w4, w5, r⟩ := step i to (shV g R to) v4 v5 i0 (by omega)
      have e : (if shV g R to < shV g R i then shV g R i else shV g R to) = shV g R (if shV g R to < shV g R i then i else to) := by split <;> rfl
      rw [r, e]
      exact ih (i + 1) _ _ _ (by omega) (by omega)
  obtain ⟨w4, w5, r⟩ := step 0 0 (-1) (2, 0, 0) (2, 0, 0) (by decide) (by omega)
  have v0 := hV 0 (by decide) (by omega)
  rw [if_pos (by omega), if_pos (by omega)] at r
  rw [ze_X_nextShare, zb_X_nextShare_0, r]
  exact loop (g 3 - 1).toNat (0 + 1) 0 _ _ (by decide) (by omega)
theorem r_nextShare {q : Int × (Int → Int)} {d : Nat} {t : (Int → Int) × Nat × Nat × Nat × (Int → Int → Bool)} {h : Int → Int → Int} {g R : Int → Int} {l n i3 : Int} (m1 : 1 ≤ g 3) (m4 : g 3 ≤ 4) (hO : ∀ i, 0 ≤ i → i < g 3 → 9 ≤ g (10 + 265 * i + 4) ∧ g (10 + 265 * i + 4) ≤ 60) (hR : ∀ i, 0 ≤ i → i < 4 → h 1477 i = R i ∧ 0 ≤ R i ∧ R i ≤ 99) : ∀ (k : Nat) (i to : Int), 0 ≤ i → i + k = g 3 → 0 ≤ to → to < g 3 → zD (true, q) (d + 1) zc_M_share (zat zc_M_share 42) [(20, 1464, 0), (0, l, 0), (0, n, 0), (0, i3, 0), (0, to, 0), (0, i, 0)] [] (zrow h 1465 g, t) = zD (true, q) (d + 1) zc_M_share (zat zc_M_share 75) [(20, 1464, 0), (0, l, 0), (0, n, 0), (0, i3, 0), (0, shN (shV g R) k i to, 0), (0, g 3, 0)] [] (zrow h 1465 g, t) := by
  intro k
  induction k with
  | zero =>
    intro i to i0 hi t0 t1
    rw [zb_M_share_42]
    simp (disch := omega) only [Int.reduceAdd, zrow_r, zrow_in, zrow_up, zrow_ne, zupE]
    rw [zG2 (by decide) (by decide), zb_M_share_47, if_pos (by omega), show i = g 3 by omega]
    rfl
  | succ k ih =>
    intro i to i0 hi t0 t1
    obtain ⟨r1, r2, r3⟩ := hR i i0 (by omega)
    obtain ⟨s1, s2, s3⟩ := hR to t0 (by omega)
    have un : shN (shV g R) (k + 1) i to = shN (shV g R) k (i + 1) (if shV g R to < shV g R i then i else to) := rfl
    rw [un, zb_M_share_42]
    simp (disch := omega) only [Int.reduceAdd, zrow_r, zrow_in, zrow_up, zrow_ne, zupE]
    rw [zG2 (by decide) (by decide), zb_M_share_47, if_neg (by omega), zb_M_share_48, r_of i0 (by omega) (by decide) (by decide), zK_i, zb_M_share_52, zG2 i0 (by omega)]
    simp (disch := omega) only [Int.reduceAdd, zrow_r, zrow_in, zrow_up, zrow_ne, zupE]
    rw [r1, zb_M_share_56, zw_id (z := R i + 1) (by omega) (by omega), zG1 (by omega), zb_M_share_59, r_of t0 (by omega) (by decide) (by decide), zK_i, zb_M_share_63, zG2 t0 (by omega)]
    simp (disch := omega) only [Int.reduceAdd, zrow_r, zrow_in, zrow_up, zrow_ne, zupE]
    rw [s1, zb_M_share_67, zw_id (z := R to + 1) (by omega) (by omega), zG1 (by omega)]
    show zD (true, q) (d + 1) zc_M_share (zat zc_M_share 70) _ [(0, shV g R to, 0), (0, shV g R i, 0)] _ = _
    rw [zb_M_share_70]
    by_cases c : shV g R to < shV g R i
    · rw [if_neg (by omega), if_pos c, zb_M_share_71, zw_id (z := i + 1) (by omega) (by omega)]
      exact ih (i + 1) i (by omega) (by omega) i0 (by omega)
    · rw [if_pos (by omega), if_neg c, zb_M_share_73, zw_id (z := i + 1) (by omega) (by omega)]
      exact ih (i + 1) to (by omega) (by omega) t0 t1
theorem o_share {q : Int × (Int → Int)} {N : Int} {f : Int → Int → Int} {t : (Int → Int) × Nat × Nat × Nat × (Int → Int → Bool)} {l n : Int} (hR : ZR N f f) : zOw q N f t 265 [(19, 0, 0), (0, l, 0), (0, n, 0), (31, 1478, 1)] 266 [(20, 1464, 0), (0, l, 0), (0, n, 0)] := by
  have h4 := ZR_4 hR
  by_cases hl : 0 ≤ l ∧ l < f 1465 3
  · have hla := zLT (q := q) (d := 1896) (t := t) hR hl.1 hl.2
    by_cases hn : 0 ≤ n ∧ n ≤ 99
    · have hO : ∀ i, 0 ≤ i → i < f 1465 3 → 9 ≤ f 1465 (10 + 265 * i + 4) ∧ f 1465 (10 + 265 * i + 4) ≤ 60 := fun i i0 i1 => (ZR_line hR i0 i1).2.1.2.2.2.2.1
      have hOc : ∀ i, 0 ≤ i → i < f 1465 3 → f (46 + 18 * i) 8 = f 1465 (10 + 265 * i + 4) := fun i i0 i1 => zc_f8 (ZR_line hR i0 i1).1
      have nx : ∀ R : Int → Int, 0 ≤ shN (shV (f 1465) R) (f 1465 3 - 1).toNat 1 0 ∧ shN (shV (f 1465) R) (f 1465 3 - 1).toNat 1 0 < f 1465 3 := fun R => shN_rng _ 1 0 _ (by decide) (by omega) (by decide) (by omega)
      have cl : ∀ (k : Nat) (i : Int) (R : Int → Int) (v4 : zV) (F : Int → Int → Int), 0 ≤ i → i + k = n → (∀ o k, o ≠ 323 → F o k = f o k) → (∀ j, 0 ≤ j → j < 4 → F 323 j = R j ∧ 0 ≤ R j ∧ R j ≤ i) → ∃ F2, zD (true, q) 1898 zc_X_share (zat zc_X_share 20) [(19, 0, 0), (0, l, 0), (0, n, 0), (0, i, 0), v4] [] (F, t) = some ((0, shR (f 1465) k R l, 0), (F2, t)) ∧ ∀ o k, o ≠ 323 → F2 o k = f o k := by
        intro k
        induction k with
        | zero =>
          intro i R v4 F i0 hi fr hF
          refine ⟨F, ?_, fr⟩
          rw [zb_X_share_20, if_pos (by omega), zb_X_share_38, s_at hl.1 (by omega), zK_i, zb_X_share_42]
          show some ((0, F 323 l, 0), (F, t)) = _
          rw [(hF l hl.1 (by omega)).1]
          rfl
        | succ k ih =>
          intro i R v4 F i0 hi fr hF
          have hx := nx R
          have hcn := c_nextShare (q := q) (d := 1896) (t := t) (F := F) (g := f 1465) (R := R) ((fr _ _ (by decide)).trans h4.1) (by omega) h4.2.2 (fun i i0 i1 => ⟨(fr _ _ (by omega)).trans (hOc i i0 i1), hO i i0 i1⟩) (fun j j0 j1 => by have := hF j j0 j1; omega)
          have un : shR (f 1465) (k + 1) R = shR (f 1465) k (zup1 R (shN (shV (f 1465) R) (f 1465 3 - 1).toNat 1 0) (R (shN (shV (f 1465) R) (f 1465 3 - 1).toNat 1 0) + 1)) := rfl
          rw [un]
          generalize shN (shV (f 1465) R) (f 1465 3 - 1).toNat 1 0 = to at hx hcn
          have ht := hF to hx.1 (by omega)
          obtain ⟨F2, r2, fr2⟩ := ih (i + 1) (zup1 R to (R to + 1)) (0, to, 0) (zup F 323 to (R to + 1)) (by omega) (by omega) (fun o k ho => (zup_na ho).trans (fr o k ho)) (fun j j0 j1 => by
            have hj := hF j j0 j1
            by_cases c : j = to
            · rw [c, zupE rfl rfl, zup1_eq rfl]
              omega
            · rw [zup_nk c, zup1_ne c]
              omega)
          refine ⟨F2, ?_, fr2⟩
          rw [zb_X_share_20, if_neg (by omega), zb_X_share_23, hcn, zK_i, zb_X_share_25, s_at hx.1 (by omega), zK_i]
          show zD (true, q) 1898 zc_X_share (zat zc_X_share 33) _ [(0, F 323 to, 0), (0, to, 0), (30, 323, 4)] (F, t) = _
          rw [ht.1, zb_X_share_33, zw_id (z := R to + 1) (by omega) (by omega), s_put hx.1 (by omega), zK_v, zb_X_share_36, zw_id (z := i + 1) (by omega) (by omega)]
          exact r2
      obtain ⟨F2, r2, fr2⟩ := cl n.toNat 0 (fun _ => 0) (2, 0, 0) (zfill f 323 0 4) (by decide) (by omega) (fun o k ho => zfill_na ho) (fun j j0 j1 => ⟨zfill_in rfl j0 j1, by decide, by decide⟩)
      have hx : zM (true, q) 1898 264 [(19, 0, 0), (0, l, 0), (0, n, 0)] (f, t) = some ((0, shR (f 1465) n.toNat (fun _ => 0) l, 0), (F2, t)) := by
        rw [ze_X_share, zb_X_share_0, hla, zK_13, zb_X_share_3, if_neg (by omega), zb_X_share_6, if_pos (by omega), zb_X_share_14, s_clearRow (by decide) (by decide), zK_v, zb_X_share_18]
        exact r2
      have hk := k_share_v hx
      generalize hv : shR (f 1465) n.toNat (fun _ => 0) l = v at hk
      have rl : ∀ (k : Nat) (i : Int) (R : Int → Int) (v4 v5 : zV) (h : Int → Int → Int), 0 ≤ i → i + k = n → (∀ j, 0 ≤ j → j < 4 → h 1477 j = R j ∧ 0 ≤ R j ∧ R j ≤ i) → ∃ h2, zD (true, q) 1899 zc_M_share (zat zc_M_share 35) [(20, 1464, 0), (0, l, 0), (0, n, 0), (0, i, 0), v4, v5] [] (zrow h 1465 (f 1465), t) = some ((0, shR (f 1465) k R l, 0), (zrow h2 1465 (f 1465), t)) ∧ ∀ o k, o ≠ 1477 → h2 o k = h o k := by
        intro k
        induction k with
        | zero =>
          intro i R v4 v5 h i0 hi hh
          refine ⟨h, ?_, fun _ _ _ => rfl⟩
          rw [zb_M_share_35, if_pos (by omega), zb_M_share_85, zG2 hl.1 (by omega)]
          simp (disch := omega) only [Int.reduceAdd, zrow_r, zrow_in, zrow_up, zrow_ne, zupE]
          rw [zb_M_share_89, (hh l hl.1 (by omega)).1]
          rfl
        | succ k ih =>
          intro i R v4 v5 h i0 hi hh
          have hx := nx R
          have hcn := r_nextShare (q := q) (d := 1898) (t := t) (h := h) (g := f 1465) (R := R) (l := l) (n := n) (i3 := i) (by omega) h4.2.2 hO (fun j j0 j1 => by have := hh j j0 j1; omega) (f 1465 3 - 1).toNat 1 0 (by decide) (by omega) (by decide) (by omega)
          have un : shR (f 1465) (k + 1) R = shR (f 1465) k (zup1 R (shN (shV (f 1465) R) (f 1465 3 - 1).toNat 1 0) (R (shN (shV (f 1465) R) (f 1465 3 - 1).toNat 1 0) + 1)) := rfl
          rw [un]
          generalize shN (shV (f 1465) R) (f 1465 3 - 1).toNat 1 0 = to at hx hcn
          have ht := hh to hx.1 (by omega)
          obtain ⟨h2, r2, fr2⟩ := ih (i + 1) (zup1 R to (R to + 1)) (0, to, 0) (0, f 1465 3, 0) (zup h 1477 to (R to + 1)) (by omega) (by omega) (fun j j0 j1 => by
            have hj := hh j j0 j1
            by_cases c : j = to
            · rw [c, zupE rfl rfl, zup1_eq rfl]
              omega
            · rw [zup_nk c, zup1_ne c]
              omega)
          refine ⟨h2, ?_, fun o k ho => (fr2 o k ho).trans (zup_na ho)⟩
          rw [zb_M_share_35, if_neg (by omega), zb_M_share_38, hcn, zb_M_share_75, zG2 hx.1 (by omega)]
          simp (disch := omega) only [Int.reduceAdd, zrow_r, zrow_in, zrow_up, zrow_ne, zupE]
          rw [ht.1, zb_M_share_80, zG2 hx.1 (by omega), zw_id (z := R to + 1) (by omega) (by omega)]
          simp (disch := omega) only [Int.reduceAdd, zrow_r, zrow_in, zrow_up, zrow_ne, zupE]
          rw [zb_M_share_83, zw_id (z := i + 1) (by omega) (by omega)]
          exact r2
      have f15 : zup F2 1478 0 v 1465 = f 1465 := funext fun k => (zup_na (by decide)).trans (fr2 _ _ (by decide))
      have r0 : ∀ h : Int → Int → Int, ∃ h1, zD (true, q) 1899 zc_M_share (zat zc_M_share 23) [(20, 1464, 0), (0, l, 0), (0, n, 0), (0, 0, 0), (2, 0, 0), (2, 0, 0)] [] (zrow h 1465 (f 1465), t) = zD (true, q) 1899 zc_M_share (zat zc_M_share 35) [(20, 1464, 0), (0, l, 0), (0, n, 0), (0, 0, 0), (2, 0, 0), (2, 0, 0)] [] (zrow h1 1465 (f 1465), t) ∧ (∀ j, 0 ≤ j → j < 4 → h1 1477 j = 0) ∧ ∀ o k, o ≠ 1477 → h1 o k = h o k := by
        intro h
        refine ⟨zup (zup (zup (zup h 1477 0 0) 1477 1 0) 1477 2 0) 1477 3 0, ?_, fun j j0 j1 => ?_, fun o k ho => by rw [zup_na ho, zup_na ho, zup_na ho, zup_na ho]⟩
        · have st : ∀ (i : Int) (h : Int → Int → Int), 0 ≤ i → i < 4 → zD (true, q) 1899 zc_M_share (zat zc_M_share 23) [(20, 1464, 0), (0, l, 0), (0, n, 0), (0, i, 0), (2, 0, 0), (2, 0, 0)] [] (zrow h 1465 (f 1465), t) = zD (true, q) 1899 zc_M_share (zat zc_M_share 23) [(20, 1464, 0), (0, l, 0), (0, n, 0), (0, i + 1, 0), (2, 0, 0), (2, 0, 0)] [] (zrow (zup h 1477 i 0) 1465 (f 1465), t) := by
            intro i h i0 i1
            rw [zb_M_share_23, if_neg (by omega), zb_M_share_26, zG2 i0 i1]
            simp (disch := omega) only [Int.reduceAdd, zrow_r, zrow_in, zrow_up, zrow_ne, zupE]
            rw [zb_M_share_31, zw_id (z := i + 1) (by omega) (by omega)]
          rw [st 0 _ (by decide) (by decide)]
          show zD (true, q) 1899 zc_M_share (zat zc_M_share 23) [(20, 1464, 0), (0, l, 0), (0, n, 0), (0, 1, 0), (2, 0, 0), (2, 0, 0)] [] _ = _
          rw [st 1 _ (by decide) (by decide)]
          show zD (true, q) 1899 zc_M_share (zat zc_M_share 23) [(20, 1464, 0), (0, l, 0), (0, n, 0), (0, 2, 0), (2, 0, 0), (2, 0, 0)] [] _ = _
          rw [st 2 _ (by decide) (by decide)]
          show zD (true, q) 1899 zc_M_share (zat zc_M_share 23) [(20, 1464, 0), (0, l, 0), (0, n, 0), (0, 3, 0), (2, 0, 0), (2, 0, 0)] [] _ = _
          rw [st 3 _ (by decide) (by decide)]
          show zD (true, q) 1899 zc_M_share (zat zc_M_share 23) [(20, 1464, 0), (0, l, 0), (0, n, 0), (0, 4, 0), (2, 0, 0), (2, 0, 0)] [] _ = _
          rw [zb_M_share_23, if_pos (by decide), zb_M_share_33]
        · rcases (by omega : j = 0 ∨ j = 1 ∨ j = 2 ∨ j = 3) with rfl | rfl | rfl | rfl <;> simp (disch := omega) only [zup_nk, zupE]
      obtain ⟨h1, x1, y1, z1⟩ := r0 (zup (zup F2 1478 0 v) 1464 0 0)
      obtain ⟨h2, x2, z2⟩ := rl n.toNat 0 (fun _ => 0) (2, 0, 0) (2, 0, 0) h1 (by decide) (by omega) (fun j j0 j1 => ⟨y1 j j0 j1, by decide, by decide⟩)
      have hm : zM (true, q) 1899 266 [(20, 1464, 0), (0, l, 0), (0, n, 0)] (zup F2 1478 0 v, t) = some ((0, v, 0), (zrow h2 1465 (f 1465), t)) := by
        rw [show zup F2 1478 0 v = zrow (zup F2 1478 0 v) 1465 (f 1465) by rw [← f15, zrow_id], ze_M_share, zb_M_share_0, r_isLineT hl.1 hl.2 h4.2.2, zK_i, zb_M_share_4, if_pos (by decide), zb_M_share_7, r_isInT hn.1 hn.2, zK_i, zb_M_share_11, if_pos (by decide), zb_M_share_14]
        simp (disch := omega) only [Int.reduceAdd, zrow_r, zrow_in, zrow_up, zrow_ne, zupE]
        rw [if_pos (by decide), zb_M_share_21, x1, x2, hv]
      have hz : ∀ o k, o ≠ 1465 → o ≠ 1477 → zrow h2 1465 (f 1465) o k = zup (zup F2 1478 0 v) 1464 0 0 o k := fun o k a b => by
        rw [zrow_ne a, z2 o k b, z1 o k b]
      refine zOw_pure (f1 := zup F2 1478 0 v) hR hk (fun o k a => (zup_na (by omega)).trans (fr2 o k (by omega))) (fun o k a b => (zup_na b).trans (fr2 o k (by omega))) zTt_refl hm (fun o k a => ?_) ⟨fun o k a => ?_, zB3_fr (fun k k0 k1 => ?_)⟩ ?_ (fun _ => zupE rfl rfl)
      · rw [hz o k (by omega) (by omega), zup_na (by omega)]
      · by_cases c : o = 1465
        · rw [c, zrow_r, f15]
        · rw [hz o k c (by omega), zup_nka (by omega)]
      · rw [hz _ _ (by decide) (by decide), zup_nk (by omega)]
      · rw [hz _ _ (by decide) (by decide), zupE rfl rfl]
    · have hx : zM (true, q) 1898 264 [(19, 0, 0), (0, l, 0), (0, n, 0)] (f, t) = some ((100, 0, 0), (f, zThr t)) := by
        rw [ze_X_share, zb_X_share_0, hla, zK_13, zb_X_share_3]
        by_cases c : n < 0
        · rw [if_pos c, zb_X_share_9]
          rfl
        · rw [if_neg c, zb_X_share_6, if_neg (by omega), zb_X_share_9]
          rfl
      refine zOw_t (v := 0) rfl hR (by decide) (k_share_100 hx) (fun h => ?_)
      rw [ze_M_share, zb_M_share_0, r_isLineT hl.1 hl.2 h4.2.2, zK_i, zb_M_share_4, if_pos (by decide), zb_M_share_7, r_isInF (by omega), zK_i, zb_M_share_11, if_neg (fun z => z rfl), zb_M_share_12]
      simp (disch := omega) only [Int.reduceAdd, zrow_r, zrow_in, zrow_up, zrow_ne, zupE]
      rw [if_neg (by decide), zb_M_share_19]
  · have hx : zM (true, q) 1898 264 [(19, 0, 0), (0, l, 0), (0, n, 0)] (f, t) = some ((102, 0, 0), (f, zThr t)) := by
      rw [ze_X_share, zb_X_share_0, zLF_ hR hl]
      rfl
    refine zOw_t (v := 0) rfl hR (by decide) (k_share_102 hx) (fun h => ?_)
    rw [ze_M_share, zb_M_share_0, r_isLineF (by omega) h4.2.1 h4.2.2, zK_i, zb_M_share_4, if_neg (fun z => z rfl), zb_M_share_5]
    simp (disch := omega) only [Int.reduceAdd, zrow_r, zrow_in, zrow_up, zrow_ne, zupE]
    rw [if_neg (by decide), zb_M_share_19]

