/-! ## when all is clear -/
theorem zsum_add {a b : Int → Int} : ∀ (n : Nat) (i : Int), zsum (fun k => a k + b k) n i = zsum a n i + zsum b n i := by
  intro n
  induction n with
  | zero => intro i; rfl
  | succ n ih =>
    intro i
    show a i + b i + zsum (fun k => a k + b k) n (i + 1) = a i + zsum a n (i + 1) + (b i + zsum b n (i + 1))
    rw [ih]
    omega
def gLeft (g : Int → Int) : Int := zsum (fun i => g (10 + 265 * i + 7) + g (10 + 265 * i + 6)) (g 3).toNat 0
theorem r_left {q : Int × (Int → Int)} {d : Nat} {f : Int → Int → Int} {t : (Int → Int) × Nat × Nat × Nat × (Int → Int → Bool)} {g : Int → Int} (m0 : 0 ≤ g 3) (m4 : g 3 ≤ 4) (hv : ∀ i, 0 ≤ i → i < g 3 → rLR g (10 + 265 * i)) : zM (true, q) (d + 1) 217 [(20, 1464, 0)] (zrow f 1465 g, t) = some ((0, gLeft g, 0), (zrow f 1465 g, t)) := by
  have loop : ∀ (k : Nat) (i acc : Int), 0 ≤ i → i + k = g 3 → 0 ≤ acc → acc ≤ 104 * i → zD (true, q) (d + 1) zc_M_unitsLeft (zat zc_M_unitsLeft 4) [(20, 1464, 0), (0, acc, 0), (0, i, 0)] [] (zrow f 1465 g, t) = some ((0, acc + zsum (fun i => g (10 + 265 * i + 7) + g (10 + 265 * i + 6)) k i, 0), (zrow f 1465 g, t)) := by
    intro k
    induction k with
    | zero =>
      intro i acc i0 hi a0 a1
      rw [zb_M_unitsLeft_4]
      simp (disch := omega) only [Int.reduceAdd, zrow_r]
      rw [zG2 (by decide) (by decide), zb_M_unitsLeft_9, if_pos (by omega), zb_M_unitsLeft_24]
      show _ = some ((0, acc + 0, 0), _)
      rw [Int.add_zero]
    | succ k ih =>
      intro i acc i0 hi a0 a1
      have hr := hv i i0 (by omega)
      have h7 := hr.2.2.2.2.2.2.2.1
      have h6 := hr.2.2.2.2.2.2.1
      rw [zb_M_unitsLeft_4]
      simp (disch := omega) only [Int.reduceAdd, zrow_r]
      rw [zG2 (by decide) (by decide), zb_M_unitsLeft_9, if_neg (by omega), zb_M_unitsLeft_10, r_of i0 (by omega) (by decide) (by decide), zK_i, zb_M_unitsLeft_15, r_of i0 (by omega) (by decide) (by decide), zK_i, zb_M_unitsLeft_19, zw_id (z := g (10 + 265 * i + 7) + g (10 + 265 * i + 6)) (by omega) (by omega), zw_id (z := acc + (g (10 + 265 * i + 7) + g (10 + 265 * i + 6))) (by omega) (by omega), zw_id (z := i + 1) (by omega) (by omega), ih (i + 1) _ (by omega) (by omega) (by omega) (by omega)]
      show _ = some ((0, acc + (g (10 + 265 * i + 7) + g (10 + 265 * i + 6) + zsum (fun i => g (10 + 265 * i + 7) + g (10 + 265 * i + 6)) k (i + 1)), 0), _)
      rw [Int.add_assoc]
  rw [ze_M_unitsLeft, zb_M_unitsLeft_0, loop (g 3).toNat 0 0 (Int.le_refl 0) (by omega) (Int.le_refl 0) (by omega), Int.zero_add]
  rfl
theorem c_isClear {q : Int × (Int → Int)} {d : Nat} {σ : zS} {W : Int} {g : Int → Int} (h4 : σ.1 W 4 = g 3) (m0 : 0 ≤ g 3) (m4 : g 3 ≤ 4) (hL : zWL σ.1 W g) (hv : ∀ i, 0 ≤ i → i < g 3 → rLR g (10 + 265 * i)) : zM (true, q) (d + 2) 215 [(18, W, 0)] σ = some ((0, if gLeft g = 0 then 1 else 0, 0), σ) := by
  have v6 : ∀ i, 0 ≤ i → i < g 3 → 0 ≤ g (10 + 265 * i + 6) ∧ g (10 + 265 * i + 6) ≤ 96 := fun i i0 i1 => (hv i i0 i1).2.2.2.2.2.2.1
  have v7 : ∀ i, 0 ≤ i → i < g 3 → 0 ≤ g (10 + 265 * i + 7) ∧ g (10 + 265 * i + 7) ≤ 96 := fun i i0 i1 => by have := (hv i i0 i1).2.2.2.2.2.2.2.1; omega
  have e : gLeft g = zsum (fun i => g (10 + 265 * i + 7)) (g 3).toNat 0 + zsum (fun i => g (10 + 265 * i + 6)) (g 3).toNat 0 := zsum_add _ _
  have s6 := zsum_rng (g := fun i => g (10 + 265 * i + 6)) (lo := 0) (hi := 96) (g 3).toNat 0 (fun k k0 k1 => v6 k k0 (by omega))
  have s7 := zsum_rng (g := fun i => g (10 + 265 * i + 7)) (lo := 0) (hi := 96) (g 3).toNat 0 (fun k k0 k1 => v7 k k0 (by omega))
  rw [ze_Wor_isClear, zb_Wor_isClear_0, c_queued h4 m0 m4 hL v6, zK_i, zb_Wor_isClear_2]
  by_cases c6 : zsum (fun i => g (10 + 265 * i + 6)) (g 3).toNat 0 = 0
  · rw [if_neg (fun z => z c6), zb_Wor_isClear_3, c_unitsKept h4 m0 m4 hL v7, zK_i, zb_Wor_isClear_5]
    by_cases c7 : zsum (fun i => g (10 + 265 * i + 7)) (g 3).toNat 0 = 0
    · rw [if_neg (fun z => z c7), zb_Wor_isClear_6, zG2 (by decide) (by decide), if_pos (by omega)]
    · rw [if_pos c7, zb_Wor_isClear_8, zG2 (by decide) (by decide), if_neg (by omega)]
  · rw [if_pos c6, zb_Wor_isClear_8, zG2 (by decide) (by decide), if_neg (by omega)]
def gCl (A : (Int → Int) → Int × Int) : Nat → Int → (Int → Int) → Int
  | 0, _, _ => -1
  | k + 1, n, g => if gLeft g = 0 then n else gCl A k (n + 1) (kPass A 0 g)
theorem o_clear {q : Int × (Int → Int)} {N : Int} {f : Int → Int → Int} {t : (Int → Int) × Nat × Nat × Nat × (Int → Int → Bool)} (hR : ZR N f f) (hN : N ≤ 1000000) : zOu q N f t 216 [(19, 0, 0)] 218 [(20, 1464, 0)] := by
  have N0 := hR.1
  have hI := hR.2.1.2.2.1
  obtain ⟨S, w, hS, hAC, hAs, hw, hB⟩ := zRL_ask (q := q) hR.2.2.1
  have loop : ∀ (k : Nat) (n M : Int) (g : Int → Int) (f1 : Int → Int → Int), 0 ≤ n → n + k = 61 → 0 ≤ M → M ≤ 1000000 + 4 * n → zTry f f1 → zWI M g → zGC f1 118 g → zWL f1 118 g → ∃ f2, zD (true, q) 1899 zc_X_clear (zat zc_X_clear 7) [(19, 0, 0), (0, n, 0)] [] (f1, t) = some ((0, gCl (zLwA S) k n g, 0), (f2, t)) ∧ zTry f f2 := by
    intro k
    induction k with
    | zero =>
      intro n M g f1 n0 hk M0 M1 ht hi hg hl
      exact ⟨f1, by rw [zb_X_clear_7, if_pos (by omega), zb_X_clear_25]; rfl, ht⟩
    | succ k ih =>
      intro n M g f1 n0 hk M0 M1 ht hi hg hl
      have hc := c_isClear (q := q) (d := 1896) (σ := (f1, t)) hg.1 hi.1 hi.2.1 hl (fun i i0 i1 => (hi.2.2.2 i i0 i1).1.1)
      have run : zD (true, q) 1899 zc_X_clear (zat zc_X_clear 7) [(19, 0, 0), (0, n, 0)] [] (f1, t) = zD (true, q) 1899 zc_X_clear (zat zc_X_clear 13) [(19, 0, 0), (0, n, 0)] [(0, if gLeft g = 0 then 1 else 0, 0)] (f1, t) := by
        rw [zb_X_clear_7, if_neg (by omega), zb_X_clear_10]
        show zK _ _ _ _ _ _ (zM (true, q) 1898 215 [(18, 118, 0)] (f1, t)) = _
        rw [hc, zK_i]
      have un : gCl (zLwA S) (k + 1) n g = if gLeft g = 0 then n else gCl (zLwA S) k (n + 1) (kPass (zLwA S) 0 g) := rfl
      rw [run, zb_X_clear_13, un]
      by_cases c : gLeft g = 0
      · rw [if_pos c, if_pos c, if_neg (by decide), zb_X_clear_14]
        exact ⟨f1, rfl, ht⟩
      · rw [if_neg c, if_neg c, if_pos rfl, zb_X_clear_16]
        obtain ⟨f2, r2, g2, l2, t2⟩ := zTry_pass (q := q) (d := 1892) (m := 1) (t := t) (dr := 0) hS hAC ht (by decide) (by decide) hi hg hl M0 (by omega)
        have hw1 := zWI_pass (dr := 0) hB hi M0 (by omega)
        obtain ⟨f3, r3, t3⟩ := ih (n + 1) (M + 4) (kPass (zLwA S) 0 g) f2 (by omega) (by omega) (by omega) (by omega) t2 hw1.1 g2 l2
        refine ⟨f3, ?_, t3⟩
        show zK _ _ _ _ _ _ (zM (true, q) 1898 135 [(18, 118, 0), (0, 1, 0), (12, 2, 0), (0, 0, 0)] (f1, t)) = _
        rw [r2, zK_v, zb_X_clear_23, zw_id (by omega) (by omega)]
        exact r3
  obtain ⟨f1, r1, g1, l1, t1⟩ := zTry_copy (q := q) (d := 1895) (t := t) hR (zTry_refl (f := f))
  obtain ⟨fT, rT, tT⟩ := loop 61 0 N (f 1465) f1 (Int.le_refl 0) rfl N0 (by omega) t1 hI g1 l1
  have hx : zM (true, q) 1899 216 [(19, 0, 0)] (f, t) = some ((0, gCl (zLwA S) 61 0 (f 1465), 0), (fT, t)) := by
    rw [ze_X_clear, zb_X_clear_0]
    show zK _ _ _ _ _ _ (zM (true, q) 1898 43 [(18, 118, 0), (18, 23, 0)] (f, t)) = _
    rw [r1, zK_v, zb_X_clear_5]
    exact rT
  refine zOu_try hR hx tT (fun h => ?_)
  obtain ⟨h1, x1, y1, z1⟩ := r_out (q := q) (d := 1898) (f := zup h 1464 0 0) (t := t) (g := f 1465)
  have rloop : ∀ (k : Nat) (n M : Int) (g : Int → Int) (h : Int → Int → Int), 0 ≤ n → n + k = 61 → 0 ≤ M → M ≤ 1000000 + 4 * n → zWI M g → (∀ j, (j < 4 ∨ j = 7 ∨ 1310 ≤ j) → g j = f 1465 j) → (∀ j, 0 ≤ j → j < 1310 → h 1467 j = f 1465 j) → ∃ h2, zD (true, q) 1899 zc_M_clear (zat zc_M_clear 9) [(20, 1464, 0), (0, -1, 0), (0, n, 0)] [] (zrow h 1465 g, t) = some ((0, gCl (zLwA S) k n g, 0), (zrow h2 1465 (f 1465), t)) ∧ zFr h h2 := by
    intro k
    induction k with
    | zero =>
      intro n M g h n0 hk M0 M1 hi hg hh
      exact ⟨h, by rw [zb_M_clear_9, if_pos (by omega), zb_M_clear_25, r_in hh (fun j hj => hg j (by omega)), zK_v, zb_M_clear_27]; rfl, zFr_refl⟩
    | succ k ih =>
      intro n M g h n0 hk M0 M1 hi hg hh
      have hws : zLawW w g := zLawW_eq hg hw
      obtain ⟨h2, x2, fr2⟩ := r_passes (q := q) (d := 1834) (f := h) (t := t) (dr := 0) hAs hB hws hi M0 (by omega)
      have hw1 := zWI_pass (dr := 0) hB hi M0 (by omega)
      have hg2 : ∀ j, (j < 4 ∨ j = 7 ∨ 1310 ≤ j) → kPass (zLwA S) 0 g j = f 1465 j := fun j hj => (hw1.2 j hj).trans (hg j hj)
      have hh2 : ∀ j, 0 ≤ j → j < 1310 → h2 1467 j = f 1465 j := fun j j0 j1 => (fr2.1 1467 j (by decide) (by decide) (by decide) (by decide) (by decide) (fun z => by omega)).trans (hh j j0 j1)
      have un : gCl (zLwA S) (k + 1) n g = if gLeft g = 0 then n else gCl (zLwA S) k (n + 1) (kPass (zLwA S) 0 g) := rfl
      have run : zD (true, q) 1899 zc_M_clear (zat zc_M_clear 9) [(20, 1464, 0), (0, -1, 0), (0, n, 0)] [] (zrow h 1465 g, t) = (if gLeft g ≠ 0 then zD (true, q) 1899 zc_M_clear (zat zc_M_clear 20) [(20, 1464, 0), (0, -1, 0), (0, n, 0)] [] (zrow h 1465 g, t) else zD (true, q) 1899 zc_M_clear (zat zc_M_clear 18) [(20, 1464, 0), (0, -1, 0), (0, n, 0)] [] (zrow h 1465 g, t)) := by
        rw [zb_M_clear_9, if_neg (by omega), zb_M_clear_12, if_neg (fun z => z rfl), zb_M_clear_15, r_left hi.1 hi.2.1 (fun i i0 i1 => (hi.2.2.2 i i0 i1).1.1), zK_i, zb_M_clear_17]
      rw [run, un]
      by_cases c : gLeft g = 0
      · rw [if_neg (fun z => z c), if_pos c]
        refine ⟨h2, ?_, fr2⟩
        rw [zb_M_clear_18, x2, zK_v, zb_M_clear_23, zw_id (by omega) (by omega), zb_M_clear_9]
        have fin : zD (true, q) 1899 zc_M_clear (zat zc_M_clear 25) [(20, 1464, 0), (0, n, 0), (0, n + 1, 0)] [] (zrow h2 1465 (kPass (zLwA S) 0 g), t) = some ((0, n, 0), (zrow h2 1465 (f 1465), t)) := by
          rw [zb_M_clear_25, r_in hh2 (fun j hj => hg2 j (by omega)), zK_v, zb_M_clear_27]
        by_cases c60 : 60 < n + 1
        · rw [if_pos c60]
          exact fin
        · rw [if_neg c60, zb_M_clear_12, if_pos (by omega)]
          exact fin
      · rw [if_pos c, if_neg c]
        obtain ⟨h3, r3, f3⟩ := ih (n + 1) (M + 4) _ h2 (by omega) (by omega) (by omega) (by omega) hw1.1 hg2 hh2
        refine ⟨h3, ?_, zFr_trans fr2 f3⟩
        rw [zb_M_clear_20, x2, zK_v, zb_M_clear_23, zw_id (by omega) (by omega)]
        exact r3
  obtain ⟨h2, r2, z2⟩ := rloop 61 0 N (f 1465) h1 (Int.le_refl 0) rfl N0 (by omega) hI (fun _ _ => rfl) y1
  refine ⟨h1, h2, ?_, z1, z2⟩
  rw [ze_M_clear, zb_M_clear_0]
  show zK _ _ _ _ _ _ (zM (true, q) 1898 58 [(20, 1464, 0)] (zup (zrow h 1465 (f 1465)) 1464 0 0, t)) = _
  rw [zrow_up (by decide), x1, zK_v, zb_M_clear_5]
  exact r2

