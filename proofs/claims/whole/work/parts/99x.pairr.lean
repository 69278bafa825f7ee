/-! ## pairs, the reference -/
theorem orM_dec : ∀ m : Nat, m < 5 → ∀ s : Nat, s < 16 → (s : Int) < orM m → ∀ j : Nat, j < 5 → m ≤ j → orT s j = 0 := by
  decide +kernel
theorem orM_lt {s : Int} {m : Nat} {j : Int} (m4 : m ≤ 4) (s0 : 0 ≤ s) (s1 : s < 16) (h : s < orM m) (j0 : (m : Int) ≤ j) (j1 : j < 5) : orT s j = 0 := by
  have hs := Int.toNat_of_nonneg s0
  have hj := Int.toNat_of_nonneg (show 0 ≤ j by omega)
  have d := orM_dec m (by omega) s.toNat (by omega) (by rw [hs]; exact h) j.toNat (by omega) (by omega)
  rw [hs, hj] at d
  exact d
theorem r_lowest {q : Int × (Int → Int)} {d : Nat} {σ : zS} {s l : Int} (s0 : 0 ≤ s) (s1 : s < 16) (l0 : 0 ≤ l) (l1 : l < 4) (h : orT s l = 1) (hz : ∀ j, 0 ≤ j → j < l → orT s j = 0) : zM (true, q) (d + 1) 259 [(0, s, 0)] σ = some ((0, l, 0), σ) := by
  have loop : ∀ (c : Nat) (i : Int), 0 ≤ i → i + c = l → zD (true, q) (d + 1) zc_M_lowest (zat zc_M_lowest 2) [(0, s, 0), (0, i, 0)] [] σ = some ((0, l, 0), σ) := by
    intro c
    induction c with
    | zero =>
      intro i i0 hi
      have e : i = l := by omega
      subst e
      rw [zb_M_lowest_2, r_isOf ⟨s0, by omega⟩ ⟨i0, by omega⟩, if_pos h, zK_i, zb_M_lowest_5, if_pos (by decide), zb_M_lowest_8]
    | succ c ih =>
      intro i i0 hi
      have e := hz i i0 (by omega)
      rw [zb_M_lowest_2, r_isOf ⟨s0, by omega⟩ ⟨i0, by omega⟩, if_neg (by omega), zK_i, zb_M_lowest_5, if_neg (fun z => z rfl), zb_M_lowest_6, zw_id (z := i + 1) (by omega) (by omega)]
      exact ih (i + 1) (by omega) (by omega)
  rw [ze_M_lowest, zb_M_lowest_0]
  exact loop l.toNat 0 (Int.le_refl 0) (by omega)
theorem low_ex {s : Int} (s0 : 0 < s) (s1 : s < 16) : ∃ l, 0 ≤ l ∧ l < 4 ∧ orT s l = 1 ∧ ∀ j, 0 ≤ j → j < l → orT s j = 0 := by
  have o := fun i => orT_01 (s := s) (i := i)
  by_cases c0 : orT s 0 = 1
  · exact ⟨0, by decide, by decide, c0, fun j j0 j1 => by omega⟩
  · by_cases c1 : orT s 1 = 1
    · exact ⟨1, by decide, by decide, c1, fun j j0 j1 => by
        have e : j = 0 := by omega
        have := o 0
        subst e
        omega⟩
    · by_cases c2 : orT s 2 = 1
      · exact ⟨2, by decide, by decide, c2, fun j j0 j1 => by
          have h0 := o 0
          have h1 := o 1
          rcases (by omega : j = 0 ∨ j = 1) with rfl | rfl <;> omega⟩
      · have h0 := o 0
        have h1 := o 1
        have h2 := o 2
        have h3 := o 3
        refine ⟨3, by decide, by decide, ?_, fun j j0 j1 => ?_⟩
        · rcases h3 with h3 | h3
          · have := orT_zero (s := s) (by omega) s1 (fun j j0 j1 => by rcases (by omega : j = 0 ∨ j = 1 ∨ j = 2 ∨ j = 3) with rfl | rfl | rfl | rfl <;> omega)
            omega
          · exact h3
        · rcases (by omega : j = 0 ∨ j = 1 ∨ j = 2) with rfl | rfl | rfl <;> omega
theorem r_both {q : Int × (Int → Int)} {d : Nat} {t : (Int → Int) × Nat × Nat × Nat × (Int → Int → Bool)} {h : Int → Int → Int} {g : Int → Int} {i j : Int} (i0 : 0 ≤ i) (i1 : i < 4) (j0 : 0 ≤ j) (j1 : j < 4) (hi : 0 ≤ g (10 + 265 * i + 1) ∧ g (10 + 265 * i + 1) ≤ 100) (hj : 0 ≤ g (10 + 265 * j + 1) ∧ g (10 + 265 * j + 1) ≤ 100) : zM (true, q) (d + 1) 260 [(20, 1464, 0), (0, i, 0), (0, j, 0)] (zrow h 1465 g, t) = some ((0, prW g i j, 0), (zrow h 1465 g, t)) := by
  rw [ze_M_both, zb_M_both_0, r_of i0 i1 (by decide) (by decide), zK_i, zb_M_both_5, r_of j0 j1 (by decide) (by decide), zK_i, zb_M_both_9, r_lesser, zK_i, zb_M_both_10]
  unfold prW
  have hb : 0 ≤ (if g (10 + 265 * j + 1) ≤ g (10 + 265 * i + 1) then g (10 + 265 * j + 1) else g (10 + 265 * i + 1)) ∧ (if g (10 + 265 * j + 1) ≤ g (10 + 265 * i + 1) then g (10 + 265 * j + 1) else g (10 + 265 * i + 1)) ≤ 100 := by
    split <;> omega
  generalize (if g (10 + 265 * j + 1) ≤ g (10 + 265 * i + 1) then g (10 + 265 * j + 1) else g (10 + 265 * i + 1)) = v at hb ⊢
  rw [zw_id (by omega) (by omega)]
theorem prW_le {g : Int → Int} {m : Nat} (hg : ∀ l, 0 ≤ l → l < (m : Int) → 0 ≤ g (10 + 265 * l + 1) ∧ g (10 + 265 * l + 1) ≤ 100) {i j : Int} (i0 : 0 ≤ i) (i1 : i < m) (j0 : 0 ≤ j) (j1 : j < m) : 0 ≤ prW g i j ∧ prW g i j ≤ 100 := by
  have a := hg i i0 i1
  have b := hg j j0 j1
  unfold prW
  split <;> omega
/-- weights that are kept to their range everywhere -/
def prC (g : Int → Int) (m : Nat) (i j : Int) : Int := if (0 ≤ i ∧ i < m) ∧ (0 ≤ j ∧ j < m) then prW g i j else 0
theorem VJ_w {W W2 V V2 : Int → Int} {s : Int} (hV : ∀ r, V r = V2 r) : ∀ (c : Nat) (j x : Int), (∀ l, j ≤ l → l < j + c → W l = W2 l) → VJ W V s c j x = VJ W2 V2 s c j x := by
  intro c
  induction c with
  | zero => intro j x _; rfl
  | succ c ih =>
    intro j x h
    show VJ W V s c (j + 1) _ = VJ W2 V2 s c (j + 1) _
    rw [ih (j + 1) _ (fun l l0 l1 => h l (by omega) (by omega)), h j (by omega) (by omega), hV]
theorem VV_c {g : Int → Int} {m : Nat} : ∀ (k : Nat) (i s : Int), 0 ≤ i → i + k = m → VV (prW g) k i s = VV (prC g m) k i s := by
  intro k
  induction k with
  | zero => intro i s _ _; rfl
  | succ k ih =>
    intro i s i0 hi
    have h := fun r => ih (i + 1) r (by omega) (by omega)
    show (if orT s i = 1 then VJ (prW g i) (VV (prW g) k (i + 1)) (s - pw i) k (i + 1) (VV (prW g) k (i + 1) (s - pw i)) else VV (prW g) k (i + 1) s) = (if orT s i = 1 then VJ (prC g m i) (VV (prC g m) k (i + 1)) (s - pw i) k (i + 1) (VV (prC g m) k (i + 1) (s - pw i)) else VV (prC g m) k (i + 1) s)
    rw [h, h, VJ_w (W2 := prC g m i) h k (i + 1) _ (fun l l0 l1 => (if_pos ⟨⟨i0, by omega⟩, ⟨by omega, by omega⟩⟩).symm)]
theorem VV_pr {g : Int → Int} {m : Nat} (hg : ∀ l, 0 ≤ l → l < (m : Int) → 0 ≤ g (10 + 265 * l + 1) ∧ g (10 + 265 * l + 1) ≤ 100) {k : Nat} {i s : Int} (i0 : 0 ≤ i) (hi : i + k = m) : 0 ≤ VV (prW g) k i s ∧ VV (prW g) k i s ≤ 100 * k := by
  rw [VV_c (m := m) k i s i0 hi]
  refine VV_rng (fun i j => ?_) k i s
  unfold prC
  split
  · rename_i h
    exact (prW_le hg h.1.1 h.1.2 h.2.1 h.2.2).2
  · decide
theorem r_allBest {q : Int × (Int → Int)} {d : Nat} {t : (Int → Int) × Nat × Nat × Nat × (Int → Int → Bool)} {h : Int → Int → Int} {g : Int → Int} {m : Nat} (hm : g 3 = m) (m4 : m ≤ 4) (hg : ∀ l, 0 ≤ l → l < (m : Int) → 0 ≤ g (10 + 265 * l + 1) ∧ g (10 + 265 * l + 1) ≤ 100) : ∃ h2, zM (true, q) (d + 3) 261 [(20, 1464, 0)] (zrow h 1465 g, t) = some ((9, 0, 0), (zrow h2 1465 g, t)) ∧ (∀ s, 0 ≤ s → s < orM m → h2 1476 s = VV (prW g) m 0 s) ∧ ∀ o k, o ≠ 1476 → h2 o k = h o k := by
  have hM := orM_eq (n := (m : Int)) ⟨by omega, by omega⟩
  have hM16 : orM (m : Int) ≤ 16 := by
    rcases (by omega : m = 0 ∨ m = 1 ∨ m = 2 ∨ m = 3 ∨ m = 4) with rfl | rfl | rfl | rfl | rfl <;> decide
  have vr := fun s => VV_pr (g := g) (m := m) hg (k := m) (i := 0) (s := s) (Int.le_refl 0) (by omega)
  -- of one set
  have inner : ∀ (s l : Int), 0 ≤ s → s < orM m → 0 ≤ l → l < (m : Int) → orT s l = 1 → ∀ (c : Nat) (o x : Int) (F : Int → Int → Int), l + 1 ≤ o → o + c = m → 0 ≤ x → x ≤ 500 → F 1476 s = x → (∀ r, 0 ≤ r → r < s → F 1476 r = VV (prW g) m 0 r) → (∀ o k, o ≠ 1476 → F o k = h o k) → ∃ F2, zD (true, q) (d + 3) zc_M_allBest (zat zc_M_allBest 38) [(20, 1464, 0), (0, s, 0), (0, l, 0), (0, s - pw l, 0), (0, o, 0)] [] (zrow F 1465 g, t) = zD (true, q) (d + 3) zc_M_allBest (zat zc_M_allBest 7) [(20, 1464, 0), (0, s + 1, 0), (0, l, 0), (0, s - pw l, 0), (0, m, 0)] [] (zrow F2 1465 g, t) ∧ F2 1476 s = VJ (prW g l) (VV (prW g) m 0) (s - pw l) c o x ∧ (∀ r, 0 ≤ r → r < s → F2 1476 r = VV (prW g) m 0 r) ∧ ∀ o k, o ≠ 1476 → F2 o k = h o k := by
    intro s l s0 s1 l0 l1 hl c
    obtain ⟨p0, p1, _, p3⟩ := pw_of s0 (by omega) l0 (by omega) hl
    induction c with
    | zero =>
      intro o x F o0 ho x0 x1 hx hr fr
      refine ⟨F, ?_, hx, hr, fr⟩
      rw [zb_M_allBest_38]
      simp (disch := omega) only [Int.reduceAdd, zrow_r, zrow_in, zrow_up, zrow_ne, zupE]
      rw [zG2 (by decide) (by decide), zb_M_allBest_43, if_pos (by omega), zb_M_allBest_74, zw_id (z := s + 1) (by omega) (by omega), show o = m by omega]
    | succ c ih =>
      intro o x F o0 ho x0 x1 hx hr fr
      have un : VJ (prW g l) (VV (prW g) m 0) (s - pw l) (c + 1) o x = VJ (prW g l) (VV (prW g) m 0) (s - pw l) c (o + 1) (if orT (s - pw l) o = 1 then (if x ≤ prW g l o + VV (prW g) m 0 (s - pw l - pw o) then prW g l o + VV (prW g) m 0 (s - pw l - pw o) else x) else x) := rfl
      rw [un, zb_M_allBest_38]
      simp (disch := omega) only [Int.reduceAdd, zrow_r, zrow_in, zrow_up, zrow_ne, zupE]
      rw [zG2 (by decide) (by decide), zb_M_allBest_43, if_neg (by omega), zb_M_allBest_44, r_isOf ⟨p0, by omega⟩ ⟨by omega, by omega⟩, zK_i, zb_M_allBest_47]
      by_cases b : orT (s - pw l) o = 1
      · obtain ⟨q0, q1, q2, _⟩ := pw_of p0 (by omega) (show 0 ≤ o by omega) (by omega) b
        have wr := prW_le hg l0 l1 (show 0 ≤ o by omega) (by omega)
        have v2 := vr (s - pw l - pw o)
        rw [if_pos b, if_neg (by decide), if_pos b, zb_M_allBest_48, zG2 s0 (by omega)]
        simp (disch := omega) only [Int.reduceAdd, zrow_r, zrow_in, zrow_up, zrow_ne, zupE]
        rw [hx, zb_M_allBest_55, r_both l0 (by omega) (by omega) (by omega) (hg l l0 l1) (hg o (by omega) (by omega)), zK_i, zb_M_allBest_59, q2, zG2 q0 (by omega)]
        simp (disch := omega) only [Int.reduceAdd, zrow_r, zrow_in, zrow_up, zrow_ne, zupE]
        rw [hr _ q0 (by omega), zb_M_allBest_69, zw_id (z := prW g l o + VV (prW g) m 0 (s - pw l - pw o)) (by omega) (by omega), r_greater, zK_i, zb_M_allBest_71, zG2 s0 (by omega)]
        simp (disch := omega) only [Int.reduceAdd, zrow_r, zrow_in, zrow_up, zrow_ne, zupE]
        rw [zb_M_allBest_72, zw_id (z := o + 1) (by omega) (by omega)]
        refine ih (o + 1) _ _ (by omega) (by omega) ?_ ?_ (zupE rfl rfl) (fun r r0 r1 => by rw [zup_nk (by omega)]; exact hr r r0 r1) (fun o k a => (zup_na a).trans (fr o k a))
        · split <;> omega
        · split <;> omega
      · rw [if_neg b, if_pos rfl, if_neg b, zb_M_allBest_72, zw_id (z := o + 1) (by omega) (by omega)]
        exact ih (o + 1) x F (by omega) (by omega) x0 x1 hx hr fr
  have outer : ∀ (c : Nat) (s : Int) (v2 v3 v4 : zV) (F : Int → Int → Int), 1 ≤ s → s + c = orM m → (∀ r, 0 ≤ r → r < s → F 1476 r = VV (prW g) m 0 r) → (∀ o k, o ≠ 1476 → F o k = h o k) → ∃ F2, zD (true, q) (d + 3) zc_M_allBest (zat zc_M_allBest 7) [(20, 1464, 0), (0, s, 0), v2, v3, v4] [] (zrow F 1465 g, t) = some ((9, 0, 0), (zrow F2 1465 g, t)) ∧ (∀ r, 0 ≤ r → r < orM m → F2 1476 r = VV (prW g) m 0 r) ∧ ∀ o k, o ≠ 1476 → F2 o k = h o k := by
    intro c
    induction c with
    | zero =>
      intro s v2 v3 v4 F s0 hs hr fr
      refine ⟨F, ?_, fun r r0 r1 => hr r r0 (by omega), fr⟩
      rw [zb_M_allBest_7]
      simp (disch := omega) only [Int.reduceAdd, zrow_r, zrow_in, zrow_up, zrow_ne, zupE]
      rw [zG2 (by decide) (by decide), zb_M_allBest_13, hm, hM.1, if_pos (by omega), zb_M_allBest_76]
    | succ c ih =>
      intro s v2 v3 v4 F s0 hs hr fr
      obtain ⟨l, l0, l4, hl, hz⟩ := low_ex (s := s) (by omega) (by omega)
      have lm : l < (m : Int) := by
        rcases Int.lt_or_le l m with a | a
        · exact a
        · have := orM_lt (s := s) (m := m) (j := l) m4 (by omega) (by omega) (by omega) a (by omega)
          omega
      obtain ⟨p0, p1, p2, p3⟩ := pw_of (s := s) (by omega) (by omega) l0 l4 hl
      have vr0 := vr (s - pw l)
      obtain ⟨F2, r2, a2, b2, fr2⟩ := inner s l (by omega) (by omega) l0 lm hl (m - 1 - l.toNat) (l + 1) (VV (prW g) m 0 (s - pw l)) (zup F 1476 s (VV (prW g) m 0 (s - pw l))) (Int.le_refl _) (by omega) vr0.1 (by omega) (zupE rfl rfl) (fun r r0 r1 => by rw [zup_nk (by omega)]; exact hr r r0 r1) (fun o k a => (zup_na a).trans (fr o k a))
      rw [← VV_low m4 (by omega) (by omega) l0 lm hl hz] at a2
      obtain ⟨F3, r3, b3, fr3⟩ := ih (s + 1) _ _ _ F2 (by omega) (by omega) (fun r r0 r1 => by
        by_cases e : r = s
        · rw [e]; exact a2
        · exact b2 r r0 (by omega)) fr2
      refine ⟨F3, ?_, b3, fr3⟩
      rw [zb_M_allBest_7]
      simp (disch := omega) only [Int.reduceAdd, zrow_r, zrow_in, zrow_up, zrow_ne, zupE]
      rw [zG2 (by decide) (by decide), zb_M_allBest_13, hm, hM.1, if_neg (by omega), zb_M_allBest_15, r_lowest (by omega) (by omega) l0 l4 hl hz, zK_i, zb_M_allBest_17, p2, zG2 p0 (by omega)]
      simp (disch := omega) only [Int.reduceAdd, zrow_r, zrow_in, zrow_up, zrow_ne, zupE]
      rw [hr _ p0 (by omega), zb_M_allBest_33, zG2 (by omega) (by omega)]
      simp (disch := omega) only [Int.reduceAdd, zrow_r, zrow_in, zrow_up, zrow_ne, zupE]
      rw [zb_M_allBest_34, zw_id (z := l + 1) (by omega) (by omega), r2]
      exact r3
  have v00 : VV (prW g) m 0 0 = 0 := by
    have : ∀ (k : Nat) (i : Int), 0 ≤ i → i + k ≤ 4 → VV (prW g) k i 0 = 0 := by
      intro k
      induction k with
      | zero => intro i _ _; rfl
      | succ k ih =>
        intro i i0 hi
        show (if orT 0 i = 1 then _ else VV (prW g) k (i + 1) 0) = 0
        have e : orT 0 i = 0 := by
          rcases (by omega : i = 0 ∨ i = 1 ∨ i = 2 ∨ i = 3) with rfl | rfl | rfl | rfl <;> decide
        rw [if_neg (by omega)]
        exact ih (i + 1) (by omega) (by omega)
    exact this m 0 (Int.le_refl 0) (by omega)
  obtain ⟨F2, r2, b2, fr2⟩ := outer (orM m - 1).toNat 1 (2, 0, 0) (2, 0, 0) (2, 0, 0) (zup h 1476 0 0) (Int.le_refl 1) (by omega) (fun r r0 r1 => by rw [show r = 0 by omega, zupE rfl rfl, v00]) (fun o k a => zup_na a)
  refine ⟨F2, ?_, b2, fr2⟩
  rw [ze_M_allBest, zb_M_allBest_0, zG2 (by decide) (by decide)]
  simp (disch := omega) only [Int.reduceAdd, zrow_r, zrow_in, zrow_up, zrow_ne, zupE]
  rw [zb_M_allBest_5]
  exact r2

