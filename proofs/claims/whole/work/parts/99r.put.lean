/-! ## the class puts units; both gather lengths -/
theorem zup_back {F : Int → Int → Int} {i k s c x y : Int} (h1 : F 320 i = x) (h2 : F 319 k = y) : zup (zup (zup (zup F 320 i s) 319 k c) 320 i x) 319 k y = F := by
  funext o j
  by_cases c1 : o = 319 ∧ j = k
  · rw [zupE c1.1 c1.2, c1.1, c1.2, h2]
  · rw [zup_nka (by omega)]
    by_cases c2 : o = 320 ∧ j = i
    · rw [zupE c2.1 c2.2, c2.1, c2.2, h1]
    · rw [zup_nka (by omega), zup_nka (by omega), zup_nka (by omega)]
theorem c_putWays {q : Int × (Int → Int)} {d : Nat} {t : (Int → Int) × Nat × Nat × Nat × (Int → Int → Bool)} {S A : Int → Int} {m : Nat} {n M : Int} (m4 : m ≤ 4) (n8 : n ≤ 8) (M0 : 0 ≤ M) (hM : M < 2000000000) (hA : ∀ j, 0 ≤ j → j < n → 1 ≤ A j ∧ A j ≤ 9) : ∀ (r : Nat) (k : Int) (R : Int → Int) (F : Int → Int → Int), 0 ≤ k → k + r = n → F 317 5 = n → F 23 4 = m → (∀ l, 0 ≤ l → l < (m : Int) → F (46 + 18 * l) 4 = S l ∧ F 320 l = R l ∧ 0 ≤ R l ∧ R l ≤ 9 * k ∧ R l ≤ M) → (∀ j, 0 ≤ j → j < n → F 318 j = A j) → (∀ j, k ≤ j → j < n → F 319 j = -1) →
  (LG S A m r k R ≤ M → ∃ F2, zM (true, q) (d + r + 1) 220 [(17, 317, 0), (18, 23, 0), (0, k, 0), (0, M, 0)] (F, t) = some ((0, 1, 0), (F2, t)) ∧ (∀ o k, o ≠ 319 → o ≠ 320 → F2 o k = F o k) ∧ (∀ j, k ≤ j → j < n → F2 319 j = chP S A m M r k R j) ∧ ∀ j, j < k → F2 319 j = F 319 j) ∧ (¬ LG S A m r k R ≤ M → zM (true, q) (d + r + 1) 220 [(17, 317, 0), (18, 23, 0), (0, k, 0), (0, M, 0)] (F, t) = some ((0, 0, 0), (F, t))) := by
  intro r
  induction r with
  | zero =>
    intro k R F k0 hk h5 h4 hl ha hc
    have run : zM (true, q) (d + 0 + 1) 220 [(17, 317, 0), (18, 23, 0), (0, k, 0), (0, M, 0)] (F, t) = (if k < n then zD (true, q) (d + 0 + 1) zc_Way_putUnit (zat zc_Way_putUnit 6) [(17, 317, 0), (18, 23, 0), (0, k, 0), (0, M, 0), (2, 0, 0), (2, 0, 0)] [] (F, t) else zD (true, q) (d + 0 + 1) zc_Way_putUnit (zat zc_Way_putUnit 4) [(17, 317, 0), (18, 23, 0), (0, k, 0), (0, M, 0), (2, 0, 0), (2, 0, 0)] [] (F, t)) := by
      rw [ze_Way_putUnit, zb_Way_putUnit_0]
      show (if k < F 317 5 then _ else _) = _
      rw [h5]
    refine ⟨fun _ => ⟨F, ?_, fun _ _ _ _ => rfl, fun j j0 j1 => by omega, fun _ _ => rfl⟩, fun h => absurd ((lgMx_le m 0 0).mpr ⟨M0, fun l l0 l1 => ?_⟩) h⟩
    · rw [run, if_neg (by omega), zb_Way_putUnit_4, zG2 (by decide) (by decide)]
    · exact (hl l l0 (by omega)).2.2.2.2
  | succ r ih =>
    intro k R F k0 hk h5 h4 hl ha hc
    have hak := hA k k0 (by omega)
    have fk := ha k k0 (by omega)
    have loop : ∀ (j : Nat) (i : Int) (v5 : zV), 0 ≤ i → i + j = m → (∀ fi, fi = fiP S A m r k R M j i → fi < m → ∃ F2, zD (true, q) (d + r + 2) zc_Way_putUnit (zat zc_Way_putUnit 8) [(17, 317, 0), (18, 23, 0), (0, k, 0), (0, M, 0), (0, i, 0), v5] [] (F, t) = some ((0, 1, 0), (F2, t)) ∧ (∀ o k, o ≠ 319 → o ≠ 320 → F2 o k = F o k) ∧ (F2 319 k = fi) ∧ (∀ j, k + 1 ≤ j → j < n → F2 319 j = chP S A m M r (k + 1) (zup1 R fi (R fi + A k)) j) ∧ ∀ j, j < k → F2 319 j = F 319 j) ∧ (fiP S A m r k R M j i = m → zD (true, q) (d + r + 2) zc_Way_putUnit (zat zc_Way_putUnit 8) [(17, 317, 0), (18, 23, 0), (0, k, 0), (0, M, 0), (0, i, 0), v5] [] (F, t) = some ((0, 0, 0), (F, t))) := by
      intro j
      induction j with
      | zero =>
        intro i v5 i0 hi
        refine ⟨fun fi hfi hlt => ?_, fun _ => ?_⟩
        · have e : fiP S A m r k R M 0 i = i := rfl
          omega
        · rw [zb_Way_putUnit_8]
          show (if F 23 4 ≤ i then _ else _) = _
          rw [if_pos (by omega), zb_Way_putUnit_68, zG2 (by decide) (by decide)]
      | succ j ihj =>
        intro i v5 i0 hi
        obtain ⟨l1, l2, l3, l4, l5⟩ := hl i i0 (by omega)
        have nxt : zD (true, q) (d + r + 2) zc_Way_putUnit (zat zc_Way_putUnit 66) [(17, 317, 0), (18, 23, 0), (0, k, 0), (0, M, 0), (0, i, 0), (0, R i + A k, 0)] [] (F, t) = zD (true, q) (d + r + 2) zc_Way_putUnit (zat zc_Way_putUnit 8) [(17, 317, 0), (18, 23, 0), (0, k, 0), (0, M, 0), (0, i + 1, 0), (0, R i + A k, 0)] [] (F, t) := by
          rw [zb_Way_putUnit_66, zw_id (z := i + 1) (by omega) (by omega)]
        have run : zD (true, q) (d + r + 2) zc_Way_putUnit (zat zc_Way_putUnit 8) [(17, 317, 0), (18, 23, 0), (0, k, 0), (0, M, 0), (0, i, 0), v5] [] (F, t) = (if S i ≠ 2 then zD (true, q) (d + r + 2) zc_Way_putUnit (zat zc_Way_putUnit 66) [(17, 317, 0), (18, 23, 0), (0, k, 0), (0, M, 0), (0, i, 0), (0, R i + A k, 0)] [] (F, t) else zD (true, q) (d + r + 2) zc_Way_putUnit (zat zc_Way_putUnit 28) [(17, 317, 0), (18, 23, 0), (0, k, 0), (0, M, 0), (0, i, 0), (0, R i + A k, 0)] [] (F, t)) := by
          rw [zb_Way_putUnit_8]
          show (if F 23 4 ≤ i then _ else _) = _
          rw [if_neg (by omega), zb_Way_putUnit_12, s_at i0 (by omega), zK_i]
          show zD (true, q) (d + r + 2) zc_Way_putUnit (zat zc_Way_putUnit 16) _ [(0, F 320 i, 0)] (F, t) = _
          rw [l2, zb_Way_putUnit_16, s_at k0 (by omega), zK_i]
          show zD (true, q) (d + r + 2) zc_Way_putUnit (zat zc_Way_putUnit 20) _ [(0, F 318 k, 0), (0, R i, 0)] (F, t) = _
          rw [fk, zb_Way_putUnit_20, s_lineAt i0 (by omega), zK_13, zw_id (z := R i + A k) (by omega) (by omega), zb_Way_putUnit_25]
          show (if F (23 + 23 + 18 * i) 4 ≠ 2 then _ else _) = _
          rw [show (23 : Int) + 23 + 18 * i = 46 + 18 * i by omega, l1]
        have un : fiP S A m r k R M (j + 1) i = if S i = 2 ∧ LG S A m r (k + 1) (zup1 R i (R i + A k)) ≤ M then i else fiP S A m r k R M j (i + 1) := rfl
        have hi1 := ihj (i + 1) (0, R i + A k, 0) (by omega) (by omega)
        by_cases s : S i = 2
        · by_cases hle : R i + A k ≤ M
          · generalize hF' : zup (zup F 320 i (R i + A k)) 319 k i = F'
            have fr' : ∀ o k, o ≠ 319 → o ≠ 320 → F' o k = F o k := fun o k a b => by rw [← hF', zup_na a, zup_na b]
            have hre := ih (k + 1) (zup1 R i (R i + A k)) F' (by omega) (by omega) ((fr' _ _ (by decide) (by decide)).trans h5) ((fr' _ _ (by decide) (by decide)).trans h4) (fun l l0 l1' => by
              obtain ⟨a1, a2, a3, a4, a5⟩ := hl l l0 l1'
              refine ⟨(fr' _ _ (by omega) (by omega)).trans a1, ?_, ?_⟩
              · rw [← hF', zup_na (by decide)]
                by_cases c : l = i
                · rw [c, zupE rfl rfl, zup1_eq rfl]
                · rw [zup_nk c, zup1_ne c]
                  exact a2
              · by_cases c : l = i
                · rw [c, zup1_eq rfl]; omega
                · rw [zup1_ne c]; omega) (fun j j0 j1 => (fr' _ _ (by decide) (by decide)).trans (ha j j0 j1)) (fun j j0 j1 => by
              rw [← hF', zup_nk (by omega), zup_na (by decide)]
              exact hc j (by omega) j1)
            have run2 : zD (true, q) (d + r + 2) zc_Way_putUnit (zat zc_Way_putUnit 8) [(17, 317, 0), (18, 23, 0), (0, k, 0), (0, M, 0), (0, i, 0), v5] [] (F, t) = zD (true, q) (d + r + 2) zc_Way_putUnit (zat zc_Way_putUnit 41) [(17, 317, 0), (18, 23, 0), (0, k, 0), (0, M, 0), (0, i, 0), (0, R i + A k, 0)] [] (F', t) := by
              rw [run, if_neg (fun z => z s), zb_Way_putUnit_28, if_neg (by omega), zb_Way_putUnit_31, s_put i0 (by omega), zK_v, zb_Way_putUnit_36, s_put k0 (by omega), zK_v]
              show zD (true, q) (d + r + 2) zc_Way_putUnit (zat zc_Way_putUnit 41) _ _ (zup (zup F 320 i (R i + A k)) 319 k i, t) = _
              rw [hF']
            by_cases hL : LG S A m r (k + 1) (zup1 R i (R i + A k)) ≤ M
            · rw [if_pos ⟨s, hL⟩] at un
              rw [un]
              obtain ⟨F2, r2, fr2, ch2, lo2⟩ := hre.1 hL
              refine ⟨fun fi hfi hlt => ?_, fun h => by omega⟩
              subst hfi
              refine ⟨F2, ?_, fun o k a b => (fr2 o k a b).trans (fr' o k a b), ?_, ch2, fun j hj => ?_⟩
              · rw [run2, zb_Way_putUnit_41, zw_id (z := k + 1) (by omega) (by omega), r2, zK_i, zb_Way_putUnit_48, if_neg (by decide), zb_Way_putUnit_49, zG2 (by decide) (by decide)]
              · rw [lo2 k (by omega), ← hF', zupE rfl rfl]
              · rw [lo2 j (by omega), ← hF', zup_nk (by omega), zup_na (by decide)]
            · rw [if_neg (fun z => hL z.2)] at un
              have back : zD (true, q) (d + r + 2) zc_Way_putUnit (zat zc_Way_putUnit 8) [(17, 317, 0), (18, 23, 0), (0, k, 0), (0, M, 0), (0, i, 0), v5] [] (F, t) = zD (true, q) (d + r + 2) zc_Way_putUnit (zat zc_Way_putUnit 8) [(17, 317, 0), (18, 23, 0), (0, k, 0), (0, M, 0), (0, i + 1, 0), (0, R i + A k, 0)] [] (F, t) := by
                rw [run2, zb_Way_putUnit_41, zw_id (z := k + 1) (by omega) (by omega), hre.2 hL, zK_i, zb_Way_putUnit_48, if_pos rfl, zb_Way_putUnit_51, s_at k0 (by omega), zK_i]
                show zD (true, q) (d + r + 2) zc_Way_putUnit (zat zc_Way_putUnit 59) _ [(0, F' 318 k, 0), (0, R i + A k, 0), (0, i, 0), (30, 320, 4)] (F', t) = _
                rw [fr' _ _ (by decide) (by decide), fk, zb_Way_putUnit_59, s_put i0 (by omega), zK_v, zb_Way_putUnit_61, s_put k0 (by omega), zK_v]
                show zD (true, q) (d + r + 2) zc_Way_putUnit (zat zc_Way_putUnit 66) _ _ (zup (zup F' 320 i (zw (R i + A k - A k))) 319 k (-1), t) = _
                rw [zw_id (z := R i + A k - A k) (by omega) (by omega), show R i + A k - A k = R i by omega, ← hF', zup_back l2 (hc k (Int.le_refl k) (by omega)), nxt]
              rw [un, back]
              exact hi1
          · have hL : ¬(S i = 2 ∧ LG S A m r (k + 1) (zup1 R i (R i + A k)) ≤ M) := fun z => by
              have := (LG_ge hM r (k + 1) _ (fun j j0 j1 => by have := hA j (by omega) (by omega); omega) z.2).2 i i0 (by omega)
              rw [zup1_eq rfl] at this
              omega
            rw [if_neg hL] at un
            rw [un, run, if_neg (fun z => z s), zb_Way_putUnit_28, if_pos (by omega), nxt]
            exact hi1
        · rw [if_neg (fun z => s z.1)] at un
          rw [un, run, if_pos s, nxt]
          exact hi1
    have run0 : zM (true, q) (d + (r + 1) + 1) 220 [(17, 317, 0), (18, 23, 0), (0, k, 0), (0, M, 0)] (F, t) = zD (true, q) (d + r + 2) zc_Way_putUnit (zat zc_Way_putUnit 8) [(17, 317, 0), (18, 23, 0), (0, k, 0), (0, M, 0), (0, 0, 0), (2, 0, 0)] [] (F, t) := by
      rw [ze_Way_putUnit, zb_Way_putUnit_0]
      show (if k < F 317 5 then _ else _) = _
      rw [h5, if_pos (by omega), zb_Way_putUnit_6]
      rfl
    obtain ⟨Y, Z⟩ := loop m 0 (2, 0, 0) (Int.le_refl 0) (by omega)
    refine ⟨fun h => ?_, fun h => ?_⟩
    · have ok := fiP_ok hM h
      obtain ⟨F2, r2, fr2, c2, ch2, lo2⟩ := Y _ rfl ok.2.1
      refine ⟨F2, by rw [run0]; exact r2, fr2, fun j j0 j1 => ?_, lo2⟩
      have un : chP S A m M (r + 1) k R j = if j = k then fiP S A m r k R M m 0 else chP S A m M r (k + 1) (zup1 R (fiP S A m r k R M m 0) (R (fiP S A m r k R M m 0) + A k)) j := rfl
      rw [un]
      by_cases c : j = k
      · rw [if_pos c, c, c2]
      · rw [if_neg c]
        exact ch2 j (by omega) j1
    · rw [run0]
      refine Z ?_
      have no : ∀ (j : Nat) (i : Int), 0 ≤ i → i + j = m → fiP S A m r k R M j i = m := by
        intro j
        induction j with
        | zero => intro i _ hi; show i = m; omega
        | succ j ihj =>
          intro i i0 hi
          have e : fiP S A m r k R M (j + 1) i = fiP S A m r k R M j (i + 1) := if_neg (fun z => h ((LG_s hM).mpr ⟨i, i0, by omega, z.1, z.2⟩))
          rw [e]
          exact ihj (i + 1) (by omega) (by omega)
      exact no m 0 (Int.le_refl 0) (by omega)

