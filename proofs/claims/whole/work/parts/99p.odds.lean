/-! ## odds -/
def oxA (n : Int) : Nat → Int → Int → Int
  | 0, _, w => w
  | k + 1, i, w => oxA n k (i + 1) (zwl (Int.tdiv (zwl (w * (n - i))) (i + 1)))
def oxB (b c : Int) : Nat → Int → Int → Int
  | 0, _, w => w
  | k + 1, i, w => oxB b c k (i + 1) (zwl (w * (if i < b then c else 100 - c)))
def oxE (n b c : Int) : Int := oxB b c n.toNat 0 (oxA n b.toNat 0 1)
def oxW : Nat → Int → Int
  | 0, a => a
  | k + 1, a => oxW k (zwl (a * 100))
def oxS (n c : Int) : Nat → Int → Int → Int
  | 0, _, s => s
  | k + 1, b, s => oxS n c k (b + 1) (zwl (s + oxE n b c))
def oxR (n k c : Int) : Int := if zcmp (oxW n.toNat 1) 0 ≤ 0 then 0 else zw (zwl (Int.tdiv (zwl (oxS n c (n + 1 - k).toNat k 0 * 10000)) (oxW n.toNat 1)))
def orT (s i : Int) : Int := s / (if i = 0 then 1 else if i = 1 then 2 else if i = 2 then 4 else if i = 3 then 8 else 16) % 2
def orP (s : Int) : Int := s % 2 + s / 2 % 2 + s / 4 % 2 + s / 8 % 2 + s / 16 % 2
def orB (s c : Int) : Nat → Int → Int → Int
  | 0, _, w => w
  | k + 1, i, w => orB s c k (i + 1) (zwl (w * (if orT s i = 1 then c else 100 - c)))
def orS (n k c : Int) : Nat → Int → Int → Int
  | 0, _, s => s
  | m + 1, z, s => orS n k c m (z + 1) (zwl (s + orB z c n.toNat 0 (if k ≤ orP z then 1 else 0)))
def orM (n : Int) : Int := if n = 0 then 1 else if n = 1 then 2 else if n = 2 then 4 else if n = 3 then 8 else if n = 4 then 16 else 32
def orR (n k c : Int) : Int := zw (zwl (Int.tdiv (zwl (10000 * orS n k c (orM n).toNat 0 0)) (oxW n.toNat 1)))
theorem od_dec : ∀ n : Nat, n < 6 → ∀ k : Nat, k < 6 → ∀ c : Nat, c < 101 → oxR n k c = orR n k c := by
  decide +kernel
theorem od_eq {n k c : Int} (hn : 0 ≤ n ∧ n ≤ 5) (hk : 0 ≤ k ∧ k ≤ 5) (hc : 0 ≤ c ∧ c ≤ 100) : oxR n k c = orR n k c := by
  have h := od_dec n.toNat (by omega) k.toNat (by omega) c.toNat (by omega)
  rw [Int.toNat_of_nonneg hn.1, Int.toNat_of_nonneg hk.1, Int.toNat_of_nonneg hc.1] at h
  exact h
theorem orT_dec : ∀ s : Nat, s < 32 → ∀ i : Nat, i < 5 → zand (zshr s i) 1 = orT s i := by
  decide +kernel
theorem orT_eq {s i : Int} (hs : 0 ≤ s ∧ s < 32) (hi : 0 ≤ i ∧ i < 5) : zand (zshr s i) 1 = orT s i := by
  have h := orT_dec s.toNat (by omega) i.toNat (by omega)
  rw [Int.toNat_of_nonneg hs.1, Int.toNat_of_nonneg hi.1] at h
  exact h
theorem orP_dec : ∀ s : Nat, s < 32 → bS s 31 0 0 = orP s := by
  decide +kernel
theorem orP_eq {s : Int} (hs : 0 ≤ s ∧ s < 32) : bS s 31 0 0 = orP s := by
  have h := orP_dec s.toNat (by omega)
  rw [Int.toNat_of_nonneg hs.1] at h
  exact h
theorem orM_eq {n : Int} (hn : 0 ≤ n ∧ n ≤ 5) : zshl 1 n = orM n ∧ 1 ≤ orM n ∧ orM n ≤ 32 := by
  rcases (by omega : n = 0 ∨ n = 1 ∨ n = 2 ∨ n = 3 ∨ n = 4 ∨ n = 5) with rfl | rfl | rfl | rfl | rfl | rfl <;> decide +kernel
theorem oxW_ne {n : Int} (hn : 0 ≤ n ∧ n ≤ 5) : oxW n.toNat 1 ≠ 0 := by
  rcases (by omega : n = 0 ∨ n = 1 ∨ n = 2 ∨ n = 3 ∨ n = 4 ∨ n = 5) with rfl | rfl | rfl | rfl | rfl | rfl <;> decide +kernel
theorem c_exactly {q : Int × (Int → Int)} {d : Nat} {σ : zS} {n b c : Int} (hn : 0 ≤ n ∧ n ≤ 5) (hb : 0 ≤ b ∧ b ≤ 5) (hc : 0 ≤ c ∧ c ≤ 100) : zM (true, q) d 274 [(0, n, 0), (0, b, 0), (0, c, 0)] σ = some ((1, oxE n b c, 0), σ) := by
  have l1 : ∀ (k : Nat) (i w : Int), 0 ≤ i → i + k = b → zD (true, q) d zc_X_exactly (zat zc_X_exactly 4) [(0, n, 0), (0, b, 0), (0, c, 0), (1, w, 0), (2, 1, 0), (0, i, 0)] [] σ = zD (true, q) d zc_X_exactly (zat zc_X_exactly 21) [(0, n, 0), (0, b, 0), (0, c, 0), (1, oxA n k i w, 0), (2, 1, 0), (0, b, 0)] [] σ := by
    intro k
    induction k with
    | zero =>
      intro i w i0 hi
      rw [zb_X_exactly_4, if_pos (by omega), show i = b by omega]
      rfl
    | succ k ih =>
      intro i w i0 hi
      rw [zb_X_exactly_4, if_neg (by omega), zb_X_exactly_7, zw_id (z := i + 1) (by omega) (by omega), zw_id (z := n - i) (by omega) (by omega), zG1 (by omega), zb_X_exactly_18, zw_id (z := i + 1) (by omega) (by omega)]
      exact ih (i + 1) _ (by omega) (by omega)
  have l2 : ∀ (k : Nat) (i w : Int), 0 ≤ i → i + k = n → zD (true, q) d zc_X_exactly (zat zc_X_exactly 23) [(0, n, 0), (0, b, 0), (0, c, 0), (1, w, 0), (2, 1, 0), (0, i, 0)] [] σ = some ((1, oxB b c k i w, 0), σ) := by
    intro k
    induction k with
    | zero =>
      intro i w i0 hi
      rw [zb_X_exactly_23, if_pos (by omega), zb_X_exactly_41]
      rfl
    | succ k ih =>
      intro i w i0 hi
      have un : oxB b c (k + 1) i w = oxB b c k (i + 1) (zwl (w * (if i < b then c else 100 - c))) := rfl
      rw [un, zb_X_exactly_23, if_neg (by omega), zb_X_exactly_26]
      by_cases h : i < b
      · rw [if_neg (by omega), if_pos h, zb_X_exactly_30, zw_id (z := i + 1) (by omega) (by omega)]
        exact ih (i + 1) _ (by omega) (by omega)
      · rw [if_pos (by omega), if_neg h, zb_X_exactly_33, zw_id (z := i + 1) (by omega) (by omega), zw_id (z := 100 - c) (by omega) (by omega)]
        exact ih (i + 1) _ (by omega) (by omega)
  rw [ze_X_exactly, zb_X_exactly_0, l1 b.toNat 0 1 (by decide) (by omega), zb_X_exactly_21]
  exact l2 n.toNat 0 _ (by decide) (by omega)
theorem r_isOf {q : Int × (Int → Int)} {d : Nat} {σ : zS} {s i : Int} (hs : 0 ≤ s ∧ s < 32) (hi : 0 ≤ i ∧ i < 5) : zM (true, q) d 258 [(0, s, 0), (0, i, 0)] σ = some ((0, if orT s i = 1 then 1 else 0, 0), σ) := by
  rw [ze_M_isOf, zb_M_isOf_0, orT_eq hs hi]
  by_cases h : orT s i = 1
  · rw [if_neg (fun z => z h), if_pos h, zb_M_isOf_7, zG2 (by decide) (by decide)]
  · rw [if_pos h, if_neg h, zb_M_isOf_9, zG2 (by decide) (by decide)]
theorem o_odds {q : Int × (Int → Int)} {N : Int} {f : Int → Int → Int} {t : (Int → Int) × Nat × Nat × Nat × (Int → Int → Bool)} {l n k : Int} (hR : ZR N f f) : zOw q N f t 276 [(19, 0, 0), (0, l, 0), (0, n, 0), (0, k, 0), (31, 1478, 1)] 277 [(20, 1464, 0), (0, l, 0), (0, n, 0), (0, k, 0)] := by
  have h4 := ZR_4 hR
  by_cases hl : 0 ≤ l ∧ l < f 1465 3
  · have hla := zLT (q := q) (d := 1896) (t := t) hR hl.1 hl.2
    by_cases hn : (0 ≤ n ∧ n ≤ 5) ∧ (0 ≤ k ∧ k ≤ 5)
    · obtain ⟨hn, hk⟩ := hn
      obtain ⟨c, f1, c0, c1, r1, fr1, rr⟩ := ZR_fill (q := q) (t := t) hR hl.1 hl.2
      have cW : ∀ (j : Nat) (i a : Int), 0 ≤ i → i + j = n → zD (true, q) 1898 zc_X_odds (zat zc_X_odds 32) [(19, 0, 0), (0, l, 0), (0, n, 0), (0, k, 0), (0, c, 0), (1, 0, 0), (2, 1, 0), (1, a, 0), (2, 1, 0), (0, i, 0)] [] (f1, t) = zD (true, q) 1898 zc_X_odds (zat zc_X_odds 41) [(19, 0, 0), (0, l, 0), (0, n, 0), (0, k, 0), (0, c, 0), (1, 0, 0), (2, 1, 0), (1, oxW j a, 0), (2, 1, 0), (0, n, 0)] [] (f1, t) := by
        intro j
        induction j with
        | zero =>
          intro i a i0 hi
          rw [zb_X_odds_32, if_pos (by omega), show i = n by omega]
          rfl
        | succ j ih =>
          intro i a i0 hi
          rw [zb_X_odds_32, if_neg (by omega), zb_X_odds_35, zw_id (z := i + 1) (by omega) (by omega)]
          exact ih (i + 1) _ (by omega) (by omega)
      have cS : ∀ (j : Nat) (b s a : Int), 0 ≤ b → b ≤ 6 → (b + j = n + 1 ∨ (j = 0 ∧ n < b)) → ∃ b2, zD (true, q) 1898 zc_X_odds (zat zc_X_odds 43) [(19, 0, 0), (0, l, 0), (0, n, 0), (0, k, 0), (0, c, 0), (1, s, 0), (2, 1, 0), (1, a, 0), (2, 1, 0), (0, b, 0)] [] (f1, t) = zD (true, q) 1898 zc_X_odds (zat zc_X_odds 55) [(19, 0, 0), (0, l, 0), (0, n, 0), (0, k, 0), (0, c, 0), (1, oxS n c j b s, 0), (2, 1, 0), (1, a, 0), (2, 1, 0), (0, b2, 0)] [] (f1, t) := by
        intro j
        induction j with
        | zero =>
          intro b s a b0 b6 hb
          exact ⟨b, by rw [zb_X_odds_43, if_pos (by omega)]; rfl⟩
        | succ j ih =>
          intro b s a b0 b6 hb
          obtain ⟨b2, r2⟩ := ih (b + 1) (zwl (s + oxE n b c)) a (by omega) (by omega) (by omega)
          refine ⟨b2, ?_⟩
          rw [zb_X_odds_43, if_neg (by omega), zb_X_odds_46, c_exactly hn (by omega) ⟨c0, c1⟩, zK_l, zb_X_odds_51, zw_id (z := b + 1) (by omega) (by omega), r2]
          rfl
      obtain ⟨b2, rS⟩ := cS (n + 1 - k).toNat k 0 (oxW n.toNat 1) hk.1 (by omega) (by omega)
      have hx : zM (true, q) 1898 275 [(19, 0, 0), (0, l, 0), (0, n, 0), (0, k, 0)] (f, t) = some ((0, oxR n k c, 0), (f1, t)) := by
        rw [ze_X_odds, zb_X_odds_0, hla, zK_13, zb_X_odds_3, if_neg (by omega), zb_X_odds_6, if_neg (by omega), zb_X_odds_9, if_neg (by omega), zb_X_odds_11, if_pos (by omega), zb_X_odds_19]
        show zK _ _ _ _ _ _ (zM (true, q) 1897 208 [(18, 23, 0), (0, l, 0), (12, 2, 0)] (f, t)) = _
        rw [r1, zK_i, zb_X_odds_25, cW n.toNat 0 1 (by decide) (by omega), zb_X_odds_41, rS, zb_X_odds_55]
        unfold oxR
        by_cases h : zcmp (oxW n.toNat 1) 0 ≤ 0
        · rw [if_pos h, if_pos h, zb_X_odds_66]
        · rw [if_neg h, if_neg h, zb_X_odds_59, zG1 (oxW_ne hn), zb_X_odds_64]
      have hkk := k_odds_v hx
      have e : (zup f1 1478 0 (oxR n k c), t) = (zrow (zup f1 1478 0 (oxR n k c)) 1465 (f 1465), t) := by
        rw [show f 1465 = zup f1 1478 0 (oxR n k c) 1465 from funext fun k => ((zup_na (by decide)).trans (fr1 _ _ (by decide) (by decide))).symm, zrow_id]
      obtain ⟨h2, r2, fr2⟩ := rr 1837 (zup (zup f1 1478 0 (oxR n k c)) 1464 0 0) t
      obtain ⟨a1, a2, a3⟩ := zFrA_h (g := f 1465) fr2
      generalize zrow h2 1465 (f 1465) = H at r2 a1 a2 a3
      have rW : ∀ (j : Nat) (i a : Int), 0 ≤ i → i + j = n → zD (true, q) 1899 zc_M_odds (zat zc_M_odds 36) [(20, 1464, 0), (0, l, 0), (0, n, 0), (0, k, 0), (0, c, 0), (1, 0, 0), (2, 1, 0), (1, a, 0), (2, 1, 0), (0, i, 0), (2, 0, 0), (2, 0, 0), (2, 0, 0)] [] (H, t) = zD (true, q) 1899 zc_M_odds (zat zc_M_odds 45) [(20, 1464, 0), (0, l, 0), (0, n, 0), (0, k, 0), (0, c, 0), (1, 0, 0), (2, 1, 0), (1, oxW j a, 0), (2, 1, 0), (0, n, 0), (2, 0, 0), (2, 0, 0), (2, 0, 0)] [] (H, t) := by
        intro j
        induction j with
        | zero =>
          intro i a i0 hi
          rw [zb_M_odds_36, if_pos (by omega), show i = n by omega]
          rfl
        | succ j ih =>
          intro i a i0 hi
          rw [zb_M_odds_36, if_neg (by omega), zb_M_odds_39, zw_id (z := i + 1) (by omega) (by omega)]
          exact ih (i + 1) _ (by omega) (by omega)
      have rB : ∀ (z s a : Int), 0 ≤ z ∧ z < 32 → ∀ (j : Nat) (i w : Int), 0 ≤ i → i + j = n → zD (true, q) 1899 zc_M_odds (zat zc_M_odds 62) [(20, 1464, 0), (0, l, 0), (0, n, 0), (0, k, 0), (0, c, 0), (1, s, 0), (2, 1, 0), (1, a, 0), (2, 1, 0), (0, z, 0), (1, w, 0), (2, 1, 0), (0, i, 0)] [] (H, t) = zD (true, q) 1899 zc_M_odds (zat zc_M_odds 81) [(20, 1464, 0), (0, l, 0), (0, n, 0), (0, k, 0), (0, c, 0), (1, s, 0), (2, 1, 0), (1, a, 0), (2, 1, 0), (0, z, 0), (1, orB z c j i w, 0), (2, 1, 0), (0, n, 0)] [] (H, t) := by
        intro z s a hz j
        induction j with
        | zero =>
          intro i w i0 hi
          rw [zb_M_odds_62, if_pos (by omega), show i = n by omega]
          rfl
        | succ j ih =>
          intro i w i0 hi
          have un : orB z c (j + 1) i w = orB z c j (i + 1) (zwl (w * (if orT z i = 1 then c else 100 - c))) := rfl
          rw [un, zb_M_odds_62, if_neg (by omega), zb_M_odds_65, r_isOf hz ⟨i0, by omega⟩, zK_i, zb_M_odds_69]
          by_cases h : orT z i = 1
          · rw [if_pos h, if_neg (by decide), if_pos h, zb_M_odds_70, zw_id (z := i + 1) (by omega) (by omega)]
            exact ih (i + 1) _ (by omega) (by omega)
          · rw [if_neg h, if_pos rfl, if_neg h, zb_M_odds_73, zw_id (z := i + 1) (by omega) (by omega), zw_id (z := 100 - c) (by omega) (by omega)]
            exact ih (i + 1) _ (by omega) (by omega)
      have hM := orM_eq hn
      have rS2 : ∀ (j : Nat) (z s a : Int) (v10 v11 v12 : zV), 0 ≤ z → z + j = orM n → a ≠ 0 → zD (true, q) 1899 zc_M_odds (zat zc_M_odds 47) [(20, 1464, 0), (0, l, 0), (0, n, 0), (0, k, 0), (0, c, 0), (1, s, 0), (2, 1, 0), (1, a, 0), (2, 1, 0), (0, z, 0), v10, v11, v12] [] (H, t) = some ((0, zw (zwl (Int.tdiv (zwl (10000 * orS n k c j z s)) a)), 0), (H, t)) := by
        intro j
        induction j with
        | zero =>
          intro z s a v10 v11 v12 z0 hz ha
          rw [zb_M_odds_47, hM.1, if_pos (by omega), zb_M_odds_87, zG1 ha, zb_M_odds_92]
          rfl
        | succ j ih =>
          intro z s a v10 v11 v12 z0 hz ha
          have un : orS n k c (j + 1) z s = orS n k c j (z + 1) (zwl (s + orB z c n.toNat 0 (if k ≤ orP z then 1 else 0))) := rfl
          have fin : ∀ w, zD (true, q) 1899 zc_M_odds (zat zc_M_odds 62) [(20, 1464, 0), (0, l, 0), (0, n, 0), (0, k, 0), (0, c, 0), (1, s, 0), (2, 1, 0), (1, a, 0), (2, 1, 0), (0, z, 0), (1, w, 0), (2, 1, 0), (0, 0, 0)] [] (H, t) = some ((0, zw (zwl (Int.tdiv (zwl (10000 * orS n k c j (z + 1) (zwl (s + orB z c n.toNat 0 w)))) a)), 0), (H, t)) := by
            intro w
            rw [rB z s a ⟨z0, by omega⟩ n.toNat 0 w (by decide) (by omega), zb_M_odds_81, zw_id (z := z + 1) (by omega) (by omega)]
            exact ih (z + 1) _ a _ _ _ (by omega) (by omega) ha
          rw [un, zb_M_odds_47, hM.1, if_neg (by omega), zb_M_odds_52, r_bits, orP_eq ⟨z0, by omega⟩, zK_i, zb_M_odds_54]
          by_cases h : k ≤ orP z
          · rw [if_pos h, if_pos h, zb_M_odds_58]
            exact fin 1
          · rw [if_neg h, if_neg h, zb_M_odds_56]
            exact fin 0
      have hm : zM (true, q) 1899 277 [(20, 1464, 0), (0, l, 0), (0, n, 0), (0, k, 0)] (zup f1 1478 0 (oxR n k c), t) = some ((0, oxR n k c, 0), (H, t)) := by
        rw [e, ze_M_odds, zb_M_odds_0, r_isLineT hl.1 hl.2 h4.2.2, zK_i, zb_M_odds_4, if_pos (by decide), zb_M_odds_7, r_isInT hn.1 hn.2, zK_i, zb_M_odds_11, if_neg (by decide), zb_M_odds_12, r_isInT hk.1 hk.2, zK_i, zb_M_odds_16, if_pos (by decide), zb_M_odds_19]
        simp (disch := omega) only [Int.reduceAdd, zrow_r, zrow_in, zrow_up, zrow_ne, zupE]
        rw [if_pos (by decide), zb_M_odds_26, r2, zK_i, zb_M_odds_29, rW n.toNat 0 1 (by decide) (by omega), zb_M_odds_45, rS2 (orM n).toNat 0 0 _ _ _ _ (by decide) (by omega) (oxW_ne hn), od_eq hn hk ⟨c0, c1⟩]
        rfl
      have e2 : zrow (zup f1 1478 0 (oxR n k c)) 1465 (f 1465) = zup f1 1478 0 (oxR n k c) := (congrArg Prod.fst e).symm
      rw [e2] at a1 a2
      exact zOw_pure hR hkk (fun o k a => (zup_na (by omega)).trans (fr1 o k (by omega) (by omega))) (fun o k o1 o2 => (zup_na o2).trans (fr1 o k (by omega) (by omega))) zTt_refl hm a2 a1 a3 (fun _ => zupE rfl rfl)
    · have hx : zM (true, q) 1898 275 [(19, 0, 0), (0, l, 0), (0, n, 0), (0, k, 0)] (f, t) = some ((100, 0, 0), (f, zThr t)) := by
        rw [ze_X_odds, zb_X_odds_0, hla, zK_13, zb_X_odds_3]
        by_cases h1 : n < 0
        · rw [if_pos h1, zb_X_odds_14]
          rfl
        · rw [if_neg h1, zb_X_odds_6]
          by_cases h2 : 5 < n
          · rw [if_pos h2, zb_X_odds_14]
            rfl
          · rw [if_neg h2, zb_X_odds_9]
            by_cases h3 : k < 0
            · rw [if_pos h3, zb_X_odds_14]
              rfl
            · rw [if_neg h3, zb_X_odds_11, if_neg (by omega), zb_X_odds_14]
              rfl
      refine zOw_t (v := 0) rfl hR (by decide) (k_odds_100 hx) (fun h => ?_)
      rw [ze_M_odds, zb_M_odds_0, r_isLineT hl.1 hl.2 h4.2.2, zK_i, zb_M_odds_4, if_pos (by decide), zb_M_odds_7]
      by_cases hn1 : 0 ≤ n ∧ n ≤ 5
      · rw [r_isInT hn1.1 hn1.2, zK_i, zb_M_odds_11, if_neg (by decide), zb_M_odds_12, r_isInF (by omega), zK_i, zb_M_odds_16, if_neg (fun z => z rfl), zb_M_odds_17]
        simp (disch := omega) only [Int.reduceAdd, zrow_r, zrow_in, zrow_up, zrow_ne, zupE]
        rw [if_neg (by decide), zb_M_odds_24]
      · rw [r_isInF (by omega), zK_i, zb_M_odds_11, if_pos rfl, zb_M_odds_17]
        simp (disch := omega) only [Int.reduceAdd, zrow_r, zrow_in, zrow_up, zrow_ne, zupE]
        rw [if_neg (by decide), zb_M_odds_24]
  · have hx : zM (true, q) 1898 275 [(19, 0, 0), (0, l, 0), (0, n, 0), (0, k, 0)] (f, t) = some ((102, 0, 0), (f, zThr t)) := by
      rw [ze_X_odds, zb_X_odds_0, zLF_ hR hl]
      rfl
    refine zOw_t (v := 0) rfl hR (by decide) (k_odds_102 hx) (fun h => ?_)
    rw [ze_M_odds, zb_M_odds_0, r_isLineF (by omega) h4.2.1 h4.2.2, zK_i, zb_M_odds_4, if_neg (fun z => z rfl), zb_M_odds_5]
    simp (disch := omega) only [Int.reduceAdd, zrow_r, zrow_in, zrow_up, zrow_ne, zupE]
    rw [if_neg (by decide), zb_M_odds_24]

