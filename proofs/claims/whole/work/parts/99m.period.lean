/-! ## period, likely, probe -/
theorem gWc_fit {T : Int → Int} {m c : Int} (m0 : 0 ≤ m) (h : gWc T m c ≤ 1) : gW T c m.toNat 0 0 = gWc T m c := by
  unfold gWc at h ⊢
  by_cases c1 : c % 12 ≤ c / 12
  · rw [if_pos c1]
  · rw [if_neg c1] at h
    omega
theorem gWc_rng {T : Int → Int} {m c : Int} (m0 : 0 ≤ m) : 0 ≤ gWc T m c := by
  have := gW_rng (T := T) (c := c) m.toNat 0 0
  unfold gWc
  split <;> omega
def gF (W : Int → Int) : Nat → Int → Int → Int
  | 0, _, a => a
  | k + 1, c, a => gF W k (c + 1) (if W c ≤ 1 then a + 1 else a)
def gLk (W : Int → Int) : Nat → Int → Int → Int → Int
  | 0, _, x, _ => x
  | k + 1, c, x, w => if W c < w then gLk W k (c + 1) c (W c) else gLk W k (c + 1) x w
def gH (W : Int → Int) (tk : Int) : Nat → Int → Int → Int
  | 0, _, a => a
  | k + 1, c, a => gH W tk k (c + 1) (if W c ≤ 1 ∧ hitI tk c = 1 then a + 1 else a)
theorem gF_rng {W : Int → Int} : ∀ (k : Nat) (c a : Int), a ≤ gF W k c a ∧ gF W k c a ≤ a + k := by
  intro k
  induction k with
  | zero => intro c a; show a ≤ a ∧ a ≤ a + 0; omega
  | succ k ih =>
    intro c a
    have h2 : a ≤ (if W c ≤ 1 then a + 1 else a) ∧ (if W c ≤ 1 then a + 1 else a) ≤ a + 1 := by split <;> omega
    show a ≤ gF W k (c + 1) (if W c ≤ 1 then a + 1 else a) ∧ gF W k (c + 1) (if W c ≤ 1 then a + 1 else a) ≤ a + (k + 1 : Nat)
    generalize (if W c ≤ 1 then a + 1 else a) = w2 at h2 ⊢
    have := ih (c + 1) w2
    omega
theorem gH_rng {W : Int → Int} {tk : Int} : ∀ (k : Nat) (c a b : Int), a ≤ b → a ≤ gH W tk k c a ∧ gH W tk k c a ≤ gF W k c b := by
  intro k
  induction k with
  | zero => intro c a b h; show a ≤ a ∧ a ≤ b; omega
  | succ k ih =>
    intro c a b h
    have h2 : a ≤ (if W c ≤ 1 ∧ hitI tk c = 1 then a + 1 else a) ∧ (if W c ≤ 1 ∧ hitI tk c = 1 then a + 1 else a) ≤ (if W c ≤ 1 then b + 1 else b) := by
      by_cases c1 : W c ≤ 1
      · rw [if_pos c1]
        split <;> omega
      · rw [if_neg c1, if_neg (fun z => c1 z.1)]
        omega
    show a ≤ gH W tk k (c + 1) (if W c ≤ 1 ∧ hitI tk c = 1 then a + 1 else a) ∧ gH W tk k (c + 1) (if W c ≤ 1 ∧ hitI tk c = 1 then a + 1 else a) ≤ gF W k (c + 1) (if W c ≤ 1 then b + 1 else b)
    have := ih (c + 1) _ _ h2.2
    omega
theorem c_howMany {q : Int × (Int → Int)} {d : Nat} {σ : zS} {W : Int → Int} (hW : ∀ c, 0 ≤ c → c < 144 → σ.1 316 c = W c) : zM (true, q) d 235 [(14, 313, 0)] σ = some ((0, gF W 144 0 0, 0), σ) := by
  have loop : ∀ (k : Nat) (c a : Int), 0 ≤ c → c + k = 144 → 0 ≤ a → a ≤ c → zD (true, q) d zc_Per_howMany (zat zc_Per_howMany 4) [(14, 313, 0), (0, a, 0), (0, c, 0)] [] σ = some ((0, gF W k c a, 0), σ) := by
    intro k
    induction k with
    | zero =>
      intro c a c0 hc a0 a1
      rw [zb_Per_howMany_4, if_pos (by omega), zb_Per_howMany_18]
      rfl
    | succ k ih =>
      intro c a c0 hc a0 a1
      have e := hW c c0 (by omega)
      have un : gF W (k + 1) c a = gF W k (c + 1) (if W c ≤ 1 then a + 1 else a) := rfl
      rw [un, zb_Per_howMany_4, if_neg (by omega), zb_Per_howMany_9, zG2 c0 (by omega)]
      show zD (true, q) d zc_Per_howMany (zat zc_Per_howMany 13) _ [(0, σ.1 316 c, 0)] σ = _
      rw [e, zb_Per_howMany_13]
      by_cases h : W c ≤ 1
      · rw [if_neg (by omega), if_pos h, zb_Per_howMany_15, zw_id (z := a + 1) (by omega) (by omega), zw_id (z := c + 1) (by omega) (by omega)]
        exact ih _ _ (by omega) (by omega) (by omega) (by omega)
      · rw [if_pos (by omega), if_neg h, zb_Per_howMany_16, zw_id (z := c + 1) (by omega) (by omega)]
        exact ih _ _ (by omega) (by omega) (by omega) (by omega)
  rw [ze_Per_howMany, zb_Per_howMany_0]
  exact loop 144 0 0 (by decide) rfl (by decide) (by decide)
theorem c_first {q : Int × (Int → Int)} {d : Nat} {σ : zS} {W : Int → Int} (hW : ∀ c, 0 ≤ c → c < 144 → σ.1 316 c = W c) : zM (true, q) d 244 [(14, 313, 0)] σ = some ((0, gLk W 144 0 (-1) 2, 0), σ) := by
  have loop : ∀ (k : Nat) (c x w : Int), 0 ≤ c → c + k = 144 → zD (true, q) d zc_Per_first (zat zc_Per_first 6) [(14, 313, 0), (0, x, 0), (0, w, 0), (0, c, 0)] [] σ = some ((0, gLk W k c x w, 0), σ) := by
    intro k
    induction k with
    | zero =>
      intro c x w c0 hc
      rw [zb_Per_first_6, if_pos (by omega), zb_Per_first_26]
      rfl
    | succ k ih =>
      intro c x w c0 hc
      have e := hW c c0 (by omega)
      have un : gLk W (k + 1) c x w = if W c < w then gLk W k (c + 1) c (W c) else gLk W k (c + 1) x w := rfl
      rw [un, zb_Per_first_6, if_neg (by omega), zb_Per_first_11, zG2 c0 (by omega)]
      show zD (true, q) d zc_Per_first (zat zc_Per_first 15) _ [(0, σ.1 316 c, 0)] σ = _
      rw [e, zb_Per_first_15]
      by_cases h : W c < w
      · rw [if_neg (by omega), if_pos h, zb_Per_first_17, zG2 c0 (by omega)]
        show zD (true, q) d zc_Per_first (zat zc_Per_first 21) _ [(0, σ.1 316 c, 0)] σ = _
        rw [e, zb_Per_first_21, zw_id (z := c + 1) (by omega) (by omega)]
        exact ih _ _ _ (by omega) (by omega)
      · rw [if_pos (by omega), if_neg h, zb_Per_first_24, zw_id (z := c + 1) (by omega) (by omega)]
        exact ih _ _ _ (by omega) (by omega)
  rw [ze_Per_first, zb_Per_first_0]
  exact loop 144 0 (-1) 2 (by decide) rfl
theorem c_hitBy {q : Int × (Int → Int)} {d : Nat} {σ : zS} {W : Int → Int} {tk : Int} (t0 : 0 ≤ tk) (hW : ∀ c, 0 ≤ c → c < 144 → σ.1 316 c = W c) : zM (true, q) (d + 1) 248 [(14, 313, 0), (0, tk, 0)] σ = some ((0, gH W tk 144 0 0, 0), σ) := by
  have loop : ∀ (k : Nat) (c a : Int), 0 ≤ c → c + k = 144 → 0 ≤ a → a ≤ c → zD (true, q) (d + 1) zc_Per_hitBy (zat zc_Per_hitBy 4) [(14, 313, 0), (0, tk, 0), (0, a, 0), (0, c, 0)] [] σ = some ((0, gH W tk k c a, 0), σ) := by
    intro k
    induction k with
    | zero =>
      intro c a c0 hc a0 a1
      rw [zb_Per_hitBy_4, if_pos (by omega), zb_Per_hitBy_29]
      rfl
    | succ k ih =>
      intro c a c0 hc a0 a1
      have e := hW c c0 (by omega)
      have un : gH W tk (k + 1) c a = gH W tk k (c + 1) (if W c ≤ 1 ∧ hitI tk c = 1 then a + 1 else a) := rfl
      have h01 := hitI_01 (k := tk) (c := c)
      rw [un, zb_Per_hitBy_4, if_neg (by omega), zb_Per_hitBy_9, zG2 c0 (by omega)]
      show zD (true, q) (d + 1) zc_Per_hitBy (zat zc_Per_hitBy 13) _ [(0, σ.1 316 c, 0)] σ = _
      rw [e, zb_Per_hitBy_13]
      by_cases h : W c ≤ 1
      · rw [if_neg (by omega), zb_Per_hitBy_15, zG1 (by decide), zdiv12 c0 (by omega), zb_Per_hitBy_19, zG1 (by decide), zrem12 c0, zw_id (z := c / 12 + 1) (by omega) (by omega), zb_Per_hitBy_24, c_hits t0 c0 (by omega), zK_i, zb_Per_hitBy_25]
        by_cases h2 : hitI tk c = 1
        · rw [if_neg (by omega), if_pos ⟨h, h2⟩, zb_Per_hitBy_26, zw_id (z := a + 1) (by omega) (by omega), zw_id (z := c + 1) (by omega) (by omega)]
          exact ih _ _ (by omega) (by omega) (by omega) (by omega)
        · rw [if_pos (by omega), if_neg (fun z => h2 z.2), zb_Per_hitBy_27, zw_id (z := c + 1) (by omega) (by omega)]
          exact ih _ _ (by omega) (by omega) (by omega) (by omega)
      · rw [if_pos (by omega), if_neg (fun z => h z.1), zb_Per_hitBy_27, zw_id (z := c + 1) (by omega) (by omega)]
        exact ih _ _ (by omega) (by omega) (by omega) (by omega)
  rw [ze_Per_hitBy, zb_Per_hitBy_0]
  exact loop 144 0 0 (by decide) rfl (by decide) (by decide)
def gMx (W : Int → Int) (tk : Int) : Int := if gH W tk 144 0 0 ≤ gF W 144 0 0 - gH W tk 144 0 0 then gF W 144 0 0 - gH W tk 144 0 0 else gH W tk 144 0 0
def gPr (W : Int → Int) : Nat → Int → Int → Int → Int
  | 0, _, x, _ => x
  | k + 1, i, x, le => if gMx W i < le then gPr W k (i + 1) i (gMx W i) else gPr W k (i + 1) x le
theorem gMx_rng {W : Int → Int} {tk : Int} : 0 ≤ gMx W tk ∧ gMx W tk ≤ gF W 144 0 0 ∧ gF W 144 0 0 ≤ 144 := by
  have h1 := gH_rng (W := W) (tk := tk) 144 0 0 0 (by decide)
  have h2 := gF_rng (W := W) 144 0 0
  unfold gMx
  split <;> omega
theorem c_parting {q : Int × (Int → Int)} {d : Nat} {σ : zS} {W : Int → Int} (hW : ∀ c, 0 ≤ c → c < 144 → σ.1 316 c = W c) : zM (true, q) (d + 2) 249 [(14, 313, 0)] σ = some ((0, if gF W 144 0 0 < 2 then -1 else gPr W 100 0 (-1) (gF W 144 0 0 + 1), 0), σ) := by
  have h2 := gF_rng (W := W) 144 0 0
  rw [ze_Per_parting, zb_Per_parting_0, c_howMany hW, zK_i, zb_Per_parting_2]
  by_cases hf : gF W 144 0 0 < 2
  · rw [if_neg (by omega), if_pos hf, zb_Per_parting_6]
  · have loop : ∀ (k : Nat) (i x le : Int) (v5 v6 : zV), 0 ≤ i → i + k = 100 → zD (true, q) (d + 2) zc_Per_parting (zat zc_Per_parting 16) [(14, 313, 0), (0, gF W 144 0 0, 0), (0, x, 0), (0, le, 0), (0, i, 0), v5, v6] [] σ = some ((0, gPr W k i x le, 0), σ) := by
      intro k
      induction k with
      | zero =>
        intro i x le v5 v6 i0 hi
        rw [zb_Per_parting_16, if_pos (by omega), zb_Per_parting_43]
        rfl
      | succ k ih =>
        intro i x le v5 v6 i0 hi
        have h1 := gH_rng (W := W) (tk := i) 144 0 0 0 (by decide)
        have un : gPr W (k + 1) i x le = if gMx W i < le then gPr W k (i + 1) i (gMx W i) else gPr W k (i + 1) x le := rfl
        have fin : ∀ v5, (if le ≤ gMx W i then zD (true, q) (d + 2) zc_Per_parting (zat zc_Per_parting 41) [(14, 313, 0), (0, gF W 144 0 0, 0), (0, x, 0), (0, le, 0), (0, i, 0), (0, v5, 0), (0, gMx W i, 0)] [] σ else zD (true, q) (d + 2) zc_Per_parting (zat zc_Per_parting 37) [(14, 313, 0), (0, gF W 144 0 0, 0), (0, x, 0), (0, le, 0), (0, i, 0), (0, v5, 0), (0, gMx W i, 0)] [] σ) = some ((0, gPr W (k + 1) i x le, 0), σ) := by
          intro v5
          rw [un]
          by_cases c : gMx W i < le
          · rw [if_neg (by omega), if_pos c, zb_Per_parting_37, zw_id (z := i + 1) (by omega) (by omega)]
            exact ih _ _ _ _ _ (by omega) (by omega)
          · rw [if_pos (by omega), if_neg c, zb_Per_parting_41, zw_id (z := i + 1) (by omega) (by omega)]
            exact ih _ _ _ _ _ (by omega) (by omega)
        rw [zb_Per_parting_16, if_neg (by omega), zb_Per_parting_19, c_hitBy i0 hW, zK_i, zb_Per_parting_22, zw_id (z := gF W 144 0 0 - gH W i 144 0 0) (by omega) (by omega)]
        have f0 := fin (gH W i 144 0 0)
        unfold gMx at f0
        by_cases c : gH W i 144 0 0 ≤ gF W 144 0 0 - gH W i 144 0 0
        · rw [if_pos c] at f0
          rw [if_pos c, zb_Per_parting_30, zw_id (z := gF W 144 0 0 - gH W i 144 0 0) (by omega) (by omega)]
          exact f0
        · rw [if_neg c] at f0
          rw [if_neg c, zb_Per_parting_28]
          exact f0
    rw [if_pos (by omega), if_neg hf, zb_Per_parting_8, zw_id (z := gF W 144 0 0 + 1) (by omega) (by omega)]
    exact loop 100 0 (-1) _ _ _ (by decide) rfl
/-! ### what both do with the rows -/
theorem zRT_row {N : Int} {f : Int → Int → Int} (hR : ZR N f f) (h : okT (f 1469) (f 1464 8) = true) : ∃ m, f 1464 8 = 2 * m ∧ f 1464 8 / 2 = m ∧ 0 ≤ m ∧ m ≤ 20 ∧ ∀ i, 0 ≤ i → i < m → 0 ≤ f 1469 (2 * i) := by
  obtain ⟨t1, t2, t3, t4⟩ := hR.2.2.2.1
  unfold okT at h
  have h2 := Bool.and_eq_true_iff.mp h
  have h3 := of_decide_eq_true h2.1
  exact ⟨f 1464 8 / 2, by omega, rfl, by omega, by omega, fun i i0 i1 => (t4 (2 * i) (by omega) (by omega)).2.1⟩

theorem o_period {q : Int × (Int → Int)} {N : Int} {f : Int → Int → Int} {t : (Int → Int) × Nat × Nat × Nat × (Int → Int → Bool)} (hR : ZR N f f) : zOw q N f t 237 [(19, 0, 0), (31, 1478, 1)] 243 [(20, 1464, 0)] := by
  obtain ⟨t1, t2, t3, t4⟩ := hR.2.2.2.1
  obtain ⟨f2, r2, z2, fr2, w2⟩ := c_rows (q := q) (d := 1894) (t := t) hR
  by_cases ok : okT (f 1469) (f 1464 8) = true
  · rw [if_pos ok] at r2
    obtain ⟨m, n2, nm, m0, m20, hk⟩ := zRT_row hR ok
    have hW := w2 ok
    rw [nm] at hW
    generalize hWW : gWc (f 1469) m = W at hW
    have hx : zM (true, q) 1898 236 [(19, 0, 0)] (f, t) = some ((0, gF W 144 0 0, 0), (f2, t)) := by
      rw [ze_X_period, zb_X_period_0, r2, zK_v, zb_X_period_2]
      show zK _ _ _ _ _ _ (zM (true, q) 1897 235 [(14, 313, 0)] (f2, t)) = _
      rw [c_howMany (W := W) (σ := (f2, t)) hW, zK_i, zb_X_period_5]
    have hkk := k_period_v hx
    refine zOw_tp (v := gF W 144 0 0) hR hkk zTt_refl (fun o k ho => (zup_na (by omega)).trans (fr2 o k (by omega) (by omega))) ((zup_na (by decide)).trans z2) ?_ (fun _ => zupE rfl rfl)
    have r3 := r_rows (q := q) (d := 1898) (t := t) (h := zup f2 1478 0 (gF W 144 0 0)) (T := f 1469) (n := f 1464 8) (by rw [zup_na (by decide)]; exact fr2 _ _ (by decide) (by decide)) t2 t3 (fun j => by rw [zup_na (by decide)]; exact fr2 _ _ (by decide) (by omega))
    rw [if_pos ok, n2] at r3
    generalize hH : zup (zup (zup f2 1478 0 (gF W 144 0 0)) 1464 8 0) 1464 0 0 = H at r3
    have hT : ∀ j, H 1469 j = f 1469 j := fun j => by
      rw [← hH, zup_na (by decide), zup_na (by decide), zup_na (by decide)]
      exact fr2 _ _ (by decide) (by omega)
    have H0 : H 1464 0 = 0 := by rw [← hH, zupE rfl rfl]
    have fit : ∀ c, 0 ≤ c → c < 144 → zM (true, q) 1898 242 [(20, 1464, 0), (0, c, 0), (0, 2 * m, 0)] (H, t) = some ((0, if W c ≤ 1 then 1 else 0, 0), (H, t)) := fun c c0 c1 => by
      rw [r_isFit (T := f 1469) (σ := (H, t)) m0 m20 hT hk c0 c1, hWW]
    rw [ze_M_period, zb_M_period_0, r3, zK_i, zb_M_period_2]
    show (if H 1464 0 ≤ 0 then _ else _) = _
    rw [H0, if_pos (by decide), zb_M_period_8]
    have loop : ∀ (k : Nat) (c a : Int), 0 ≤ c → c + k = 144 → 0 ≤ a → a ≤ c → zD (true, q) 1899 zc_M_period (zat zc_M_period 12) [(20, 1464, 0), (0, 2 * m, 0), (0, a, 0), (0, c, 0)] [] (H, t) = some ((0, gF W k c a, 0), (H, t)) := by
      intro k
      induction k with
      | zero =>
        intro c a c0 hc a0 a1
        rw [zb_M_period_12, if_pos (by omega), zb_M_period_28]
        rfl
      | succ k ih =>
        intro c a c0 hc a0 a1
        have un : gF W (k + 1) c a = gF W k (c + 1) (if W c ≤ 1 then a + 1 else a) := rfl
        rw [un, zb_M_period_12, if_neg (by omega), zb_M_period_15, fit c c0 (by omega), zK_i, zb_M_period_20]
        by_cases h : W c ≤ 1
        · rw [if_pos h, if_neg (by decide), if_pos h, zb_M_period_21, zw_id (z := a + 1) (by omega) (by omega), zw_id (z := c + 1) (by omega) (by omega)]
          exact ih _ _ (by omega) (by omega) (by omega) (by omega)
        · rw [if_neg h, if_pos rfl, if_neg h, zb_M_period_23, Int.add_zero, zw_id (z := a) (by omega) (by omega), zw_id (z := c + 1) (by omega) (by omega)]
          exact ih _ _ (by omega) (by omega) (by omega) (by omega)
    exact loop 144 0 0 (by decide) rfl (by decide) (by decide)
  · rw [if_neg ok] at r2
    have hx : zM (true, q) 1898 236 [(19, 0, 0)] (f, t) = some ((100, 0, 0), (f2, zThr t)) := by
      rw [ze_X_period, zb_X_period_0, r2]
      rfl
    refine zOw_tp (v := 0) hR (k_period_100 hx) zTt_thr (fun o k ho => fr2 o k (by omega) (by omega)) z2 ?_ (fun z => absurd z (by decide))
    have r3 := r_rows (q := q) (d := 1898) (t := zThr t) (h := f2) (T := f 1469) (n := f 1464 8) (fr2 _ _ (by decide) (by decide)) t2 t3 (fun j => fr2 _ _ (by decide) (by omega))
    rw [if_neg ok] at r3
    rw [ze_M_period, zb_M_period_0, r3, zK_i, zb_M_period_2]
    show (if zup (zup f2 1464 8 0) 1464 0 1 1464 0 ≤ 0 then _ else _) = _
    rw [zupE rfl rfl, if_neg (by decide), zb_M_period_6]

theorem o_likely {q : Int × (Int → Int)} {N : Int} {f : Int → Int → Int} {t : (Int → Int) × Nat × Nat × Nat × (Int → Int → Bool)} (hR : ZR N f f) : zOw q N f t 246 [(19, 0, 0), (31, 1478, 1)] 247 [(20, 1464, 0)] := by
  obtain ⟨t1, t2, t3, t4⟩ := hR.2.2.2.1
  obtain ⟨f2, r2, z2, fr2, w2⟩ := c_rows (q := q) (d := 1894) (t := t) hR
  by_cases ok : okT (f 1469) (f 1464 8) = true
  · rw [if_pos ok] at r2
    obtain ⟨m, n2, nm, m0, m20, hk⟩ := zRT_row hR ok
    have hW := w2 ok
    rw [nm] at hW
    generalize hWW : gWc (f 1469) m = W at hW
    have hx : zM (true, q) 1898 245 [(19, 0, 0)] (f, t) = some ((0, gLk W 144 0 (-1) 2, 0), (f2, t)) := by
      rw [ze_X_likely, zb_X_likely_0, r2, zK_v, zb_X_likely_2]
      show zK _ _ _ _ _ _ (zM (true, q) 1897 244 [(14, 313, 0)] (f2, t)) = _
      rw [c_first (W := W) (σ := (f2, t)) hW, zK_i, zb_X_likely_5]
    have hkk := k_likely_v hx
    refine zOw_tp (v := gLk W 144 0 (-1) 2) hR hkk zTt_refl (fun o k ho => (zup_na (by omega)).trans (fr2 o k (by omega) (by omega))) ((zup_na (by decide)).trans z2) ?_ (fun _ => zupE rfl rfl)
    have r3 := r_rows (q := q) (d := 1898) (t := t) (h := zup f2 1478 0 (gLk W 144 0 (-1) 2)) (T := f 1469) (n := f 1464 8) (by rw [zup_na (by decide)]; exact fr2 _ _ (by decide) (by decide)) t2 t3 (fun j => by rw [zup_na (by decide)]; exact fr2 _ _ (by decide) (by omega))
    rw [if_pos ok, n2] at r3
    generalize hH : zup (zup (zup f2 1478 0 (gLk W 144 0 (-1) 2)) 1464 8 0) 1464 0 0 = H at r3
    have hT : ∀ j, H 1469 j = f 1469 j := fun j => by
      rw [← hH, zup_na (by decide), zup_na (by decide), zup_na (by decide)]
      exact fr2 _ _ (by decide) (by omega)
    have H0 : H 1464 0 = 0 := by rw [← hH, zupE rfl rfl]
    have fit : ∀ c, 0 ≤ c → c < 144 → zM (true, q) 1898 242 [(20, 1464, 0), (0, c, 0), (0, 2 * m, 0)] (H, t) = some ((0, if W c ≤ 1 then 1 else 0, 0), (H, t)) := fun c c0 c1 => by
      rw [r_isFit (T := f 1469) (σ := (H, t)) m0 m20 hT hk c0 c1, hWW]
    rw [ze_M_likely, zb_M_likely_0, r3, zK_i, zb_M_likely_2]
    show (if H 1464 0 ≤ 0 then _ else _) = _
    rw [H0, if_pos (by decide), zb_M_likely_8]
    have wr : ∀ c, 0 ≤ c → c < 144 → W c ≤ 1 → zM (true, q) 1898 241 [(20, 1464, 0), (0, c, 0), (0, 2 * m, 0)] (H, t) = some ((0, W c, 0), (H, t)) := fun c c0 c1 c2 => by
      rw [r_wrong (T := f 1469) (σ := (H, t)) m0 m20 hT hk c0 c1, ← hWW, gWc_fit m0 (by rw [hWW]; exact c2)]
    have loop : ∀ (k : Nat) (c x w : Int), 0 ≤ c → c + k = 144 → ((x = -1 ∧ w = 2) ∨ (0 ≤ x ∧ x < 144 ∧ w = W x ∧ W x ≤ 1)) → zD (true, q) 1899 zc_M_likely (zat zc_M_likely 12) [(20, 1464, 0), (0, 2 * m, 0), (0, x, 0), (0, c, 0)] [] (H, t) = some ((0, gLk W k c x w, 0), (H, t)) := by
      intro k
      induction k with
      | zero =>
        intro c x w c0 hc hx
        rw [zb_M_likely_12, if_pos (by omega), zb_M_likely_36]
        rfl
      | succ k ih =>
        intro c x w c0 hc hx
        have un : gLk W (k + 1) c x w = if W c < w then gLk W k (c + 1) c (W c) else gLk W k (c + 1) x w := rfl
        have no : zD (true, q) 1899 zc_M_likely (zat zc_M_likely 34) [(20, 1464, 0), (0, 2 * m, 0), (0, x, 0), (0, c, 0)] [] (H, t) = some ((0, gLk W k (c + 1) x w, 0), (H, t)) := by
          rw [zb_M_likely_34, zw_id (z := c + 1) (by omega) (by omega)]
          exact ih _ _ _ (by omega) (by omega) hx
        have yes : W c ≤ 1 → zD (true, q) 1899 zc_M_likely (zat zc_M_likely 32) [(20, 1464, 0), (0, 2 * m, 0), (0, x, 0), (0, c, 0)] [] (H, t) = some ((0, gLk W k (c + 1) c (W c), 0), (H, t)) := fun h => by
          rw [zb_M_likely_32, zw_id (z := c + 1) (by omega) (by omega)]
          exact ih _ _ _ (by omega) (by omega) (Or.inr ⟨c0, by omega, rfl, h⟩)
        rw [un, zb_M_likely_12, if_neg (by omega), zb_M_likely_15, fit c c0 (by omega), zK_i, zb_M_likely_19]
        by_cases h : W c ≤ 1
        · rw [if_pos h, if_neg (by decide), zb_M_likely_20]
          rcases hx with ⟨hx, hw⟩ | ⟨hx0, hx1, hw, hx2⟩
          · rw [if_pos hx, if_pos (by omega), yes h]
          · rw [if_neg (by omega), zb_M_likely_23, wr c c0 (by omega) h, zK_i, zb_M_likely_27, wr x hx0 hx1 hx2, zK_i, zb_M_likely_31]
            by_cases c3 : W c < w
            · rw [if_neg (by omega), if_pos c3, yes h]
            · rw [if_pos (by omega), if_neg c3, no]
        · rw [if_neg h, if_pos rfl, if_neg (by rcases hx with hx | hx <;> omega), no]
    exact loop 144 0 (-1) 2 (by decide) rfl (Or.inl ⟨rfl, rfl⟩)
  · rw [if_neg ok] at r2
    have hx : zM (true, q) 1898 245 [(19, 0, 0)] (f, t) = some ((100, 0, 0), (f2, zThr t)) := by
      rw [ze_X_likely, zb_X_likely_0, r2]
      rfl
    refine zOw_tp (v := 0) hR (k_likely_100 hx) zTt_thr (fun o k ho => fr2 o k (by omega) (by omega)) z2 ?_ (fun z => absurd z (by decide))
    have r3 := r_rows (q := q) (d := 1898) (t := zThr t) (h := f2) (T := f 1469) (n := f 1464 8) (fr2 _ _ (by decide) (by decide)) t2 t3 (fun j => fr2 _ _ (by decide) (by omega))
    rw [if_neg ok] at r3
    rw [ze_M_likely, zb_M_likely_0, r3, zK_i, zb_M_likely_2]
    show (if zup (zup f2 1464 8 0) 1464 0 1 1464 0 ≤ 0 then _ else _) = _
    rw [zupE rfl rfl, if_neg (by decide), zb_M_likely_6]

theorem o_probe {q : Int × (Int → Int)} {N : Int} {f : Int → Int → Int} {t : (Int → Int) × Nat × Nat × Nat × (Int → Int → Bool)} (hR : ZR N f f) : zOw q N f t 251 [(19, 0, 0), (31, 1478, 1)] 252 [(20, 1464, 0)] := by
  obtain ⟨t1, t2, t3, t4⟩ := hR.2.2.2.1
  obtain ⟨f2, r2, z2, fr2, w2⟩ := c_rows (q := q) (d := 1894) (t := t) hR
  by_cases ok : okT (f 1469) (f 1464 8) = true
  · rw [if_pos ok] at r2
    obtain ⟨m, n2, nm, m0, m20, hk⟩ := zRT_row hR ok
    have hW := w2 ok
    rw [nm] at hW
    generalize hWW : gWc (f 1469) m = W at hW
    have hx : zM (true, q) 1898 250 [(19, 0, 0)] (f, t) = some ((0, if gF W 144 0 0 < 2 then -1 else gPr W 100 0 (-1) (gF W 144 0 0 + 1), 0), (f2, t)) := by
      rw [ze_X_probe, zb_X_probe_0, r2, zK_v, zb_X_probe_2]
      show zK _ _ _ _ _ _ (zM (true, q) 1897 249 [(14, 313, 0)] (f2, t)) = _
      rw [c_parting (W := W) (σ := (f2, t)) hW, zK_i, zb_X_probe_5]
    have hkk := k_probe_v hx
    refine zOw_tp (v := if gF W 144 0 0 < 2 then -1 else gPr W 100 0 (-1) (gF W 144 0 0 + 1)) hR hkk zTt_refl (fun o k ho => (zup_na (by omega)).trans (fr2 o k (by omega) (by omega))) ((zup_na (by decide)).trans z2) ?_ (fun _ => zupE rfl rfl)
    have r3 := r_rows (q := q) (d := 1898) (t := t) (h := zup f2 1478 0 (if gF W 144 0 0 < 2 then -1 else gPr W 100 0 (-1) (gF W 144 0 0 + 1))) (T := f 1469) (n := f 1464 8) (by rw [zup_na (by decide)]; exact fr2 _ _ (by decide) (by decide)) t2 t3 (fun j => by rw [zup_na (by decide)]; exact fr2 _ _ (by decide) (by omega))
    rw [if_pos ok, n2] at r3
    generalize hH : zup (zup (zup f2 1478 0 (if gF W 144 0 0 < 2 then -1 else gPr W 100 0 (-1) (gF W 144 0 0 + 1))) 1464 8 0) 1464 0 0 = H at r3
    have hT : ∀ j, H 1469 j = f 1469 j := fun j => by
      rw [← hH, zup_na (by decide), zup_na (by decide), zup_na (by decide)]
      exact fr2 _ _ (by decide) (by omega)
    have H0 : H 1464 0 = 0 := by rw [← hH, zupE rfl rfl]
    have fit : ∀ c, 0 ≤ c → c < 144 → zM (true, q) 1898 242 [(20, 1464, 0), (0, c, 0), (0, 2 * m, 0)] (H, t) = some ((0, if W c ≤ 1 then 1 else 0, 0), (H, t)) := fun c c0 c1 => by
      rw [r_isFit (T := f 1469) (σ := (H, t)) m0 m20 hT hk c0 c1, hWW]
    rw [ze_M_probe, zb_M_probe_0, r3, zK_i, zb_M_probe_2]
    show (if H 1464 0 ≤ 0 then _ else _) = _
    rw [H0, if_pos (by decide), zb_M_probe_8]
    have inner : ∀ (x le i : Int), 0 ≤ i → ∀ (k : Nat) (c a b : Int), 0 ≤ c → c + k = 144 → 0 ≤ a → a ≤ c → 0 ≤ b → b ≤ c → ∃ v7, zD (true, q) 1899 zc_M_probe (zat zc_M_probe 23) [(20, 1464, 0), (0, 2 * m, 0), (0, x, 0), (0, le, 0), (0, i, 0), (0, a, 0), (0, b, 0), (0, c, 0)] [] (H, t) = zD (true, q) 1899 zc_M_probe (zat zc_M_probe 45) [(20, 1464, 0), (0, 2 * m, 0), (0, x, 0), (0, le, 0), (0, i, 0), (0, gF W k c a, 0), (0, gH W i k c b, 0), (0, v7, 0)] [] (H, t) := by
      intro x le i i0 k
      induction k with
      | zero =>
        intro c a b c0 hc a0 a1 b0 b1
        exact ⟨c, by rw [zb_M_probe_23, if_pos (by omega)]; rfl⟩
      | succ k ih =>
        intro c a b c0 hc a0 a1 b0 b1
        have h01 := hitI_01 (k := i) (c := c)
        have run : zD (true, q) 1899 zc_M_probe (zat zc_M_probe 23) [(20, 1464, 0), (0, 2 * m, 0), (0, x, 0), (0, le, 0), (0, i, 0), (0, a, 0), (0, b, 0), (0, c, 0)] [] (H, t) = zD (true, q) 1899 zc_M_probe (zat zc_M_probe 23) [(20, 1464, 0), (0, 2 * m, 0), (0, x, 0), (0, le, 0), (0, i, 0), (0, if W c ≤ 1 then a + 1 else a, 0), (0, if W c ≤ 1 ∧ hitI i c = 1 then b + 1 else b, 0), (0, c + 1, 0)] [] (H, t) := by
          rw [zb_M_probe_23, if_neg (by omega), zb_M_probe_26, fit c c0 (by omega), zK_i, zb_M_probe_30]
          by_cases h : W c ≤ 1
          · rw [if_pos h, if_pos (by decide), if_pos h, zb_M_probe_32, zw_id (z := a + 1) (by omega) (by omega), r_isBad i0 c0 (by omega), zK_i, zb_M_probe_37]
            by_cases h2 : hitI i c = 1
            · rw [if_neg (by omega), if_pos ⟨h, h2⟩, zb_M_probe_38, zw_id (z := b + 1) (by omega) (by omega), zw_id (z := c + 1) (by omega) (by omega)]
            · rw [if_pos (by omega), if_neg (fun z => h2 z.2), zb_M_probe_40, Int.add_zero, zw_id (z := b) (by omega) (by omega), zw_id (z := c + 1) (by omega) (by omega)]
          · rw [if_neg h, if_neg (fun z => z rfl), if_neg h, if_neg (fun z => h z.1), zb_M_probe_31, zw_id (z := c + 1) (by omega) (by omega)]
        obtain ⟨v7, r7⟩ := ih (c + 1) (if W c ≤ 1 then a + 1 else a) (if W c ≤ 1 ∧ hitI i c = 1 then b + 1 else b) (by omega) (by omega) (by split <;> omega) (by split <;> omega) (by split <;> omega) (by split <;> omega)
        exact ⟨v7, by rw [run, r7]; rfl⟩
    have gf := gF_rng (W := W) 144 0 0
    have step : ∀ (x le i : Int) (v5 v6 v7 : zV), 0 ≤ i → i < 100 → zD (true, q) 1899 zc_M_probe (zat zc_M_probe 14) [(20, 1464, 0), (0, 2 * m, 0), (0, x, 0), (0, le, 0), (0, i, 0), v5, v6, v7] [] (H, t) = zD (true, q) 1899 zc_M_probe (zat zc_M_probe 14) [(20, 1464, 0), (0, 2 * m, 0), (0, if 2 ≤ gF W 144 0 0 ∧ gMx W i < le then i else x, 0), (0, if 2 ≤ gF W 144 0 0 ∧ gMx W i < le then gMx W i else le, 0), (0, i + 1, 0), (0, gF W 144 0 0, 0), (0, gH W i 144 0 0, 0), (0, gMx W i, 0)] [] (H, t) := by
      intro x le i v5 v6 v7 i0 i1
      obtain ⟨w7, r7⟩ := inner x le i i0 144 0 0 0 (by decide) rfl (by decide) (by decide) (by decide) (by decide)
      have h1 := gH_rng (W := W) (tk := i) 144 0 0 0 (by decide)
      rw [zb_M_probe_14, if_neg (by omega), zb_M_probe_17, r7, zb_M_probe_45, zw_id (z := gF W 144 0 0 - gH W i 144 0 0) (by omega) (by omega), r_greater, zK_i, zb_M_probe_50]
      show (if gF W 144 0 0 < 2 then zD (true, q) 1899 zc_M_probe (zat zc_M_probe 62) [_, _, _, _, _, _, _, (0, gMx W i, 0)] _ _ else zD (true, q) 1899 zc_M_probe (zat zc_M_probe 54) [_, _, _, _, _, _, _, (0, gMx W i, 0)] _ _) = _
      by_cases c : gF W 144 0 0 < 2
      · rw [if_pos c, if_neg (fun z => by omega), if_neg (fun z => by omega), zb_M_probe_62, zw_id (z := i + 1) (by omega) (by omega)]
      · rw [if_neg c, zb_M_probe_54]
        by_cases c2 : gMx W i < le
        · rw [if_pos c2, if_pos ⟨by omega, c2⟩, if_pos ⟨by omega, c2⟩, zb_M_probe_58, zw_id (z := i + 1) (by omega) (by omega)]
        · rw [if_neg c2, if_neg (fun z => c2 z.2), if_neg (fun z => c2 z.2), zb_M_probe_57, zw_id (z := i + 1) (by omega) (by omega)]
    by_cases hf : gF W 144 0 0 < 2
    · have loop : ∀ (k : Nat) (i : Int) (v5 v6 v7 : zV), 0 ≤ i → i + k = 100 → zD (true, q) 1899 zc_M_probe (zat zc_M_probe 14) [(20, 1464, 0), (0, 2 * m, 0), (0, -1, 0), (0, 2000000000, 0), (0, i, 0), v5, v6, v7] [] (H, t) = some ((0, -1, 0), (H, t)) := by
        intro k
        induction k with
        | zero =>
          intro i v5 v6 v7 i0 hi
          rw [zb_M_probe_14, if_pos (by omega), zb_M_probe_64]
        | succ k ih =>
          intro i v5 v6 v7 i0 hi
          rw [step _ _ _ _ _ _ i0 (by omega), if_neg (fun z => by omega), if_neg (fun z => by omega)]
          exact ih _ _ _ _ (by omega) (by omega)
      rw [if_pos hf] at hH ⊢
      exact loop 100 0 _ _ _ (by decide) rfl
    · have loop : ∀ (k : Nat) (i x le : Int) (v5 v6 v7 : zV), 0 ≤ i → i + k = 100 → zD (true, q) 1899 zc_M_probe (zat zc_M_probe 14) [(20, 1464, 0), (0, 2 * m, 0), (0, x, 0), (0, le, 0), (0, i, 0), v5, v6, v7] [] (H, t) = some ((0, gPr W k i x le, 0), (H, t)) := by
        intro k
        induction k with
        | zero =>
          intro i x le v5 v6 v7 i0 hi
          rw [zb_M_probe_14, if_pos (by omega), zb_M_probe_64]
          rfl
        | succ k ih =>
          intro i x le v5 v6 v7 i0 hi
          have un : gPr W (k + 1) i x le = if gMx W i < le then gPr W k (i + 1) i (gMx W i) else gPr W k (i + 1) x le := rfl
          rw [un, step _ _ _ _ _ _ i0 (by omega), ih _ _ _ _ _ _ (by omega) (by omega)]
          by_cases c : gMx W i < le
          · rw [if_pos c, if_pos ⟨by omega, c⟩, if_pos ⟨by omega, c⟩]
          · rw [if_neg c, if_neg (fun z => c z.2), if_neg (fun z => c z.2)]
      have mx := gMx_rng (W := W) (tk := 0)
      have e1 : gPr W 100 0 (-1) 2000000000 = gPr W 99 1 0 (gMx W 0) := if_pos (by omega)
      have e2 : gPr W 100 0 (-1) (gF W 144 0 0 + 1) = gPr W 99 1 0 (gMx W 0) := if_pos (by omega)
      rw [if_neg hf] at hH ⊢
      rw [e2, ← e1]
      exact loop 100 0 (-1) 2000000000 _ _ _ (by decide) rfl
  · rw [if_neg ok] at r2
    have hx : zM (true, q) 1898 250 [(19, 0, 0)] (f, t) = some ((100, 0, 0), (f2, zThr t)) := by
      rw [ze_X_probe, zb_X_probe_0, r2]
      rfl
    refine zOw_tp (v := 0) hR (k_probe_100 hx) zTt_thr (fun o k ho => fr2 o k (by omega) (by omega)) z2 ?_ (fun z => absurd z (by decide))
    have r3 := r_rows (q := q) (d := 1898) (t := zThr t) (h := f2) (T := f 1469) (n := f 1464 8) (fr2 _ _ (by decide) (by decide)) t2 t3 (fun j => fr2 _ _ (by decide) (by omega))
    rw [if_neg ok] at r3
    rw [ze_M_probe, zb_M_probe_0, r3, zK_i, zb_M_probe_2]
    show (if zup (zup f2 1464 8 0) 1464 0 1 1464 0 ≤ 0 then _ else _) = _
    rw [zupE rfl rfl, if_neg (by decide), zb_M_probe_6]
