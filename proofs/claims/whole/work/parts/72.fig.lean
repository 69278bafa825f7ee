/-! ## the reference reads figures -/
theorem txK2 {c : Int} : (txK c = 2 ↔ (48 ≤ c ∧ c ≤ 57)) := by
  unfold txK
  split
  · exact ⟨fun h => absurd h (by decide), fun h => by omega⟩
  · split
    · exact ⟨fun _ => ‹_›, fun _ => rfl⟩
    · exact ⟨fun h => absurd h (by decide), fun h => absurd h ‹_›⟩
theorem txD_rng {u : Int → Int} : ∀ (k : Nat) (i v : Int), k ≤ 3 → (∀ j, i ≤ j → j < i + k → txK (u j) = 2) → 0 ≤ v → v * 10 ^ k ≤ 1000 - 10 ^ k → 0 ≤ txD u k i v ∧ txD u k i v ≤ 999 := by
  intro k
  induction k with
  | zero =>
    intro i v _ _ h0 h1
    show 0 ≤ v ∧ v ≤ 999
    simp at h1
    omega
  | succ k ih =>
    intro i v hk hj h0 h1
    have hd := txK2.mp (hj i (Int.le_refl i) (by omega))
    refine ih (i + 1) (10 * v + u i - 48) (by omega) (fun j j0 j1 => hj j (by omega) (by omega)) (by omega) ?_
    rcases (by omega : k = 0 ∨ k = 1 ∨ k = 2) with rfl | rfl | rfl
    · simp at h1 ⊢; omega
    · simp at h1 ⊢; omega
    · simp at h1 ⊢; omega
theorem xl_fig {q : Int × (Int → Int)} {d : Nat} {f : Int → Int → Int} {t : (Int → Int) × Nat × Nat × Nat × (Int → Int → Bool)} {g u : Int → Int} {n p lo hi e : Int} (hR : RT f g u n) (p0 : 0 ≤ p) (he : e ≤ n) (h3 : e - p ≤ 3) (hj : ∀ j, p ≤ j → j < e → txK (u j) = 2) (hz : e < n → txK (u e) ≠ 2) : ∀ (k : Nat) (i v : Int), p ≤ i → i + k = e → 0 ≤ v → v * 10 ^ k ≤ 1000 - 10 ^ k → zD (true, q) (d + 1) zc_M_figures (zat zc_M_figures 11) [(20, 1464, 0), (0, lo, 0), (0, hi, 0), (0, p, 0), (0, v, 0)] [] (zrow (zup f 1464 11 i) 1465 g, t) = zD (true, q) (d + 1) zc_M_figures (zat zc_M_figures 48) [(20, 1464, 0), (0, lo, 0), (0, hi, 0), (0, p, 0), (0, txD u k i v, 0)] [] (zrow (zup f 1464 11 e) 1465 g, t) := by
  have hn := hR.2.1
  have h10 := hR.2.2.1
  intro k
  induction k with
  | zero =>
    intro i v i0 ie v0 v1
    obtain rfl : i = e := by omega
    rw [zb_M_figures_11]
    simp (disch := omega) only [zrow_ne, zup_nk, zupE, h10]
    by_cases c : i < n
    · have hx := hz c
      have hx2 : ¬(48 ≤ u i ∧ u i ≤ 57) := fun z => hx (txK2.mpr z)
      rw [if_neg (by omega), zb_M_figures_16]
      simp (disch := omega) only [zrow_ne, zupE]
      rw [x_letter (RT_up (by decide) hR) (by omega) c, zK_i, zb_M_figures_20, r_isInF (by omega), zK_i, zb_M_figures_23, if_pos rfl]
      rfl
    · rw [if_pos (by omega)]
      rfl
  | succ k ih =>
    intro i v i0 ie v0 v1
    have hd := txK2.mp (hj i i0 (by omega))
    have v9 : v ≤ 999 := by
      rcases (by omega : k = 0 ∨ k = 1 ∨ k = 2) with rfl | rfl | rfl <;> simp at v1 <;> omega
    rw [zb_M_figures_11]
    simp (disch := omega) only [zrow_ne, zup_nk, zupE, h10]
    rw [if_neg (by omega), zb_M_figures_16]
    simp (disch := omega) only [zrow_ne, zupE]
    rw [x_letter (RT_up (by decide) hR) (by omega) (by omega), zK_i, zb_M_figures_20, r_isInT hd.1 hd.2, zK_i, zb_M_figures_23, if_neg (by decide), zb_M_figures_24]
    simp (disch := omega) only [zrow_ne, zupE, zw_id]
    rw [if_neg (by omega), zb_M_figures_30]
    simp (disch := omega) only [zrow_ne, zupE, zw_id]
    rw [x_letter (RT_up (by decide) hR) (by omega) (by omega), zK_i, zb_M_figures_37]
    simp (disch := omega) only [zrow_ne, zupE, zw_id, zrow_up, zup_zup]
    refine ih (i + 1) (10 * v + u i - 48) (by omega) (by omega) (by omega) ?_
    rcases (by omega : k = 0 ∨ k = 1 ∨ k = 2) with rfl | rfl | rfl
    · simp at v1 ⊢; omega
    · simp at v1 ⊢; omega
    · simp at v1 ⊢; omega
/-- more figures than three -/
theorem xl_fig4 {q : Int × (Int → Int)} {d : Nat} {f : Int → Int → Int} {t : (Int → Int) × Nat × Nat × Nat × (Int → Int → Bool)} {g u : Int → Int} {n p lo hi : Int} (hR : RT f g u n) (p0 : 0 ≤ p) (hp4 : p + 4 ≤ n) (hj : ∀ j, p ≤ j → j < p + 4 → txK (u j) = 2) : ∀ (k : Nat) (i v : Int), p ≤ i → i + k = p + 4 → ∃ v2, zD (true, q) (d + 1) zc_M_figures (zat zc_M_figures 11) [(20, 1464, 0), (0, lo, 0), (0, hi, 0), (0, p, 0), (0, v, 0)] [] (zrow (zup f 1464 11 i) 1465 g, t) = zD (true, q) (d + 1) zc_M_figures (zat zc_M_figures 48) [(20, 1464, 0), (0, lo, 0), (0, hi, 0), (0, p, 0), (0, v2, 0)] [] (zrow (zup f 1464 11 (p + 4)) 1465 g, t) := by
  have hn := hR.2.1
  have h10 := hR.2.2.1
  intro k
  induction k with
  | zero =>
    intro i v i0 ie
    obtain rfl : i = p + 4 := by omega
    refine ⟨v, ?_⟩
    rw [zb_M_figures_11]
    simp (disch := omega) only [zrow_ne, zup_nk, zupE, h10]
    by_cases c : p + 4 < n
    · rw [if_neg (by omega), zb_M_figures_16]
      simp (disch := omega) only [zrow_ne, zupE]
      rw [x_letter (RT_up (by decide) hR) (by omega) c, zK_i, zb_M_figures_20]
      by_cases c2 : 48 ≤ u (p + 4) ∧ u (p + 4) ≤ 57
      · rw [r_isInT c2.1 c2.2, zK_i, zb_M_figures_23, if_neg (by decide), zb_M_figures_24]
        simp (disch := omega) only [zrow_ne, zupE, zw_id]
        rw [if_pos (by omega)]
      · rw [r_isInF (by omega), zK_i, zb_M_figures_23, if_pos rfl]
    · rw [if_pos (by omega)]
  | succ k ih =>
    intro i v i0 ie
    have hd := txK2.mp (hj i i0 (by omega))
    rw [zb_M_figures_11]
    simp (disch := omega) only [zrow_ne, zup_nk, zupE, h10]
    rw [if_neg (by omega), zb_M_figures_16]
    simp (disch := omega) only [zrow_ne, zupE]
    rw [x_letter (RT_up (by decide) hR) (by omega) (by omega), zK_i, zb_M_figures_20, r_isInT hd.1 hd.2, zK_i, zb_M_figures_23, if_neg (by decide), zb_M_figures_24]
    simp (disch := omega) only [zrow_ne, zupE, zw_id]
    rw [if_neg (by omega), zb_M_figures_30]
    simp (disch := omega) only [zrow_ne, zupE, zw_id]
    rw [x_letter (RT_up (by decide) hR) (by omega) (by omega), zK_i, zb_M_figures_37]
    simp (disch := omega) only [zrow_ne, zupE, zrow_up, zup_zup]
    rw [zw_id (show -2147483648 ≤ i + 1 by omega) (by omega)]
    exact ih (i + 1) _ (by omega) (by omega)
theorem x_figures {q : Int × (Int → Int)} {d : Nat} {f : Int → Int → Int} {t : (Int → Int) × Nat × Nat × Nat × (Int → Int → Bool)} {g u : Int → Int} {n p : Int} {lo hi : Int} (hR : RT f g u n) (p0 : 0 ≤ f 1464 11) (p1 : f 1464 11 ≤ n) (hp : txS u n (f 1464 11) = p) (hf : f 1464 12 = -1) : ∃ v f2, zM (true, q) (d + 3) 65 [(20, 1464, 0), (0, lo, 0), (0, hi, 0)] (zrow f 1465 g, t) = some ((0, v, 0), (zrow f2 1465 g, t)) ∧ ((txT u n p = 2 ∧ lo ≤ txV u n p ∧ txV u n p ≤ hi) → v = txV u n p ∧ f2 = zup f 1464 11 (txE u n p)) ∧ (¬(txT u n p = 2 ∧ lo ≤ txV u n p ∧ txV u n p ≤ hi) → f2 1464 12 = p ∧ (∀ o k, (o ≠ 1464 ∨ (k ≠ 11 ∧ k ≠ 12)) → f2 o k = f o k) ∧ 0 ≤ f2 1464 11 ∧ f2 1464 11 ≤ n) := by
  have hr := txS_rng (u := u) p1
  rw [hp] at hr
  have hn := hR.2.1
  have h10 := hR.2.2.1
  have hR2 : RT (zup f 1464 11 p) g u n := RT_up (by decide) hR
  have run : zM (true, q) (d + 3) 65 [(20, 1464, 0), (0, lo, 0), (0, hi, 0)] (zrow f 1465 g, t) = zD (true, q) (d + 3) zc_M_figures (zat zc_M_figures 11) [(20, 1464, 0), (0, lo, 0), (0, hi, 0), (0, p, 0), (0, 0, 0)] [] (zrow (zup f 1464 11 p) 1465 g, t) := by
    rw [ze_M_figures, zb_M_figures_0]
    simp (disch := omega) only [zrow_ne, hf]
    rw [if_pos trivial, zb_M_figures_6, x_here hR p0 p1 hp, zK_i, zb_M_figures_8]
  rw [run]
  -- how it ends
  have fin : ∀ e v, 0 ≤ e → e ≤ n → -2147483648 ≤ e - p → ∃ v2 f2, zD (true, q) (d + 3) zc_M_figures (zat zc_M_figures 48) [(20, 1464, 0), (0, lo, 0), (0, hi, 0), (0, p, 0), (0, v, 0)] [] (zrow (zup f 1464 11 e) 1465 g, t) = some ((0, v2, 0), (zrow f2 1465 g, t)) ∧ (e ≠ p ∧ e - p ≤ 3 ∧ lo ≤ v ∧ v ≤ hi → v2 = v ∧ f2 = zup f 1464 11 e) ∧ (¬(e ≠ p ∧ e - p ≤ 3 ∧ lo ≤ v ∧ v ≤ hi) → f2 1464 12 = p ∧ (∀ o k, (o ≠ 1464 ∨ (k ≠ 11 ∧ k ≠ 12)) → f2 o k = f o k) ∧ 0 ≤ f2 1464 11 ∧ f2 1464 11 ≤ n) := by
    intro e v e0 en e9
    have bad : zD (true, q) (d + 3) zc_M_figures (zat zc_M_figures 64) [(20, 1464, 0), (0, lo, 0), (0, hi, 0), (0, p, 0), (0, v, 0)] [] (zrow (zup f 1464 11 e) 1465 g, t) = some ((0, v, 0), (zrow (zup (zup f 1464 11 e) 1464 12 p) 1465 g, t)) := by
      rw [zb_M_figures_64, ze_M_wrong, zb_M_wrong_0]
      simp (disch := omega) only [zrow_ne, zup_nk, hf]
      rw [if_neg (by decide), zb_M_wrong_4]
      simp (disch := omega) only [zrow_up]
      rw [zK_v, zb_M_figures_67]
    have badf : ¬(e ≠ p ∧ e - p ≤ 3 ∧ lo ≤ v ∧ v ≤ hi) → zD (true, q) (d + 3) zc_M_figures (zat zc_M_figures 48) [(20, 1464, 0), (0, lo, 0), (0, hi, 0), (0, p, 0), (0, v, 0)] [] (zrow (zup f 1464 11 e) 1465 g, t) = zD (true, q) (d + 3) zc_M_figures (zat zc_M_figures 64) [(20, 1464, 0), (0, lo, 0), (0, hi, 0), (0, p, 0), (0, v, 0)] [] (zrow (zup f 1464 11 e) 1465 g, t) := by
      intro hc
      rw [zb_M_figures_48]
      simp (disch := omega) only [zrow_ne, zupE]
      by_cases c1 : e = p
      · rw [if_pos c1]
      · rw [if_neg c1, zb_M_figures_52]
        simp (disch := omega) only [zrow_ne, zupE, zw_id]
        by_cases c2 : 3 < e - p
        · rw [if_pos c2]
        · rw [if_neg c2, zb_M_figures_58]
          by_cases c3 : v < lo
          · rw [if_pos c3]
          · rw [if_neg c3, zb_M_figures_61, if_neg (by omega)]
    by_cases hc : e ≠ p ∧ e - p ≤ 3 ∧ lo ≤ v ∧ v ≤ hi
    · refine ⟨v, zup f 1464 11 e, ?_, fun _ => ⟨rfl, rfl⟩, fun z => absurd hc z⟩
      rw [zb_M_figures_48]
      simp (disch := omega) only [zrow_ne, zupE]
      rw [if_neg hc.1, zb_M_figures_52]
      simp (disch := omega) only [zrow_ne, zupE, zw_id]
      rw [if_neg (by omega), zb_M_figures_58, if_neg (by omega), zb_M_figures_61, if_pos (by omega), zb_M_figures_67]
    · refine ⟨v, zup (zup f 1464 11 e) 1464 12 p, (badf hc).trans bad, fun z => absurd z hc, fun _ => ⟨zupE rfl rfl, fun o k ho => by rw [zup_nka (by omega), zup_nka (by omega)], ?_, ?_⟩⟩
      · rw [zup_nk (by decide), zupE rfl rfl]; exact e0
      · rw [zup_nk (by decide), zupE rfl rfl]; exact en
  by_cases c2 : p < n ∧ txK (u p) = 2
  · have hE : txE u n p = txR u 2 (n - (p + 1)).toNat (p + 1) := by
      unfold txE
      rw [if_neg (by omega), c2.2]
    have hrr := txR_rng (u := u) (kd := 2) (n - (p + 1)).toNat (p + 1)
    rw [← hE] at hrr
    have hj : ∀ j, p ≤ j → j < txE u n p → txK (u j) = 2 := fun j j0 j1 => by
      by_cases cj : j = p
      · rw [cj]; exact c2.2
      · exact hrr.2.2.1 j (by omega) j1
    by_cases c3 : txE u n p - p ≤ 3
    · have hT : txT u n p = 2 := by
        unfold txT
        rw [if_neg (by omega), if_pos ⟨c2.2, c3⟩]
      have hV : txV u n p = txD u (txE u n p - p).toNat p 0 := if_pos ⟨c2.2, c3⟩
      have h0 := xl_fig (q := q) (d := d + 2) (t := t) (lo := lo) (hi := hi) hR (by omega) (by omega) c3 hj (fun h => hrr.2.2.2 (by omega)) (txE u n p - p).toNat p 0 (Int.le_refl p) (by omega) (Int.le_refl 0) (by
        rcases (by omega : (txE u n p - p).toNat = 1 ∨ (txE u n p - p).toNat = 2 ∨ (txE u n p - p).toNat = 3) with h | h | h <;> rw [h] <;> decide)
      rw [← hV] at h0
      obtain ⟨v2, f2, r, a1, a2⟩ := fin (txE u n p) (txV u n p) (by omega) (by omega) (by omega)
      refine ⟨v2, f2, h0.trans r, fun z => a1 ⟨by omega, c3, z.2.1, z.2.2⟩, fun z => a2 (fun y => z ⟨hT, y.2.2.1, y.2.2.2⟩)⟩
    · have hT : txT u n p ≠ 2 := by
        intro h
        unfold txT at h
        rw [if_neg (by omega), if_neg (fun z => c3 z.2)] at h
        have := zfst_is (p := fun i => txM u (zWtx i) p (txE u n p)) (no := 1) 33 0 (by omega)
        rw [h] at this
        have e24 : zTx (zWtx 2) = [] := by decide
        unfold txM at this
        rw [e24, if_neg (by show ¬(0 : Int) = _; omega)] at this
        exact absurd this (by decide)
      obtain ⟨v, h0⟩ := xl_fig4 (q := q) (d := d + 2) (t := t) (lo := lo) (hi := hi) hR (by omega) (by omega) (fun j j0 j1 => hj j j0 (by omega)) 4 p 0 (Int.le_refl p) (by omega)
      obtain ⟨v2, f2, r, a1, a2⟩ := fin (p + 4) v (by omega) (by omega) (by omega)
      exact ⟨v2, f2, h0.trans r, fun z => absurd z.1 hT, fun z => a2 (fun y => by omega)⟩
  · have hT : txT u n p ≠ 2 := by
      intro h
      unfold txT at h
      split at h
      · omega
      · split at h
        · rename_i h1 h2
          exact c2 ⟨by omega, h2.1⟩
        · have := zfst_is (p := fun i => txM u (zWtx i) p (txE u n p)) (no := 1) 33 0 (by omega)
          rw [h] at this
          have e24 : zTx (zWtx 2) = [] := by decide
          have hE := txE_rng (u := u) (n := n) (p := p) (by omega)
          unfold txM at this
          rw [e24, if_neg (by show ¬(0 : Int) = _; omega)] at this
          exact absurd this (by decide)
    have h0 := xl_fig (q := q) (d := d + 2) (t := t) (lo := lo) (hi := hi) (e := p) hR (by omega) (by omega) (by omega) (fun j j0 j1 => by omega) (fun h z => c2 ⟨h, z⟩) 0 p 0 (Int.le_refl p) (by omega) (Int.le_refl 0) (by decide)
    obtain ⟨v2, f2, r, a1, a2⟩ := fin p 0 (by omega) (by omega) (by omega)
    exact ⟨v2, f2, h0.trans r, fun z => absurd z.1 hT, fun z => a2 (fun y => y.1 rfl)⟩
