/-! ## a text of lines: the class, units -/
theorem txT_e {u : Int → Int} {n p : Int} (hp : p < n) (h2 : ¬(txK (u p) = 2 ∧ txE u n p - p ≤ 3)) : txT u n p ≠ 0 ∧ txT u n p ≠ 2 := by
  have hE := txE_rng (u := u) hp
  have key : ∀ w : Int, (w = 0 ∨ w = 2) → txT u n p ≠ w := by
    intro w hw z
    unfold txT at z
    rw [if_neg (by omega), if_neg h2] at z
    have := zfst_is (p := fun i => txM u (zWtx i) p (txE u n p)) (no := 1) 33 0 (by omega)
    rw [z] at this
    have this : txM u (zWtx w) p (txE u n p) = true := this
    unfold txM at this
    split at this
    · rename_i hl
      have e0 : ((zTx (zWtx w)).length : Int) = 0 := by
        rcases hw with rfl | rfl <;> decide
      omega
    · exact absurd this (by decide)
  exact ⟨key 0 (Or.inl rfl), key 2 (Or.inr rfl)⟩
theorem txT_n0 {u : Int → Int} {n p : Int} (hp : p < n) : txT u n p ≠ 0 := by
  by_cases h2 : txK (u p) = 2 ∧ txE u n p - p ≤ 3
  · unfold txT
    rw [if_neg (by omega), if_pos h2]
    decide
  · exact (txT_e hp h2).1
theorem txT_2 {u : Int → Int} {n p : Int} (h : txT u n p = 2) : p < n ∧ txK (u p) = 2 := by
  have hp := txT_lt (u := u) (n := n) (p := p) (by omega)
  refine ⟨hp, ?_⟩
  apply Classical.byContradiction
  intro z
  exact (txT_e hp (fun y => z y.1)).2 h
theorem txT_n3 {u : Int → Int} {n p : Int} (h : txK (u p) = 2) : txT u n p ≠ 3 := by
  intro z
  have := (tx_sign (u := u) (n := n) (p := p) (w := 3) (c := 59) (by decide) (by decide) (by decide)).mpr z
  rw [this.2] at h
  exact absurd h (by decide)
theorem c_tellU {q : Int × (Int → Int)} {d : Nat} {f : Int → Int → Int} {t : (Int → Int) × Nat × Nat × Nat × (Int → Int → Bool)} {g : Int → Int} {W l v N : Int} (hG : zGC f W g) (hL : zWL f W g) (hI : gInv N g) (hN : N ≤ 1900000) (hl : 0 ≤ l) (hlm : l < g 3) (h6 : g (10 + 265 * l + 6) < 24) (hv : 1 ≤ v ∧ v ≤ 9) : ∃ x f2, zM (true, q) (d + 2) 51 [(18, W, 0), (13, W + 23 + 18 * l, 0), (0, v, 0)] (f, t) = some ((0, x, 0), (f2, t)) ∧ zGC f2 W (gTd g (10 + 265 * l) v) ∧ zWL f2 W (gTd g (10 + 265 * l) v) ∧ ∀ o k, (o < W ∨ W + 95 ≤ o) → f2 o k = f o k := by
  have m4 := hI.1.2.1
  have w7 := hI.2
  have hIl := (hI.1.2.2.2 l hl hlm)
  have hr := hIl.1.1
  have h_6 := hr.2.2.2.2.2.2.1
  have h_7 := hr.2.2.2.2.2.2.2.1
  have h_2 := hr.2.2.1
  obtain ⟨f2, x2, C2, fb2⟩ := c_addQ (q := q) (d := d) (σ := (f, t)) (s := g 7) (len := v) (num := -1) h_2.2 h_7 h_2.2 h_6.1 (by omega) (hL l hl hlm)
  generalize hg2 : gQa g (10 + 265 * l) (g 7) v = g2 at C2
  have eg : ∀ j, (j < 10 + 265 * l ∨ 10 + 265 * l + 265 ≤ j) → g2 j = g j := fun j hj => by
    rw [← hg2]
    unfold gQa
    rw [zup1_ne (by omega), zup1_ne (by omega), zup1_ne (by omega)]
  have eg2 : ∀ j, 0 ≤ j → j < 73 → j ≠ 6 → g2 (10 + 265 * l + j) = g (10 + 265 * l + j) := fun j j0 j1 j2 => by
    rw [← hg2]
    unfold gQa
    rw [zup1_ne (by omega), zup1_ne (by omega), zup1_ne (by omega)]
  have I2 : zIL (N + 240) g2 (10 + 265 * l) := by
    rw [← hg2, gQa_app h_6.1]
    exact zLI_mono (by omega) (zLI_app hIl.1 (by decide) (by omega) (fun i i0 i1 => by
      show 1 ≤ (if 2 * i + 1 = 0 then g 7 else v) ∧ (if 2 * i + 1 = 0 then g 7 else v) ≤ 9
      rw [if_neg (by omega)]
      exact hv))
  have hW := zW_line (N := N) (M := N + 240) (f := f) (f2 := f2) (W := W) (l := l) (g := g) (g2 := g2) (by omega) hl hlm hI.1 fb2 eg (by rw [eg2 2 (by decide) (by decide) (by decide)]; exact C2) I2 (by rw [eg2 15 (by decide) (by decide) (by decide), eg2 14 (by decide) (by decide) (by decide)]; exact hIl.2) hG hL
  have b9 : f W 9 = g 7 := hG.2.2.2.2.2.1
  have b92 : f2 W 9 = g 7 := hW.1.2.2.2.2.2.1.trans (eg 7 (by omega))
  have ez : gTd g (10 + 265 * l) v = zup1 g2 7 (g 7 + 1) := by rw [← hg2]; rfl
  refine ⟨g 7, zup f2 W 9 (g 7 + 1), ?_, ?_, ?_, fun o k ho => (zup_na (by omega)).trans (fb2 o k (by omega))⟩
  · rw [ze_Wor_tellUnit, zb_Wor_tellUnit_0]
    show zK _ _ _ _ [(18, W, 0), (13, W + 23 + 18 * l, 0), (0, v, 0), (0, f W 9, 0)] [] (zM (true, q) (d + 1) 50 [(16, W + 23 + 18 * l + 1, 96), (0, f W 9, 0), (0, v, 0), (0, -1, 0)] (f, t)) = _
    rw [b9, x2, zK_i, zb_Wor_tellUnit_9]
    show some ((0, g 7, 0), (zup f2 W 9 (zw (f2 W 9 + 1)), t)) = _
    rw [b92, zw_id (by omega) (by omega)]
  · rw [ez]
    exact zGC_told hW.1
  · rw [ez]
    intro o o0 o1
    rw [zup1_ne (by decide)] at o1
    rw [zup1_ne (by omega)]
    have hro := (hW.2.2.2.2.2 o o0 o1).1.1
    exact zLC_eq (fun j j0 j1 => zup1_ne (by omega)) hro (by have := hro.2.2.1; omega) (zLC_fr (fun x k x0 x1 => zup_na (by omega)) (hW.2.1 o o0 o1))
theorem tGW_fr {f f2 : Int → Int → Int} {W N : Int} {g : Int → Int} (hI : gInv N g) (e : ∀ o k, W ≤ o → o < W + 95 → f2 o k = f o k) (hG : zGC f W g) (hL : zWL f W g) : zGC f2 W g ∧ zWL f2 W g := ⟨zGC_c (fun o k o0 o1 _ => e o k o0 o1) hG, zWL_c hI.1.2.1 (fun o k o0 o1 => e o k (by omega) o1) hL⟩
theorem tFr_w {T W : Int} {f f2 : Int → Int → Int} (h : ∀ o k, (o < W ∨ W + 95 ≤ o) → f2 o k = f o k) : tFr T W f f2 := fun o k _ c => h o k c
/-- where something was wrong it ends -/
theorem c_unitsBad {q : Int × (Int → Int)} {d : Nat} {f : Int → Int → Int} {t : (Int → Int) × Nat × Nat × Nat × (Int → Int → Bool)} {u g : Int → Int} {W T b n p e c : Int} {v5 : zV} (hc : c ≤ 12) (c0 : 0 ≤ c) (h : zTC f t.1 T u n p e) (he : e ≠ -1) : ∃ f2, zD (true, q) (d + 3) zc_Wor_readUnits (zat zc_Wor_readUnits 32) [(18, W, 0), (15, T, 0), (13, b, 0), (0, 1, 0), (0, c, 0), v5] [] (f, t) = some ((9, 0, 0), (f2, t)) ∧ zTC f2 t.1 T u n p e ∧ zFP T f f2 := by
  obtain ⟨f1, r1, h1, fr1⟩ := c_number (q := q) (d := d + 1) (σ := (f, t)) (lo := 1) (hi := 9) h
  have y : ∀ Q, ¬(e = -1 ∧ Q) := fun Q z => he z.1
  rw [if_neg (y _), if_neg (y _)] at h1
  rw [if_neg (y _)] at r1
  have r1 : zM (true, q) (d + 2) 48 [(15, T, 0), (0, 1, 0), (0, 9, 0)] (f, t) = some ((0, 1, 0), (f1, t)) := r1
  have h1' : zTC (f1, t).1 (f1, t).2.1 T u n p e := h1
  refine ⟨f1, ?_, h1, fr1⟩
  have tail : ∀ x5, zD (true, q) (d + 3) zc_Wor_readUnits (zat zc_Wor_readUnits 54) [(18, W, 0), (15, T, 0), (13, b, 0), (0, 1, 0), (0, c, 0), (0, x5, 0)] [] (f1, t) = some ((9, 0, 0), (f1, t)) := fun x5 => by
    rw [zb_Wor_readUnits_54, zb_Wor_readUnits_17, zw_id (by omega) (by omega)]
    by_cases c1 : 12 < c + 1
    · rw [if_pos c1, zb_Wor_readUnits_58]
    · rw [if_neg c1, zb_Wor_readUnits_20, if_pos rfl, zb_Wor_readUnits_58]
  rw [zb_Wor_readUnits_32, r1, zK_i, zb_Wor_readUnits_36, c_failed h1', zK_i, zb_Wor_readUnits_39, if_neg he, if_pos (by decide), zb_Wor_readUnits_45, c_word h1']
  show zD (true, q) (d + 3) zc_Wor_readUnits (zat zc_Wor_readUnits 47) _ [(5, txT u n p, 0)] (f1, t) = _
  rw [zb_Wor_readUnits_47]
  by_cases c2 : txT u n p = 2
  · rw [if_neg (fun z => z c2), zb_Wor_readUnits_49, c_failed h1', zK_i, zb_Wor_readUnits_51, if_neg he, if_pos (by decide), tail]
  · rw [if_pos c2, tail]
theorem pUn_bad {u : Int → Int} {n B : Int} {k : Nat} {g : Int → Int} {p : Int} (h : txT u n p ≠ 2) : (pUn u n B k g p).1 = p := by
  cases k with
  | zero => rfl
  | succ k =>
    unfold pUn
    split
    · rfl
    · rw [if_neg (fun z => h z.1)]
theorem lc_units {q : Int × (Int → Int)} {d : Nat} {t : (Int → Int) × Nat × Nat × Nat × (Int → Int → Bool)} {u : Int → Int} {W T n l : Int} (hT : W + 95 ≤ T) (hl : 0 ≤ l) : ∀ (k : Nat) (N : Int) (g : Int → Int) (p c : Int) (f : Int → Int → Int) (v5 : zV), zTC f t.1 T u n p (-1) → zGC f W g → zWL f W g → gInv N g → N + k ≤ 1900000 → l < g 3 → 0 ≤ c → c + k = 12 → ∃ f2, zD (true, q) (d + 3) zc_Wor_readUnits (zat zc_Wor_readUnits 17) [(18, W, 0), (15, T, 0), (13, W + 23 + 18 * l, 0), (0, 1, 0), (0, c, 0), v5] [] (f, t) = some ((9, 0, 0), (f2, t)) ∧ tRes f2 t.1 T W u n (pUn u n (10 + 265 * l) k g p) ∧ tFr T W f f2 := by
  intro k
  -- too many, or too full
  have bad : ∀ (p c : Int) (f : Int → Int → Int) (v5 : zV) (x : Int × Int × (Int → Int)), zTC f t.1 T u n p (-1) → 0 ≤ c → c ≤ 12 → x.1 = p → ∃ f2, zD (true, q) (d + 3) zc_Wor_readUnits (zat zc_Wor_readUnits 30) [(18, W, 0), (15, T, 0), (13, W + 23 + 18 * l, 0), (0, 1, 0), (0, c, 0), v5] [] (f, t) = some ((9, 0, 0), (f2, t)) ∧ tRes f2 t.1 T W u n x ∧ tFr T W f f2 := by
    intro p c f v5 x h c0 hc hx
    have hp := zTC_p h
    obtain ⟨f1, r1, h1, fr1⟩ := c_fail (q := q) (d := d + 2) (σ := (f, t)) h
    rw [if_pos rfl] at h1
    obtain ⟨f2, r2, h2, fr2⟩ := c_unitsBad (q := q) (d := d) (t := t) (g := u) (W := W) (b := W + 23 + 18 * l) (v5 := v5) hc c0 h1 (by omega)
    rw [zb_Wor_readUnits_30, r1, zK_v, r2]
    exact ⟨f2, rfl, ⟨p, p, h2, fun z => by omega, fun _ => Or.inl hx.symm⟩, tFr_p (zFP_trans fr1 fr2)⟩
  induction k with
  | zero =>
    intro N g p c f v5 h hG hL hI hN hlm c0 hc
    rw [zb_Wor_readUnits_17, if_neg (by omega), zb_Wor_readUnits_20, if_neg (by decide), zb_Wor_readUnits_22, if_pos (by omega)]
    exact bad p c f v5 _ h c0 (by omega) rfl
  | succ k ih =>
    intro N g p c f v5 h hG hL hI hN hlm c0 hc
    have hp := zTC_p h
    have m4 := hI.1.2.1
    have e6 : f (W + 23 + 18 * l + 1) 4 = g (10 + 265 * l + 6) := (hL l hl hlm).2.1
    rw [zb_Wor_readUnits_17, if_neg (by omega), zb_Wor_readUnits_20, if_neg (by decide), zb_Wor_readUnits_22, if_neg (by omega), zb_Wor_readUnits_25]
    show ∃ f2, (if f (W + 23 + 18 * l + 1) 4 < 24 then _ else _) = _ ∧ _
    rw [e6]
    unfold pUn
    by_cases c6 : g (10 + 265 * l + 6) < 24
    · rw [if_pos c6, if_neg (show ¬(24 ≤ g (10 + 265 * l + 6)) by omega)]
      by_cases cv : txT u n p = 2 ∧ 1 ≤ txV u n p ∧ txV u n p ≤ 9
      · obtain ⟨f1, r1, h1, fr1⟩ := c_number (q := q) (d := d + 1) (σ := (f, t)) (lo := 1) (hi := 9) h
        have y : (-1 : Int) = -1 ∧ (txT u n p = 2 ∧ 1 ≤ txV u n p ∧ txV u n p ≤ 9) := ⟨rfl, cv⟩
        rw [if_pos y, if_neg (fun z => z.2 cv)] at h1
        rw [if_pos y] at r1
        have r1 : zM (true, q) (d + 2) 48 [(15, T, 0), (0, 1, 0), (0, 9, 0)] (f, t) = some ((0, txV u n p, 0), (f1, t)) := r1
        have h1' : zTC (f1, t).1 (f1, t).2.1 T u n (txN u n p) (-1) := h1
        have fr1 : zFP T f f1 := fr1
        obtain ⟨G1, L1⟩ := tGW_fr hI (fun o k _ o1 => fr1 o k (by omega)) hG hL
        obtain ⟨x2, f2, r2, G2, L2, fr2⟩ := c_tellU (q := q) (d := d) (t := t) (v := txV u n p) G1 L1 hI (by omega) hl hlm c6 cv.2
        obtain ⟨I2, _, g3⟩ := gInv_td hI hl hlm c6 cv.2
        have h2 : zTC f2 t.1 T u n (txN u n p) (-1) := zTC_fr (fun o k o0 => fr2 o k (by omega)) h1
        have h2' : zTC (f2, t).1 (f2, t).2.1 T u n (txN u n p) (-1) := h2
        have z02 : tFr T W f f2 := tFr_trans (tFr_p fr1) (tFr_w fr2)
        have hp2 := zTC_p h2
        rw [if_pos cv, zb_Wor_readUnits_32, r1, zK_i, zb_Wor_readUnits_36, c_failed h1', zK_i, zb_Wor_readUnits_39, if_pos rfl, if_neg (fun z => z rfl), zb_Wor_readUnits_40, r2, zK_i, zb_Wor_readUnits_44, c_word h2']
        show ∃ f3, zD (true, q) (d + 3) zc_Wor_readUnits (zat zc_Wor_readUnits 47) _ [(5, txT u n (txN u n p), 0)] (f2, t) = _ ∧ _
        rw [zb_Wor_readUnits_47]
        by_cases c2 : txT u n (txN u n p) = 2
        · rw [if_neg (fun z => z c2), zb_Wor_readUnits_49, c_failed h2', zK_i, zb_Wor_readUnits_51, if_pos rfl, if_neg (fun z => z rfl), zb_Wor_readUnits_52, zw_id (by omega) (by omega), if_pos (txT_2 c2)]
          obtain ⟨f3, r3, z3, i3⟩ := ih (N + 1) (gTd g (10 + 265 * l) (txV u n p)) (txN u n p) (c + 1) f2 (0, txV u n p, 0) h2 G2 L2 I2 (by omega) (by rw [g3]; exact hlm) (by omega) (by omega)
          exact ⟨f3, r3, z3, tFr_trans z02 i3⟩
        · have tail : zD (true, q) (d + 3) zc_Wor_readUnits (zat zc_Wor_readUnits 54) [(18, W, 0), (15, T, 0), (13, W + 23 + 18 * l, 0), (0, 1, 0), (0, c, 0), (0, txV u n p, 0)] [] (f2, t) = some ((9, 0, 0), (f2, t)) := by
            rw [zb_Wor_readUnits_54, zb_Wor_readUnits_17, zw_id (by omega) (by omega)]
            by_cases c1 : 12 < c + 1
            · rw [if_pos c1, zb_Wor_readUnits_58]
            · rw [if_neg c1, zb_Wor_readUnits_20, if_pos rfl, zb_Wor_readUnits_58]
          rw [if_pos c2, tail]
          refine ⟨f2, rfl, ?_, z02⟩
          by_cases cm : txN u n p < n ∧ txK (u (txN u n p)) = 2
          · rw [if_pos cm]
            have hx := pUn_bad (B := 10 + 265 * l) (k := k) (g := gTd g (10 + 265 * l) (txV u n p)) c2
            exact ⟨_, _, h2, fun z => by omega, fun _ => Or.inr ⟨rfl, hx.symm, txT_n3 cm.2, txT_n0 cm.1⟩⟩
          · rw [if_neg cm]
            exact ⟨_, _, h2, fun _ => ⟨rfl, rfl, G2, L2⟩, fun z => absurd rfl z⟩
      · obtain ⟨f1, r1, h1, fr1⟩ := c_number (q := q) (d := d + 1) (σ := (f, t)) (lo := 1) (hi := 9) h
        have y : ¬((-1 : Int) = -1 ∧ (txT u n p = 2 ∧ 1 ≤ txV u n p ∧ txV u n p ≤ 9)) := fun z => cv z.2
        rw [if_neg y, if_pos ⟨rfl, cv⟩] at h1
        rw [if_neg y] at r1
        have r1 : zM (true, q) (d + 2) 48 [(15, T, 0), (0, 1, 0), (0, 9, 0)] (f, t) = some ((0, 1, 0), (f1, t)) := r1
        have h1' : zTC (f1, t).1 (f1, t).2.1 T u n p p := h1
        have he : p ≠ -1 := by omega
        have tail : zD (true, q) (d + 3) zc_Wor_readUnits (zat zc_Wor_readUnits 54) [(18, W, 0), (15, T, 0), (13, W + 23 + 18 * l, 0), (0, 1, 0), (0, c, 0), (0, 1, 0)] [] (f1, t) = some ((9, 0, 0), (f1, t)) := by
          rw [zb_Wor_readUnits_54, zb_Wor_readUnits_17, zw_id (by omega) (by omega)]
          by_cases c1 : 12 < c + 1
          · rw [if_pos c1, zb_Wor_readUnits_58]
          · rw [if_neg c1, zb_Wor_readUnits_20, if_pos rfl, zb_Wor_readUnits_58]
        rw [if_neg cv, zb_Wor_readUnits_32, r1, zK_i, zb_Wor_readUnits_36, c_failed h1', zK_i, zb_Wor_readUnits_39, if_neg he, if_pos (by decide), zb_Wor_readUnits_45, c_word h1']
        show ∃ f3, zD (true, q) (d + 3) zc_Wor_readUnits (zat zc_Wor_readUnits 47) _ [(5, txT u n p, 0)] (f1, t) = _ ∧ _
        rw [zb_Wor_readUnits_47]
        refine ⟨f1, ?_, ⟨p, p, h1, fun z => absurd z he, fun _ => Or.inl rfl⟩, tFr_p fr1⟩
        by_cases c2 : txT u n p = 2
        · rw [if_neg (fun z => z c2), zb_Wor_readUnits_49, c_failed h1', zK_i, zb_Wor_readUnits_51, if_neg he, if_pos (by decide), tail]
        · rw [if_pos c2, tail]
    · rw [if_neg c6, if_pos (show 24 ≤ g (10 + 265 * l + 6) by omega)]
      exact bad p c f v5 _ h c0 (by omega) rfl

