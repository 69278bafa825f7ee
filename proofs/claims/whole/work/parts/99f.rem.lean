/-! ## both remember -/
theorem zRW_g {N : Int} {f : Int → Int → Int} {W : Int} {g h : Int → Int} (e : ∀ j, 0 ≤ j → j < 1310 → h j = g j) (r : zRW N f W g) : zRW N f W h := by
  obtain ⟨⟨a1, a2, a3, a4, a5, a6, a7, j1, j2, j3, j4⟩, r2, ⟨w1, w2, w3, w4⟩, r4, r5⟩ := r
  have h3 := e 3 (by decide) (by decide)
  have h8 := e 8 (by decide) (by decide)
  have g8 := w3.2.2.2
  have ex : ∀ o, 0 ≤ o → o < g 3 → zLE g h (10 + 265 * o) := fun o o0 o1 j j0 j1 => e j (by omega) (by omega)
  refine ⟨⟨?_, ?_, ?_, ?_, ?_, ?_, ?_, ?_, j2, j3, fun ago c b0 b1 c0 c1 => ?_⟩, fun o o0 o1 => ?_, ⟨?_, ?_, zGR_eq (fun j j0 j1 => e j (by omega) (by omega)) w3, fun o o0 o1 => ?_⟩, ?_, ?_⟩
  · rw [h3]; exact a1
  · rw [e 0 (by decide) (by decide)]; exact a2
  · rw [e 4 (by decide) (by decide)]; exact a3
  · rw [e 5 (by decide) (by decide)]; exact a4
  · rw [e 6 (by decide) (by decide)]; exact a5
  · rw [e 7 (by decide) (by decide)]; exact a6
  · rw [e 9 (by decide) (by decide)]; exact a7
  · rw [h8]; exact j1
  · rw [e _ (by omega) (by omega)]
    exact j4 ago c b0 (by omega) c0 c1
  · rw [h3] at o1
    rw [e _ (by omega) (by omega)]
    have hro := (w4 o o0 o1).1.1
    exact zLC_eq (ex o o0 o1) hro (by have := hro.2.2.1; omega) (r2 o o0 o1)
  · rw [h3]; exact w1
  · rw [h3]; exact w2
  · rw [h3] at o1
    rw [e (10 + 265 * o + 15) (by omega) (by omega), e (10 + 265 * o + 14) (by omega) (by omega)]
    exact ⟨zLI_eq (ex o o0 o1) (w4 o o0 o1).1, (w4 o o0 o1).2⟩
  · rw [e 0 (by decide) (by decide)]; exact r4
  · rw [e 7 (by decide) (by decide)]; exact r5
def zRm (h h1 : Int → Int → Int) : Prop := h1 1464 6 = (if h 1464 6 = 12 then 12 else h 1464 6 + 1) ∧ (∀ i, 1 ≤ i → i < h1 1464 6 → ∀ k, 0 ≤ k → k < 1310 → zact h1 (h1 1464 6 - 1 - i) k = zact h (h 1464 6 - 1 - (i - 1)) k) ∧ (∀ k, 0 ≤ k → k < 1310 → zact h1 (h1 1464 6 - 1 - 0) k = h 1465 k) ∧ ∀ o k, o ≠ 1468 → (o ≠ 1464 ∨ k ≠ 6) → h1 o k = h o k
theorem r_remR {q : Int × (Int → Int)} {d : Nat} {t : (Int → Int) × Nat × Nat × Nat × (Int → Int → Bool)} {h : Int → Int → Int} {g : Int → Int} (A0 : 0 ≤ h 1464 6) (A1 : h 1464 6 ≤ 12) : ∃ h1, zM (true, q) d 186 [(20, 1464, 0)] (zrow h 1465 g, t) = some ((9, 0, 0), (zrow h1 1465 g, t)) ∧ zRm (zrow h 1465 g) (zrow h1 1465 g) := by
  have key : ∀ h1 : Int → Int → Int, zRm (zrow h 1465 g) h1 → zrow h1 1465 g = h1 := by
    intro h1 z
    have e : h1 1465 = g := funext fun k => (z.2.2.2 _ _ (by decide) (by omega)).trans (congrFun zrow_r k)
    rw [← e, zrow_id]
  have e6 : zrow h 1465 g 1464 6 = h 1464 6 := congrFun (zrow_ne (by decide)) 6
  rcases (by omega : h 1464 6 < 12 ∨ h 1464 6 = 12) with c | c
  · obtain ⟨f2, r2, h2, h3⟩ := r_rem (q := q) (d := d) (t := t) (f := zrow h 1465 g) e6 A0 c
    have z : zRm (zrow h 1465 g) (zup f2 1464 6 (h 1464 6 + 1)) := by
      refine ⟨?_, fun i i0 i1 k k0 k1 => ?_, fun k k0 k1 => ?_, fun o k ho hk => ?_⟩
      · rw [zupE rfl rfl, e6, if_neg (by omega)]
      · rw [zupE rfl rfl] at i1 ⊢
        rw [e6]
        unfold zact
        rw [zup_na (by decide), show h 1464 6 - 1 - (i - 1) = h 1464 6 + 1 - 1 - i by omega]
        exact h3 _ _ (by omega)
      · rw [zupE rfl rfl]
        unfold zact
        rw [zup_na (by decide), show h 1464 6 + 1 - 1 - 0 = h 1464 6 by omega, h2 k k0 k1, Int.zero_add]
      · rw [zup_nka (by omega)]
        exact h3 _ _ (by omega)
    refine ⟨zup f2 1464 6 (h 1464 6 + 1), ?_, ?_⟩
    · rw [key _ z]
      exact r2
    · rw [key _ z]
      exact z
  · obtain ⟨f1, f2, r2, h1, h2⟩ := r_rem12 (q := q) (d := d) (t := t) (f := zrow h 1465 g) (e6.trans c)
    have z : zRm (zrow h 1465 g) (zup f2 1464 6 12) := by
      refine ⟨?_, fun i i0 i1 k k0 k1 => ?_, fun k k0 k1 => ?_, fun o k ho hk => ?_⟩
      · rw [zupE rfl rfl, e6, if_pos c]
      · rw [zupE rfl rfl] at i1 ⊢
        rw [e6, c]
        unfold zact
        rw [zup_na (by decide), h2.2 _ _ (by omega), zup_na (by decide)]
        have := h1.1 (1310 * (12 - 1 - i) + k) (by omega) (by omega)
        rw [Int.zero_add] at this
        rw [this, show 1310 + (1310 * (12 - 1 - i) + k) = 1310 * (12 - 1 - (i - 1)) + k by omega]
      · rw [zupE rfl rfl]
        unfold zact
        rw [zup_na (by decide), show 1310 * ((12 : Int) - 1 - 0) + k = 14410 + k by omega, h2.1 k k0 k1, zup_na (by decide), Int.zero_add]
        exact h1.2 _ _ (by omega)
      · rw [zup_nka (by omega), h2.2 _ _ (by omega), zup_nka (by omega)]
        exact h1.2 _ _ (by omega)
    refine ⟨zup f2 1464 6 12, ?_, ?_⟩
    · rw [key _ z]
      exact r2
    · rw [key _ z]
      exact z
def zCm (f f1 : Int → Int → Int) (g : Int → Int) : Prop := f1 0 15 = (f 0 15 + 1) % 12 ∧ f1 0 16 = (if f 0 16 = 12 then 12 else f 0 16 + 1) ∧ zGC f1 (324 + 95 * ((f 0 15 + 1) % 12)) g ∧ zWL f1 (324 + 95 * ((f 0 15 + 1) % 12)) g ∧ ∀ o k, (o ≠ 0 ∨ (k ≠ 15 ∧ k ≠ 16)) → (o < 324 + 95 * ((f 0 15 + 1) % 12) ∨ 324 + 95 * ((f 0 15 + 1) % 12) + 95 ≤ o) → f1 o k = f o k
theorem c_rem {q : Int × (Int → Int)} {d : Nat} {t : (Int → Int) × Nat × Nat × Nat × (Int → Int → Bool)} {N : Int} {f : Int → Int → Int} (hR : ZR N f f) : ∃ f1, zM (true, q) (d + 4) 183 [(19, 0, 0)] (f, t) = some ((9, 0, 0), (f1, t)) ∧ zCm f f1 (f 1465) := by
  obtain ⟨r0, ⟨w1, w2, w3, w4⟩, r2, r3, r4, ⟨a1, a2, a3, a4, a5, a6⟩, r6⟩ := hR
  generalize hL : (f 0 15 + 1) % 12 = L
  have L0 : 0 ≤ L ∧ L < 12 := by omega
  have zr : zrem (zw (f 0 15 + 1)) 12 = L := by
    rw [zw_id (by omega) (by omega), ← hL]
    exact Int.tmod_eq_emod_of_nonneg (by omega)
  generalize hf0 : zup f 0 15 L = f0
  have G0 : zGC f0 23 (f 1465) := by
    rw [← hf0]
    exact zGC_c (fun o k o0 o1 o2 => zup_na (by omega)) w1
  have W0 : zWL f0 23 (f 1465) := by
    rw [← hf0]
    exact zWL_c w3.2.1 (fun o k o0 o1 => zup_na (by omega)) w2
  obtain ⟨f1, x1, g1, l1, fr⟩ := c_world (q := q) (d := d) (t := t) (U := 324 + 95 * L) (W := 23) (by omega) w3.1 w3.2.1 w3.2.2.1.2.2.2.2 (fun o o0 o1 => (w3.2.2.2 o o0 o1).1.1) G0 W0
  have e16 : f1 0 16 = f 0 16 := by
    rw [fr _ _ (by omega), ← hf0, zup_nk (by decide)]
  have run : zM (true, q) (d + 4) 183 [(19, 0, 0)] (f, t) = zD (true, q) (d + 4) zc_X_remember (zat zc_X_remember 15) [(19, 0, 0)] [] (f1, t) := by
    rw [ze_X_remember, zb_X_remember_0, zG1 (by decide)]
    show zD (true, q) (d + 4) zc_X_remember (zat zc_X_remember 7) [(19, 0, 0)] [(0, zrem (zw (f 0 15 + 1)) 12, 0), (19, 0, 0)] (f, t) = _
    rw [zr, zb_X_remember_7]
    show zK _ _ _ _ _ _ (zM (true, q) (d + 3) 182 [(19, 0, 0), (0, zup f 0 15 L 0 15, 0)] (zup f 0 15 L, t)) = _
    rw [zupE rfl rfl, hf0, ze_X_rememberedAt, zb_X_rememberedAt_0, if_neg (by omega), zb_X_rememberedAt_2, if_neg (by omega), zb_X_rememberedAt_7, zG2 (by omega) (by omega), zb_X_rememberedAt_11, zK_18, zb_X_remember_12, show (0 : Int) + 308 + 16 + 95 * L = 324 + 95 * L by omega]
    show zK _ _ _ _ _ _ (zM (true, q) (d + 3) 43 [(18, 324 + 95 * L, 0), (18, 23, 0)] (f0, t)) = _
    rw [x1, zK_v]
  have fr2 : ∀ o k, (o ≠ 0 ∨ (k ≠ 15 ∧ k ≠ 16)) → (o < 324 + 95 * L ∨ 324 + 95 * L + 95 ≤ o) → f1 o k = f o k := fun o k ho hk => by
    rw [fr o k hk, ← hf0, zup_nka (by omega)]
  have e15 : f1 0 15 = L := by
    rw [fr _ _ (by omega), ← hf0, zupE rfl rfl]
  by_cases c : f 0 16 = 12
  · refine ⟨f1, ?_, ?_⟩
    · rw [run, zb_X_remember_15]
      show (if 12 ≤ f1 0 16 then _ else _) = _
      rw [e16, if_pos (by omega), zb_X_remember_25]
    · unfold zCm
      rw [hL]
      exact ⟨e15, by rw [if_pos c, e16, c], g1, l1, fr2⟩
  · refine ⟨zup f1 0 16 (f 0 16 + 1), ?_, ?_⟩
    · rw [run, zb_X_remember_15]
      show (if 12 ≤ f1 0 16 then _ else _) = _
      rw [e16, if_neg (by omega), zb_X_remember_19]
      show some ((9, 0, 0), (zup f1 0 16 (zw (f1 0 16 + 1)), t)) = _
      rw [e16, zw_id (by omega) (by omega)]
    · unfold zCm
      rw [hL]
      refine ⟨by rw [zup_nk (by decide)]; exact e15, by rw [zupE rfl rfl, if_neg c], zGC_c (fun o k o0 o1 o2 => zup_na (by omega)) g1, zWL_c w3.2.1 (fun o k o0 o1 => zup_na (by omega)) l1, fun o k ho hk => ?_⟩
      rw [zup_nka (by omega)]
      exact fr2 o k ho hk
theorem ZR_rem {N : Int} {f f1 h h1 : Int → Int → Int} (hR : ZR N f h) (hC : zCm f f1 (h 1465)) (hH : zRm h h1) : ZR N f1 h1 := by
  obtain ⟨r0, r1, r2, r3, r4, ⟨a1, a2, a3, a4, a5, a6⟩, r6⟩ := hR
  obtain ⟨c1, c2, c3, c4, c5⟩ := hC
  obtain ⟨b1, b2, b3, b4⟩ := hH
  generalize hL : (f 0 15 + 1) % 12 = L at c1 c3 c4 c5
  have L0 : 0 ≤ L ∧ L < 12 := by omega
  have x5 : h1 1465 = h 1465 := funext fun k => b4 _ _ (by omega) (by omega)
  have x6 : h1 1466 = h 1466 := funext fun k => b4 _ _ (by omega) (by omega)
  have x9 : h1 1469 = h 1469 := funext fun k => b4 _ _ (by omega) (by omega)
  have y3 := b4 1464 3 (by decide) (by omega)
  have y8 := b4 1464 8 (by decide) (by omega)
  have y12 := b4 1464 12 (by decide) (by omega)
  have cnt : 0 ≤ h1 1464 6 ∧ h1 1464 6 ≤ 12 := by
    rw [b1]
    split <;> omega
  refine ⟨r0, by rw [x5]; exact zRW_c (fun o k o0 o1 o2 => c5 o k (by omega) (by omega)) r1, by rw [x5]; exact zRL_c (fun o k o0 o1 => c5 o k (by omega) (by omega)) r2, ?_, zRI_c (fun o k ho => c5 o k (by omega) (by omega)) y3 x6 r4, ⟨cnt.1, cnt.2, by rw [c2, b1, a3], by rw [c1]; exact L0.1, by rw [c1]; exact L0.2, fun i i0 i1 => ?_⟩, ?_⟩
  · unfold zRT
    rw [y8, x9, c5 0 12 (by omega) (by omega), show f1 1 = f 1 from funext fun k => c5 1 k (by omega) (by omega)]
    exact r3
  · rw [c1, x5]
    by_cases ci : i = 0
    · subst ci
      rw [show (L + 12 - 0) % 12 = L by omega]
      refine ⟨zRW_g b3 ⟨c3, c4, r1.2.2⟩, b3 1 (by decide) (by decide), b3 2 (by decide) (by decide)⟩
    · have hi := a6 (i - 1) (by omega) (by rw [b1] at i1; split at i1 <;> omega)
      have e := b2 i (by omega) i1
      have em : (f 0 15 + 12 - (i - 1)) % 12 = (L + 12 - i) % 12 := by omega
      rw [em] at hi
      have ne : (L + 12 - i) % 12 ≠ L := by omega
      have rg : 0 ≤ (L + 12 - i) % 12 ∧ (L + 12 - i) % 12 < 12 := by omega
      generalize (L + 12 - i) % 12 = V at hi ne rg ⊢
      refine ⟨zRW_g e (zRW_c (fun o k o0 o1 o2 => c5 o k (by omega) (by omega)) hi.1), (e 1 (by decide) (by decide)).trans hi.2.1, (e 2 (by decide) (by decide)).trans hi.2.2⟩
  · rw [y12, c5 0 13 (by omega) (by omega)]
    exact ⟨r6.1, zB3_fr (fun k k0 k1 => b4 _ _ (by decide) (by omega)) r6.2⟩
theorem zOw_act {q : Int × (Int → Int)} {N M : Int} {f f1 f2 : Int → Int → Int} {t : (Int → Int) × Nat × Nat × Nat × (Int → Int → Bool)} {k m : Nat} {ka ma : List zV} {v : Int} {g2 : Int → Int} (hR : ZR N f f) (hNM : N ≤ M) (hk : zM (true, q) 1899 k ka (f, t) = some ((0, 0, 0), (zup f2 1478 0 v, t))) (hc : zCm f f1 (f 1465)) (e : ∀ o k, (o < 8 ∨ (16 ≤ o ∧ o < 22) ∨ (213 ≤ o ∧ o < 308) ∨ 324 ≤ o) → f2 o k = f1 o k) (hW : zRW M f2 23 g2) (eg : ∀ j, (j = 1 ∨ j = 2 ∨ 1310 ≤ j) → g2 j = f 1465 j)
    (hm : ∀ h : Int → Int → Int, 0 ≤ h 1464 6 → h 1464 6 ≤ 12 → ∃ h1 h2, zRm (zrow (zup h 1464 0 0) 1465 (f 1465)) (zrow h1 1465 (f 1465)) ∧ zM (true, q) 1899 m ma (zrow h 1465 (f 1465), t) = some ((0, v, 0), (zrow h2 1465 g2, t)) ∧ zFr h1 h2) : zOw q M f t k ka m ma := by
  have fr1 : ∀ o k, 1464 ≤ o → f1 o k = f o k := fun o k ho => by
    have h12 : (f 0 15 + 1) % 12 < 12 := by omega
    exact hc.2.2.2.2 o k (by omega) (by omega)
  generalize hh : zup f2 1478 0 v = h
  have hhe : ∀ o k, 1464 ≤ o → o ≠ 1478 → h o k = f o k := fun o k o0 o1 => by
    rw [← hh, zup_na (by omega), e o k (by omega), fr1 o k o0]
  have h5 : h 1465 = f 1465 := funext fun k => hhe _ _ (by omega) (by omega)
  have h6 : h 1464 6 = f 1464 6 := hhe _ _ (by omega) (by omega)
  have A := hR.2.2.2.2.2.1
  obtain ⟨h1, h2, z, run, fr⟩ := hm h (by rw [h6]; exact A.1) (by rw [h6]; exact A.2.1)
  have e5 : zrow h 1465 (f 1465) = h := by rw [← h5, zrow_id]
  rw [e5] at run
  have c2 : ∀ o k, (o < 1464 ∨ o = 1478) → zrow h2 1465 g2 o k = h o k := fun o k ho => by
    rw [zrow_ne (by omega), fr.1 o k (by omega) (by omega) (by omega) (by omega) (by omega) (by omega)]
    have := z.2.2.2 o k (by omega) (by omega)
    rw [zrow_ne (by omega), zrow_ne (by omega), zup_na (by omega)] at this
    exact this
  have R0 : ZR N f (zrow (zup h 1464 0 0) 1465 (f 1465)) := ZR_c zCk_refl ⟨fun o k ho => by
    by_cases c : o = 1465
    · rw [c, zrow_r]
    · rw [zrow_ne c, zup_nka (by omega)]
      exact hhe o k (by omega) (by omega), zB3_fr (fun k k0 k1 => by
    rw [zrow_ne (by decide), zup_nk (by omega)]
    exact hhe _ _ (by decide) (by decide))⟩ hR
  have hc0 : zCm f f1 (zrow (zup h 1464 0 0) 1465 (f 1465) 1465) := by
    rw [zrow_r]
    exact hc
  have R1 := ZR_rem R0 hc0 z
  have R2 : ZR M f2 (zrow h2 1465 g2) := by
    refine ZR_w R1 hNM (fun o k ho => e o k (by omega)) (fun o k ho => ?_) (fun j hj => ?_) (fun y => zB3_fr (fun k _ _ => congrFun (zrow_ne (by decide)) k) (fr.2 (zB3_fr (f := zrow h1 1465 (f 1465)) (fun k _ _ => (congrFun (zrow_ne (show (1464 : Int) ≠ 1465 by decide)) k).symm) y))) ?_
    · rw [zrow_ne (by omega), zrow_ne (by omega)]
      exact fr.1 o k (by omega) (by omega) (by omega) (by omega) (by omega) (by omega)
    · rw [zrow_r, zrow_r]
      exact eg j hj
    · rw [zrow_r]
      exact hW
  refine ⟨0, v, h, t, zrow h2 1465 g2, by rw [← hh]; exact hk, run, ?_, fun _ => ?_, ZR_c (fun o k ho => ?_) zHk_refl R2, zTt_refl⟩
  · rw [zrow_ne (by decide), fr.1 1464 0 (by decide) (by decide) (by decide) (by decide) (by decide) (by omega)]
    have := z.2.2.2 1464 0 (by decide) (by omega)
    rw [zrow_ne (by decide), zrow_ne (by decide), zupE rfl rfl] at this
    exact this
  · rw [c2 _ _ (by omega), ← hh, zupE rfl rfl]
  · rw [c2 o k (by omega), ← hh, zup_na (by omega)]

