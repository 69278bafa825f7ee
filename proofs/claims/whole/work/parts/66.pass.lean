/-! ## the class: a line passes, all lines pass -/
theorem zOn3 {A : (Int → Int) → Int × Int} {N : Int} {g : Int → Int} {l dr : Int} (hA : zAB A) (hW : zWI N g) (hl : 0 ≤ l) (hlm : l < g 3) (N0 : 0 ≤ N) (hN9 : N < 2147483646) : zIL (N + 1) (kSend A (kTwo A g l (10 + 265 * l)) l (10 + 265 * l) dr) (10 + 265 * l) ∧ zGR (N + 1) (kSend A (kTwo A g l (10 + 265 * l)) l (10 + 265 * l) dr) ∧ zOut g (kSend A (kTwo A g l (10 + 265 * l)) l (10 + 265 * l) dr) (10 + 265 * l) ∧ kSend A (kTwo A g l (10 + 265 * l)) l (10 + 265 * l) dr (10 + 265 * l + 15) ≤ kSend A (kTwo A g l (10 + 265 * l)) l (10 + 265 * l) dr (10 + 265 * l + 14) ∧ kSend A (kTwo A g l (10 + 265 * l)) l (10 + 265 * l) dr (10 + 265 * l + 2) = g (10 + 265 * l + 2) := by
  obtain ⟨h30, h34, hG, hL⟩ := id hW
  have hB : (10 : Int) ≤ 10 + 265 * l := by omega
  have hB2 : 10 + 265 * l + 265 ≤ 1070 := by omega
  obtain ⟨i2, g2, o2, f2⟩ := zTwo (l := l) hA hB hB2 (hL l hl hlm).1 hG N0 hN9
  refine ⟨zLI_send (A := A) (l := l) (dr := dr) hB hB2 i2 N0 hN9, zGR_send (A := A) (l := l) (dr := dr) hB hB2 i2.1 g2, zOut_trans o2 (zOut_send (A := A) (l := l) (dr := dr) hB hB2 i2.1), ?_, ?_⟩
  · rw [kSend_f hB hB2 i2.1 (by decide) (by decide), kSend_f hB hB2 i2.1 (by decide) (by decide), f2 15 (by decide) (by decide), f2 14 (by decide) (by decide)]
    exact (hL l hl hlm).2
  · rw [kSend_f hB hB2 i2.1 (by decide) (by decide), f2 2 (by decide) (by decide)]
theorem c_passLine {q : Int × (Int → Int)} {d : Nat} {σ : zS} {N W l a dr : Int} {g : Int → Int} {S : Int → (Int → Int) → Int} {h0 : Int → Int → Int} (hS : zSC S) (hA : zAskC q S a h0) (hh : ∀ o k, a ≤ o → o < a + 6 → σ.1 o k = h0 o k) (ha : a + 7 ≤ W) (hW : zWI N g) (hl : 0 ≤ l) (hlm : l < g 3) (N0 : 0 ≤ N) (hN9 : N < 2147483646) (hG : zGC σ.1 W g) (hL : zWL σ.1 W g) : ∃ f2, zM (true, q) (d + 5) 134 [(18, W, 0), (0, l, 0), (12, a, 0), (0, dr, 0)] σ = some ((9, 0, 0), (f2, σ.2)) ∧ zGC f2 W (kOn (zLwA S) g l dr) ∧ zWL f2 W (kOn (zLwA S) g l dr) ∧ ∀ o k, (o < W ∨ W + 95 ≤ o) → o ≠ a + 6 → f2 o k = σ.1 o k := by
  obtain ⟨h30, h34, hR, hLI⟩ := id hW
  have hl4 : l < 4 := by omega
  have hAB := zAB_of hS
  have hB : (10 : Int) ≤ 10 + 265 * l := by omega
  have hB2 : 10 + 265 * l + 265 ≤ 1070 := by omega
  have hIl := (hLI l hl hlm).1
  have hp := hIl.1.2.2.1
  obtain ⟨i2, g2, o2, _⟩ := zTwo (l := l) hAB hB hB2 hIl hR N0 hN9
  obtain ⟨i3, g3, o3, p3, e32⟩ := zOn3 (l := l) (dr := dr) hAB hW hl hlm N0 hN9
  have it := zLI_take (A := zLwA S) (l := l) hB hB2 hIl
  obtain ⟨fa, ra, ha1, haG, fra⟩ := c_arr (q := q) (d := d) (W := W) (b := W + 23 + 18 * l) (dr := dr) hS hA hh ha rfl hl hl4 rfl hIl hR (hL l hl hlm) hG
  have e0 : kTake (zLwA S) g l (10 + 265 * l) (10 + 265 * l + 0) = g (10 + 265 * l + 0) := kTake_f hB hB2 hIl.1 (by decide) (by decide)
  have fa4 := zc_f4 ha1
  rw [e0] at fa4
  have hk8 : ∀ o k, a ≤ o → o < a + 6 → fa o k = h0 o k := fun o k a1 a2 => (fra o k (by omega) (by omega) (by omega) (by omega) (by omega) (by omega)).trans (hh o k a1 a2)
  obtain ⟨x5, hx5⟩ : ∃ x, (if g (10 + 265 * l + (49 + 3)) = 1 then (1 : Int) else 0) = x := ⟨_, rfl⟩
  have hx01 : x5 = 0 ∨ x5 = 1 := by
    rw [← hx5]
    split <;> omega
  -- what comes back
  have two : ∃ fb, zD (true, q) (d + 5) zc_Wor_passLine (zat zc_Wor_passLine 18) [(18, W, 0), (0, l, 0), (12, a, 0), (0, dr, 0), (13, W + 23 + 18 * l, 0), (0, x5, 0), (2, 0, 0), (2, 0, 0)] [] (fa, σ.2) = zD (true, q) (d + 5) zc_Wor_passLine (zat zc_Wor_passLine 24) [(18, W, 0), (0, l, 0), (12, a, 0), (0, dr, 0), (13, W + 23 + 18 * l, 0), (0, x5, 0), (2, 0, 0), (2, 0, 0)] [] (fb, σ.2) ∧ zLC (g (10 + 265 * l + 2) - 1) fb (W + 23 + 18 * l) (kTwo (zLwA S) g l (10 + 265 * l)) (10 + 265 * l) ∧ zGC fb W (kTwo (zLwA S) g l (10 + 265 * l)) ∧ zFX W (W + 23 + 18 * l) a σ.1 fb := by
    unfold kTwo
    by_cases c : g (10 + 265 * l + 0) = 2
    · rw [if_pos c]
      obtain ⟨fb, rb, hb1, frb⟩ := c_comeBack (q := q) (d := d + 2) (σ := (fa, σ.2)) (by omega) it (e0.trans c) ha1
      refine ⟨fb, ?_, hb1, ?_, zFX_trans fra (zFX_b frb)⟩
      · rw [zb_Wor_passLine_18, if_neg (show ¬fa (W + 23 + 18 * l) 4 ≠ 2 by omega), zb_Wor_passLine_22, rb, zK_v]
      · refine zGC_g (fun j hj => rHas_out it (by omega)) (zGR_take hAB hB hIl hR N0 hN9).2.2.2.2 (zGC_b (by omega) frb (zGR_take hAB hB hIl hR N0 hN9).2.2.2.2 haG)
    · rw [if_neg c]
      refine ⟨fa, ?_, ha1, haG, fra⟩
      rw [zb_Wor_passLine_18, if_pos (show fa (W + 23 + 18 * l) 4 ≠ 2 by omega)]
  obtain ⟨fb, rb, hb1, hbG, frb⟩ := two
  have e22 : kTwo (zLwA S) g l (10 + 265 * l) (10 + 265 * l + 2) = g (10 + 265 * l + 2) := by
    rw [kSend_f hB hB2 i2.1 (by decide) (by decide)] at e32
    exact e32
  have hk9 : ∀ o k, a ≤ o → o < a + 6 → fb o k = h0 o k := fun o k a1 a2 => (frb o k (by omega) (by omega) (by omega) (by omega) (by omega) (by omega)).trans (hh o k a1 a2)
  obtain ⟨fc, x6, x7, rc, hc1, hcG, frc⟩ := c_sends (q := q) (d := d) (σ := (fb, σ.2)) (W := W) (b := W + 23 + 18 * l) (dr := dr) (x5 := x5) hS hA hk9 ha rfl hl hl4 (by omega) i2 (by rw [e22]; exact hb1) hbG g2.2.2.2.1 g2.2.2.2.2
  rw [e22] at hc1
  have frc := zFX_trans frb frc
  rw [ra, hx5, rb, rc]
  unfold kOn
  rw [hx5]
  have oth : ∀ o, 0 ≤ o → o < g 3 → o ≠ l → zLC (g (10 + 265 * o + 2)) fc (W + 23 + 18 * o) (kSend (zLwA S) (kTwo (zLwA S) g l (10 + 265 * l)) l (10 + 265 * l) dr) (10 + 265 * o) := fun o o0 o1 ol => zLC_eq (fun j a1 a2 => o3 j (by omega) (by omega)) (hLI o o0 o1).1.1 (hLI o o0 o1).1.1.2.2.1.2 (zLC_fr (fun x k a1 a2 => frc x k (by omega) (by omega) (by omega) (by omega) (by omega) (by omega)) (hL o o0 o1))
  have e3 : (kSend (zLwA S) (kTwo (zLwA S) g l (10 + 265 * l)) l (10 + 265 * l) dr) 3 = g 3 := o3 3 (by omega) (by omega)
  have e9 : ∀ o, 0 ≤ o → o < g 3 → o ≠ l → (kSend (zLwA S) (kTwo (zLwA S) g l (10 + 265 * l)) l (10 + 265 * l) dr) (10 + 265 * o + 2) = g (10 + 265 * o + 2) := fun o o0 o1 ol => o3 _ (by omega) (by omega)
  have ri : ∀ o, 0 ≤ o → o < g 3 → o ≠ l → zIL (N + 1) (kSend (zLwA S) (kTwo (zLwA S) g l (10 + 265 * l)) l (10 + 265 * l) dr) (10 + 265 * o) := fun o o0 o1 ol => zLI_eq (fun j h1 h2 => o3 j (by omega) (by omega)) (zLI_mono (by omega) (hLI o o0 o1).1)
  generalize (kSend (zLwA S) (kTwo (zLwA S) g l (10 + 265 * l)) l (10 + 265 * l) dr) = h at *
  have fc4 : fc (W + 23 + 18 * l) 4 = h (10 + 265 * l + 0) := zc_f4 hc1
  unfold kEnd
  by_cases c1 : h (10 + 265 * l + 0) = 1
  · obtain ⟨f4, r4, h4, G4, fr4⟩ := c_prove (q := q) (d := d + 2) (σ := (fc, σ.2)) (W := W) (l := l) (b := W + 23 + 18 * l) (a := a) (x5 := x5) hB hB2 (by omega) hp.2 i3 p3 g3.2.2.2.1 g3.2.2.2.2 hc1 hcG hx01
    have op : zOut h (rProv h l (10 + 265 * l) x5) (10 + 265 * l) := zOut_prov
    rw [if_neg (show ¬fc (W + 23 + 18 * l) 4 ≠ 1 by omega), if_pos c1]
    have ep3 : rProv h l (10 + 265 * l) x5 3 = h 3 := op 3 (by omega) (by omega)
    refine ⟨f4, ?_, G4, fun o o0 o1 => ?_, fun o k a1 a2 => ?_⟩
    · rw [zb_Wor_passLine_64, r4, zK_v, zb_Wor_passLine_69]
    · by_cases c : o = l
      · subst c
        have e2 : rProv h o (10 + 265 * o) x5 (10 + 265 * o + 2) = g (10 + 265 * o + 2) := by
          rw [← e32]
          unfold rProv rPr2 rPr1
          split
          · rw [zup1_ne (by omega), zup1_ne (by omega)]
          · split
            · rw [rLog_out (by omega) (by omega), rAnew_lo (by omega), zup1_ne (by omega), zup1_ne (by omega), zup1_ne (by omega), zup1_ne (by omega), zup1_ne (by omega)]
            · split
              · rw [zup1_ne (by omega), zup1_ne (by omega), zup1_ne (by omega), zup1_ne (by omega), zup1_ne (by omega)]
              · rw [rLog_out (by omega) (by omega), zup1_ne (by omega), zup1_ne (by omega), zup1_ne (by omega), zup1_ne (by omega), zup1_ne (by omega), zup1_ne (by omega), zup1_ne (by omega)]
        rw [e2]
        exact h4
      · rw [op (10 + 265 * o + 2) (by omega) (by omega), e9 o o0 (by omega) c]
        exact zLC_eq (fun j b1 b2 => op j (by omega) (by omega)) (ri o o0 (by omega) c).1 (hLI o o0 (by omega)).1.1.2.2.1.2 (zLC_fr (fun x k b1 b2 => fr4 x k (by omega) (by omega) (by omega) (by omega) (by omega) (by omega)) (oth o o0 (by omega) c))
    · exact (fr4 o k (by omega) (by omega) (by omega) (by omega) (by omega) a2).trans (frc o k (by omega) (by omega) (by omega) (by omega) (by omega) a2)
  · have f14 : fc (W + 23 + 18 * l) 14 = h (10 + 265 * l + 12) := zc_f14 hc1
    have f9 : fc (W + 23 + 18 * l) 9 = h (10 + 265 * l + 5) := zc_f9 hc1
    rw [if_pos (show fc (W + 23 + 18 * l) 4 ≠ 1 by omega), if_neg c1, zb_Wor_passLine_70]
    by_cases c2 : h (10 + 265 * l + 5) < h (10 + 265 * l + 12)
    · rw [if_neg (show ¬fc (W + 23 + 18 * l) 14 ≤ fc (W + 23 + 18 * l) 9 by omega), if_pos c2, zb_Wor_passLine_75]
      have hr0 : rLR (zup1 h (10 + 265 * l + 0) 0) (10 + 265 * l) := by
        obtain ⟨h_0, h_1, h_2, h_3, h_4, h_5, h_6, h_7, h_8, h_9, h_10, h_11, h_12, h_13, h_14, h_15, h_16⟩ := i3.1
        unfold rLR
        rw [zup1_eq rfl, zup1_ne (show 10 + 265 * l + 1 ≠ 10 + 265 * l + 0 by omega), zup1_ne (show 10 + 265 * l + 2 ≠ 10 + 265 * l + 0 by omega), zup1_ne (show 10 + 265 * l + 3 ≠ 10 + 265 * l + 0 by omega), zup1_ne (show 10 + 265 * l + 4 ≠ 10 + 265 * l + 0 by omega), zup1_ne (show 10 + 265 * l + 5 ≠ 10 + 265 * l + 0 by omega), zup1_ne (show 10 + 265 * l + 6 ≠ 10 + 265 * l + 0 by omega), zup1_ne (show 10 + 265 * l + 7 ≠ 10 + 265 * l + 0 by omega), zup1_ne (show 10 + 265 * l + 8 ≠ 10 + 265 * l + 0 by omega), zup1_ne (show 10 + 265 * l + 9 ≠ 10 + 265 * l + 0 by omega), zup1_ne (show 10 + 265 * l + 10 ≠ 10 + 265 * l + 0 by omega), zup1_ne (show 10 + 265 * l + 11 ≠ 10 + 265 * l + 0 by omega), zup1_ne (show 10 + 265 * l + 12 ≠ 10 + 265 * l + 0 by omega), zup1_ne (show 10 + 265 * l + 13 ≠ 10 + 265 * l + 0 by omega), zup1_ne (show 10 + 265 * l + 14 ≠ 10 + 265 * l + 0 by omega), zup1_ne (show 10 + 265 * l + 15 ≠ 10 + 265 * l + 0 by omega), zup1_ne (show 10 + 265 * l + 16 ≠ 10 + 265 * l + 0 by omega)]
        exact ⟨by decide, h_1, h_2, h_3, h_4, h_5, h_6, h_7, h_8, h_9, h_10, h_11, h_12, h_13, h_14, h_15, h_16⟩
      have G0 : zGC (zup fc (W + 23 + 18 * l) 4 0) W (zup1 h (10 + 265 * l + 0) 0) := zGC_g (fun j hj => zup1_ne (by omega)) g3.2.2.2.2 (zGC_b (b := W + 23 + 18 * l) (by omega) (zFb_up (by omega)) g3.2.2.2.2 hcG)
      have t8 : zup1 h (10 + 265 * l + 0) 0 8 = h 8 := zup1_ne (by omega)
      obtain ⟨f5, r5, h5, G5, fr5⟩ := c_log (q := q) (d := d + 3) (σ := (zup fc (W + 23 + 18 * l) 4 0, σ.2)) (l := l) (w := 2) (v := h (10 + 265 * l + 12)) hB hB2 (by omega) hp.2 hr0 (by rw [t8]; exact g3.2.2.2.1) (by rw [t8]; exact g3.2.2.2.2) G0.2.2.1 (zu_4 hc1) G0
      have f14' : zup fc (W + 23 + 18 * l) 4 0 (W + 23 + 18 * l) 14 = h (10 + 265 * l + 12) := (zup_nk (by decide)).trans f14
      have ez : ∀ j, j ≠ 10 + 265 * l + 0 → j ≠ 8 → (j < 1070 ∨ 1310 ≤ j) → rLog (zup1 h (10 + 265 * l + 0) 0) l 2 (h (10 + 265 * l + 12)) j = h j := fun j a b c => by rw [rLog_out b c, zup1_ne a]
      have er : ∀ j, 0 < j → j < 265 → rLog (zup1 h (10 + 265 * l + 0) 0) l 2 (h (10 + 265 * l + 12)) (10 + 265 * l + j) = h (10 + 265 * l + j) := fun j _ _ => ez _ (by omega) (by omega) (by omega)
      have hrl : rLR (rLog (zup1 h (10 + 265 * l + 0) 0) l 2 (h (10 + 265 * l + 12))) (10 + 265 * l) := rLR_eq (fun j a1 a2 => rLog_out (by omega) (by omega)) hr0
      have hll : rLL (rLog (zup1 h (10 + 265 * l + 0) 0) l 2 (h (10 + 265 * l + 12))) (10 + 265 * l) := by
        have hL3 := i3.2.1
        obtain ⟨h_0, h_1, h_2, h_3, h_4, h_5, h_6, h_7, h_8, h_9, h_10, h_11, h_12, h_13, h_14, h_15, h_16⟩ := i3.1
        unfold rLL
        rw [er 7 (by decide) (by decide), er 6 (by decide) (by decide)]
        refine ⟨fun k h0 h1 => ?_, fun k h0 h1 => ?_⟩
        · rw [er _ (by omega) (by omega)]
          exact hL3.1 k h0 h1
        · rw [er _ (by omega) (by omega)]
          exact hL3.2 k h0 h1
      have ez3 := ez 3 (by omega) (by omega) (by omega)
      have u8 : 0 ≤ rLog (zup1 h (10 + 265 * l + 0) 0) l 2 (h (10 + 265 * l + 12)) 8 ∧ rLog (zup1 h (10 + 265 * l + 0) 0) l 2 (h (10 + 265 * l + 12)) 8 ≤ 60 := by
        have := g3.2.2.2
        rw [rLog_8, t8]
        split <;> omega
      have iu : ∀ o, 0 ≤ o → o < rLog (zup1 h (10 + 265 * l + 0) 0) l 2 (h (10 + 265 * l + 12)) 3 → o ≠ l → zIL (N + 1) (rLog (zup1 h (10 + 265 * l + 0) 0) l 2 (h (10 + 265 * l + 12))) (10 + 265 * o) := fun o o0 o1 ol => zLI_eq (fun j h1 h2 => ez j (by omega) (by omega) (by omega)) (ri o o0 (by omega) ol)
      have er2 := er 2 (by decide) (by decide)
      have fr5 : ∀ o k, o ≠ W + 20 → o ≠ W + 21 → f5 o k = zup fc (W + 23 + 18 * l) 4 0 o k := fr5
      obtain ⟨f6, r6, L6, G6, fr6⟩ := c_changeOver (q := q) (d := d + 1) (σ := (f5, σ.2)) (N := N + 1) (W := W) (g := rLog (zup1 h (10 + 265 * l + 0) 0) l 2 (h (10 + 265 * l + 12))) hl (by omega) (by omega) hrl hll iu u8.1 u8.2 G5 (fun o o0 o1 => by
        by_cases c : o = l
        · subst c
          rw [er2, e32]
          exact h5
        · rw [ez (10 + 265 * o + 2) (by omega) (by omega) (by omega), e9 o o0 (by omega) c]
          refine zLC_eq (fun j b1 b2 => ez j (by omega) (by omega) (by omega)) (ri o o0 (by omega) c).1 (hLI o o0 (by omega)).1.1.2.2.1.2 (zLC_fr (fun x k b1 b2 => ?_) (oth o o0 (by omega) c))
          show f5 x k = fc x k
          rw [fr5 x k (by omega) (by omega), zup_na (by omega)])
      refine ⟨f6, ?_, G6, L6, fun o k a1 a2 => ?_⟩
      · show zK _ _ _ _ _ _ (zM (true, q) (d + 4) 113 [(11, W + 20, 0), (0, zup fc (W + 23 + 18 * l) 4 0 W 6, 0), (0, l, 0), (0, 2, 0), (0, zup fc (W + 23 + 18 * l) 4 0 (W + 23 + 18 * l) 14, 0)] (zup fc (W + 23 + 18 * l) 4 0, σ.2)) = _
        rw [f14', r5, zK_v, zb_Wor_passLine_87, r6, zK_i, zb_Wor_passLine_90]
      · rw [fr6 o k (by omega)]
        show f5 o k = _
        rw [fr5 o k (by omega) (by omega), zup_na (by omega)]
        exact frc o k (by omega) (by omega) (by omega) (by omega) (by omega) a2
    · rw [if_pos (show fc (W + 23 + 18 * l) 14 ≤ fc (W + 23 + 18 * l) 9 by omega), if_neg c2, zb_Wor_passLine_91]
      refine ⟨fc, rfl, hcG, fun o o0 o1 => ?_, fun o k a1 a2 => frc o k (by omega) (by omega) (by omega) (by omega) (by omega) a2⟩
      by_cases c : o = l
      · subst c
        rw [e32]
        exact hc1
      · rw [e9 o o0 (by omega) c]
        exact oth o o0 (by omega) c
theorem l_pass1 {q : Int × (Int → Int)} {d : Nat} {W a m dr x4 : Int} {S : Int → (Int → Int) → Int} {h0 : Int → Int → Int} {F : Int → Int → Int} {t : (Int → Int) × Nat × Nat × Nat × (Int → Int → Bool)} (hS : zSC S) (hA : zAskC q S a h0) (hh : ∀ o k, a ≤ o → o < a + 6 → F o k = h0 o k) (ha : a + 7 ≤ W) : ∀ (n : Nat) (l N : Int) (f : Int → Int → Int) (g : Int → Int), (∀ o k, (o < W ∨ W + 95 ≤ o) → o ≠ a + 6 → f o k = F o k) → zWI N g → zGC f W g → zWL f W g → 0 ≤ l → l + n = g 3 → 0 ≤ N → N + n < 2147483646 → ∃ f2 x5, zD (true, q) (d + 6) zc_Wor_pass (zat zc_Wor_pass 7) [(18, W, 0), (0, m, 0), (12, a, 0), (0, dr, 0), (0, x4, 0), (0, l, 0)] [] (f, t) = zD (true, q) (d + 6) zc_Wor_pass (zat zc_Wor_pass 23) [(18, W, 0), (0, m, 0), (12, a, 0), (0, dr, 0), (0, x4, 0), (0, x5, 0)] [] (f2, t) ∧ zGC f2 W (kPassS (zLwA S) dr n l g) ∧ zWL f2 W (kPassS (zLwA S) dr n l g) ∧ (∀ o k, (o < W ∨ W + 95 ≤ o) → o ≠ a + 6 → f2 o k = F o k) := by
  intro n
  induction n with
  | zero =>
    intro l N f g fr hW hG hL hl hn N0 hN
    have z4 := hG.1
    exact ⟨f, l, by rw [zb_Wor_pass_7, if_pos (show f W 4 ≤ l by omega)], hG, hL, fr⟩
  | succ n ih =>
    intro l N f g fr hW hG hL hl hn N0 hN
    have z4 := hG.1
    have h34 := hW.2.1
    have f4 := zc_f4 (hL l hl (by omega))
    rw [zb_Wor_pass_7, if_neg (show ¬f W 4 ≤ l by omega), zb_Wor_pass_11, c_lineAt hl (by omega)]
    show ∃ f2 x5, zD (true, q) (d + 5 + 1) zc_Wor_pass (zat zc_Wor_pass 14) _ [(13, W + 23 + 18 * l, 0)] (f, t) = _ ∧ zGC f2 W (kPassS (zLwA S) dr n (l + 1) (if g (10 + 265 * l + 0) = 0 then g else kOn (zLwA S) g l dr)) ∧ zWL f2 W (kPassS (zLwA S) dr n (l + 1) (if g (10 + 265 * l + 0) = 0 then g else kOn (zLwA S) g l dr)) ∧ _
    rw [zb_Wor_pass_14]
    by_cases c : g (10 + 265 * l + 0) = 0
    · rw [if_pos (show f (W + 23 + 18 * l) 4 = 0 by omega), if_pos c, zb_Wor_pass_21, zw_id (by omega) (by omega)]
      exact ih (l + 1) N f g fr hW hG hL (by omega) (by omega) N0 (by omega)
    · obtain ⟨f2, r2, G2, L2, fr2⟩ := c_passLine (q := q) (d := d) (σ := (f, t)) (dr := dr) hS hA (fun o k a1 a2 => (fr o k (by omega) (by omega)).trans (hh o k a1 a2)) ha hW hl (by omega) N0 (by omega) hG hL
      obtain ⟨W2, e2, _⟩ := zWI_on (dr := dr) (zAB_of hS) hW hl (by omega) N0 (by omega)
      rw [if_neg (show ¬f (W + 23 + 18 * l) 4 = 0 by omega), if_neg c, zb_Wor_pass_16, r2, zK_v, zb_Wor_pass_21, zw_id (by omega) (by omega)]
      exact ih (l + 1) (N + 1) f2 _ (fun o k a1 a2 => (fr2 o k a1 a2).trans (fr o k a1 a2)) W2 G2 L2 (by omega) (by rw [e2 3 (by omega)]; omega) (by omega) (by omega)
theorem zGC_tick {f : Int → Int → Int} {W : Int} {g : Int → Int} (h : zGC f W g) (h4 : g 4 ≤ 9999) : zGC (zup f W 6 (if g 4 + 1 ≤ 9999 then g 4 + 1 else 9999)) W (kTick g) := by
  obtain ⟨y1, y2, y3, y4, y5, y6, y7, z1, z2, z3, z4⟩ := h
  unfold zGC zJC kTick
  rw [zup_nk (by decide), zup_nk (by decide), zupE rfl rfl, zup_nk (by decide), zup_nk (by decide), zup_nk (by decide), zup_nk (by decide), zup_na (by omega), zup_na (by omega), zup1_ne (by decide), zup1_ne (by decide), zup1_eq rfl, zup1_ne (by decide), zup1_ne (by decide), zup1_ne (by decide), zup1_ne (by decide), zup1_ne (by decide)]
  refine ⟨y1, y2, rfl, y4, y5, y6, y7, z1, z2, z3, fun ago c a0 a1 c0 c1 => ?_⟩
  rw [zup_na (by omega), zup1_ne (by omega)]
  exact z4 ago c a0 a1 c0 c1
theorem l_pass {q : Int × (Int → Int)} {d : Nat} {W a m dr : Int} {S : Int → (Int → Int) → Int} {h0 : Int → Int → Int} {F : Int → Int → Int} {t : (Int → Int) × Nat × Nat × Nat × (Int → Int → Bool)} (hS : zSC S) (hA : zAskC q S a h0) (hh : ∀ o k, a ≤ o → o < a + 6 → F o k = h0 o k) (ha : a + 7 ≤ W) (hm : m ≤ 60) : ∀ (n : Nat) (i N : Int) (f : Int → Int → Int) (g : Int → Int) (v : zV), (∀ o k, (o < W ∨ W + 95 ≤ o) → o ≠ a + 6 → f o k = F o k) → zWI N g → zGC f W g → zWL f W g → 0 ≤ i → i + n = m → 0 ≤ N → N + 4 * n < 2147483646 → ∃ f2, zD (true, q) (d + 6) zc_Wor_pass (zat zc_Wor_pass 2) [(18, W, 0), (0, m, 0), (12, a, 0), (0, dr, 0), (0, i, 0), v] [] (f, t) = some ((9, 0, 0), (f2, t)) ∧ zGC f2 W (kGoes (zLwA S) dr n g) ∧ zWL f2 W (kGoes (zLwA S) dr n g) ∧ (∀ o k, (o < W ∨ W + 95 ≤ o) → o ≠ a + 6 → f2 o k = F o k) := by
  intro n
  induction n with
  | zero =>
    intro i N f g v fr hW hG hL hi hn N0 hN
    exact ⟨f, by rw [zb_Wor_pass_2, if_pos (by omega), zb_Wor_pass_37], hG, hL, fr⟩
  | succ n ih =>
    intro i N f g v fr hW hG hL hi hn N0 hN
    have h30 := hW.1
    have h34 := hW.2.1
    obtain ⟨f1, x5, r1, G1, L1, fr1⟩ := l_pass1 (q := q) (d := d) (m := m) (dr := dr) (x4 := i) (t := t) hS hA hh ha (g 3).toNat 0 N f g fr hW hG hL (by decide) (by omega) N0 (by omega)
    obtain ⟨W1, e1, e4⟩ := zWI_passS (dr := dr) (zAB_of hS) (g 3).toNat 0 N g hW (by decide) (by omega) N0 (by omega)
    have g4 := W1.2.2.1.1
    have t6 := G1.2.2.1
    have GT := zGC_tick G1 g4.2
    have LT : zWL (zup f1 W 6 (if kPassS (zLwA S) dr (g 3).toNat 0 g 4 + 1 ≤ 9999 then kPassS (zLwA S) dr (g 3).toNat 0 g 4 + 1 else 9999)) W (kTick (kPassS (zLwA S) dr (g 3).toNat 0 g)) := by
      intro o o0 o1
      have ek : ∀ j, j ≠ 4 → kTick (kPassS (zLwA S) dr (g 3).toNat 0 g) j = kPassS (zLwA S) dr (g 3).toNat 0 g j := fun j hj => zup1_ne hj
      rw [ek 3 (by decide)] at o1
      rw [ek _ (by omega)]
      have io := (W1.2.2.2 o o0 o1).1.1
      exact zLC_eq (fun j a1 a2 => ek j (by omega)) io io.2.2.1.2 (zLC_fr (fun x k a1 a2 => zup_na (by omega)) (L1 o o0 o1))
    have frT : ∀ o k, (o < W ∨ W + 95 ≤ o) → o ≠ a + 6 → zup f1 W 6 (if kPassS (zLwA S) dr (g 3).toNat 0 g 4 + 1 ≤ 9999 then kPassS (zLwA S) dr (g 3).toNat 0 g 4 + 1 else 9999) o k = F o k := fun o k a1 a2 => (zup_na (by omega)).trans (fr1 o k a1 a2)
    obtain ⟨WP, eP⟩ := zWI_pass (dr := dr) (zAB_of hS) hW N0 (by omega)
    have go := ih (i + 1) (N + 4) _ (kPass (zLwA S) dr g) (0, x5, 0) frT WP GT LT (by omega) (by omega) (by omega) (by omega)
    have run : zD (true, q) (d + 6) zc_Wor_pass (zat zc_Wor_pass 2) [(18, W, 0), (0, m, 0), (12, a, 0), (0, dr, 0), (0, i, 0), v] [] (f, t) = zD (true, q) (d + 6) zc_Wor_pass (zat zc_Wor_pass 2) [(18, W, 0), (0, m, 0), (12, a, 0), (0, dr, 0), (0, i + 1, 0), (0, x5, 0)] [] (zup f1 W 6 (if kPassS (zLwA S) dr (g 3).toNat 0 g 4 + 1 ≤ 9999 then kPassS (zLwA S) dr (g 3).toNat 0 g 4 + 1 else 9999), t) := by
      rw [zb_Wor_pass_2, if_neg (by omega), zb_Wor_pass_5, r1, zb_Wor_pass_23]
      by_cases c9 : 9999 ≤ f1 W 6
      · rw [if_pos (show 9999 ≤ f1 W 6 from c9), zb_Wor_pass_33, zw_id (by omega) (by omega), if_neg (by omega)]
      · rw [if_neg (show ¬9999 ≤ f1 W 6 from c9), zb_Wor_pass_28, zw_id (show -2147483648 ≤ i + 1 by omega) (by omega), if_pos (by omega)]
        show zD _ _ _ _ _ _ (zup f1 W 6 (zw (f1 W 6 + 1)), t) = _
        rw [t6, zw_id (by omega) (by omega)]
    rw [run]
    exact go
theorem c_pass {q : Int × (Int → Int)} {d : Nat} {σ : zS} {N W a m dr : Int} {g : Int → Int} {S : Int → (Int → Int) → Int} {h0 : Int → Int → Int} (hS : zSC S) (hA : zAskC q S a h0) (hh : ∀ o k, a ≤ o → o < a + 6 → σ.1 o k = h0 o k) (ha : a + 7 ≤ W) (m0 : 0 ≤ m) (hm : m ≤ 60) (hW : zWI N g) (hG : zGC σ.1 W g) (hL : zWL σ.1 W g) (N0 : 0 ≤ N) (hN : N + 240 < 2147483646) : ∃ f2, zM (true, q) (d + 6) 135 [(18, W, 0), (0, m, 0), (12, a, 0), (0, dr, 0)] σ = some ((9, 0, 0), (f2, σ.2)) ∧ zGC f2 W (kGoes (zLwA S) dr m.toNat g) ∧ zWL f2 W (kGoes (zLwA S) dr m.toNat g) ∧ (∀ o k, (o < W ∨ W + 95 ≤ o) → o ≠ a + 6 → f2 o k = σ.1 o k) := by
  rw [ze_Wor_pass, zb_Wor_pass_0]
  exact l_pass hS hA hh ha hm m.toNat 0 N σ.1 g _ (fun _ _ _ _ => rfl) hW hG hL (by decide) (by omega) N0 (by omega)
