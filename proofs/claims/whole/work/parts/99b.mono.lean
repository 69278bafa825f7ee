/-! ## what was taken stays taken -/
theorem kTake_5 {A : (Int → Int) → Int × Int} {N : Int} {g : Int → Int} {l B : Int} (hB : 10 ≤ B) (hB2 : B + 265 ≤ 1070) (hI : zIL N g B) (h : zGR N g) (hN9 : N < 2147483646) : g 5 ≤ kTake A g l B 5 := by
  have p := hI.1.2.2.1
  have e5 : rArr g B 5 = g 5 := rArr_out p.1 p.2 (by omega)
  have h5 := h.2.1
  unfold kTake
  split
  · unfold rTake
    rw [rLog_out (by decide) (by omega), zup1_ne (by omega), zup1_eq rfl, e5, zw_id (by omega) (by omega)]
    omega
  · rw [e5]
    exact Int.le_refl _
theorem kSend_5 {A : (Int → Int) → Int × Int} {g : Int → Int} {l B dr : Int} (hB : 10 ≤ B) (hB2 : B + 265 ≤ 1070) (hr : rLR g B) : kSend A g l B dr 5 = g 5 := by
  have hb2 := (rLR_kF2 (l := l) hB hB2 hr).2.2.1
  have h1 : kF1 g l B 5 = g 5 := by
    unfold kF1
    split
    · rw [rLog_out (by decide) (by omega), zup1_ne (by omega), zup1_ne (by omega)]
    · rfl
  have h2 : kF2 g l B 5 = g 5 := by
    unfold kF2
    split
    · obtain ⟨n0, _, k8, _, _, _⟩ := kWhat_2 hr ‹_›
      exact rNew_out n0 hr.2.2.2.2.2.2.1.2 hr.2.2.2.2.2.2.2.1.1 k8 (by omega)
    · split
      · have k8 := (rLR_kF1 (l := l) hB hB2 hr).2.2.2.2.2.2.2.2.1
        exact (rHand_out k8.1 k8.2 (by omega) (by omega) (by omega)).trans h1
      · rfl
  unfold kSend
  rw [mput_out (by rw [kF3_out (by omega)]; omega), kF3_out (by omega), h2]
theorem kOn_5 {A : (Int → Int) → Int × Int} {N : Int} {g : Int → Int} {l dr : Int} (hA : zAB A) (hW : zWI N g) (hl : 0 ≤ l) (hlm : l < g 3) (N0 : 0 ≤ N) (hN9 : N < 2147483646) : g 5 ≤ kOn A g l dr 5 := by
  obtain ⟨h30, h34, hG, hL⟩ := id hW
  have hB : (10 : Int) ≤ 10 + 265 * l := by omega
  have hB2 : 10 + 265 * l + 265 ≤ 1070 := by omega
  obtain ⟨i2, g2, o2, f2⟩ := zTwo (l := l) hA hB hB2 (hL l hl hlm).1 hG N0 hN9
  have i3 := zLI_send (A := A) (l := l) (dr := dr) hB hB2 i2 N0 hN9
  have g3 := zGR_send (A := A) (l := l) (dr := dr) hB hB2 i2.1 g2
  have o3 := zOut_trans o2 (zOut_send (A := A) (l := l) (dr := dr) hB hB2 i2.1)
  have t5 := kTake_5 (A := A) (l := l) hB hB2 (hL l hl hlm).1 hG hN9
  have w5 : kTwo A g l (10 + 265 * l) 5 = kTake A g l (10 + 265 * l) 5 := by
    unfold kTwo
    split
    · exact rHas_out (zLI_take hB hB2 (hL l hl hlm).1) (by omega)
    · rfl
  have s5 := kSend_5 (A := A) (l := l) (dr := dr) hB hB2 i2.1
  have hp3 : kSend A (kTwo A g l (10 + 265 * l)) l (10 + 265 * l) dr (10 + 265 * l + 15) ≤ kSend A (kTwo A g l (10 + 265 * l)) l (10 + 265 * l) dr (10 + 265 * l + 14) := by
    rw [kSend_f hB hB2 i2.1 (by decide) (by decide), kSend_f hB hB2 i2.1 (by decide) (by decide), f2 15 (by decide) (by decide), f2 14 (by decide) (by decide)]
    exact (hL l hl hlm).2
  unfold kOn
  generalize kSend A (kTwo A g l (10 + 265 * l)) l (10 + 265 * l) dr = h at i3 g3 o3 s5 hp3 ⊢
  have e5 : g 5 ≤ h 5 := by omega
  have e3 : h 3 = g 3 := o3 3 (by omega) (by omega)
  have hW3 : zWI (N + 1) h := by
    refine ⟨by omega, by omega, g3, fun o o0 o1 => ?_⟩
    by_cases c : o = l
    · subst c
      exact ⟨i3, hp3⟩
    · have hh := hL o o0 (by omega)
      refine ⟨zLI_eq (fun j h1 h2 => o3 j (by omega) (by omega)) (zLI_mono (by omega) hh.1), ?_⟩
      rw [o3 _ (by omega) (by omega), o3 _ (by omega) (by omega)]
      exact hh.2
  generalize (if g (10 + 265 * l + (49 + 3)) = 1 then (1 : Int) else 0) = bd
  unfold kEnd
  by_cases c1 : h (10 + 265 * l + 0) = 1
  · rw [if_pos c1]
    have x1 : rPr1 h (10 + 265 * l) bd 5 = h 5 := by unfold rPr1; rw [zup1_ne (by omega), zup1_ne (by omega)]
    have x2 : rPr2 h (10 + 265 * l) bd 5 = h 5 := by unfold rPr2; rw [zup1_ne (by omega), zup1_ne (by omega)]; exact x1
    have : rProv h l (10 + 265 * l) bd 5 = h 5 := by
      unfold rProv
      split
      · exact x1
      · split
        · rw [rLog_out (by decide) (by omega), rAnew_out (by omega), zup1_ne (by omega)]; exact x2
        · split
          · rw [zup1_ne (by omega)]; exact x2
          · rw [rLog_out (by decide) (by omega), zup1_ne (by omega), zup1_ne (by omega), zup1_ne (by omega)]; exact x2
    omega
  · rw [if_neg c1]
    by_cases c2 : h (10 + 265 * l + 5) < h (10 + 265 * l + 12)
    · rw [if_pos c2]
      have ez : ∀ j, j ≠ 10 + 265 * l + 0 → j ≠ 8 → (j < 1070 ∨ 1310 ≤ j) → rLog (zup1 h (10 + 265 * l + 0) 0) l 2 (h (10 + 265 * l + 12)) j = h j := fun j a b c => by rw [rLog_out b c, zup1_ne a]
      have er : ∀ j, 0 < j → j < 265 → rLog (zup1 h (10 + 265 * l + 0) 0) l 2 (h (10 + 265 * l + 12)) (10 + 265 * l + j) = h (10 + 265 * l + j) := fun j _ _ => ez _ (by omega) (by omega) (by omega)
      have ez3 : rLog (zup1 h (10 + 265 * l + 0) 0) l 2 (h (10 + 265 * l + 12)) 3 = h 3 := ez 3 (by omega) (by omega) (by omega)
      have hrl : rLR (rLog (zup1 h (10 + 265 * l + 0) 0) l 2 (h (10 + 265 * l + 12))) (10 + 265 * l) := by
        obtain ⟨h_0, h_1, h_2, h_3, h_4, h_5, h_6, h_7, h_8, h_9, h_10, h_11, h_12, h_13, h_14, h_15, h_16⟩ := i3.1
        unfold rLR
        rw [er 1 (by decide) (by decide), er 2 (by decide) (by decide), er 3 (by decide) (by decide), er 4 (by decide) (by decide), er 5 (by decide) (by decide), er 6 (by decide) (by decide), er 7 (by decide) (by decide), er 8 (by decide) (by decide), er 9 (by decide) (by decide), er 10 (by decide) (by decide), er 11 (by decide) (by decide), er 12 (by decide) (by decide), er 13 (by decide) (by decide), er 14 (by decide) (by decide), er 15 (by decide) (by decide), er 16 (by decide) (by decide), rLog_out (by omega) (by omega), zup1_eq rfl]
        exact ⟨by decide, h_1, h_2, h_3, h_4, h_5, h_6, h_7, h_8, h_9, h_10, h_11, h_12, h_13, h_14, h_15, h_16⟩
      have hll : rLL (rLog (zup1 h (10 + 265 * l + 0) 0) l 2 (h (10 + 265 * l + 12))) (10 + 265 * l) := by
        have hL3 := i3.2.1
        have h76 := i3.1
        obtain ⟨h_0, h_1, h_2, h_3, h_4, h_5, h_6, h_7, h_8, h_9, h_10, h_11, h_12, h_13, h_14, h_15, h_16⟩ := h76
        unfold rLL
        rw [er 7 (by decide) (by decide), er 6 (by decide) (by decide)]
        refine ⟨fun k h0 h1 => ?_, fun k h0 h1 => ?_⟩
        · rw [er _ (by omega) (by omega)]
          exact hL3.1 k h0 h1
        · rw [er _ (by omega) (by omega)]
          exact hL3.2 k h0 h1
      have hgo := zLI_go (N := N + 1) hl (by omega) (by omega) hrl hll (fun o o0 o1 ol => zLI_eq (fun j h1 h2 => ez j (by omega) (by omega) (by omega)) (hW3.2.2.2 o o0 (by omega)).1)
      have : rGoP (rLog (zup1 h (10 + 265 * l + 0) 0) l 2 (h (10 + 265 * l + 12))) l 5 = h 5 := (hgo.2.1 5 (by omega)).trans (ez 5 (by omega) (by omega) (by omega))
      omega
    · rw [if_neg c2]
      exact e5
theorem kPassS_5 {A : (Int → Int) → Int × Int} {dr : Int} (hA : zAB A) : ∀ (n : Nat) (l N : Int) (g : Int → Int), zWI N g → 0 ≤ l → l + n = g 3 → 0 ≤ N → N + n < 2147483646 → g 5 ≤ kPassS A dr n l g 5 := by
  intro n
  induction n with
  | zero => intro l N g _ _ _ _ _; exact Int.le_refl _
  | succ n ih =>
    intro l N g hW hl hn N0 hN
    show g 5 ≤ kPassS A dr n (l + 1) (if g (10 + 265 * l + 0) = 0 then g else kOn A g l dr) 5
    by_cases c : g (10 + 265 * l + 0) = 0
    · rw [if_pos c]
      exact ih (l + 1) N g hW (by omega) (by omega) N0 (by omega)
    · rw [if_neg c]
      have h1 := zWI_on (dr := dr) hA hW hl (by omega) N0 (by omega)
      have h2 := kOn_5 (dr := dr) hA hW hl (by omega) N0 (by omega)
      have h3 := ih (l + 1) (N + 1) _ h1.1 (by omega) (by rw [h1.2.1 3 (by omega)]; omega) (by omega) (by omega)
      omega
theorem kGoes_5 {A : (Int → Int) → Int × Int} {dr : Int} (hA : zAB A) : ∀ (n : Nat) (N : Int) (g : Int → Int), zWI N g → 0 ≤ N → N + 4 * n < 2147483646 → g 5 ≤ kGoes A dr n g 5 := by
  intro n
  induction n with
  | zero => intro N g _ _ _; exact Int.le_refl _
  | succ n ih =>
    intro N g hW N0 hN
    show g 5 ≤ kGoes A dr n (kPass A dr g) 5
    have h1 := zWI_pass (dr := dr) hA hW N0 (by omega)
    have h2 := kPassS_5 (dr := dr) hA (g 3).toNat 0 N g hW (Int.le_refl 0) (by have := hW.1; omega) N0 (by have := hW.2.1; omega)
    have h3 := ih (N + 4) _ h1.1 (by omega) (by omega)
    have h4 : kPass A dr g 5 = kPassS A dr (g 3).toNat 0 g 5 := by unfold kPass kTick; exact zup1_ne (by decide)
    omega

