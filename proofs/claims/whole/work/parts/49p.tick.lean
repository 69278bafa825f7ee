/-! ## a line's tick -/
def zGR (N : Int) (g : Int → Int) : Prop := (0 ≤ g 4 ∧ g 4 ≤ 9999) ∧ (0 ≤ g 5 ∧ g 5 ≤ N) ∧ (0 ≤ g 6 ∧ g 6 ≤ 99999) ∧ (0 ≤ g 8 ∧ g 8 ≤ 60)
def zWI (N : Int) (g : Int → Int) : Prop := 0 ≤ g 3 ∧ g 3 ≤ 4 ∧ zGR N g ∧ ∀ o, 0 ≤ o → o < g 3 → zIL N g (10 + 265 * o) ∧ g (10 + 265 * o + 15) ≤ g (10 + 265 * o + 14)
theorem zGR_mono {N M : Int} {g : Int → Int} (h : N ≤ M) (a : zGR N g) : zGR M g := ⟨a.1, ⟨a.2.1.1, by have := a.2.1.2; omega⟩, a.2.2⟩
theorem zGR_eq {N : Int} {g h : Int → Int} (e : ∀ j, 3 < j → j < 9 → h j = g j) (a : zGR N g) : zGR N h := by
  unfold zGR
  rw [e 4 (by decide) (by decide), e 5 (by decide) (by decide), e 6 (by decide) (by decide), e 8 (by decide) (by decide)]
  exact a
theorem rLog_8 {g : Int → Int} {l w v : Int} : rLog g l w v 8 = if g 8 + 1 ≤ 60 then g 8 + 1 else 60 := zup1_eq rfl
theorem zGR_log {N : Int} {g : Int → Int} {l w v : Int} (a : zGR N g) : zGR N (rLog g l w v) := by
  unfold zGR
  rw [rLog_out (by omega) (by omega), rLog_out (by omega) (by omega), rLog_out (by omega) (by omega), rLog_8]
  refine ⟨a.1, a.2.1, a.2.2.1, ?_⟩
  have := a.2.2.2
  split <;> omega
theorem zGR_take {A : (Int → Int) → Int × Int} {N : Int} {g : Int → Int} {l B : Int} (hA : zAB A) (hB : 10 ≤ B) (hI : zIL N g B) (h : zGR N g) (N0 : 0 ≤ N) (hN9 : N < 2147483646) : zGR (N + 1) (kTake A g l B) := by
  have p := hI.1.2.2.1
  have e : ∀ j, 3 < j → j < 9 → rArr g B j = g j := fun j _ _ => rArr_out p.1 p.2 (by omega)
  have h1 := zGR_eq e h
  unfold kTake
  split
  · rename_i c
    have a4 : 1 ≤ g (B + (49 + 4)) := ((hI.2.2.2.1 0 (by decide) (by decide)).2.2.2 c.1).1
    have hb := hA (rFact (rArr g B) l (g (B + (49 + 4))) (g (B + 9)) (rRep (rArr g B) B (g (B + (49 + 2)))))
    generalize (A (rFact (rArr g B) l (g (B + (49 + 4))) (g (B + 9)) (rRep (rArr g B) B (g (B + (49 + 2)))))).2 = y at hb ⊢
    generalize rArr g B = h at *
    obtain ⟨⟨a, b⟩, ⟨c5, d5⟩, ⟨c6, d6⟩, c8, d8⟩ := h1
    have hz : zw (h 5 + 1) = h 5 + 1 := zw_id (by omega) (by omega)
    unfold rTake
    refine zGR_log ⟨?_, ?_, ?_, ?_⟩
    · rw [zup1_ne (by omega), zup1_ne (by omega), zup1_ne (by omega)]
      exact ⟨a, b⟩
    · rw [zup1_ne (by omega), zup1_eq rfl]
      omega
    · rw [zup1_ne (by omega), zup1_ne (by omega), zup1_eq rfl]
      split <;> omega
    · rw [zup1_ne (by omega), zup1_ne (by omega), zup1_ne (by omega)]
      exact ⟨c8, d8⟩
  · exact zGR_mono (by omega) h1
theorem zGR_send {A : (Int → Int) → Int × Int} {N : Int} {g : Int → Int} {l B dr : Int} (hB : 10 ≤ B) (hB2 : B + 265 ≤ 1070) (hr : rLR g B) (h : zGR N g) : zGR N (kSend A g l B dr) := by
  have hb2 := (rLR_kF2 (l := l) hB hB2 hr).2.2.1
  have e : ∀ j, 3 < j → j < 9 → kSend A g l B dr j = kF2 g l B j := by
    intro j _ _
    unfold kSend
    rw [mput_out (by rw [kF3_out (by omega)]; omega), kF3_out (by omega)]
  refine zGR_eq e ?_
  have h1 : zGR N (kF1 g l B) := by
    unfold kF1
    split
    · refine zGR_log (zGR_eq (fun j _ _ => ?_) h)
      rw [zup1_ne (by omega), zup1_ne (by omega)]
    · exact h
  unfold kF2
  split
  · obtain ⟨n0, _, k8, _, _, _⟩ := kWhat_2 hr ‹_›
    exact zGR_eq (fun j _ _ => rNew_out n0 hr.2.2.2.2.2.2.1.2 hr.2.2.2.2.2.2.2.1.1 k8 (by omega)) h
  · split
    · have k8 := (rLR_kF1 (l := l) hB hB2 hr).2.2.2.2.2.2.2.2.1
      exact zGR_eq (fun j _ _ => rHand_out k8.1 k8.2 (by omega) (by omega) (by omega)) h1
    · exact h
theorem zOut_take {A : (Int → Int) → Int × Int} {g : Int → Int} {l B : Int} (hr : rLR g B) : zOut g (kTake A g l B) B := fun j h1 h2 => kTake_out hr.2.2.1.1 hr.2.2.1.2 (by omega) (by omega) (by omega)
theorem zOut_has {N : Int} {g : Int → Int} {B : Int} (hI : zIL N g B) : zOut g (rHas g B) B := fun j h1 h2 => rHas_out hI (by omega)
theorem zOut_send {A : (Int → Int) → Int × Int} {g : Int → Int} {l B dr : Int} (hB : 10 ≤ B) (hB2 : B + 265 ≤ 1070) (hr : rLR g B) : zOut g (kSend A g l B dr) B := by
  intro j h1 h2
  have hb2 := (rLR_kF2 (l := l) hB hB2 hr).2.2.1
  unfold kSend
  rw [mput_out (by rw [kF3_out (by omega)]; omega), kF3_out (by omega)]
  exact kF2_out hr hB hB2 (by omega) (by omega) (by omega)
/-- fields that neither what arrives nor what is sent changes -/
theorem kF2_f {g : Int → Int} {l B j : Int} (hB : 10 ≤ B) (hB2 : B + 265 ≤ 1070) (hr : rLR g B) (h : j < 6 ∨ (11 ≤ j ∧ j < 17)) (h0 : 0 ≤ j) : kF2 g l B (B + j) = g (B + j) := by
  unfold kF2
  split
  · obtain ⟨n0, _, k8, _, _, _⟩ := kWhat_2 hr ‹_›
    exact rNew_out n0 hr.2.2.2.2.2.2.1.2 hr.2.2.2.2.2.2.2.1.1 k8 (by omega)
  · split
    · have k8 := (rLR_kF1 (l := l) hB hB2 hr).2.2.2.2.2.2.2.2.1
      rw [rHand_out k8.1 k8.2 (by omega) (by omega) (by omega), kF1_out (by omega) (by omega) (by omega) (by omega)]
    · rfl
theorem kSend_f {A : (Int → Int) → Int × Int} {g : Int → Int} {l B dr j : Int} (hB : 10 ≤ B) (hB2 : B + 265 ≤ 1070) (hr : rLR g B) (h : j < 6 ∨ (11 ≤ j ∧ j < 17)) (h0 : 0 ≤ j) : kSend A g l B dr (B + j) = g (B + j) := by
  have hb2 := (rLR_kF2 (l := l) hB hB2 hr).2.2.1
  unfold kSend
  rw [mput_out (by rw [kF3_out (by omega)]; omega), kF3_out (by omega)]
  exact kF2_f hB hB2 hr h h0
def kTwo (A : (Int → Int) → Int × Int) (g : Int → Int) (l B : Int) : Int → Int := if g (B + 0) = 2 then rHas (kTake A g l B) B else kTake A g l B
def kEnd (h : Int → Int) (l bd : Int) : Int → Int := if h (10 + 265 * l + 0) = 1 then rProv h l (10 + 265 * l) bd else if h (10 + 265 * l + 5) < h (10 + 265 * l + 12) then rGoP (rLog (zup1 h (10 + 265 * l + 0) 0) l 2 (h (10 + 265 * l + 12))) l else h
def kOn (A : (Int → Int) → Int × Int) (g : Int → Int) (l dr : Int) : Int → Int := kEnd (kSend A (kTwo A g l (10 + 265 * l)) l (10 + 265 * l) dr) l (if g (10 + 265 * l + (49 + 3)) = 1 then 1 else 0)
theorem kTake_f {A : (Int → Int) → Int × Int} {g : Int → Int} {l B j : Int} (hB : 10 ≤ B) (hB2 : B + 265 ≤ 1070) (hr : rLR g B) (h : j < 11 ∨ (14 ≤ j ∧ j < 17)) (h0 : 0 ≤ j) : kTake A g l B (B + j) = g (B + j) := kTake_out hr.2.2.1.1 hr.2.2.1.2 (by omega) (by omega) (by omega)
theorem zTwo {A : (Int → Int) → Int × Int} {N : Int} {g : Int → Int} {l B : Int} (hA : zAB A) (hB : 10 ≤ B) (hB2 : B + 265 ≤ 1070) (hI : zIL N g B) (h : zGR N g) (N0 : 0 ≤ N) (hN9 : N < 2147483646) : zIL N (kTwo A g l B) B ∧ zGR (N + 1) (kTwo A g l B) ∧ zOut g (kTwo A g l B) B ∧ (∀ j, 0 ≤ j → (j < 7 ∨ 14 ≤ j ∧ j < 17) → kTwo A g l B (B + j) = g (B + j)) := by
  have h1 := zLI_take (A := A) (l := l) hB hB2 hI
  have h2 := zGR_take (l := l) hA hB hI h N0 hN9
  unfold kTwo
  split
  · rename_i hs
    refine ⟨zLI_has h1 ((kTake_f hB hB2 hI.1 (by decide) (by decide)).trans hs), zGR_eq (fun j _ _ => rHas_out h1 (by omega)) h2, zOut_trans (zOut_take hI.1) (zOut_has h1), fun j h0 h3 => ?_⟩
    rw [rHas_out h1 (by omega)]
    exact kTake_f hB hB2 hI.1 (by omega) h0
  · exact ⟨h1, h2, zOut_take hI.1, fun j h0 h3 => kTake_f hB hB2 hI.1 (by omega) h0⟩
theorem zWI_on {A : (Int → Int) → Int × Int} {N : Int} {g : Int → Int} {l dr : Int} (hA : zAB A) (hW : zWI N g) (hl : 0 ≤ l) (hlm : l < g 3) (N0 : 0 ≤ N) (hN9 : N < 2147483646) : zWI (N + 1) (kOn A g l dr) ∧ (∀ j, (j < 4 ∨ j = 7 ∨ 1310 ≤ j) → kOn A g l dr j = g j) ∧ kOn A g l dr 4 = g 4 := by
  obtain ⟨h30, h34, hG, hL⟩ := id hW
  have hB : (10 : Int) ≤ 10 + 265 * l := by omega
  have hB2 : 10 + 265 * l + 265 ≤ 1070 := by omega
  obtain ⟨i2, g2, o2, f2⟩ := zTwo (l := l) hA hB hB2 (hL l hl hlm).1 hG N0 hN9
  have i3 := zLI_send (A := A) (l := l) (dr := dr) hB hB2 i2 N0 hN9
  have g3 := zGR_send (A := A) (l := l) (dr := dr) hB hB2 i2.1 g2
  have o3 := zOut_trans o2 (zOut_send (A := A) (l := l) (dr := dr) hB hB2 i2.1)
  have hp3 : kSend A (kTwo A g l (10 + 265 * l)) l (10 + 265 * l) dr (10 + 265 * l + 15) ≤ kSend A (kTwo A g l (10 + 265 * l)) l (10 + 265 * l) dr (10 + 265 * l + 14) := by
    rw [kSend_f hB hB2 i2.1 (by decide) (by decide), kSend_f hB hB2 i2.1 (by decide) (by decide), f2 15 (by decide) (by decide), f2 14 (by decide) (by decide)]
    exact (hL l hl hlm).2
  unfold kOn
  generalize kSend A (kTwo A g l (10 + 265 * l)) l (10 + 265 * l) dr = h at i3 g3 o3 hp3 ⊢
  have e3 : h 3 = g 3 := o3 3 (by omega) (by omega)
  have hW3 : zWI (N + 1) h := by
    refine ⟨by omega, by omega, g3, fun o o0 o1 => ?_⟩
    by_cases c : o = l
    · subst c
      exact ⟨i3, hp3⟩
    · have hh := hL o o0 (by omega)
      refine ⟨zLI_eq (fun j h1 h2 => o3 j (by omega) (by omega)) (zLI_mono (by omega) hh.1), ?_⟩
      rw [o3 _ (by omega) (by omega), o3 _ (by omega) (by omega)]
      exact hh.2
  have e9 : ∀ j, (j < 4 ∨ j = 7 ∨ 1310 ≤ j) → h j = g j := fun j hj => o3 j (by omega) (by omega)
  have e4 : h 4 = g 4 := o3 4 (by omega) (by omega)
  have hbd : 0 ≤ (if g (10 + 265 * l + (49 + 3)) = 1 then (1 : Int) else 0) ∧ (if g (10 + 265 * l + (49 + 3)) = 1 then (1 : Int) else 0) ≤ 1 := by split <;> decide
  generalize (if g (10 + 265 * l + (49 + 3)) = 1 then (1 : Int) else 0) = bd at hbd ⊢
  unfold kEnd
  by_cases c1 : h (10 + 265 * l + 0) = 1
  · rw [if_pos c1]
    have ip := zLI_prov (l := l) hB hB2 i3 c1 hbd hp3
    have op : zOut h (rProv h l (10 + 265 * l) bd) (10 + 265 * l) := zOut_prov
    have gp : zGR (N + 1) (rProv h l (10 + 265 * l) bd) := by
      have x1 : zGR (N + 1) (rPr1 h (10 + 265 * l) bd) := zGR_eq (fun j _ _ => by unfold rPr1; rw [zup1_ne (by omega), zup1_ne (by omega)]) g3
      have x2 : zGR (N + 1) (rPr2 h (10 + 265 * l) bd) := zGR_eq (fun j _ _ => by unfold rPr2; rw [zup1_ne (by omega), zup1_ne (by omega)]) x1
      unfold rProv
      split
      · exact x1
      · split
        · exact zGR_log (zGR_eq (fun j _ _ => by rw [rAnew_out (by omega), zup1_ne (by omega)]) x2)
        · split
          · exact zGR_eq (fun j _ _ => by rw [zup1_ne (by omega)]) x2
          · exact zGR_log (zGR_eq (fun j _ _ => by rw [zup1_ne (by omega), zup1_ne (by omega), zup1_ne (by omega)]) x2)
    have ep : rProv h l (10 + 265 * l) bd 3 = h 3 := op 3 (by omega) (by omega)
    refine ⟨⟨by omega, by omega, gp, fun o o0 o1 => ?_⟩, fun j hj => (op j (by omega) (by omega)).trans (e9 j hj), (op 4 (by omega) (by omega)).trans e4⟩
    by_cases c : o = l
    · subst c
      exact ⟨ip, zLP_prov hB hB2 hbd hp3⟩
    · have hh := hW3.2.2.2 o o0 (by omega)
      refine ⟨zLI_eq (fun j h1 h2 => op j (by omega) (by omega)) hh.1, ?_⟩
      rw [op _ (by omega) (by omega), op _ (by omega) (by omega)]
      exact hh.2
  · rw [if_neg c1]
    by_cases c2 : h (10 + 265 * l + 5) < h (10 + 265 * l + 12)
    · rw [if_pos c2]
      have ez : ∀ j, j ≠ 10 + 265 * l + 0 → j ≠ 8 → (j < 1070 ∨ 1310 ≤ j) → rLog (zup1 h (10 + 265 * l + 0) 0) l 2 (h (10 + 265 * l + 12)) j = h j := fun j a b c => by rw [rLog_out b c, zup1_ne a]
      have gz : zGR (N + 1) (rLog (zup1 h (10 + 265 * l + 0) 0) l 2 (h (10 + 265 * l + 12))) := zGR_log (zGR_eq (fun j _ _ => by rw [zup1_ne (by omega)]) g3)
      have er : ∀ j, 0 < j → j < 265 → rLog (zup1 h (10 + 265 * l + 0) 0) l 2 (h (10 + 265 * l + 12)) (10 + 265 * l + j) = h (10 + 265 * l + j) := fun j _ _ => ez _ (by omega) (by omega) (by omega)
      have ez3 : rLog (zup1 h (10 + 265 * l + 0) 0) l 2 (h (10 + 265 * l + 12)) 3 = h 3 := ez 3 (by omega) (by omega) (by omega)
      have hrl : rLR (rLog (zup1 h (10 + 265 * l + 0) 0) l 2 (h (10 + 265 * l + 12))) (10 + 265 * l) := by
        obtain ⟨h_0, h_1, h_2, h_3, h_4, h_5, h_6, h_7, h_8, h_9, h_10, h_11, h_12, h_13, h_14, h_15, h_16⟩ := i3.1
        unfold rLR
        rw [er 1 (by decide) (by decide), er 2 (by decide) (by decide), er 3 (by decide) (by decide), er 4 (by decide) (by decide), er 5 (by decide) (by decide), er 6 (by decide) (by decide), er 7 (by decide) (by decide), er 8 (by decide) (by decide), er 9 (by decide) (by decide), er 10 (by decide) (by decide), er 11 (by decide) (by decide), er 12 (by decide) (by decide), er 13 (by decide) (by decide), er 14 (by decide) (by decide), er 15 (by decide) (by decide), er 16 (by decide) (by decide), rLog_out (by omega) (by omega), zup1_eq rfl]
        exact ⟨by decide, h_1, h_2, h_3, h_4, h_5, h_6, h_7, h_8, h_9, h_10, h_11, h_12, h_13, h_14, h_15, h_16⟩
      have hll : rLL (rLog (zup1 h (10 + 265 * l + 0) 0) l 2 (h (10 + 265 * l + 12))) (10 + 265 * l) := by
        have hL3 := i3.2.1
        have h76 := i3.1
        obtain ⟨h_0, h_1, h_2, h_3, h_4, h_5, h_6, h_7, h_8, h_9, h_10, h_11, h_12, h_13, h_14, h_15, h_16⟩ := h76
        unfold rLL
        rw [er 7 (by decide) (by decide), er 6 (by decide) (by decide)]
        refine ⟨fun k h0 h1 => ?_, fun k h0 h1 => ?_⟩
        · rw [er _ (by omega) (by omega)]
          exact hL3.1 k h0 h1
        · rw [er _ (by omega) (by omega)]
          exact hL3.2 k h0 h1
      have hgo := zLI_go (N := N + 1) hl (by omega) (by omega) hrl hll (fun o o0 o1 ol => zLI_eq (fun j h1 h2 => ez j (by omega) (by omega) (by omega)) (hW3.2.2.2 o o0 (by omega)).1)
      generalize rLog (zup1 h (10 + 265 * l + 0) 0) l 2 (h (10 + 265 * l + 12)) = u at *
      obtain ⟨y1, y2, y3, y4, y5⟩ := hgo
      have e33 : rGoP u l 3 = u 3 := y2 3 (by omega)
      refine ⟨⟨by omega, by omega, ?_, fun o o0 o1 => ⟨y1 o o0 (by omega), ?_⟩⟩, fun j hj => (y2 j (by omega)).trans ((ez j (by omega) (by omega) (by omega)).trans (e9 j hj)), (y2 4 (by omega)).trans ((ez 4 (by omega) (by omega) (by omega)).trans e4)⟩
      · unfold zGR
        rw [y2 4 (by omega), y2 5 (by omega), y2 6 (by omega)]
        exact ⟨gz.1, gz.2.1, gz.2.2.1, y5 gz.2.2.2⟩
      · by_cases c : o = l
        · subst c
          rw [y4 15 (by decide) (by decide), y4 14 (by decide) (by decide)]
          decide
        · rw [y3 o 15 o0 (by omega) c (by decide) (by decide) (by decide), y3 o 14 o0 (by omega) c (by decide) (by decide) (by decide), ez _ (by omega) (by omega) (by omega), ez _ (by omega) (by omega) (by omega)]
          exact (hW3.2.2.2 o o0 (by omega)).2
    · rw [if_neg c2]
      exact ⟨hW3, e9, e4⟩
