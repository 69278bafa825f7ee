/-! ### what proves itself, and what begins anew -/
/-- but for that row, and what all share, nothing changes -/
def zOut (g h : Int → Int) (B : Int) : Prop := ∀ j, (j < B ∨ B + 265 ≤ j) → (j < 5 ∨ j = 7 ∨ (10 ≤ j ∧ j < 1070) ∨ 1310 ≤ j) → h j = g j
theorem zOut_refl {g : Int → Int} {B : Int} : zOut g g B := fun _ _ _ => rfl
theorem zOut_trans {g h i : Int → Int} {B : Int} (a : zOut g h B) (b : zOut h i B) : zOut g i B := fun j h1 h2 => (b j h1 h2).trans (a j h1 h2)
theorem zOut_up {g : Int → Int} {B j v : Int} (h : B ≤ j ∧ j < B + 265) : zOut g (zup1 g j v) B := fun i h1 h2 => zup1_ne (by omega)
theorem zOut_log {g : Int → Int} {B l w v : Int} : zOut g (rLog g l w v) B := fun i h1 h2 => rLog_out (by omega) (by omega)
theorem zOut_anew {g : Int → Int} {B : Int} : zOut g (rAnew g B) B := fun i h1 h2 => rAnew_out (by omega)
theorem rAnew_lo {g : Int → Int} {B j : Int} (h : j < 8 ∨ (17 ≤ j ∧ j < 49)) : rAnew g B (B + j) = g (B + j) := by
  unfold rAnew rEmp
  rw [mfil_out (by omega), mfil_out (by omega), zup1_ne (by omega), zup1_ne (by omega), zup1_ne (by omega), zup1_ne (by omega), zup1_ne (by omega), zup1_ne (by omega), zup1_ne (by omega), zup1_ne (by omega), zup1_ne (by omega)]
theorem rAnew_mid {g : Int → Int} {B j : Int} (h : 8 ≤ j ∧ j < 17) : rAnew g B (B + j) = 0 := by
  unfold rAnew rEmp
  rw [mfil_out (by omega), mfil_out (by omega)]
  rcases (by omega : j = 8 ∨ j = 9 ∨ j = 10 ∨ j = 11 ∨ j = 12 ∨ j = 13 ∨ j = 14 ∨ j = 15 ∨ j = 16) with rfl | rfl | rfl | rfl | rfl | rfl | rfl | rfl | rfl
  · rw [zup1_ne (by omega), zup1_ne (by omega), zup1_ne (by omega), zup1_ne (by omega), zup1_ne (by omega), zup1_ne (by omega), zup1_eq rfl]
  · rw [zup1_eq rfl]
  · rw [zup1_ne (by omega), zup1_ne (by omega), zup1_ne (by omega), zup1_ne (by omega), zup1_ne (by omega), zup1_ne (by omega), zup1_ne (by omega), zup1_ne (by omega), zup1_eq rfl]
  · rw [zup1_ne (by omega), zup1_ne (by omega), zup1_ne (by omega), zup1_ne (by omega), zup1_ne (by omega), zup1_ne (by omega), zup1_ne (by omega), zup1_eq rfl]
  · rw [zup1_ne (by omega), zup1_ne (by omega), zup1_ne (by omega), zup1_ne (by omega), zup1_ne (by omega), zup1_eq rfl]
  · rw [zup1_ne (by omega), zup1_ne (by omega), zup1_ne (by omega), zup1_ne (by omega), zup1_eq rfl]
  · rw [zup1_ne (by omega), zup1_ne (by omega), zup1_ne (by omega), zup1_eq rfl]
  · rw [zup1_ne (by omega), zup1_ne (by omega), zup1_eq rfl]
  · rw [zup1_ne (by omega), zup1_eq rfl]
theorem rAnew_air {g : Int → Int} {B j : Int} (h : 49 ≤ j ∧ j < 69) : rAnew g B (B + j) = 0 := by
  unfold rAnew rEmp
  rw [mfil_out (by omega), mfil_in (by omega) (by omega)]
theorem rAnew_rep {g : Int → Int} {B j : Int} (h : 69 ≤ j ∧ j < 73) : rAnew g B (B + j) = -1 := by
  unfold rAnew rEmp
  rw [mfil_in (by omega) (by omega)]
theorem rLR_anew {g : Int → Int} {B : Int} (hr : rLR g B) : rLR (rAnew g B) B := by
  obtain ⟨h_0, h_1, h_2, h_3, h_4, h_5, h_6, h_7, h_8, h_9, h_10, h_11, h_12, h_13, h_14, h_15, h_16⟩ := id hr
  unfold rLR
  rw [rAnew_lo (j := 0) (by omega), rAnew_lo (j := 1) (by omega), rAnew_lo (j := 2) (by omega), rAnew_lo (j := 3) (by omega), rAnew_lo (j := 4) (by omega), rAnew_lo (j := 5) (by omega), rAnew_lo (j := 6) (by omega), rAnew_lo (j := 7) (by omega), rAnew_mid (j := 8) (by omega), rAnew_mid (j := 9) (by omega), rAnew_mid (j := 10) (by omega), rAnew_mid (j := 11) (by omega), rAnew_mid (j := 12) (by omega), rAnew_mid (j := 13) (by omega), rAnew_mid (j := 14) (by omega), rAnew_mid (j := 15) (by omega), rAnew_mid (j := 16) (by omega)]
  exact ⟨h_0, h_1, h_2, h_3, h_4, h_5, h_6, h_7, by decide, by decide, by decide, by decide, by decide, by decide, by decide, by decide, by decide⟩
theorem zLI_anew {N : Int} {g : Int → Int} {B : Int} (hr : rLR g B) (hL : rLL g B) (h7 : g (B + 7) = 0) : zIL N (rAnew g B) B := by
  refine ⟨rLR_anew hr, ?_, ?_, ?_, ?_⟩
  · have h6 := hr.2.2.2.2.2.2.1
    unfold rLL
    rw [rAnew_lo (j := 7) (by omega), rAnew_lo (j := 6) (by omega)]
    refine ⟨fun k h0 h1 => by omega, fun k h0 h1 => ?_⟩
    rw [rAnew_out (by omega)]
    exact hL.2 k h0 h1
  · unfold zLH
    rw [rAnew_mid (j := 8) (by omega), rAnew_lo (j := 7) (by omega), rAnew_mid (j := 9) (by omega)]
    exact ⟨Or.inl rfl, fun _ => rfl, fun _ => h7⟩
  · intro k h0 h1
    rw [rAnew_air (j := 49 + 5 * k + 0) (by omega), rAnew_air (j := 49 + 5 * k + 3) (by omega)]
    exact ⟨by decide, by decide, fun _ => rfl, fun z => absurd z (by decide)⟩
  · intro k h0 h1
    rw [rAnew_lo (j := 7) (by omega)] at h1
    omega
/-- of a line that goes out, or comes, nothing else changes -/
theorem zLI_state {N : Int} {g : Int → Int} {B v : Int} (hI : zIL N g B) (hs : g (B + 0) ≠ 2) (hv : 0 ≤ v ∧ v ≤ 2) : zIL N (zup1 g (B + 0) v) B := by
  obtain ⟨hr, hL, hH, hA, hN⟩ := id hI
  obtain ⟨h_0, h_1, h_2, h_3, h_4, h_5, h_6, h_7, h_8, h_9, h_10, h_11, h_12, h_13, h_14, h_15, h_16⟩ := id hr
  have h70 := hH.2.2 hs
  refine ⟨?_, ?_, ?_, ?_, ?_⟩
  · unfold rLR
    rw [zup1_eq rfl, zup1_ne (show B + 1 ≠ B + 0 by omega), zup1_ne (show B + 2 ≠ B + 0 by omega), zup1_ne (show B + 3 ≠ B + 0 by omega), zup1_ne (show B + 4 ≠ B + 0 by omega), zup1_ne (show B + 5 ≠ B + 0 by omega), zup1_ne (show B + 6 ≠ B + 0 by omega), zup1_ne (show B + 7 ≠ B + 0 by omega), zup1_ne (show B + 8 ≠ B + 0 by omega), zup1_ne (show B + 9 ≠ B + 0 by omega), zup1_ne (show B + 10 ≠ B + 0 by omega), zup1_ne (show B + 11 ≠ B + 0 by omega), zup1_ne (show B + 12 ≠ B + 0 by omega), zup1_ne (show B + 13 ≠ B + 0 by omega), zup1_ne (show B + 14 ≠ B + 0 by omega), zup1_ne (show B + 15 ≠ B + 0 by omega), zup1_ne (show B + 16 ≠ B + 0 by omega)]
    exact ⟨hv, h_1, h_2, h_3, h_4, h_5, h_6, h_7, h_8, h_9, h_10, h_11, h_12, h_13, h_14, h_15, h_16⟩
  · unfold rLL
    rw [zup1_ne (show B + 7 ≠ B + 0 by omega), zup1_ne (show B + 6 ≠ B + 0 by omega)]
    refine ⟨fun i h0 h1 => ?_, fun i h0 h1 => ?_⟩
    · rw [zup1_ne (by omega)]
      exact hL.1 i h0 h1
    · rw [zup1_ne (by omega)]
      exact hL.2 i h0 h1
  · unfold zLH
    rw [zup1_ne (show B + 7 ≠ B + 0 by omega), zup1_ne (show B + 8 ≠ B + 0 by omega), zup1_ne (show B + 9 ≠ B + 0 by omega)]
    exact ⟨hH.1, hH.2.1, fun _ => h70⟩
  · intro i h0 h1
    rw [zup1_ne (by omega), zup1_ne (by omega), zup1_ne (by omega)]
    have := hA i h0 h1
    exact ⟨this.1, this.2.1, this.2.2.1, fun z => absurd (this.2.2.2 z).2.2 hs⟩
  · intro i h0 h1
    rw [zup1_ne (by omega)] at h1
    omega
theorem zLK_pr {N : Int} {g h : Int → Int} {B : Int} (e : ∀ j, 0 ≤ j → j < 265 → (j < 14 ∨ 17 ≤ j) → h (B + j) = g (B + j)) (hI : zIL N g B) (h14 : 0 ≤ h (B + 14) ∧ h (B + 14) ≤ 7) (h15 : 0 ≤ h (B + 15) ∧ h (B + 15) ≤ 7) (h16 : 0 ≤ h (B + 16) ∧ h (B + 16) ≤ 2) : zIL N h B := by
  obtain ⟨hr, hL, hH, hA, hN⟩ := id hI
  obtain ⟨h_0, h_1, h_2, h_3, h_4, h_5, h_6, h_7, h_8, h_9, h_10, h_11, h_12, h_13, h_14, h_15, h_16⟩ := id hr
  refine zLI_mk (zLK_eq (fun j h0 h1 _ _ h2 _ => e j h0 h1 (by omega)) (zLI_k hI) ?_ ?_ ?_ ?_ h14 h15 h16) ?_
  · rw [e 8 (by decide) (by decide) (by decide)]; exact h_8
  · rw [e 9 (by decide) (by decide) (by decide)]; exact h_9
  · rw [e 12 (by decide) (by decide) (by decide)]; exact h_12
  · rw [e 13 (by decide) (by decide) (by decide)]; exact h_13
  · unfold zLH
    rw [e 8 (by decide) (by decide) (by decide), e 7 (by decide) (by decide) (by decide), e 9 (by decide) (by decide) (by decide), e 0 (by decide) (by decide) (by decide)]
    exact hH
theorem zLI_log {N : Int} {g : Int → Int} {B l w v : Int} (hB : 10 ≤ B) (hB2 : B + 265 ≤ 1070) (hI : zIL N g B) : zIL N (rLog g l w v) B := zLI_eq (fun j h1 h2 => rLog_out (by omega) (by omega)) hI
theorem zOut_prov {g : Int → Int} {l B bd : Int} : zOut g (rProv g l B bd) B := by
  have e1 : zOut g (rPr1 g B bd) B := zOut_trans (zOut_up (by omega)) (zOut_up (by omega))
  have e2 : zOut g (rPr2 g B bd) B := zOut_trans e1 (zOut_trans (zOut_up (by omega)) (zOut_up (by omega)))
  unfold rProv
  split
  · exact e1
  · split
    · exact zOut_trans e2 (zOut_trans (zOut_up (by omega)) (zOut_trans zOut_anew zOut_log))
    · split
      · exact zOut_trans e2 (zOut_up (by omega))
      · exact zOut_trans e2 (zOut_trans (zOut_up (by omega)) (zOut_trans (zOut_up (by omega)) (zOut_trans (zOut_up (by omega)) zOut_log)))
theorem zLI_prov {N : Int} {g : Int → Int} {l B bd : Int} (hB : 10 ≤ B) (hB2 : B + 265 ≤ 1070) (hI : zIL N g B) (hs : g (B + 0) = 1) (hb : 0 ≤ bd ∧ bd ≤ 1) (hp : g (B + 15) ≤ g (B + 14)) : zIL N (rProv g l B bd) B := by
  obtain ⟨hr, hL, hH, hA, hN⟩ := id hI
  obtain ⟨h_0, h_1, h_2, h_3, h_4, h_5, h_6, h_7, h_8, h_9, h_10, h_11, h_12, h_13, h_14, h_15, h_16⟩ := id hr
  have e1 : ∀ j, (j < 14 ∨ 16 ≤ j) → rPr1 g B bd (B + j) = g (B + j) := fun j _ => by unfold rPr1; rw [zup1_ne (by omega), zup1_ne (by omega)]
  have e2 : ∀ j, (j < 14 ∨ 16 ≤ j) → rPr2 g B bd (B + j) = g (B + j) := fun j hj => by unfold rPr2; rw [zup1_ne (by omega), zup1_ne (by omega), e1 j hj]
  have e214 : rPr2 g B bd (B + 14) = 0 := by unfold rPr2; rw [zup1_ne (by omega), zup1_eq rfl]
  have e215 : rPr2 g B bd (B + 15) = 0 := zup1_eq rfl
  have h2 : zIL N (rPr2 g B bd) B := by
    refine zLK_pr (fun j _ _ h => e2 j (by omega)) hI ?_ ?_ ?_
    · rw [e214]; decide
    · rw [e215]; decide
    · rw [e2 16 (by decide)]; exact h_16
  have hs2 : rPr2 g B bd (B + 0) ≠ 2 := by rw [e2 0 (by decide)]; omega
  have h70 := hH.2.2 (by omega)
  unfold rProv
  split
  · refine zLK_pr (fun j _ _ h => e1 j (by omega)) hI ?_ ?_ ?_
    · unfold rPr1
      rw [zup1_eq rfl]
      omega
    · unfold rPr1
      rw [zup1_ne (by omega), zup1_eq rfl]
      omega
    · rw [e1 16 (by decide)]; exact h_16
  · split
    · have h3 := zLI_state h2 hs2 (v := 2) (by decide)
      refine zLI_log hB hB2 (zLI_anew h3.1 h3.2.1 ?_)
      rw [zup1_ne (by omega), e2 7 (by decide)]
      exact h70
    · have f16 : ∀ v, 0 ≤ v ∧ v ≤ 2 → ∀ h : Int → Int, zIL N h B → zIL N (zup1 h (B + 16) v) B := by
        intro v hv h hh
        obtain ⟨q_0, q_1, q_2, q_3, q_4, q_5, q_6, q_7, q_8, q_9, q_10, q_11, q_12, q_13, q_14, q_15, q_16⟩ := hh.1
        refine zLK_pr (fun j _ _ _ => zup1_ne (by omega)) hh ?_ ?_ ?_
        · rw [zup1_ne (by omega)]; exact q_14
        · rw [zup1_ne (by omega)]; exact q_15
        · rw [zup1_eq rfl]; exact hv
      split
      · exact f16 _ (by omega) _ h2
      · refine zLI_log hB hB2 (zLI_state ?_ ?_ (by decide))
        · rw [zup1_zup1]
          exact f16 0 (by decide) _ h2
        · rw [zup1_ne (by omega), zup1_ne (by omega)]
          exact hs2
theorem zLP_prov {g : Int → Int} {l B bd : Int} (hB : 10 ≤ B) (hB2 : B + 265 ≤ 1070) (hb : 0 ≤ bd ∧ bd ≤ 1) (hp : g (B + 15) ≤ g (B + 14)) : rProv g l B bd (B + 15) ≤ rProv g l B bd (B + 14) := by
  have e214 : rPr2 g B bd (B + 14) = 0 := by unfold rPr2; rw [zup1_ne (by omega), zup1_eq rfl]
  have e215 : rPr2 g B bd (B + 15) = 0 := zup1_eq rfl
  unfold rProv
  split
  · unfold rPr1
    rw [zup1_ne (by omega), zup1_eq rfl, zup1_eq rfl]
    omega
  · split
    · rw [rLog_out (by omega) (by omega), rLog_out (by omega) (by omega), rAnew_mid (by decide), rAnew_mid (by decide)]
      decide
    · split
      · rw [zup1_ne (by omega), zup1_ne (by omega), e214, e215]
        decide
      · rw [rLog_out (by omega) (by omega), rLog_out (by omega) (by omega), zup1_ne (by omega), zup1_ne (by omega), zup1_ne (by omega), zup1_ne (by omega), zup1_ne (by omega), zup1_ne (by omega), e214, e215]
        decide
