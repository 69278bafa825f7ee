/-! ## what holds of a line's row -/
def zLH (g : Int → Int) (B : Int) : Prop := (g (B + 8) = 0 ∨ g (B + 8) < g (B + 7)) ∧ (g (B + 7) = 0 → g (B + 9) = 0) ∧ (g (B + 0) ≠ 2 → g (B + 7) = 0)
def zLA (g : Int → Int) (B : Int) : Prop := ∀ k, 0 ≤ k → k < 4 → (0 ≤ g (B + (49 + 5 * k + 0)) ∧ g (B + (49 + 5 * k + 0)) ≤ 2) ∧ (0 ≤ g (B + (49 + 5 * k + 3)) ∧ g (B + (49 + 5 * k + 3)) ≤ 1) ∧ (g (B + (49 + 5 * k + 0)) = 0 → g (B + (49 + 5 * k + 3)) = 0) ∧ (g (B + (49 + 5 * k + 0)) = 2 → 1 ≤ g (B + (49 + 5 * k + 4)) ∧ g (B + (49 + 5 * k + 4)) ≤ 9 ∧ g (B + 0) = 2)
def zLN (N : Int) (g : Int → Int) (B : Int) : Prop := ∀ k, 0 ≤ k → k < g (B + 7) → g (B + (17 + 4 * k + 2)) = (g (B + 10) - g (B + 7) + k) % 16 ∧ 1 ≤ g (B + (17 + 4 * k + 3)) ∧ g (B + (17 + 4 * k + 3)) ≤ N
def zIL (N : Int) (g : Int → Int) (B : Int) : Prop := rLR g B ∧ rLL g B ∧ zLH g B ∧ zLA g B ∧ zLN N g B
/-- a line's row is the same -/
def zLE (g h : Int → Int) (B : Int) : Prop := ∀ j, B ≤ j → j < B + 265 → h j = g j
theorem zLE_refl {g : Int → Int} {B : Int} : zLE g g B := fun _ _ _ => rfl
theorem zLE_trans {g h i : Int → Int} {B : Int} (a : zLE g h B) (b : zLE h i B) : zLE g i B := fun j h1 h2 => (b j h1 h2).trans (a j h1 h2)
theorem rLR_eq {g h : Int → Int} {B : Int} (e : zLE g h B) (hr : rLR g B) : rLR h B := by
  unfold rLR
  rw [e _ (by omega) (show B + 0 < B + 265 by omega), e _ (by omega) (show B + 1 < B + 265 by omega), e _ (by omega) (show B + 2 < B + 265 by omega), e _ (by omega) (show B + 3 < B + 265 by omega), e _ (by omega) (show B + 4 < B + 265 by omega), e _ (by omega) (show B + 5 < B + 265 by omega), e _ (by omega) (show B + 6 < B + 265 by omega), e _ (by omega) (show B + 7 < B + 265 by omega), e _ (by omega) (show B + 8 < B + 265 by omega), e _ (by omega) (show B + 9 < B + 265 by omega), e _ (by omega) (show B + 10 < B + 265 by omega), e _ (by omega) (show B + 11 < B + 265 by omega), e _ (by omega) (show B + 12 < B + 265 by omega), e _ (by omega) (show B + 13 < B + 265 by omega), e _ (by omega) (show B + 14 < B + 265 by omega), e _ (by omega) (show B + 15 < B + 265 by omega), e _ (by omega) (show B + 16 < B + 265 by omega)]
  exact hr
theorem rLL_eq {g h : Int → Int} {B : Int} (e : zLE g h B) (hr : rLR g B) (hL : rLL g B) : rLL h B := by
  obtain ⟨h_0, h_1, h_2, h_3, h_4, h_5, h_6, h_7, _⟩ := hr
  unfold rLL
  rw [e _ (by omega) (show B + 7 < B + 265 by omega), e _ (by omega) (show B + 6 < B + 265 by omega)]
  refine ⟨fun k h0 h1 => ?_, fun k h0 h1 => ?_⟩
  · rw [e _ (by omega) (show B + (17 + 4 * k + 1) < B + 265 by omega)]
    exact hL.1 k h0 h1
  · rw [e _ (by omega) (show B + (73 + 2 * k + 1) < B + 265 by omega)]
    exact hL.2 k h0 h1
theorem zLI_eq {N : Int} {g h : Int → Int} {B : Int} (e : zLE g h B) (hI : zIL N g B) : zIL N h B := by
  obtain ⟨hr, hL, hH, hA, hN⟩ := hI
  refine ⟨rLR_eq e hr, rLL_eq e hr hL, ?_, ?_, ?_⟩
  · unfold zLH
    rw [e _ (by omega) (show B + 8 < B + 265 by omega), e _ (by omega) (show B + 7 < B + 265 by omega), e _ (by omega) (show B + 9 < B + 265 by omega), e _ (by omega) (show B + 0 < B + 265 by omega)]
    exact hH
  · intro k h0 h1
    rw [e _ (by omega) (show B + (49 + 5 * k + 0) < B + 265 by omega), e _ (by omega) (show B + (49 + 5 * k + 3) < B + 265 by omega), e _ (by omega) (show B + (49 + 5 * k + 4) < B + 265 by omega), e _ (by omega) (show B + 0 < B + 265 by omega)]
    exact hA k h0 h1
  · have h7 := hr.2.2.2.2.2.2.2.1
    intro k h0 h1
    rw [e _ (by omega) (show B + 7 < B + 265 by omega)] at h1
    rw [e _ (by omega) (show B + (17 + 4 * k + 2) < B + 265 by omega), e _ (by omega) (show B + (17 + 4 * k + 3) < B + 265 by omega), e _ (by omega) (show B + 7 < B + 265 by omega), e _ (by omega) (show B + 10 < B + 265 by omega)]
    exact hN k h0 h1
theorem zLI_mono {N M : Int} {g : Int → Int} {B : Int} (h : N ≤ M) (hI : zIL N g B) : zIL M g B := ⟨hI.1, hI.2.1, hI.2.2.1, hI.2.2.2.1, fun k h0 h1 => ⟨(hI.2.2.2.2 k h0 h1).1, (hI.2.2.2.2 k h0 h1).2.1, by have := (hI.2.2.2.2 k h0 h1).2.2; omega⟩⟩
theorem zmod16 {x : Int} (h : 0 ≤ x) : zrem x 16 = x % 16 := Int.tmod_eq_emod_of_nonneg h
/-! ### what arrives -/
theorem rAir_at {g : Int → Int} {B k c : Int} (p1 : 1 ≤ g (B + 2)) (p4 : g (B + 2) ≤ 4) (k0 : 0 ≤ k) (k4 : k < 4) (c0 : 0 ≤ c) (c5 : c < 5) : rAir g B (B + (49 + 5 * k + c)) = if k < g (B + 2) - 1 then g (B + (49 + 5 * (k + 1) + c)) else if k = g (B + 2) - 1 then 0 else g (B + (49 + 5 * k + c)) := by
  unfold rAir
  by_cases h : k < g (B + 2) - 1
  · rw [if_pos h, mfil_out (by omega), msh_in (by omega) (by omega)]
    exact congrArg g (by omega)
  · rw [if_neg h]
    by_cases h2 : k = g (B + 2) - 1
    · rw [if_pos h2, mfil_in (by omega) (by omega)]
    · rw [if_neg h2, mfil_out (by omega), msh_out (by omega)]
theorem rArr_at {g : Int → Int} {B k c : Int} (p1 : 1 ≤ g (B + 2)) (p4 : g (B + 2) ≤ 4) (k0 : 0 ≤ k) (k4 : k < 4) (c0 : 0 ≤ c) (c5 : c < 5) : rArr g B (B + (49 + 5 * k + c)) = if k < g (B + 2) - 1 then g (B + (49 + 5 * (k + 1) + c)) else if k = g (B + 2) - 1 then 0 else g (B + (49 + 5 * k + c)) := (rWatch_out (by omega) (by omega)).trans (rAir_at p1 p4 k0 k4 c0 c5)
theorem zLI_arr {N : Int} {g : Int → Int} {B : Int} (hI : zIL N g B) : zIL N (rArr g B) B := by
  obtain ⟨hr, hL, hH, hA, hN⟩ := hI
  obtain ⟨h_0, h_1, h_2, h_3, h_4, h_5, h_6, h_7, h_8, h_9, h_10, h_11, h_12, h_13, h_14, h_15, h_16⟩ := id hr
  have e : ∀ j, (j < 12 ∨ 14 ≤ j ∧ j < 49 ∨ 69 ≤ j) → rArr g B (B + j) = g (B + j) := fun j _ => rArr_out h_2.1 h_2.2 (by omega)
  refine ⟨rLR_arr hr, ?_, ?_, ?_, ?_⟩
  · unfold rLL
    rw [e 7 (by omega), e 6 (by omega)]
    refine ⟨fun k h0 h1 => ?_, fun k h0 h1 => ?_⟩
    · rw [e _ (by omega)]
      exact hL.1 k h0 h1
    · rw [e _ (by omega)]
      exact hL.2 k h0 h1
  · unfold zLH
    rw [e 8 (by omega), e 7 (by omega), e 9 (by omega), e 0 (by omega)]
    exact hH
  · intro k h0 h1
    rw [rArr_at h_2.1 h_2.2 h0 h1 (by decide) (by decide), rArr_at h_2.1 h_2.2 h0 h1 (by decide) (by decide), rArr_at h_2.1 h_2.2 h0 h1 (by decide) (by decide), e 0 (by omega)]
    by_cases c : k < g (B + 2) - 1
    · simp only [if_pos c]
      exact hA (k + 1) (by omega) (by omega)
    · simp only [if_neg c]
      by_cases c2 : k = g (B + 2) - 1
      · simp only [if_pos c2]
        exact ⟨by omega, by omega, fun _ => trivial, fun z => by omega⟩
      · simp only [if_neg c2]
        exact hA k h0 h1
  · intro k h0 h1
    rw [e 7 (by omega)] at h1
    rw [e (17 + 4 * k + 2) (by omega), e (17 + 4 * k + 3) (by omega), e 7 (by omega), e 10 (by omega)]
    exact hN k h0 h1
theorem rTake_out {g : Int → Int} {l B w x j : Int} (h : j < 5 ∨ j = 7 ∨ 9 ≤ j) (h2 : j < 1070 ∨ 1310 ≤ j) (h3 : j ≠ B + 11) : rTake g l B w x j = g j := by
  unfold rTake
  rw [rLog_out (by omega) h2, zup1_ne h3, zup1_ne (by omega), zup1_ne (by omega)]
theorem rTake_11 {g : Int → Int} {l B w x : Int} (hB : 10 ≤ B) (hB2 : B + 265 ≤ 1070) : rTake g l B w x (B + 11) = zrem (g (B + 11) + 1) 16 := by
  unfold rTake
  rw [rLog_out (by omega) (by omega), zup1_eq rfl]
theorem zLI_tk {N : Int} {g : Int → Int} {l B w x : Int} (hB : 10 ≤ B) (hB2 : B + 265 ≤ 1070) (hI : zIL N g B) : zIL N (rTake g l B w x) B := by
  obtain ⟨hr, hL, hH, hA, hN⟩ := hI
  have e11 := rTake_11 (g := g) (l := l) (w := w) (x := x) hB hB2
  have e : ∀ j, 0 ≤ j → j < 265 → j ≠ 11 → rTake g l B w x (B + j) = g (B + j) := fun j _ _ _ => rTake_out (by omega) (by omega) (by omega)
  have hr' : rLR (rTake g l B w x) B := by
    obtain ⟨h_0, h_1, h_2, h_3, h_4, h_5, h_6, h_7, h_8, h_9, h_10, h_11, h_12, h_13, h_14, h_15, h_16⟩ := id hr
    unfold rLR
    rw [e 0 (by omega) (by omega) (by omega), e 1 (by omega) (by omega) (by omega), e 2 (by omega) (by omega) (by omega), e 3 (by omega) (by omega) (by omega), e 4 (by omega) (by omega) (by omega), e 5 (by omega) (by omega) (by omega), e 6 (by omega) (by omega) (by omega), e 7 (by omega) (by omega) (by omega), e 8 (by omega) (by omega) (by omega), e 9 (by omega) (by omega) (by omega), e 10 (by omega) (by omega) (by omega), e 12 (by omega) (by omega) (by omega), e 13 (by omega) (by omega) (by omega), e 14 (by omega) (by omega) (by omega), e 15 (by omega) (by omega) (by omega), e 16 (by omega) (by omega) (by omega), e11]
    exact ⟨h_0, h_1, h_2, h_3, h_4, h_5, h_6, h_7, h_8, h_9, h_10, zrem16 (by omega), h_12, h_13, h_14, h_15, h_16⟩
  obtain ⟨h_0, h_1, h_2, h_3, h_4, h_5, h_6, h_7, h_8, h_9, h_10, h_11, h_12, h_13, h_14, h_15, h_16⟩ := id hr
  refine ⟨hr', ?_, ?_, ?_, ?_⟩
  · unfold rLL
    rw [e 7 (by omega) (by omega) (by omega), e 6 (by omega) (by omega) (by omega)]
    refine ⟨fun k h0 h1 => ?_, fun k h0 h1 => ?_⟩
    · rw [e _ (by omega) (by omega) (by omega)]
      exact hL.1 k h0 h1
    · rw [e _ (by omega) (by omega) (by omega)]
      exact hL.2 k h0 h1
  · unfold zLH
    rw [e 8 (by omega) (by omega) (by omega), e 7 (by omega) (by omega) (by omega), e 9 (by omega) (by omega) (by omega), e 0 (by omega) (by omega) (by omega)]
    exact hH
  · intro k h0 h1
    rw [e _ (by omega) (by omega) (by omega), e _ (by omega) (by omega) (by omega), e _ (by omega) (by omega) (by omega), e 0 (by omega) (by omega) (by omega)]
    exact hA k h0 h1
  · intro k h0 h1
    rw [e 7 (by omega) (by omega) (by omega)] at h1
    rw [e (17 + 4 * k + 2) (by omega) (by omega) (by omega), e (17 + 4 * k + 3) (by omega) (by omega) (by omega), e 7 (by omega) (by omega) (by omega), e 10 (by omega) (by omega) (by omega)]
    exact hN k h0 h1
theorem zLI_take {A : (Int → Int) → Int × Int} {N : Int} {g : Int → Int} {l B : Int} (hB : 10 ≤ B) (hB2 : B + 265 ≤ 1070) (hI : zIL N g B) : zIL N (kTake A g l B) B := by
  unfold kTake
  split
  · exact zLI_tk hB hB2 (zLI_arr hI)
  · exact zLI_arr hI
theorem kTake_out {A : (Int → Int) → Int × Int} {g : Int → Int} {l B j : Int} (p1 : 1 ≤ g (B + 2)) (p4 : g (B + 2) ≤ 4) (h : j < 5 ∨ j = 7 ∨ 9 ≤ j) (h2 : j < 1070 ∨ 1310 ≤ j) (h3 : j < B + 11 ∨ (B + 14 ≤ j ∧ j < B + 49) ∨ B + 69 ≤ j) : kTake A g l B j = g j := by
  unfold kTake
  split
  · rw [rTake_out h h2 (by omega), rArr_out p1 p4 (by omega)]
  · exact rArr_out p1 p4 (by omega)
/-! ### what comes back -/
theorem rLeaves_in {g : Int → Int} {B n k c : Int} (n0 : 0 ≤ n) (k0 : 0 ≤ k) (k1 : k < g (B + 7) - n) (c0 : 0 ≤ c) (c4 : c < 4) : rLeaves g B n (B + (17 + 4 * k + c)) = g (B + (17 + 4 * (k + n) + c)) := by
  unfold rLeaves
  rw [zup1_ne (by omega), msh_in (by omega) (by omega)]
  exact congrArg g (by omega)
theorem rLeaves_7 {g : Int → Int} {B n : Int} : rLeaves g B n (B + 7) = g (B + 7) - n := zup1_eq rfl
theorem zLI_leaves {N : Int} {g : Int → Int} {B n : Int} (n0 : 0 ≤ n) (n7 : n ≤ g (B + 7)) (hI : zIL N g B) (hs : g (B + 0) = 2) : rLR (rLeaves g B n) B ∧ rLL (rLeaves g B n) B ∧ zLA (rLeaves g B n) B ∧ zLN N (rLeaves g B n) B := by
  obtain ⟨hr, hL, hH, hA, hN⟩ := hI
  obtain ⟨h_0, h_1, h_2, h_3, h_4, h_5, h_6, h_7, h_8, h_9, h_10, h_11, h_12, h_13, h_14, h_15, h_16⟩ := id hr
  have e7 := rLeaves_7 (g := g) (B := B) (n := n)
  have e : ∀ j, 0 ≤ j → (j < 17 ∨ 49 ≤ j) → j ≠ 7 → rLeaves g B n (B + j) = g (B + j) := fun j _ _ _ => rLeaves_out (by omega) (by omega)
  refine ⟨?_, ?_, ?_, ?_⟩
  · unfold rLR
    rw [e 0 (by omega) (by omega) (by omega), e 1 (by omega) (by omega) (by omega), e 2 (by omega) (by omega) (by omega), e 3 (by omega) (by omega) (by omega), e 4 (by omega) (by omega) (by omega), e 5 (by omega) (by omega) (by omega), e 6 (by omega) (by omega) (by omega), e7, e 8 (by omega) (by omega) (by omega), e 9 (by omega) (by omega) (by omega), e 10 (by omega) (by omega) (by omega), e 11 (by omega) (by omega) (by omega), e 12 (by omega) (by omega) (by omega), e 13 (by omega) (by omega) (by omega), e 14 (by omega) (by omega) (by omega), e 15 (by omega) (by omega) (by omega), e 16 (by omega) (by omega) (by omega)]
    exact ⟨h_0, h_1, h_2, h_3, h_4, h_5, h_6, by omega, h_8, h_9, h_10, h_11, h_12, h_13, h_14, h_15, h_16⟩
  · unfold rLL
    rw [e7, e 6 (by omega) (by omega) (by omega)]
    refine ⟨fun k h0 h1 => ?_, fun k h0 h1 => ?_⟩
    · rw [rLeaves_in n0 h0 h1 (by decide) (by decide)]
      exact hL.1 (k + n) (by omega) (by omega)
    · rw [e _ (by omega) (by omega) (by omega)]
      exact hL.2 k h0 h1
  · intro k h0 h1
    rw [e _ (by omega) (by omega) (by omega), e _ (by omega) (by omega) (by omega), e _ (by omega) (by omega) (by omega), e 0 (by omega) (by omega) (by omega)]
    exact hA k h0 h1
  · intro k h0 h1
    rw [e7] at h1
    rw [rLeaves_in n0 h0 h1 (by decide) (by decide), rLeaves_in n0 h0 h1 (by decide) (by decide), e7, e 10 (by omega) (by omega) (by omega)]
    have := hN (k + n) (by omega) (by omega)
    refine ⟨?_, this.2⟩
    rw [this.1]
    exact congrArg (· % 16) (by omega)
