/-! ### what goes over -/
theorem rG2_out {g : Int → Int} {B j : Int} (h0 : 0 ≤ g (B + 7)) (h8 : g (B + 7) ≤ 8) (h : j < B + 6 ∨ (B + 8 ≤ j ∧ j < B + 17) ∨ B + 49 ≤ j) : rG2 g B j = g j := by
  have hr := rAhead_rng (g := g) (B := B) (n := g (B + 11)) h0
  unfold rG2 rG1
  rw [zup1_ne (by omega), zup1_ne (by omega), rLeaves_out (by omega) (by omega)]
theorem rG1_7 {g : Int → Int} {B : Int} : rG1 g B (B + 7) = g (B + 7) - rAhead g B (g (B + 11)) := rLeaves_7
theorem rG1_6 {g : Int → Int} {B : Int} (h0 : 0 ≤ g (B + 7)) : rG1 g B (B + 6) = g (B + 6) := by
  unfold rG1
  exact rLeaves_out (by omega) (by omega)
/-- what goes over, unit by unit -/
def rOe (g : Int → Int) (B i c : Int) : Int := if i < rG1 g B (B + 7) then g (B + (17 + 4 * (i + rAhead g B (g (B + 11))) + c)) else g (B + (73 + 2 * (i - rG1 g B (B + 7)) + c))
theorem rGov_at {f : Int → Int → Int} {g : Int → Int} {B i c : Int} (h0 : 0 ≤ g (B + 7)) (h8 : g (B + 7) ≤ 8) (i0 : 0 ≤ i) (i1 : i < rG1 g B (B + 7) + rG1 g B (B + 6)) (c0 : 0 ≤ c) (c2 : c < 2) : rGov f g B (2 * i + c) = rOe g B i c := by
  have hr := rAhead_rng (g := g) (B := B) (n := g (B + 11)) h0
  have e7 := rG1_7 (g := g) (B := B)
  unfold rGov rOv2 rOe
  by_cases h : i < rG1 g B (B + 7)
  · rw [if_neg (by omega), if_pos h]
    unfold rOv1
    rw [if_pos (by omega)]
    have hi : ∀ c', 0 ≤ c' → c' < 4 → rG1 g B (B + (17 + 4 * i + c')) = g (B + (17 + 4 * (i + rAhead g B (g (B + 11))) + c')) := fun c' _ _ => by
      unfold rG1
      exact rLeaves_in hr.1 i0 (by omega) (by omega) (by omega)
    by_cases hc : c = 0
    · subst hc
      rw [if_pos (by omega), show (2 * i + 0) / 2 = i by omega]
      exact hi 0 (by decide) (by decide)
    · obtain rfl : c = 1 := by omega
      rw [if_neg (by omega), show (2 * i + 1) / 2 = i by omega]
      exact hi 1 (by decide) (by decide)
  · rw [if_pos (by omega), if_neg h]
    exact (rLeaves_out (g := g) (B := B) (n := rAhead g B (g (B + 11))) (by omega) (by omega)).trans (congrArg g (by omega))
theorem rApp_congr {g : Int → Int} {B k : Int} {ov ov2 : Int → Int} (h : ∀ j, 0 ≤ j → j < 2 * k → ov j = ov2 j) : rApp g B ov k = rApp g B ov2 k := by
  funext i
  unfold rApp
  split
  · exact h _ (by omega) (by omega)
  · rfl
def rGoP (g : Int → Int) (l : Int) : Int → Int := rGo (fun _ _ => 0) g l
theorem rGk_le {g : Int → Int} {l : Int} : rGk g l ≤ rG1 g (10 + 265 * l) (10 + 265 * l + 7) + rG1 g (10 + 265 * l) (10 + 265 * l + 6) := by
  unfold rGk rWent
  split <;> omega
theorem rGo_P {f : Int → Int → Int} {g : Int → Int} {l : Int} (h0 : 0 ≤ g (10 + 265 * l + 7)) (h8 : g (10 + 265 * l + 7) ≤ 8) : rGo f g l = rGoP g l := by
  unfold rGoP rGo
  rw [rApp_congr (ov := rGov f g (10 + 265 * l)) (ov2 := rGov (fun _ _ => 0) g (10 + 265 * l))]
  intro j j0 j1
  have hk := rGk_le (g := g) (l := l)
  have e := rGov_at (f := f) (g := g) (B := 10 + 265 * l) (i := j / 2) (c := j % 2) h0 h8 (by omega) (by omega) (by omega) (by omega)
  have e' := rGov_at (f := fun _ _ => 0) (g := g) (B := 10 + 265 * l) (i := j / 2) (c := j % 2) h0 h8 (by omega) (by omega) (by omega) (by omega)
  rw [show 2 * (j / 2) + j % 2 = j by omega] at e e'
  rw [e, e']
theorem rApp_in {h : Int → Int} {B n k c : Int} {ov : Int → Int} (q0 : 0 ≤ h (B + 6)) (k0 : 0 ≤ k) (k1 : k < n) (c0 : 0 ≤ c) (c2 : c < 2) : rApp h B ov n (B + (73 + 2 * (h (B + 6) + k) + c)) = ov (2 * k + c) := by
  unfold rApp
  rw [if_pos (by omega)]
  exact congrArg ov (by omega)
theorem app_RL {h : Int → Int} {B n : Int} {ov : Int → Int} (hr : rLR h B) (hL : rLL h B) (n0 : 0 ≤ n) (n9 : h (B + 6) + n ≤ 96) (hov : ∀ i, 0 ≤ i → i < n → 1 ≤ ov (2 * i + 1) ∧ ov (2 * i + 1) ≤ 9) : rLR (rApp h B ov n) B ∧ rLL (rApp h B ov n) B := by
  obtain ⟨h_0, h_1, h_2, h_3, h_4, h_5, h_6, h_7, h_8, h_9, h_10, h_11, h_12, h_13, h_14, h_15, h_16⟩ := id hr
  have e6 := rApp_6 (g := h) (B := B) (k := n) (ov := ov) h_6.1
  have e : ∀ j, 0 ≤ j → j < 73 → j ≠ 6 → rApp h B ov n (B + j) = h (B + j) := fun j _ _ _ => rApp_out (by omega) (by omega)
  refine ⟨?_, ?_⟩
  · unfold rLR
    rw [e6, e 0 (by decide) (by decide) (by decide), e 1 (by decide) (by decide) (by decide), e 2 (by decide) (by decide) (by decide), e 3 (by decide) (by decide) (by decide), e 4 (by decide) (by decide) (by decide), e 5 (by decide) (by decide) (by decide), e 7 (by decide) (by decide) (by decide), e 8 (by decide) (by decide) (by decide), e 9 (by decide) (by decide) (by decide), e 10 (by decide) (by decide) (by decide), e 11 (by decide) (by decide) (by decide), e 12 (by decide) (by decide) (by decide), e 13 (by decide) (by decide) (by decide), e 14 (by decide) (by decide) (by decide), e 15 (by decide) (by decide) (by decide), e 16 (by decide) (by decide) (by decide)]
    exact ⟨h_0, h_1, h_2, h_3, h_4, h_5, by omega, h_7, h_8, h_9, h_10, h_11, h_12, h_13, h_14, h_15, h_16⟩
  · unfold rLL
    rw [e6, e 7 (by decide) (by decide) (by decide)]
    refine ⟨fun k h0 h1 => ?_, fun k h0 h1 => ?_⟩
    · rw [e _ (by omega) (by omega) (by omega)]
      exact hL.1 k h0 h1
    · by_cases c : k < h (B + 6)
      · rw [rApp_out (by omega) (by omega)]
        exact hL.2 k h0 c
      · have := rApp_in (h := h) (B := B) (n := n) (k := k - h (B + 6)) (c := 1) (ov := ov) h_6.1 (by omega) (by omega) (by decide) (by decide)
        rw [show h (B + 6) + (k - h (B + 6)) = k by omega] at this
        rw [this]
        exact hov _ (by omega) (by omega)
theorem zLI_app {N : Int} {h : Int → Int} {B n : Int} {ov : Int → Int} (hI : zIL N h B) (n0 : 0 ≤ n) (n9 : h (B + 6) + n ≤ 96) (hov : ∀ i, 0 ≤ i → i < n → 1 ≤ ov (2 * i + 1) ∧ ov (2 * i + 1) ≤ 9) : zIL N (rApp h B ov n) B := by
  obtain ⟨hr, hL, hH, hA, hN⟩ := hI
  have hrl := app_RL hr hL n0 n9 hov
  obtain ⟨h_0, h_1, h_2, h_3, h_4, h_5, h_6, h_7, h_8, h_9, h_10, h_11, h_12, h_13, h_14, h_15, h_16⟩ := id hr
  have e : ∀ j, 0 ≤ j → j < 73 → j ≠ 6 → rApp h B ov n (B + j) = h (B + j) := fun j _ _ _ => rApp_out (by omega) (by omega)
  refine ⟨hrl.1, hrl.2, ?_, ?_, ?_⟩
  · unfold zLH
    rw [e 8 (by decide) (by decide) (by decide), e 7 (by decide) (by decide) (by decide), e 9 (by decide) (by decide) (by decide), e 0 (by decide) (by decide) (by decide)]
    exact hH
  · intro k h0 h1
    rw [e _ (by omega) (by omega) (by omega), e _ (by omega) (by omega) (by omega), e _ (by omega) (by omega) (by omega), e 0 (by omega) (by omega) (by omega)]
    exact hA k h0 h1
  · intro k h0 h1
    rw [e 7 (by omega) (by omega) (by omega)] at h1
    rw [e (17 + 4 * k + 2) (by omega) (by omega) (by omega), e (17 + 4 * k + 3) (by omega) (by omega) (by omega), e 7 (by omega) (by omega) (by omega), e 10 (by omega) (by omega) (by omega)]
    exact hN k h0 h1
theorem rGto_rng {g : Int → Int} {l : Int} (hl : 0 ≤ l) (h0 : 0 ≤ g (10 + 265 * l + 7)) (h8 : g (10 + 265 * l + 7) ≤ 8) (h3 : 0 ≤ g 3) : rGto g l = -1 ∨ (0 ≤ rGto g l ∧ rGto g l < g 3 ∧ rGto g l ≠ l) := by
  have h9 := rOthS_rng (g := rG2 g (10 + 265 * l)) (l := l) (rG2 g (10 + 265 * l) 3).toNat 0 (-1) (by omega) (Or.inl rfl)
  have e3 : rG2 g (10 + 265 * l) 3 = g 3 := rG2_out h0 h8 (by omega)
  have h9 : rGto g l = -1 ∨ (0 ≤ rGto g l ∧ rGto g l < 0 + ((rG2 g (10 + 265 * l) 3).toNat : Int) ∧ rGto g l ≠ l) := h9
  rw [e3] at h9
  omega
/-- of what a line's change makes, row by row -/
theorem zLI_go {N : Int} {g : Int → Int} {l : Int} (hl : 0 ≤ l) (hlm : l < g 3) (hm : g 3 ≤ 4) (hr : rLR g (10 + 265 * l)) (hL : rLL g (10 + 265 * l)) (hI : ∀ o, 0 ≤ o → o < g 3 → o ≠ l → zIL N g (10 + 265 * o)) : (∀ o, 0 ≤ o → o < g 3 → zIL N (rGoP g l) (10 + 265 * o)) ∧ (∀ j, (j < 8 ∨ j = 9 ∨ 1310 ≤ j) → rGoP g l j = g j) ∧ (∀ o j, 0 ≤ o → o < g 3 → o ≠ l → 0 ≤ j → j < 73 → j ≠ 6 → rGoP g l (10 + 265 * o + j) = g (10 + 265 * o + j)) ∧ (∀ j, 8 ≤ j → j < 17 → rGoP g l (10 + 265 * l + j) = 0) ∧ (0 ≤ g 8 ∧ g 8 ≤ 60 → 0 ≤ rGoP g l 8 ∧ rGoP g l 8 ≤ 60) := by
  obtain ⟨h_0, h_1, h_2, h_3, h_4, h_5, h_6, h_7, h_8, h_9, h_10, h_11, h_12, h_13, h_14, h_15, h_16⟩ := id hr
  have hto := rGto_rng (g := g) (l := l) hl h_7.1 h_7.2 (by omega)
  have hwr : 0 ≤ rGw g l ∧ rGw g l < g 3 := by
    unfold rGw
    split <;> omega
  have hrh := rAhead_rng (g := g) (B := 10 + 265 * l) (n := g (10 + 265 * l + 11)) h_7.1
  have e7 := rG1_7 (g := g) (B := 10 + 265 * l)
  have e6 := rG1_6 (g := g) (B := 10 + 265 * l) h_7.1
  have eo : ∀ j, (j < 10 + 265 * l + 6 ∨ (10 + 265 * l + 8 ≤ j ∧ j < 10 + 265 * l + 17) ∨ 10 + 265 * l + 49 ≤ j) → rG2 g (10 + 265 * l) j = g j := fun j h => rG2_out h_7.1 h_7.2 h
  have b6 : rG2 g (10 + 265 * l) (10 + 265 * l + 6) = 0 := zup1_eq rfl
  have b7 : rG2 g (10 + 265 * l) (10 + 265 * l + 7) = 0 := (zup1_ne (by omega)).trans (zup1_eq rfl)
  have hw6 : 0 ≤ rG2 g (10 + 265 * l) (10 + 265 * rGw g l + 6) ∧ rG2 g (10 + 265 * l) (10 + 265 * rGw g l + 6) ≤ 96 := by
    by_cases c : rGw g l = l
    · rw [c, b6]
      decide
    · rw [eo _ (by omega)]
      exact (hI _ hwr.1 hwr.2 c).1.2.2.2.2.2.2.1
  have hk : 0 ≤ rGk g l ∧ rG2 g (10 + 265 * l) (10 + 265 * rGw g l + 6) + rGk g l ≤ 96 := by
    unfold rGk rWent
    split <;> omega
  have hov : ∀ i, 0 ≤ i → i < rGk g l → 1 ≤ rGov (fun _ _ => 0) g (10 + 265 * l) (2 * i + 1) ∧ rGov (fun _ _ => 0) g (10 + 265 * l) (2 * i + 1) ≤ 9 := by
    intro i i0 i1
    have hkl := rGk_le (g := g) (l := l)
    rw [rGov_at h_7.1 h_7.2 i0 (by omega) (by decide) (by decide)]
    unfold rOe
    split
    · exact hL.1 _ (by omega) (by omega)
    · exact hL.2 _ (by omega) (by omega)
  have eg : ∀ j, j ≠ 8 → (j < 1070 ∨ 1310 ≤ j) → (j < 10 + 265 * l ∨ 10 + 265 * l + 73 ≤ j) → (j < 10 + 265 * rGw g l ∨ 10 + 265 * rGw g l + 265 ≤ j) → rGoP g l j = g j := by
    intro j j8 j1 j2 j3
    unfold rGoP rGo
    rw [rLog_out j8 j1, rAnew_out (by omega), rApp_out (by omega) (by omega), eo _ (by omega)]
  have hlR : rLR (rG2 g (10 + 265 * l)) (10 + 265 * l) ∧ rLL (rG2 g (10 + 265 * l)) (10 + 265 * l) := by
    refine ⟨?_, ?_⟩
    · unfold rLR
      rw [b6, b7, eo (10 + 265 * l + 0) (by omega), eo (10 + 265 * l + 1) (by omega), eo (10 + 265 * l + 2) (by omega), eo (10 + 265 * l + 3) (by omega), eo (10 + 265 * l + 4) (by omega), eo (10 + 265 * l + 5) (by omega), eo (10 + 265 * l + 8) (by omega), eo (10 + 265 * l + 9) (by omega), eo (10 + 265 * l + 10) (by omega), eo (10 + 265 * l + 11) (by omega), eo (10 + 265 * l + 12) (by omega), eo (10 + 265 * l + 13) (by omega), eo (10 + 265 * l + 14) (by omega), eo (10 + 265 * l + 15) (by omega), eo (10 + 265 * l + 16) (by omega)]
      exact ⟨h_0, h_1, h_2, h_3, h_4, h_5, by decide, by decide, h_8, h_9, h_10, h_11, h_12, h_13, h_14, h_15, h_16⟩
    · unfold rLL
      rw [b6, b7]
      exact ⟨fun k h0 h1 => by omega, fun k h0 h1 => by omega⟩
  refine ⟨fun o o0 o1 => ?_, fun j hj => eg j (by omega) (by omega) (by omega) (by omega), fun o j o0 o1 ol j0 j1 j6 => ?_, fun j j0 j1 => ?_, fun h8 => ?_⟩
  · by_cases col : o = l
    · subst col
      unfold rGoP rGo
      refine zLI_log (by omega) (by omega) ?_
      by_cases cw : rGw g o = o
      · rw [cw] at hw6 hk ⊢
        have hrl := app_RL hlR.1 hlR.2 hk.1 hk.2 hov
        refine zLI_anew hrl.1 hrl.2 ?_
        rw [rApp_out (by omega) (by omega)]
        exact b7
      · have ee : zLE (rG2 g (10 + 265 * o)) (rApp (rG2 g (10 + 265 * o)) (10 + 265 * rGw g o) (rGov (fun _ _ => 0) g (10 + 265 * o)) (rGk g o)) (10 + 265 * o) := fun j h1 h2 => rApp_out (by omega) (by omega)
        refine zLI_anew (rLR_eq ee hlR.1) (rLL_eq ee hlR.1 hlR.2) ?_
        rw [ee _ (by omega) (by omega)]
        exact b7
    · by_cases cw : o = rGw g l
      · subst cw
        have ee : zLE g (rG2 g (10 + 265 * l)) (10 + 265 * rGw g l) := fun j h1 h2 => eo j (by omega)
        have h2 := zLI_app (zLI_eq ee (hI _ o0 o1 col)) hk.1 hk.2 hov
        unfold rGoP rGo
        refine zLI_log (by omega) (by omega) (zLI_eq (fun j h1 h2 => rAnew_out (by omega)) h2)
      · exact zLI_eq (fun j h1 h2 => eg j (by omega) (by omega) (by omega) (by omega)) (hI o o0 o1 col)
  · unfold rGoP rGo
    rw [rLog_out (by omega) (by omega), rAnew_out (by omega)]
    by_cases cw : o = rGw g l
    · subst cw
      rw [rApp_out (by omega) (by omega), eo _ (by omega)]
    · rw [rApp_out (by omega) (by omega), eo _ (by omega)]
  · unfold rGoP rGo
    rw [rLog_out (by omega) (by omega), rAnew_mid (by omega)]
  · unfold rGoP rGo rLog
    rw [zup1_eq rfl, rAnew_out (by omega), rApp_out (by omega) (by omega), eo _ (by omega)]
    split <;> omega
