/-! ## what holds of a line's row, where only a few fields change -/
def zLK (N : Int) (g : Int → Int) (B : Int) : Prop := rLR g B ∧ rLL g B ∧ zLA g B ∧ zLN N g B
theorem zLI_mk {N : Int} {g : Int → Int} {B : Int} (h : zLK N g B) (hh : zLH g B) : zIL N g B := ⟨h.1, h.2.1, hh, h.2.2.1, h.2.2.2⟩
theorem zLI_k {N : Int} {g : Int → Int} {B : Int} (h : zIL N g B) : zLK N g B := ⟨h.1, h.2.1, h.2.2.2.1, h.2.2.2.2⟩
theorem zLK_eq {N : Int} {g h : Int → Int} {B : Int} (e : ∀ j, 0 ≤ j → j < 265 → j ≠ 8 → j ≠ 9 → (j < 12 ∨ 17 ≤ j) → (j < 69 ∨ 73 ≤ j) → h (B + j) = g (B + j)) (hI : zLK N g B) (h8 : 0 ≤ h (B + 8) ∧ h (B + 8) ≤ 7) (h9 : 0 ≤ h (B + 9) ∧ h (B + 9) ≤ 1) (h12 : 0 ≤ h (B + 12) ∧ h (B + 12) ≤ 99) (h13 : 0 ≤ h (B + 13) ∧ h (B + 13) ≤ 7) (h14 : 0 ≤ h (B + 14) ∧ h (B + 14) ≤ 7) (h15 : 0 ≤ h (B + 15) ∧ h (B + 15) ≤ 7) (h16 : 0 ≤ h (B + 16) ∧ h (B + 16) ≤ 2) : zLK N h B := by
  obtain ⟨hr, hL, hA, hN⟩ := hI
  obtain ⟨h_0, h_1, h_2, h_3, h_4, h_5, h_6, h_7, h_8, h_9, h_10, h_11, h_12, h_13, h_14, h_15, h_16⟩ := id hr
  refine ⟨?_, ?_, ?_, ?_⟩
  · unfold rLR
    rw [e 0 (by omega) (by omega) (by omega) (by omega) (by omega) (by omega), e 1 (by omega) (by omega) (by omega) (by omega) (by omega) (by omega), e 2 (by omega) (by omega) (by omega) (by omega) (by omega) (by omega), e 3 (by omega) (by omega) (by omega) (by omega) (by omega) (by omega), e 4 (by omega) (by omega) (by omega) (by omega) (by omega) (by omega), e 5 (by omega) (by omega) (by omega) (by omega) (by omega) (by omega), e 6 (by omega) (by omega) (by omega) (by omega) (by omega) (by omega), e 7 (by omega) (by omega) (by omega) (by omega) (by omega) (by omega), e 10 (by omega) (by omega) (by omega) (by omega) (by omega) (by omega), e 11 (by omega) (by omega) (by omega) (by omega) (by omega) (by omega)]
    exact ⟨h_0, h_1, h_2, h_3, h_4, h_5, h_6, h_7, h8, h9, h_10, h_11, h12, h13, h14, h15, h16⟩
  · unfold rLL
    rw [e 7 (by omega) (by omega) (by omega) (by omega) (by omega) (by omega), e 6 (by omega) (by omega) (by omega) (by omega) (by omega) (by omega)]
    refine ⟨fun k h0 h1 => ?_, fun k h0 h1 => ?_⟩
    · rw [e _ (by omega) (by omega) (by omega) (by omega) (by omega) (by omega)]
      exact hL.1 k h0 h1
    · rw [e _ (by omega) (by omega) (by omega) (by omega) (by omega) (by omega)]
      exact hL.2 k h0 h1
  · intro k h0 h1
    rw [e _ (by omega) (by omega) (by omega) (by omega) (by omega) (by omega), e _ (by omega) (by omega) (by omega) (by omega) (by omega) (by omega), e _ (by omega) (by omega) (by omega) (by omega) (by omega) (by omega), e 0 (by omega) (by omega) (by omega) (by omega) (by omega) (by omega)]
    exact hA k h0 h1
  · intro k h0 h1
    rw [e 7 (by omega) (by omega) (by omega) (by omega) (by omega) (by omega)] at h1
    rw [e (17 + 4 * k + 2) (by omega) (by omega) (by omega) (by omega) (by omega) (by omega), e (17 + 4 * k + 3) (by omega) (by omega) (by omega) (by omega) (by omega) (by omega), e 7 (by omega) (by omega) (by omega) (by omega) (by omega) (by omega), e 10 (by omega) (by omega) (by omega) (by omega) (by omega) (by omega)]
    exact hN k h0 h1
/-! ### what comes back -/
theorem rRep1_out {g : Int → Int} {B j : Int} (p1 : 1 ≤ g (B + 2)) (p4 : g (B + 2) ≤ 4) (h : j < B + 69 ∨ B + 73 ≤ j) : rRep1 g B j = g j := by
  unfold rRep1
  rw [zup1_ne (by omega), msh_out (by omega)]
theorem rRep1_at {g : Int → Int} {B k : Int} (p1 : 1 ≤ g (B + 2)) (p4 : g (B + 2) ≤ 4) (k0 : 0 ≤ k) (k4 : k < 4) : rRep1 g B (B + (69 + k)) = if k < g (B + 2) - 1 then g (B + (69 + (k + 1))) else if k = g (B + 2) - 1 then g (B + 11) else g (B + (69 + k)) := by
  unfold rRep1
  by_cases h : k < g (B + 2) - 1
  · rw [if_pos h, zup1_ne (by omega), msh_in (by omega) (by omega)]
    exact congrArg g (by omega)
  · rw [if_neg h]
    by_cases h2 : k = g (B + 2) - 1
    · rw [if_pos h2, zup1_eq (by omega)]
    · rw [if_neg h2, zup1_ne (by omega), msh_out (by omega)]
theorem zLI_rep1 {N : Int} {g : Int → Int} {B : Int} (hI : zIL N g B) : zIL N (rRep1 g B) B := by
  obtain ⟨hr, hL, hH, hA, hN⟩ := id hI
  obtain ⟨h_0, h_1, h_2, h_3, h_4, h_5, h_6, h_7, h_8, h_9, h_10, h_11, h_12, h_13, h_14, h_15, h_16⟩ := id hr
  have e : ∀ j, (j < 69 ∨ 73 ≤ j) → rRep1 g B (B + j) = g (B + j) := fun j _ => rRep1_out h_2.1 h_2.2 (by omega)
  refine zLI_mk (zLK_eq (fun j _ _ _ _ _ h => e j h) (zLI_k hI) ?_ ?_ ?_ ?_ ?_ ?_ ?_) ?_
  · rw [e 8 (by omega)]; exact h_8
  · rw [e 9 (by omega)]; exact h_9
  · rw [e 12 (by omega)]; exact h_12
  · rw [e 13 (by omega)]; exact h_13
  · rw [e 14 (by omega)]; exact h_14
  · rw [e 15 (by omega)]; exact h_15
  · rw [e 16 (by omega)]; exact h_16
  · unfold zLH
    rw [e 8 (by omega), e 7 (by omega), e 9 (by omega), e 0 (by omega)]
    exact hH
theorem zLK_f8 {N : Int} {g : Int → Int} {B v : Int} (h : zLK N g B) (hv : 0 ≤ v ∧ v ≤ 7) : zLK N (zup1 g (B + 8) v) B := by
  obtain ⟨h_0, h_1, h_2, h_3, h_4, h_5, h_6, h_7, h_8, h_9, h_10, h_11, h_12, h_13, h_14, h_15, h_16⟩ := h.1
  refine zLK_eq (fun j _ _ _ _ _ _ => zup1_ne (by omega)) h ?_ ?_ ?_ ?_ ?_ ?_ ?_
  · rw [zup1_eq rfl]; exact hv
  · rw [zup1_ne (by omega)]; exact h_9
  · rw [zup1_ne (by omega)]; exact h_12
  · rw [zup1_ne (by omega)]; exact h_13
  · rw [zup1_ne (by omega)]; exact h_14
  · rw [zup1_ne (by omega)]; exact h_15
  · rw [zup1_ne (by omega)]; exact h_16
theorem zLK_f9 {N : Int} {g : Int → Int} {B v : Int} (h : zLK N g B) (hv : 0 ≤ v ∧ v ≤ 1) : zLK N (zup1 g (B + 9) v) B := by
  obtain ⟨h_0, h_1, h_2, h_3, h_4, h_5, h_6, h_7, h_8, h_9, h_10, h_11, h_12, h_13, h_14, h_15, h_16⟩ := h.1
  refine zLK_eq (fun j _ _ _ _ _ _ => zup1_ne (by omega)) h ?_ ?_ ?_ ?_ ?_ ?_ ?_
  · rw [zup1_ne (by omega)]; exact h_8
  · rw [zup1_eq rfl]; exact hv
  · rw [zup1_ne (by omega)]; exact h_12
  · rw [zup1_ne (by omega)]; exact h_13
  · rw [zup1_ne (by omega)]; exact h_14
  · rw [zup1_ne (by omega)]; exact h_15
  · rw [zup1_ne (by omega)]; exact h_16
theorem zLI_rep2 {N : Int} {g : Int → Int} {B x : Int} (hI : zIL N g B) (hs : g (B + 0) = 2) : zLK N (rRep2 g B x) B ∧ rRep2 g B x (B + 0) = 2 := by
  unfold rRep2
  obtain ⟨h_0, h_1, h_2, h_3, h_4, h_5, h_6, h_7, h_8, h_9, h_10, h_11, h_12, h_13, h_14, h_15, h_16⟩ := hI.1
  split
  · exact ⟨zLI_k hI, hs⟩
  · have ha := rAhead_rng (g := g) (B := B) (n := x) h_7.1
    obtain ⟨a, b, c, d⟩ := zLI_leaves ha.1 ha.2 hI hs
    refine ⟨zLK_f8 ⟨a, b, c, d⟩ (by split <;> omega), ?_⟩
    rw [zup1_ne (by omega), rLeaves_out (by omega) (by omega)]
    exact hs
theorem zLI_rep3 {N : Int} {g : Int → Int} {B : Int} (hI : zLK N g B) (hs : g (B + 0) = 2) : zIL N (rRep3 g B) B := by
  have h3 : zLK N (if g (B + 7) = 0 then zup1 g (B + 9) 0 else g) B := by
    split
    · exact zLK_f9 hI (by decide)
    · exact hI
  have e : ∀ j, j ≠ B + 9 → (if g (B + 7) = 0 then zup1 g (B + 9) 0 else g) j = g j := by
    intro j hj
    split
    · exact zup1_ne hj
    · rfl
  have e9 : g (B + 7) = 0 → (if g (B + 7) = 0 then zup1 g (B + 9) 0 else g) (B + 9) = 0 := by
    intro h
    rw [if_pos h, zup1_eq rfl]
  unfold rRep3
  generalize (if g (B + 7) = 0 then zup1 g (B + 9) 0 else g) = h at h3 e e9 ⊢
  unfold rWraps
  split
  · rename_i hw
    refine zLI_mk h3 ⟨Or.inr hw, fun z => e9 (by rw [e (B + 7) (by omega)] at z; exact z), fun z => absurd ((e (B + 0) (by omega)).trans hs) z⟩
  · refine zLI_mk (zLK_f8 h3 (by decide)) ⟨Or.inl (zup1_eq rfl), ?_, ?_⟩
    · rw [zup1_ne (by omega), zup1_ne (by omega)]
      exact fun z => e9 (by rw [e (B + 7) (by omega)] at z; exact z)
    · rw [zup1_ne (by omega)]
      exact fun z => absurd ((e (B + 0) (by omega)).trans hs) z
theorem zLI_has {N : Int} {g : Int → Int} {B : Int} (hI : zIL N g B) (hs : g (B + 0) = 2) : zIL N (rHas g B) B := by
  have p := hI.1.2.2.1
  have h2 := zLI_rep2 (x := g (B + 69)) (zLI_rep1 hI) ((rRep1_out p.1 p.2 (by omega)).trans hs)
  exact zLI_rep3 h2.1 h2.2
theorem rHas_out {N : Int} {g : Int → Int} {B j : Int} (hI : zIL N g B) (h : j < B + 7 ∨ (B + 10 ≤ j ∧ j < B + 17) ∨ (B + 49 ≤ j ∧ j < B + 69) ∨ B + 73 ≤ j) : rHas g B j = g j := by
  obtain ⟨h_0, h_1, h_2, h_3, h_4, h_5, h_6, h_7, h_8, h_9, h_10, h_11, h_12, h_13, h_14, h_15, h_16⟩ := hI.1
  have e1 : ∀ i, (i < B + 69 ∨ B + 73 ≤ i) → rRep1 g B i = g i := fun i hi => rRep1_out h_2.1 h_2.2 hi
  have e7 : rRep1 g B (B + 7) = g (B + 7) := e1 _ (by omega)
  have e2 : rRep2 (rRep1 g B) B (g (B + 69)) j = g j := by
    unfold rRep2
    split
    · exact e1 j (by omega)
    · have ha := rAhead_rng (g := rRep1 g B) (B := B) (n := g (B + 69)) (by omega)
      rw [zup1_ne (by omega), rLeaves_out (by omega) (by omega)]
      exact e1 j (by omega)
  have e3 : (if rRep2 (rRep1 g B) B (g (B + 69)) (B + 7) = 0 then zup1 (rRep2 (rRep1 g B) B (g (B + 69))) (B + 9) 0 else rRep2 (rRep1 g B) B (g (B + 69))) j = g j := by
    split
    · rw [zup1_ne (by omega)]; exact e2
    · exact e2
  unfold rHas rRep3
  generalize (if rRep2 (rRep1 g B) B (g (B + 69)) (B + 7) = 0 then zup1 (rRep2 (rRep1 g B) B (g (B + 69))) (B + 9) 0 else rRep2 (rRep1 g B) B (g (B + 69))) = h at e3 ⊢
  unfold rWraps
  split
  · exact e3
  · rw [zup1_ne (by omega)]
    exact e3
