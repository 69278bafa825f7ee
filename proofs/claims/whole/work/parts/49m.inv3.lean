/-! ### what is sent -/
theorem rLR_eq0 {g h : Int → Int} {B : Int} (e : ∀ j, 0 ≤ j → j < 17 → h (B + j) = g (B + j)) (hr : rLR g B) : rLR h B := by
  unfold rLR
  rw [e 0 (by decide) (by decide), e 1 (by decide) (by decide), e 2 (by decide) (by decide), e 3 (by decide) (by decide), e 4 (by decide) (by decide), e 5 (by decide) (by decide), e 6 (by decide) (by decide), e 7 (by decide) (by decide), e 8 (by decide) (by decide), e 9 (by decide) (by decide), e 10 (by decide) (by decide), e 11 (by decide) (by decide), e 12 (by decide) (by decide), e 13 (by decide) (by decide), e 14 (by decide) (by decide), e 15 (by decide) (by decide), e 16 (by decide) (by decide)]
  exact hr
theorem kWhat_13 {N : Int} {g : Int → Int} {B : Int} (hI : zIL N g B) (h : kWhat g B = 1 ∨ kWhat g B = 3) : 0 < g (B + 7) ∧ g (B + 0) = 2 := by
  obtain ⟨hr, hL, hH, hA, hN⟩ := hI
  obtain ⟨h_0, h_1, h_2, h_3, h_4, h_5, h_6, h_7, h_8, h_9, h_10, h_11, h_12, h_13, h_14, h_15, h_16⟩ := id hr
  have hf9 := hH.2.1
  unfold kWhat rNext at h
  split at h
  · rename_i hs
    refine ⟨?_, hs⟩
    split at h
    · omega
    · split at h
      · rename_i hq
        split at h
        · omega
        · rename_i hf
          apply Classical.byContradiction
          intro h7
          apply hf
          unfold rFits
          refine decide_eq_true ⟨by omega, ?_⟩
          have ez : zsum (fun k => g (B + (17 + 4 * k + 1))) (g (B + 7)).toNat 0 = 0 := by
            rw [show g (B + 7) = 0 by omega]
            rfl
          have := (hL.2 0 (by omega) hq).2
          omega
      · split at h <;> omega
  · omega
theorem zLK_sent {N : Int} {g : Int → Int} {B k v : Int} (k0 : 0 ≤ k) (k8 : k ≤ 7) (v1 : 1 ≤ v) (v2 : v ≤ N + 1) (h : zLK N g B) : zLK (N + 1) (zup1 g (B + (17 + 4 * k + 3)) v) B := by
  obtain ⟨hr, hL, hA, hN⟩ := h
  obtain ⟨h_0, h_1, h_2, h_3, h_4, h_5, h_6, h_7, h_8, h_9, h_10, h_11, h_12, h_13, h_14, h_15, h_16⟩ := id hr
  refine ⟨rLR_eq0 (fun j _ _ => zup1_ne (by omega)) hr, ?_, ?_, ?_⟩
  · unfold rLL
    rw [zup1_ne (show B + 7 ≠ B + (17 + 4 * k + 3) by omega), zup1_ne (show B + 6 ≠ B + (17 + 4 * k + 3) by omega)]
    refine ⟨fun i h0 h1 => ?_, fun i h0 h1 => ?_⟩
    · rw [zup1_ne (by omega)]
      exact hL.1 i h0 h1
    · rw [zup1_ne (by omega)]
      exact hL.2 i h0 h1
  · intro i h0 h1
    rw [zup1_ne (by omega), zup1_ne (by omega), zup1_ne (by omega), zup1_ne (by omega)]
    exact hA i h0 h1
  · intro i h0 h1
    rw [zup1_ne (by omega)] at h1
    rw [zup1_ne (show B + (17 + 4 * i + 2) ≠ B + (17 + 4 * k + 3) by omega), zup1_ne (show B + 7 ≠ B + (17 + 4 * k + 3) by omega), zup1_ne (show B + 10 ≠ B + (17 + 4 * k + 3) by omega)]
    have := hN i h0 h1
    refine ⟨this.1, ?_⟩
    by_cases c : i = k
    · rw [zup1_eq (by omega)]
      exact ⟨v1, v2⟩
    · rw [zup1_ne (by omega)]
      omega
theorem zLI_hand {N : Int} {g : Int → Int} {B : Int} (hI : zIL N g B) (h7 : 0 < g (B + 7)) (hs : g (B + 0) = 2) (hN9 : N < 2147483646) : zIL (N + 1) (rHand g B) B := by
  obtain ⟨h_0, h_1, h_2, h_3, h_4, h_5, h_6, h_7, h_8, h_9, h_10, h_11, h_12, h_13, h_14, h_15, h_16⟩ := hI.1
  have hh := hI.2.2.1
  have hn := hI.2.2.2.2 (g (B + 8)) h_8.1 (by have := hh.1; omega)
  have hz : zw (g (B + (17 + 4 * g (B + 8) + 3)) + 1) = g (B + (17 + 4 * g (B + 8) + 3)) + 1 := zw_id (by omega) (by omega)
  have hk := zLK_sent (v := zw (g (B + (17 + 4 * g (B + 8) + 3)) + 1)) h_8.1 h_8.2 (by omega) (by omega) (zLI_k hI)
  unfold rHand
  split
  · rename_i c
    refine zLI_mk (zLK_f8 hk (by omega)) ⟨Or.inr ?_, ?_, ?_⟩
    · rw [zup1_eq rfl, zup1_ne (by omega), zup1_ne (by omega)]
      exact c
    · rw [zup1_ne (by omega), zup1_ne (by omega)]
      intro z
      omega
    · rw [zup1_ne (by omega), zup1_ne (by omega)]
      exact fun z => absurd hs z
  · refine zLI_mk (zLK_f9 (zLK_f8 hk (by decide)) (by decide)) ⟨Or.inl ?_, ?_, ?_⟩
    · rw [zup1_ne (by omega), zup1_eq rfl]
    · rw [zup1_eq rfl]
      exact fun _ => rfl
    · rw [zup1_ne (by omega), zup1_ne (by omega), zup1_ne (by omega)]
      exact fun z => absurd hs z
theorem zLI_kF1 {N : Int} {g : Int → Int} {l B : Int} (hB : 10 ≤ B) (hB2 : B + 265 ≤ 1070) (hI : zIL N g B) : zIL N (kF1 g l B) B := by
  have h13 : kWhat g B = 3 → _ := fun h => kWhat_13 hI (Or.inr h)
  obtain ⟨h_0, h_1, h_2, h_3, h_4, h_5, h_6, h_7, h_8, h_9, h_10, h_11, h_12, h_13, h_14, h_15, h_16⟩ := hI.1
  have hH := hI.2.2.1
  have e : ∀ j, 0 ≤ j → j < 265 → j ≠ 8 → j ≠ 9 → kF1 g l B (B + j) = g (B + j) := fun j _ _ _ _ => kF1_out (by omega) (by omega) (by omega) (by omega)
  have e8 := kF1_8 (g := g) (l := l) hB hB2
  have e9 := kF1_9 (g := g) (l := l) hB hB2
  refine zLI_mk (zLK_eq (fun j h0 h1 h2 h3 _ _ => e j h0 h1 h2 h3) (zLI_k hI) ?_ ?_ ?_ ?_ ?_ ?_ ?_) ?_
  · rw [e8]; split <;> omega
  · rw [e9]; split <;> omega
  · rw [e 12 (by omega) (by omega) (by omega) (by omega)]; exact h_12
  · rw [e 13 (by omega) (by omega) (by omega) (by omega)]; exact h_13
  · rw [e 14 (by omega) (by omega) (by omega) (by omega)]; exact h_14
  · rw [e 15 (by omega) (by omega) (by omega) (by omega)]; exact h_15
  · rw [e 16 (by omega) (by omega) (by omega) (by omega)]; exact h_16
  · unfold zLH
    rw [e8, e9, e 7 (by omega) (by omega) (by omega) (by omega), e 0 (by omega) (by omega) (by omega) (by omega)]
    by_cases c : kWhat g B = 3
    · rw [if_pos c, if_pos c]
      have := h13 c
      exact ⟨Or.inl rfl, fun z => by omega, hH.2.2⟩
    · rw [if_neg c, if_neg c]
      exact hH
theorem rNew_q {g : Int → Int} {B k c : Int} (hr : rLR g B) (h : kWhat g B = 2) (k0 : 0 ≤ k) (k1 : k < g (B + 6) - 1) (c0 : 0 ≤ c) (c2 : c < 2) : rNew g B (B + (73 + 2 * k + c)) = g (B + (73 + 2 * (k + 1) + c)) := by
  obtain ⟨h_0, h_1, h_2, h_3, h_4, h_5, h_6, h_7, h_8, h_9, h_10, h_11, h_12, h_13, h_14, h_15, h_16⟩ := id hr
  have e6 : rNewA g B (B + 6) = g (B + 6) - 1 := zup1_eq rfl
  obtain ⟨n0, _, k8, _, _, _⟩ := kWhat_2 hr h
  unfold rNew rNewT
  rw [zup1_ne (by omega), e6, msh_in (by omega) (by omega)]
  unfold rNewA
  rw [zup1_ne (by omega), zup1_ne (by omega), zup1_ne (by omega), zup1_ne (by omega), zup1_ne (by omega), zup1_ne (by omega)]
  exact congrArg g (by omega)
theorem rNew_b {g : Int → Int} {B j : Int} (hr : rLR g B) (h : kWhat g B = 2) (h0 : B + 17 ≤ j) (h1 : j < B + 17 + 4 * g (B + 7)) : rNew g B j = g j := by
  obtain ⟨h_0, h_1, h_2, h_3, h_4, h_5, h_6, h_7, h_8, h_9, h_10, h_11, h_12, h_13, h_14, h_15, h_16⟩ := id hr
  have e6 : rNewA g B (B + 6) = g (B + 6) - 1 := zup1_eq rfl
  obtain ⟨n0, _, k8, _, _, _⟩ := kWhat_2 hr h
  unfold rNew rNewT
  rw [zup1_ne (by omega), e6, msh_out (by omega)]
  unfold rNewA
  rw [zup1_ne (by omega), zup1_ne (by omega), zup1_ne (by omega), zup1_ne (by omega), zup1_ne (by omega), zup1_ne (by omega)]
theorem zLI_new {N : Int} {g : Int → Int} {B : Int} (hI : zIL N g B) (h : kWhat g B = 2) (N0 : 0 ≤ N) : zIL (N + 1) (rNew g B) B := by
  obtain ⟨hr, hL, hH, hA, hN⟩ := id hI
  obtain ⟨h_0, h_1, h_2, h_3, h_4, h_5, h_6, h_7, h_8, h_9, h_10, h_11, h_12, h_13, h_14, h_15, h_16⟩ := id hr
  obtain ⟨n0, k3, k8, hs, f9, _⟩ := kWhat_2 hr h
  have e6 := rNew_6 (g := g) (B := B) h_7.1 n0
  have e7 := rNew_7 (g := g) (B := B) h_7.1 n0
  have e10 := rNew_10 (g := g) (B := B) h_7.1
  rw [zmod16 (by omega)] at e10
  have e : ∀ j, 0 ≤ j → j < 265 → (j < 6 ∨ j = 8 ∨ j = 9 ∨ (11 ≤ j ∧ j < 17) ∨ (49 ≤ j ∧ j < 73)) → rNew g B (B + j) = g (B + j) := fun j _ _ _ => rNew_out n0 h_6.2 h_7.1 k8 (by omega)
  refine ⟨rLR_new hr h, ?_, ?_, ?_, ?_⟩
  · unfold rLL
    rw [e7, e6]
    refine ⟨fun k h0 h1 => ?_, fun k h0 h1 => ?_⟩
    · by_cases c : k < g (B + 7)
      · rw [rNew_b hr h (by omega) (by omega)]
        exact hL.1 k h0 c
      · obtain rfl : k = g (B + 7) := by omega
        rw [rNew_row hr h (by decide), if_neg (by decide), if_pos rfl]
        exact hL.2 0 (by omega) n0
    · rw [rNew_q hr h h0 h1 (by decide) (by decide)]
      exact hL.2 (k + 1) (by omega) (by omega)
  · unfold zLH
    rw [e 8 (by omega) (by omega) (by omega), e 9 (by omega) (by omega) (by omega), e 0 (by omega) (by omega) (by omega), e7]
    have := hH.1
    exact ⟨by omega, fun z => by omega, fun z => absurd hs z⟩
  · intro k h0 h1
    rw [e _ (by omega) (by omega) (by omega), e _ (by omega) (by omega) (by omega), e _ (by omega) (by omega) (by omega), e 0 (by omega) (by omega) (by omega)]
    exact hA k h0 h1
  · intro k h0 h1
    rw [e7] at h1
    rw [e7, e10]
    by_cases c : k < g (B + 7)
    · rw [rNew_b hr h (by omega) (by omega), rNew_b hr h (by omega) (by omega)]
      have := hN k h0 c
      omega
    · obtain rfl : k = g (B + 7) := by omega
      rw [rNew_row hr h (by decide), rNew_row hr h (by decide), if_neg (by decide), if_neg (by decide), if_pos rfl, if_neg (by decide), if_neg (by decide), if_neg (by decide)]
      omega
theorem zLI_kF2 {N : Int} {g : Int → Int} {l B : Int} (hB : 10 ≤ B) (hB2 : B + 265 ≤ 1070) (hI : zIL N g B) (N0 : 0 ≤ N) (hN9 : N < 2147483646) : zIL (N + 1) (kF2 g l B) B := by
  unfold kF2
  split
  · exact zLI_new hI ‹_› N0
  · split
    · have h13 := kWhat_13 hI (by have := kWhat_4 (g := g) (B := B); omega)
      have e7 : kF1 g l B (B + 7) = g (B + 7) := kF1_out (by omega) (by omega) (by omega) (by omega)
      have e0 : kF1 g l B (B + 0) = g (B + 0) := kF1_out (by omega) (by omega) (by omega) (by omega)
      exact zLI_hand (zLI_kF1 hB hB2 hI) (by omega) (by omega) hN9
    · exact zLI_mono (by omega) hI
theorem kF3_out {g : Int → Int} {l B dr j : Int} (h : j ≠ 9) : kF3 g l B dr j = kF2 g l B j := by
  unfold kF3
  split
  · rfl
  · exact zup1_ne h
theorem zLI_send {A : (Int → Int) → Int × Int} {N : Int} {g : Int → Int} {l B dr : Int} (hB : 10 ≤ B) (hB2 : B + 265 ≤ 1070) (hI : zIL N g B) (N0 : 0 ≤ N) (hN9 : N < 2147483646) : zIL (N + 1) (kSend A g l B dr) B := by
  have hln := kLen_rng (l := l) hI.1 hI.2.1 hI.2.2.1.1 hI.2.2.1.2.1 hB hB2
  have h3 : zIL (N + 1) (kF3 g l B dr) B := zLI_eq (fun j h1 h2 => kF3_out (by omega)) (zLI_kF2 hB hB2 hI N0 hN9)
  have hb : 0 ≤ kBad A g l B dr ∧ kBad A g l B dr ≤ 1 := by
    unfold kBad
    split <;> split <;> omega
  have hst : kWhat g B ≠ 0 → kF3 g l B dr (B + 0) = 2 := by
    intro c
    rw [kF3_out (by omega)]
    have h4 := kWhat_4 (g := g) (B := B)
    unfold kF2
    split
    · obtain ⟨n0, _, k8, hs, _, _⟩ := kWhat_2 hI.1 ‹_›
      rw [rNew_out n0 hI.1.2.2.2.2.2.2.1.2 hI.1.2.2.2.2.2.2.2.1.1 k8 (by omega)]
      exact hs
    · have h13 := kWhat_13 hI (by omega)
      have k8 := (rLR_kF1 (l := l) hB hB2 hI.1).2.2.2.2.2.2.2.2.1
      rw [if_pos (by omega), rHand_out k8.1 k8.2 (by omega) (by omega) (by omega), kF1_out (by omega) (by omega) (by omega) (by omega)]
      exact h13.2
  unfold kLen at hln
  unfold kSend
  have hsr : ∃ s : Int → Int, s = (if kWhat g B = 0 then rSrow 1 0 0 (kBad A g l B dr) 0 else rSrow 2 (kRow g l B 0) (kRow g l B 2) (kBad A g l B dr) (kRow g l B 1)) := ⟨_, rfl⟩
  obtain ⟨s, hse⟩ := hsr
  rw [← hse]
  have s0 : s 0 = 1 ∨ (s 0 = 2 ∧ 1 ≤ s 4 ∧ s 4 ≤ 9 ∧ kF3 g l B dr (B + 0) = 2) := by
    rw [hse]
    by_cases c : kWhat g B = 0
    · rw [if_pos c]
      exact Or.inl rfl
    · rw [if_neg c]
      rw [if_neg c] at hln
      exact Or.inr ⟨rfl, hln.2.1 c, hln.2.2.2, hst c⟩
  have s3 : 0 ≤ s 3 ∧ s 3 ≤ 1 := by
    rw [hse]
    split <;> exact hb
  obtain ⟨hr, hL, hH, hA, hN⟩ := id h3
  obtain ⟨h_0, h_1, h_2, h_3, h_4, h_5, h_6, h_7, h_8, h_9, h_10, h_11, h_12, h_13, h_14, h_15, h_16⟩ := id hr
  generalize kF3 g l B dr = h at *
  have e : ∀ j, (j < 49 ∨ 69 ≤ j) → mput h (B + (49 + 5 * h (B + 2) - 5)) 5 s (B + j) = h (B + j) := fun j _ => mput_out (by omega)
  refine ⟨rLR_eq0 (fun j _ _ => e j (by omega)) hr, ?_, ?_, ?_, ?_⟩
  · unfold rLL
    rw [e 7 (by omega), e 6 (by omega)]
    refine ⟨fun k h0 h1 => ?_, fun k h0 h1 => ?_⟩
    · rw [e _ (by omega)]
      exact hL.1 k h0 h1
    · rw [e _ (by omega)]
      exact hL.2 k h0 h1
  · unfold zLH
    rw [e 8 (by omega), e 7 (by omega), e 9 (by omega), e 0 (by omega)]
    exact hH
  · intro k h0 h1
    rw [e 0 (by omega)]
    by_cases c : k = h (B + 2) - 1
    · rw [mput_in (by omega) (by omega), mput_in (by omega) (by omega), mput_in (by omega) (by omega), show B + (49 + 5 * k + 0) - (B + (49 + 5 * h (B + 2) - 5)) = 0 by omega, show B + (49 + 5 * k + 3) - (B + (49 + 5 * h (B + 2) - 5)) = 3 by omega, show B + (49 + 5 * k + 4) - (B + (49 + 5 * h (B + 2) - 5)) = 4 by omega]
      omega
    · rw [mput_out (by omega), mput_out (by omega), mput_out (by omega)]
      exact hA k h0 h1
  · intro k h0 h1
    rw [e 7 (by omega)] at h1
    rw [e (17 + 4 * k + 2) (by omega), e (17 + 4 * k + 3) (by omega), e 7 (by omega), e 10 (by omega)]
    exact hN k h0 h1
