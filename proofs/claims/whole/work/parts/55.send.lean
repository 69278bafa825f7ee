/-! ## the class: pieces of sending -/
def gAdd (g : Int → Int) (B s len num : Int) : Int → Int := zup1 (zup1 (zup1 (zup1 (zup1 g (B + (17 + 4 * g (B + 7) + 0)) s) (B + (17 + 4 * g (B + 7) + 1)) len) (B + (17 + 4 * g (B + 7) + 2)) num) (B + (17 + 4 * g (B + 7) + 3)) 0) (B + 7) (g (B + 7) + 1)
theorem zLC_add {n : Int} {f : Int → Int → Int} {b : Int} {g : Int → Int} {B s len num : Int} (k0 : 0 ≤ g (B + 7)) (k8 : g (B + 7) < 8) (h : zLC n f b g B) : zLC n (zup (zup (zup (zup (zup f (b + 7) (g (B + 7)) s) (b + 8) (g (B + 7)) len) (b + 9) (g (B + 7)) num) (b + 10) (g (B + 7)) 0) (b + 6) 4 (g (B + 7) + 1)) b (gAdd g B s len num) B := by
  obtain ⟨h1, h2, h3, h4, h5, h6, h7⟩ := h
  have e : ∀ j, (j < 17 ∨ 49 ≤ j) → j ≠ 7 → gAdd g B s len num (B + j) = g (B + j) := fun j _ _ => by
    unfold gAdd
    rw [zup1_ne (by omega), zup1_ne (by omega), zup1_ne (by omega), zup1_ne (by omega), zup1_ne (by omega)]
  have e7 : gAdd g B s len num (B + 7) = g (B + 7) + 1 := zup1_eq rfl
  refine ⟨fun c c0 c1 => ?_, ?_, ?_, fun k c k0 k1 c0 c1 => ?_, fun k c k0 k1 c0 c1 => ?_, fun k k0 k1 => ?_, fun k k0 k1 => ?_⟩
  · rw [e _ (by unfold zfm; split <;> omega) (by unfold zfm; split <;> omega), ← h1 c c0 c1]
    simp (disch := omega) only [zup_na]
  · rw [e _ (by omega) (by omega), ← h2]
    simp (disch := omega) only [zup_na]
  · rw [e7, zupE rfl rfl]
  · rw [e7] at k1
    by_cases ck : k = g (B + 7)
    · subst ck
      unfold gAdd
      rcases (by omega : c = 0 ∨ c = 1 ∨ c = 2 ∨ c = 3) with rfl | rfl | rfl | rfl
      · simp (disch := omega) only [Int.reduceAdd, zup_na, zup_nk, zupE, zup1_ne, zup1_eq]
      · simp (disch := omega) only [Int.reduceAdd, zup_na, zup_nk, zupE, zup1_ne, zup1_eq]
      · simp (disch := omega) only [Int.reduceAdd, zup_na, zup_nk, zupE, zup1_ne, zup1_eq]
      · simp (disch := omega) only [Int.reduceAdd, zup_na, zup_nk, zupE, zup1_ne, zup1_eq]
    · have eg : gAdd g B s len num (B + (17 + 4 * k + c)) = g (B + (17 + 4 * k + c)) := by
        unfold gAdd
        rw [zup1_ne (by omega), zup1_ne (by omega), zup1_ne (by omega), zup1_ne (by omega), zup1_ne (by omega)]
      rw [eg, ← h4 k c k0 (by omega) c0 c1]
      simp (disch := omega) only [zup_nk, zup_na]
  · rw [e 6 (by omega) (by omega)] at k1
    rw [e _ (by omega) (by omega), ← h5 k c k0 k1 c0 c1]
    simp (disch := omega) only [zup_na]
  · rw [e _ (by omega) (by omega), e _ (by omega) (by omega), e _ (by omega) (by omega), e _ (by omega) (by omega), e _ (by omega) (by omega)]
    simp (disch := omega) only [zup_na]
    exact h6 k k0 k1
  · rw [e 2 (by omega) (by omega)] at k1
    rw [e _ (by omega) (by omega), ← h7 k k0 k1]
    simp (disch := omega) only [zup_na]
def gQ (g : Int → Int) (B : Int) : Int → Int := zup1 (msh g (B + 73) (2 * (g (B + 6) - 1)) 2) (B + 6) (g (B + 6) - 1)
theorem zLC_q {n : Int} {f : Int → Int → Int} {b : Int} {g : Int → Int} {B : Int} (n4 : n ≤ 4) (hr : rLR g B) (q0 : 0 < g (B + 6)) (h : zLC n f b g B) : zLC n (zup (zcpy (zcpy f (b + 2) 1 (b + 2) 0 95) (b + 3) 1 (b + 3) 0 95) (b + 1) 4 (g (B + 6) - 1)) b (gQ g B) B := by
  obtain ⟨h_0, h_1, h_2, h_3, h_4, h_5, h_6, h_7, h_8, h_9, h_10, h_11, h_12, h_13, h_14, h_15, h_16⟩ := id hr
  obtain ⟨h1, h2, h3, h4, h5, h6, h7⟩ := h
  have e : ∀ j, j < 73 → j ≠ 6 → gQ g B (B + j) = g (B + j) := fun j _ _ => by
    unfold gQ
    rw [zup1_ne (by omega), msh_out (by omega)]
  have e6 : gQ g B (B + 6) = g (B + 6) - 1 := zup1_eq rfl
  refine ⟨fun c c0 c1 => ?_, ?_, ?_, fun k c k0 k1 c0 c1 => ?_, fun k c k0 k1 c0 c1 => ?_, fun k k0 k1 => ?_, fun k k0 k1 => ?_⟩
  · rw [e _ (by unfold zfm; split <;> omega) (by unfold zfm; split <;> omega), ← h1 c c0 c1]
    simp (disch := omega) only [zup_na, zcpy_na]
  · rw [e6, zupE rfl rfl]
  · rw [e _ (by omega) (by omega), ← h3]
    simp (disch := omega) only [zup_na, zcpy_na]
  · rw [e 7 (by omega) (by omega)] at k1
    rw [e _ (by omega) (by omega), ← h4 k c k0 k1 c0 c1]
    simp (disch := omega) only [zup_na, zcpy_na]
  · rw [e6] at k1
    have eg : gQ g B (B + (73 + 2 * k + c)) = g (B + (73 + 2 * (k + 1) + c)) := by
      unfold gQ
      rw [zup1_ne (by omega), msh_in (by omega) (by omega)]
      exact congrArg g (by omega)
    rw [eg, ← h5 (k + 1) c (by omega) (by omega) c0 c1]
    rcases (by omega : c = 0 ∨ c = 1) with rfl | rfl
    · simp (disch := omega) only [Int.reduceAdd, zup_na, zcpy_na, zcpy_in]
      exact congrArg (f (b + 2)) (by omega)
    · simp (disch := omega) only [Int.reduceAdd, zup_na, zcpy_na, zcpy_in]
      exact congrArg (f (b + 3)) (by omega)
  · rw [e _ (by omega) (by omega), e _ (by omega) (by omega), e _ (by omega) (by omega), e _ (by omega) (by omega), e _ (by omega) (by omega)]
    simp (disch := omega) only [zup_na, zcpy_na]
    exact h6 k k0 k1
  · rw [e 2 (by omega) (by omega)] at k1
    rw [e _ (by omega) (by omega), ← h7 k k0 k1]
    simp (disch := omega) only [zup_na, zcpy_na]
theorem zLC_sent {n : Int} {f : Int → Int → Int} {b : Int} {g : Int → Int} {B m v : Int} (m0 : 0 ≤ m) (m8 : m < 8) (h : zLC n f b g B) : zLC n (zup f (b + 10) m v) b (zup1 g (B + (17 + 4 * m + 3)) v) B := by
  obtain ⟨h1, h2, h3, h4, h5, h6, h7⟩ := h
  have e : ∀ j, (j < 17 ∨ 49 ≤ j) → zup1 g (B + (17 + 4 * m + 3)) v (B + j) = g (B + j) := fun j _ => zup1_ne (by omega)
  refine ⟨fun c c0 c1 => ?_, ?_, ?_, fun k c k0 k1 c0 c1 => ?_, fun k c k0 k1 c0 c1 => ?_, fun k k0 k1 => ?_, fun k k0 k1 => ?_⟩
  · rw [e _ (by unfold zfm; split <;> omega), ← h1 c c0 c1]
    exact zup_na (by omega)
  · rw [e _ (by omega), ← h2]
    exact zup_na (by omega)
  · rw [e _ (by omega), ← h3]
    exact zup_na (by omega)
  · rw [e 7 (by omega)] at k1
    by_cases c3 : c = 3 ∧ k = m
    · obtain ⟨rfl, rfl⟩ := c3
      rw [zup1_eq rfl, zupE (by omega) rfl]
    · rw [zup1_ne (by omega), ← h4 k c k0 k1 c0 c1]
      by_cases c4 : c = 3
      · exact zup_nk (by omega)
      · exact zup_na (by omega)
  · rw [e 6 (by omega)] at k1
    rw [e _ (by omega), ← h5 k c k0 k1 c0 c1]
    exact zup_na (by omega)
  · rw [e _ (by omega), e _ (by omega), e _ (by omega), e _ (by omega), e _ (by omega)]
    simp (disch := omega) only [zup_na]
    exact h6 k k0 k1
  · rw [e 2 (by omega)] at k1
    rw [e _ (by omega), ← h7 k k0 k1]
    exact zup_na (by omega)
/-! ### what all share: the journal, the facts -/
def zJC (f : Int → Int → Int) (W : Int) (g : Int → Int) : Prop := f (W + 20) 2 = g 8 ∧ 0 ≤ f (W + 20) 1 ∧ f (W + 20) 1 < 60 ∧ ∀ ago c, 0 ≤ ago → ago < g 8 → 0 ≤ c → c < 4 → f (W + 21) ((f (W + 20) 1 + 59 - ago) % 60 * 4 + c) = g (1070 + 4 * ago + c)
def zGC (f : Int → Int → Int) (W : Int) (g : Int → Int) : Prop := f W 4 = g 3 ∧ f W 5 = g 0 ∧ f W 6 = g 4 ∧ f W 7 = g 5 ∧ f W 8 = g 6 ∧ f W 9 = g 7 ∧ f W 10 = g 9 ∧ zJC f W g
theorem zJC_fr {f f2 : Int → Int → Int} {W : Int} {g g2 : Int → Int} (h20 : ∀ k, f2 (W + 20) k = f (W + 20) k) (h21 : ∀ k, f2 (W + 21) k = f (W + 21) k) (h8 : g2 8 = g 8) (hg : ∀ j, 1070 ≤ j → j < 1310 → g2 j = g j) (g60 : g 8 ≤ 60) (h : zJC f W g) : zJC f2 W g2 := by
  obtain ⟨a, b, c, e⟩ := h
  refine ⟨(h20 2).trans (a.trans h8.symm), by rw [h20]; exact b, by rw [h20]; exact c, fun ago k a0 a1 k0 k1 => ?_⟩
  rw [h20, h21, hg _ (by omega) (by omega)]
  exact e ago k a0 (by omega) k0 k1
theorem zGC_fr {f f2 : Int → Int → Int} {W : Int} {g g2 : Int → Int} (h0 : ∀ k, f2 W k = f W k) (h20 : ∀ k, f2 (W + 20) k = f (W + 20) k) (h21 : ∀ k, f2 (W + 21) k = f (W + 21) k) (hg : ∀ j, (j < 10 ∨ (1070 ≤ j ∧ j < 1310)) → g2 j = g j) (g60 : g 8 ≤ 60) (h : zGC f W g) : zGC f2 W g2 := by
  obtain ⟨a, b, c, e, i, j, k, l⟩ := h
  unfold zGC
  rw [h0, h0, h0, h0, h0, h0, h0, hg 3 (by omega), hg 0 (by omega), hg 4 (by omega), hg 5 (by omega), hg 6 (by omega), hg 7 (by omega), hg 9 (by omega)]
  exact ⟨a, b, c, e, i, j, k, zJC_fr h20 h21 (hg 8 (by omega)) (fun j h1 h2 => hg j (by omega)) g60 l⟩
theorem rLog_row {g : Int → Int} {l w v ago c : Int} (a0 : 0 ≤ ago) (a1 : ago < 60) (c0 : 0 ≤ c) (c1 : c < 4) : rLog g l w v (1070 + 4 * ago + c) = if ago = 0 then (if c = 0 then g 4 else if c = 1 then l else if c = 2 then w else v) else g (1070 + 4 * (ago - 1) + c) := by
  unfold rLog
  rw [zup1_ne (by omega)]
  by_cases ha : ago = 0
  · subst ha
    rw [if_pos rfl]
    rcases (by omega : c = 0 ∨ c = 1 ∨ c = 2 ∨ c = 3) with rfl | rfl | rfl | rfl
    · rw [zup1_ne (by omega), zup1_ne (by omega), zup1_ne (by omega), zup1_eq (by omega), if_pos rfl]
    · rw [zup1_ne (by omega), zup1_ne (by omega), zup1_eq (by omega), if_neg (by decide), if_pos rfl]
    · rw [zup1_ne (by omega), zup1_eq (by omega), if_neg (by decide), if_neg (by decide), if_pos rfl]
    · rw [zup1_eq (by omega), if_neg (by decide), if_neg (by decide), if_neg (by decide)]
  · rw [if_neg ha, zup1_ne (by omega), zup1_ne (by omega), zup1_ne (by omega), zup1_ne (by omega), mdn_in (by omega) (by omega)]
    exact congrArg g (by omega)
theorem c_joAdd {q : Int × (Int → Int)} {d : Nat} {σ : zS} {W : Int} {g : Int → Int} {l w v : Int} (g0 : 0 ≤ g 8) (g60 : g 8 ≤ 60) (h : zJC σ.1 W g) : ∃ f2, zM (true, q) (d + 1) 113 [(11, W + 20, 0), (0, g 4, 0), (0, l, 0), (0, w, 0), (0, v, 0)] σ = some ((9, 0, 0), (f2, σ.2)) ∧ zJC f2 W (rLog g l w v) ∧ ∀ o k, o ≠ W + 20 → o ≠ W + 21 → f2 o k = σ.1 o k := by
  obtain ⟨a, b, c, e⟩ := h
  have hz : zrem (σ.1 (W + 20) 1 + 1) 60 = (σ.1 (W + 20) 1 + 1) % 60 := Int.tmod_eq_emod_of_nonneg (by omega)
  have main : ∀ v8 : Int, v8 = (if g 8 + 1 ≤ 60 then g 8 + 1 else 60) → zJC (zup (zup (zup (zup (zup (zup σ.1 (W + 21) (σ.1 (W + 20) 1 * 4) (g 4)) (W + 21) (σ.1 (W + 20) 1 * 4 + 1) l) (W + 21) (σ.1 (W + 20) 1 * 4 + 2) w) (W + 21) (σ.1 (W + 20) 1 * 4 + 3) v) (W + 20) 1 ((σ.1 (W + 20) 1 + 1) % 60)) (W + 20) 2 v8) W (rLog g l w v) := by
    intro v8 hv8
    refine ⟨?_, ?_, ?_, fun ago k a0 a1 k0 k1 => ?_⟩
    · rw [zupE rfl rfl, rLog_8]
      exact hv8
    · rw [zup_nk (by decide), zupE rfl rfl]
      omega
    · rw [zup_nk (by decide), zupE rfl rfl]
      omega
    · rw [rLog_8] at a1
      have a9 : ago < 60 := by split at a1 <;> omega
      have a8 : ago ≤ g 8 := by split at a1 <;> omega
      rw [rLog_row a0 a9 k0 k1, zup_na (show W + 21 ≠ W + 20 by omega), zup_na (show W + 21 ≠ W + 20 by omega), zup_nk (show (1 : Int) ≠ 2 by decide), zupE rfl rfl]
      by_cases ha : ago = 0
      · subst ha
        rw [if_pos rfl, show ((σ.1 (W + 20) 1 + 1) % 60 + 59 - 0) % 60 = σ.1 (W + 20) 1 by omega]
        rcases (by omega : k = 0 ∨ k = 1 ∨ k = 2 ∨ k = 3) with rfl | rfl | rfl | rfl
        · rw [zup_nk (by omega), zup_nk (by omega), zup_nk (by omega), zupE rfl (by omega), if_pos rfl]
        · rw [zup_nk (by omega), zup_nk (by omega), zupE rfl (by omega), if_neg (by decide), if_pos rfl]
        · rw [zup_nk (by omega), zupE rfl (by omega), if_neg (by decide), if_neg (by decide), if_pos rfl]
        · rw [zupE rfl (by omega), if_neg (by decide), if_neg (by decide), if_neg (by decide)]
      · have hi : ((σ.1 (W + 20) 1 + 1) % 60 + 59 - ago) % 60 = (σ.1 (W + 20) 1 + 59 - (ago - 1)) % 60 := by omega
        have hne : (σ.1 (W + 20) 1 + 59 - (ago - 1)) % 60 ≠ σ.1 (W + 20) 1 := by omega
        rw [if_neg ha, hi, ← e (ago - 1) k (by omega) (by omega) k0 k1, zup_nk (by omega), zup_nk (by omega), zup_nk (by omega), zup_nk (by omega)]
  have fr : ∀ v8, ∀ o k, o ≠ W + 20 → o ≠ W + 21 → (zup (zup (zup (zup (zup (zup σ.1 (W + 21) (σ.1 (W + 20) 1 * 4) (g 4)) (W + 21) (σ.1 (W + 20) 1 * 4 + 1) l) (W + 21) (σ.1 (W + 20) 1 * 4 + 2) w) (W + 21) (σ.1 (W + 20) 1 * 4 + 3) v) (W + 20) 1 ((σ.1 (W + 20) 1 + 1) % 60)) (W + 20) 2 v8) o k = σ.1 o k := by
    intro v8 o k h1 h2
    rw [zup_na h1, zup_na h1, zup_na h2, zup_na h2, zup_na h2, zup_na h2]
  by_cases c60 : 60 ≤ g 8
  · refine ⟨_, ?_, main 60 (by rw [if_neg (by omega)]), fr 60⟩
    rw [ze_Jou_add, zb_Jou_add_0]
    try simp (disch := omega) only [zw_id, Int.reduceAdd, Int.add_assoc, Int.zero_add]
    rw [s_put (by first | omega | (simp (disch := omega) only [zup_na, zup_nk, zupE]; omega)) (by first | omega | (simp (disch := omega) only [zup_na, zup_nk, zupE]; omega)), zK_v, zb_Jou_add_10]
    try simp (disch := omega) only [zw_id, Int.reduceAdd, Int.add_assoc, Int.zero_add]
    rw [s_put (by first | omega | (simp (disch := omega) only [zup_na, zup_nk, zupE]; omega)) (by first | omega | (simp (disch := omega) only [zup_na, zup_nk, zupE]; omega)), zK_v, zb_Jou_add_17]
    try simp (disch := omega) only [zw_id, Int.reduceAdd, Int.add_assoc, Int.zero_add]
    rw [s_put (by first | omega | (simp (disch := omega) only [zup_na, zup_nk, zupE]; omega)) (by first | omega | (simp (disch := omega) only [zup_na, zup_nk, zupE]; omega)), zK_v, zb_Jou_add_24]
    try simp (disch := omega) only [zw_id, Int.reduceAdd, Int.add_assoc, Int.zero_add]
    rw [s_put (by first | omega | (simp (disch := omega) only [zup_na, zup_nk, zupE]; omega)) (by first | omega | (simp (disch := omega) only [zup_na, zup_nk, zupE]; omega)), zK_v, zb_Jou_add_31]
    try simp (disch := omega) only [zw_id]
    rw [zG1 (by omega), zb_Jou_add_38, if_pos (by first | omega | (simp (disch := omega) only [zupE, zup_nk, zup_na, zcpy_na]; omega)), zb_Jou_add_49]
    simp (disch := omega) only [zup_na, zw_id, hz, zup_nk]
  · refine ⟨_, ?_, main (g 8 + 1) (by rw [if_pos (by omega)]), fr (g 8 + 1)⟩
    rw [ze_Jou_add, zb_Jou_add_0]
    try simp (disch := omega) only [zw_id, Int.reduceAdd, Int.add_assoc, Int.zero_add]
    rw [s_put (by first | omega | (simp (disch := omega) only [zup_na, zup_nk, zupE]; omega)) (by first | omega | (simp (disch := omega) only [zup_na, zup_nk, zupE]; omega)), zK_v, zb_Jou_add_10]
    try simp (disch := omega) only [zw_id, Int.reduceAdd, Int.add_assoc, Int.zero_add]
    rw [s_put (by first | omega | (simp (disch := omega) only [zup_na, zup_nk, zupE]; omega)) (by first | omega | (simp (disch := omega) only [zup_na, zup_nk, zupE]; omega)), zK_v, zb_Jou_add_17]
    try simp (disch := omega) only [zw_id, Int.reduceAdd, Int.add_assoc, Int.zero_add]
    rw [s_put (by first | omega | (simp (disch := omega) only [zup_na, zup_nk, zupE]; omega)) (by first | omega | (simp (disch := omega) only [zup_na, zup_nk, zupE]; omega)), zK_v, zb_Jou_add_24]
    try simp (disch := omega) only [zw_id, Int.reduceAdd, Int.add_assoc, Int.zero_add]
    rw [s_put (by first | omega | (simp (disch := omega) only [zup_na, zup_nk, zupE]; omega)) (by first | omega | (simp (disch := omega) only [zup_na, zup_nk, zupE]; omega)), zK_v, zb_Jou_add_31]
    try simp (disch := omega) only [zw_id]
    rw [zG1 (by omega), zb_Jou_add_38, if_neg (by first | omega | (simp (disch := omega) only [zupE, zup_nk, zup_na, zcpy_na]; omega)), zb_Jou_add_44]
    try simp (disch := omega) only [zw_id]
    simp (disch := omega) only [zup_na, zw_id, hz, zup_nk, a]
