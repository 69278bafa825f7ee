/-! ## the class: what the law says, what is spoiled, what goes into the air -/
def zLwA (S : Int → (Int → Int) → Int) : (Int → Int) → Int × Int := fun φ => (S 0 φ - S 1 φ, S 2 φ)
def zSC (S : Int → (Int → Int) → Int) : Prop := (∀ x φ ψ, (∀ i, 0 ≤ i → i < 10 → φ i = ψ i) → S x φ = S x ψ) ∧ ∀ x φ, 0 ≤ S x φ ∧ S x φ ≤ 1188
def zAskC (q : Int × (Int → Int)) (S : Int → (Int → Int) → Int) (a : Int) (h : Int → Int → Int) : Prop := ∀ (d : Nat) (σ : zS) (r x : Int), (∀ o k, a ≤ o → o < a + 6 → σ.1 o k = h o k) → (r < a ∨ a + 7 ≤ r) → 0 ≤ x → x ≤ 2 → ∃ f2, zM (true, q) (d + 3) 112 [(12, a, 0), (0, x, 0), (30, r, 10)] σ = some ((0, S x (σ.1 r), 0), (f2, σ.2)) ∧ ∀ o k, o ≠ a + 6 → f2 o k = σ.1 o k
theorem zAB_of {S : Int → (Int → Int) → Int} (h : zSC S) : zAB (zLwA S) := fun φ => by
  have h0 := h.2 0 φ
  have h1 := h.2 1 φ
  have h2 := h.2 2 φ
  unfold zLwA
  exact ⟨by show -1188 ≤ S 0 φ - S 1 φ; omega, by show S 0 φ - S 1 φ ≤ 1188; omega, h2.1, h2.2⟩
def zFX (W b a : Int) (f f2 : Int → Int → Int) : Prop := ∀ o k, (o < b ∨ b + 18 ≤ o) → o ≠ W → o ≠ W + 20 → o ≠ W + 21 → o ≠ W + 22 → o ≠ a + 6 → f2 o k = f o k
theorem zFX_trans {W b a : Int} {f f2 f3 : Int → Int → Int} (h : zFX W b a f f2) (h2 : zFX W b a f2 f3) : zFX W b a f f3 := fun o k a1 a2 a3 a4 a5 a6 => (h2 o k a1 a2 a3 a4 a5 a6).trans (h o k a1 a2 a3 a4 a5 a6)
theorem zFX_w {W b a : Int} {f f2 : Int → Int → Int} (h : zFW W b f f2) : zFX W b a f f2 := fun o k a1 a2 a3 a4 a5 a6 => h o k a1 a3 a4 a5
theorem zFX_b {W b a : Int} {f f2 : Int → Int → Int} (h : zFb b f f2) : zFX W b a f f2 := fun o k a1 a2 a3 a4 a5 a6 => h o k a1
theorem c_chanceOn {q : Int × (Int → Int)} {d : Nat} {σ : zS} {W b a : Int} {S : Int → (Int → Int) → Int} {h φ : Int → Int → Int} {ψ : Int → Int} (hS : zSC S) (hA : zAskC q S a h) (hh : ∀ o k, a ≤ o → o < a + 6 → σ.1 o k = h o k) (ha : a + 7 ≤ W) (hb : W ≤ b) (hn : 0 ≤ σ.1 b 5 ∧ σ.1 b 5 ≤ 100) (hf : ∀ i, 0 ≤ i → i < 10 → σ.1 (W + 22) i = ψ i) : ∃ f2, zM (true, q) (d + 4) 123 [(18, W, 0), (13, b, 0), (12, a, 0)] σ = some ((0, zClamp (σ.1 b 5 + (zLwA S ψ).1), 0), (f2, σ.2)) ∧ ∀ o k, o ≠ a + 6 → f2 o k = σ.1 o k := by
  obtain ⟨f1, r1, fr1⟩ := hA d σ (W + 22) 0 hh (by omega) (by decide) (by decide)
  obtain ⟨f2, r2, fr2⟩ := hA d (f1, σ.2) (W + 22) 1 (fun o k a1 a2 => (fr1 o k (by omega)).trans (hh o k a1 a2)) (by omega) (by decide) (by decide)
  have s0 := hS.2 0 ψ
  have s1 := hS.2 1 ψ
  have e0 : S 0 (σ.1 (W + 22)) = S 0 ψ := hS.1 0 _ _ hf
  have e1 : S 1 (f1 (W + 22)) = S 1 ψ := hS.1 1 _ _ (fun i i0 i1 => (fr1 _ _ (by omega)).trans (hf i i0 i1))
  rw [e0] at r1
  have r2 : zM (true, q) (d + 3) 112 [(12, a, 0), (0, 1, 0), (30, W + 22, 10)] (f1, σ.2) = some ((0, S 1 ψ, 0), (f2, σ.2)) := by
    rw [r2]
    show some ((0, S 1 (f1 (W + 22)), 0), (f2, σ.2)) = _
    rw [e1]
  refine ⟨f2, ?_, fun o k ho => (fr2 o k ho).trans (fr1 o k ho)⟩
  rw [ze_Wor_chanceOn, zb_Wor_chanceOn_0, r1, zK_i, zb_Wor_chanceOn_7, r2, zK_i, zb_Wor_chanceOn_13, zw_id (show -2147483648 ≤ σ.1 b 5 + S 0 ψ by omega) (by omega), zw_id (by omega) (by omega)]
  have ev : σ.1 b 5 + S 0 ψ - S 1 ψ = σ.1 b 5 + (zLwA S ψ).1 := by
    show _ = σ.1 b 5 + (S 0 ψ - S 1 ψ)
    omega
  rw [ev]
  generalize σ.1 b 5 + (zLwA S ψ).1 = v
  unfold zClamp
  by_cases c : v < 0
  · rw [if_neg (by omega), zb_Wor_chanceOn_17, if_pos c]
  · rw [if_pos (by omega), zb_Wor_chanceOn_19, if_neg c]
    by_cases c2 : v ≤ 100
    · rw [if_pos c2, zb_Wor_chanceOn_24, if_neg (by omega)]
    · rw [if_neg c2, zb_Wor_chanceOn_22, if_pos (by omega)]
theorem c_isSpoiled {q : Int × (Int → Int)} {d : Nat} {σ : zS} {W sp dr : Int} (h : sp ≤ 100) : zM (true, q) d 124 [(18, W, 0), (0, sp, 0), (0, dr, 0)] σ = some ((0, if dr = 0 then (if sp = 100 then 1 else 0) else (if rDraw (σ.1 W 10) < sp then 1 else 0), 0), (if dr = 0 then σ.1 else zup σ.1 W 10 (rSeed (σ.1 W 10)), σ.2)) := by
  by_cases c : dr = 0
  · rw [if_pos c, if_pos c]
    by_cases c2 : sp = 100
    · rw [if_pos c2]
      rw [ze_Wor_isSpoiled, zb_Wor_isSpoiled_0, if_neg (by omega), zb_Wor_isSpoiled_2, if_neg (by omega), zb_Wor_isSpoiled_5, zG2 (by omega) (by omega)]
    · rw [if_neg c2]
      rw [ze_Wor_isSpoiled, zb_Wor_isSpoiled_0, if_neg (by omega), zb_Wor_isSpoiled_2, if_pos (by omega), zb_Wor_isSpoiled_7, zG2 (by omega) (by omega)]
  · rw [if_neg c, if_neg c]
    rw [ze_Wor_isSpoiled, zb_Wor_isSpoiled_0, if_pos c, zb_Wor_isSpoiled_9, zG1 (by decide)]
    simp (disch := omega) only [zupE]
    show zD (true, q) d zc_Wor_isSpoiled (zat zc_Wor_isSpoiled 25) [(18, W, 0), (0, sp, 0), (0, dr, 0)] [(0, rDraw (σ.1 W 10), 0)] (zup σ.1 W 10 (rSeed (σ.1 W 10)), σ.2) = _
    rw [zb_Wor_isSpoiled_25]
    by_cases c2 : rDraw (σ.1 W 10) < sp
    · rw [if_neg (by omega), if_pos c2, zb_Wor_isSpoiled_27, zG2 (by decide) (by decide)]
    · rw [if_pos (by omega), if_neg c2, zb_Wor_isSpoiled_29, zG2 (by decide) (by decide)]
theorem zLC_air {p : Int} {f f2 : Int → Int → Int} {b : Int} {g s : Int → Int} {B : Int} (hr : rLR g B) (hp : p = g (B + 2)) (fr : ∀ o k, b ≤ o → o < b + 18 → (o < b + 12 ∨ b + 17 ≤ o ∨ k ≠ p - 1) → f2 o k = f o k) (s0 : f2 (b + 12) (p - 1) = s 0) (s3 : s 0 ≠ 0 → f2 (b + 16) (p - 1) = s 3) (s2 : s 0 = 2 → f2 (b + 13) (p - 1) = s 1 ∧ f2 (b + 14) (p - 1) = s 4 ∧ f2 (b + 15) (p - 1) = s 2) (h : zLC (p - 1) f b g B) : zLC p f2 b (mput g (B + (49 + 5 * p - 5)) 5 s) B := by
  obtain ⟨h_0, h_1, h_2, h_3, h_4, h_5, h_6, h_7, h_8, h_9, h_10, h_11, h_12, h_13, h_14, h_15, h_16⟩ := id hr
  obtain ⟨h1, h2, h3, h4, h5, h6, h7⟩ := h
  have e : ∀ j, (j < 49 ∨ 69 ≤ j) → mput g (B + (49 + 5 * p - 5)) 5 s (B + j) = g (B + j) := fun j _ => mput_out (by omega)
  refine ⟨fun c c0 c1 => ?_, ?_, ?_, fun k c k0 k1 c0 c1 => ?_, fun k c k0 k1 c0 c1 => ?_, fun k k0 k1 => ?_, fun k k0 k1 => ?_⟩
  · rw [e _ (by unfold zfm; split <;> omega), ← h1 c c0 c1]
    exact fr _ _ (by omega) (by omega) (by omega)
  · rw [e _ (by omega), ← h2]
    exact fr _ _ (by omega) (by omega) (by omega)
  · rw [e _ (by omega), ← h3]
    exact fr _ _ (by omega) (by omega) (by omega)
  · rw [e 7 (by omega)] at k1
    rw [e _ (by omega), ← h4 k c k0 k1 c0 c1]
    exact fr _ _ (by omega) (by omega) (by omega)
  · rw [e 6 (by omega)] at k1
    rw [e _ (by omega), ← h5 k c k0 k1 c0 c1]
    exact fr _ _ (by omega) (by omega) (by omega)
  · by_cases c : k = p - 1
    · rw [mput_in (by omega) (by omega), mput_in (by omega) (by omega), mput_in (by omega) (by omega), mput_in (by omega) (by omega), mput_in (by omega) (by omega), show B + (49 + 5 * k + 0) - (B + (49 + 5 * p - 5)) = 0 by omega, show B + (49 + 5 * k + 1) - (B + (49 + 5 * p - 5)) = 1 by omega, show B + (49 + 5 * k + 2) - (B + (49 + 5 * p - 5)) = 2 by omega, show B + (49 + 5 * k + 3) - (B + (49 + 5 * p - 5)) = 3 by omega, show B + (49 + 5 * k + 4) - (B + (49 + 5 * p - 5)) = 4 by omega, c]
      exact ⟨s0, s3, s2⟩
    · rw [mput_out (by omega), mput_out (by omega), mput_out (by omega), mput_out (by omega), mput_out (by omega), fr _ _ (by omega) (by omega) (by omega), fr _ _ (by omega) (by omega) (by omega), fr _ _ (by omega) (by omega) (by omega), fr _ _ (by omega) (by omega) (by omega), fr _ _ (by omega) (by omega) (by omega)]
      exact h6 k k0 (by omega)
  · rw [e 2 (by omega)] at k1
    rw [e _ (by omega), ← h7 k k0 k1]
    exact fr _ _ (by omega) (by omega) (by omega)
theorem c_putFiller {q : Int × (Int → Int)} {d : Nat} {σ : zS} {b i v : Int} (i0 : 0 ≤ i) (i4 : i < 4) (hv : v = 0 ∨ v = 1) : zM (true, q) (d + 1) 125 [(10, b + 11, 0), (0, i, 0), (0, v, 0)] σ = some ((9, 0, 0), (zup (zup σ.1 (b + 12) i 1) (b + 16) i v, σ.2)) := by
  rcases hv with rfl | rfl
  ·
    rw [ze_Air_putFiller, zb_Air_putFiller_0]
    try simp (disch := omega) only [Int.reduceAdd, Int.add_assoc, Int.zero_add]
    rw [s_put (by omega) (by omega), zK_v, zb_Air_putFiller_5, if_pos (rfl)]
    try simp (disch := omega) only [Int.reduceAdd, Int.add_assoc, Int.zero_add]
    rw [zb_Air_putFiller_12, s_put (by omega) (by omega), zK_v, zb_Air_putFiller_14]
  ·
    rw [ze_Air_putFiller, zb_Air_putFiller_0]
    try simp (disch := omega) only [Int.reduceAdd, Int.add_assoc, Int.zero_add]
    rw [s_put (by omega) (by omega), zK_v, zb_Air_putFiller_5, if_neg (by decide)]
    try simp (disch := omega) only [Int.reduceAdd, Int.add_assoc, Int.zero_add]
    rw [zb_Air_putFiller_10, s_put (by omega) (by omega), zK_v, zb_Air_putFiller_14]
theorem c_putUnit {q : Int × (Int → Int)} {d : Nat} {σ : zS} {b i m v : Int} (i0 : 0 ≤ i) (i4 : i < 4) (m0 : 0 ≤ m) (m8 : m < 8) (hv : v = 0 ∨ v = 1) : zM (true, q) (d + 1) 126 [(10, b + 11, 0), (0, i, 0), (16, b + 6, 8), (0, m, 0), (0, v, 0)] σ = some ((9, 0, 0), (zup (zup (zup (zup (zup σ.1 (b + 12) i 2) (b + 13) i (σ.1 (b + 7) m)) (b + 14) i (σ.1 (b + 8) m)) (b + 15) i (σ.1 (b + 9) m)) (b + 16) i v, σ.2)) := by
  have e8 := zNL8
  rcases hv with rfl | rfl
  ·
    rw [ze_Air_putUnit, zb_Air_putUnit_0]
    try simp (disch := omega) only [Int.reduceAdd, Int.add_assoc, Int.zero_add]
    rw [s_put (by omega) (by omega), zK_v, zb_Air_putUnit_5]
    try simp (disch := omega) only [Int.reduceAdd, Int.add_assoc, Int.zero_add]
    rw [s_at (by omega) (by omega), zK_i, zb_Air_putUnit_12, s_put (by omega) (by omega), zK_v, zb_Air_putUnit_13]
    try simp (disch := omega) only [Int.reduceAdd, Int.add_assoc, Int.zero_add]
    rw [s_at (by omega) (by omega), zK_i, zb_Air_putUnit_20, s_put (by omega) (by omega), zK_v, zb_Air_putUnit_21]
    try simp (disch := omega) only [Int.reduceAdd, Int.add_assoc, Int.zero_add, zNL8, zNL96]
    rw [s_at (by omega) (by omega), zK_i, zb_Air_putUnit_28, s_put (by omega) (by omega), zK_v, zb_Air_putUnit_29, if_pos (rfl)]
    try simp (disch := omega) only [Int.reduceAdd, Int.add_assoc, Int.zero_add]
    rw [zb_Air_putUnit_36, s_put (by omega) (by omega), zK_v, zb_Air_putUnit_38]
    simp (disch := omega) only [zup_na]
  ·
    rw [ze_Air_putUnit, zb_Air_putUnit_0]
    try simp (disch := omega) only [Int.reduceAdd, Int.add_assoc, Int.zero_add]
    rw [s_put (by omega) (by omega), zK_v, zb_Air_putUnit_5]
    try simp (disch := omega) only [Int.reduceAdd, Int.add_assoc, Int.zero_add]
    rw [s_at (by omega) (by omega), zK_i, zb_Air_putUnit_12, s_put (by omega) (by omega), zK_v, zb_Air_putUnit_13]
    try simp (disch := omega) only [Int.reduceAdd, Int.add_assoc, Int.zero_add]
    rw [s_at (by omega) (by omega), zK_i, zb_Air_putUnit_20, s_put (by omega) (by omega), zK_v, zb_Air_putUnit_21]
    try simp (disch := omega) only [Int.reduceAdd, Int.add_assoc, Int.zero_add, zNL8, zNL96]
    rw [s_at (by omega) (by omega), zK_i, zb_Air_putUnit_28, s_put (by omega) (by omega), zK_v, zb_Air_putUnit_29, if_neg (by decide)]
    try simp (disch := omega) only [Int.reduceAdd, Int.add_assoc, Int.zero_add]
    rw [zb_Air_putUnit_34, s_put (by omega) (by omega), zK_v, zb_Air_putUnit_38]
    simp (disch := omega) only [zup_na]
