/-! ## the other form: what is sent -/
def mput (g : Int → Int) (b k : Int) (s : Int → Int) : Int → Int := fun j => if b ≤ j ∧ j < b + k then s (j - b) else g j
theorem mput_in {g : Int → Int} {b k j : Int} {s : Int → Int} (h : b ≤ j) (h2 : j < b + k) : mput g b k s j = s (j - b) := if_pos ⟨h, h2⟩
theorem mput_out {g : Int → Int} {b k j : Int} {s : Int → Int} (h : j < b ∨ b + k ≤ j) : mput g b k s j = g j := if_neg (fun z => by omega)
theorem mput_0 {g : Int → Int} {b k : Int} {s : Int → Int} (h : k ≤ 0) : mput g b k s = g := by
  funext j
  exact mput_out (by omega)
theorem mput_s {g : Int → Int} {b k i : Int} {s : Int → Int} (h : 0 ≤ k) (hi : i = b + k) : zup1 (mput g b k s) i (s k) = mput g b (k + 1) s := by
  subst hi
  funext j
  by_cases h1 : j = b + k
  · subst h1
    rw [zup1_eq rfl, mput_in (by omega) (by omega), show b + k - b = k by omega]
  · rw [zup1_ne h1]
    by_cases h2 : b ≤ j ∧ j < b + k
    · rw [mput_in h2.1 h2.2, mput_in (by omega) (by omega)]
    · rw [mput_out (by omega), mput_out (by omega)]
theorem mput_congr {g : Int → Int} {b k : Int} {s r : Int → Int} (h : ∀ i, 0 ≤ i → i < k → s i = r i) : mput g b k s = mput g b k r := by
  funext j
  by_cases h2 : b ≤ j ∧ j < b + k
  · rw [mput_in h2.1 h2.2, mput_in h2.1 h2.2, h _ (by omega) (by omega)]
  · rw [mput_out (by omega), mput_out (by omega)]
def rSrow (a b c e h : Int) : Int → Int := fun k => if k = 0 then a else if k = 1 then b else if k = 2 then c else if k = 3 then e else h
def kWhat (g : Int → Int) (B : Int) : Int := if g (B + 0) = 2 then rNext g B else 0
def kF1 (g : Int → Int) (l B : Int) : Int → Int := if kWhat g B = 3 then rLog (zup1 (zup1 g (B + 9) 1) (B + 8) 0) l 1 (g (B + 7)) else g
def kF2 (g : Int → Int) (l B : Int) : Int → Int := if kWhat g B = 2 then rNew g B else if 0 < kWhat g B then rHand (kF1 g l B) B else g
def kRow (g : Int → Int) (l B k : Int) : Int := if kWhat g B = 2 then rNew g B (B + (17 + 4 * g (B + 7) + k)) else kF1 g l B (B + (17 + 4 * kF1 g l B (B + 8) + k))
def kLen (g : Int → Int) (l B : Int) : Int := if kWhat g B = 0 then 0 else kRow g l B 1
def kSp (A : (Int → Int) → Int × Int) (g : Int → Int) (l B : Int) : Int := zClamp (kF2 g l B (B + 1) + (A (rFact (kF2 g l B) l (kLen g l B) (kF1 g l B (B + 9)) (if kWhat g B = 1 ∨ kWhat g B = 3 then 1 else 0))).1)
def kBad (A : (Int → Int) → Int × Int) (g : Int → Int) (l B dr : Int) : Int := if dr = 0 then (if kSp A g l B = 100 then 1 else 0) else (if rDraw (kF2 g l B 9) < kSp A g l B then 1 else 0)
def kF3 (g : Int → Int) (l B dr : Int) : Int → Int := if dr = 0 then kF2 g l B else zup1 (kF2 g l B) 9 (rSeed (kF2 g l B 9))
def kSend (A : (Int → Int) → Int × Int) (g : Int → Int) (l B dr : Int) : Int → Int := mput (kF3 g l B dr) (B + (49 + 5 * kF3 g l B dr (B + 2) - 5)) 5 (if kWhat g B = 0 then rSrow 1 0 0 (kBad A g l B dr) 0 else rSrow 2 (kRow g l B 0) (kRow g l B 2) (kBad A g l B dr) (kRow g l B 1))
theorem kWhat_4 {g : Int → Int} {B : Int} : kWhat g B = 0 ∨ kWhat g B = 1 ∨ kWhat g B = 2 ∨ kWhat g B = 3 := by
  unfold kWhat rNext
  repeat' split
  all_goals omega
theorem rLog_out {g : Int → Int} {l w v j : Int} (h : j ≠ 8) (h2 : j < 1070 ∨ 1310 ≤ j) : rLog g l w v j = g j := by
  unfold rLog
  rw [zup1_ne h, zup1_ne (by omega), zup1_ne (by omega), zup1_ne (by omega), zup1_ne (by omega), mdn_out (by omega)]
theorem rNew_out {g : Int → Int} {B j : Int} (n0 : 0 < g (B + 6)) (n1 : g (B + 6) ≤ 96) (k0 : 0 ≤ g (B + 7)) (k8 : g (B + 7) < 8) (h : j < B + 6 ∨ j = B + 8 ∨ j = B + 9 ∨ (B + 11 ≤ j ∧ j < B + 17) ∨ (B + 49 ≤ j ∧ j < B + 73) ∨ B + 265 ≤ j) : rNew g B j = g j := by
  have e6 : rNewA g B (B + 6) = g (B + 6) - 1 := zup1_eq rfl
  unfold rNew rNewT
  rw [zup1_ne (by omega), e6, msh_out (by omega)]
  unfold rNewA
  rw [zup1_ne (by omega), zup1_ne (by omega), zup1_ne (by omega), zup1_ne (by omega), zup1_ne (by omega), zup1_ne (by omega)]
theorem rNew_6 {g : Int → Int} {B : Int} (k0 : 0 ≤ g (B + 7)) (n0 : 0 < g (B + 6)) : rNew g B (B + 6) = g (B + 6) - 1 := by
  have e6 : rNewA g B (B + 6) = g (B + 6) - 1 := zup1_eq rfl
  unfold rNew rNewT
  rw [zup1_ne (by omega), e6, msh_out (by omega), e6]
theorem rNew_7 {g : Int → Int} {B : Int} (k0 : 0 ≤ g (B + 7)) (n0 : 0 < g (B + 6)) : rNew g B (B + 7) = g (B + 7) + 1 := by
  have e6 : rNewA g B (B + 6) = g (B + 6) - 1 := zup1_eq rfl
  unfold rNew rNewT
  rw [zup1_ne (by omega), e6, msh_out (by omega)]
  unfold rNewA
  rw [zup1_ne (by omega), zup1_eq rfl]
theorem rNew_10 {g : Int → Int} {B : Int} (k0 : 0 ≤ g (B + 7)) : rNew g B (B + 10) = zrem (g (B + 10) + 1) 16 := by
  have e : rNewA g B (B + 10) = g (B + 10) := by
    unfold rNewA
    rw [zup1_ne (by omega), zup1_ne (by omega), zup1_ne (by omega), zup1_ne (by omega), zup1_ne (by omega), zup1_ne (by omega)]
  unfold rNew rNewT
  rw [zup1_eq rfl, e]
theorem rHand_out {g : Int → Int} {B j : Int} (h0 : 0 ≤ g (B + 8)) (h7 : g (B + 8) ≤ 7) (h : j ≠ B + 8) (h9 : j ≠ B + 9) (h2 : j ≠ B + (17 + 4 * g (B + 8) + 3)) : rHand g B j = g j := by
  unfold rHand
  split
  · rw [zup1_ne h, zup1_ne h2]
  · rw [zup1_ne h9, zup1_ne h, zup1_ne h2]
theorem rHand_8 {g : Int → Int} {B : Int} : rHand g B (B + 8) = if g (B + 8) + 1 < g (B + 7) then g (B + 8) + 1 else 0 := by
  unfold rHand
  split
  · rw [zup1_eq rfl]
  · rw [zup1_ne (by omega), zup1_eq rfl]
theorem rHand_9 {g : Int → Int} {B : Int} (h0 : 0 ≤ g (B + 8)) : rHand g B (B + 9) = if g (B + 8) + 1 < g (B + 7) then g (B + 9) else 0 := by
  unfold rHand
  split
  · rw [zup1_ne (by omega), zup1_ne (by omega)]
  · rw [zup1_eq rfl]
theorem zrem16 {x : Int} (h : 0 ≤ x) : 0 ≤ zrem x 16 ∧ zrem x 16 ≤ 15 := by
  have e : zrem x 16 = x % 16 := Int.tmod_eq_emod_of_nonneg h
  rw [e]
  omega
theorem kWhat_2 {g : Int → Int} {B : Int} (hr : rLR g B) (h : kWhat g B = 2) : 0 < g (B + 6) ∧ g (B + 7) < g (B + 3) ∧ g (B + 7) < 8 ∧ g (B + 0) = 2 ∧ g (B + 9) = 0 ∧ rFits g B = true := by
  obtain ⟨h_0, h_1, h_2, h_3, h_4, h_5, h_6, h_7, h_8, h_9, h_10, h_11, h_12, h_13, h_14, h_15, h_16⟩ := id hr
  unfold kWhat rNext at h
  split at h
  · split at h
    · omega
    · split at h
      · split at h
        · have hf := ‹rFits g B = true›
          have hf2 := of_decide_eq_true hf
          refine ⟨by omega, hf2.1, by omega, by omega, by omega, hf⟩
        · omega
      · split at h <;> omega
  · omega
theorem kF1_out {g : Int → Int} {l B j : Int} (h : j ≠ 8) (h2 : j < 1070 ∨ 1310 ≤ j) (h3 : j ≠ B + 8) (h4 : j ≠ B + 9) : kF1 g l B j = g j := by
  unfold kF1
  split
  · rw [rLog_out h h2, zup1_ne h3, zup1_ne h4]
  · rfl
theorem kF1_8 {g : Int → Int} {l B : Int} (hB : 10 ≤ B) (hB2 : B + 265 ≤ 1070) : kF1 g l B (B + 8) = if kWhat g B = 3 then 0 else g (B + 8) := by
  unfold kF1
  split
  · rw [rLog_out (by omega) (by omega), zup1_eq rfl]
  · rfl
theorem kF1_9 {g : Int → Int} {l B : Int} (hB : 10 ≤ B) (hB2 : B + 265 ≤ 1070) : kF1 g l B (B + 9) = if kWhat g B = 3 then 1 else g (B + 9) := by
  unfold kF1
  split
  · rw [rLog_out (by omega) (by omega), zup1_ne (by omega), zup1_eq rfl]
  · rfl
theorem rLR_kF1 {g : Int → Int} {l B : Int} (hB : 10 ≤ B) (hB2 : B + 265 ≤ 1070) (h : rLR g B) : rLR (kF1 g l B) B := by
  have e8 := kF1_8 (g := g) (l := l) hB hB2
  have e9 := kF1_9 (g := g) (l := l) hB hB2
  unfold rLR at h ⊢
  have e : ∀ k, 0 ≤ k → k < 265 → k ≠ 8 → k ≠ 9 → kF1 g l B (B + k) = g (B + k) := fun k _ _ _ _ => kF1_out (by omega) (by omega) (by omega) (by omega)
  rw [e 0 (by decide) (by decide) (by decide) (by decide), e 1 (by decide) (by decide) (by decide) (by decide), e 2 (by decide) (by decide) (by decide) (by decide), e 3 (by decide) (by decide) (by decide) (by decide), e 4 (by decide) (by decide) (by decide) (by decide), e 5 (by decide) (by decide) (by decide) (by decide), e 6 (by decide) (by decide) (by decide) (by decide), e 7 (by decide) (by decide) (by decide) (by decide), e 10 (by decide) (by decide) (by decide) (by decide), e 11 (by decide) (by decide) (by decide) (by decide), e 12 (by decide) (by decide) (by decide) (by decide), e 13 (by decide) (by decide) (by decide) (by decide), e 14 (by decide) (by decide) (by decide) (by decide), e 15 (by decide) (by decide) (by decide) (by decide), e 16 (by decide) (by decide) (by decide) (by decide)]
  obtain ⟨h_0, h_1, h_2, h_3, h_4, h_5, h_6, h_7, h_8, h_9, h_10, h_11, h_12, h_13, h_14, h_15, h_16⟩ := h
  refine ⟨h_0, h_1, h_2, h_3, h_4, h_5, h_6, h_7, ?_, ?_, h_10, h_11, h_12, h_13, h_14, h_15, h_16⟩
  · rw [e8]; split <;> omega
  · rw [e9]; split <;> omega
theorem rLR_hand {g : Int → Int} {B : Int} (h : rLR g B) : rLR (rHand g B) B := by
  obtain ⟨h_0, h_1, h_2, h_3, h_4, h_5, h_6, h_7, h_8, h_9, h_10, h_11, h_12, h_13, h_14, h_15, h_16⟩ := id h
  have e8 := rHand_8 (g := g) (B := B)
  have e9 := rHand_9 (g := g) (B := B) h_8.1
  have e : ∀ k, 0 ≤ k → k < 17 → k ≠ 8 → k ≠ 9 → rHand g B (B + k) = g (B + k) := fun k _ _ _ _ => rHand_out h_8.1 h_8.2 (by omega) (by omega) (by omega)
  unfold rLR
  rw [e 0 (by decide) (by decide) (by decide) (by decide), e 1 (by decide) (by decide) (by decide) (by decide), e 2 (by decide) (by decide) (by decide) (by decide), e 3 (by decide) (by decide) (by decide) (by decide), e 4 (by decide) (by decide) (by decide) (by decide), e 5 (by decide) (by decide) (by decide) (by decide), e 6 (by decide) (by decide) (by decide) (by decide), e 7 (by decide) (by decide) (by decide) (by decide), e 10 (by decide) (by decide) (by decide) (by decide), e 11 (by decide) (by decide) (by decide) (by decide), e 12 (by decide) (by decide) (by decide) (by decide), e 13 (by decide) (by decide) (by decide) (by decide), e 14 (by decide) (by decide) (by decide) (by decide), e 15 (by decide) (by decide) (by decide) (by decide), e 16 (by decide) (by decide) (by decide) (by decide)]
  refine ⟨h_0, h_1, h_2, h_3, h_4, h_5, h_6, h_7, ?_, ?_, h_10, h_11, h_12, h_13, h_14, h_15, h_16⟩
  · rw [e8]; split <;> omega
  · rw [e9]; split <;> omega
theorem rLR_new {g : Int → Int} {B : Int} (h : rLR g B) (hw : kWhat g B = 2) : rLR (rNew g B) B := by
  obtain ⟨h_0, h_1, h_2, h_3, h_4, h_5, h_6, h_7, h_8, h_9, h_10, h_11, h_12, h_13, h_14, h_15, h_16⟩ := id h
  obtain ⟨n0, _, k8, _, _, _⟩ := kWhat_2 h hw
  have e6 := rNew_6 (g := g) (B := B) h_7.1 n0
  have e7 := rNew_7 (g := g) (B := B) h_7.1 n0
  have e10 := rNew_10 (g := g) (B := B) h_7.1
  have e : ∀ k, 0 ≤ k → k < 17 → k ≠ 6 → k ≠ 7 → k ≠ 10 → rNew g B (B + k) = g (B + k) := fun k _ _ _ _ _ => rNew_out n0 h_6.2 h_7.1 k8 (by omega)
  unfold rLR
  rw [e 0 (by decide) (by decide) (by decide) (by decide) (by decide), e 1 (by decide) (by decide) (by decide) (by decide) (by decide), e 2 (by decide) (by decide) (by decide) (by decide) (by decide), e 3 (by decide) (by decide) (by decide) (by decide) (by decide), e 4 (by decide) (by decide) (by decide) (by decide) (by decide), e 5 (by decide) (by decide) (by decide) (by decide) (by decide), e 8 (by decide) (by decide) (by decide) (by decide) (by decide), e 9 (by decide) (by decide) (by decide) (by decide) (by decide), e 11 (by decide) (by decide) (by decide) (by decide) (by decide), e 12 (by decide) (by decide) (by decide) (by decide) (by decide), e 13 (by decide) (by decide) (by decide) (by decide) (by decide), e 14 (by decide) (by decide) (by decide) (by decide) (by decide), e 15 (by decide) (by decide) (by decide) (by decide) (by decide), e 16 (by decide) (by decide) (by decide) (by decide) (by decide), e6, e7, e10]
  exact ⟨h_0, h_1, h_2, h_3, h_4, h_5, by omega, by omega, h_8, h_9, zrem16 (by omega), h_11, h_12, h_13, h_14, h_15, h_16⟩
theorem rLR_kF2 {g : Int → Int} {l B : Int} (hB : 10 ≤ B) (hB2 : B + 265 ≤ 1070) (h : rLR g B) : rLR (kF2 g l B) B := by
  unfold kF2
  split
  · exact rLR_new h ‹_›
  · split
    · exact rLR_hand (rLR_kF1 hB hB2 h)
    · exact h
theorem l_snd0 {q : Int × (Int → Int)} {d : Nat} {f : Int → Int → Int} {t : (Int → Int) × Nat × Nat × Nat × (Int → Int → Bool)} {g : Int → Int} {l dr x : Int} : ∀ (k : Nat) (i : Int), 0 ≤ i → i + k = 5 → zD (true, q) (d + 5) zc_M_sends (zat zc_M_sends 14) [(20, 1464, 0), (0, l, 0), (0, dr, 0), (0, x, 0), (0, i, 0), (2, 0, 0)] [] (zrow (zrow f 1472 (mfil (f 1472) 0 i 0)) 1465 g, t) = zD (true, q) (d + 5) zc_M_sends (zat zc_M_sends 29) [(20, 1464, 0), (0, l, 0), (0, dr, 0), (0, x, 0), (0, 5, 0), (2, 0, 0)] [] (zrow (zrow f 1472 (zup1 (mfil (f 1472) 0 5 0) 0 1)) 1465 g, t) := by
  intro k
  induction k with
  | zero =>
    intro i h0 h1
    have : i = 5 := by omega
    subst this
    rw [zb_M_sends_14, if_pos (by omega), zb_M_sends_24]
    simp (disch := omega) only [Int.reduceAdd, zrow_up, zrow_in, zrow_r]
    rw [zG2 (by omega) (by omega)]
  | succ k ih =>
    intro i h0 h1
    rw [zb_M_sends_14, if_neg (by omega), zb_M_sends_17]
    simp (disch := omega) only [Int.reduceAdd, zrow_up, zrow_in, zrow_r]
    rw [zG2 (by omega) (by omega), zb_M_sends_22, zw_id (by omega) (by omega), mfil_s (by omega) (by omega)]
    exact ih (i + 1) (by omega) (by omega)
theorem l_sndA {q : Int × (Int → Int)} {d : Nat} {f : Int → Int → Int} {t : (Int → Int) × Nat × Nat × Nat × (Int → Int → Bool)} {g : Int → Int} {l dr : Int} (hl : 0 ≤ l) (hl4 : l < 4) (hr : rLR g (10 + 265 * l)) (kg : ∀ k, 0 ≤ k → k < g (10 + 265 * l + 7) → 0 ≤ g (10 + 265 * l + (17 + 4 * k + 1)) ∧ g (10 + 265 * l + (17 + 4 * k + 1)) ≤ 9) (qg : 0 < g (10 + 265 * l + 6) → 0 ≤ g (10 + 265 * l + (73 + 2 * 0 + 1)) ∧ g (10 + 265 * l + (73 + 2 * 0 + 1)) ≤ 9) : zM (true, q) (d + 5) 162 [(20, 1464, 0), (0, l, 0), (0, dr, 0)] (zrow f 1465 g, t) = zD (true, q) (d + 5) zc_M_sends (zat zc_M_sends 29) [(20, 1464, 0), (0, l, 0), (0, dr, 0), (0, kWhat g (10 + 265 * l), 0), (0, 5, 0), (2, 0, 0)] [] (zrow (zrow f 1472 (zup1 (mfil (f 1472) 0 5 0) 0 1)) 1465 g, t) := by
  obtain ⟨h_0, h_1, h_2, h_3, h_4, h_5, h_6, h_7, h_8, h_9, h_10, h_11, h_12, h_13, h_14, h_15, h_16⟩ := id hr
  have e0 : mfil (f 1472) 0 0 0 = f 1472 := mfil_0 (Int.le_refl 0)
  have h := l_snd0 (q := q) (d := d) (f := f) (t := t) (g := g) (l := l) (dr := dr) (x := kWhat g (10 + 265 * l)) 5 0 (by omega) (by omega)
  rw [e0, zrow_id] at h
  rw [ze_M_sends, zb_M_sends_0, r_of (by omega) (by omega) (by omega) (by omega), zK_i, zb_M_sends_4]
  by_cases c : g (10 + 265 * l + 0) = 2
  · have ew : kWhat g (10 + 265 * l) = rNext g (10 + 265 * l) := if_pos c
    rw [if_neg (fun z => z c), zb_M_sends_6, r_nextOf hl hl4 h_7.1 h_7.2 kg qg, zK_i, zb_M_sends_9, ← ew]
    exact h
  · have ew : kWhat g (10 + 265 * l) = 0 := if_neg c
    rw [ew] at h
    rw [if_pos c, zb_M_sends_10, ew]
    exact h
theorem l_sndB {q : Int × (Int → Int)} {d : Nat} {f : Int → Int → Int} {t : (Int → Int) × Nat × Nat × Nat × (Int → Int → Bool)} {g : Int → Int} {l dr : Int} (hl : 0 ≤ l) (hl4 : l < 4) (g0 : 0 ≤ g 8) (g60 : g 8 ≤ 60) : zD (true, q) (d + 5) zc_M_sends (zat zc_M_sends 29) [(20, 1464, 0), (0, l, 0), (0, dr, 0), (0, kWhat g (10 + 265 * l), 0), (0, 5, 0), (2, 0, 0)] [] (zrow f 1465 g, t) = zD (true, q) (d + 5) zc_M_sends (zat zc_M_sends 50) [(20, 1464, 0), (0, l, 0), (0, dr, 0), (0, kWhat g (10 + 265 * l), 0), (0, 5, 0), (2, 0, 0)] [] (zrow f 1465 (kF1 g l (10 + 265 * l)), t) := by
  unfold kF1
  by_cases c : kWhat g (10 + 265 * l) = 3
  · have p8 : (zup1 (zup1 g (10 + 265 * l + 9) 1) (10 + 265 * l + 8) 0) 8 = g 8 := by rw [zup1_ne (by omega), zup1_ne (by omega)]
    rw [if_pos c, zb_M_sends_29, if_neg (fun z => z c), zb_M_sends_32, r_lays (by omega) (by omega) (by omega) (by omega), zK_v, zb_M_sends_37, r_lays (by omega) (by omega) (by omega) (by omega), zK_v, zb_M_sends_42, r_of (by omega) (by omega) (by omega) (by omega), zK_i, zup1_ne (show 10 + 265 * l + 7 ≠ 10 + 265 * l + 8 by omega), zup1_ne (show 10 + 265 * l + 7 ≠ 10 + 265 * l + 9 by omega), zb_M_sends_49, r_logs (by rw [p8]; exact g0) (by rw [p8]; exact g60), zK_v]
  · rw [if_neg c, zb_M_sends_29, if_pos c]
theorem rSent_fr {f : Int → Int → Int} {g : Int → Int} {B k : Int} : zFr f (rSent f g B k) := by
  refine ⟨fun o j h1 h2 h3 h4 h5 h6 => ?_, fun z => zB3_fr (fun k _ _ => ?_) z⟩
  · unfold rSent
    rw [zup_na h4, zup_na h4, zup_na h4, zup_na h4]
  · unfold rSent
    rw [zup_na (by decide), zup_na (by decide), zup_na (by decide), zup_na (by decide)]
theorem rSent_at {f : Int → Int → Int} {g : Int → Int} {B k : Int} : rSent f g B k 1472 0 = 2 ∧ rSent f g B k 1472 1 = g (B + (17 + 4 * k + 0)) ∧ rSent f g B k 1472 2 = g (B + (17 + 4 * k + 2)) ∧ rSent f g B k 1472 4 = g (B + (17 + 4 * k + 1)) := ⟨rfl, rfl, rfl, rfl⟩
theorem l_sndC {q : Int × (Int → Int)} {d : Nat} {f : Int → Int → Int} {t : (Int → Int) × Nat × Nat × Nat × (Int → Int → Bool)} {g : Int → Int} {l dr : Int} (hl : 0 ≤ l) (hl4 : l < 4) (hr : rLR g (10 + 265 * l)) (hf : f 1472 0 = 1 ∧ f 1472 1 = 0 ∧ f 1472 2 = 0 ∧ f 1472 4 = 0) : ∃ f1, zD (true, q) (d + 5) zc_M_sends (zat zc_M_sends 50) [(20, 1464, 0), (0, l, 0), (0, dr, 0), (0, kWhat g (10 + 265 * l), 0), (0, 5, 0), (2, 0, 0)] [] (zrow f 1465 (kF1 g l (10 + 265 * l)), t) = zD (true, q) (d + 5) zc_M_sends (zat zc_M_sends 78) [(20, 1464, 0), (0, l, 0), (0, dr, 0), (0, kWhat g (10 + 265 * l), 0), (0, kF1 g l (10 + 265 * l) (10 + 265 * l + 9), 0), (2, 0, 0)] [(0, kLen g l (10 + 265 * l), 0), (0, l, 0), (20, 1464, 0)] (zrow f1 1465 (kF2 g l (10 + 265 * l)), t) ∧ zFr f f1 ∧ (if kWhat g (10 + 265 * l) = 0 then f1 1472 0 = 1 ∧ f1 1472 1 = 0 ∧ f1 1472 2 = 0 ∧ f1 1472 4 = 0 else f1 1472 0 = 2 ∧ f1 1472 1 = kRow g l (10 + 265 * l) 0 ∧ f1 1472 2 = kRow g l (10 + 265 * l) 2 ∧ f1 1472 4 = kRow g l (10 + 265 * l) 1) := by
  obtain ⟨h_0, h_1, h_2, h_3, h_4, h_5, h_6, h_7, h_8, h_9, h_10, h_11, h_12, h_13, h_14, h_15, h_16⟩ := id hr
  obtain ⟨i_0, i_1, i_2, i_3, i_4, i_5, i_6, i_7, i_8, i_9, i_10, i_11, i_12, i_13, i_14, i_15, i_16⟩ := rLR_kF1 (l := l) (show 10 ≤ 10 + 265 * l by omega) (by omega) hr
  have hc : ∀ σ : zS, zD (true, q) (d + 5) zc_M_sends (zat zc_M_sends 54) [(20, 1464, 0), (0, l, 0), (0, dr, 0), (0, kWhat g (10 + 265 * l), 0), (0, 5, 0), (2, 0, 0)] [(0, kF1 g l (10 + 265 * l) (10 + 265 * l + 9), 0)] σ = (if kWhat g (10 + 265 * l) = 2 then zD (true, q) (d + 5) zc_M_sends (zat zc_M_sends 63) [(20, 1464, 0), (0, l, 0), (0, dr, 0), (0, kWhat g (10 + 265 * l), 0), (0, kF1 g l (10 + 265 * l) (10 + 265 * l + 9), 0), (2, 0, 0)] [] σ else zD (true, q) (d + 5) zc_M_sends (zat zc_M_sends 67) [(20, 1464, 0), (0, l, 0), (0, dr, 0), (0, kWhat g (10 + 265 * l), 0), (0, kF1 g l (10 + 265 * l) (10 + 265 * l + 9), 0), (2, 0, 0)] [] σ) := by
    intro σ
    by_cases c : kF1 g l (10 + 265 * l) (10 + 265 * l + 9) = 1
    · rw [zb_M_sends_54, if_neg (fun z => z c), zb_M_sends_56, c]
      by_cases c2 : kWhat g (10 + 265 * l) = 2
      · rw [if_neg (fun z => z c2), if_pos c2]
      · rw [if_pos c2, if_neg c2]
    · have c0 : kF1 g l (10 + 265 * l) (10 + 265 * l + 9) = 0 := by omega
      rw [zb_M_sends_54, if_pos c, zb_M_sends_58, c0]
      by_cases c2 : kWhat g (10 + 265 * l) = 2
      · rw [if_neg (fun z => z c2), if_pos c2]
      · rw [if_pos c2, if_neg c2]
  rw [zb_M_sends_50, r_of (by omega) (by omega) (by omega) (by omega), zK_i, hc]
  by_cases c2 : kWhat g (10 + 265 * l) = 2
  · obtain ⟨n0, _, k8, _, _, _⟩ := kWhat_2 hr c2
    have eF : kF1 g l (10 + 265 * l) = g := if_neg (by omega)
    have hat := rSent_at (f := f) (g := rNew g (10 + 265 * l)) (B := 10 + 265 * l) (k := g (10 + 265 * l + 7))
    refine ⟨rSent f (rNew g (10 + 265 * l)) (10 + 265 * l) (g (10 + 265 * l + 7)), ?_, rSent_fr, ?_⟩
    · unfold kF2 kLen kRow
      simp only [if_pos c2, eF]
      rw [zb_M_sends_63, r_sendsNew hl hl4 n0 h_6.2 h_7.1 k8 h_10.1 h_10.2, zK_v, zb_M_sends_66]
      simp only [Int.reduceAdd, zrow_ne (show (1472 : Int) ≠ 1465 by decide)]
      rw [zG2 (by omega) (by omega), hat.2.2.2, if_neg (show ¬ kWhat g (10 + 265 * l) = 0 by omega)]
    · rw [if_neg (by omega)]
      unfold kRow
      simp only [if_pos c2]
      exact hat
  · by_cases c0 : kWhat g (10 + 265 * l) = 0
    · have eF : kF1 g l (10 + 265 * l) = g := if_neg (by omega)
      refine ⟨f, ?_, zFr_refl, ?_⟩
      · unfold kF2 kLen
        simp only [if_neg c2, if_pos c0, eF]
        rw [zb_M_sends_67, if_pos (by omega), zb_M_sends_72, if_neg (show ¬ 0 < kWhat g (10 + 265 * l) by omega)]
        simp only [Int.reduceAdd, zrow_ne (show (1472 : Int) ≠ 1465 by decide)]
        rw [zG2 (by omega) (by omega), hf.2.2.2]
      · rw [if_pos c0]
        exact hf
    · have hw := kWhat_4 (g := g) (B := 10 + 265 * l)
      have hat := rSent_at (f := f) (g := kF1 g l (10 + 265 * l)) (B := 10 + 265 * l) (k := kF1 g l (10 + 265 * l) (10 + 265 * l + 8))
      refine ⟨rSent f (kF1 g l (10 + 265 * l)) (10 + 265 * l) (kF1 g l (10 + 265 * l) (10 + 265 * l + 8)), ?_, rSent_fr, ?_⟩
      · unfold kF2 kLen kRow
        simp only [if_neg c2, if_neg c0, if_pos (show 0 < kWhat g (10 + 265 * l) by omega)]
        rw [zb_M_sends_67, if_neg (by omega), zb_M_sends_69, r_sendsAtHand hl hl4 i_8.1 (by omega), zK_v, zb_M_sends_72]
        simp only [Int.reduceAdd, zrow_ne (show (1472 : Int) ≠ 1465 by decide)]
        rw [zG2 (by omega) (by omega), hat.2.2.2]
      · rw [if_neg c0]
        unfold kRow
        simp only [if_neg c2]
        exact hat
